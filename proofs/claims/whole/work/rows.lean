section
-- ===== PART A: goes FIRST, ahead of the names: the tables' words, and 'selects' of the private methods out of them =====
/-- a private method of a class that the tables say can be made, by its rows of tables_1 -/
def lw_okq (q : MethodName × Nat) : Prop := (q.1.cls ≠ "java/lang/invoke/MethodHandle" ∧ q.1.cls ≠ "java/lang/invoke/VarHandle") ∧ Cond.instantiable q.1.cls q.2 ∈ tables_1 ∧ Cond.privateMethod q.1 ∈ tables_1 ∧ Cond.instanceMethod q.1 ∈ tables_1
theorem lw_p0 : lw_okq (⟨"Wallcode", "fameOf", "(LWallcode$Hand;)I"⟩, 6) := ⟨⟨by decide +kernel, by decide +kernel⟩, List.mem_of_getElem? (i := 26) (by decide +kernel), List.mem_of_getElem? (i := 109) (by decide +kernel), List.mem_of_getElem? (i := 110) (by decide +kernel)⟩
theorem lw_p1 : lw_okq (⟨"Wallcode", "eyesoreOf", "(LWallcode$Wall;)I"⟩, 6) := ⟨⟨by decide +kernel, by decide +kernel⟩, List.mem_of_getElem? (i := 26) (by decide +kernel), List.mem_of_getElem? (i := 132) (by decide +kernel), List.mem_of_getElem? (i := 133) (by decide +kernel)⟩
theorem lw_p2 : lw_okq (⟨"Wallcode", "cellsToBuff", "(LWallcode$Wall;)I"⟩, 6) := ⟨⟨by decide +kernel, by decide +kernel⟩, List.mem_of_getElem? (i := 26) (by decide +kernel), List.mem_of_getElem? (i := 136) (by decide +kernel), List.mem_of_getElem? (i := 137) (by decide +kernel)⟩
theorem lw_p3 : lw_okq (⟨"Wallcode", "isToBuff", "(LWallcode$Wall;I)Z"⟩, 6) := ⟨⟨by decide +kernel, by decide +kernel⟩, List.mem_of_getElem? (i := 26) (by decide +kernel), List.mem_of_getElem? (i := 140) (by decide +kernel), List.mem_of_getElem? (i := 141) (by decide +kernel)⟩
theorem lw_p4 : lw_okq (⟨"Wallcode", "isPermitted", "(LWallcode$Hand;LWallcode$Wall;)Z"⟩, 6) := ⟨⟨by decide +kernel, by decide +kernel⟩, List.mem_of_getElem? (i := 26) (by decide +kernel), List.mem_of_getElem? (i := 144) (by decide +kernel), List.mem_of_getElem? (i := 145) (by decide +kernel)⟩
theorem lw_p5 : lw_okq (⟨"Wallcode", "layersSeen", "()I"⟩, 6) := ⟨⟨by decide +kernel, by decide +kernel⟩, List.mem_of_getElem? (i := 26) (by decide +kernel), List.mem_of_getElem? (i := 161) (by decide +kernel), List.mem_of_getElem? (i := 162) (by decide +kernel)⟩
theorem lw_p6 : lw_okq (⟨"Wallcode", "allWrongs", "()I"⟩, 6) := ⟨⟨by decide +kernel, by decide +kernel⟩, List.mem_of_getElem? (i := 26) (by decide +kernel), List.mem_of_getElem? (i := 178) (by decide +kernel), List.mem_of_getElem? (i := 179) (by decide +kernel)⟩
theorem lw_p7 : lw_okq (⟨"Wallcode", "knownHands", "()I"⟩, 6) := ⟨⟨by decide +kernel, by decide +kernel⟩, List.mem_of_getElem? (i := 26) (by decide +kernel), List.mem_of_getElem? (i := 186) (by decide +kernel), List.mem_of_getElem? (i := 187) (by decide +kernel)⟩
theorem lw_p8 : lw_okq (⟨"Wallcode", "allFines", "()I"⟩, 6) := ⟨⟨by decide +kernel, by decide +kernel⟩, List.mem_of_getElem? (i := 26) (by decide +kernel), List.mem_of_getElem? (i := 190) (by decide +kernel), List.mem_of_getElem? (i := 191) (by decide +kernel)⟩
theorem lw_p9 : lw_okq (⟨"Wallcode", "allOwed", "()I"⟩, 6) := ⟨⟨by decide +kernel, by decide +kernel⟩, List.mem_of_getElem? (i := 26) (by decide +kernel), List.mem_of_getElem? (i := 194) (by decide +kernel), List.mem_of_getElem? (i := 195) (by decide +kernel)⟩
theorem lw_p10 : lw_okq (⟨"Wallcode", "layersWithWrongSuspect", "()I"⟩, 6) := ⟨⟨by decide +kernel, by decide +kernel⟩, List.mem_of_getElem? (i := 26) (by decide +kernel), List.mem_of_getElem? (i := 198) (by decide +kernel), List.mem_of_getElem? (i := 199) (by decide +kernel)⟩
theorem lw_p11 : lw_okq (⟨"Wallcode", "suspectOf", "(LWallcode$Layer;)I"⟩, 6) := ⟨⟨by decide +kernel, by decide +kernel⟩, List.mem_of_getElem? (i := 26) (by decide +kernel), List.mem_of_getElem? (i := 202) (by decide +kernel), List.mem_of_getElem? (i := 203) (by decide +kernel)⟩
theorem lw_p12 : lw_okq (⟨"java/lang/Throwable", "fillInStackTrace", "(I)Ljava/lang/Throwable;"⟩, 6) := ⟨⟨by decide +kernel, by decide +kernel⟩, List.mem_of_getElem? (i := 255) (by decide +kernel), List.mem_of_getElem? (i := 253) (by decide +kernel), List.mem_of_getElem? (i := 254) (by decide +kernel)⟩
theorem lw_p13 : lw_okq (⟨"Wallcode", "mixedWithWall", "(JI)J"⟩, 6) := ⟨⟨by decide +kernel, by decide +kernel⟩, List.mem_of_getElem? (i := 26) (by decide +kernel), List.mem_of_getElem? (i := 289) (by decide +kernel), List.mem_of_getElem? (i := 290) (by decide +kernel)⟩
theorem lw_p14 : lw_okq (⟨"Wallcode", "wallAt", "(I)LWallcode$Wall;"⟩, 6) := ⟨⟨by decide +kernel, by decide +kernel⟩, List.mem_of_getElem? (i := 26) (by decide +kernel), List.mem_of_getElem? (i := 297) (by decide +kernel), List.mem_of_getElem? (i := 298) (by decide +kernel)⟩
theorem lw_p15 : lw_okq (⟨"Wallcode", "layersSeenOn", "(LWallcode$Wall;)I"⟩, 6) := ⟨⟨by decide +kernel, by decide +kernel⟩, List.mem_of_getElem? (i := 26) (by decide +kernel), List.mem_of_getElem? (i := 324) (by decide +kernel), List.mem_of_getElem? (i := 325) (by decide +kernel)⟩
def lw_privs_1 : List (MethodName × Nat) := [(⟨"Wallcode", "fameOf", "(LWallcode$Hand;)I"⟩, 6), (⟨"Wallcode", "eyesoreOf", "(LWallcode$Wall;)I"⟩, 6), (⟨"Wallcode", "cellsToBuff", "(LWallcode$Wall;)I"⟩, 6), (⟨"Wallcode", "isToBuff", "(LWallcode$Wall;I)Z"⟩, 6), (⟨"Wallcode", "isPermitted", "(LWallcode$Hand;LWallcode$Wall;)Z"⟩, 6), (⟨"Wallcode", "layersSeen", "()I"⟩, 6), (⟨"Wallcode", "allWrongs", "()I"⟩, 6), (⟨"Wallcode", "knownHands", "()I"⟩, 6), (⟨"Wallcode", "allFines", "()I"⟩, 6), (⟨"Wallcode", "allOwed", "()I"⟩, 6), (⟨"Wallcode", "layersWithWrongSuspect", "()I"⟩, 6), (⟨"Wallcode", "suspectOf", "(LWallcode$Layer;)I"⟩, 6), (⟨"java/lang/Throwable", "fillInStackTrace", "(I)Ljava/lang/Throwable;"⟩, 6), (⟨"Wallcode", "mixedWithWall", "(JI)J"⟩, 6), (⟨"Wallcode", "wallAt", "(I)LWallcode$Wall;"⟩, 6), (⟨"Wallcode", "layersSeenOn", "(LWallcode$Wall;)I"⟩, 6)]
theorem lw_r1 : ∀ q ∈ lw_privs_1, lw_okq q := List.forall_mem_cons.mpr ⟨lw_p0, List.forall_mem_cons.mpr ⟨lw_p1, List.forall_mem_cons.mpr ⟨lw_p2, List.forall_mem_cons.mpr ⟨lw_p3, List.forall_mem_cons.mpr ⟨lw_p4, List.forall_mem_cons.mpr ⟨lw_p5, List.forall_mem_cons.mpr ⟨lw_p6, List.forall_mem_cons.mpr ⟨lw_p7, List.forall_mem_cons.mpr ⟨lw_p8, List.forall_mem_cons.mpr ⟨lw_p9, List.forall_mem_cons.mpr ⟨lw_p10, List.forall_mem_cons.mpr ⟨lw_p11, List.forall_mem_cons.mpr ⟨lw_p12, List.forall_mem_cons.mpr ⟨lw_p13, List.forall_mem_cons.mpr ⟨lw_p14, List.forall_mem_cons.mpr ⟨lw_p15, fun _ h => absurd h List.not_mem_nil⟩⟩⟩⟩⟩⟩⟩⟩⟩⟩⟩⟩⟩⟩⟩⟩
theorem lw_p16 : lw_okq (⟨"Wallcode", "mixedWithHand", "(JI)J"⟩, 6) := ⟨⟨by decide +kernel, by decide +kernel⟩, List.mem_of_getElem? (i := 26) (by decide +kernel), List.mem_of_getElem? (i := 334) (by decide +kernel), List.mem_of_getElem? (i := 335) (by decide +kernel)⟩
theorem lw_p17 : lw_okq (⟨"Wallcode", "handAt", "(I)LWallcode$Hand;"⟩, 6) := ⟨⟨by decide +kernel, by decide +kernel⟩, List.mem_of_getElem? (i := 26) (by decide +kernel), List.mem_of_getElem? (i := 342) (by decide +kernel), List.mem_of_getElem? (i := 343) (by decide +kernel)⟩
theorem lw_p18 : lw_okq (⟨"Wallcode", "layersOf", "(LWallcode$Hand;)I"⟩, 6) := ⟨⟨by decide +kernel, by decide +kernel⟩, List.mem_of_getElem? (i := 26) (by decide +kernel), List.mem_of_getElem? (i := 351) (by decide +kernel), List.mem_of_getElem? (i := 352) (by decide +kernel)⟩
theorem lw_p19 : lw_okq (⟨"Wallcode", "layersSeenOf", "(LWallcode$Hand;)I"⟩, 6) := ⟨⟨by decide +kernel, by decide +kernel⟩, List.mem_of_getElem? (i := 26) (by decide +kernel), List.mem_of_getElem? (i := 355) (by decide +kernel), List.mem_of_getElem? (i := 356) (by decide +kernel)⟩
theorem lw_p20 : lw_okq (⟨"Wallcode", "wrongsSufferedBy", "(LWallcode$Hand;)I"⟩, 6) := ⟨⟨by decide +kernel, by decide +kernel⟩, List.mem_of_getElem? (i := 26) (by decide +kernel), List.mem_of_getElem? (i := 359) (by decide +kernel), List.mem_of_getElem? (i := 360) (by decide +kernel)⟩
theorem lw_p21 : lw_okq (⟨"Wallcode", "willBeCleaned", "(LWallcode$Wall;I)Z"⟩, 6) := ⟨⟨by decide +kernel, by decide +kernel⟩, List.mem_of_getElem? (i := 26) (by decide +kernel), List.mem_of_getElem? (i := 373) (by decide +kernel), List.mem_of_getElem? (i := 374) (by decide +kernel)⟩
theorem lw_p22 : lw_okq (⟨"Wallcode", "layerAt", "(I)LWallcode$Layer;"⟩, 6) := ⟨⟨by decide +kernel, by decide +kernel⟩, List.mem_of_getElem? (i := 26) (by decide +kernel), List.mem_of_getElem? (i := 385) (by decide +kernel), List.mem_of_getElem? (i := 386) (by decide +kernel)⟩
theorem lw_p23 : lw_okq (⟨"Wallcode", "priceOf", "(LWallcode$Layer;)I"⟩, 6) := ⟨⟨by decide +kernel, by decide +kernel⟩, List.mem_of_getElem? (i := 26) (by decide +kernel), List.mem_of_getElem? (i := 391) (by decide +kernel), List.mem_of_getElem? (i := 392) (by decide +kernel)⟩
theorem lw_p24 : lw_okq (⟨"Wallcode", "countWrongs", "(LWallcode$Hand;LWallcode$Wall;III)I"⟩, 6) := ⟨⟨by decide +kernel, by decide +kernel⟩, List.mem_of_getElem? (i := 26) (by decide +kernel), List.mem_of_getElem? (i := 406) (by decide +kernel), List.mem_of_getElem? (i := 407) (by decide +kernel)⟩
theorem lw_p25 : lw_okq (⟨"Wallcode", "wrongedAt", "(LWallcode$Hand;LWallcode$Wall;III)LWallcode$Hand;"⟩, 6) := ⟨⟨by decide +kernel, by decide +kernel⟩, List.mem_of_getElem? (i := 26) (by decide +kernel), List.mem_of_getElem? (i := 410) (by decide +kernel), List.mem_of_getElem? (i := 411) (by decide +kernel)⟩
theorem lw_p26 : lw_okq (⟨"Wallcode", "isWronged", "(LWallcode$Hand;LWallcode$Wall;LWallcode$Layer;I)Z"⟩, 6) := ⟨⟨by decide +kernel, by decide +kernel⟩, List.mem_of_getElem? (i := 26) (by decide +kernel), List.mem_of_getElem? (i := 418) (by decide +kernel), List.mem_of_getElem? (i := 419) (by decide +kernel)⟩
theorem lw_p27 : lw_okq (⟨"java/util/ArrayList", "add", "(Ljava/lang/Object;[Ljava/lang/Object;I)V"⟩, 3) := ⟨⟨by decide +kernel, by decide +kernel⟩, List.mem_of_getElem? (i := 34) (by decide +kernel), List.mem_of_getElem? (i := 504) (by decide +kernel), List.mem_of_getElem? (i := 505) (by decide +kernel)⟩
theorem lw_p28 : lw_okq (⟨"java/util/ArrayList", "grow", "()[Ljava/lang/Object;"⟩, 3) := ⟨⟨by decide +kernel, by decide +kernel⟩, List.mem_of_getElem? (i := 34) (by decide +kernel), List.mem_of_getElem? (i := 508) (by decide +kernel), List.mem_of_getElem? (i := 509) (by decide +kernel)⟩
theorem lw_p29 : lw_okq (⟨"java/util/ArrayList", "grow", "(I)[Ljava/lang/Object;"⟩, 3) := ⟨⟨by decide +kernel, by decide +kernel⟩, List.mem_of_getElem? (i := 34) (by decide +kernel), List.mem_of_getElem? (i := 512) (by decide +kernel), List.mem_of_getElem? (i := 513) (by decide +kernel)⟩
theorem lw_p30 : lw_okq (⟨"Wallcode", "doWrongs", "(LWallcode$Hand;LWallcode$Wall;III)I"⟩, 6) := ⟨⟨by decide +kernel, by decide +kernel⟩, List.mem_of_getElem? (i := 26) (by decide +kernel), List.mem_of_getElem? (i := 656) (by decide +kernel), List.mem_of_getElem? (i := 657) (by decide +kernel)⟩
theorem lw_p31 : lw_okq (⟨"Wallcode", "goOneNightOn", "()I"⟩, 6) := ⟨⟨by decide +kernel, by decide +kernel⟩, List.mem_of_getElem? (i := 26) (by decide +kernel), List.mem_of_getElem? (i := 789) (by decide +kernel), List.mem_of_getElem? (i := 790) (by decide +kernel)⟩
def lw_privs_2 : List (MethodName × Nat) := [(⟨"Wallcode", "mixedWithHand", "(JI)J"⟩, 6), (⟨"Wallcode", "handAt", "(I)LWallcode$Hand;"⟩, 6), (⟨"Wallcode", "layersOf", "(LWallcode$Hand;)I"⟩, 6), (⟨"Wallcode", "layersSeenOf", "(LWallcode$Hand;)I"⟩, 6), (⟨"Wallcode", "wrongsSufferedBy", "(LWallcode$Hand;)I"⟩, 6), (⟨"Wallcode", "willBeCleaned", "(LWallcode$Wall;I)Z"⟩, 6), (⟨"Wallcode", "layerAt", "(I)LWallcode$Layer;"⟩, 6), (⟨"Wallcode", "priceOf", "(LWallcode$Layer;)I"⟩, 6), (⟨"Wallcode", "countWrongs", "(LWallcode$Hand;LWallcode$Wall;III)I"⟩, 6), (⟨"Wallcode", "wrongedAt", "(LWallcode$Hand;LWallcode$Wall;III)LWallcode$Hand;"⟩, 6), (⟨"Wallcode", "isWronged", "(LWallcode$Hand;LWallcode$Wall;LWallcode$Layer;I)Z"⟩, 6), (⟨"java/util/ArrayList", "add", "(Ljava/lang/Object;[Ljava/lang/Object;I)V"⟩, 3), (⟨"java/util/ArrayList", "grow", "()[Ljava/lang/Object;"⟩, 3), (⟨"java/util/ArrayList", "grow", "(I)[Ljava/lang/Object;"⟩, 3), (⟨"Wallcode", "doWrongs", "(LWallcode$Hand;LWallcode$Wall;III)I"⟩, 6), (⟨"Wallcode", "goOneNightOn", "()I"⟩, 6)]
theorem lw_r2 : ∀ q ∈ lw_privs_2, lw_okq q := List.forall_mem_cons.mpr ⟨lw_p16, List.forall_mem_cons.mpr ⟨lw_p17, List.forall_mem_cons.mpr ⟨lw_p18, List.forall_mem_cons.mpr ⟨lw_p19, List.forall_mem_cons.mpr ⟨lw_p20, List.forall_mem_cons.mpr ⟨lw_p21, List.forall_mem_cons.mpr ⟨lw_p22, List.forall_mem_cons.mpr ⟨lw_p23, List.forall_mem_cons.mpr ⟨lw_p24, List.forall_mem_cons.mpr ⟨lw_p25, List.forall_mem_cons.mpr ⟨lw_p26, List.forall_mem_cons.mpr ⟨lw_p27, List.forall_mem_cons.mpr ⟨lw_p28, List.forall_mem_cons.mpr ⟨lw_p29, List.forall_mem_cons.mpr ⟨lw_p30, List.forall_mem_cons.mpr ⟨lw_p31, fun _ h => absurd h List.not_mem_nil⟩⟩⟩⟩⟩⟩⟩⟩⟩⟩⟩⟩⟩⟩⟩⟩
theorem lw_p32 : lw_okq (⟨"WallcodeModel", "start", "(ZI)Z"⟩, 7) := ⟨⟨by decide +kernel, by decide +kernel⟩, List.mem_of_getElem? (i := 839) (by decide +kernel), List.mem_of_getElem? (i := 880) (by decide +kernel), List.mem_of_getElem? (i := 881) (by decide +kernel)⟩
theorem lw_p33 : lw_okq (⟨"WallcodeModel", "refuse", "(ZI)Z"⟩, 7) := ⟨⟨by decide +kernel, by decide +kernel⟩, List.mem_of_getElem? (i := 839) (by decide +kernel), List.mem_of_getElem? (i := 884) (by decide +kernel), List.mem_of_getElem? (i := 885) (by decide +kernel)⟩
theorem lw_p34 : lw_okq (⟨"WallcodeModel", "isNoWall", "(I)Z"⟩, 7) := ⟨⟨by decide +kernel, by decide +kernel⟩, List.mem_of_getElem? (i := 839) (by decide +kernel), List.mem_of_getElem? (i := 978) (by decide +kernel), List.mem_of_getElem? (i := 979) (by decide +kernel)⟩
theorem lw_p35 : lw_okq (⟨"WallcodeModel", "isNoHand", "(I)Z"⟩, 7) := ⟨⟨by decide +kernel, by decide +kernel⟩, List.mem_of_getElem? (i := 839) (by decide +kernel), List.mem_of_getElem? (i := 995) (by decide +kernel), List.mem_of_getElem? (i := 996) (by decide +kernel)⟩
theorem lw_p36 : lw_okq (⟨"WallcodeModel", "isNoPlace", "(III)Z"⟩, 7) := ⟨⟨by decide +kernel, by decide +kernel⟩, List.mem_of_getElem? (i := 839) (by decide +kernel), List.mem_of_getElem? (i := 999) (by decide +kernel), List.mem_of_getElem? (i := 1000) (by decide +kernel)⟩
theorem lw_p37 : lw_okq (⟨"WallcodeModel", "isLegal", "(II)Z"⟩, 7) := ⟨⟨by decide +kernel, by decide +kernel⟩, List.mem_of_getElem? (i := 839) (by decide +kernel), List.mem_of_getElem? (i := 1009) (by decide +kernel), List.mem_of_getElem? (i := 1010) (by decide +kernel)⟩
theorem lw_p38 : lw_okq (⟨"WallcodeModel", "wrongsOf", "(IIIII)I"⟩, 7) := ⟨⟨by decide +kernel, by decide +kernel⟩, List.mem_of_getElem? (i := 839) (by decide +kernel), List.mem_of_getElem? (i := 1013) (by decide +kernel), List.mem_of_getElem? (i := 1014) (by decide +kernel)⟩
theorem lw_p39 : lw_okq (⟨"WallcodeModel", "isWrong", "(IIZLWallcodeModel$Layer;)Z"⟩, 7) := ⟨⟨by decide +kernel, by decide +kernel⟩, List.mem_of_getElem? (i := 839) (by decide +kernel), List.mem_of_getElem? (i := 1021) (by decide +kernel), List.mem_of_getElem? (i := 1022) (by decide +kernel)⟩
theorem lw_p40 : lw_okq (⟨"WallcodeModel", "buffs", "(I)I"⟩, 7) := ⟨⟨by decide +kernel, by decide +kernel⟩, List.mem_of_getElem? (i := 839) (by decide +kernel), List.mem_of_getElem? (i := 1081) (by decide +kernel), List.mem_of_getElem? (i := 1082) (by decide +kernel)⟩
theorem lw_p41 : lw_okq (⟨"WallcodeModel", "isBuffed", "(II)Z"⟩, 7) := ⟨⟨by decide +kernel, by decide +kernel⟩, List.mem_of_getElem? (i := 839) (by decide +kernel), List.mem_of_getElem? (i := 1085) (by decide +kernel), List.mem_of_getElem? (i := 1086) (by decide +kernel)⟩
theorem lw_p42 : lw_okq (⟨"WallcodeModel", "isNoLayer", "(I)Z"⟩, 7) := ⟨⟨by decide +kernel, by decide +kernel⟩, List.mem_of_getElem? (i := 839) (by decide +kernel), List.mem_of_getElem? (i := 1107) (by decide +kernel), List.mem_of_getElem? (i := 1108) (by decide +kernel)⟩
theorem lw_p43 : lw_okq (⟨"WallcodeModel", "seen", "(I)I"⟩, 7) := ⟨⟨by decide +kernel, by decide +kernel⟩, List.mem_of_getElem? (i := 839) (by decide +kernel), List.mem_of_getElem? (i := 1111) (by decide +kernel), List.mem_of_getElem? (i := 1112) (by decide +kernel)⟩
theorem lw_p44 : lw_okq (⟨"WallcodeModel", "price", "(I)I"⟩, 7) := ⟨⟨by decide +kernel, by decide +kernel⟩, List.mem_of_getElem? (i := 839) (by decide +kernel), List.mem_of_getElem? (i := 1116) (by decide +kernel), List.mem_of_getElem? (i := 1117) (by decide +kernel)⟩
theorem lw_p45 : lw_okq (⟨"WallcodeModel", "fame", "(I)I"⟩, 7) := ⟨⟨by decide +kernel, by decide +kernel⟩, List.mem_of_getElem? (i := 839) (by decide +kernel), List.mem_of_getElem? (i := 1120) (by decide +kernel), List.mem_of_getElem? (i := 1121) (by decide +kernel)⟩
theorem lw_p46 : lw_okq (⟨"WallcodeModel", "ofWallNow", "(II)I"⟩, 7) := ⟨⟨by decide +kernel, by decide +kernel⟩, List.mem_of_getElem? (i := 839) (by decide +kernel), List.mem_of_getElem? (i := 1190) (by decide +kernel), List.mem_of_getElem? (i := 1191) (by decide +kernel)⟩
theorem lw_p47 : lw_okq (⟨"WallcodeModel", "layersOn", "(I)I"⟩, 7) := ⟨⟨by decide +kernel, by decide +kernel⟩, List.mem_of_getElem? (i := 839) (by decide +kernel), List.mem_of_getElem? (i := 1194) (by decide +kernel), List.mem_of_getElem? (i := 1195) (by decide +kernel)⟩
def lw_privs_3 : List (MethodName × Nat) := [(⟨"WallcodeModel", "start", "(ZI)Z"⟩, 7), (⟨"WallcodeModel", "refuse", "(ZI)Z"⟩, 7), (⟨"WallcodeModel", "isNoWall", "(I)Z"⟩, 7), (⟨"WallcodeModel", "isNoHand", "(I)Z"⟩, 7), (⟨"WallcodeModel", "isNoPlace", "(III)Z"⟩, 7), (⟨"WallcodeModel", "isLegal", "(II)Z"⟩, 7), (⟨"WallcodeModel", "wrongsOf", "(IIIII)I"⟩, 7), (⟨"WallcodeModel", "isWrong", "(IIZLWallcodeModel$Layer;)Z"⟩, 7), (⟨"WallcodeModel", "buffs", "(I)I"⟩, 7), (⟨"WallcodeModel", "isBuffed", "(II)Z"⟩, 7), (⟨"WallcodeModel", "isNoLayer", "(I)Z"⟩, 7), (⟨"WallcodeModel", "seen", "(I)I"⟩, 7), (⟨"WallcodeModel", "price", "(I)I"⟩, 7), (⟨"WallcodeModel", "fame", "(I)I"⟩, 7), (⟨"WallcodeModel", "ofWallNow", "(II)I"⟩, 7), (⟨"WallcodeModel", "layersOn", "(I)I"⟩, 7)]
theorem lw_r3 : ∀ q ∈ lw_privs_3, lw_okq q := List.forall_mem_cons.mpr ⟨lw_p32, List.forall_mem_cons.mpr ⟨lw_p33, List.forall_mem_cons.mpr ⟨lw_p34, List.forall_mem_cons.mpr ⟨lw_p35, List.forall_mem_cons.mpr ⟨lw_p36, List.forall_mem_cons.mpr ⟨lw_p37, List.forall_mem_cons.mpr ⟨lw_p38, List.forall_mem_cons.mpr ⟨lw_p39, List.forall_mem_cons.mpr ⟨lw_p40, List.forall_mem_cons.mpr ⟨lw_p41, List.forall_mem_cons.mpr ⟨lw_p42, List.forall_mem_cons.mpr ⟨lw_p43, List.forall_mem_cons.mpr ⟨lw_p44, List.forall_mem_cons.mpr ⟨lw_p45, List.forall_mem_cons.mpr ⟨lw_p46, List.forall_mem_cons.mpr ⟨lw_p47, fun _ h => absurd h List.not_mem_nil⟩⟩⟩⟩⟩⟩⟩⟩⟩⟩⟩⟩⟩⟩⟩⟩
theorem lw_p48 : lw_okq (⟨"WallcodeModel", "ofHandNow", "(II)I"⟩, 7) := ⟨⟨by decide +kernel, by decide +kernel⟩, List.mem_of_getElem? (i := 839) (by decide +kernel), List.mem_of_getElem? (i := 1206) (by decide +kernel), List.mem_of_getElem? (i := 1207) (by decide +kernel)⟩
theorem lw_p49 : lw_okq (⟨"WallcodeModel", "layersOf", "(IZ)I"⟩, 7) := ⟨⟨by decide +kernel, by decide +kernel⟩, List.mem_of_getElem? (i := 839) (by decide +kernel), List.mem_of_getElem? (i := 1210) (by decide +kernel), List.mem_of_getElem? (i := 1211) (by decide +kernel)⟩
theorem lw_p50 : lw_okq (⟨"WallcodeModel", "wrongsOf", "(IZ)I"⟩, 7) := ⟨⟨by decide +kernel, by decide +kernel⟩, List.mem_of_getElem? (i := 839) (by decide +kernel), List.mem_of_getElem? (i := 1214) (by decide +kernel), List.mem_of_getElem? (i := 1215) (by decide +kernel)⟩
theorem lw_p51 : lw_okq (⟨"WallcodeModel", "ofLayerNow", "(II)I"⟩, 7) := ⟨⟨by decide +kernel, by decide +kernel⟩, List.mem_of_getElem? (i := 839) (by decide +kernel), List.mem_of_getElem? (i := 1222) (by decide +kernel), List.mem_of_getElem? (i := 1223) (by decide +kernel)⟩
theorem lw_p52 : lw_okq (⟨"WallcodeModel", "suspect", "(LWallcodeModel$Layer;)I"⟩, 7) := ⟨⟨by decide +kernel, by decide +kernel⟩, List.mem_of_getElem? (i := 839) (by decide +kernel), List.mem_of_getElem? (i := 1226) (by decide +kernel), List.mem_of_getElem? (i := 1227) (by decide +kernel)⟩
theorem lw_p53 : lw_okq (⟨"WallcodeModel", "manyNow", "(I)I"⟩, 7) := ⟨⟨by decide +kernel, by decide +kernel⟩, List.mem_of_getElem? (i := 839) (by decide +kernel), List.mem_of_getElem? (i := 1243) (by decide +kernel), List.mem_of_getElem? (i := 1244) (by decide +kernel)⟩
theorem lw_p54 : lw_okq (⟨"WallcodeModel", "seenLayers", "(Z)I"⟩, 7) := ⟨⟨by decide +kernel, by decide +kernel⟩, List.mem_of_getElem? (i := 839) (by decide +kernel), List.mem_of_getElem? (i := 1247) (by decide +kernel), List.mem_of_getElem? (i := 1248) (by decide +kernel)⟩
theorem lw_p55 : lw_okq (⟨"WallcodeModel", "ofHands", "(I)I"⟩, 7) := ⟨⟨by decide +kernel, by decide +kernel⟩, List.mem_of_getElem? (i := 839) (by decide +kernel), List.mem_of_getElem? (i := 1251) (by decide +kernel), List.mem_of_getElem? (i := 1252) (by decide +kernel)⟩
theorem lw_p56 : lw_okq (⟨"WallcodeModel", "bestFromNow", "(IIII)I"⟩, 7) := ⟨⟨by decide +kernel, by decide +kernel⟩, List.mem_of_getElem? (i := 839) (by decide +kernel), List.mem_of_getElem? (i := 1264) (by decide +kernel), List.mem_of_getElem? (i := 1265) (by decide +kernel)⟩
theorem lw_p57 : lw_okq (⟨"WallcodeModel", "gains", "(IIIII)I"⟩, 7) := ⟨⟨by decide +kernel, by decide +kernel⟩, List.mem_of_getElem? (i := 839) (by decide +kernel), List.mem_of_getElem? (i := 1268) (by decide +kernel), List.mem_of_getElem? (i := 1269) (by decide +kernel)⟩
theorem lw_p58 : lw_okq (⟨"WallcodeModel", "nextBuffNow", "()I"⟩, 7) := ⟨⟨by decide +kernel, by decide +kernel⟩, List.mem_of_getElem? (i := 839) (by decide +kernel), List.mem_of_getElem? (i := 1280) (by decide +kernel), List.mem_of_getElem? (i := 1281) (by decide +kernel)⟩
theorem lw_p59 : lw_okq (⟨"WallcodeModel", "wouldFameNow", "(II)I"⟩, 7) := ⟨⟨by decide +kernel, by decide +kernel⟩, List.mem_of_getElem? (i := 839) (by decide +kernel), List.mem_of_getElem? (i := 1288) (by decide +kernel), List.mem_of_getElem? (i := 1289) (by decide +kernel)⟩
theorem lw_p60 : lw_okq (⟨"WallcodeModel", "isCleaned", "(LWallcodeModel$Wall;I)Z"⟩, 7) := ⟨⟨by decide +kernel, by decide +kernel⟩, List.mem_of_getElem? (i := 839) (by decide +kernel), List.mem_of_getElem? (i := 1292) (by decide +kernel), List.mem_of_getElem? (i := 1293) (by decide +kernel)⟩
def lw_privs_4 : List (MethodName × Nat) := [(⟨"WallcodeModel", "ofHandNow", "(II)I"⟩, 7), (⟨"WallcodeModel", "layersOf", "(IZ)I"⟩, 7), (⟨"WallcodeModel", "wrongsOf", "(IZ)I"⟩, 7), (⟨"WallcodeModel", "ofLayerNow", "(II)I"⟩, 7), (⟨"WallcodeModel", "suspect", "(LWallcodeModel$Layer;)I"⟩, 7), (⟨"WallcodeModel", "manyNow", "(I)I"⟩, 7), (⟨"WallcodeModel", "seenLayers", "(Z)I"⟩, 7), (⟨"WallcodeModel", "ofHands", "(I)I"⟩, 7), (⟨"WallcodeModel", "bestFromNow", "(IIII)I"⟩, 7), (⟨"WallcodeModel", "gains", "(IIIII)I"⟩, 7), (⟨"WallcodeModel", "nextBuffNow", "()I"⟩, 7), (⟨"WallcodeModel", "wouldFameNow", "(II)I"⟩, 7), (⟨"WallcodeModel", "isCleaned", "(LWallcodeModel$Wall;I)Z"⟩, 7)]
theorem lw_r4 : ∀ q ∈ lw_privs_4, lw_okq q := List.forall_mem_cons.mpr ⟨lw_p48, List.forall_mem_cons.mpr ⟨lw_p49, List.forall_mem_cons.mpr ⟨lw_p50, List.forall_mem_cons.mpr ⟨lw_p51, List.forall_mem_cons.mpr ⟨lw_p52, List.forall_mem_cons.mpr ⟨lw_p53, List.forall_mem_cons.mpr ⟨lw_p54, List.forall_mem_cons.mpr ⟨lw_p55, List.forall_mem_cons.mpr ⟨lw_p56, List.forall_mem_cons.mpr ⟨lw_p57, List.forall_mem_cons.mpr ⟨lw_p58, List.forall_mem_cons.mpr ⟨lw_p59, List.forall_mem_cons.mpr ⟨lw_p60, fun _ h => absurd h List.not_mem_nil⟩⟩⟩⟩⟩⟩⟩⟩⟩⟩⟩⟩⟩
def lw_privs : List (MethodName × Nat) := lw_privs_1 ++ (lw_privs_2 ++ (lw_privs_3 ++ (lw_privs_4)))
def lw_tbl : List Cond := k2_sels lw_privs ++ tables_1
theorem lw_privs_ok : ∀ q ∈ lw_privs, lw_okq q := by
  show ∀ q ∈ lw_privs_1 ++ (lw_privs_2 ++ (lw_privs_3 ++ (lw_privs_4))), lw_okq q
  exact List.forall_mem_append.mpr ⟨lw_r1, List.forall_mem_append.mpr ⟨lw_r2, List.forall_mem_append.mpr ⟨lw_r3, lw_r4⟩⟩⟩
/-- the streams that the claim lets the run draw from -/
abbrev lw_cs : List Choice := [Jvm.Choice.named "NaN.bits"]
theorem lw_bits : nanBits ∈ lw_cs := by first | decide | exact List.mem_cons_self | simp [lw_cs, nanBits]
end
section
/-! ===== BEGIN words of one list among another's, by their places ===== -/
theorem goodIn_r {big : List Cond} (ws : List Cond) (ps : List Nat) (hp : ws = ps.filterMap (fun i => big[i]?)) (h : ws.all goodWord = true) : GoodIn big ws := by
  intro w hw
  have h1 := List.all_eq_true.mp h w hw
  rw [hp] at hw
  obtain ⟨i, -, hi⟩ := List.mem_filterMap.mp hw
  have hm : w ∈ big := by first | exact List.mem_of_getElem? hi | exact List.getElem?_mem hi
  exact ⟨hm, good_of_word h1⟩
theorem goodIn_app {big a b : List Cond} (ha : GoodIn big a) (hb : GoodIn big b) : GoodIn big (a ++ b) := fun w h => (List.mem_append.mp h).elim (ha w) (hb w)
theorem goodIn_ca {big a b : List Cond} {c : Cond} (ha : GoodIn big (c :: a)) (hb : GoodIn big b) : GoodIn big (c :: (a ++ b)) := fun w h => (List.mem_cons.mp h).elim (fun e => ha w (List.mem_cons.mpr (Or.inl e))) (fun h => (List.mem_append.mp h).elim (fun h => ha w (List.mem_cons.mpr (Or.inr h))) (hb w))
theorem goodIn_sub {big ws : List Cond} (hm : ∀ w ∈ ws, w ∈ big) (h : ws.all goodWord = true) : GoodIn big ws := fun w hw => ⟨hm w hw, good_of_word (List.all_eq_true.mp h w hw)⟩
/-! ===== END ===== -/

/-! ===== BEGIN exceptions that leave a method, and their catching by the caller (launches without stack traces) ===== -/
section VXA
/-! The laws vx_back, vx_callV, vx_callS, vx_callSW, vx_throw0, vx_throwS follow proofs of the library, with one case more: JvmDerived/Free/Laws.lean (Back.of_free), Shelf42/LK1.lean (callV, callS), Shelf/KitTraced.lean (throwNew0V, throwNewS). -/
/-- where a method has thrown q: the class by its name, the cell, what was written, the world -/
def vx_T (XC : String → State → State → Prop) (st : State) (q : Addr) (t : State) (mc ms : Nat) (free : Addr → Prop) : Prop :=
  ∃ (E : String) (ce : Cell) (L : List Loc), XC E st t ∧ t.heap[q]? = some ce ∧ ce.vm = .none ∧ st.vm.findClass E = some ce.cls ∧ st.WarmedH t.vm ∧ st.sameButNew ({ t with vm := st.vm } : State) L mc ms ∧ ∀ z ∈ L, free z.base
def vx_Q (Qc : Array Value → State → Outcome → State → Prop) (XC : String → State → State → Prop) (mc ms : Nat) (free : Addr → Prop) : Array Value → State → Outcome → State → Prop := fun a st o t =>
  (Qc a st o t ∧ ∃ L, FrameEnd st o t L mc ms ∧ ∀ q ∈ L, free q.base) ∨ ∃ q, o = .threw q ∧ vx_T XC st q t mc ms free
/-- a callee that returns or throws -/
def vx_Met (l : Launch) (y : MethodName) (ws : List Cond) (rm : Room) (Pc : Array Value → State → Prop) (Qc : Array Value → State → Outcome → State → Prop) (XC : String → State → State → Prop) (mc ms : Nat) (free : Addr → Prop) : Prop :=
  MetFree l y (headSpec ws rm) Pc (fun _ _ _ _ _ => True) (vx_Q Qc XC mc ms free)
def vx_Post (XC : String → State → State → Prop) (mc ms : Nat) (free : Addr → Prop) : Pt → Array Value → Addr → Pt → Prop := fun A a q B =>
  ∃ (g : JFrame) (mk : MethodId) (t : State) (L : List Loc) (E : String) (ce : Cell), B.U.heap = t.heap ∧ B.U.vm = t.vm ∧ XC E (A.U.calling g mk a) t ∧ t.heap[q]? = some ce ∧ ce.vm = .none ∧ A.U.vm.findClass E = some ce.cls ∧ B.locs = A.locs ++ L ∧ (∀ z ∈ L, free z.base) ∧ B.cells = A.cells + mc ∧ B.slots = A.slots + ms
def vx_Back (l : Launch) (R : Room) (p : Program) (e : Env) (below : List Frame) (s : State) (sargs : Array Value) (y : MethodName) (len W9 : Nat)
    (Pre : Pt → Array Value → Prop) (Post : Pt → Array Value → Option Value → Pt → Prop) (PostX : Pt → Array Value → Addr → Pt → Prop) : Prop :=
  ∀ (m : MethodId) (meth : Method) (c : Code) (A : Pt) (g : JFrame) (ig : Instr) (mk : MethodId) (a : Array Value),
    Stand p l e R s m sargs below meth c A.U A.locs A.cells A.slots → g.method = m → g.locals.size = c.maxLocals → decode c.code g.pc = .ok (ig, len) →
    2 * g.monitorRoom + (g.stack.map fun v => v.category).sum ≤ W9 → A.U.methodNamed? y = some mk → Pre A a →
    (∃ (v : Option Value) (B : Pt), Stand p l e R s m sargs below meth c B.U B.locs B.cells B.slots ∧ Post A a v B ∧
      Steps p.tables e below (doInvoke e (A.U.setTop g) [] mk a).1 (B.U.setTop { g with pc := g.pc + len, stack := v.toList ++ g.stack })) ∨
    (∃ (q : Addr) (B : Pt), Stand p l e R s m sargs below meth c B.U B.locs B.cells B.slots ∧ PostX A a q B ∧
      Steps p.tables e below (doInvoke e (A.U.setTop g) [] mk a).1 ((B.U.setTop g).pushFrame (.throwing q)))
section Payer
variable {l : Launch} {R : Room} {p : Program} {e : Env} {below : List Frame} {s : State} {sargs : Array Value} {y : MethodName} {len W9 : Nat}
theorem vx_back {ws : List Cond} {rm : Room} {Pc : Array Value → State → Prop} {Qc : Array Value → State → Outcome → State → Prop} {XC : String → State → State → Prop} {mc ms : Nat} {free : Addr → Prop} {bytes : ByteArray} {maxL : Nat} {ret : Option FieldType}
    (hM : vx_Met l y ws rm Pc Qc XC mc ms free) (hblind : FrameBlind Pc) (hrc : rm.cells = mc) (hrs : rm.slots = ms)
    (hframes : rm.frames + 1 ≤ R.frames) (hlocals : W9 + (maxL + 11) + rm.locals ≤ R.locals)
    (hws : ∀ w ∈ ws, ∀ a' U, s.WarmedH U.vm → w.before a' U = true) (hcode : Cond.code y bytes maxL ret ∈ ws) (hinit : ∀ a' U, s.WarmedH U.vm → (Cond.initialized y.cls).before a' U = true) :
    vx_Back l R p e below s sargs y len W9 (PreOf R mc ms Pc) (PostOf Qc mc ms free) (vx_Post XC mc ms free) := by
  intro m meth c A g ig mk a X hg hsize hdg hW hn hp
  have h1 : (headSpec ws rm).pre.before a A.U = true := atoms_intro fun w hw => hws w hw _ _ X.warmed
  have h2 : (Cond.code y bytes maxL ret).before a A.U = true := hws _ hcode _ _ X.warmed
  have h3 : (Cond.initialized y.cls).before a A.U = true := hinit _ _ X.warmed
  have h4 : A.cells + (headSpec ws rm).room.cells ≤ R.cells := by rw [show (headSpec ws rm).room.cells = mc from hrc]; exact hp.1
  have h5 : A.slots + (headSpec ws rm).room.slots ≤ R.slots := by rw [show (headSpec ws rm).room.slots = ms from hrs]; exact hp.2.1
  have hPc : Pc a (A.U.calling g mk a) := hblind _ _ _ _ hp.2.2
  obtain ⟨U, Ls, c0, s0⟩ := A
  dsimp only [Pt.U, Pt.locs, Pt.cells, Pt.slots] at h1 h2 h3 h4 h5 X hn hPc ⊢
  obtain ⟨methY, cY, hmY, hcY, -, hlY, -, -, -, -⟩ := Cond.code_spec hn h2
  obtain ⟨kY, hkY, -⟩ := className_of_methodNamed hn
  have hinitY : kY.init = .initialized := Cond.initialized_spec (findClass_of_methodNamed hn) hkY h3
  have h : At U g.method c below := by rw [hg]; exact X.here
  have hlocals9 : W9 + (maxL + 11) + (headSpec ws rm).room.locals ≤ R.locals := hlocals
  have happ : (headSpec ws rm).appliesLoose y e.platform (U.calling g mk a) = true :=
    Spec.appliesLoose_calling (g := g) h hdg hn hkY hinitY
      (X.room_calling (g := g) (R' := (headSpec ws rm).room) hsize hmY hcY hframes (by rw [hlY]; omega) h4 h5) h1
  obtain ⟨mid, hmid⟩ := h.above
  have hfr : (U.setTop g).frames = (.java g :: mid) ++ below := by rw [State.frames_setTop' g h.top, hmid]; rfl
  obtain ⟨o, s₂, hsteps, -, hend, hq⟩ := Steps.callFree hM p X.admits X.cas X.clock (acts := []) hfr happ hPc trivial
  have hq' : vx_Q Qc XC mc ms free a (U.calling g mk a) o s₂ := hq
  rw [State.frames_setTop' g h.top] at hend
  obtain ⟨g₀, hg0⟩ := Option.isSome_iff_exists.mp h.top
  obtain ⟨r, hr⟩ := State.topJava?_eq_some.mp hg0
  have hr' : (({ U with heap := s₂.heap, slotsUsed := s₂.slotsUsed } : State).setVm s₂.vm).frames = .java g₀ :: r := hr
  rcases hq' with ⟨hqc, L, hfe, hL⟩ | ⟨q, rfl, E, ce, L, hx, hce, hcv, hcl, hW₂, hsm, hL⟩
  · obtain ⟨⟨v, rfl⟩, hW₂, e2, q2, q3, q4, q5, q6⟩ := id hfe
    have e3 : s₂ = ({ (U.calling g mk a).setFrames s₂.frames with heap := s₂.heap, slotsUsed := s₂.slotsUsed } : State).setVm s₂.vm := by
      have : s₂ = ({ s₂ with vm := (U.calling g mk a).vm } : State).setVm s₂.vm := rfl
      rw [e2] at this
      exact this
    obtain ⟨c₂, i₂, len₂, hc₂, hd₂, hf₂⟩ := hend
    have hW' : U.WarmedH s₂.vm := hW₂
    have hcc : c₂ = c := by
      have h1 : s₂.code? g.method = U.code? g.method := by
        rw [State.code?_eq, State.code?_eq, hW'.alike.method?]
      exact Option.some.inj (hc₂.symm.trans (h1.trans h.code))
    subst hcc
    have hlen : len₂ = len := by rw [hdg] at hd₂; cases hd₂; rfl
    subst hlen
    have hs₂ : s₂ = (({ U with heap := s₂.heap, slotsUsed := s₂.slotsUsed } : State).setVm s₂.vm).setTop { g with pc := g.pc + len₂, stack := v.toList ++ g.stack } := by
      refine e3.trans ?_
      rw [hf₂, State.calling_eq h.top, State.setFrames_setFrames, State.setTop_of_frames _ hr', hr]
      rfl
    have hsame : U.sameButNew ({ U with heap := s₂.heap, slotsUsed := s₂.slotsUsed } : State) L mc ms := by
      refine ⟨?_, q2, q3, q4, q5, q6⟩
      obtain ⟨t, ht, -⟩ := State.frames_cons hr
      show ({ U with heap := s₂.heap, slotsUsed := s₂.slotsUsed } : State) = { U.setFrames U.frames with heap := s₂.heap, slotsUsed := s₂.slotsUsed }
      rw [State.setFrames_self ht]
    subst hg
    refine Or.inl ⟨v, ⟨(({ U with heap := s₂.heap, slotsUsed := s₂.slotsUsed } : State).setVm s₂.vm), Ls ++ L, c0 + mc, s0 + ms⟩,
      ⟨X.admits, X.cas, X.clock, X.frames, X.room, X.hears, X.method, X.code, (X.here.setHeapUsed s₂.heap s₂.slotsUsed).setVm hW'.alike, X.tail, State.WarmedH.trans X.warmed hW', X.limits, X.bytes, X.same.trans (hsame.setVm s.vm)⟩,
      ⟨g, mk, s₂, L, rfl, rfl, hqc, rfl, hL, rfl, rfl⟩, ?_⟩
    show Steps p.tables e below _ ((({ U with heap := s₂.heap, slotsUsed := s₂.slotsUsed } : State).setVm s₂.vm).setTop { g with pc := g.pc + len₂, stack := v.toList ++ g.stack })
    rw [← hs₂]
    exact hsteps
  · obtain ⟨e2, q2, q3, q4, q5, q6⟩ := id hsm
    have e3 : s₂ = ({ (U.calling g mk a).setFrames s₂.frames with heap := s₂.heap, slotsUsed := s₂.slotsUsed } : State).setVm s₂.vm := by
      have : s₂ = ({ s₂ with vm := (U.calling g mk a).vm } : State).setVm s₂.vm := rfl
      rw [e2] at this
      exact this
    have hf₂ : s₂.frames = .throwing q :: .java g :: U.frames.tail := hend
    have hW' : U.WarmedH s₂.vm := hW₂
    have hs₂ : s₂ = ((({ U with heap := s₂.heap, slotsUsed := s₂.slotsUsed } : State).setVm s₂.vm).setTop g).pushFrame (.throwing q) := by
      refine e3.trans ?_
      rw [hf₂, State.calling_eq h.top, State.setFrames_setFrames, State.pushFrame, State.frames_setTop _ hr', State.setTop_of_frames _ hr', State.setFrames_setFrames, hr]
      rfl
    have hsame : U.sameButNew ({ U with heap := s₂.heap, slotsUsed := s₂.slotsUsed } : State) L mc ms := by
      refine ⟨?_, q2, q3, q4, q5, q6⟩
      obtain ⟨t, ht, -⟩ := State.frames_cons hr
      show ({ U with heap := s₂.heap, slotsUsed := s₂.slotsUsed } : State) = { U.setFrames U.frames with heap := s₂.heap, slotsUsed := s₂.slotsUsed }
      rw [State.setFrames_self ht]
    subst hg
    refine Or.inr ⟨q, ⟨(({ U with heap := s₂.heap, slotsUsed := s₂.slotsUsed } : State).setVm s₂.vm), Ls ++ L, c0 + mc, s0 + ms⟩,
      ⟨X.admits, X.cas, X.clock, X.frames, X.room, X.hears, X.method, X.code, (X.here.setHeapUsed s₂.heap s₂.slotsUsed).setVm hW'.alike, X.tail, State.WarmedH.trans X.warmed hW', X.limits, X.bytes, X.same.trans (hsame.setVm s.vm)⟩,
      ⟨g, mk, s₂, L, E, ce, rfl, rfl, hx, hce, hcv, hcl, rfl, hL, rfl, rfl⟩, ?_⟩
    show Steps p.tables e below _ (((({ U with heap := s₂.heap, slotsUsed := s₂.slotsUsed } : State).setVm s₂.vm).setTop g).pushFrame (.throwing q))
    rw [← hs₂]
    exact hsteps
end Payer
section Calls
variable {p : Program} {l : Launch} {e : Env} {R : Room} {s : State} {m : MethodId} {args : Array Value} {below : List Frame} {meth : Method} {c : Code} {T : State} {locs : List Loc} {cells slots : Nat}
theorem vx_callV (X : Stand p l e R s m args below meth c T locs cells slots) (hexec : p.tables.exec = Jvm.exec) {own C : String} {index : Nat} {y : MethodName} {bytes : ByteArray} {maxL : Nat} {ret : Option FieldType}
    (hown : s.vm.findClass own = some m.cls) (hlink : (Cond.methodLink own index y).before args s = true) (hinst : (Cond.instanceMethod y).before args s = true) (hsel : (Cond.selects C y y).before args s = true)
    (hcode : (Cond.code y bytes maxL ret).before args s = true) (hy : y.cls ≠ "java/lang/invoke/MethodHandle" ∧ y.cls ≠ "java/lang/invoke/VarHandle")
    {W9 : Nat} {Pre : Pt → Array Value → Prop} {Post : Pt → Array Value → Option Value → Pt → Prop} {PostX : Pt → Array Value → Addr → Pt → Prop} (hK : vx_Back l R p e below s args y 3 W9 Pre Post PostX)
    {b : Addr} {cellB : Cell} (hcell : T.heap[b]? = some cellB) (hobj : cellB.vm.isStatics = false) (hcls : s.vm.findClass C = some cellB.cls)
    {g : JFrame} (hg : g.method = m) (hsize : g.locals.size = c.maxLocals) {argsL rest : List Value} (hlen : ∀ sig, parseMethodDescriptor y.desc = some sig → argsL.length = sig.parameters.length)
    (hstack : g.stack = argsL.reverse ++ .ref b :: rest) (hW : 2 * g.monitorRoom + (rest.map fun v => v.category).sum ≤ W9) (hdg : decode c.code g.pc = .ok (.invokevirtual index, 3))
    (hpre : ∀ vm₁, s.WarmedH vm₁ → Pre ⟨T.setVm vm₁, locs, cells, slots⟩ (Value.ref b :: argsL).toArray) :
    (∃ (v : Option Value) (vm₁ : Vm) (B : Pt), s.WarmedH vm₁ ∧ Stand p l e R s m args below meth c B.U B.locs B.cells B.slots ∧ Post ⟨T.setVm vm₁, locs, cells, slots⟩ (Value.ref b :: argsL).toArray v B ∧
      ∀ target, Steps p.tables e below (B.U.setTop { g with pc := g.pc + 3, stack := v.toList ++ rest }) target → Steps p.tables e below (T.setTop g) target) ∨
    (∃ (q : Addr) (vm₁ : Vm) (B : Pt), s.WarmedH vm₁ ∧ Stand p l e R s m args below meth c B.U B.locs B.cells B.slots ∧ PostX ⟨T.setVm vm₁, locs, cells, slots⟩ (Value.ref b :: argsL).toArray q B ∧
      Steps p.tables e below (T.setTop g) ((B.U.setTop { g with stack := rest }).pushFrame (.throwing q))) := by
  obtain ⟨mk, methM, hnamed, hmethM, hstM, habM⟩ := Cond.instanceMethod_spec hinst
  obtain ⟨methM', cM, hmethM', -, -, -, -, -, -, hsigM⟩ := Cond.code_spec hnamed hcode
  cases hmethM.symm.trans hmethM'
  obtain ⟨c2, r2, m2, q1, q2, q3, q4, kP, hkP, hkPi⟩ := Cond.selects_spec hsel
  cases hcls.symm.trans q1
  cases (State.methodFound?_of_named hnamed hy).symm.trans q2
  cases hnamed.symm.trans q3
  have hselP : selectMethod e.platform s.vm cellB.cls mk = .method mk := by rw [Launch.admits_selectMethod X.admits]; exact q4
  obtain ⟨vm₁, X₁, hstep₁⟩ := X.invokevirtual hexec hown hlink hnamed hmethM hstM hkP hkPi hy (a := b) (cell := cellB) hcell
    (fun z h => by rw [h] at hobj; cases hobj) hselP hmethM habM hkP hkPi (g := g) hg (argsL := argsL) (rest := rest) (hlen _ hsigM) hstack hdg
  rcases hK m meth c ⟨T.setVm vm₁, locs, cells, slots⟩ { g with stack := rest } (.invokevirtual index) mk (Value.ref b :: argsL).toArray X₁ hg hsize hdg hW (X₁.named hnamed) (hpre vm₁ X₁.warmed) with ⟨v, B, X', hpost, hsteps⟩ | ⟨q, B, X', hpost, hsteps⟩
  · exact Or.inl ⟨v, vm₁, B, X₁.warmed, X', hpost, fun target h => hstep₁ _ fun acts => by rw [doInvoke_state]; exact hsteps.trans h⟩
  · exact Or.inr ⟨q, vm₁, B, X₁.warmed, X', hpost, hstep₁ _ fun acts => by rw [doInvoke_state]; exact hsteps⟩
theorem vx_callS (X : Stand p l e R s m args below meth c T locs cells slots) (hexec : p.tables.exec = Jvm.exec) {own : String} {index : Nat} {y : MethodName} {bytes : ByteArray} {maxL : Nat} {ret : Option FieldType}
    (hown : s.vm.findClass own = some m.cls) (hlink : (Cond.methodLink own index y).before args s = true) (hstat : (Cond.static y).before args s = true) (hinit : (Cond.initialized y.cls).before args s = true)
    (hcode : (Cond.code y bytes maxL ret).before args s = true) (hy : y.cls ≠ "java/lang/invoke/MethodHandle" ∧ y.cls ≠ "java/lang/invoke/VarHandle")
    {W9 : Nat} {Pre : Pt → Array Value → Prop} {Post : Pt → Array Value → Option Value → Pt → Prop} {PostX : Pt → Array Value → Addr → Pt → Prop} (hK : vx_Back l R p e below s args y 3 W9 Pre Post PostX)
    {g : JFrame} (hg : g.method = m) (hsize : g.locals.size = c.maxLocals) {argsL rest : List Value} (hlen : ∀ sig, parseMethodDescriptor y.desc = some sig → argsL.length = sig.parameters.length)
    (hstack : g.stack = argsL.reverse ++ rest) (hW : 2 * g.monitorRoom + (rest.map fun v => v.category).sum ≤ W9) (hdg : decode c.code g.pc = .ok (.invokestatic index, 3))
    (hpre : ∀ vm₁, s.WarmedH vm₁ → Pre ⟨T.setVm vm₁, locs, cells, slots⟩ argsL.toArray) :
    (∃ (v : Option Value) (vm₁ : Vm) (B : Pt), s.WarmedH vm₁ ∧ Stand p l e R s m args below meth c B.U B.locs B.cells B.slots ∧ Post ⟨T.setVm vm₁, locs, cells, slots⟩ argsL.toArray v B ∧
      ∀ target, Steps p.tables e below (B.U.setTop { g with pc := g.pc + 3, stack := v.toList ++ rest }) target → Steps p.tables e below (T.setTop g) target) ∨
    (∃ (q : Addr) (vm₁ : Vm) (B : Pt), s.WarmedH vm₁ ∧ Stand p l e R s m args below meth c B.U B.locs B.cells B.slots ∧ PostX ⟨T.setVm vm₁, locs, cells, slots⟩ argsL.toArray q B ∧
      Steps p.tables e below (T.setTop g) ((B.U.setTop { g with stack := rest }).pushFrame (.throwing q))) := by
  obtain ⟨mk, hnamed⟩ := Cond.code_named hcode
  obtain ⟨methM, cM, hmethM, -, -, -, -, -, -, hsigM⟩ := Cond.code_spec hnamed hcode
  have hstatic : methM.isStatic = true := Cond.static_spec hnamed hmethM hstat
  obtain ⟨kP, hkP, -⟩ := className_of_methodNamed hnamed
  have hinitP : kP.init = .initialized := Cond.initialized_spec (findClass_of_methodNamed hnamed) hkP hinit
  obtain ⟨vm₁, X₁, hstep₁⟩ := X.invokestatic hexec hown hlink hnamed hmethM hstatic hkP hinitP hy (g := g) hg (argsL := argsL) (rest := rest) (hlen _ hsigM) hstack hdg
  rcases hK m meth c ⟨T.setVm vm₁, locs, cells, slots⟩ { g with stack := rest } (.invokestatic index) mk argsL.toArray X₁ hg hsize hdg hW (X₁.named hnamed) (hpre vm₁ X₁.warmed) with ⟨v, B, X', hpost, hsteps⟩ | ⟨q, B, X', hpost, hsteps⟩
  · exact Or.inl ⟨v, vm₁, B, X₁.warmed, X', hpost, fun target h => hstep₁ _ fun acts => by rw [doInvoke_state]; exact hsteps.trans h⟩
  · exact Or.inr ⟨q, vm₁, B, X₁.warmed, X', hpost, hstep₁ _ fun acts => by rw [doInvoke_state]; exact hsteps⟩
end Calls
theorem vx_cls {s : State} {T : State} {vm₁ : Vm} {E : String} {k : ClassId} (hW : s.WarmedH vm₁) (h : (T.setVm vm₁).vm.findClass E = some k) : s.vm.findClass E = some k := by
  have h1 : vm₁.findClass E = some k := h
  rw [hW.alike.findClass] at h1
  exact h1
/-- the method's frame g, with q thrown over it -/
def vx_W (p : Program) (l : Launch) (e : Env) (R : Room) (s : State) (m : MethodId) (args : Array Value) (below : List Frame) (meth : Method) (c : Code) (H : Heap) (locs : List Loc) (cells slots : Nat) (Q : State → Prop) (g : JFrame) (q : Addr) : Prop :=
  ∀ T : State, T.heap = H → Stand p l e R s m args below meth c T locs cells slots → ∃ t, Steps p.tables e below ((T.setTop g).pushFrame (.throwing q)) t ∧ Q t
def vx_Run (p : Program) (l : Launch) (e : Env) (R : Room) (s : State) (m : MethodId) (args : Array Value) (below : List Frame) (meth : Method) (c : Code) (H : Heap) (locs : List Loc) (cells slots mc ms : Nat) (g : JFrame) (rest : List Value) (Qa : State → Outcome → State → Prop) (XC : String → State → State → Prop) (free : Addr → Prop) : Prop :=
  ∀ T : State, T.heap = H → Stand p l e R s m args below meth c T locs cells slots →
    (∃ (v : Option Value) (st₀ t T' : State) (L : List Loc), st₀.heap = H ∧ Stand p l e R s m args below meth c T' (locs ++ L) (cells + mc) (slots + ms) ∧ (∀ q ∈ L, free q.base) ∧ T'.heap = t.heap ∧ T'.vm = t.vm ∧ Qa st₀ (.returned v) t ∧
      Goes p e below T g T' { g with pc := g.pc + 3, stack := v.toList ++ rest }) ∨
    (∃ (q : Addr) (st₀ t T' : State) (L : List Loc) (E : String) (ce : Cell), st₀.heap = H ∧ Stand p l e R s m args below meth c T' (locs ++ L) (cells + mc) (slots + ms) ∧ (∀ z ∈ L, free z.base) ∧ T'.heap = t.heap ∧ T'.vm = t.vm ∧ XC E st₀ t ∧ t.heap[q]? = some ce ∧ ce.vm = .none ∧ s.vm.findClass E = some ce.cls ∧
      Steps p.tables e below (T.setTop g) ((T'.setTop { g with stack := rest }).pushFrame (.throwing q)))
def vx_X {S : Type} (px : S → Prop) (B : String → S → State → Prop) (A : Nat → Prop) : String → State → State → Prop := fun E st t => ∃ u : S, px u ∧ B E u t ∧ va_F A st t
section Runs
variable {p : Program} {l : Launch} {e : Env} {R : Room} {s : State} {m : MethodId} {args : Array Value} {below : List Frame} {meth : Method} {c : Code} {H : Heap} {locs : List Loc} {cells slots : Nat}
variable {y : MethodName} {bytes cc : ByteArray} {maxL nL mc ms n index : Nat} {ret : Option FieldType} {ws : List Cond} {rm : Room} {Pc : Array Value → State → Prop} {Qc : Array Value → State → Outcome → State → Prop} {XC : String → State → State → Prop} {free : Addr → Prop} {Ts : List Cond} {own C : String} {b : Addr} {As rest : List Value} {g : JFrame}
theorem vx_callBack (cb : CallB R s args own index y bytes maxL ret ws rm mc ms n) (hM : vx_Met l y ws rm Pc Qc XC mc ms free) (hbl : FrameBlind Pc) : vx_Back l R p e below s args y 3 8 (PreOf R mc ms Pc) (PostOf Qc mc ms free) (vx_Post XC mc ms free) := by
  obtain ⟨hrc, hrs, hfr, hlo, hws, hcw, -, hini, -⟩ := cb
  exact vx_back (bytes := bytes) (maxL := maxL) (ret := ret) hM hbl hrc hrs hfr hlo hws hcw (fun a' U hW => word_at hW (Or.inl (by first | rfl | simp [Cond.onTables, Cond.keeps, Cond.steady])) hini)
theorem vx_runV (S : CallFix p m c cc nL s args Ts own) (hM : vx_Met l y ws rm Pc Qc XC mc ms free) (cw : CallW R s args own C index y bytes maxL ret ws rm mc ms n) (hp : PreV s H C b Pc As)
    (hg : g.method = m) (hn : As.length = n) (hsize : g.locals.size = nL) (hstack : g.stack = As.reverse ++ .ref b :: rest) (hW : 2 * g.monitorRoom + (rest.map fun v => v.category).sum ≤ 8) (hdg : decode cc g.pc = .ok (.invokevirtual index, 3)) (hf : cells + mc ≤ R.cells ∧ slots + ms ≤ R.slots) :
    vx_Run p l e R s m args below meth c H locs cells slots mc ms g rest (Qc (Value.ref b :: As).toArray) XC free := by
  have hK : vx_Back l R p e below s args y 3 8 (PreOf R mc ms Pc) (PostOf Qc mc ms free) (vx_Post XC mc ms free) := vx_callBack cw.1 hM hp.1
  obtain ⟨⟨-, -, -, -, -, -, hcode, -, hy, hlen, hl⟩, hin, hse⟩ := cw
  obtain ⟨hx, hb, hml, ho, -⟩ := S
  obtain ⟨-, ⟨cellB, hcB, hoB, hclB⟩, hPc⟩ := hp
  intro T hT X
  rcases vx_callV X hx (C := C) (bytes := bytes) (maxL := maxL) (ret := ret) ho hl hin hse hcode hy hK (by rw [hT]; exact hcB) hoB hclB hg (hsize.trans hml.symm) (argsL := As) (rest := rest) (fun sig h => hn.trans (hlen sig h)) hstack hW (by rw [hb]; exact hdg)
    (fun vm₁ hW₁ => ⟨hf.1, hf.2, hPc (T.setVm vm₁) hT hW₁⟩) with ⟨v, vm₁, ⟨U', l2, c2, s2⟩, hW₁, X', ⟨g', mk, t, L, e1, e2, hq, h1, hL, h2, h3⟩, st⟩ | ⟨q, vm₁, ⟨U', l2, c2, s2⟩, hW₁, X', ⟨g', mk, t, L, E, ce, e1, e2, hq, hce, hcv, hcl, h1, hL, h2, h3⟩, st⟩
  · dsimp only [Pt.U, Pt.locs, Pt.cells, Pt.slots] at X' e1 e2 h1 h2 h3 st
    subst h1; subst h2; subst h3
    exact Or.inl ⟨v, (T.setVm vm₁).calling g' mk (Value.ref b :: As).toArray, t, U', L, hT, X', hL, e1, e2, hq, st⟩
  · dsimp only [Pt.U, Pt.locs, Pt.cells, Pt.slots] at X' e1 e2 h1 h2 h3 st hcl
    subst h1; subst h2; subst h3
    exact Or.inr ⟨q, (T.setVm vm₁).calling g' mk (Value.ref b :: As).toArray, t, U', L, E, ce, hT, X', hL, e1, e2, hq, hce, hcv, vx_cls hW₁ hcl, st⟩
theorem vx_runS (S : CallFix p m c cc nL s args Ts own) (hM : vx_Met l y ws rm Pc Qc XC mc ms free) (cw : CallB R s args own index y bytes maxL ret ws rm mc ms n ∧ (Cond.static y).before args s = true) (hp : PreS s H Pc As)
    (hg : g.method = m) (hn : As.length = n) (hsize : g.locals.size = nL) (hstack : g.stack = As.reverse ++ rest) (hW : 2 * g.monitorRoom + (rest.map fun v => v.category).sum ≤ 8) (hdg : decode cc g.pc = .ok (.invokestatic index, 3)) (hf : cells + mc ≤ R.cells ∧ slots + ms ≤ R.slots) :
    vx_Run p l e R s m args below meth c H locs cells slots mc ms g rest (Qc As.toArray) XC free := by
  have hK : vx_Back l R p e below s args y 3 8 (PreOf R mc ms Pc) (PostOf Qc mc ms free) (vx_Post XC mc ms free) := vx_callBack cw.1 hM hp.1
  obtain ⟨⟨-, -, -, -, -, -, hcode, hini, hy, hlen, hl⟩, hstt⟩ := cw
  obtain ⟨hx, hb, hml, ho, -⟩ := S
  intro T hT X
  rcases vx_callS X hx (bytes := bytes) (maxL := maxL) (ret := ret) ho hl hstt hini hcode hy hK hg (hsize.trans hml.symm) (argsL := As) (rest := rest) (fun sig h => hn.trans (hlen sig h)) hstack hW (by rw [hb]; exact hdg)
    (fun vm₁ hW₁ => ⟨hf.1, hf.2, hp.2 (T.setVm vm₁) hT hW₁⟩) with ⟨v, vm₁, ⟨U', l2, c2, s2⟩, hW₁, X', ⟨g', mk, t, L, e1, e2, hq, h1, hL, h2, h3⟩, st⟩ | ⟨q, vm₁, ⟨U', l2, c2, s2⟩, hW₁, X', ⟨g', mk, t, L, E, ce, e1, e2, hq, hce, hcv, hcl, h1, hL, h2, h3⟩, st⟩
  · dsimp only [Pt.U, Pt.locs, Pt.cells, Pt.slots] at X' e1 e2 h1 h2 h3 st
    subst h1; subst h2; subst h3
    exact Or.inl ⟨v, (T.setVm vm₁).calling g' mk As.toArray, t, U', L, hT, X', hL, e1, e2, hq, st⟩
  · dsimp only [Pt.U, Pt.locs, Pt.cells, Pt.slots] at X' e1 e2 h1 h2 h3 st hcl
    subst h1; subst h2; subst h3
    exact Or.inr ⟨q, (T.setVm vm₁).calling g' mk As.toArray, t, U', L, E, ce, hT, X', hL, e1, e2, hq, hce, hcv, vx_cls hW₁ hcl, st⟩
end Runs
section Rows
variable {p : Program} {l : Launch} {e : Env} {R : Room} {s : State} {m : MethodId} {args : Array Value} {below : List Frame} {meth : Method} {c : Code} {H : Heap} {locs : List Loc} {cells slots : Nat} {Q : State → Prop}
variable {mc ms : Nat} {free : Addr → Prop} {A0 A1 : Nat → Prop} {H0 : Heap} {a : Array Value} {pc : Nat} {ls : Array Slot} {st0 rest : List Value}
theorem vx_keep {st₀ t T' : State} {L : List Loc} (h0 : st₀.heap = H) (e1 : T'.heap = t.heap) (hS : va_S A0 H0 H locs) (hA : ∀ q, q < H.size → A1 q → A0 q) (hf : ∀ q, free q → A0 q) (hL : ∀ q ∈ L, free q.base) (hF : va_F A1 st₀ t) :
    H.size ≤ T'.heap.size ∧ (∀ q : Nat, q < H.size → ¬ A1 q → T'.heap[q]? = H[q]?) ∧ va_S A0 H0 T'.heap (locs ++ L) := by
  obtain ⟨hz, hk⟩ := hF
  rw [h0] at hz hk
  exact ⟨by rw [e1]; exact hz, fun q h1 h2 => by rw [e1]; exact hk q h1 h2,
    ⟨Nat.le_trans hS.1 (by rw [e1]; exact hz), fun q h1 h2 => by rw [e1, hk q (Nat.lt_of_lt_of_le h1 hS.1) (fun z => h2 (hA q (Nat.lt_of_lt_of_le h1 hS.1) z))]; exact hS.2.1 q h1 h2, fun q hq => by
      rcases List.mem_append.mp hq with h | h
      · exact hS.2.2 q h
      · exact hf _ (hL q h)⟩⟩
theorem vx_calli {S SX : Type} {post : Int32 → S → Prop} {px : SX → Prop} {B : S → State → Prop} {BX : String → SX → State → Prop} {AX : Nat → Prop} (hr : vx_Run p l e R s m args below meth c H locs cells slots mc ms (F0 m pc ls st0) rest (va_Qi post B A1 a) (vx_X px BX AX) free) (hS : va_S A0 H0 H locs) (hA : ∀ q, q < H.size → A1 q → A0 q) (hf : ∀ q, free q → A0 q) (hAX : ∀ q, q < H.size → AX q → A0 q)
    (kx : ∀ (E : String) (ce : Cell) (q9 : Addr) (u : SX) (t : State) (H1 : Heap) (locs1 : List Loc), t.heap = H1 → s.vm.Alike t.vm → px u → BX E u t → H.size ≤ H1.size → (∀ q : Nat, q < H.size → ¬ AX q → H1[q]? = H[q]?) → va_S A0 H0 H1 locs1 → H1[q9]? = some ce → ce.vm = .none → s.vm.findClass E = some ce.cls → vx_W p l e R s m args below meth c H1 locs1 (cells + mc) (slots + ms) Q (F0 m pc ls rest) q9)
    (kk : ∀ (r : Int32) (u : S) (t : State) (H1 : Heap) (locs1 : List Loc), t.heap = H1 → s.vm.Alike t.vm → post r u → B u t → H.size ≤ H1.size → (∀ q : Nat, q < H.size → ¬ A1 q → H1[q]? = H[q]?) → va_S A0 H0 H1 locs1 → W p l e R s m args below meth c H1 locs1 (cells + mc) (slots + ms) Q (F0 m (pc + 3) ls (.int r :: rest))) : W p l e R s m args below meth c H locs cells slots Q (F0 m pc ls st0) := by
  intro T hT X
  rcases hr T hT X with ⟨v, st₀, t, T', L, h0, X', hL, e1, e2, ⟨⟨r, u, hv, hp, hb⟩, hF⟩, st⟩ | ⟨q, st₀, t, T', L, E, ce, h0, X', hL, e1, e2, ⟨u, hp, hb, hF⟩, hce, hcv, hcl, st⟩
  · cases hv
    obtain ⟨k1, k2, k3⟩ := vx_keep h0 e1 hS hA hf hL hF
    obtain ⟨t2, a1, b1⟩ := kk r u t T'.heap (locs ++ L) e1.symm (by rw [← e2]; exact X'.warmed.alike) hp hb k1 k2 k3 T' rfl X'
    exact ⟨t2, st t2 a1, b1⟩
  · obtain ⟨k1, k2, k3⟩ := vx_keep h0 e1 hS hAX hf hL hF
    obtain ⟨t2, a1, b1⟩ := kx E ce q u t T'.heap (locs ++ L) e1.symm (by rw [← e2]; exact X'.warmed.alike) hp hb k1 k2 k3 (by rw [e1]; exact hce) hcv hcl T' rfl X'
    exact ⟨t2, st.trans a1, b1⟩
theorem vx_calll {S SX : Type} {post : Int64 → S → Prop} {px : SX → Prop} {B : S → State → Prop} {BX : String → SX → State → Prop} {AX : Nat → Prop} (hr : vx_Run p l e R s m args below meth c H locs cells slots mc ms (F0 m pc ls st0) rest (va_Ql post B A1 a) (vx_X px BX AX) free) (hS : va_S A0 H0 H locs) (hA : ∀ q, q < H.size → A1 q → A0 q) (hf : ∀ q, free q → A0 q) (hAX : ∀ q, q < H.size → AX q → A0 q)
    (kx : ∀ (E : String) (ce : Cell) (q9 : Addr) (u : SX) (t : State) (H1 : Heap) (locs1 : List Loc), t.heap = H1 → s.vm.Alike t.vm → px u → BX E u t → H.size ≤ H1.size → (∀ q : Nat, q < H.size → ¬ AX q → H1[q]? = H[q]?) → va_S A0 H0 H1 locs1 → H1[q9]? = some ce → ce.vm = .none → s.vm.findClass E = some ce.cls → vx_W p l e R s m args below meth c H1 locs1 (cells + mc) (slots + ms) Q (F0 m pc ls rest) q9)
    (kk : ∀ (r : Int64) (u : S) (t : State) (H1 : Heap) (locs1 : List Loc), t.heap = H1 → s.vm.Alike t.vm → post r u → B u t → H.size ≤ H1.size → (∀ q : Nat, q < H.size → ¬ A1 q → H1[q]? = H[q]?) → va_S A0 H0 H1 locs1 → W p l e R s m args below meth c H1 locs1 (cells + mc) (slots + ms) Q (F0 m (pc + 3) ls (.long r :: rest))) : W p l e R s m args below meth c H locs cells slots Q (F0 m pc ls st0) := by
  intro T hT X
  rcases hr T hT X with ⟨v, st₀, t, T', L, h0, X', hL, e1, e2, ⟨⟨r, u, hv, hp, hb⟩, hF⟩, st⟩ | ⟨q, st₀, t, T', L, E, ce, h0, X', hL, e1, e2, ⟨u, hp, hb, hF⟩, hce, hcv, hcl, st⟩
  · cases hv
    obtain ⟨k1, k2, k3⟩ := vx_keep h0 e1 hS hA hf hL hF
    obtain ⟨t2, a1, b1⟩ := kk r u t T'.heap (locs ++ L) e1.symm (by rw [← e2]; exact X'.warmed.alike) hp hb k1 k2 k3 T' rfl X'
    exact ⟨t2, st t2 a1, b1⟩
  · obtain ⟨k1, k2, k3⟩ := vx_keep h0 e1 hS hAX hf hL hF
    obtain ⟨t2, a1, b1⟩ := kx E ce q u t T'.heap (locs ++ L) e1.symm (by rw [← e2]; exact X'.warmed.alike) hp hb k1 k2 k3 (by rw [e1]; exact hce) hcv hcl T' rfl X'
    exact ⟨t2, st.trans a1, b1⟩
theorem vx_callf {S SX : Type} {post : UInt32 → S → Prop} {px : SX → Prop} {B : S → State → Prop} {BX : String → SX → State → Prop} {AX : Nat → Prop} (hr : vx_Run p l e R s m args below meth c H locs cells slots mc ms (F0 m pc ls st0) rest (va_Qf post B A1 a) (vx_X px BX AX) free) (hS : va_S A0 H0 H locs) (hA : ∀ q, q < H.size → A1 q → A0 q) (hf : ∀ q, free q → A0 q) (hAX : ∀ q, q < H.size → AX q → A0 q)
    (kx : ∀ (E : String) (ce : Cell) (q9 : Addr) (u : SX) (t : State) (H1 : Heap) (locs1 : List Loc), t.heap = H1 → s.vm.Alike t.vm → px u → BX E u t → H.size ≤ H1.size → (∀ q : Nat, q < H.size → ¬ AX q → H1[q]? = H[q]?) → va_S A0 H0 H1 locs1 → H1[q9]? = some ce → ce.vm = .none → s.vm.findClass E = some ce.cls → vx_W p l e R s m args below meth c H1 locs1 (cells + mc) (slots + ms) Q (F0 m pc ls rest) q9)
    (kk : ∀ (r : UInt32) (u : S) (t : State) (H1 : Heap) (locs1 : List Loc), t.heap = H1 → s.vm.Alike t.vm → post r u → B u t → H.size ≤ H1.size → (∀ q : Nat, q < H.size → ¬ A1 q → H1[q]? = H[q]?) → va_S A0 H0 H1 locs1 → W p l e R s m args below meth c H1 locs1 (cells + mc) (slots + ms) Q (F0 m (pc + 3) ls (.float r :: rest))) : W p l e R s m args below meth c H locs cells slots Q (F0 m pc ls st0) := by
  intro T hT X
  rcases hr T hT X with ⟨v, st₀, t, T', L, h0, X', hL, e1, e2, ⟨⟨r, u, hv, hp, hb⟩, hF⟩, st⟩ | ⟨q, st₀, t, T', L, E, ce, h0, X', hL, e1, e2, ⟨u, hp, hb, hF⟩, hce, hcv, hcl, st⟩
  · cases hv
    obtain ⟨k1, k2, k3⟩ := vx_keep h0 e1 hS hA hf hL hF
    obtain ⟨t2, a1, b1⟩ := kk r u t T'.heap (locs ++ L) e1.symm (by rw [← e2]; exact X'.warmed.alike) hp hb k1 k2 k3 T' rfl X'
    exact ⟨t2, st t2 a1, b1⟩
  · obtain ⟨k1, k2, k3⟩ := vx_keep h0 e1 hS hAX hf hL hF
    obtain ⟨t2, a1, b1⟩ := kx E ce q u t T'.heap (locs ++ L) e1.symm (by rw [← e2]; exact X'.warmed.alike) hp hb k1 k2 k3 (by rw [e1]; exact hce) hcv hcl T' rfl X'
    exact ⟨t2, st.trans a1, b1⟩
theorem vx_calld {S SX : Type} {post : UInt64 → S → Prop} {px : SX → Prop} {B : S → State → Prop} {BX : String → SX → State → Prop} {AX : Nat → Prop} (hr : vx_Run p l e R s m args below meth c H locs cells slots mc ms (F0 m pc ls st0) rest (va_Qd post B A1 a) (vx_X px BX AX) free) (hS : va_S A0 H0 H locs) (hA : ∀ q, q < H.size → A1 q → A0 q) (hf : ∀ q, free q → A0 q) (hAX : ∀ q, q < H.size → AX q → A0 q)
    (kx : ∀ (E : String) (ce : Cell) (q9 : Addr) (u : SX) (t : State) (H1 : Heap) (locs1 : List Loc), t.heap = H1 → s.vm.Alike t.vm → px u → BX E u t → H.size ≤ H1.size → (∀ q : Nat, q < H.size → ¬ AX q → H1[q]? = H[q]?) → va_S A0 H0 H1 locs1 → H1[q9]? = some ce → ce.vm = .none → s.vm.findClass E = some ce.cls → vx_W p l e R s m args below meth c H1 locs1 (cells + mc) (slots + ms) Q (F0 m pc ls rest) q9)
    (kk : ∀ (r : UInt64) (u : S) (t : State) (H1 : Heap) (locs1 : List Loc), t.heap = H1 → s.vm.Alike t.vm → post r u → B u t → H.size ≤ H1.size → (∀ q : Nat, q < H.size → ¬ A1 q → H1[q]? = H[q]?) → va_S A0 H0 H1 locs1 → W p l e R s m args below meth c H1 locs1 (cells + mc) (slots + ms) Q (F0 m (pc + 3) ls (.double r :: rest))) : W p l e R s m args below meth c H locs cells slots Q (F0 m pc ls st0) := by
  intro T hT X
  rcases hr T hT X with ⟨v, st₀, t, T', L, h0, X', hL, e1, e2, ⟨⟨r, u, hv, hp, hb⟩, hF⟩, st⟩ | ⟨q, st₀, t, T', L, E, ce, h0, X', hL, e1, e2, ⟨u, hp, hb, hF⟩, hce, hcv, hcl, st⟩
  · cases hv
    obtain ⟨k1, k2, k3⟩ := vx_keep h0 e1 hS hA hf hL hF
    obtain ⟨t2, a1, b1⟩ := kk r u t T'.heap (locs ++ L) e1.symm (by rw [← e2]; exact X'.warmed.alike) hp hb k1 k2 k3 T' rfl X'
    exact ⟨t2, st t2 a1, b1⟩
  · obtain ⟨k1, k2, k3⟩ := vx_keep h0 e1 hS hAX hf hL hF
    obtain ⟨t2, a1, b1⟩ := kx E ce q u t T'.heap (locs ++ L) e1.symm (by rw [← e2]; exact X'.warmed.alike) hp hb k1 k2 k3 (by rw [e1]; exact hce) hcv hcl T' rfl X'
    exact ⟨t2, st.trans a1, b1⟩
theorem vx_callv {S SX : Type} {post : S → Prop} {px : SX → Prop} {B : S → State → Prop} {BX : String → SX → State → Prop} {AX : Nat → Prop} (hr : vx_Run p l e R s m args below meth c H locs cells slots mc ms (F0 m pc ls st0) rest (va_Qv post B A1 a) (vx_X px BX AX) free) (hS : va_S A0 H0 H locs) (hA : ∀ q, q < H.size → A1 q → A0 q) (hf : ∀ q, free q → A0 q) (hAX : ∀ q, q < H.size → AX q → A0 q)
    (kx : ∀ (E : String) (ce : Cell) (q9 : Addr) (u : SX) (t : State) (H1 : Heap) (locs1 : List Loc), t.heap = H1 → s.vm.Alike t.vm → px u → BX E u t → H.size ≤ H1.size → (∀ q : Nat, q < H.size → ¬ AX q → H1[q]? = H[q]?) → va_S A0 H0 H1 locs1 → H1[q9]? = some ce → ce.vm = .none → s.vm.findClass E = some ce.cls → vx_W p l e R s m args below meth c H1 locs1 (cells + mc) (slots + ms) Q (F0 m pc ls rest) q9)
    (kk : ∀ (u : S) (t : State) (H1 : Heap) (locs1 : List Loc), t.heap = H1 → s.vm.Alike t.vm → post u → B u t → H.size ≤ H1.size → (∀ q : Nat, q < H.size → ¬ A1 q → H1[q]? = H[q]?) → va_S A0 H0 H1 locs1 → W p l e R s m args below meth c H1 locs1 (cells + mc) (slots + ms) Q (F0 m (pc + 3) ls (rest))) : W p l e R s m args below meth c H locs cells slots Q (F0 m pc ls st0) := by
  intro T hT X
  rcases hr T hT X with ⟨v, st₀, t, T', L, h0, X', hL, e1, e2, ⟨⟨u, hv, hp, hb⟩, hF⟩, st⟩ | ⟨q, st₀, t, T', L, E, ce, h0, X', hL, e1, e2, ⟨u, hp, hb, hF⟩, hce, hcv, hcl, st⟩
  · cases hv
    obtain ⟨k1, k2, k3⟩ := vx_keep h0 e1 hS hA hf hL hF
    obtain ⟨t2, a1, b1⟩ := kk u t T'.heap (locs ++ L) e1.symm (by rw [← e2]; exact X'.warmed.alike) hp hb k1 k2 k3 T' rfl X'
    exact ⟨t2, st t2 a1, b1⟩
  · obtain ⟨k1, k2, k3⟩ := vx_keep h0 e1 hS hAX hf hL hF
    obtain ⟨t2, a1, b1⟩ := kx E ce q u t T'.heap (locs ++ L) e1.symm (by rw [← e2]; exact X'.warmed.alike) hp hb k1 k2 k3 (by rw [e1]; exact hce) hcv hcl T' rfl X'
    exact ⟨t2, st.trans a1, b1⟩
/-- caught by the row x of this method's table; the rows ahead don't take it -/
theorem vx_catch {own name : String} {E : String} {ce : Cell} {q : Addr} (hown : s.vm.findClass own = some m.cls) (pre : List ExceptionTableEntry) (x : ExceptionTableEntry) (suf : List ExceptionTableEntry) (hsplit : c.exceptionTable.toList = pre ++ x :: suf)
    (hpass : ∀ z ∈ pre, covers z pc = false ∨ (z.catchType ≠ 0 ∧ ∃ nm : String, (Cond.classLink own z.catchType nm).before args s = true ∧ va_Nc E nm s)) (hx : covers x pc = true) (h0 : x.catchType ≠ 0)
    (hlink : (Cond.classLink own x.catchType name).before args s = true) (hcast : (Cond.castable E name).before args s = true) (hcell : H[q]? = some ce) (hv : ce.vm = .none) (hcl : s.vm.findClass E = some ce.cls)
    (kk : W p l e R s m args below meth c H locs cells slots Q (F0 m x.handlerPc ls [.ref q])) : vx_W p l e R s m args below meth c H locs cells slots Q (F0 m pc ls rest) q := by
  intro T hT X
  have hpl : e.platform.magicAccessors = ({} : Platform).magicAccessors := by rw [X.admits.platform]
  obtain ⟨c3, c4, hc3, hc4, hasg⟩ := Cond.castable_spec hcast
  cases Option.some.inj (hc3.symm.trans hcl)
  obtain ⟨c5, hc5, hcl5⟩ := Cond.classLink_spec hown hlink e.platform hpl
  cases Option.some.inj (hc4.symm.trans hc5)
  obtain ⟨vm', X', st⟩ := X.thenCaughtThrough q (g := F0 m pc ls rest) rfl (Steps.refl _) (by rw [hT]; exact hcell) (by rw [hv]; rfl) (by obtain ⟨k9, h9, -⟩ := Vm.findClass_spec hcl; exact ⟨k9, h9⟩) pre x suf hsplit
    (fun z hz => by
      rcases hpass z hz with h | ⟨hz0, nm, hl1, hn1⟩
      · exact Or.inl h
      · obtain ⟨c6, hc6, hcl6⟩ := Cond.classLink_spec hown hl1 e.platform hpl
        obtain ⟨a8, b8, h1, h2, h3⟩ := hn1
        cases Option.some.inj (h1.symm.trans hcl)
        cases Option.some.inj (h2.symm.trans hc6)
        exact Or.inr ⟨hz0, _, hcl6, h3⟩) hx (Or.inr ⟨h0, c4, hcl5, hasg⟩)
  obtain ⟨t, a1, b1⟩ := kk (T.setVm vm') hT X'
  exact ⟨t, st.trans a1, b1⟩
end Rows
section Ends
variable {p : Program} {l : Launch} {e : Env} {R : Room} {s : State} {m : MethodId} {args : Array Value} {below : List Frame} {meth : Method} {c : Code} {H : Heap} {locs : List Loc} {cells slots : Nat} {Q : State → Prop}
variable {mc ms : Nat} {free : Addr → Prop} {A0 A1 : Nat → Prop} {H0 : Heap} {a : Array Value} {ls : Array Slot} {st0 rest : List Value}
variable {Qc : Array Value → State → Outcome → State → Prop} {XC : String → State → State → Prop}
/-- what a body that may throw owes at its end -/
def vx_MQ (below : List Frame) (Qc : Array Value → State → Outcome → State → Prop) (XC : String → State → State → Prop) (a : Array Value) (s : State) (mc ms : Nat) (free : Addr → Prop) : State → Prop := fun t =>
  ∃ o, t.status = .running ∧ Ended t below o ∧ vx_Q Qc XC mc ms free a s o t
theorem vx_ret {g : JFrame} {mc ms : Nat} (k : W p l e R s m args below meth c H locs cells slots (MQ below Qc args s mc ms free) g) : W p l e R s m args below meth c H locs cells slots (vx_MQ below Qc XC args s mc ms free) g := by
  intro T hT X
  obtain ⟨t, a1, o, b1, b2, b3, b4⟩ := k T hT X
  exact ⟨t, a1, o, b1, b2, Or.inl ⟨b3, b4⟩⟩
/-- not caught here: it goes on to the caller -/
theorem vx_widen {g : JFrame} {q : Addr} {k n : Nat} (h1 : cells ≤ k) (h2 : slots ≤ n) (kk : vx_W p l e R s m args below meth c H locs k n Q g q) : vx_W p l e R s m args below meth c H locs cells slots Q g q := fun T hT X => kk T hT (stand_widen X h1 h2)
theorem vx_out {pc : Nat} {E : String} {ce : Cell} {q : Addr} {mc ms : Nat} (hout : ∀ x ∈ c.exceptionTable.toList, covers x pc = false) (hlocks : meth.locks = false) (hcell : H[q]? = some ce) (hv : ce.vm = .none) (hcl : s.vm.findClass E = some ce.cls)
    (hx : ∀ t : State, t.heap = H → s.vm.Alike t.vm → XC E s t) (hf : ∀ z ∈ locs, free z.base) (hc : cells ≤ mc) (hs : slots ≤ ms) :
    vx_W p l e R s m args below meth c H locs cells slots (vx_MQ below Qc XC args s mc ms free) (F0 m pc ls rest) q := by
  intro T hT X
  obtain ⟨st1, hrun, hend, hW, hsm⟩ := X.leaveThrown q (g := F0 m pc ls rest) rfl rfl rfl hout hlocks
  have hcell9 : (T.setFrames (.throwing q :: below)).heap[q]? = some ce := by
    show T.heap[q]? = some ce
    rw [hT]; exact hcell
  exact ⟨_, st1, .threw q, hrun, hend, Or.inr ⟨q, rfl, E, ce, locs, hx _ hT hW.alike, hcell9, hv, hcl, hW, hsm.mono hc hs, hf⟩⟩
theorem vx_frame {U : State} {k n : Nat} (h : s.sameButNew ({ U with vm := s.vm } : State) locs k n) : s.heap.size ≤ U.heap.size ∧ ∀ q : Nat, q < s.heap.size → (∀ z ∈ locs, z.base ≠ q) → U.heap[q]? = s.heap[q]? := by
  obtain ⟨-, h2, -, -, -, h6⟩ := h
  refine ⟨h2, fun q hq hz => ?_⟩
  obtain ⟨c9, e1, e2, e3, e4⟩ := h6 q _ (Array.getElem?_eq_getElem hq)
  have hs : c9.slots = (s.heap[q]).slots := Array.ext_getElem? fun i => e4 i fun hm => hz _ hm rfl
  have h9 : c9 = s.heap[q] := by
    rw [hs] at e2
    exact e2
  have e5 : U.heap[q]? = some c9 := e1
  rw [e5, h9, Array.getElem?_eq_getElem hq]
/-- the words of a throw but the four that speak of the heap -/
def vx_no (w : Cond) : Bool := decide (w ≠ .isRef (.static Bundle.tN "UNASSIGNED_STACK" Bundle.steD)) && decide (w ≠ .isRef (.static Bundle.tN "SUPPRESSED_SENTINEL" Bundle.listD)) && decide (w ≠ .laysStatic Bundle.tN "UNASSIGNED_STACK" Bundle.steD) && decide (w ≠ .laysStatic Bundle.tN "SUPPRESSED_SENTINEL" Bundle.listD)
def vx_at0 (own : String) (ic : Nat) (X : String) (names : List String) : List Cond := (Bundle.ownAtoms0 own ic X names).filter vx_no
def vx_atS (own : String) (ic : Nat) (X : String) (names : List String) : List Cond := (Bundle.ownAtoms own ic X names).filter vx_no
/-- a word that the tables alone decide, or a good one -/
def vx_ot (w : Cond) : Bool := w.onTables || goodWord w
theorem vx_ot_at {args a' : Array Value} {s U : State} {w : Cond} (hW : s.WarmedH U.vm) (hvm : s.vm = U.vm) (hg : vx_ot w = true) (h : w.before args s = true) : w.before a' U = true := by
  simp only [vx_ot, Bool.or_eq_true] at hg
  rcases hg with hg | hg
  · exact va_tabs hg hvm h
  · exact word_at hW (good_of_word hg) h
/-- a list's words: the good ones out of the method's own list, the others by premises of their own -/
theorem vx_hat {args : Array Value} {s : State} {L B : List Cond} (h1 : ∀ w ∈ L.filter goodWord, w.before args s = true) (h2 : ∀ w ∈ L.filter (fun w => !goodWord w), w ∈ B) (h3 : ∀ w ∈ B, w.before args s = true) : ∀ w ∈ L, w.before args s = true := by
  intro w hw
  by_cases g : goodWord w = true
  · exact h1 w (List.mem_filter.mpr ⟨hw, g⟩)
  · refine h3 w (h2 w (List.mem_filter.mpr ⟨hw, ?_⟩))
    show (!goodWord w) = true
    cases hgw : goodWord w
    · rfl
    · exact absurd hgw g
theorem vx_c {args : Array Value} {s : State} {w : Cond} {B : List Cond} (h : w.before args s = true) (t : ∀ w ∈ B, w.before args s = true) : ∀ w' ∈ w :: B, w'.before args s = true := fun w' h' => (List.mem_cons.mp h').elim (fun e => by rw [e]; exact h) (t w')
theorem vx_n {args : Array Value} {s : State} : ∀ w ∈ ([] : List Cond), w.before args s = true := fun _ h => nomatch h
theorem vx_own {args : Array Value} {s : State} {L : List Cond} (h1 : ∀ w ∈ L.filter vx_no, w.before args s = true)
    (hU : (Cond.isRef (.static Bundle.tN "UNASSIGNED_STACK" Bundle.steD)).before args s = true) (hN : (Cond.isRef (.static Bundle.tN "SUPPRESSED_SENTINEL" Bundle.listD)).before args s = true)
    (lU : (Cond.laysStatic Bundle.tN "UNASSIGNED_STACK" Bundle.steD).before args s = true) (lN : (Cond.laysStatic Bundle.tN "SUPPRESSED_SENTINEL" Bundle.listD).before args s = true) : ∀ w ∈ L, w.before args s = true := by
  intro w hw
  by_cases e1 : w = .isRef (.static Bundle.tN "UNASSIGNED_STACK" Bundle.steD)
  · rw [e1]; exact hU
  · by_cases e2 : w = .isRef (.static Bundle.tN "SUPPRESSED_SENTINEL" Bundle.listD)
    · rw [e2]; exact hN
    · by_cases e3 : w = .laysStatic Bundle.tN "UNASSIGNED_STACK" Bundle.steD
      · rw [e3]; exact lU
      · by_cases e4 : w = .laysStatic Bundle.tN "SUPPRESSED_SENTINEL" Bundle.listD
        · rw [e4]; exact lN
        · exact h1 w (List.mem_filter.mpr ⟨hw, by unfold vx_no; rw [decide_eq_true e1, decide_eq_true e2, decide_eq_true e3, decide_eq_true e4]; rfl⟩)
/-- where a static field lies, its class's statics cell in H -/
def vx_L (C n d : String) (A : Nat → Prop) (U : State) (H : Heap) : Prop := ∃ (c : ClassId) (k : Class) (i : Nat) (f : Field) (a : Nat) (cell : Cell), U.vm.findClass C = some c ∧ U.fieldFound? C n d = some (c, k, i, f) ∧ f.isStatic = true ∧ k.statics = some a ∧ H[a]? = some cell ∧ cell.vm.isStatics = true ∧ cell.cls = c ∧ f.slot < cell.slots.size ∧ k.staticTypes[f.slot]? = some f.type ∧ ¬ A a
theorem vx_L.moved {C n d : String} {A : Nat → Prop} {u U : State} {H : Heap} (hvm : u.vm.Alike U.vm) (h : vx_L C n d A u H) : vx_L C n d A U H := by
  obtain ⟨c, k, i, f, a, cell, h1, h2, h3, h4, h5, h6, h7, h8, h9, h10⟩ := h
  obtain ⟨k', hi', he⟩ := State.fieldFound?_setVm hvm h2
  exact ⟨c, k', i, f, a, cell, by rw [hvm.findClass]; exact h1, hi', h3, by rw [he]; exact h4, h5, h6, h7, h8, by rw [he]; exact h9, h10⟩
theorem vx_L.kept {C n d : String} {A : Nat → Prop} {U : State} {H H1 : Heap} (h : vx_L C n d A U H) (hq : ∀ a : Nat, a < H.size → ¬ A a → H1[a]? = H[a]?) : vx_L C n d A U H1 := by
  obtain ⟨c, k, i, f, a, cell, h1, h2, h3, h4, h5, h6, h7, h8, h9, h10⟩ := h
  exact ⟨c, k, i, f, a, cell, h1, h2, h3, h4, by rw [hq a (Array.getElem?_eq_some_iff.mp h5).1 h10]; exact h5, h6, h7, h8, h9, h10⟩
theorem vx_L.narrow {C n d : String} {A B : Nat → Prop} {U : State} {H : Heap} (h : vx_L C n d A U H) (hAB : ∀ q, B q → A q) : vx_L C n d B U H := by
  obtain ⟨c, k, i, f, a, cell, h1, h2, h3, h4, h5, h6, h7, h8, h9, h10⟩ := h
  exact ⟨c, k, i, f, a, cell, h1, h2, h3, h4, h5, h6, h7, h8, h9, fun z => h10 (hAB _ z)⟩
theorem vx_L.word {C n d : String} {A : Nat → Prop} {s : State} {args : Array Value} (h : vx_L C n d A s s.heap) : (Cond.laysStatic C n d).before args s = true := by
  obtain ⟨c, k, i, f, a, cell, h1, h2, h3, h4, h5, h6, h7, h8, h9, -⟩ := h
  show (Cond.laysStatic C n d).holds args s none s [] = true
  exact Cond.laysStatic_of h1 h2 h3 h4 h5 h6 h7 h8 h9
/-- .. and what it holds: null or some reference -/
def vx_Zq (C n d : String) (A : Nat → Prop) (U : State) (H : Heap) : Prop := va_Zq C n d A U H ∧ vx_L C n d A U H
theorem vx_Zq.moved {C n d : String} {A : Nat → Prop} {u U : State} {H : Heap} (hvm : u.vm.Alike U.vm) (h : vx_Zq C n d A u H) : vx_Zq C n d A U H := ⟨va_Zq.moved hvm h.1, vx_L.moved hvm h.2⟩
theorem vx_Zq.kept {C n d : String} {A : Nat → Prop} {U : State} {H H1 : Heap} (h : vx_Zq C n d A U H) (hq : ∀ a : Nat, a < H.size → ¬ A a → H1[a]? = H[a]?) : vx_Zq C n d A U H1 := ⟨va_Zq.kept h.1 hq, vx_L.kept h.2 hq⟩
theorem vx_Zq.narrow {C n d : String} {A B : Nat → Prop} {U : State} {H : Heap} (h : vx_Zq C n d A U H) (hAB : ∀ q, B q → A q) : vx_Zq C n d B U H := ⟨va_Zq.narrow h.1 hAB, vx_L.narrow h.2 hAB⟩
theorem vx_Zqof {args : Array Value} {s : State} {C n d : String} {A : Nat → Prop} (hl : (Cond.laysStatic C n d).before args s = true) (hini : (Cond.initialized C).before args s = true) (h : (Cond.isRef (.static C n d)).before args s = true) (hA : ∀ a : Nat, a < s.heap.size → ¬ A a) : vx_Zq C n d A s s.heap := by
  refine ⟨va_Zqof hl hini h hA, ?_⟩
  obtain ⟨c, k, i, f, a, cell, h1, h2, h3, h4, h5, h6, h7, h8, h9⟩ := Cond.laysStatic_spec hl
  exact ⟨c, k, i, f, a, cell, h1, h2, h3, h4, h5, h6, h7, h8, h9, hA a (Array.getElem?_eq_some_iff.mp h5).1⟩
theorem vx_isRef {C n d : String} {v : Value} {A : Nat → Prop} {s : State} {args : Array Value} (h : va_Z C n d v A s s.heap) (hv : v.isRef = true) : (Cond.isRef (.static C n d)).before args s = true := by
  obtain ⟨cf, kf, fi, f, a, cell, h1, h2, h3, h4, h5, h6, h7, -⟩ := h
  have he : (Term.static C n d).eval args s none [] s = some v := by
    simp [Term.eval, State.fieldNamed?, h1, h2, h4, h5, h6, h7]
  simp only [Cond.before, Cond.holds, Cond.value, he]
  cases v <;> simp_all [Value.isRef]
theorem vx_isRefq {C n d : String} {A : Nat → Prop} {s : State} {args : Array Value} (h : va_Zq C n d A s s.heap) : (Cond.isRef (.static C n d)).before args s = true := by
  rcases h with h | ⟨t, h⟩
  · exact vx_isRef h rfl
  · exact vx_isRef h rfl
/-- the same frame, seen from here: as if the method were called anew in this heap -/
theorem vx_rebase {T : State} (X : Stand p l e R s m args below meth c T locs cells slots) {R' : Room} (hf : R'.frames ≤ R.frames) (hl : R'.locals ≤ R.locals) (hc : cells + R'.cells ≤ R.cells) (hs : slots + R'.slots ≤ R.slots) :
    Stand p l e R' ((T.setVm s.vm).setFrames (.invoking m args :: below)) m args below meth c T [] 0 0 := by
  have htop : (T.setVm s.vm).topJava?.isSome := X.here.top
  have hF : ((T.setVm s.vm).setFrames (.invoking m args :: below)).frames = .invoking m args :: below := State.frames_setFrames _ (State.cur_lt_of_top htop)
  obtain ⟨g₀, hg0⟩ := Option.isSome_iff_exists.mp htop
  obtain ⟨r, hr⟩ := State.topJava?_eq_some.mp hg0
  have hl9 : e.platform.stackLimits (T.setVm s.vm).me = e.platform.stackLimits s.me := X.limits
  have hb9 : (T.setVm s.vm).me.stackBytes = s.me.stackBytes := X.bytes
  refine ⟨X.admits, X.cas, X.clock, hF, ?_, X.hears, X.method, X.code, X.here, X.tail, X.warmed, ?_, ?_, ?_⟩
  · have h := X.room
    have hU : ((T.setVm s.vm).setFrames (.invoking m args :: below)).localsInUse = s.localsInUse := by
      rw [State.localsInUse_invoking hF (meth := meth) (c := c) X.method X.code, State.localsInUse_invoking X.frames X.method X.code]
    simp only [State.hasRoom, Bool.and_eq_true, decide_eq_true_eq] at h ⊢
    obtain ⟨⟨⟨⟨h1, h2, h3, h4, h5, h6⟩, h7⟩, h8⟩, h9⟩ := h
    rw [X.frames, List.length_cons] at h2 h3
    have q1 := X.heapSize
    have q2 := X.used
    simp only [hF, hU, List.length_cons, State.stackLimits_setFrames, State.stackBytes_setFrames, hl9, hb9]
    refine ⟨⟨⟨⟨by omega, by omega, by omega, by omega, by omega, h6⟩, ?_⟩, ?_⟩, X.book⟩
    · show T.heap.size + R'.cells ≤ e.platform.maxCells
      omega
    · show T.slotsUsed + R'.slots ≤ e.platform.maxSlots
      omega
  · rw [State.stackLimits_setFrames]; rfl
  · rw [State.stackBytes_setFrames]; rfl
  · refine ⟨?_, Nat.le_refl _, Nat.le_refl _, ?_, ?_, fun a c9 h9 => ⟨c9, h9, rfl, rfl, fun _ _ => rfl⟩⟩
    · obtain ⟨t, ht, -⟩ := State.frames_cons hr
      show T.setVm s.vm = { ((T.setVm s.vm).setFrames (.invoking m args :: below)).setFrames (T.setVm s.vm).frames with heap := T.heap, slotsUsed := T.slotsUsed }
      rw [State.setFrames_setFrames, State.setFrames_self ht]
      rfl
    · show T.slotsUsed = T.slotsUsed + ((T.heap.toList.drop T.heap.size).map (·.slots.size)).sum
      rw [List.drop_eq_nil_of_le (Nat.le_of_eq Array.length_toList)]
      rfl
    · show ((T.heap.toList.drop T.heap.size).map (·.slots.size)).sum ≤ 0
      rw [List.drop_eq_nil_of_le (Nat.le_of_eq Array.length_toList)]
      exact Nat.le_refl _
/-- 'throw new E()': new; dup; invokespecial; athrow -/
theorem vx_throw0 {cc : ByteArray} {pc : Nat} (hexec : p.tables.exec = Jvm.exec) (hb : c.code = cc) (hl : l.stackTraces = false) {own cls : String} {names : List String} {ik ic mc ms : Nat} {A : Nat → Prop}
    (hown : s.vm.findClass own = some m.cls) (hcls : Bundle.fit cls = true) (hnames : ∀ n ∈ names, Bundle.fit n = true)
    (hk : (Cond.classLink own ik cls).before args s = true) (hini : (Cond.initialized cls).before args s = true) (hat : ∀ w ∈ vx_at0 own ic cls names, w.before args s = true)
    (hgood : ∀ w ∈ Cond.classLink own ik cls :: Cond.initialized cls :: vx_at0 own ic cls names, vx_ot w = true)
    (hU : vx_Zq Bundle.tN "UNASSIGNED_STACK" Bundle.steD A s s.heap) (hN : vx_Zq Bundle.tN "SUPPRESSED_SENTINEL" Bundle.listD A s s.heap) (hS : va_S A s.heap H locs) (hsize : ls.size = c.maxLocals)
    (d0 : decode cc pc = .ok (.new ik, 3)) (d3 : decode cc (pc + 3) = .ok (.dup, 1)) (d4 : decode cc (pc + 4) = .ok (.invokespecial ic, 3)) (d7 : decode cc (pc + 7) = .ok (.athrow, 1))
    (hout : ∀ x ∈ c.exceptionTable.toList, covers x (pc + 7) = false)
    (hRframes : names.length + 3 < R.frames) (hRlocals : (rest.map fun v => v.category).sum + (13 * (names.length + 1) + 42) ≤ R.locals) (hRcells : cells + 1 ≤ R.cells) (hRslots : slots + 6 ≤ R.slots) (hlocks : meth.locks = false)
    (hx : ∀ t : State, s.vm.Alike t.vm → H.size ≤ t.heap.size → (∀ q : Nat, q < H.size → t.heap[q]? = H[q]?) → XC cls s t)
    (hf : ∀ z ∈ locs, free z.base) (hc : cells + 1 ≤ mc) (hs : slots + 6 ≤ ms) :
    W p l e R s m args below meth c H locs cells slots (vx_MQ below Qc XC args s mc ms free) (F0 m pc ls rest) := by
  intro T hT X
  have htr : e.platform.stackTraces = false := (show e.platform.stackTraces = l.stackTraces by rw [X.admits.platform]).trans hl
  have Y := vx_rebase X (R' := { frames := R.frames, locals := R.locals, cells := 1, slots := 6 }) (Nat.le_refl _) (Nat.le_refl _) hRcells hRslots
  obtain ⟨s', hA⟩ : ∃ z, z = (T.setVm s.vm).setFrames (.invoking m args :: below) := ⟨_, rfl⟩
  rw [← hA] at Y
  have hvm : s'.vm = s.vm := by rw [hA]; rfl
  have hhp : s'.heap = H := by rw [hA]; exact hT
  have hW0 : s.WarmedH s'.vm := by rw [hvm]; exact State.WarmedH.refl s
  have hat' : ∀ w ∈ vx_at0 own ic cls names, w.before args s' = true := fun w hw => vx_ot_at hW0 hvm.symm (hgood w (List.mem_cons_of_mem _ (List.mem_cons_of_mem _ hw))) (hat w hw)
  have hk' : (Cond.classLink own ik cls).before args s' = true := vx_ot_at hW0 hvm.symm (hgood _ List.mem_cons_self) hk
  have hini' : (Cond.initialized cls).before args s' = true := vx_ot_at hW0 hvm.symm (hgood _ (List.mem_cons_of_mem _ List.mem_cons_self)) hini
  have hU' : vx_Zq Bundle.tN "UNASSIGNED_STACK" Bundle.steD A s' s'.heap := by rw [hhp]; exact vx_Zq.moved hW0.alike (hU.kept hS.2.1)
  have hN' : vx_Zq Bundle.tN "SUPPRESSED_SENTINEL" Bundle.listD A s' s'.heap := by rw [hhp]; exact vx_Zq.moved hW0.alike (hN.kept hS.2.1)
  have h : ∀ w ∈ Bundle.ownAtoms0 own ic cls names, w.before args s' = true := vx_own hat' (vx_isRefq hU'.1) (vx_isRefq hN'.1) hU'.2.word hN'.2.word
  have hown' : s'.vm.findClass own = some m.cls := by rw [hvm]; exact hown
  have hins : (Cond.instantiable cls 6).before args s' = true := h _ (by simp [Bundle.ownAtoms0])
  obtain ⟨vm₁, cX, kX, hfX, hkX, -, -, X₁, st1⟩ := Y.newCold hexec (own := own) (C := cls) (index := ik) (n := 6) hown' hk' hins hini'
    (g := F0 m pc ls rest) rfl (by rw [hb]; exact d0) (Nat.le_refl _) (Nat.le_refl _)
  generalize hT1 : (T.setVm vm₁).pushCell { cls := cX, slots := kX.instanceTypes.map defaultValue, vm := .none } = T1 at X₁ st1
  have hcat : (Value.ref T.heap.size).category = 1 := rfl
  have hcellA : T1.heap[T.heap.size]? = some (freshCell cX kX) := by rw [← hT1]; exact State.heap_pushCell_size _ _
  have d3' : decode c.code (pc + 3) = .ok (.dup, 1) := by rw [hb]; exact d3
  obtain ⟨U, hsteps, hrun, hend, hW, hsame, ce, hce, hO⟩ := X₁.ctorThrow0 hexec htr (own := own) (cls := cls) (names := names) (ic := ic) hown' hcls hnames h (fun x hx => nomatch hx) hfX hkX hcellA (by rw [hhp, hT]; exact Nat.le_refl _)
    (g := { method := m, pc := pc + 4, locals := ls, stack := .ref T.heap.size :: .ref T.heap.size :: rest, locked := none }) rfl hsize rfl rfl (rest := rest) rfl
    (by rw [hb]; exact d4) (by rw [hb]; exact d7) hout hRframes (by simp only [List.map_cons, List.sum_cons, hcat]; omega) hlocks
  obtain ⟨f1, f2⟩ := vx_frame hsame
  rw [hhp] at f1 f2
  have hWs : s.WarmedH U.vm := State.WarmedH.trans hW0 hW
  have hcl : s.vm.findClass cls = some ce.cls := by
    have h9 := hO.cls
    rw [hvm] at h9
    exact h9
  have hall : s.sameButNew ({ U with vm := s.vm } : State) locs mc ms := by
    subst hA
    obtain ⟨e1, e2⟩ := hsame
    rw [State.setFrames_setFrames] at e1
    have h2 : (T.setVm s.vm).sameButNew ({ U with vm := s.vm } : State) [] (0 + 1) (0 + 6) := ⟨e1, e2⟩
    have h3 := X.same.trans h2
    rw [List.append_nil] at h3
    exact h3.mono hc hs
  refine ⟨U, ?_, .threw T.heap.size, hrun, hend, Or.inr ⟨T.heap.size, rfl, cls, ce, locs, hx U hWs.alike f1 (fun q hq => f2 q hq (fun z hz => nomatch hz)), hce, hO.vm, hcl, hWs, hall, hf⟩⟩
  refine st1 _ ?_
  show Steps p.tables e below (T1.setTop { method := m, pc := pc + 3, locals := ls, stack := .ref T.heap.size :: rest, locked := none }) _
  jvm_step X₁.here [X₁.here.top, hexec, d3', Value.category]
  exact hsteps
/-- 'throw new E("text")': new; dup; ldc; invokespecial; athrow -/
theorem vx_throwS {cc : ByteArray} {pc : Nat} (hexec : p.tables.exec = Jvm.exec) (hb : c.code = cc) (hl : l.stackTraces = false) {own cls text : String} {names : List String} {ik is ic mc ms sa : Nat} {A : Nat → Prop}
    (hown : s.vm.findClass own = some m.cls) (hcls : Bundle.fit cls = true) (hnames : ∀ n ∈ names, Bundle.fit n = true)
    (hk : (Cond.classLink own ik cls).before args s = true) (hini : (Cond.initialized cls).before args s = true) (hstr : vk_R own is text sa s) (hat : ∀ w ∈ vx_atS own ic cls names, w.before args s = true)
    (hgood : ∀ w ∈ Cond.classLink own ik cls :: Cond.initialized cls :: vx_atS own ic cls names, vx_ot w = true)
    (hU : vx_Zq Bundle.tN "UNASSIGNED_STACK" Bundle.steD A s s.heap) (hN : vx_Zq Bundle.tN "SUPPRESSED_SENTINEL" Bundle.listD A s s.heap) (hS : va_S A s.heap H locs) (hsize : ls.size = c.maxLocals)
    (d0 : decode cc pc = .ok (.new ik, 3)) (d3 : decode cc (pc + 3) = .ok (.dup, 1)) (d4 : decode cc (pc + 4) = .ok (.ldc is, 2)) (d6 : decode cc (pc + 6) = .ok (.invokespecial ic, 3)) (d9 : decode cc (pc + 9) = .ok (.athrow, 1))
    (hout : ∀ x ∈ c.exceptionTable.toList, covers x (pc + 9) = false)
    (hRframes : names.length + 3 < R.frames) (hRlocals : (rest.map fun v => v.category).sum + (13 * (names.length + 1) + 43) ≤ R.locals) (hRcells : cells + 1 ≤ R.cells) (hRslots : slots + 6 ≤ R.slots) (hlocks : meth.locks = false)
    (hx : ∀ t : State, s.vm.Alike t.vm → H.size ≤ t.heap.size → (∀ q : Nat, q < H.size → t.heap[q]? = H[q]?) → XC cls s t)
    (hf : ∀ z ∈ locs, free z.base) (hc : cells + 1 ≤ mc) (hs : slots + 6 ≤ ms) :
    W p l e R s m args below meth c H locs cells slots (vx_MQ below Qc XC args s mc ms free) (F0 m pc ls rest) := by
  intro T hT X
  have htr : e.platform.stackTraces = false := (show e.platform.stackTraces = l.stackTraces by rw [X.admits.platform]).trans hl
  have Y := vx_rebase X (R' := { frames := R.frames, locals := R.locals, cells := 1, slots := 6 }) (Nat.le_refl _) (Nat.le_refl _) hRcells hRslots
  obtain ⟨s', hA⟩ : ∃ z, z = (T.setVm s.vm).setFrames (.invoking m args :: below) := ⟨_, rfl⟩
  rw [← hA] at Y
  have hvm : s'.vm = s.vm := by rw [hA]; rfl
  have hhp : s'.heap = H := by rw [hA]; exact hT
  have hW0 : s.WarmedH s'.vm := by rw [hvm]; exact State.WarmedH.refl s
  have hat' : ∀ w ∈ vx_atS own ic cls names, w.before args s' = true := fun w hw => vx_ot_at hW0 hvm.symm (hgood w (List.mem_cons_of_mem _ (List.mem_cons_of_mem _ hw))) (hat w hw)
  have hk' : (Cond.classLink own ik cls).before args s' = true := vx_ot_at hW0 hvm.symm (hgood _ List.mem_cons_self) hk
  have hini' : (Cond.initialized cls).before args s' = true := vx_ot_at hW0 hvm.symm (hgood _ (List.mem_cons_of_mem _ List.mem_cons_self)) hini
  have hU' : vx_Zq Bundle.tN "UNASSIGNED_STACK" Bundle.steD A s' s'.heap := by rw [hhp]; exact vx_Zq.moved hW0.alike (hU.kept hS.2.1)
  have hN' : vx_Zq Bundle.tN "SUPPRESSED_SENTINEL" Bundle.listD A s' s'.heap := by rw [hhp]; exact vx_Zq.moved hW0.alike (hN.kept hS.2.1)
  have h : ∀ w ∈ Bundle.ownAtoms own ic cls names, w.before args s' = true := vx_own hat' (vx_isRefq hU'.1) (vx_isRefq hN'.1) hU'.2.word hN'.2.word
  have hown' : s'.vm.findClass own = some m.cls := by rw [hvm]; exact hown
  have hins : (Cond.instantiable cls 6).before args s' = true := h _ (by simp [Bundle.ownAtoms])
  obtain ⟨vm₁, cX, kX, hfX, hkX, -, -, X₁, st1⟩ := Y.newCold hexec (own := own) (C := cls) (index := ik) (n := 6) hown' hk' hins hini'
    (g := F0 m pc ls rest) rfl (by rw [hb]; exact d0) (Nat.le_refl _) (Nat.le_refl _)
  generalize hT1 : (T.setVm vm₁).pushCell { cls := cX, slots := kX.instanceTypes.map defaultValue, vm := .none } = T1 at X₁ st1
  have hcat : (Value.ref T.heap.size).category = 1 := rfl
  have hcellA : T1.heap[T.heap.size]? = some (freshCell cX kX) := by rw [← hT1]; exact State.heap_pushCell_size _ _
  have d3' : decode c.code (pc + 3) = .ok (.dup, 1) := by rw [hb]; exact d3
  have d4' : decode c.code (pc + 4) = .ok (.ldc is, 2) := by rw [hb]; exact d4
  have hstr' : vk_R own is text sa s' := vk_R.warm hW0 hstr
  obtain ⟨U, hsteps, hrun, hend, hW, hsame, ce, hce, hO⟩ := X₁.ctorThrowS hexec htr (own := own) (cls := cls) (names := names) (ic := ic) hown' hcls hnames h (fun x hx => nomatch hx) hfX hkX hcellA (by rw [hhp, hT]; exact Nat.le_refl _) (msg := .ref sa) rfl
    (g := { method := m, pc := pc + 6, locals := ls, stack := .ref sa :: .ref T.heap.size :: .ref T.heap.size :: rest, locked := none }) rfl hsize rfl rfl (rest := rest) rfl
    (by rw [hb]; exact d6) (by rw [hb]; exact d9) hout hRframes (by simp only [List.map_cons, List.sum_cons, hcat]; omega) hlocks
  obtain ⟨f1, f2⟩ := vx_frame hsame
  rw [hhp] at f1 f2
  have hWs : s.WarmedH U.vm := State.WarmedH.trans hW0 hW
  have hcl : s.vm.findClass cls = some ce.cls := by
    have h9 := hO.cls
    rw [hvm] at h9
    exact h9
  have hall : s.sameButNew ({ U with vm := s.vm } : State) locs mc ms := by
    subst hA
    obtain ⟨e1, e2⟩ := hsame
    rw [State.setFrames_setFrames] at e1
    have h2 : (T.setVm s.vm).sameButNew ({ U with vm := s.vm } : State) [] (0 + 1) (0 + 6) := ⟨e1, e2⟩
    have h3 := X.same.trans h2
    rw [List.append_nil] at h3
    exact h3.mono hc hs
  refine ⟨U, ?_, .threw T.heap.size, hrun, hend, Or.inr ⟨T.heap.size, rfl, cls, ce, locs, hx U hWs.alike f1 (fun q hq => f2 q hq (fun z hz => nomatch hz)), hce, hO.vm, hcl, hWs, hall, hf⟩⟩
  refine st1 _ ?_
  show Steps p.tables e below (T1.setTop { method := m, pc := pc + 3, locals := ls, stack := .ref T.heap.size :: rest, locked := none }) _
  jvm_step X₁.here [X₁.here.top, hexec, d3', Value.category]
  exact X₁.ldcString hexec (own := own) (text := text) (index := is) (a := sa) hown' hstr'.1 hstr'.2
    (g := { method := m, pc := pc + 4, locals := ls, stack := .ref T.heap.size :: .ref T.heap.size :: rest, locked := none }) rfl d4' _ hsteps
/-- 'throw new E("text")', the text by a wide index -/
theorem vx_throwSW {cc : ByteArray} {pc : Nat} (hexec : p.tables.exec = Jvm.exec) (hb : c.code = cc) (hl : l.stackTraces = false) {own cls text : String} {names : List String} {ik is ic mc ms sa : Nat} {A : Nat → Prop}
    (hown : s.vm.findClass own = some m.cls) (hcls : Bundle.fit cls = true) (hnames : ∀ n ∈ names, Bundle.fit n = true)
    (hk : (Cond.classLink own ik cls).before args s = true) (hini : (Cond.initialized cls).before args s = true) (hstr : vk_R own is text sa s) (hat : ∀ w ∈ vx_atS own ic cls names, w.before args s = true)
    (hgood : ∀ w ∈ Cond.classLink own ik cls :: Cond.initialized cls :: vx_atS own ic cls names, vx_ot w = true)
    (hU : vx_Zq Bundle.tN "UNASSIGNED_STACK" Bundle.steD A s s.heap) (hN : vx_Zq Bundle.tN "SUPPRESSED_SENTINEL" Bundle.listD A s s.heap) (hS : va_S A s.heap H locs) (hsize : ls.size = c.maxLocals)
    (d0 : decode cc pc = .ok (.new ik, 3)) (d3 : decode cc (pc + 3) = .ok (.dup, 1)) (d4 : decode cc (pc + 4) = .ok (.ldc_w is, 3)) (d7 : decode cc (pc + 7) = .ok (.invokespecial ic, 3)) (d10 : decode cc (pc + 10) = .ok (.athrow, 1))
    (hout : ∀ x ∈ c.exceptionTable.toList, covers x (pc + 10) = false)
    (hRframes : names.length + 3 < R.frames) (hRlocals : (rest.map fun v => v.category).sum + (13 * (names.length + 1) + 43) ≤ R.locals) (hRcells : cells + 1 ≤ R.cells) (hRslots : slots + 6 ≤ R.slots) (hlocks : meth.locks = false)
    (hx : ∀ t : State, s.vm.Alike t.vm → H.size ≤ t.heap.size → (∀ q : Nat, q < H.size → t.heap[q]? = H[q]?) → XC cls s t)
    (hf : ∀ z ∈ locs, free z.base) (hc : cells + 1 ≤ mc) (hs : slots + 6 ≤ ms) :
    W p l e R s m args below meth c H locs cells slots (vx_MQ below Qc XC args s mc ms free) (F0 m pc ls rest) := by
  intro T hT X
  have htr : e.platform.stackTraces = false := (show e.platform.stackTraces = l.stackTraces by rw [X.admits.platform]).trans hl
  have Y := vx_rebase X (R' := { frames := R.frames, locals := R.locals, cells := 1, slots := 6 }) (Nat.le_refl _) (Nat.le_refl _) hRcells hRslots
  obtain ⟨s', hA⟩ : ∃ z, z = (T.setVm s.vm).setFrames (.invoking m args :: below) := ⟨_, rfl⟩
  rw [← hA] at Y
  have hvm : s'.vm = s.vm := by rw [hA]; rfl
  have hhp : s'.heap = H := by rw [hA]; exact hT
  have hW0 : s.WarmedH s'.vm := by rw [hvm]; exact State.WarmedH.refl s
  have hat' : ∀ w ∈ vx_atS own ic cls names, w.before args s' = true := fun w hw => vx_ot_at hW0 hvm.symm (hgood w (List.mem_cons_of_mem _ (List.mem_cons_of_mem _ hw))) (hat w hw)
  have hk' : (Cond.classLink own ik cls).before args s' = true := vx_ot_at hW0 hvm.symm (hgood _ List.mem_cons_self) hk
  have hini' : (Cond.initialized cls).before args s' = true := vx_ot_at hW0 hvm.symm (hgood _ (List.mem_cons_of_mem _ List.mem_cons_self)) hini
  have hU' : vx_Zq Bundle.tN "UNASSIGNED_STACK" Bundle.steD A s' s'.heap := by rw [hhp]; exact vx_Zq.moved hW0.alike (hU.kept hS.2.1)
  have hN' : vx_Zq Bundle.tN "SUPPRESSED_SENTINEL" Bundle.listD A s' s'.heap := by rw [hhp]; exact vx_Zq.moved hW0.alike (hN.kept hS.2.1)
  have h : ∀ w ∈ Bundle.ownAtoms own ic cls names, w.before args s' = true := vx_own hat' (vx_isRefq hU'.1) (vx_isRefq hN'.1) hU'.2.word hN'.2.word
  have hown' : s'.vm.findClass own = some m.cls := by rw [hvm]; exact hown
  have hins : (Cond.instantiable cls 6).before args s' = true := h _ (by simp [Bundle.ownAtoms])
  obtain ⟨vm₁, cX, kX, hfX, hkX, -, -, X₁, st1⟩ := Y.newCold hexec (own := own) (C := cls) (index := ik) (n := 6) hown' hk' hins hini'
    (g := F0 m pc ls rest) rfl (by rw [hb]; exact d0) (Nat.le_refl _) (Nat.le_refl _)
  generalize hT1 : (T.setVm vm₁).pushCell { cls := cX, slots := kX.instanceTypes.map defaultValue, vm := .none } = T1 at X₁ st1
  have hcat : (Value.ref T.heap.size).category = 1 := rfl
  have hcellA : T1.heap[T.heap.size]? = some (freshCell cX kX) := by rw [← hT1]; exact State.heap_pushCell_size _ _
  have d3' : decode c.code (pc + 3) = .ok (.dup, 1) := by rw [hb]; exact d3
  have d4' : decode c.code (pc + 4) = .ok (.ldc_w is, 3) := by rw [hb]; exact d4
  have hstr' : vk_R own is text sa s' := vk_R.warm hW0 hstr
  obtain ⟨U, hsteps, hrun, hend, hW, hsame, ce, hce, hO⟩ := X₁.ctorThrowS hexec htr (own := own) (cls := cls) (names := names) (ic := ic) hown' hcls hnames h (fun x hx => nomatch hx) hfX hkX hcellA (by rw [hhp, hT]; exact Nat.le_refl _) (msg := .ref sa) rfl
    (g := { method := m, pc := pc + 7, locals := ls, stack := .ref sa :: .ref T.heap.size :: .ref T.heap.size :: rest, locked := none }) rfl hsize rfl rfl (rest := rest) rfl
    (by rw [hb]; exact d7) (by rw [hb]; exact d10) hout hRframes (by simp only [List.map_cons, List.sum_cons, hcat]; omega) hlocks
  obtain ⟨f1, f2⟩ := vx_frame hsame
  rw [hhp] at f1 f2
  have hWs : s.WarmedH U.vm := State.WarmedH.trans hW0 hW
  have hcl : s.vm.findClass cls = some ce.cls := by
    have h9 := hO.cls
    rw [hvm] at h9
    exact h9
  have hall : s.sameButNew ({ U with vm := s.vm } : State) locs mc ms := by
    subst hA
    obtain ⟨e1, e2⟩ := hsame
    rw [State.setFrames_setFrames] at e1
    have h2 : (T.setVm s.vm).sameButNew ({ U with vm := s.vm } : State) [] (0 + 1) (0 + 6) := ⟨e1, e2⟩
    have h3 := X.same.trans h2
    rw [List.append_nil] at h3
    exact h3.mono hc hs
  refine ⟨U, ?_, .threw T.heap.size, hrun, hend, Or.inr ⟨T.heap.size, rfl, cls, ce, locs, hx U hWs.alike f1 (fun q hq => f2 q hq (fun z hz => nomatch hz)), hce, hO.vm, hcl, hWs, hall, hf⟩⟩
  refine st1 _ ?_
  show Steps p.tables e below (T1.setTop { method := m, pc := pc + 3, locals := ls, stack := .ref T.heap.size :: rest, locked := none }) _
  jvm_step X₁.here [X₁.here.top, hexec, d3', Value.category]
  exact X₁.ldcStringW hexec (own := own) (text := text) (index := is) (a := sa) hown' hstr'.1 hstr'.2
    (g := { method := m, pc := pc + 4, locals := ls, stack := .ref T.heap.size :: .ref T.heap.size :: rest, locked := none }) rfl d4' _ hsteps
end Ends
section Bodies
variable {l : Launch}
theorem vx_ofW {y : MethodName} {ws ws' : List Cond} {rm : Room} {Pc : Array Value → State → Prop} {Qc : Array Value → State → Outcome → State → Prop} {XC : String → State → State → Prop} {mc ms : Nat} {free : Addr → Prop} {cc : ByteArray} {maxL : Nat} {ret : Option FieldType}
    (hy : plainName y.cls = true) (hw : ws = Cond.code y cc maxL ret :: ws')
    (body : ∀ p e s m args below meth c s₁, BodyLoose p l y (headSpec ws rm) cc maxL ret e s m args below meth c s₁ → c.maxLocals = maxL → (∀ x ∈ c.exceptionTable.toList, False) → Pc args s →
      W p l e (headSpec ws rm).room s m args below meth c s.heap [] 0 0 (vx_MQ below Qc XC args s mc ms free) (entryFrame m args maxL)) : vx_Met l y ws rm Pc Qc XC mc ms free := by
  refine MetFree.of_bodyS (code := cc) (maxLocals := maxL) (ret := ret) hy ?_ ?_
  · intro args s m h hn
    obtain ⟨meth, c, h1, h2, h3, h4, h5, h6, -, -⟩ := Cond.code_spec hn (atoms_spec (ws := ws) h _ (by rw [hw]; exact List.mem_cons_self))
    exact ⟨meth, c, h1, h2, h3, h4, h5, h6⟩
  · intro p e s m args below meth c s₁ B hml hP _
    have hh0 : s₁.heap = s.heap := by rw [B.state]; rfl
    have ht : ∀ x ∈ c.exceptionTable.toList, False := by
      obtain ⟨meth9, c9, h1, h2, -, -, -, -, h7, -⟩ := Cond.code_spec B.named (atoms_spec (ws := ws) B.pre _ (by rw [hw]; exact List.mem_cons_self))
      cases Option.some.inj (h1.symm.trans B.method)
      cases Option.some.inj (h2.symm.trans (Stand.of_body B).code)
      intro x hx
      rw [Array.isEmpty_iff.mp h7] at hx
      cases hx
    obtain ⟨t, a1, o, b1, b2, b3⟩ := body p e s m args below meth c s₁ B hml ht hP s₁ hh0 (Stand.of_body B)
    exact ⟨t, o, a1, b1, b2, b3⟩
/-- the table of a body with handlers -/
theorem vx_table {p : Program} {x y : MethodName} {S : Spec} {cc bytes : ByteArray} {maxL maxL' : Nat} {ret ret' : Option FieldType} {e : Env} {s s₁ : State} {m : MethodId} {args : Array Value} {below : List Frame} {meth : Method} {c : Code} {hh : List (Nat × Nat × Nat × Nat)}
    (B : BodyLoose p l y S cc maxL ret e s m args below meth c s₁) (h : (Cond.codeWith y bytes maxL' ret' hh).before args s = true) : c.exceptionTable.toList = tableOf hh := by
  obtain ⟨m9, meth9, c9, hn9, h1, h2, -, -, h6, -⟩ := Cond.codeWith_spec h
  cases Option.some.inj (hn9.symm.trans B.named)
  cases Option.some.inj (h1.symm.trans B.method)
  cases Option.some.inj (h2.symm.trans (Stand.of_body B).code)
  rw [← h6, table_eq]
end Bodies
end VXA
/-! ===== END ===== -/
/-! ===== BEGIN a static call of a method with an exception table ===== -/
section VXS
variable {p : Program} {l : Launch} {e : Env} {R : Room} {s : State} {m : MethodId} {args : Array Value} {below : List Frame} {meth : Method} {c : Code} {T : State} {H : Heap} {locs : List Loc} {cells slots : Nat}
abbrev vx_CSW (R : Room) (s : State) (args : Array Value) (own : String) (index : Nat) (y : MethodName) (bytes : ByteArray) (maxL : Nat) (ret : Option FieldType) (hh : List (Nat × Nat × Nat × Nat)) (ws : List Cond) (rm : Room) (mc ms n : Nat) : Prop :=
  (rm.cells = mc ∧ rm.slots = ms ∧ rm.frames + 1 ≤ R.frames ∧ 8 + (maxL + 11) + rm.locals ≤ R.locals ∧ (∀ w ∈ ws, ∀ (a' : Array Value) (U : State), s.WarmedH U.vm → w.before a' U = true) ∧ Cond.codeWith y bytes maxL ret hh ∈ ws) ∧
  (Cond.codeWith y bytes maxL ret hh).before args s = true ∧ (Cond.initialized y.cls).before args s = true ∧ (y.cls ≠ "java/lang/invoke/MethodHandle" ∧ y.cls ≠ "java/lang/invoke/VarHandle") ∧
  (∀ sig, parseMethodDescriptor y.desc = some sig → n = sig.parameters.length) ∧ (Cond.methodLink own index y).before args s = true ∧ (Cond.static y).before args s = true
theorem vx_cwSW {own : String} {index maxL mc ms : Nat} {y : MethodName} {bytes : ByteArray} {ret : Option FieldType} {hh : List (Nat × Nat × Nat × Nat)} {Ts ws ws' : List Cond} {rm : Room} (n : Nat) (ht : ∀ w ∈ Ts, w.before args s = true) (hT : GoodIn Ts (va_wsS own index y ws)) (hw : ws = Cond.codeWith y bytes maxL ret hh :: ws') (hrc : rm.cells = mc) (hrs : rm.slots = ms)
    (hd : y.cls ≠ "java/lang/invoke/MethodHandle" ∧ y.cls ≠ "java/lang/invoke/VarHandle" ∧ (parseMethodDescriptor y.desc).map (fun d => d.parameters.length) = some n) (hR : rm.frames + 1 ≤ R.frames ∧ 8 + (maxL + 11) + rm.locals ≤ R.locals) :
    vx_CSW R s args own index y bytes maxL ret hh ws rm mc ms n := by
  have ok : ∀ w ∈ va_wsS own index y ws, w.before args s = true := fun w h => ht w (hT w h).1
  have hG : GoodIn Ts ws := fun w h => hT w (by unfold va_wsS; exact List.mem_append_right _ h)
  have hc : Cond.codeWith y bytes maxL ret hh ∈ ws := by rw [hw]; exact List.mem_cons_self
  refine ⟨⟨hrc, hrs, hR.1, hR.2, pay_in ht hG, hc⟩, ht _ (hG _ hc).1, ok _ (by simp [va_wsS]), ⟨hd.1, hd.2.1⟩, fun sig h => ?_, ok _ (by simp [va_wsS]), ok _ (by simp [va_wsS])⟩
  have h2 := hd.2.2
  rw [h] at h2
  exact (Option.some.inj h2).symm
theorem vx_callSW (X : Stand p l e R s m args below meth c T locs cells slots) (hexec : p.tables.exec = Jvm.exec) {own : String} {index : Nat} {y : MethodName} {bytes : ByteArray} {maxL : Nat} {ret : Option FieldType} {hh : List (Nat × Nat × Nat × Nat)}
    (hown : s.vm.findClass own = some m.cls) (hlink : (Cond.methodLink own index y).before args s = true) (hstat : (Cond.static y).before args s = true) (hinit : (Cond.initialized y.cls).before args s = true)
    (hcode : (Cond.codeWith y bytes maxL ret hh).before args s = true) (hy : y.cls ≠ "java/lang/invoke/MethodHandle" ∧ y.cls ≠ "java/lang/invoke/VarHandle")
    {W9 : Nat} {Pre : Pt → Array Value → Prop} {Post : Pt → Array Value → Option Value → Pt → Prop} (hK : Back l R p e below s args y 3 W9 Pre Post)
    {g : JFrame} (hg : g.method = m) (hsize : g.locals.size = c.maxLocals) {argsL rest : List Value} (hlen : ∀ sig, parseMethodDescriptor y.desc = some sig → argsL.length = sig.parameters.length)
    (hstack : g.stack = argsL.reverse ++ rest) (hW : 2 * g.monitorRoom + (rest.map fun v => v.category).sum ≤ W9) (hdg : decode c.code g.pc = .ok (.invokestatic index, 3))
    (hpre : ∀ vm₁, s.WarmedH vm₁ → Pre ⟨T.setVm vm₁, locs, cells, slots⟩ argsL.toArray) :
    ∃ (v : Option Value) (vm₁ : Vm) (B : Pt), s.WarmedH vm₁ ∧ Stand p l e R s m args below meth c B.U B.locs B.cells B.slots ∧ Post ⟨T.setVm vm₁, locs, cells, slots⟩ argsL.toArray v B ∧
      ∀ target, Steps p.tables e below (B.U.setTop { g with pc := g.pc + 3, stack := v.toList ++ rest }) target → Steps p.tables e below (T.setTop g) target := by
  obtain ⟨mk, methM, cM, hnamed, hmethM, -, -, -, -, -, -, hsigM⟩ := Cond.codeWith_spec hcode
  have hstatic : methM.isStatic = true := Cond.static_spec hnamed hmethM hstat
  obtain ⟨kP, hkP, -⟩ := className_of_methodNamed hnamed
  have hinitP : kP.init = .initialized := Cond.initialized_spec (findClass_of_methodNamed hnamed) hkP hinit
  obtain ⟨vm₁, X₁, hstep₁⟩ := X.invokestatic hexec hown hlink hnamed hmethM hstatic hkP hinitP hy (g := g) hg (argsL := argsL) (rest := rest) (hlen _ hsigM) hstack hdg
  obtain ⟨v, B, X', hpost, hsteps⟩ := hK m meth c ⟨T.setVm vm₁, locs, cells, slots⟩ { g with stack := rest } (.invokestatic index) mk argsL.toArray X₁ hg hsize hdg hW (X₁.named hnamed) (hpre vm₁ X₁.warmed)
  exact ⟨v, vm₁, B, X₁.warmed, X', hpost, fun target h => hstep₁ _ fun acts => by rw [doInvoke_state]; exact hsteps.trans h⟩
theorem vx_runSW {y : MethodName} {bytes cc : ByteArray} {maxL nL mc ms n index : Nat} {ret : Option FieldType} {hh : List (Nat × Nat × Nat × Nat)} {ws : List Cond} {rm : Room} {Pc : Array Value → State → Prop} {Qc : Array Value → State → Outcome → State → Prop} {free : Addr → Prop} {Ts : List Cond} {own : String} {As rest : List Value} {g : JFrame}
    (S : CallFix p m c cc nL s args Ts own) (hM : Met l y ws rm Pc Qc mc ms free) (cw : vx_CSW R s args own index y bytes maxL ret hh ws rm mc ms n) (hp : PreS s H Pc As)
    (hg : g.method = m) (hn : As.length = n) (hsize : g.locals.size = nL) (hstack : g.stack = As.reverse ++ rest) (hW : 2 * g.monitorRoom + (rest.map fun v => v.category).sum ≤ 8) (hdg : decode cc g.pc = .ok (.invokestatic index, 3)) (hf : cells + mc ≤ R.cells ∧ slots + ms ≤ R.slots) :
    va_Run p l e R s m args below meth c H locs cells slots mc ms g rest (Qc As.toArray) (free) := by
  obtain ⟨⟨hrc, hrs, hfr, hlo, hws, hcw⟩, hcode, hini, hy, hlen, hl, hstt⟩ := cw
  have hK : Back l R p e below s args y 3 8 (PreOf R mc ms Pc) (PostOf Qc mc ms free) := va_backW (hh := hh) (bytes := bytes) (maxL := maxL) (ret := ret) hM hp.1 hrc hrs hfr hlo hws hcw (fun a' U hW => word_at hW (Or.inl (by first | rfl | simp [Cond.onTables, Cond.keeps, Cond.steady])) hini)
  obtain ⟨hx, hb, hml, ho, -⟩ := S
  intro T hT X
  obtain ⟨v, vm₁, ⟨U', l2, c2, s2⟩, hW₁, X', ⟨g', mk, t, L, e1, e2, hq, h1, hL, h2, h3⟩, st⟩ := vx_callSW X hx (hh := hh) (bytes := bytes) (maxL := maxL) (ret := ret) ho hl hstt hini hcode hy hK hg (hsize.trans hml.symm) (argsL := As) (rest := rest) (fun sig h => hn.trans (hlen sig h)) hstack hW (by rw [hb]; exact hdg)
    (fun vm₁ hW₁ => ⟨hf.1, hf.2, hp.2 (T.setVm vm₁) hT hW₁⟩)
  dsimp only [Pt.U, Pt.locs, Pt.cells, Pt.slots] at X' e1 e2 h1 h2 h3 st
  subst h1; subst h2; subst h3
  exact ⟨v, (T.setVm vm₁).calling g' mk As.toArray, t, U', L, hT, X', hL, e1, e2, hq, st⟩
/-- not caught here, past rows that name other classes: it goes on to the caller -/
theorem vx_outP {p : Program} {l : Launch} {e : Env} {R : Room} {s : State} {m : MethodId} {args : Array Value} {below : List Frame} {meth : Method} {c : Code} {H : Heap} {locs : List Loc} {cells slots : Nat} {free : Addr → Prop} {ls : Array Slot} {rest : List Value} {Qc : Array Value → State → Outcome → State → Prop} {XC : String → State → State → Prop}
    {pc : Nat} {own E : String} {ce : Cell} {q : Addr} {mc ms : Nat} (hown : s.vm.findClass own = some m.cls) (hlocks : meth.locks = false)
    (hpass : ∀ z ∈ c.exceptionTable.toList, covers z pc = false ∨ (z.catchType ≠ 0 ∧ ∃ nm : String, (Cond.classLink own z.catchType nm).before args s = true ∧ va_Nc E nm s)) (hcell : H[q]? = some ce) (hv : ce.vm = .none) (hcl : s.vm.findClass E = some ce.cls)
    (hx : ∀ t : State, t.heap = H → s.vm.Alike t.vm → XC E s t) (hf : ∀ z ∈ locs, free z.base) (hc : cells ≤ mc) (hs : slots ≤ ms) :
    vx_W p l e R s m args below meth c H locs cells slots (vx_MQ below Qc XC args s mc ms free) (F0 m pc ls rest) q := by
  intro T hT X
  have hpl : e.platform.magicAccessors = ({} : Platform).magicAccessors := by rw [X.admits.platform]
  obtain ⟨vm', hW', X', st⟩ := X.outThrough hlocks q (g := F0 m pc ls rest) rfl rfl rfl (cell := ce) (by rw [hT]; exact hcell) (by rw [hv]; rfl)
    (by obtain ⟨k9, h9, -⟩ := Vm.findClass_spec hcl; exact ⟨k9, h9⟩) (fun z hz => by
      rcases hpass z hz with h | ⟨hz0, nm, hl1, hn1⟩
      · exact Or.inl h
      · obtain ⟨c6, hc6, hcl6⟩ := Cond.classLink_spec hown hl1 e.platform hpl
        obtain ⟨a8, b8, h1, h2, h3⟩ := hn1
        cases Option.some.inj (h1.symm.trans hcl)
        cases Option.some.inj (h2.symm.trans hc6)
        exact Or.inr ⟨hz0, _, hcl6, h3⟩)
  obtain ⟨g₀, hfr⟩ := X'.frames_eq
  have hcell9 : ((T.setVm vm').setFrames (.throwing q :: below)).heap[q]? = some ce := by
    show T.heap[q]? = some ce
    rw [hT]; exact hcell
  have hend : Ended ((T.setVm vm').setFrames (.throwing q :: below)) below (.threw q) := State.frames_setFrames _ (State.cur_lt_of_frames hfr)
  refine ⟨(T.setVm vm').setFrames (.throwing q :: below), ?_, .threw q, X'.here.running, hend, Or.inr ⟨q, rfl, E, ce, locs, hx _ hT (X'.ends _).1.alike, hcell9, hv, hcl, (X'.ends _).1, (X'.ends _).2.mono hc hs, hf⟩⟩
  rw [X.pushThrowing_eq]
  exact st
/-- a thing of a world lies in the heap -/
theorem vx_lt {D : va_G} {cl : List vw_C} {ws : va_W} {H1 : Heap} (h : va_P D cl ws H1) {k : Nat} {q : Nat × va_E} (hk : ws[k]? = some q) : q.1 < H1.size := (h k q hk).lt
end VXS
/-! ===== END ===== -/
/-! ===== BEGIN methods with a table of their own: called by a name, returning or throwing ===== -/
section VXH
/-! vx_backW, vx_callVX, vx_callSX, vx_callVW, vx_runVW, vx_runVX, vx_runSX, vx_ofWH follow the same proofs as their sisters above (Free/Laws.lean, Shelf42/LK1.lean); vx_outP calls Shelf42/NT130.lean (outThrough). -/
section
variable {l : Launch} {R : Room} {p : Program} {e : Env} {below : List Frame} {s : State} {sargs : Array Value} {y : MethodName} {len W9 : Nat}
theorem vx_backW {ws : List Cond} {rm : Room} {Pc : Array Value → State → Prop} {Qc : Array Value → State → Outcome → State → Prop} {XC : String → State → State → Prop} {mc ms : Nat} {free : Addr → Prop} {bytes : ByteArray} {maxL : Nat} {ret : Option FieldType} {hh : List (Nat × Nat × Nat × Nat)}
    (hM : vx_Met l y ws rm Pc Qc XC mc ms free) (hblind : FrameBlind Pc) (hrc : rm.cells = mc) (hrs : rm.slots = ms)
    (hframes : rm.frames + 1 ≤ R.frames) (hlocals : W9 + (maxL + 11) + rm.locals ≤ R.locals)
    (hws : ∀ w ∈ ws, ∀ a' U, s.WarmedH U.vm → w.before a' U = true) (hcode : Cond.codeWith y bytes maxL ret hh ∈ ws) (hinit : ∀ a' U, s.WarmedH U.vm → (Cond.initialized y.cls).before a' U = true) :
    vx_Back l R p e below s sargs y len W9 (PreOf R mc ms Pc) (PostOf Qc mc ms free) (vx_Post XC mc ms free) := by
  intro m meth c A g ig mk a X hg hsize hdg hW hn hp
  have h1 : (headSpec ws rm).pre.before a A.U = true := atoms_intro fun w hw => hws w hw _ _ X.warmed
  have h2 : (Cond.codeWith y bytes maxL ret hh).before a A.U = true := hws _ hcode _ _ X.warmed
  have h3 : (Cond.initialized y.cls).before a A.U = true := hinit _ _ X.warmed
  have h4 : A.cells + (headSpec ws rm).room.cells ≤ R.cells := by rw [show (headSpec ws rm).room.cells = mc from hrc]; exact hp.1
  have h5 : A.slots + (headSpec ws rm).room.slots ≤ R.slots := by rw [show (headSpec ws rm).room.slots = ms from hrs]; exact hp.2.1
  have hPc : Pc a (A.U.calling g mk a) := hblind _ _ _ _ hp.2.2
  obtain ⟨U, Ls, c0, s0⟩ := A
  dsimp only [Pt.U, Pt.locs, Pt.cells, Pt.slots] at h1 h2 h3 h4 h5 X hn hPc ⊢
  obtain ⟨m9, methY, cY, hn9, hmY, hcY, -, hlY, -⟩ := Cond.codeWith_spec h2
  cases Option.some.inj (hn9.symm.trans hn)
  obtain ⟨kY, hkY, -⟩ := className_of_methodNamed hn
  have hinitY : kY.init = .initialized := Cond.initialized_spec (findClass_of_methodNamed hn) hkY h3
  have h : At U g.method c below := by rw [hg]; exact X.here
  have hlocals9 : W9 + (maxL + 11) + (headSpec ws rm).room.locals ≤ R.locals := hlocals
  have happ : (headSpec ws rm).appliesLoose y e.platform (U.calling g mk a) = true :=
    Spec.appliesLoose_calling (g := g) h hdg hn hkY hinitY
      (X.room_calling (g := g) (R' := (headSpec ws rm).room) hsize hmY hcY hframes (by rw [hlY]; omega) h4 h5) h1
  obtain ⟨mid, hmid⟩ := h.above
  have hfr : (U.setTop g).frames = (.java g :: mid) ++ below := by rw [State.frames_setTop' g h.top, hmid]; rfl
  obtain ⟨o, s₂, hsteps, -, hend, hq⟩ := Steps.callFree hM p X.admits X.cas X.clock (acts := []) hfr happ hPc trivial
  have hq' : vx_Q Qc XC mc ms free a (U.calling g mk a) o s₂ := hq
  rw [State.frames_setTop' g h.top] at hend
  obtain ⟨g₀, hg0⟩ := Option.isSome_iff_exists.mp h.top
  obtain ⟨r, hr⟩ := State.topJava?_eq_some.mp hg0
  have hr' : (({ U with heap := s₂.heap, slotsUsed := s₂.slotsUsed } : State).setVm s₂.vm).frames = .java g₀ :: r := hr
  rcases hq' with ⟨hqc, L, hfe, hL⟩ | ⟨q, rfl, E, ce, L, hx, hce, hcv, hcl, hW₂, hsm, hL⟩
  · obtain ⟨⟨v, rfl⟩, hW₂, e2, q2, q3, q4, q5, q6⟩ := id hfe
    have e3 : s₂ = ({ (U.calling g mk a).setFrames s₂.frames with heap := s₂.heap, slotsUsed := s₂.slotsUsed } : State).setVm s₂.vm := by
      have : s₂ = ({ s₂ with vm := (U.calling g mk a).vm } : State).setVm s₂.vm := rfl
      rw [e2] at this
      exact this
    obtain ⟨c₂, i₂, len₂, hc₂, hd₂, hf₂⟩ := hend
    have hW' : U.WarmedH s₂.vm := hW₂
    have hcc : c₂ = c := by
      have h1 : s₂.code? g.method = U.code? g.method := by
        rw [State.code?_eq, State.code?_eq, hW'.alike.method?]
      exact Option.some.inj (hc₂.symm.trans (h1.trans h.code))
    subst hcc
    have hlen : len₂ = len := by rw [hdg] at hd₂; cases hd₂; rfl
    subst hlen
    have hs₂ : s₂ = (({ U with heap := s₂.heap, slotsUsed := s₂.slotsUsed } : State).setVm s₂.vm).setTop { g with pc := g.pc + len₂, stack := v.toList ++ g.stack } := by
      refine e3.trans ?_
      rw [hf₂, State.calling_eq h.top, State.setFrames_setFrames, State.setTop_of_frames _ hr', hr]
      rfl
    have hsame : U.sameButNew ({ U with heap := s₂.heap, slotsUsed := s₂.slotsUsed } : State) L mc ms := by
      refine ⟨?_, q2, q3, q4, q5, q6⟩
      obtain ⟨t, ht, -⟩ := State.frames_cons hr
      show ({ U with heap := s₂.heap, slotsUsed := s₂.slotsUsed } : State) = { U.setFrames U.frames with heap := s₂.heap, slotsUsed := s₂.slotsUsed }
      rw [State.setFrames_self ht]
    subst hg
    refine Or.inl ⟨v, ⟨(({ U with heap := s₂.heap, slotsUsed := s₂.slotsUsed } : State).setVm s₂.vm), Ls ++ L, c0 + mc, s0 + ms⟩,
      ⟨X.admits, X.cas, X.clock, X.frames, X.room, X.hears, X.method, X.code, (X.here.setHeapUsed s₂.heap s₂.slotsUsed).setVm hW'.alike, X.tail, State.WarmedH.trans X.warmed hW', X.limits, X.bytes, X.same.trans (hsame.setVm s.vm)⟩,
      ⟨g, mk, s₂, L, rfl, rfl, hqc, rfl, hL, rfl, rfl⟩, ?_⟩
    show Steps p.tables e below _ ((({ U with heap := s₂.heap, slotsUsed := s₂.slotsUsed } : State).setVm s₂.vm).setTop { g with pc := g.pc + len₂, stack := v.toList ++ g.stack })
    rw [← hs₂]
    exact hsteps
  · obtain ⟨e2, q2, q3, q4, q5, q6⟩ := id hsm
    have e3 : s₂ = ({ (U.calling g mk a).setFrames s₂.frames with heap := s₂.heap, slotsUsed := s₂.slotsUsed } : State).setVm s₂.vm := by
      have : s₂ = ({ s₂ with vm := (U.calling g mk a).vm } : State).setVm s₂.vm := rfl
      rw [e2] at this
      exact this
    have hf₂ : s₂.frames = .throwing q :: .java g :: U.frames.tail := hend
    have hW' : U.WarmedH s₂.vm := hW₂
    have hs₂ : s₂ = ((({ U with heap := s₂.heap, slotsUsed := s₂.slotsUsed } : State).setVm s₂.vm).setTop g).pushFrame (.throwing q) := by
      refine e3.trans ?_
      rw [hf₂, State.calling_eq h.top, State.setFrames_setFrames, State.pushFrame, State.frames_setTop _ hr', State.setTop_of_frames _ hr', State.setFrames_setFrames, hr]
      rfl
    have hsame : U.sameButNew ({ U with heap := s₂.heap, slotsUsed := s₂.slotsUsed } : State) L mc ms := by
      refine ⟨?_, q2, q3, q4, q5, q6⟩
      obtain ⟨t, ht, -⟩ := State.frames_cons hr
      show ({ U with heap := s₂.heap, slotsUsed := s₂.slotsUsed } : State) = { U.setFrames U.frames with heap := s₂.heap, slotsUsed := s₂.slotsUsed }
      rw [State.setFrames_self ht]
    subst hg
    refine Or.inr ⟨q, ⟨(({ U with heap := s₂.heap, slotsUsed := s₂.slotsUsed } : State).setVm s₂.vm), Ls ++ L, c0 + mc, s0 + ms⟩,
      ⟨X.admits, X.cas, X.clock, X.frames, X.room, X.hears, X.method, X.code, (X.here.setHeapUsed s₂.heap s₂.slotsUsed).setVm hW'.alike, X.tail, State.WarmedH.trans X.warmed hW', X.limits, X.bytes, X.same.trans (hsame.setVm s.vm)⟩,
      ⟨g, mk, s₂, L, E, ce, rfl, rfl, hx, hce, hcv, hcl, rfl, hL, rfl, rfl⟩, ?_⟩
    show Steps p.tables e below _ (((({ U with heap := s₂.heap, slotsUsed := s₂.slotsUsed } : State).setVm s₂.vm).setTop g).pushFrame (.throwing q))
    rw [← hs₂]
    exact hsteps
end
variable {p : Program} {l : Launch} {e : Env} {R : Room} {s : State} {m : MethodId} {args : Array Value} {below : List Frame} {meth : Method} {c : Code} {T : State} {H : Heap} {locs : List Loc} {cells slots : Nat}
theorem vx_callVX (X : Stand p l e R s m args below meth c T locs cells slots) (hexec : p.tables.exec = Jvm.exec) {own C : String} {index : Nat} {y : MethodName} {bytes : ByteArray} {maxL : Nat} {ret : Option FieldType} {hh : List (Nat × Nat × Nat × Nat)}
    (hown : s.vm.findClass own = some m.cls) (hlink : (Cond.methodLink own index y).before args s = true) (hinst : (Cond.instanceMethod y).before args s = true) (hsel : (Cond.selects C y y).before args s = true)
    (hcode : (Cond.codeWith y bytes maxL ret hh).before args s = true) (hy : y.cls ≠ "java/lang/invoke/MethodHandle" ∧ y.cls ≠ "java/lang/invoke/VarHandle")
    {W9 : Nat} {Pre : Pt → Array Value → Prop} {Post : Pt → Array Value → Option Value → Pt → Prop} {PostX : Pt → Array Value → Addr → Pt → Prop} (hK : vx_Back l R p e below s args y 3 W9 Pre Post PostX)
    {b : Addr} {cellB : Cell} (hcell : T.heap[b]? = some cellB) (hobj : cellB.vm.isStatics = false) (hcls : s.vm.findClass C = some cellB.cls)
    {g : JFrame} (hg : g.method = m) (hsize : g.locals.size = c.maxLocals) {argsL rest : List Value} (hlen : ∀ sig, parseMethodDescriptor y.desc = some sig → argsL.length = sig.parameters.length)
    (hstack : g.stack = argsL.reverse ++ .ref b :: rest) (hW : 2 * g.monitorRoom + (rest.map fun v => v.category).sum ≤ W9) (hdg : decode c.code g.pc = .ok (.invokevirtual index, 3))
    (hpre : ∀ vm₁, s.WarmedH vm₁ → Pre ⟨T.setVm vm₁, locs, cells, slots⟩ (Value.ref b :: argsL).toArray) :
    (∃ (v : Option Value) (vm₁ : Vm) (B : Pt), s.WarmedH vm₁ ∧ Stand p l e R s m args below meth c B.U B.locs B.cells B.slots ∧ Post ⟨T.setVm vm₁, locs, cells, slots⟩ (Value.ref b :: argsL).toArray v B ∧
      ∀ target, Steps p.tables e below (B.U.setTop { g with pc := g.pc + 3, stack := v.toList ++ rest }) target → Steps p.tables e below (T.setTop g) target) ∨
    (∃ (q : Addr) (vm₁ : Vm) (B : Pt), s.WarmedH vm₁ ∧ Stand p l e R s m args below meth c B.U B.locs B.cells B.slots ∧ PostX ⟨T.setVm vm₁, locs, cells, slots⟩ (Value.ref b :: argsL).toArray q B ∧
      Steps p.tables e below (T.setTop g) ((B.U.setTop { g with stack := rest }).pushFrame (.throwing q))) := by
  obtain ⟨mk, methM, hnamed, hmethM, hstM, habM⟩ := Cond.instanceMethod_spec hinst
  obtain ⟨m8, methM', cM, hn8, hmethM', -, -, -, -, -, -, hsigM⟩ := Cond.codeWith_spec hcode
  cases Option.some.inj (hn8.symm.trans hnamed)
  cases hmethM.symm.trans hmethM'
  obtain ⟨c2, r2, m2, q1, q2, q3, q4, kP, hkP, hkPi⟩ := Cond.selects_spec hsel
  cases hcls.symm.trans q1
  cases (State.methodFound?_of_named hnamed hy).symm.trans q2
  cases hnamed.symm.trans q3
  have hselP : selectMethod e.platform s.vm cellB.cls mk = .method mk := by rw [Launch.admits_selectMethod X.admits]; exact q4
  obtain ⟨vm₁, X₁, hstep₁⟩ := X.invokevirtual hexec hown hlink hnamed hmethM hstM hkP hkPi hy (a := b) (cell := cellB) hcell
    (fun z h => by rw [h] at hobj; cases hobj) hselP hmethM habM hkP hkPi (g := g) hg (argsL := argsL) (rest := rest) (hlen _ hsigM) hstack hdg
  rcases hK m meth c ⟨T.setVm vm₁, locs, cells, slots⟩ { g with stack := rest } (.invokevirtual index) mk (Value.ref b :: argsL).toArray X₁ hg hsize hdg hW (X₁.named hnamed) (hpre vm₁ X₁.warmed) with ⟨v, B, X', hpost, hsteps⟩ | ⟨q, B, X', hpost, hsteps⟩
  · exact Or.inl ⟨v, vm₁, B, X₁.warmed, X', hpost, fun target h => hstep₁ _ fun acts => by rw [doInvoke_state]; exact hsteps.trans h⟩
  · exact Or.inr ⟨q, vm₁, B, X₁.warmed, X', hpost, hstep₁ _ fun acts => by rw [doInvoke_state]; exact hsteps⟩
theorem vx_callSX (X : Stand p l e R s m args below meth c T locs cells slots) (hexec : p.tables.exec = Jvm.exec) {own : String} {index : Nat} {y : MethodName} {bytes : ByteArray} {maxL : Nat} {ret : Option FieldType} {hh : List (Nat × Nat × Nat × Nat)}
    (hown : s.vm.findClass own = some m.cls) (hlink : (Cond.methodLink own index y).before args s = true) (hstat : (Cond.static y).before args s = true) (hinit : (Cond.initialized y.cls).before args s = true)
    (hcode : (Cond.codeWith y bytes maxL ret hh).before args s = true) (hy : y.cls ≠ "java/lang/invoke/MethodHandle" ∧ y.cls ≠ "java/lang/invoke/VarHandle")
    {W9 : Nat} {Pre : Pt → Array Value → Prop} {Post : Pt → Array Value → Option Value → Pt → Prop} {PostX : Pt → Array Value → Addr → Pt → Prop} (hK : vx_Back l R p e below s args y 3 W9 Pre Post PostX)
    {g : JFrame} (hg : g.method = m) (hsize : g.locals.size = c.maxLocals) {argsL rest : List Value} (hlen : ∀ sig, parseMethodDescriptor y.desc = some sig → argsL.length = sig.parameters.length)
    (hstack : g.stack = argsL.reverse ++ rest) (hW : 2 * g.monitorRoom + (rest.map fun v => v.category).sum ≤ W9) (hdg : decode c.code g.pc = .ok (.invokestatic index, 3))
    (hpre : ∀ vm₁, s.WarmedH vm₁ → Pre ⟨T.setVm vm₁, locs, cells, slots⟩ argsL.toArray) :
    (∃ (v : Option Value) (vm₁ : Vm) (B : Pt), s.WarmedH vm₁ ∧ Stand p l e R s m args below meth c B.U B.locs B.cells B.slots ∧ Post ⟨T.setVm vm₁, locs, cells, slots⟩ argsL.toArray v B ∧
      ∀ target, Steps p.tables e below (B.U.setTop { g with pc := g.pc + 3, stack := v.toList ++ rest }) target → Steps p.tables e below (T.setTop g) target) ∨
    (∃ (q : Addr) (vm₁ : Vm) (B : Pt), s.WarmedH vm₁ ∧ Stand p l e R s m args below meth c B.U B.locs B.cells B.slots ∧ PostX ⟨T.setVm vm₁, locs, cells, slots⟩ argsL.toArray q B ∧
      Steps p.tables e below (T.setTop g) ((B.U.setTop { g with stack := rest }).pushFrame (.throwing q))) := by
  obtain ⟨mk, methM, cM, hnamed, hmethM, -, -, -, -, -, -, hsigM⟩ := Cond.codeWith_spec hcode
  have hstatic : methM.isStatic = true := Cond.static_spec hnamed hmethM hstat
  obtain ⟨kP, hkP, -⟩ := className_of_methodNamed hnamed
  have hinitP : kP.init = .initialized := Cond.initialized_spec (findClass_of_methodNamed hnamed) hkP hinit
  obtain ⟨vm₁, X₁, hstep₁⟩ := X.invokestatic hexec hown hlink hnamed hmethM hstatic hkP hinitP hy (g := g) hg (argsL := argsL) (rest := rest) (hlen _ hsigM) hstack hdg
  rcases hK m meth c ⟨T.setVm vm₁, locs, cells, slots⟩ { g with stack := rest } (.invokestatic index) mk argsL.toArray X₁ hg hsize hdg hW (X₁.named hnamed) (hpre vm₁ X₁.warmed) with ⟨v, B, X', hpost, hsteps⟩ | ⟨q, B, X', hpost, hsteps⟩
  · exact Or.inl ⟨v, vm₁, B, X₁.warmed, X', hpost, fun target h => hstep₁ _ fun acts => by rw [doInvoke_state]; exact hsteps.trans h⟩
  · exact Or.inr ⟨q, vm₁, B, X₁.warmed, X', hpost, hstep₁ _ fun acts => by rw [doInvoke_state]; exact hsteps⟩
theorem vx_callVW (X : Stand p l e R s m args below meth c T locs cells slots) (hexec : p.tables.exec = Jvm.exec) {own C : String} {index : Nat} {y : MethodName} {bytes : ByteArray} {maxL : Nat} {ret : Option FieldType} {hh : List (Nat × Nat × Nat × Nat)}
    (hown : s.vm.findClass own = some m.cls) (hlink : (Cond.methodLink own index y).before args s = true) (hinst : (Cond.instanceMethod y).before args s = true) (hsel : (Cond.selects C y y).before args s = true)
    (hcode : (Cond.codeWith y bytes maxL ret hh).before args s = true) (hy : y.cls ≠ "java/lang/invoke/MethodHandle" ∧ y.cls ≠ "java/lang/invoke/VarHandle")
    {W9 : Nat} {Pre : Pt → Array Value → Prop} {Post : Pt → Array Value → Option Value → Pt → Prop} (hK : Back l R p e below s args y 3 W9 Pre Post)
    {b : Addr} {cellB : Cell} (hcell : T.heap[b]? = some cellB) (hobj : cellB.vm.isStatics = false) (hcls : s.vm.findClass C = some cellB.cls)
    {g : JFrame} (hg : g.method = m) (hsize : g.locals.size = c.maxLocals) {argsL rest : List Value} (hlen : ∀ sig, parseMethodDescriptor y.desc = some sig → argsL.length = sig.parameters.length)
    (hstack : g.stack = argsL.reverse ++ .ref b :: rest) (hW : 2 * g.monitorRoom + (rest.map fun v => v.category).sum ≤ W9) (hdg : decode c.code g.pc = .ok (.invokevirtual index, 3))
    (hpre : ∀ vm₁, s.WarmedH vm₁ → Pre ⟨T.setVm vm₁, locs, cells, slots⟩ (Value.ref b :: argsL).toArray) :
    ∃ (v : Option Value) (vm₁ : Vm) (B : Pt), s.WarmedH vm₁ ∧ Stand p l e R s m args below meth c B.U B.locs B.cells B.slots ∧ Post ⟨T.setVm vm₁, locs, cells, slots⟩ (Value.ref b :: argsL).toArray v B ∧
      ∀ target, Steps p.tables e below (B.U.setTop { g with pc := g.pc + 3, stack := v.toList ++ rest }) target → Steps p.tables e below (T.setTop g) target := by
  obtain ⟨mk, methM, hnamed, hmethM, hstM, habM⟩ := Cond.instanceMethod_spec hinst
  obtain ⟨m8, methM', cM, hn8, hmethM', -, -, -, -, -, -, hsigM⟩ := Cond.codeWith_spec hcode
  cases Option.some.inj (hn8.symm.trans hnamed)
  cases hmethM.symm.trans hmethM'
  obtain ⟨c2, r2, m2, q1, q2, q3, q4, kP, hkP, hkPi⟩ := Cond.selects_spec hsel
  cases hcls.symm.trans q1
  cases (State.methodFound?_of_named hnamed hy).symm.trans q2
  cases hnamed.symm.trans q3
  have hselP : selectMethod e.platform s.vm cellB.cls mk = .method mk := by rw [Launch.admits_selectMethod X.admits]; exact q4
  obtain ⟨vm₁, X₁, hstep₁⟩ := X.invokevirtual hexec hown hlink hnamed hmethM hstM hkP hkPi hy (a := b) (cell := cellB) hcell
    (fun z h => by rw [h] at hobj; cases hobj) hselP hmethM habM hkP hkPi (g := g) hg (argsL := argsL) (rest := rest) (hlen _ hsigM) hstack hdg
  obtain ⟨v, B, X', hpost, hsteps⟩ := hK m meth c ⟨T.setVm vm₁, locs, cells, slots⟩ { g with stack := rest } (.invokevirtual index) mk (Value.ref b :: argsL).toArray X₁ hg hsize hdg hW (X₁.named hnamed) (hpre vm₁ X₁.warmed)
  exact ⟨v, vm₁, B, X₁.warmed, X', hpost, fun target h => hstep₁ _ fun acts => by rw [doInvoke_state]; exact hsteps.trans h⟩
abbrev vx_CVW (R : Room) (s : State) (args : Array Value) (own C : String) (index : Nat) (y : MethodName) (bytes : ByteArray) (maxL : Nat) (ret : Option FieldType) (hh : List (Nat × Nat × Nat × Nat)) (ws : List Cond) (rm : Room) (mc ms n : Nat) : Prop :=
  (rm.cells = mc ∧ rm.slots = ms ∧ rm.frames + 1 ≤ R.frames ∧ 8 + (maxL + 11) + rm.locals ≤ R.locals ∧ (∀ w ∈ ws, ∀ (a' : Array Value) (U : State), s.WarmedH U.vm → w.before a' U = true) ∧ Cond.codeWith y bytes maxL ret hh ∈ ws) ∧
  (Cond.codeWith y bytes maxL ret hh).before args s = true ∧ (Cond.initialized y.cls).before args s = true ∧ (y.cls ≠ "java/lang/invoke/MethodHandle" ∧ y.cls ≠ "java/lang/invoke/VarHandle") ∧
  (∀ sig, parseMethodDescriptor y.desc = some sig → n = sig.parameters.length) ∧ (Cond.methodLink own index y).before args s = true ∧ (Cond.instanceMethod y).before args s = true ∧ (Cond.selects C y y).before args s = true
theorem vx_cwVW {own C : String} {index maxL mc ms : Nat} {y : MethodName} {bytes : ByteArray} {ret : Option FieldType} {hh : List (Nat × Nat × Nat × Nat)} {Ts ws ws' : List Cond} {rm : Room} (n : Nat) (ht : ∀ w ∈ Ts, w.before args s = true) (hT : GoodIn Ts (wsV own index C y ws)) (hw : ws = Cond.codeWith y bytes maxL ret hh :: ws') (hrc : rm.cells = mc) (hrs : rm.slots = ms)
    (hd : y.cls = C ∧ y.cls ≠ "java/lang/invoke/MethodHandle" ∧ y.cls ≠ "java/lang/invoke/VarHandle" ∧ (parseMethodDescriptor y.desc).map (fun d => d.parameters.length) = some n) (hR : rm.frames + 1 ≤ R.frames ∧ 8 + (maxL + 11) + rm.locals ≤ R.locals) :
    vx_CVW R s args own C index y bytes maxL ret hh ws rm mc ms n := by
  obtain ⟨hC, hd⟩ := hd
  subst hC
  have ok : ∀ w ∈ wsV own index y.cls y ws, w.before args s = true := fun w h => ht w (hT w h).1
  have hG : GoodIn Ts ws := fun w h => hT w (by unfold wsV; exact List.mem_append_right _ h)
  have hc : Cond.codeWith y bytes maxL ret hh ∈ ws := by rw [hw]; exact List.mem_cons_self
  refine ⟨⟨hrc, hrs, hR.1, hR.2, pay_in ht hG, hc⟩, ht _ (hG _ hc).1, ok _ (by simp [wsV]), ⟨hd.1, hd.2.1⟩, fun sig h => ?_, ok _ (by simp [wsV]), ok _ (by simp [wsV]), ok _ (by simp [wsV])⟩
  have h2 := hd.2.2
  rw [h] at h2
  exact (Option.some.inj h2).symm
theorem vx_runVW {y : MethodName} {bytes cc : ByteArray} {maxL nL mc ms n index : Nat} {ret : Option FieldType} {hh : List (Nat × Nat × Nat × Nat)} {ws : List Cond} {rm : Room} {Pc : Array Value → State → Prop} {Qc : Array Value → State → Outcome → State → Prop} {free : Addr → Prop} {Ts : List Cond} {own C : String} {b : Addr} {As rest : List Value} {g : JFrame}
    (S : CallFix p m c cc nL s args Ts own) (hM : Met l y ws rm Pc Qc mc ms free) (cw : vx_CVW R s args own C index y bytes maxL ret hh ws rm mc ms n) (hp : PreV s H C b Pc As)
    (hg : g.method = m) (hn : As.length = n) (hsize : g.locals.size = nL) (hstack : g.stack = As.reverse ++ .ref b :: rest) (hW : 2 * g.monitorRoom + (rest.map fun v => v.category).sum ≤ 8) (hdg : decode cc g.pc = .ok (.invokevirtual index, 3)) (hf : cells + mc ≤ R.cells ∧ slots + ms ≤ R.slots) :
    va_Run p l e R s m args below meth c H locs cells slots mc ms g rest (Qc (Value.ref b :: As).toArray) free := by
  obtain ⟨⟨hrc, hrs, hfr, hlo, hws, hcw⟩, hcode, hini, hy, hlen, hl, hin, hse⟩ := cw
  have hK : Back l R p e below s args y 3 8 (PreOf R mc ms Pc) (PostOf Qc mc ms free) := va_backW (hh := hh) (bytes := bytes) (maxL := maxL) (ret := ret) hM hp.1 hrc hrs hfr hlo hws hcw (fun a' U hW => word_at hW (Or.inl (by first | rfl | simp [Cond.onTables, Cond.keeps, Cond.steady])) hini)
  obtain ⟨hx, hb, hml, ho, -⟩ := S
  obtain ⟨-, ⟨cellB, hcB, hoB, hclB⟩, hPc⟩ := hp
  intro T hT X
  obtain ⟨v, vm₁, ⟨U', l2, c2, s2⟩, hW₁, X', ⟨g', mk, t, L, e1, e2, hq, h1, hL, h2, h3⟩, st⟩ := vx_callVW X hx (C := C) (hh := hh) (bytes := bytes) (maxL := maxL) (ret := ret) ho hl hin hse hcode hy hK (by rw [hT]; exact hcB) hoB hclB hg (hsize.trans hml.symm) (argsL := As) (rest := rest) (fun sig h => hn.trans (hlen sig h)) hstack hW (by rw [hb]; exact hdg)
    (fun vm₁ hW₁ => ⟨hf.1, hf.2, hPc (T.setVm vm₁) hT hW₁⟩)
  dsimp only [Pt.U, Pt.locs, Pt.cells, Pt.slots] at X' e1 e2 h1 h2 h3 st
  subst h1; subst h2; subst h3
  exact ⟨v, (T.setVm vm₁).calling g' mk (Value.ref b :: As).toArray, t, U', L, hT, X', hL, e1, e2, hq, st⟩
section
variable {y : MethodName} {bytes cc : ByteArray} {maxL nL mc ms n index : Nat} {ret : Option FieldType} {ws : List Cond} {rm : Room} {Pc : Array Value → State → Prop} {Qc : Array Value → State → Outcome → State → Prop} {XC : String → State → State → Prop} {free : Addr → Prop} {Ts : List Cond} {own C : String} {b : Addr} {As rest : List Value} {g : JFrame}
theorem vx_runVX {hh : List (Nat × Nat × Nat × Nat)} (S : CallFix p m c cc nL s args Ts own) (hM : vx_Met l y ws rm Pc Qc XC mc ms free) (cw : vx_CVW R s args own C index y bytes maxL ret hh ws rm mc ms n) (hp : PreV s H C b Pc As)
    (hg : g.method = m) (hn : As.length = n) (hsize : g.locals.size = nL) (hstack : g.stack = As.reverse ++ .ref b :: rest) (hW : 2 * g.monitorRoom + (rest.map fun v => v.category).sum ≤ 8) (hdg : decode cc g.pc = .ok (.invokevirtual index, 3)) (hf : cells + mc ≤ R.cells ∧ slots + ms ≤ R.slots) :
    vx_Run p l e R s m args below meth c H locs cells slots mc ms g rest (Qc (Value.ref b :: As).toArray) XC free := by
  obtain ⟨⟨hrc, hrs, hfr, hlo, hws, hcw⟩, hcode, hini, hy, hlen, hl, hin, hse⟩ := cw
  have hK : vx_Back l R p e below s args y 3 8 (PreOf R mc ms Pc) (PostOf Qc mc ms free) (vx_Post XC mc ms free) := vx_backW (hh := hh) (bytes := bytes) (maxL := maxL) (ret := ret) hM hp.1 hrc hrs hfr hlo hws hcw (fun a' U hW => word_at hW (Or.inl (by first | rfl | simp [Cond.onTables, Cond.keeps, Cond.steady])) hini)
  obtain ⟨hx, hb, hml, ho, -⟩ := S
  obtain ⟨-, ⟨cellB, hcB, hoB, hclB⟩, hPc⟩ := hp
  intro T hT X
  rcases vx_callVX X hx (C := C) (hh := hh) (bytes := bytes) (maxL := maxL) (ret := ret) ho hl hin hse hcode hy hK (by rw [hT]; exact hcB) hoB hclB hg (hsize.trans hml.symm) (argsL := As) (rest := rest) (fun sig h => hn.trans (hlen sig h)) hstack hW (by rw [hb]; exact hdg)
    (fun vm₁ hW₁ => ⟨hf.1, hf.2, hPc (T.setVm vm₁) hT hW₁⟩) with ⟨v, vm₁, ⟨U', l2, c2, s2⟩, hW₁, X', ⟨g', mk, t, L, e1, e2, hq, h1, hL, h2, h3⟩, st⟩ | ⟨q, vm₁, ⟨U', l2, c2, s2⟩, hW₁, X', ⟨g', mk, t, L, E, ce, e1, e2, hq, hce, hcv, hcl, h1, hL, h2, h3⟩, st⟩
  · dsimp only [Pt.U, Pt.locs, Pt.cells, Pt.slots] at X' e1 e2 h1 h2 h3 st
    subst h1; subst h2; subst h3
    exact Or.inl ⟨v, (T.setVm vm₁).calling g' mk (Value.ref b :: As).toArray, t, U', L, hT, X', hL, e1, e2, hq, st⟩
  · dsimp only [Pt.U, Pt.locs, Pt.cells, Pt.slots] at X' e1 e2 h1 h2 h3 st hcl
    subst h1; subst h2; subst h3
    exact Or.inr ⟨q, (T.setVm vm₁).calling g' mk (Value.ref b :: As).toArray, t, U', L, E, ce, hT, X', hL, e1, e2, hq, hce, hcv, vx_cls hW₁ hcl, st⟩
theorem vx_runSX {hh : List (Nat × Nat × Nat × Nat)} (S : CallFix p m c cc nL s args Ts own) (hM : vx_Met l y ws rm Pc Qc XC mc ms free) (cw : vx_CSW R s args own index y bytes maxL ret hh ws rm mc ms n) (hp : PreS s H Pc As)
    (hg : g.method = m) (hn : As.length = n) (hsize : g.locals.size = nL) (hstack : g.stack = As.reverse ++ rest) (hW : 2 * g.monitorRoom + (rest.map fun v => v.category).sum ≤ 8) (hdg : decode cc g.pc = .ok (.invokestatic index, 3)) (hf : cells + mc ≤ R.cells ∧ slots + ms ≤ R.slots) :
    vx_Run p l e R s m args below meth c H locs cells slots mc ms g rest (Qc As.toArray) XC free := by
  obtain ⟨⟨hrc, hrs, hfr, hlo, hws, hcw⟩, hcode, hini, hy, hlen, hl, hstt⟩ := cw
  have hK : vx_Back l R p e below s args y 3 8 (PreOf R mc ms Pc) (PostOf Qc mc ms free) (vx_Post XC mc ms free) := vx_backW (hh := hh) (bytes := bytes) (maxL := maxL) (ret := ret) hM hp.1 hrc hrs hfr hlo hws hcw (fun a' U hW => word_at hW (Or.inl (by first | rfl | simp [Cond.onTables, Cond.keeps, Cond.steady])) hini)
  obtain ⟨hx, hb, hml, ho, -⟩ := S
  intro T hT X
  rcases vx_callSX X hx (hh := hh) (bytes := bytes) (maxL := maxL) (ret := ret) ho hl hstt hini hcode hy hK hg (hsize.trans hml.symm) (argsL := As) (rest := rest) (fun sig h => hn.trans (hlen sig h)) hstack hW (by rw [hb]; exact hdg)
    (fun vm₁ hW₁ => ⟨hf.1, hf.2, hp.2 (T.setVm vm₁) hT hW₁⟩) with ⟨v, vm₁, ⟨U', l2, c2, s2⟩, hW₁, X', ⟨g', mk, t, L, e1, e2, hq, h1, hL, h2, h3⟩, st⟩ | ⟨q, vm₁, ⟨U', l2, c2, s2⟩, hW₁, X', ⟨g', mk, t, L, E, ce, e1, e2, hq, hce, hcv, hcl, h1, hL, h2, h3⟩, st⟩
  · dsimp only [Pt.U, Pt.locs, Pt.cells, Pt.slots] at X' e1 e2 h1 h2 h3 st
    subst h1; subst h2; subst h3
    exact Or.inl ⟨v, (T.setVm vm₁).calling g' mk As.toArray, t, U', L, hT, X', hL, e1, e2, hq, st⟩
  · dsimp only [Pt.U, Pt.locs, Pt.cells, Pt.slots] at X' e1 e2 h1 h2 h3 st hcl
    subst h1; subst h2; subst h3
    exact Or.inr ⟨q, (T.setVm vm₁).calling g' mk As.toArray, t, U', L, E, ce, hT, X', hL, e1, e2, hq, hce, hcv, vx_cls hW₁ hcl, st⟩
end
end VXH
theorem vx_ofWH {l : Launch} {y : MethodName} {ws ws' : List Cond} {rm : Room} {Pc : Array Value → State → Prop} {Qc : Array Value → State → Outcome → State → Prop} {XC : String → State → State → Prop} {mc ms : Nat} {free : Addr → Prop} {cc : ByteArray} {maxL : Nat} {ret : Option FieldType} {hh : List (Nat × Nat × Nat × Nat)}
    (hy : plainName y.cls = true) (hw : ws = Cond.codeWith y cc maxL ret hh :: ws')
    (body : ∀ p e s m args below meth c s₁, BodyLoose p l y (headSpec ws rm) cc maxL ret e s m args below meth c s₁ → c.maxLocals = maxL → Pc args s →
      W p l e (headSpec ws rm).room s m args below meth c s.heap [] 0 0 (vx_MQ below Qc XC args s mc ms free) (entryFrame m args maxL)) : vx_Met l y ws rm Pc Qc XC mc ms free := by
  refine MetFree.of_bodyS (code := cc) (maxLocals := maxL) (ret := ret) hy ?_ ?_
  · intro args s m h hn
    obtain ⟨m9, meth, c, hn9, h1, h2, h3, h4, -, h5, h6, -⟩ := Cond.codeWith_spec (atoms_spec (ws := ws) h _ (by rw [hw]; exact List.mem_cons_self))
    cases hn.symm.trans hn9
    exact ⟨meth, c, h1, h2, h3, h4, h5, h6⟩
  · intro p e s m args below meth c s₁ B hml hP _
    have hh0 : s₁.heap = s.heap := by rw [B.state]; rfl
    obtain ⟨t, a1, o, b1, b2, b3⟩ := body p e s m args below meth c s₁ B hml hP s₁ hh0 (Stand.of_body B)
    exact ⟨t, o, a1, b1, b2, b3⟩
/-! ===== END ===== -/
end
section
/-! ===== BEGIN printed: names, fields, word lists, decode rows ===== -/
def RX0 : String := "Wallcode$Hand"
def TX0 : u_T := fun k => match k with
  | 0 => ("Wallcode$Hand", "number", "I", true)
  | 1 => ("Wallcode$Hand", "crew", "I", true)
  | 2 => ("Wallcode$Hand", "speed", "I", true)
  | 3 => ("Wallcode$Hand", "slant", "I", true)
  | 4 => ("Wallcode$Hand", "round", "I", true)
  | 5 => ("Wallcode$Hand", "wrongsTo", "[I", true)
  | 6 => ("Wallcode$Hand", "minutesUsed", "I", false)
  | 7 => ("Wallcode$Hand", "fines", "I", false)
  | 8 => ("Wallcode$Hand", "known", "Z", false)
  | 9 => ("Wallcode$Hand", "timesCaught", "I", false)
  | _ => ("Wallcode$Hand", "owed", "I", false)
def tyX0 : Nat → FieldType := fun k => match k with
  | 0 => .int
  | 1 => .int
  | 2 => .int
  | 3 => .int
  | 4 => .int
  | 5 => .array .int
  | 6 => .int
  | 7 => .int
  | 8 => .boolean
  | 9 => .int
  | _ => .int
abbrev wsX00 : List Cond := u_ws RX0 TX0 11
theorem nmX0 : ∀ a, a < 11 → ∀ b, b < 11 → a ≠ b → (TX0 a).2.1 ≠ (TX0 b).2.1 := by decide +kernel
theorem tyX0_ok : ∀ k, k < 11 → parseFieldDescriptor (TX0 k).2.2.1 = some (tyX0 k) := by decide +kernel
abbrev cX0_init : ByteArray := prog_2_method_1_code
def yX0_init : MethodName := ⟨RX0, "<init>", "(IIIII)V"⟩
abbrev cX0_minutesOfCell : ByteArray := prog_2_method_2_code
def yX0_minutesOfCell : MethodName := ⟨RX0, "minutesOfCell", "(I)I"⟩
abbrev cX0_minutesLeft : ByteArray := prog_2_method_3_code
def yX0_minutesLeft : MethodName := ⟨RX0, "minutesLeft", "()I"⟩
abbrev cX0_beCaught : ByteArray := prog_2_method_4_code
def yX0_beCaught : MethodName := ⟨RX0, "beCaught", "(I)V"⟩
abbrev cX0_wrongsDone : ByteArray := prog_2_method_5_code
def yX0_wrongsDone : MethodName := ⟨RX0, "wrongsDone", "()I"⟩
def RX1 : String := "Wallcode$Layer"
def TX1 : u_T := fun k => match k with
  | 0 => ("Wallcode$Layer", "number", "I", true)
  | 1 => ("Wallcode$Layer", "hand", "LWallcode$Hand;", true)
  | 2 => ("Wallcode$Layer", "wall", "LWallcode$Wall;", true)
  | 3 => ("Wallcode$Layer", "from", "I", true)
  | 4 => ("Wallcode$Layer", "wide", "I", true)
  | 5 => ("Wallcode$Layer", "kind", "I", true)
  | 6 => ("Wallcode$Layer", "wobble", "I", true)
  | 7 => ("Wallcode$Layer", "night", "I", false)
  | 8 => ("Wallcode$Layer", "legal", "Z", false)
  | 9 => ("Wallcode$Layer", "waived", "Z", false)
  | _ => ("Wallcode$Layer", "memorial", "Z", false)
def tyX1 : Nat → FieldType := fun k => match k with
  | 0 => .int
  | 1 => .object "Wallcode$Hand"
  | 2 => .object "Wallcode$Wall"
  | 3 => .int
  | 4 => .int
  | 5 => .int
  | 6 => .int
  | 7 => .int
  | 8 => .boolean
  | 9 => .boolean
  | _ => .boolean
abbrev wsX10 : List Cond := u_ws RX1 TX1 11
theorem nmX1 : ∀ a, a < 11 → ∀ b, b < 11 → a ≠ b → (TX1 a).2.1 ≠ (TX1 b).2.1 := by decide +kernel
theorem tyX1_ok : ∀ k, k < 11 → parseFieldDescriptor (TX1 k).2.2.1 = some (tyX1 k) := by decide +kernel
abbrev cX1_init : ByteArray := prog_3_method_1_code
def yX1_init : MethodName := ⟨RX1, "<init>", "(ILWallcode$Hand;LWallcode$Wall;IIII)V"⟩
abbrev cX1_weight : ByteArray := prog_3_method_2_code
def yX1_weight : MethodName := ⟨RX1, "weight", "()I"⟩
abbrev cX1_cellsSeen : ByteArray := prog_3_method_3_code
def yX1_cellsSeen : MethodName := ⟨RX1, "cellsSeen", "()I"⟩
abbrev cX1_isSeen : ByteArray := prog_3_method_4_code
def yX1_isSeen : MethodName := ⟨RX1, "isSeen", "()Z"⟩
abbrev cX1_hasRights : ByteArray := prog_3_method_5_code
def yX1_hasRights : MethodName := ⟨RX1, "hasRights", "()Z"⟩
abbrev cX1_slantShown : ByteArray := prog_3_method_6_code
def yX1_slantShown : MethodName := ⟨RX1, "slantShown", "()I"⟩
abbrev cX1_roundShown : ByteArray := prog_3_method_7_code
def yX1_roundShown : MethodName := ⟨RX1, "roundShown", "()I"⟩
def RX2 : String := "Wallcode$Wall"
def TX2 : u_T := fun k => match k with
  | 0 => ("Wallcode$Wall", "number", "I", true)
  | 1 => ("Wallcode$Wall", "width", "I", true)
  | 2 => ("Wallcode$Wall", "sight", "I", true)
  | 3 => ("Wallcode$Wall", "owner", "I", true)
  | 4 => ("Wallcode$Wall", "cleaning", "I", true)
  | 5 => ("Wallcode$Wall", "shown", "[LWallcode$Layer;", true)
  | 6 => ("Wallcode$Wall", "permitCrew", "I", false)
  | 7 => ("Wallcode$Wall", "permitUpTo", "I", false)
  | 8 => ("Wallcode$Wall", "watchFrom", "I", false)
  | _ => ("Wallcode$Wall", "watchTo", "I", false)
def tyX2 : Nat → FieldType := fun k => match k with
  | 0 => .int
  | 1 => .int
  | 2 => .int
  | 3 => .int
  | 4 => .int
  | 5 => .array (.object "Wallcode$Layer")
  | 6 => .int
  | 7 => .int
  | 8 => .int
  | _ => .int
abbrev wsX20 : List Cond := u_ws RX2 TX2 10
theorem nmX2 : ∀ a, a < 10 → ∀ b, b < 10 → a ≠ b → (TX2 a).2.1 ≠ (TX2 b).2.1 := by decide +kernel
theorem tyX2_ok : ∀ k, k < 10 → parseFieldDescriptor (TX2 k).2.2.1 = some (tyX2 k) := by decide +kernel
abbrev cX2_init : ByteArray := prog_4_method_1_code
def yX2_init : MethodName := ⟨RX2, "<init>", "(IIIII)V"⟩
abbrev cX2_hasCells : ByteArray := prog_4_method_2_code
def yX2_hasCells : MethodName := ⟨RX2, "hasCells", "(II)Z"⟩
abbrev cX2_permittedCrew : ByteArray := prog_4_method_3_code
def yX2_permittedCrew : MethodName := ⟨RX2, "permittedCrew", "(I)I"⟩
abbrev cX2_isWatchedWithin : ByteArray := prog_4_method_4_code
def yX2_isWatchedWithin : MethodName := ⟨RX2, "isWatchedWithin", "(II)Z"⟩
abbrev cX2_isCleanedIn : ByteArray := prog_4_method_5_code
def yX2_isCleanedIn : MethodName := ⟨RX2, "isCleanedIn", "(I)Z"⟩
abbrev cX2_showsWithin : ByteArray := prog_4_method_6_code
def yX2_showsWithin : MethodName := ⟨RX2, "showsWithin", "(LWallcode$Layer;II)Z"⟩
abbrev cX2_cellsShowing : ByteArray := prog_4_method_7_code
def yX2_cellsShowing : MethodName := ⟨RX2, "cellsShowing", "(LWallcode$Layer;)I"⟩
abbrev cX2_paintedCells : ByteArray := prog_4_method_8_code
def yX2_paintedCells : MethodName := ⟨RX2, "paintedCells", "()I"⟩
abbrev cX2_fameOf : ByteArray := prog_4_method_9_code
def yX2_fameOf : MethodName := ⟨RX2, "fameOf", "(LWallcode$Hand;)I"⟩
abbrev cX2_fameAt : ByteArray := prog_4_method_10_code
def yX2_fameAt : MethodName := ⟨RX2, "fameAt", "(ILWallcode$Hand;)I"⟩
abbrev cX2_cover : ByteArray := prog_4_method_11_code
def yX2_cover : MethodName := ⟨RX2, "cover", "(LWallcode$Layer;)V"⟩
abbrev cX2_cutOut : ByteArray := prog_4_method_12_code
def yX2_cutOut : MethodName := ⟨RX2, "cutOut", "(LWallcode$Layer;)V"⟩
abbrev cX2_bareAll : ByteArray := prog_4_method_13_code
def yX2_bareAll : MethodName := ⟨RX2, "bareAll", "()V"⟩
def RX3 : String := "Wallcode"
def TX3 : u_T := fun k => match k with
  | 0 => ("Wallcode", "walls", "Ljava/util/ArrayList;", true)
  | 1 => ("Wallcode", "hands", "Ljava/util/ArrayList;", true)
  | 2 => ("Wallcode", "layers", "Ljava/util/ArrayList;", true)
  | 3 => ("Wallcode", "tonight", "I", false)
  | 4 => ("Wallcode", "coins", "I", false)
  | _ => ("Wallcode", "soldFor", "I", false)
def tyX3 : Nat → FieldType := fun k => match k with
  | 0 => .object "java/util/ArrayList"
  | 1 => .object "java/util/ArrayList"
  | 2 => .object "java/util/ArrayList"
  | 3 => .int
  | 4 => .int
  | _ => .int
abbrev wsX30 : List Cond := u_ws RX3 TX3 6
theorem nmX3 : ∀ a, a < 6 → ∀ b, b < 6 → a ≠ b → (TX3 a).2.1 ≠ (TX3 b).2.1 := by decide +kernel
theorem tyX3_ok : ∀ k, k < 6 → parseFieldDescriptor (TX3 k).2.2.1 = some (tyX3 k) := by decide +kernel
abbrev cX3_init : ByteArray := prog_1_method_1_code
def yX3_init : MethodName := ⟨RX3, "<init>", "()V"⟩
abbrev cX3_wall : ByteArray := prog_1_method_2_code
def yX3_wall : MethodName := ⟨RX3, "wall", "(IIII)I"⟩
abbrev cX3_hand : ByteArray := prog_1_method_3_code
def yX3_hand : MethodName := ⟨RX3, "hand", "(IIII)I"⟩
abbrev cX3_permit : ByteArray := prog_1_method_4_code
def yX3_permit : MethodName := ⟨RX3, "permit", "(III)I"⟩
abbrev cX3_watch : ByteArray := prog_1_method_5_code
def yX3_watch : MethodName := ⟨RX3, "watch", "(III)I"⟩
abbrev cX3_paint : ByteArray := prog_1_method_6_code
def yX3_paint : MethodName := ⟨RX3, "paint", "(IIIIII)I"⟩
abbrev cX3_buff : ByteArray := prog_1_method_7_code
def yX3_buff : MethodName := ⟨RX3, "buff", "(I)I"⟩
abbrev cX3_clear : ByteArray := prog_1_method_8_code
def yX3_clear : MethodName := ⟨RX3, "clear", "(I)I"⟩
abbrev cX3_sell : ByteArray := prog_1_method_9_code
def yX3_sell : MethodName := ⟨RX3, "sell", "(I)I"⟩
abbrev cX3_waive : ByteArray := prog_1_method_10_code
def yX3_waive : MethodName := ⟨RX3, "waive", "(I)Z"⟩
abbrev cX3_remember : ByteArray := prog_1_method_11_code
def yX3_remember : MethodName := ⟨RX3, "remember", "(I)Z"⟩
abbrev cX3_pay : ByteArray := prog_1_method_12_code
def yX3_pay : MethodName := ⟨RX3, "pay", "(I)I"⟩
abbrev cX3_pass : ByteArray := prog_1_method_13_code
def yX3_pass : MethodName := ⟨RX3, "pass", "(I)I"⟩
abbrev cX3_ofWall : ByteArray := prog_1_method_14_code
def yX3_ofWall : MethodName := ⟨RX3, "ofWall", "(II)I"⟩
abbrev cX3_shows : ByteArray := prog_1_method_15_code
def yX3_shows : MethodName := ⟨RX3, "shows", "(II)I"⟩
abbrev cX3_ofHand : ByteArray := prog_1_method_16_code
def yX3_ofHand : MethodName := ⟨RX3, "ofHand", "(II)I"⟩
abbrev cX3_ofLayer : ByteArray := prog_1_method_17_code
def yX3_ofLayer : MethodName := ⟨RX3, "ofLayer", "(II)I"⟩
abbrev cX3_wrongs : ByteArray := prog_1_method_18_code
def yX3_wrongs : MethodName := ⟨RX3, "wrongs", "(II)I"⟩
abbrev cX3_likeness : ByteArray := prog_1_method_19_code
def yX3_likeness : MethodName := ⟨RX3, "likeness", "(II)I"⟩
abbrev cX3_many : ByteArray := prog_1_method_20_code
def yX3_many : MethodName := ⟨RX3, "many", "(I)I"⟩
abbrev cX3_meanFame : ByteArray := prog_1_method_21_code
def yX3_meanFame : MethodName := ⟨RX3, "meanFame", "()D"⟩
abbrev cX3_bestFrom : ByteArray := prog_1_method_22_code
def yX3_bestFrom : MethodName := ⟨RX3, "bestFrom", "(IIII)I"⟩
abbrev cX3_wouldWrong : ByteArray := prog_1_method_23_code
def yX3_wouldWrong : MethodName := ⟨RX3, "wouldWrong", "(IIIII)I"⟩
abbrev cX3_nextBuff : ByteArray := prog_1_method_24_code
def yX3_nextBuff : MethodName := ⟨RX3, "nextBuff", "()I"⟩
abbrev cX3_wouldFame : ByteArray := prog_1_method_25_code
def yX3_wouldFame : MethodName := ⟨RX3, "wouldFame", "(II)I"⟩
abbrev cX3_digest : ByteArray := prog_1_method_26_code
def yX3_digest : MethodName := ⟨RX3, "digest", "()J"⟩
abbrev cX3_mixedWithWall : ByteArray := prog_1_method_27_code
def yX3_mixedWithWall : MethodName := ⟨RX3, "mixedWithWall", "(JI)J"⟩
abbrev cX3_mixedWithHand : ByteArray := prog_1_method_28_code
def yX3_mixedWithHand : MethodName := ⟨RX3, "mixedWithHand", "(JI)J"⟩
abbrev cX3_mixed : ByteArray := prog_1_method_29_code
def yX3_mixed : MethodName := ⟨RX3, "mixed", "(JI)J"⟩
abbrev cX3_isWithin : ByteArray := prog_1_method_30_code
def yX3_isWithin : MethodName := ⟨RX3, "isWithin", "(III)Z"⟩
abbrev cX3_isKind : ByteArray := prog_1_method_31_code
def yX3_isKind : MethodName := ⟨RX3, "isKind", "(I)Z"⟩
abbrev cX3_wallAt : ByteArray := prog_1_method_32_code
def yX3_wallAt : MethodName := ⟨RX3, "wallAt", "(I)LWallcode$Wall;"⟩
abbrev cX3_handAt : ByteArray := prog_1_method_33_code
def yX3_handAt : MethodName := ⟨RX3, "handAt", "(I)LWallcode$Hand;"⟩
abbrev cX3_layerAt : ByteArray := prog_1_method_34_code
def yX3_layerAt : MethodName := ⟨RX3, "layerAt", "(I)LWallcode$Layer;"⟩
abbrev cX3_isPermitted : ByteArray := prog_1_method_35_code
def yX3_isPermitted : MethodName := ⟨RX3, "isPermitted", "(LWallcode$Hand;LWallcode$Wall;)Z"⟩
abbrev cX3_countWrongs : ByteArray := prog_1_method_36_code
def yX3_countWrongs : MethodName := ⟨RX3, "countWrongs", "(LWallcode$Hand;LWallcode$Wall;III)I"⟩
abbrev cX3_doWrongs : ByteArray := prog_1_method_37_code
def yX3_doWrongs : MethodName := ⟨RX3, "doWrongs", "(LWallcode$Hand;LWallcode$Wall;III)I"⟩
abbrev cX3_wrongedAt : ByteArray := prog_1_method_38_code
def yX3_wrongedAt : MethodName := ⟨RX3, "wrongedAt", "(LWallcode$Hand;LWallcode$Wall;III)LWallcode$Hand;"⟩
abbrev cX3_isWronged : ByteArray := prog_1_method_39_code
def yX3_isWronged : MethodName := ⟨RX3, "isWronged", "(LWallcode$Hand;LWallcode$Wall;LWallcode$Layer;I)Z"⟩
abbrev cX3_fameOf : ByteArray := prog_1_method_40_code
def yX3_fameOf : MethodName := ⟨RX3, "fameOf", "(LWallcode$Hand;)I"⟩
abbrev cX3_fameGain : ByteArray := prog_1_method_41_code
def yX3_fameGain : MethodName := ⟨RX3, "fameGain", "(LWallcode$Hand;LWallcode$Wall;III)I"⟩
abbrev cX3_priceOf : ByteArray := prog_1_method_42_code
def yX3_priceOf : MethodName := ⟨RX3, "priceOf", "(LWallcode$Layer;)I"⟩
abbrev cX3_suspectOf : ByteArray := prog_1_method_43_code
def yX3_suspectOf : MethodName := ⟨RX3, "suspectOf", "(LWallcode$Layer;)I"⟩
abbrev cX3_isToBuff : ByteArray := prog_1_method_44_code
def yX3_isToBuff : MethodName := ⟨RX3, "isToBuff", "(LWallcode$Wall;I)Z"⟩
abbrev cX3_cellsToBuff : ByteArray := prog_1_method_45_code
def yX3_cellsToBuff : MethodName := ⟨RX3, "cellsToBuff", "(LWallcode$Wall;)I"⟩
abbrev cX3_eyesoreOf : ByteArray := prog_1_method_46_code
def yX3_eyesoreOf : MethodName := ⟨RX3, "eyesoreOf", "(LWallcode$Wall;)I"⟩
abbrev cX3_goOneNightOn : ByteArray := prog_1_method_47_code
def yX3_goOneNightOn : MethodName := ⟨RX3, "goOneNightOn", "()I"⟩
abbrev cX3_willBeCleaned : ByteArray := prog_1_method_48_code
def yX3_willBeCleaned : MethodName := ⟨RX3, "willBeCleaned", "(LWallcode$Wall;I)Z"⟩
abbrev cX3_layersSeenOn : ByteArray := prog_1_method_49_code
def yX3_layersSeenOn : MethodName := ⟨RX3, "layersSeenOn", "(LWallcode$Wall;)I"⟩
abbrev cX3_layersOf : ByteArray := prog_1_method_50_code
def yX3_layersOf : MethodName := ⟨RX3, "layersOf", "(LWallcode$Hand;)I"⟩
abbrev cX3_layersSeenOf : ByteArray := prog_1_method_51_code
def yX3_layersSeenOf : MethodName := ⟨RX3, "layersSeenOf", "(LWallcode$Hand;)I"⟩
abbrev cX3_layersSeen : ByteArray := prog_1_method_52_code
def yX3_layersSeen : MethodName := ⟨RX3, "layersSeen", "()I"⟩
abbrev cX3_layersWithWrongSuspect : ByteArray := prog_1_method_53_code
def yX3_layersWithWrongSuspect : MethodName := ⟨RX3, "layersWithWrongSuspect", "()I"⟩
abbrev cX3_wrongsSufferedBy : ByteArray := prog_1_method_54_code
def yX3_wrongsSufferedBy : MethodName := ⟨RX3, "wrongsSufferedBy", "(LWallcode$Hand;)I"⟩
abbrev cX3_allWrongs : ByteArray := prog_1_method_55_code
def yX3_allWrongs : MethodName := ⟨RX3, "allWrongs", "()I"⟩
abbrev cX3_knownHands : ByteArray := prog_1_method_56_code
def yX3_knownHands : MethodName := ⟨RX3, "knownHands", "()I"⟩
abbrev cX3_allFines : ByteArray := prog_1_method_57_code
def yX3_allFines : MethodName := ⟨RX3, "allFines", "()I"⟩
abbrev cX3_allOwed : ByteArray := prog_1_method_58_code
def yX3_allOwed : MethodName := ⟨RX3, "allOwed", "()I"⟩
def RX4 : String := "WallcodeModel$Hand"
def TX4 : u_T := fun k => match k with
  | 0 => ("WallcodeModel$Hand", "crew", "I", true)
  | 1 => ("WallcodeModel$Hand", "speed", "I", true)
  | 2 => ("WallcodeModel$Hand", "slant", "I", true)
  | 3 => ("WallcodeModel$Hand", "round", "I", true)
  | 4 => ("WallcodeModel$Hand", "used", "I", false)
  | 5 => ("WallcodeModel$Hand", "fines", "I", false)
  | 6 => ("WallcodeModel$Hand", "isKnown", "Z", false)
  | 7 => ("WallcodeModel$Hand", "caught", "I", false)
  | 8 => ("WallcodeModel$Hand", "owed", "I", false)
  | _ => ("WallcodeModel$Hand", "wrongs", "[I", true)
def tyX4 : Nat → FieldType := fun k => match k with
  | 0 => .int
  | 1 => .int
  | 2 => .int
  | 3 => .int
  | 4 => .int
  | 5 => .int
  | 6 => .boolean
  | 7 => .int
  | 8 => .int
  | _ => .array .int
abbrev wsX40 : List Cond := u_ws RX4 TX4 10
theorem nmX4 : ∀ a, a < 10 → ∀ b, b < 10 → a ≠ b → (TX4 a).2.1 ≠ (TX4 b).2.1 := by decide +kernel
theorem tyX4_ok : ∀ k, k < 10 → parseFieldDescriptor (TX4 k).2.2.1 = some (tyX4 k) := by decide +kernel
abbrev cX4_init : ByteArray := prog_7_method_1_code
def yX4_init : MethodName := ⟨RX4, "<init>", "(IIII)V"⟩
abbrev cX4_minutes : ByteArray := prog_7_method_2_code
def yX4_minutes : MethodName := ⟨RX4, "minutes", "(II)I"⟩
def RX5 : String := "WallcodeModel$Layer"
def TX5 : u_T := fun k => match k with
  | 0 => ("WallcodeModel$Layer", "hand", "I", true)
  | 1 => ("WallcodeModel$Layer", "wall", "I", true)
  | 2 => ("WallcodeModel$Layer", "from", "I", true)
  | 3 => ("WallcodeModel$Layer", "wide", "I", true)
  | 4 => ("WallcodeModel$Layer", "kind", "I", true)
  | 5 => ("WallcodeModel$Layer", "slant", "I", true)
  | 6 => ("WallcodeModel$Layer", "round", "I", true)
  | 7 => ("WallcodeModel$Layer", "night", "I", true)
  | 8 => ("WallcodeModel$Layer", "isLegal", "Z", true)
  | 9 => ("WallcodeModel$Layer", "isWaived", "Z", false)
  | _ => ("WallcodeModel$Layer", "isMemorial", "Z", false)
def tyX5 : Nat → FieldType := fun k => match k with
  | 0 => .int
  | 1 => .int
  | 2 => .int
  | 3 => .int
  | 4 => .int
  | 5 => .int
  | 6 => .int
  | 7 => .int
  | 8 => .boolean
  | 9 => .boolean
  | _ => .boolean
abbrev wsX50 : List Cond := u_ws RX5 TX5 11
theorem nmX5 : ∀ a, a < 11 → ∀ b, b < 11 → a ≠ b → (TX5 a).2.1 ≠ (TX5 b).2.1 := by decide +kernel
theorem tyX5_ok : ∀ k, k < 11 → parseFieldDescriptor (TX5 k).2.2.1 = some (tyX5 k) := by decide +kernel
abbrev cX5_init : ByteArray := prog_8_method_1_code
def yX5_init : MethodName := ⟨RX5, "<init>", "(IIIIIIIIZ)V"⟩
def RX6 : String := "WallcodeModel$Wall"
def TX6 : u_T := fun k => match k with
  | 0 => ("WallcodeModel$Wall", "sight", "I", true)
  | 1 => ("WallcodeModel$Wall", "owner", "I", true)
  | 2 => ("WallcodeModel$Wall", "cleaning", "I", true)
  | 3 => ("WallcodeModel$Wall", "shows", "[I", true)
  | 4 => ("WallcodeModel$Wall", "crew", "I", false)
  | 5 => ("WallcodeModel$Wall", "until", "I", false)
  | 6 => ("WallcodeModel$Wall", "from", "I", false)
  | _ => ("WallcodeModel$Wall", "to", "I", false)
def tyX6 : Nat → FieldType := fun k => match k with
  | 0 => .int
  | 1 => .int
  | 2 => .int
  | 3 => .array .int
  | 4 => .int
  | 5 => .int
  | 6 => .int
  | _ => .int
abbrev wsX60 : List Cond := u_ws RX6 TX6 8
theorem nmX6 : ∀ a, a < 8 → ∀ b, b < 8 → a ≠ b → (TX6 a).2.1 ≠ (TX6 b).2.1 := by decide +kernel
theorem tyX6_ok : ∀ k, k < 8 → parseFieldDescriptor (TX6 k).2.2.1 = some (tyX6 k) := by decide +kernel
abbrev cX6_init : ByteArray := prog_9_method_1_code
def yX6_init : MethodName := ⟨RX6, "<init>", "(IIII)V"⟩
abbrev cX6_permitted : ByteArray := prog_9_method_2_code
def yX6_permitted : MethodName := ⟨RX6, "permitted", "(I)I"⟩
abbrev cX6_many : ByteArray := prog_9_method_3_code
def yX6_many : MethodName := ⟨RX6, "many", "(I)I"⟩
abbrev cX6_bare : ByteArray := prog_9_method_4_code
def yX6_bare : MethodName := ⟨RX6, "bare", "()I"⟩
abbrev cX6_isWatched : ByteArray := prog_9_method_5_code
def yX6_isWatched : MethodName := ⟨RX6, "isWatched", "(II)Z"⟩
def RX7 : String := "WallcodeModel"
def TX7 : u_T := fun k => match k with
  | 0 => ("WallcodeModel", "thrown", "I", false)
  | 1 => ("WallcodeModel", "night", "I", false)
  | 2 => ("WallcodeModel", "coins", "I", false)
  | 3 => ("WallcodeModel", "sold", "I", false)
  | 4 => ("WallcodeModel", "walls", "Ljava/util/ArrayList;", true)
  | 5 => ("WallcodeModel", "hands", "Ljava/util/ArrayList;", true)
  | _ => ("WallcodeModel", "layers", "Ljava/util/ArrayList;", true)
def tyX7 : Nat → FieldType := fun k => match k with
  | 0 => .int
  | 1 => .int
  | 2 => .int
  | 3 => .int
  | 4 => .object "java/util/ArrayList"
  | 5 => .object "java/util/ArrayList"
  | _ => .object "java/util/ArrayList"
abbrev wsX70 : List Cond := u_ws RX7 TX7 7
theorem nmX7 : ∀ a, a < 7 → ∀ b, b < 7 → a ≠ b → (TX7 a).2.1 ≠ (TX7 b).2.1 := by decide +kernel
theorem tyX7_ok : ∀ k, k < 7 → parseFieldDescriptor (TX7 k).2.2.1 = some (tyX7 k) := by decide +kernel
abbrev cX7_isIn : ByteArray := prog_6_method_1_code
def yX7_isIn : MethodName := ⟨RX7, "isIn", "(III)Z"⟩
abbrev cX7_init : ByteArray := prog_6_method_2_code
def yX7_init : MethodName := ⟨RX7, "<init>", "()V"⟩
abbrev cX7_thrown : ByteArray := prog_6_method_3_code
def yX7_thrown : MethodName := ⟨RX7, "thrown", "()I"⟩
abbrev cX7_refuse : ByteArray := prog_6_method_4_code
def yX7_refuse : MethodName := ⟨RX7, "refuse", "(ZI)Z"⟩
abbrev cX7_start : ByteArray := prog_6_method_5_code
def yX7_start : MethodName := ⟨RX7, "start", "(ZI)Z"⟩
abbrev cX7_isNoWall : ByteArray := prog_6_method_6_code
def yX7_isNoWall : MethodName := ⟨RX7, "isNoWall", "(I)Z"⟩
abbrev cX7_isNoHand : ByteArray := prog_6_method_7_code
def yX7_isNoHand : MethodName := ⟨RX7, "isNoHand", "(I)Z"⟩
abbrev cX7_isNoLayer : ByteArray := prog_6_method_8_code
def yX7_isNoLayer : MethodName := ⟨RX7, "isNoLayer", "(I)Z"⟩
abbrev cX7_wall : ByteArray := prog_6_method_9_code
def yX7_wall : MethodName := ⟨RX7, "wall", "(IIII)I"⟩
abbrev cX7_hand : ByteArray := prog_6_method_10_code
def yX7_hand : MethodName := ⟨RX7, "hand", "(IIII)I"⟩
abbrev cX7_permit : ByteArray := prog_6_method_11_code
def yX7_permit : MethodName := ⟨RX7, "permit", "(III)I"⟩
abbrev cX7_watch : ByteArray := prog_6_method_12_code
def yX7_watch : MethodName := ⟨RX7, "watch", "(III)I"⟩
abbrev cX7_isLegal : ByteArray := prog_6_method_13_code
def yX7_isLegal : MethodName := ⟨RX7, "isLegal", "(II)Z"⟩
abbrev cX7_isWrong : ByteArray := prog_6_method_14_code
def yX7_isWrong : MethodName := ⟨RX7, "isWrong", "(IIZLWallcodeModel$Layer;)Z"⟩
abbrev cX7_isNew : ByteArray := prog_6_method_15_code
def yX7_isNew : MethodName := ⟨RX7, "isNew", "([III)Z"⟩
abbrev cX7_wrongsOf : ByteArray := prog_6_method_16_code
def yX7_wrongsOf : MethodName := ⟨RX7, "wrongsOf", "(IIIII)I"⟩
abbrev cX7_isNoPlace : ByteArray := prog_6_method_17_code
def yX7_isNoPlace : MethodName := ⟨RX7, "isNoPlace", "(III)Z"⟩
abbrev cX7_paint : ByteArray := prog_6_method_18_code
def yX7_paint : MethodName := ⟨RX7, "paint", "(IIIIII)I"⟩
abbrev cX7_isBuffed : ByteArray := prog_6_method_19_code
def yX7_isBuffed : MethodName := ⟨RX7, "isBuffed", "(II)Z"⟩
abbrev cX7_buffs : ByteArray := prog_6_method_20_code
def yX7_buffs : MethodName := ⟨RX7, "buffs", "(I)I"⟩
abbrev cX7_buff : ByteArray := prog_6_method_21_code
def yX7_buff : MethodName := ⟨RX7, "buff", "(I)I"⟩
abbrev cX7_clear : ByteArray := prog_6_method_22_code
def yX7_clear : MethodName := ⟨RX7, "clear", "(I)I"⟩
abbrev cX7_seen : ByteArray := prog_6_method_23_code
def yX7_seen : MethodName := ⟨RX7, "seen", "(I)I"⟩
abbrev cX7_fame : ByteArray := prog_6_method_24_code
def yX7_fame : MethodName := ⟨RX7, "fame", "(I)I"⟩
abbrev cX7_price : ByteArray := prog_6_method_25_code
def yX7_price : MethodName := ⟨RX7, "price", "(I)I"⟩
abbrev cX7_sell : ByteArray := prog_6_method_26_code
def yX7_sell : MethodName := ⟨RX7, "sell", "(I)I"⟩
abbrev cX7_waive : ByteArray := prog_6_method_27_code
def yX7_waive : MethodName := ⟨RX7, "waive", "(I)Z"⟩
abbrev cX7_remember : ByteArray := prog_6_method_28_code
def yX7_remember : MethodName := ⟨RX7, "remember", "(I)Z"⟩
abbrev cX7_pay : ByteArray := prog_6_method_29_code
def yX7_pay : MethodName := ⟨RX7, "pay", "(I)I"⟩
abbrev cX7_pass : ByteArray := prog_6_method_30_code
def yX7_pass : MethodName := ⟨RX7, "pass", "(I)I"⟩
abbrev cX7_layersOn : ByteArray := prog_6_method_31_code
def yX7_layersOn : MethodName := ⟨RX7, "layersOn", "(I)I"⟩
abbrev cX7_ofWallNow : ByteArray := prog_6_method_32_code
def yX7_ofWallNow : MethodName := ⟨RX7, "ofWallNow", "(II)I"⟩
abbrev cX7_ofWall : ByteArray := prog_6_method_33_code
def yX7_ofWall : MethodName := ⟨RX7, "ofWall", "(II)I"⟩
abbrev cX7_shows : ByteArray := prog_6_method_34_code
def yX7_shows : MethodName := ⟨RX7, "shows", "(II)I"⟩
abbrev cX7_layersOf : ByteArray := prog_6_method_35_code
def yX7_layersOf : MethodName := ⟨RX7, "layersOf", "(IZ)I"⟩
abbrev cX7_wrongsOf_ : ByteArray := prog_6_method_36_code
def yX7_wrongsOf_ : MethodName := ⟨RX7, "wrongsOf", "(IZ)I"⟩
abbrev cX7_ofHandNow : ByteArray := prog_6_method_37_code
def yX7_ofHandNow : MethodName := ⟨RX7, "ofHandNow", "(II)I"⟩
abbrev cX7_ofHand : ByteArray := prog_6_method_38_code
def yX7_ofHand : MethodName := ⟨RX7, "ofHand", "(II)I"⟩
abbrev cX7_suspect : ByteArray := prog_6_method_39_code
def yX7_suspect : MethodName := ⟨RX7, "suspect", "(LWallcodeModel$Layer;)I"⟩
abbrev cX7_ofLayerNow : ByteArray := prog_6_method_40_code
def yX7_ofLayerNow : MethodName := ⟨RX7, "ofLayerNow", "(II)I"⟩
abbrev cX7_ofLayer : ByteArray := prog_6_method_41_code
def yX7_ofLayer : MethodName := ⟨RX7, "ofLayer", "(II)I"⟩
abbrev cX7_wrongs : ByteArray := prog_6_method_42_code
def yX7_wrongs : MethodName := ⟨RX7, "wrongs", "(II)I"⟩
abbrev cX7_likeness : ByteArray := prog_6_method_43_code
def yX7_likeness : MethodName := ⟨RX7, "likeness", "(II)I"⟩
abbrev cX7_seenLayers : ByteArray := prog_6_method_44_code
def yX7_seenLayers : MethodName := ⟨RX7, "seenLayers", "(Z)I"⟩
abbrev cX7_ofHands : ByteArray := prog_6_method_45_code
def yX7_ofHands : MethodName := ⟨RX7, "ofHands", "(I)I"⟩
abbrev cX7_manyNow : ByteArray := prog_6_method_46_code
def yX7_manyNow : MethodName := ⟨RX7, "manyNow", "(I)I"⟩
abbrev cX7_many : ByteArray := prog_6_method_47_code
def yX7_many : MethodName := ⟨RX7, "many", "(I)I"⟩
abbrev cX7_meanFame : ByteArray := prog_6_method_48_code
def yX7_meanFame : MethodName := ⟨RX7, "meanFame", "()D"⟩
abbrev cX7_gains : ByteArray := prog_6_method_49_code
def yX7_gains : MethodName := ⟨RX7, "gains", "(IIIII)I"⟩
abbrev cX7_bestFromNow : ByteArray := prog_6_method_50_code
def yX7_bestFromNow : MethodName := ⟨RX7, "bestFromNow", "(IIII)I"⟩
abbrev cX7_bestFrom : ByteArray := prog_6_method_51_code
def yX7_bestFrom : MethodName := ⟨RX7, "bestFrom", "(IIII)I"⟩
abbrev cX7_wouldWrong : ByteArray := prog_6_method_52_code
def yX7_wouldWrong : MethodName := ⟨RX7, "wouldWrong", "(IIIII)I"⟩
abbrev cX7_nextBuffNow : ByteArray := prog_6_method_53_code
def yX7_nextBuffNow : MethodName := ⟨RX7, "nextBuffNow", "()I"⟩
abbrev cX7_nextBuff : ByteArray := prog_6_method_54_code
def yX7_nextBuff : MethodName := ⟨RX7, "nextBuff", "()I"⟩
abbrev cX7_isCleaned : ByteArray := prog_6_method_55_code
def yX7_isCleaned : MethodName := ⟨RX7, "isCleaned", "(LWallcodeModel$Wall;I)Z"⟩
abbrev cX7_wouldFameNow : ByteArray := prog_6_method_56_code
def yX7_wouldFameNow : MethodName := ⟨RX7, "wouldFameNow", "(II)I"⟩
abbrev cX7_wouldFame : ByteArray := prog_6_method_57_code
def yX7_wouldFame : MethodName := ⟨RX7, "wouldFame", "(II)I"⟩
abbrev cX7_add : ByteArray := prog_6_method_58_code
def yX7_add : MethodName := ⟨RX7, "add", "(JJ)J"⟩
abbrev cX7_digest : ByteArray := prog_6_method_59_code
def yX7_digest : MethodName := ⟨RX7, "digest", "()J"⟩
def RJx145de : String := "java/io/Serializable"
def TJx145de : u_T := fun k => match k with
  | _ => ("", "", "", false)
def tyJx145de : Nat → FieldType := fun k => match k with
  | _ => .int
abbrev wsJx145de0 : List Cond := u_ws RJx145de TJx145de 0
theorem nmJx145de : ∀ a, a < 0 → ∀ b, b < 0 → a ≠ b → (TJx145de a).2.1 ≠ (TJx145de b).2.1 := by decide +kernel
theorem tyJx145de_ok : ∀ k, k < 0 → parseFieldDescriptor (TJx145de k).2.2.1 = some (tyJx145de k) := by decide +kernel
def RJx8e188 : String := "java/lang/Cloneable"
def TJx8e188 : u_T := fun k => match k with
  | _ => ("", "", "", false)
def tyJx8e188 : Nat → FieldType := fun k => match k with
  | _ => .int
abbrev wsJx8e1880 : List Cond := u_ws RJx8e188 TJx8e188 0
theorem nmJx8e188 : ∀ a, a < 0 → ∀ b, b < 0 → a ≠ b → (TJx8e188 a).2.1 ≠ (TJx8e188 b).2.1 := by decide +kernel
theorem tyJx8e188_ok : ∀ k, k < 0 → parseFieldDescriptor (TJx8e188 k).2.2.1 = some (tyJx8e188 k) := by decide +kernel
def RJxab1ab : String := "java/lang/Iterable"
def TJxab1ab : u_T := fun k => match k with
  | _ => ("", "", "", false)
def tyJxab1ab : Nat → FieldType := fun k => match k with
  | _ => .int
abbrev wsJxab1ab0 : List Cond := u_ws RJxab1ab TJxab1ab 0
theorem nmJxab1ab : ∀ a, a < 0 → ∀ b, b < 0 → a ≠ b → (TJxab1ab a).2.1 ≠ (TJxab1ab b).2.1 := by decide +kernel
theorem tyJxab1ab_ok : ∀ k, k < 0 → parseFieldDescriptor (TJxab1ab k).2.2.1 = some (tyJxab1ab k) := by decide +kernel
def RJ9 : String := "java/lang/Math"
def TJ9 : u_T := fun k => match k with
  | _ => ("", "", "", false)
def tyJ9 : Nat → FieldType := fun k => match k with
  | _ => .int
abbrev wsJ90 : List Cond := u_ws RJ9 TJ9 0
theorem nmJ9 : ∀ a, a < 0 → ∀ b, b < 0 → a ≠ b → (TJ9 a).2.1 ≠ (TJ9 b).2.1 := by decide +kernel
theorem tyJ9_ok : ∀ k, k < 0 → parseFieldDescriptor (TJ9 k).2.2.1 = some (tyJ9 k) := by decide +kernel
abbrev cJ9_abs_0f7a4 : ByteArray := prog_17_method_59_code
def yJ9_abs_0f7a4 : MethodName := ⟨RJ9, "abs", "(I)I"⟩
abbrev cJ9_max_7cf53 : ByteArray := prog_17_method_65_code
def yJ9_max_7cf53 : MethodName := ⟨RJ9, "max", "(II)I"⟩
abbrev cJ9_min_7cf53 : ByteArray := prog_17_method_69_code
def yJ9_min_7cf53 : MethodName := ⟨RJ9, "min", "(II)I"⟩
def RJ0 : String := "java/lang/String"
def TJ0 : u_T := fun k => match k with
  | _ => ("", "", "", false)
def tyJ0 : Nat → FieldType := fun k => match k with
  | _ => .int
abbrev wsJ00 : List Cond := u_ws RJ0 TJ0 0
theorem nmJ0 : ∀ a, a < 0 → ∀ b, b < 0 → a ≠ b → (TJ0 a).2.1 ≠ (TJ0 b).2.1 := by decide +kernel
theorem tyJ0_ok : ∀ k, k < 0 → parseFieldDescriptor (TJ0 k).2.2.1 = some (tyJ0 k) := by decide +kernel
def RJ10 : String := "java/lang/System"
def TJ10 : u_T := fun k => match k with
  | _ => ("", "", "", false)
def tyJ10 : Nat → FieldType := fun k => match k with
  | _ => .int
abbrev wsJ100 : List Cond := u_ws RJ10 TJ10 0
theorem nmJ10 : ∀ a, a < 0 → ∀ b, b < 0 → a ≠ b → (TJ10 a).2.1 ≠ (TJ10 b).2.1 := by decide +kernel
theorem tyJ10_ok : ∀ k, k < 0 → parseFieldDescriptor (TJ10 k).2.2.1 = some (tyJ10 k) := by decide +kernel
def RJxa1e45 : String := "java/util/AbstractCollection"
def TJxa1e45 : u_T := fun k => match k with
  | _ => ("", "", "", false)
def tyJxa1e45 : Nat → FieldType := fun k => match k with
  | _ => .int
abbrev wsJxa1e450 : List Cond := u_ws RJxa1e45 TJxa1e45 0
theorem nmJxa1e45 : ∀ a, a < 0 → ∀ b, b < 0 → a ≠ b → (TJxa1e45 a).2.1 ≠ (TJxa1e45 b).2.1 := by decide +kernel
theorem tyJxa1e45_ok : ∀ k, k < 0 → parseFieldDescriptor (TJxa1e45 k).2.2.1 = some (tyJxa1e45 k) := by decide +kernel
abbrev cJxa1e45_init_da8c8 : ByteArray := prog_22_method_1_code
def yJxa1e45_init_da8c8 : MethodName := ⟨RJxa1e45, "<init>", "()V"⟩
def RJxc12de : String := "java/util/AbstractList"
def TJxc12de : u_T := fun k => match k with
  | _ => ("", "", "", false)
def tyJxc12de : Nat → FieldType := fun k => match k with
  | _ => .int
abbrev wsJxc12de0 : List Cond := u_ws RJxc12de TJxc12de 0
theorem nmJxc12de : ∀ a, a < 0 → ∀ b, b < 0 → a ≠ b → (TJxc12de a).2.1 ≠ (TJxc12de b).2.1 := by decide +kernel
theorem tyJxc12de_ok : ∀ k, k < 0 → parseFieldDescriptor (TJxc12de k).2.2.1 = some (tyJxc12de k) := by decide +kernel
abbrev cJxc12de_init_da8c8 : ByteArray := prog_23_method_1_code
def yJxc12de_init_da8c8 : MethodName := ⟨RJxc12de, "<init>", "()V"⟩
def RJx35411 : String := "java/util/ArrayList$Itr"
def TJx35411 : u_T := fun k => match k with
  | 0 => ("java/util/ArrayList$Itr", "cursor", "I", false)
  | 1 => ("java/util/ArrayList$Itr", "lastRet", "I", false)
  | 2 => ("java/util/ArrayList$Itr", "expectedModCount", "I", false)
  | _ => ("java/util/ArrayList$Itr", "this$0", "Ljava/util/ArrayList;", true)
def tyJx35411 : Nat → FieldType := fun k => match k with
  | 0 => .int
  | 1 => .int
  | 2 => .int
  | _ => .object "java/util/ArrayList"
abbrev wsJx354110 : List Cond := u_ws RJx35411 TJx35411 4
theorem nmJx35411 : ∀ a, a < 4 → ∀ b, b < 4 → a ≠ b → (TJx35411 a).2.1 ≠ (TJx35411 b).2.1 := by decide +kernel
theorem tyJx35411_ok : ∀ k, k < 4 → parseFieldDescriptor (TJx35411 k).2.2.1 = some (tyJx35411 k) := by decide +kernel
abbrev cJx35411_init_45d68 : ByteArray := prog_25_method_1_code
def yJx35411_init_45d68 : MethodName := ⟨RJx35411, "<init>", "(Ljava/util/ArrayList;)V"⟩
abbrev cJx35411_hasNext_aae02 : ByteArray := prog_25_method_2_code
def yJx35411_hasNext_aae02 : MethodName := ⟨RJx35411, "hasNext", "()Z"⟩
abbrev cJx35411_next_0502b : ByteArray := prog_25_method_3_code
def yJx35411_next_0502b : MethodName := ⟨RJx35411, "next", "()Ljava/lang/Object;"⟩
abbrev cJx35411_checkForComodification_da8c8 : ByteArray := prog_25_method_6_code
def yJx35411_checkForComodification_da8c8 : MethodName := ⟨RJx35411, "checkForComodification", "()V"⟩
def RJx4a65c : String := "java/util/ArrayList"
def TJx4a65c : u_T := fun k => match k with
  | 0 => ("java/util/AbstractList", "modCount", "I", false)
  | 1 => ("java/util/ArrayList", "elementData", "[Ljava/lang/Object;", false)
  | _ => ("java/util/ArrayList", "size", "I", false)
def tyJx4a65c : Nat → FieldType := fun k => match k with
  | 0 => .int
  | 1 => .array (.object "java/lang/Object")
  | _ => .int
abbrev wsJx4a65c0 : List Cond := u_ws RJx4a65c TJx4a65c 3
theorem nmJx4a65c : ∀ a, a < 3 → ∀ b, b < 3 → a ≠ b → (TJx4a65c a).2.1 ≠ (TJx4a65c b).2.1 := by decide +kernel
theorem tyJx4a65c_ok : ∀ k, k < 3 → parseFieldDescriptor (TJx4a65c k).2.2.1 = some (tyJx4a65c k) := by decide +kernel
abbrev cJx4a65c_init_da8c8 : ByteArray := prog_24_method_2_code
def yJx4a65c_init_da8c8 : MethodName := ⟨RJx4a65c, "<init>", "()V"⟩
abbrev cJx4a65c_grow_92f84 : ByteArray := prog_24_method_6_code
def yJx4a65c_grow_92f84 : MethodName := ⟨RJx4a65c, "grow", "(I)[Ljava/lang/Object;"⟩
abbrev cJx4a65c_grow_d5877 : ByteArray := prog_24_method_7_code
def yJx4a65c_grow_d5877 : MethodName := ⟨RJx4a65c, "grow", "()[Ljava/lang/Object;"⟩
abbrev cJx4a65c_size_8abf5 : ByteArray := prog_24_method_8_code
def yJx4a65c_size_8abf5 : MethodName := ⟨RJx4a65c, "size", "()I"⟩
abbrev cJx4a65c_isEmpty_aae02 : ByteArray := prog_24_method_9_code
def yJx4a65c_isEmpty_aae02 : MethodName := ⟨RJx4a65c, "isEmpty", "()Z"⟩
abbrev cJx4a65c_elementData_915e3 : ByteArray := prog_24_method_18_code
def yJx4a65c_elementData_915e3 : MethodName := ⟨RJx4a65c, "elementData", "(I)Ljava/lang/Object;"⟩
abbrev cJx4a65c_get_915e3 : ByteArray := prog_24_method_20_code
def yJx4a65c_get_915e3 : MethodName := ⟨RJx4a65c, "get", "(I)Ljava/lang/Object;"⟩
abbrev cJx4a65c_add_72be8 : ByteArray := prog_24_method_24_code
def yJx4a65c_add_72be8 : MethodName := ⟨RJx4a65c, "add", "(Ljava/lang/Object;[Ljava/lang/Object;I)V"⟩
abbrev cJx4a65c_add_9ea2d : ByteArray := prog_24_method_25_code
def yJx4a65c_add_9ea2d : MethodName := ⟨RJx4a65c, "add", "(Ljava/lang/Object;)Z"⟩
abbrev cJx4a65c_iterator_32c93 : ByteArray := prog_24_method_55_code
def yJx4a65c_iterator_32c93 : MethodName := ⟨RJx4a65c, "iterator", "()Ljava/util/Iterator;"⟩
def RJ7 : String := "java/util/Arrays"
def TJ7 : u_T := fun k => match k with
  | _ => ("", "", "", false)
def tyJ7 : Nat → FieldType := fun k => match k with
  | _ => .int
abbrev wsJ70 : List Cond := u_ws RJ7 TJ7 0
theorem nmJ7 : ∀ a, a < 0 → ∀ b, b < 0 → a ≠ b → (TJ7 a).2.1 ≠ (TJ7 b).2.1 := by decide +kernel
theorem tyJ7_ok : ∀ k, k < 0 → parseFieldDescriptor (TJ7 k).2.2.1 = some (tyJ7 k) := by decide +kernel
abbrev cJ7_copyOf_1904c : ByteArray := prog_26_method_119_code
def yJ7_copyOf_1904c : MethodName := ⟨RJ7, "copyOf", "([Ljava/lang/Object;I)[Ljava/lang/Object;"⟩
abbrev cJ7_copyOf_6403c : ByteArray := prog_26_method_120_code
def yJ7_copyOf_6403c : MethodName := ⟨RJ7, "copyOf", "([Ljava/lang/Object;ILjava/lang/Class;)[Ljava/lang/Object;"⟩
def RJx5ef63 : String := "java/util/Collection"
def TJx5ef63 : u_T := fun k => match k with
  | _ => ("", "", "", false)
def tyJx5ef63 : Nat → FieldType := fun k => match k with
  | _ => .int
abbrev wsJx5ef630 : List Cond := u_ws RJx5ef63 TJx5ef63 0
theorem nmJx5ef63 : ∀ a, a < 0 → ∀ b, b < 0 → a ≠ b → (TJx5ef63 a).2.1 ≠ (TJx5ef63 b).2.1 := by decide +kernel
theorem tyJx5ef63_ok : ∀ k, k < 0 → parseFieldDescriptor (TJx5ef63 k).2.2.1 = some (tyJx5ef63 k) := by decide +kernel
def RJx4d0d8 : String := "java/util/Iterator"
def TJx4d0d8 : u_T := fun k => match k with
  | _ => ("", "", "", false)
def tyJx4d0d8 : Nat → FieldType := fun k => match k with
  | _ => .int
abbrev wsJx4d0d80 : List Cond := u_ws RJx4d0d8 TJx4d0d8 0
theorem nmJx4d0d8 : ∀ a, a < 0 → ∀ b, b < 0 → a ≠ b → (TJx4d0d8 a).2.1 ≠ (TJx4d0d8 b).2.1 := by decide +kernel
theorem tyJx4d0d8_ok : ∀ k, k < 0 → parseFieldDescriptor (TJx4d0d8 k).2.2.1 = some (tyJx4d0d8 k) := by decide +kernel
def RJxbd725 : String := "java/util/List"
def TJxbd725 : u_T := fun k => match k with
  | _ => ("", "", "", false)
def tyJxbd725 : Nat → FieldType := fun k => match k with
  | _ => .int
abbrev wsJxbd7250 : List Cond := u_ws RJxbd725 TJxbd725 0
theorem nmJxbd725 : ∀ a, a < 0 → ∀ b, b < 0 → a ≠ b → (TJxbd725 a).2.1 ≠ (TJxbd725 b).2.1 := by decide +kernel
theorem tyJxbd725_ok : ∀ k, k < 0 → parseFieldDescriptor (TJxbd725 k).2.2.1 = some (tyJxbd725 k) := by decide +kernel
def RJ15 : String := "java/util/Objects"
def TJ15 : u_T := fun k => match k with
  | _ => ("", "", "", false)
def tyJ15 : Nat → FieldType := fun k => match k with
  | _ => .int
abbrev wsJ150 : List Cond := u_ws RJ15 TJ15 0
theorem nmJ15 : ∀ a, a < 0 → ∀ b, b < 0 → a ≠ b → (TJ15 a).2.1 ≠ (TJ15 b).2.1 := by decide +kernel
theorem tyJ15_ok : ∀ k, k < 0 → parseFieldDescriptor (TJ15 k).2.2.1 = some (tyJ15 k) := by decide +kernel
abbrev cJ15_checkIndex_7cf53 : ByteArray := prog_30_method_17_code
def yJ15_checkIndex_7cf53 : MethodName := ⟨RJ15, "checkIndex", "(II)I"⟩
def RJxf0a74 : String := "java/util/RandomAccess"
def TJxf0a74 : u_T := fun k => match k with
  | _ => ("", "", "", false)
def tyJxf0a74 : Nat → FieldType := fun k => match k with
  | _ => .int
abbrev wsJxf0a740 : List Cond := u_ws RJxf0a74 TJxf0a74 0
theorem nmJxf0a74 : ∀ a, a < 0 → ∀ b, b < 0 → a ≠ b → (TJxf0a74 a).2.1 ≠ (TJxf0a74 b).2.1 := by decide +kernel
theorem tyJxf0a74_ok : ∀ k, k < 0 → parseFieldDescriptor (TJxf0a74 k).2.2.1 = some (tyJxf0a74 k) := by decide +kernel
def RJxa66e6 : String := "java/util/SequencedCollection"
def TJxa66e6 : u_T := fun k => match k with
  | _ => ("", "", "", false)
def tyJxa66e6 : Nat → FieldType := fun k => match k with
  | _ => .int
abbrev wsJxa66e60 : List Cond := u_ws RJxa66e6 TJxa66e6 0
theorem nmJxa66e6 : ∀ a, a < 0 → ∀ b, b < 0 → a ≠ b → (TJxa66e6 a).2.1 ≠ (TJxa66e6 b).2.1 := by decide +kernel
theorem tyJxa66e6_ok : ∀ k, k < 0 → parseFieldDescriptor (TJxa66e6 k).2.2.1 = some (tyJxa66e6 k) := by decide +kernel
def RJ8 : String := "jdk/internal/util/ArraysSupport"
def TJ8 : u_T := fun k => match k with
  | _ => ("", "", "", false)
def tyJ8 : Nat → FieldType := fun k => match k with
  | _ => .int
abbrev wsJ80 : List Cond := u_ws RJ8 TJ8 0
theorem nmJ8 : ∀ a, a < 0 → ∀ b, b < 0 → a ≠ b → (TJ8 a).2.1 ≠ (TJ8 b).2.1 := by decide +kernel
theorem tyJ8_ok : ∀ k, k < 0 → parseFieldDescriptor (TJ8 k).2.2.1 = some (tyJ8 k) := by decide +kernel
abbrev cJ8_newLength_cabcc : ByteArray := prog_33_method_27_code
def yJ8_newLength_cabcc : MethodName := ⟨RJ8, "newLength", "(III)I"⟩
abbrev cJ8_hugeLength_7cf53 : ByteArray := prog_33_method_28_code
def yJ8_hugeLength_7cf53 : MethodName := ⟨RJ8, "hugeLength", "(II)I"⟩
def RJ3 : String := "jdk/internal/util/Preconditions"
def TJ3 : u_T := fun k => match k with
  | _ => ("", "", "", false)
def tyJ3 : Nat → FieldType := fun k => match k with
  | _ => .int
abbrev wsJ30 : List Cond := u_ws RJ3 TJ3 0
theorem nmJ3 : ∀ a, a < 0 → ∀ b, b < 0 → a ≠ b → (TJ3 a).2.1 ≠ (TJ3 b).2.1 := by decide +kernel
theorem tyJ3_ok : ∀ k, k < 0 → parseFieldDescriptor (TJ3 k).2.2.1 = some (tyJ3 k) := by decide +kernel
abbrev cJ3_checkIndex_8e157 : ByteArray := prog_34_method_11_code
def yJ3_checkIndex_8e157 : MethodName := ⟨RJ3, "checkIndex", "(IILjava/util/function/BiFunction;)I"⟩
def RL : String := "WallcodeLaw"
abbrev cL_wall : ByteArray := method_3_code
def yL_wall : MethodName := ⟨RL, "wall", "(LWallcode;IIII[J)I"⟩
abbrev cL_hand : ByteArray := method_4_code
def yL_hand : MethodName := ⟨RL, "hand", "(LWallcode;IIII[J)I"⟩
abbrev cL_permit : ByteArray := method_5_code
def yL_permit : MethodName := ⟨RL, "permit", "(LWallcode;III[J)I"⟩
abbrev cL_watch : ByteArray := method_6_code
def yL_watch : MethodName := ⟨RL, "watch", "(LWallcode;III[J)I"⟩
abbrev cL_paint : ByteArray := method_7_code
def yL_paint : MethodName := ⟨RL, "paint", "(LWallcode;IIIIII[J)I"⟩
abbrev cL_buff : ByteArray := method_8_code
def yL_buff : MethodName := ⟨RL, "buff", "(LWallcode;I[J)I"⟩
abbrev cL_clear : ByteArray := method_9_code
def yL_clear : MethodName := ⟨RL, "clear", "(LWallcode;I[J)I"⟩
abbrev cL_sell : ByteArray := method_10_code
def yL_sell : MethodName := ⟨RL, "sell", "(LWallcode;I[J)I"⟩
abbrev cL_waive : ByteArray := method_11_code
def yL_waive : MethodName := ⟨RL, "waive", "(LWallcode;I[J)I"⟩
abbrev cL_remember : ByteArray := method_12_code
def yL_remember : MethodName := ⟨RL, "remember", "(LWallcode;I[J)I"⟩
abbrev cL_pay : ByteArray := method_13_code
def yL_pay : MethodName := ⟨RL, "pay", "(LWallcode;I[J)I"⟩
abbrev cL_pass : ByteArray := method_14_code
def yL_pass : MethodName := ⟨RL, "pass", "(LWallcode;I[J)I"⟩
abbrev cL_ofWall : ByteArray := method_15_code
def yL_ofWall : MethodName := ⟨RL, "ofWall", "(LWallcode;II[J)I"⟩
abbrev cL_shows : ByteArray := method_16_code
def yL_shows : MethodName := ⟨RL, "shows", "(LWallcode;II[J)I"⟩
abbrev cL_ofHand : ByteArray := method_17_code
def yL_ofHand : MethodName := ⟨RL, "ofHand", "(LWallcode;II[J)I"⟩
abbrev cL_ofLayer : ByteArray := method_18_code
def yL_ofLayer : MethodName := ⟨RL, "ofLayer", "(LWallcode;II[J)I"⟩
abbrev cL_wrongs : ByteArray := method_19_code
def yL_wrongs : MethodName := ⟨RL, "wrongs", "(LWallcode;II[J)I"⟩
abbrev cL_likeness : ByteArray := method_20_code
def yL_likeness : MethodName := ⟨RL, "likeness", "(LWallcode;II[J)I"⟩
abbrev cL_many : ByteArray := method_21_code
def yL_many : MethodName := ⟨RL, "many", "(LWallcode;I[J)I"⟩
abbrev cL_bestFrom : ByteArray := method_22_code
def yL_bestFrom : MethodName := ⟨RL, "bestFrom", "(LWallcode;IIII[J)I"⟩
abbrev cL_wouldWrong : ByteArray := method_23_code
def yL_wouldWrong : MethodName := ⟨RL, "wouldWrong", "(LWallcode;IIIII[J)I"⟩
abbrev cL_wouldFame : ByteArray := method_24_code
def yL_wouldFame : MethodName := ⟨RL, "wouldFame", "(LWallcode;II[J)I"⟩
abbrev cL_law : ByteArray := code
def yL_law : MethodName := ⟨RL, "law", "([I)Z"⟩
abbrev vwCl : List vw_C := [(RJx35411, TJx35411, 4), (RJx4a65c, TJx4a65c, 3), (RX0, TX0, 11), (RX1, TX1, 11), (RX2, TX2, 10), (RX3, TX3, 6), (RX4, TX4, 10), (RX5, TX5, 11), (RX6, TX6, 8), (RX7, TX7, 7)]
end
section
theorem dX0_init_0 : decode cX0_init 0 = .ok (.aload_n 0, 1) := by decide +kernel
theorem dX0_init_1 : decode cX0_init 1 = .ok (.invokespecial 3, 3) := by decide +kernel
theorem dX0_init_4 : decode cX0_init 4 = .ok (.aload_n 0, 1) := by decide +kernel
theorem dX0_init_5 : decode cX0_init 5 = .ok (.iload_n 1, 1) := by decide +kernel
theorem dX0_init_6 : decode cX0_init 6 = .ok (.putfield 9, 3) := by decide +kernel
theorem dX0_init_9 : decode cX0_init 9 = .ok (.aload_n 0, 1) := by decide +kernel
theorem dX0_init_10 : decode cX0_init 10 = .ok (.iload_n 2, 1) := by decide +kernel
theorem dX0_init_11 : decode cX0_init 11 = .ok (.putfield 15, 3) := by decide +kernel
theorem dX0_init_14 : decode cX0_init 14 = .ok (.aload_n 0, 1) := by decide +kernel
theorem dX0_init_15 : decode cX0_init 15 = .ok (.iload_n 3, 1) := by decide +kernel
theorem dX0_init_16 : decode cX0_init 16 = .ok (.putfield 18, 3) := by decide +kernel
theorem dX0_init_19 : decode cX0_init 19 = .ok (.aload_n 0, 1) := by decide +kernel
theorem dX0_init_20 : decode cX0_init 20 = .ok (.iload 4, 2) := by decide +kernel
theorem dX0_init_22 : decode cX0_init 22 = .ok (.putfield 21, 3) := by decide +kernel
theorem dX0_init_25 : decode cX0_init 25 = .ok (.aload_n 0, 1) := by decide +kernel
theorem dX0_init_26 : decode cX0_init 26 = .ok (.iload 5, 2) := by decide +kernel
theorem dX0_init_28 : decode cX0_init 28 = .ok (.putfield 24, 3) := by decide +kernel
theorem dX0_init_31 : decode cX0_init 31 = .ok (.aload_n 0, 1) := by decide +kernel
theorem dX0_init_32 : decode cX0_init 32 = .ok (.bipush 8, 2) := by decide +kernel
theorem dX0_init_34 : decode cX0_init 34 = .ok (.newarray .int, 2) := by decide +kernel
theorem dX0_init_36 : decode cX0_init 36 = .ok (.putfield 27, 3) := by decide +kernel
theorem dX0_init_39 : decode cX0_init 39 = .ok (.aload_n 0, 1) := by decide +kernel
theorem dX0_init_40 : decode cX0_init 40 = .ok (.iconst 0, 1) := by decide +kernel
theorem dX0_init_41 : decode cX0_init 41 = .ok (.putfield 31, 3) := by decide +kernel
theorem dX0_init_44 : decode cX0_init 44 = .ok (.aload_n 0, 1) := by decide +kernel
theorem dX0_init_45 : decode cX0_init 45 = .ok (.iconst 0, 1) := by decide +kernel
theorem dX0_init_46 : decode cX0_init 46 = .ok (.putfield 34, 3) := by decide +kernel
theorem dX0_init_49 : decode cX0_init 49 = .ok (.aload_n 0, 1) := by decide +kernel
theorem dX0_init_50 : decode cX0_init 50 = .ok (.iconst 0, 1) := by decide +kernel
theorem dX0_init_51 : decode cX0_init 51 = .ok (.putfield 37, 3) := by decide +kernel
theorem dX0_init_54 : decode cX0_init 54 = .ok (.aload_n 0, 1) := by decide +kernel
theorem dX0_init_55 : decode cX0_init 55 = .ok (.iconst 0, 1) := by decide +kernel
theorem dX0_init_56 : decode cX0_init 56 = .ok (.putfield 41, 3) := by decide +kernel
theorem dX0_init_59 : decode cX0_init 59 = .ok (.aload_n 0, 1) := by decide +kernel
theorem dX0_init_60 : decode cX0_init 60 = .ok (.iconst 0, 1) := by decide +kernel
theorem dX0_init_61 : decode cX0_init 61 = .ok (.putfield 44, 3) := by decide +kernel
theorem dX0_init_64 : decode cX0_init 64 = .ok (.return_, 1) := by decide +kernel
theorem dX0_minutesOfCell_0 : decode cX0_minutesOfCell 0 = .ok (.getstatic 47, 3) := by decide +kernel
theorem dX0_minutesOfCell_3 : decode cX0_minutesOfCell 3 = .ok (.iload_n 1, 1) := by decide +kernel
theorem dX0_minutesOfCell_4 : decode cX0_minutesOfCell 4 = .ok (.iaload, 1) := by decide +kernel
theorem dX0_minutesOfCell_5 : decode cX0_minutesOfCell 5 = .ok (.aload_n 0, 1) := by decide +kernel
theorem dX0_minutesOfCell_6 : decode cX0_minutesOfCell 6 = .ok (.getfield 18, 3) := by decide +kernel
theorem dX0_minutesOfCell_9 : decode cX0_minutesOfCell 9 = .ok (.iadd, 1) := by decide +kernel
theorem dX0_minutesOfCell_10 : decode cX0_minutesOfCell 10 = .ok (.iconst 1, 1) := by decide +kernel
theorem dX0_minutesOfCell_11 : decode cX0_minutesOfCell 11 = .ok (.isub, 1) := by decide +kernel
theorem dX0_minutesOfCell_12 : decode cX0_minutesOfCell 12 = .ok (.aload_n 0, 1) := by decide +kernel
theorem dX0_minutesOfCell_13 : decode cX0_minutesOfCell 13 = .ok (.getfield 18, 3) := by decide +kernel
theorem dX0_minutesOfCell_16 : decode cX0_minutesOfCell 16 = .ok (.idiv, 1) := by decide +kernel
theorem dX0_minutesOfCell_17 : decode cX0_minutesOfCell 17 = .ok (.ireturn, 1) := by decide +kernel
theorem dX0_minutesLeft_0 : decode cX0_minutesLeft 0 = .ok (.sipush 360, 3) := by decide +kernel
theorem dX0_minutesLeft_3 : decode cX0_minutesLeft 3 = .ok (.aload_n 0, 1) := by decide +kernel
theorem dX0_minutesLeft_4 : decode cX0_minutesLeft 4 = .ok (.getfield 31, 3) := by decide +kernel
theorem dX0_minutesLeft_7 : decode cX0_minutesLeft 7 = .ok (.isub, 1) := by decide +kernel
theorem dX0_minutesLeft_8 : decode cX0_minutesLeft 8 = .ok (.ireturn, 1) := by decide +kernel
theorem dX0_beCaught_0 : decode cX0_beCaught 0 = .ok (.aload_n 0, 1) := by decide +kernel
theorem dX0_beCaught_1 : decode cX0_beCaught 1 = .ok (.dup, 1) := by decide +kernel
theorem dX0_beCaught_2 : decode cX0_beCaught 2 = .ok (.getfield 34, 3) := by decide +kernel
theorem dX0_beCaught_5 : decode cX0_beCaught 5 = .ok (.bipush 20, 2) := by decide +kernel
theorem dX0_beCaught_7 : decode cX0_beCaught 7 = .ok (.bipush 10, 2) := by decide +kernel
theorem dX0_beCaught_9 : decode cX0_beCaught 9 = .ok (.iload_n 1, 1) := by decide +kernel
theorem dX0_beCaught_10 : decode cX0_beCaught 10 = .ok (.imul, 1) := by decide +kernel
theorem dX0_beCaught_11 : decode cX0_beCaught 11 = .ok (.iadd, 1) := by decide +kernel
theorem dX0_beCaught_12 : decode cX0_beCaught 12 = .ok (.iadd, 1) := by decide +kernel
theorem dX0_beCaught_13 : decode cX0_beCaught 13 = .ok (.putfield 34, 3) := by decide +kernel
theorem dX0_beCaught_16 : decode cX0_beCaught 16 = .ok (.aload_n 0, 1) := by decide +kernel
theorem dX0_beCaught_17 : decode cX0_beCaught 17 = .ok (.iconst 1, 1) := by decide +kernel
theorem dX0_beCaught_18 : decode cX0_beCaught 18 = .ok (.putfield 37, 3) := by decide +kernel
theorem dX0_beCaught_21 : decode cX0_beCaught 21 = .ok (.aload_n 0, 1) := by decide +kernel
theorem dX0_beCaught_22 : decode cX0_beCaught 22 = .ok (.dup, 1) := by decide +kernel
theorem dX0_beCaught_23 : decode cX0_beCaught 23 = .ok (.getfield 41, 3) := by decide +kernel
theorem dX0_beCaught_26 : decode cX0_beCaught 26 = .ok (.iconst 1, 1) := by decide +kernel
theorem dX0_beCaught_27 : decode cX0_beCaught 27 = .ok (.iadd, 1) := by decide +kernel
theorem dX0_beCaught_28 : decode cX0_beCaught 28 = .ok (.putfield 41, 3) := by decide +kernel
theorem dX0_beCaught_31 : decode cX0_beCaught 31 = .ok (.return_, 1) := by decide +kernel
theorem dX0_wrongsDone_0 : decode cX0_wrongsDone 0 = .ok (.iconst 0, 1) := by decide +kernel
theorem dX0_wrongsDone_1 : decode cX0_wrongsDone 1 = .ok (.istore_n 1, 1) := by decide +kernel
theorem dX0_wrongsDone_2 : decode cX0_wrongsDone 2 = .ok (.iconst 0, 1) := by decide +kernel
theorem dX0_wrongsDone_3 : decode cX0_wrongsDone 3 = .ok (.istore_n 2, 1) := by decide +kernel
theorem dX0_wrongsDone_4 : decode cX0_wrongsDone 4 = .ok (.iload_n 2, 1) := by decide +kernel
theorem dX0_wrongsDone_5 : decode cX0_wrongsDone 5 = .ok (.bipush 8, 2) := by decide +kernel
theorem dX0_wrongsDone_7 : decode cX0_wrongsDone 7 = .ok (.if_icmp .ge 18, 3) := by decide +kernel
theorem dX0_wrongsDone_10 : decode cX0_wrongsDone 10 = .ok (.iload_n 1, 1) := by decide +kernel
theorem dX0_wrongsDone_11 : decode cX0_wrongsDone 11 = .ok (.aload_n 0, 1) := by decide +kernel
theorem dX0_wrongsDone_12 : decode cX0_wrongsDone 12 = .ok (.getfield 27, 3) := by decide +kernel
theorem dX0_wrongsDone_15 : decode cX0_wrongsDone 15 = .ok (.iload_n 2, 1) := by decide +kernel
theorem dX0_wrongsDone_16 : decode cX0_wrongsDone 16 = .ok (.iaload, 1) := by decide +kernel
theorem dX0_wrongsDone_17 : decode cX0_wrongsDone 17 = .ok (.iadd, 1) := by decide +kernel
theorem dX0_wrongsDone_18 : decode cX0_wrongsDone 18 = .ok (.istore_n 1, 1) := by decide +kernel
theorem dX0_wrongsDone_19 : decode cX0_wrongsDone 19 = .ok (.iinc 2 1, 3) := by decide +kernel
theorem dX0_wrongsDone_22 : decode cX0_wrongsDone 22 = .ok (.goto (-18), 3) := by decide +kernel
theorem dX0_wrongsDone_25 : decode cX0_wrongsDone 25 = .ok (.iload_n 1, 1) := by decide +kernel
theorem dX0_wrongsDone_26 : decode cX0_wrongsDone 26 = .ok (.ireturn, 1) := by decide +kernel
theorem dX1_init_0 : decode cX1_init 0 = .ok (.aload_n 0, 1) := by decide +kernel
theorem dX1_init_1 : decode cX1_init 1 = .ok (.invokespecial 3, 3) := by decide +kernel
theorem dX1_init_4 : decode cX1_init 4 = .ok (.aload_n 0, 1) := by decide +kernel
theorem dX1_init_5 : decode cX1_init 5 = .ok (.iload_n 1, 1) := by decide +kernel
theorem dX1_init_6 : decode cX1_init 6 = .ok (.putfield 9, 3) := by decide +kernel
theorem dX1_init_9 : decode cX1_init 9 = .ok (.aload_n 0, 1) := by decide +kernel
theorem dX1_init_10 : decode cX1_init 10 = .ok (.aload_n 2, 1) := by decide +kernel
theorem dX1_init_11 : decode cX1_init 11 = .ok (.putfield 15, 3) := by decide +kernel
theorem dX1_init_14 : decode cX1_init 14 = .ok (.aload_n 0, 1) := by decide +kernel
theorem dX1_init_15 : decode cX1_init 15 = .ok (.aload_n 3, 1) := by decide +kernel
theorem dX1_init_16 : decode cX1_init 16 = .ok (.putfield 19, 3) := by decide +kernel
theorem dX1_init_19 : decode cX1_init 19 = .ok (.aload_n 0, 1) := by decide +kernel
theorem dX1_init_20 : decode cX1_init 20 = .ok (.iload 4, 2) := by decide +kernel
theorem dX1_init_22 : decode cX1_init 22 = .ok (.putfield 23, 3) := by decide +kernel
theorem dX1_init_25 : decode cX1_init 25 = .ok (.aload_n 0, 1) := by decide +kernel
theorem dX1_init_26 : decode cX1_init 26 = .ok (.iload 5, 2) := by decide +kernel
theorem dX1_init_28 : decode cX1_init 28 = .ok (.putfield 26, 3) := by decide +kernel
theorem dX1_init_31 : decode cX1_init 31 = .ok (.aload_n 0, 1) := by decide +kernel
theorem dX1_init_32 : decode cX1_init 32 = .ok (.iload 6, 2) := by decide +kernel
theorem dX1_init_34 : decode cX1_init 34 = .ok (.putfield 29, 3) := by decide +kernel
theorem dX1_init_37 : decode cX1_init 37 = .ok (.aload_n 0, 1) := by decide +kernel
theorem dX1_init_38 : decode cX1_init 38 = .ok (.iload 7, 2) := by decide +kernel
theorem dX1_init_40 : decode cX1_init 40 = .ok (.putfield 32, 3) := by decide +kernel
theorem dX1_init_43 : decode cX1_init 43 = .ok (.aload_n 0, 1) := by decide +kernel
theorem dX1_init_44 : decode cX1_init 44 = .ok (.iconst 0, 1) := by decide +kernel
theorem dX1_init_45 : decode cX1_init 45 = .ok (.putfield 35, 3) := by decide +kernel
theorem dX1_init_48 : decode cX1_init 48 = .ok (.aload_n 0, 1) := by decide +kernel
theorem dX1_init_49 : decode cX1_init 49 = .ok (.iconst 0, 1) := by decide +kernel
theorem dX1_init_50 : decode cX1_init 50 = .ok (.putfield 38, 3) := by decide +kernel
theorem dX1_init_53 : decode cX1_init 53 = .ok (.aload_n 0, 1) := by decide +kernel
theorem dX1_init_54 : decode cX1_init 54 = .ok (.iconst 0, 1) := by decide +kernel
theorem dX1_init_55 : decode cX1_init 55 = .ok (.putfield 42, 3) := by decide +kernel
theorem dX1_init_58 : decode cX1_init 58 = .ok (.aload_n 0, 1) := by decide +kernel
theorem dX1_init_59 : decode cX1_init 59 = .ok (.iconst 0, 1) := by decide +kernel
theorem dX1_init_60 : decode cX1_init 60 = .ok (.putfield 45, 3) := by decide +kernel
theorem dX1_init_63 : decode cX1_init 63 = .ok (.return_, 1) := by decide +kernel
theorem dX1_weight_0 : decode cX1_weight 0 = .ok (.getstatic 48, 3) := by decide +kernel
theorem dX1_weight_3 : decode cX1_weight 3 = .ok (.aload_n 0, 1) := by decide +kernel
theorem dX1_weight_4 : decode cX1_weight 4 = .ok (.getfield 29, 3) := by decide +kernel
theorem dX1_weight_7 : decode cX1_weight 7 = .ok (.iaload, 1) := by decide +kernel
theorem dX1_weight_8 : decode cX1_weight 8 = .ok (.ireturn, 1) := by decide +kernel
theorem dX1_cellsSeen_0 : decode cX1_cellsSeen 0 = .ok (.aload_n 0, 1) := by decide +kernel
theorem dX1_cellsSeen_1 : decode cX1_cellsSeen 1 = .ok (.getfield 19, 3) := by decide +kernel
theorem dX1_cellsSeen_4 : decode cX1_cellsSeen 4 = .ok (.aload_n 0, 1) := by decide +kernel
theorem dX1_cellsSeen_5 : decode cX1_cellsSeen 5 = .ok (.invokevirtual 52, 3) := by decide +kernel
theorem dX1_cellsSeen_8 : decode cX1_cellsSeen 8 = .ok (.ireturn, 1) := by decide +kernel
theorem dX1_isSeen_0 : decode cX1_isSeen 0 = .ok (.aload_n 0, 1) := by decide +kernel
theorem dX1_isSeen_1 : decode cX1_isSeen 1 = .ok (.invokevirtual 58, 3) := by decide +kernel
theorem dX1_isSeen_4 : decode cX1_isSeen 4 = .ok (.ifCond .le 7, 3) := by decide +kernel
theorem dX1_isSeen_7 : decode cX1_isSeen 7 = .ok (.iconst 1, 1) := by decide +kernel
theorem dX1_isSeen_8 : decode cX1_isSeen 8 = .ok (.goto 4, 3) := by decide +kernel
theorem dX1_isSeen_11 : decode cX1_isSeen 11 = .ok (.iconst 0, 1) := by decide +kernel
theorem dX1_isSeen_12 : decode cX1_isSeen 12 = .ok (.ireturn, 1) := by decide +kernel
theorem dX1_hasRights_0 : decode cX1_hasRights 0 = .ok (.aload_n 0, 1) := by decide +kernel
theorem dX1_hasRights_1 : decode cX1_hasRights 1 = .ok (.getfield 38, 3) := by decide +kernel
theorem dX1_hasRights_4 : decode cX1_hasRights 4 = .ok (.ifCond .eq 22, 3) := by decide +kernel
theorem dX1_hasRights_7 : decode cX1_hasRights 7 = .ok (.aload_n 0, 1) := by decide +kernel
theorem dX1_hasRights_8 : decode cX1_hasRights 8 = .ok (.getfield 29, 3) := by decide +kernel
theorem dX1_hasRights_11 : decode cX1_hasRights 11 = .ok (.iconst 2, 1) := by decide +kernel
theorem dX1_hasRights_12 : decode cX1_hasRights 12 = .ok (.if_icmp .lt 14, 3) := by decide +kernel
theorem dX1_hasRights_15 : decode cX1_hasRights 15 = .ok (.aload_n 0, 1) := by decide +kernel
theorem dX1_hasRights_16 : decode cX1_hasRights 16 = .ok (.getfield 42, 3) := by decide +kernel
theorem dX1_hasRights_19 : decode cX1_hasRights 19 = .ok (.ifCond .ne 7, 3) := by decide +kernel
theorem dX1_hasRights_22 : decode cX1_hasRights 22 = .ok (.iconst 1, 1) := by decide +kernel
theorem dX1_hasRights_23 : decode cX1_hasRights 23 = .ok (.goto 4, 3) := by decide +kernel
theorem dX1_hasRights_26 : decode cX1_hasRights 26 = .ok (.iconst 0, 1) := by decide +kernel
theorem dX1_hasRights_27 : decode cX1_hasRights 27 = .ok (.ireturn, 1) := by decide +kernel
theorem dX1_slantShown_0 : decode cX1_slantShown 0 = .ok (.aload_n 0, 1) := by decide +kernel
theorem dX1_slantShown_1 : decode cX1_slantShown 1 = .ok (.getfield 15, 3) := by decide +kernel
theorem dX1_slantShown_4 : decode cX1_slantShown 4 = .ok (.getfield 62, 3) := by decide +kernel
theorem dX1_slantShown_7 : decode cX1_slantShown 7 = .ok (.aload_n 0, 1) := by decide +kernel
theorem dX1_slantShown_8 : decode cX1_slantShown 8 = .ok (.getfield 32, 3) := by decide +kernel
theorem dX1_slantShown_11 : decode cX1_slantShown 11 = .ok (.iadd, 1) := by decide +kernel
theorem dX1_slantShown_12 : decode cX1_slantShown 12 = .ok (.ireturn, 1) := by decide +kernel
theorem dX1_roundShown_0 : decode cX1_roundShown 0 = .ok (.aload_n 0, 1) := by decide +kernel
theorem dX1_roundShown_1 : decode cX1_roundShown 1 = .ok (.getfield 15, 3) := by decide +kernel
theorem dX1_roundShown_4 : decode cX1_roundShown 4 = .ok (.getfield 67, 3) := by decide +kernel
theorem dX1_roundShown_7 : decode cX1_roundShown 7 = .ok (.aload_n 0, 1) := by decide +kernel
theorem dX1_roundShown_8 : decode cX1_roundShown 8 = .ok (.getfield 32, 3) := by decide +kernel
theorem dX1_roundShown_11 : decode cX1_roundShown 11 = .ok (.isub, 1) := by decide +kernel
theorem dX1_roundShown_12 : decode cX1_roundShown 12 = .ok (.ireturn, 1) := by decide +kernel
theorem dX2_init_0 : decode cX2_init 0 = .ok (.aload_n 0, 1) := by decide +kernel
theorem dX2_init_1 : decode cX2_init 1 = .ok (.invokespecial 3, 3) := by decide +kernel
theorem dX2_init_4 : decode cX2_init 4 = .ok (.aload_n 0, 1) := by decide +kernel
theorem dX2_init_5 : decode cX2_init 5 = .ok (.iload_n 1, 1) := by decide +kernel
theorem dX2_init_6 : decode cX2_init 6 = .ok (.putfield 9, 3) := by decide +kernel
theorem dX2_init_9 : decode cX2_init 9 = .ok (.aload_n 0, 1) := by decide +kernel
theorem dX2_init_10 : decode cX2_init 10 = .ok (.iload_n 2, 1) := by decide +kernel
theorem dX2_init_11 : decode cX2_init 11 = .ok (.putfield 15, 3) := by decide +kernel
theorem dX2_init_14 : decode cX2_init 14 = .ok (.aload_n 0, 1) := by decide +kernel
theorem dX2_init_15 : decode cX2_init 15 = .ok (.iload_n 3, 1) := by decide +kernel
theorem dX2_init_16 : decode cX2_init 16 = .ok (.putfield 18, 3) := by decide +kernel
theorem dX2_init_19 : decode cX2_init 19 = .ok (.aload_n 0, 1) := by decide +kernel
theorem dX2_init_20 : decode cX2_init 20 = .ok (.iload 4, 2) := by decide +kernel
theorem dX2_init_22 : decode cX2_init 22 = .ok (.putfield 21, 3) := by decide +kernel
theorem dX2_init_25 : decode cX2_init 25 = .ok (.aload_n 0, 1) := by decide +kernel
theorem dX2_init_26 : decode cX2_init 26 = .ok (.iload 5, 2) := by decide +kernel
theorem dX2_init_28 : decode cX2_init 28 = .ok (.putfield 24, 3) := by decide +kernel
theorem dX2_init_31 : decode cX2_init 31 = .ok (.aload_n 0, 1) := by decide +kernel
theorem dX2_init_32 : decode cX2_init 32 = .ok (.iload_n 2, 1) := by decide +kernel
theorem dX2_init_33 : decode cX2_init 33 = .ok (.anewarray 27, 3) := by decide +kernel
theorem dX2_init_36 : decode cX2_init 36 = .ok (.putfield 29, 3) := by decide +kernel
theorem dX2_init_39 : decode cX2_init 39 = .ok (.aload_n 0, 1) := by decide +kernel
theorem dX2_init_40 : decode cX2_init 40 = .ok (.iconst (-1), 1) := by decide +kernel
theorem dX2_init_41 : decode cX2_init 41 = .ok (.putfield 33, 3) := by decide +kernel
theorem dX2_init_44 : decode cX2_init 44 = .ok (.aload_n 0, 1) := by decide +kernel
theorem dX2_init_45 : decode cX2_init 45 = .ok (.iconst (-1), 1) := by decide +kernel
theorem dX2_init_46 : decode cX2_init 46 = .ok (.putfield 36, 3) := by decide +kernel
theorem dX2_init_49 : decode cX2_init 49 = .ok (.aload_n 0, 1) := by decide +kernel
theorem dX2_init_50 : decode cX2_init 50 = .ok (.iconst 0, 1) := by decide +kernel
theorem dX2_init_51 : decode cX2_init 51 = .ok (.putfield 39, 3) := by decide +kernel
theorem dX2_init_54 : decode cX2_init 54 = .ok (.aload_n 0, 1) := by decide +kernel
theorem dX2_init_55 : decode cX2_init 55 = .ok (.iconst (-1), 1) := by decide +kernel
theorem dX2_init_56 : decode cX2_init 56 = .ok (.putfield 42, 3) := by decide +kernel
theorem dX2_init_59 : decode cX2_init 59 = .ok (.return_, 1) := by decide +kernel
theorem dX2_hasCells_0 : decode cX2_hasCells 0 = .ok (.iload_n 1, 1) := by decide +kernel
theorem dX2_hasCells_1 : decode cX2_hasCells 1 = .ok (.ifCond .lt 22, 3) := by decide +kernel
theorem dX2_hasCells_4 : decode cX2_hasCells 4 = .ok (.iload_n 2, 1) := by decide +kernel
theorem dX2_hasCells_5 : decode cX2_hasCells 5 = .ok (.iconst 1, 1) := by decide +kernel
theorem dX2_hasCells_6 : decode cX2_hasCells 6 = .ok (.if_icmp .lt 17, 3) := by decide +kernel
theorem dX2_hasCells_9 : decode cX2_hasCells 9 = .ok (.iload_n 2, 1) := by decide +kernel
theorem dX2_hasCells_10 : decode cX2_hasCells 10 = .ok (.aload_n 0, 1) := by decide +kernel
theorem dX2_hasCells_11 : decode cX2_hasCells 11 = .ok (.getfield 15, 3) := by decide +kernel
theorem dX2_hasCells_14 : decode cX2_hasCells 14 = .ok (.iload_n 1, 1) := by decide +kernel
theorem dX2_hasCells_15 : decode cX2_hasCells 15 = .ok (.isub, 1) := by decide +kernel
theorem dX2_hasCells_16 : decode cX2_hasCells 16 = .ok (.if_icmp .gt 7, 3) := by decide +kernel
theorem dX2_hasCells_19 : decode cX2_hasCells 19 = .ok (.iconst 1, 1) := by decide +kernel
theorem dX2_hasCells_20 : decode cX2_hasCells 20 = .ok (.goto 4, 3) := by decide +kernel
theorem dX2_hasCells_23 : decode cX2_hasCells 23 = .ok (.iconst 0, 1) := by decide +kernel
theorem dX2_hasCells_24 : decode cX2_hasCells 24 = .ok (.ireturn, 1) := by decide +kernel
theorem dX2_permittedCrew_0 : decode cX2_permittedCrew 0 = .ok (.iload_n 1, 1) := by decide +kernel
theorem dX2_permittedCrew_1 : decode cX2_permittedCrew 1 = .ok (.aload_n 0, 1) := by decide +kernel
theorem dX2_permittedCrew_2 : decode cX2_permittedCrew 2 = .ok (.getfield 36, 3) := by decide +kernel
theorem dX2_permittedCrew_5 : decode cX2_permittedCrew 5 = .ok (.if_icmp .gt 10, 3) := by decide +kernel
theorem dX2_permittedCrew_8 : decode cX2_permittedCrew 8 = .ok (.aload_n 0, 1) := by decide +kernel
theorem dX2_permittedCrew_9 : decode cX2_permittedCrew 9 = .ok (.getfield 33, 3) := by decide +kernel
theorem dX2_permittedCrew_12 : decode cX2_permittedCrew 12 = .ok (.goto 4, 3) := by decide +kernel
theorem dX2_permittedCrew_15 : decode cX2_permittedCrew 15 = .ok (.iconst (-1), 1) := by decide +kernel
theorem dX2_permittedCrew_16 : decode cX2_permittedCrew 16 = .ok (.ireturn, 1) := by decide +kernel
theorem dX2_isWatchedWithin_0 : decode cX2_isWatchedWithin 0 = .ok (.iload_n 1, 1) := by decide +kernel
theorem dX2_isWatchedWithin_1 : decode cX2_isWatchedWithin 1 = .ok (.aload_n 0, 1) := by decide +kernel
theorem dX2_isWatchedWithin_2 : decode cX2_isWatchedWithin 2 = .ok (.getfield 42, 3) := by decide +kernel
theorem dX2_isWatchedWithin_5 : decode cX2_isWatchedWithin 5 = .ok (.if_icmp .gt 17, 3) := by decide +kernel
theorem dX2_isWatchedWithin_8 : decode cX2_isWatchedWithin 8 = .ok (.iload_n 1, 1) := by decide +kernel
theorem dX2_isWatchedWithin_9 : decode cX2_isWatchedWithin 9 = .ok (.iload_n 2, 1) := by decide +kernel
theorem dX2_isWatchedWithin_10 : decode cX2_isWatchedWithin 10 = .ok (.iadd, 1) := by decide +kernel
theorem dX2_isWatchedWithin_11 : decode cX2_isWatchedWithin 11 = .ok (.aload_n 0, 1) := by decide +kernel
theorem dX2_isWatchedWithin_12 : decode cX2_isWatchedWithin 12 = .ok (.getfield 39, 3) := by decide +kernel
theorem dX2_isWatchedWithin_15 : decode cX2_isWatchedWithin 15 = .ok (.if_icmp .le 7, 3) := by decide +kernel
theorem dX2_isWatchedWithin_18 : decode cX2_isWatchedWithin 18 = .ok (.iconst 1, 1) := by decide +kernel
theorem dX2_isWatchedWithin_19 : decode cX2_isWatchedWithin 19 = .ok (.goto 4, 3) := by decide +kernel
theorem dX2_isWatchedWithin_22 : decode cX2_isWatchedWithin 22 = .ok (.iconst 0, 1) := by decide +kernel
theorem dX2_isWatchedWithin_23 : decode cX2_isWatchedWithin 23 = .ok (.ireturn, 1) := by decide +kernel
theorem dX2_isCleanedIn_0 : decode cX2_isCleanedIn 0 = .ok (.aload_n 0, 1) := by decide +kernel
theorem dX2_isCleanedIn_1 : decode cX2_isCleanedIn 1 = .ok (.getfield 24, 3) := by decide +kernel
theorem dX2_isCleanedIn_4 : decode cX2_isCleanedIn 4 = .ok (.ifCond .le 16, 3) := by decide +kernel
theorem dX2_isCleanedIn_7 : decode cX2_isCleanedIn 7 = .ok (.iload_n 1, 1) := by decide +kernel
theorem dX2_isCleanedIn_8 : decode cX2_isCleanedIn 8 = .ok (.aload_n 0, 1) := by decide +kernel
theorem dX2_isCleanedIn_9 : decode cX2_isCleanedIn 9 = .ok (.getfield 24, 3) := by decide +kernel
theorem dX2_isCleanedIn_12 : decode cX2_isCleanedIn 12 = .ok (.irem, 1) := by decide +kernel
theorem dX2_isCleanedIn_13 : decode cX2_isCleanedIn 13 = .ok (.ifCond .ne 7, 3) := by decide +kernel
theorem dX2_isCleanedIn_16 : decode cX2_isCleanedIn 16 = .ok (.iconst 1, 1) := by decide +kernel
theorem dX2_isCleanedIn_17 : decode cX2_isCleanedIn 17 = .ok (.goto 4, 3) := by decide +kernel
theorem dX2_isCleanedIn_20 : decode cX2_isCleanedIn 20 = .ok (.iconst 0, 1) := by decide +kernel
theorem dX2_isCleanedIn_21 : decode cX2_isCleanedIn 21 = .ok (.ireturn, 1) := by decide +kernel
theorem dX2_showsWithin_0 : decode cX2_showsWithin 0 = .ok (.iload_n 2, 1) := by decide +kernel
theorem dX2_showsWithin_1 : decode cX2_showsWithin 1 = .ok (.istore 4, 2) := by decide +kernel
theorem dX2_showsWithin_3 : decode cX2_showsWithin 3 = .ok (.iload 4, 2) := by decide +kernel
theorem dX2_showsWithin_5 : decode cX2_showsWithin 5 = .ok (.iload_n 3, 1) := by decide +kernel
theorem dX2_showsWithin_6 : decode cX2_showsWithin 6 = .ok (.if_icmp .ge 22, 3) := by decide +kernel
theorem dX2_showsWithin_9 : decode cX2_showsWithin 9 = .ok (.aload_n 0, 1) := by decide +kernel
theorem dX2_showsWithin_10 : decode cX2_showsWithin 10 = .ok (.getfield 29, 3) := by decide +kernel
theorem dX2_showsWithin_13 : decode cX2_showsWithin 13 = .ok (.iload 4, 2) := by decide +kernel
theorem dX2_showsWithin_15 : decode cX2_showsWithin 15 = .ok (.aaload, 1) := by decide +kernel
theorem dX2_showsWithin_16 : decode cX2_showsWithin 16 = .ok (.aload_n 1, 1) := by decide +kernel
theorem dX2_showsWithin_17 : decode cX2_showsWithin 17 = .ok (.if_acmp .ne 5, 3) := by decide +kernel
theorem dX2_showsWithin_20 : decode cX2_showsWithin 20 = .ok (.iconst 1, 1) := by decide +kernel
theorem dX2_showsWithin_21 : decode cX2_showsWithin 21 = .ok (.ireturn, 1) := by decide +kernel
theorem dX2_showsWithin_22 : decode cX2_showsWithin 22 = .ok (.iinc 4 1, 3) := by decide +kernel
theorem dX2_showsWithin_25 : decode cX2_showsWithin 25 = .ok (.goto (-22), 3) := by decide +kernel
theorem dX2_showsWithin_28 : decode cX2_showsWithin 28 = .ok (.iconst 0, 1) := by decide +kernel
theorem dX2_showsWithin_29 : decode cX2_showsWithin 29 = .ok (.ireturn, 1) := by decide +kernel
theorem dX2_cellsShowing_0 : decode cX2_cellsShowing 0 = .ok (.iconst 0, 1) := by decide +kernel
theorem dX2_cellsShowing_1 : decode cX2_cellsShowing 1 = .ok (.istore_n 2, 1) := by decide +kernel
theorem dX2_cellsShowing_2 : decode cX2_cellsShowing 2 = .ok (.iconst 0, 1) := by decide +kernel
theorem dX2_cellsShowing_3 : decode cX2_cellsShowing 3 = .ok (.istore_n 3, 1) := by decide +kernel
theorem dX2_cellsShowing_4 : decode cX2_cellsShowing 4 = .ok (.iload_n 3, 1) := by decide +kernel
theorem dX2_cellsShowing_5 : decode cX2_cellsShowing 5 = .ok (.aload_n 0, 1) := by decide +kernel
theorem dX2_cellsShowing_6 : decode cX2_cellsShowing 6 = .ok (.getfield 15, 3) := by decide +kernel
theorem dX2_cellsShowing_9 : decode cX2_cellsShowing 9 = .ok (.if_icmp .ge 22, 3) := by decide +kernel
theorem dX2_cellsShowing_12 : decode cX2_cellsShowing 12 = .ok (.aload_n 0, 1) := by decide +kernel
theorem dX2_cellsShowing_13 : decode cX2_cellsShowing 13 = .ok (.getfield 29, 3) := by decide +kernel
theorem dX2_cellsShowing_16 : decode cX2_cellsShowing 16 = .ok (.iload_n 3, 1) := by decide +kernel
theorem dX2_cellsShowing_17 : decode cX2_cellsShowing 17 = .ok (.aaload, 1) := by decide +kernel
theorem dX2_cellsShowing_18 : decode cX2_cellsShowing 18 = .ok (.aload_n 1, 1) := by decide +kernel
theorem dX2_cellsShowing_19 : decode cX2_cellsShowing 19 = .ok (.if_acmp .ne 6, 3) := by decide +kernel
theorem dX2_cellsShowing_22 : decode cX2_cellsShowing 22 = .ok (.iinc 2 1, 3) := by decide +kernel
theorem dX2_cellsShowing_25 : decode cX2_cellsShowing 25 = .ok (.iinc 3 1, 3) := by decide +kernel
theorem dX2_cellsShowing_28 : decode cX2_cellsShowing 28 = .ok (.goto (-24), 3) := by decide +kernel
theorem dX2_cellsShowing_31 : decode cX2_cellsShowing 31 = .ok (.iload_n 2, 1) := by decide +kernel
theorem dX2_cellsShowing_32 : decode cX2_cellsShowing 32 = .ok (.ireturn, 1) := by decide +kernel
theorem dX2_paintedCells_0 : decode cX2_paintedCells 0 = .ok (.iconst 0, 1) := by decide +kernel
theorem dX2_paintedCells_1 : decode cX2_paintedCells 1 = .ok (.istore_n 1, 1) := by decide +kernel
theorem dX2_paintedCells_2 : decode cX2_paintedCells 2 = .ok (.iconst 0, 1) := by decide +kernel
theorem dX2_paintedCells_3 : decode cX2_paintedCells 3 = .ok (.istore_n 2, 1) := by decide +kernel
theorem dX2_paintedCells_4 : decode cX2_paintedCells 4 = .ok (.iload_n 2, 1) := by decide +kernel
theorem dX2_paintedCells_5 : decode cX2_paintedCells 5 = .ok (.aload_n 0, 1) := by decide +kernel
theorem dX2_paintedCells_6 : decode cX2_paintedCells 6 = .ok (.getfield 15, 3) := by decide +kernel
theorem dX2_paintedCells_9 : decode cX2_paintedCells 9 = .ok (.if_icmp .ge 21, 3) := by decide +kernel
theorem dX2_paintedCells_12 : decode cX2_paintedCells 12 = .ok (.aload_n 0, 1) := by decide +kernel
theorem dX2_paintedCells_13 : decode cX2_paintedCells 13 = .ok (.getfield 29, 3) := by decide +kernel
theorem dX2_paintedCells_16 : decode cX2_paintedCells 16 = .ok (.iload_n 2, 1) := by decide +kernel
theorem dX2_paintedCells_17 : decode cX2_paintedCells 17 = .ok (.aaload, 1) := by decide +kernel
theorem dX2_paintedCells_18 : decode cX2_paintedCells 18 = .ok (.ifnull 6, 3) := by decide +kernel
theorem dX2_paintedCells_21 : decode cX2_paintedCells 21 = .ok (.iinc 1 1, 3) := by decide +kernel
theorem dX2_paintedCells_24 : decode cX2_paintedCells 24 = .ok (.iinc 2 1, 3) := by decide +kernel
theorem dX2_paintedCells_27 : decode cX2_paintedCells 27 = .ok (.goto (-23), 3) := by decide +kernel
theorem dX2_paintedCells_30 : decode cX2_paintedCells 30 = .ok (.iload_n 1, 1) := by decide +kernel
theorem dX2_paintedCells_31 : decode cX2_paintedCells 31 = .ok (.ireturn, 1) := by decide +kernel
theorem dX2_fameOf_0 : decode cX2_fameOf 0 = .ok (.iconst 0, 1) := by decide +kernel
theorem dX2_fameOf_1 : decode cX2_fameOf 1 = .ok (.istore_n 2, 1) := by decide +kernel
theorem dX2_fameOf_2 : decode cX2_fameOf 2 = .ok (.iconst 0, 1) := by decide +kernel
theorem dX2_fameOf_3 : decode cX2_fameOf 3 = .ok (.istore_n 3, 1) := by decide +kernel
theorem dX2_fameOf_4 : decode cX2_fameOf 4 = .ok (.iload_n 3, 1) := by decide +kernel
theorem dX2_fameOf_5 : decode cX2_fameOf 5 = .ok (.aload_n 0, 1) := by decide +kernel
theorem dX2_fameOf_6 : decode cX2_fameOf 6 = .ok (.getfield 15, 3) := by decide +kernel
theorem dX2_fameOf_9 : decode cX2_fameOf 9 = .ok (.if_icmp .ge 18, 3) := by decide +kernel
theorem dX2_fameOf_12 : decode cX2_fameOf 12 = .ok (.iload_n 2, 1) := by decide +kernel
theorem dX2_fameOf_13 : decode cX2_fameOf 13 = .ok (.aload_n 0, 1) := by decide +kernel
theorem dX2_fameOf_14 : decode cX2_fameOf 14 = .ok (.iload_n 3, 1) := by decide +kernel
theorem dX2_fameOf_15 : decode cX2_fameOf 15 = .ok (.aload_n 1, 1) := by decide +kernel
theorem dX2_fameOf_16 : decode cX2_fameOf 16 = .ok (.invokevirtual 45, 3) := by decide +kernel
theorem dX2_fameOf_19 : decode cX2_fameOf 19 = .ok (.iadd, 1) := by decide +kernel
theorem dX2_fameOf_20 : decode cX2_fameOf 20 = .ok (.istore_n 2, 1) := by decide +kernel
theorem dX2_fameOf_21 : decode cX2_fameOf 21 = .ok (.iinc 3 1, 3) := by decide +kernel
theorem dX2_fameOf_24 : decode cX2_fameOf 24 = .ok (.goto (-20), 3) := by decide +kernel
theorem dX2_fameOf_27 : decode cX2_fameOf 27 = .ok (.iload_n 2, 1) := by decide +kernel
theorem dX2_fameOf_28 : decode cX2_fameOf 28 = .ok (.ireturn, 1) := by decide +kernel
theorem dX2_fameAt_0 : decode cX2_fameAt 0 = .ok (.aload_n 0, 1) := by decide +kernel
theorem dX2_fameAt_1 : decode cX2_fameAt 1 = .ok (.getfield 29, 3) := by decide +kernel
theorem dX2_fameAt_4 : decode cX2_fameAt 4 = .ok (.iload_n 1, 1) := by decide +kernel
theorem dX2_fameAt_5 : decode cX2_fameAt 5 = .ok (.aaload, 1) := by decide +kernel
theorem dX2_fameAt_6 : decode cX2_fameAt 6 = .ok (.astore_n 3, 1) := by decide +kernel
theorem dX2_fameAt_7 : decode cX2_fameAt 7 = .ok (.aload_n 3, 1) := by decide +kernel
theorem dX2_fameAt_8 : decode cX2_fameAt 8 = .ok (.ifnull 23, 3) := by decide +kernel
theorem dX2_fameAt_11 : decode cX2_fameAt 11 = .ok (.aload_n 3, 1) := by decide +kernel
theorem dX2_fameAt_12 : decode cX2_fameAt 12 = .ok (.getfield 49, 3) := by decide +kernel
theorem dX2_fameAt_15 : decode cX2_fameAt 15 = .ok (.aload_n 2, 1) := by decide +kernel
theorem dX2_fameAt_16 : decode cX2_fameAt 16 = .ok (.if_acmp .ne 15, 3) := by decide +kernel
theorem dX2_fameAt_19 : decode cX2_fameAt 19 = .ok (.aload_n 0, 1) := by decide +kernel
theorem dX2_fameAt_20 : decode cX2_fameAt 20 = .ok (.getfield 18, 3) := by decide +kernel
theorem dX2_fameAt_23 : decode cX2_fameAt 23 = .ok (.aload_n 3, 1) := by decide +kernel
theorem dX2_fameAt_24 : decode cX2_fameAt 24 = .ok (.invokevirtual 53, 3) := by decide +kernel
theorem dX2_fameAt_27 : decode cX2_fameAt 27 = .ok (.imul, 1) := by decide +kernel
theorem dX2_fameAt_28 : decode cX2_fameAt 28 = .ok (.goto 4, 3) := by decide +kernel
theorem dX2_fameAt_31 : decode cX2_fameAt 31 = .ok (.iconst 0, 1) := by decide +kernel
theorem dX2_fameAt_32 : decode cX2_fameAt 32 = .ok (.ireturn, 1) := by decide +kernel
theorem dX2_cover_0 : decode cX2_cover 0 = .ok (.aload_n 1, 1) := by decide +kernel
theorem dX2_cover_1 : decode cX2_cover 1 = .ok (.getfield 57, 3) := by decide +kernel
theorem dX2_cover_4 : decode cX2_cover 4 = .ok (.istore_n 2, 1) := by decide +kernel
theorem dX2_cover_5 : decode cX2_cover 5 = .ok (.iload_n 2, 1) := by decide +kernel
theorem dX2_cover_6 : decode cX2_cover 6 = .ok (.aload_n 1, 1) := by decide +kernel
theorem dX2_cover_7 : decode cX2_cover 7 = .ok (.getfield 57, 3) := by decide +kernel
theorem dX2_cover_10 : decode cX2_cover 10 = .ok (.aload_n 1, 1) := by decide +kernel
theorem dX2_cover_11 : decode cX2_cover 11 = .ok (.getfield 60, 3) := by decide +kernel
theorem dX2_cover_14 : decode cX2_cover 14 = .ok (.iadd, 1) := by decide +kernel
theorem dX2_cover_15 : decode cX2_cover 15 = .ok (.if_icmp .ge 16, 3) := by decide +kernel
theorem dX2_cover_18 : decode cX2_cover 18 = .ok (.aload_n 0, 1) := by decide +kernel
theorem dX2_cover_19 : decode cX2_cover 19 = .ok (.getfield 29, 3) := by decide +kernel
theorem dX2_cover_22 : decode cX2_cover 22 = .ok (.iload_n 2, 1) := by decide +kernel
theorem dX2_cover_23 : decode cX2_cover 23 = .ok (.aload_n 1, 1) := by decide +kernel
theorem dX2_cover_24 : decode cX2_cover 24 = .ok (.aastore, 1) := by decide +kernel
theorem dX2_cover_25 : decode cX2_cover 25 = .ok (.iinc 2 1, 3) := by decide +kernel
theorem dX2_cover_28 : decode cX2_cover 28 = .ok (.goto (-23), 3) := by decide +kernel
theorem dX2_cover_31 : decode cX2_cover 31 = .ok (.return_, 1) := by decide +kernel
theorem dX2_cutOut_0 : decode cX2_cutOut 0 = .ok (.iconst 0, 1) := by decide +kernel
theorem dX2_cutOut_1 : decode cX2_cutOut 1 = .ok (.istore_n 2, 1) := by decide +kernel
theorem dX2_cutOut_2 : decode cX2_cutOut 2 = .ok (.iload_n 2, 1) := by decide +kernel
theorem dX2_cutOut_3 : decode cX2_cutOut 3 = .ok (.aload_n 0, 1) := by decide +kernel
theorem dX2_cutOut_4 : decode cX2_cutOut 4 = .ok (.getfield 15, 3) := by decide +kernel
theorem dX2_cutOut_7 : decode cX2_cutOut 7 = .ok (.if_icmp .ge 26, 3) := by decide +kernel
theorem dX2_cutOut_10 : decode cX2_cutOut 10 = .ok (.aload_n 0, 1) := by decide +kernel
theorem dX2_cutOut_11 : decode cX2_cutOut 11 = .ok (.getfield 29, 3) := by decide +kernel
theorem dX2_cutOut_14 : decode cX2_cutOut 14 = .ok (.iload_n 2, 1) := by decide +kernel
theorem dX2_cutOut_15 : decode cX2_cutOut 15 = .ok (.aaload, 1) := by decide +kernel
theorem dX2_cutOut_16 : decode cX2_cutOut 16 = .ok (.aload_n 1, 1) := by decide +kernel
theorem dX2_cutOut_17 : decode cX2_cutOut 17 = .ok (.if_acmp .ne 10, 3) := by decide +kernel
theorem dX2_cutOut_20 : decode cX2_cutOut 20 = .ok (.aload_n 0, 1) := by decide +kernel
theorem dX2_cutOut_21 : decode cX2_cutOut 21 = .ok (.getfield 29, 3) := by decide +kernel
theorem dX2_cutOut_24 : decode cX2_cutOut 24 = .ok (.iload_n 2, 1) := by decide +kernel
theorem dX2_cutOut_25 : decode cX2_cutOut 25 = .ok (.aconst_null, 1) := by decide +kernel
theorem dX2_cutOut_26 : decode cX2_cutOut 26 = .ok (.aastore, 1) := by decide +kernel
theorem dX2_cutOut_27 : decode cX2_cutOut 27 = .ok (.iinc 2 1, 3) := by decide +kernel
theorem dX2_cutOut_30 : decode cX2_cutOut 30 = .ok (.goto (-28), 3) := by decide +kernel
theorem dX2_cutOut_33 : decode cX2_cutOut 33 = .ok (.return_, 1) := by decide +kernel
theorem dX2_bareAll_0 : decode cX2_bareAll 0 = .ok (.iconst 0, 1) := by decide +kernel
theorem dX2_bareAll_1 : decode cX2_bareAll 1 = .ok (.istore_n 1, 1) := by decide +kernel
theorem dX2_bareAll_2 : decode cX2_bareAll 2 = .ok (.iload_n 1, 1) := by decide +kernel
theorem dX2_bareAll_3 : decode cX2_bareAll 3 = .ok (.aload_n 0, 1) := by decide +kernel
theorem dX2_bareAll_4 : decode cX2_bareAll 4 = .ok (.getfield 15, 3) := by decide +kernel
theorem dX2_bareAll_7 : decode cX2_bareAll 7 = .ok (.if_icmp .ge 16, 3) := by decide +kernel
theorem dX2_bareAll_10 : decode cX2_bareAll 10 = .ok (.aload_n 0, 1) := by decide +kernel
theorem dX2_bareAll_11 : decode cX2_bareAll 11 = .ok (.getfield 29, 3) := by decide +kernel
theorem dX2_bareAll_14 : decode cX2_bareAll 14 = .ok (.iload_n 1, 1) := by decide +kernel
theorem dX2_bareAll_15 : decode cX2_bareAll 15 = .ok (.aconst_null, 1) := by decide +kernel
theorem dX2_bareAll_16 : decode cX2_bareAll 16 = .ok (.aastore, 1) := by decide +kernel
theorem dX2_bareAll_17 : decode cX2_bareAll 17 = .ok (.iinc 1 1, 3) := by decide +kernel
theorem dX2_bareAll_20 : decode cX2_bareAll 20 = .ok (.goto (-18), 3) := by decide +kernel
theorem dX2_bareAll_23 : decode cX2_bareAll 23 = .ok (.return_, 1) := by decide +kernel
theorem dX3_init_0 : decode cX3_init 0 = .ok (.aload_n 0, 1) := by decide +kernel
theorem dX3_init_1 : decode cX3_init 1 = .ok (.invokespecial 1, 3) := by decide +kernel
theorem dX3_init_4 : decode cX3_init 4 = .ok (.aload_n 0, 1) := by decide +kernel
theorem dX3_init_5 : decode cX3_init 5 = .ok (.new 7, 3) := by decide +kernel
theorem dX3_init_8 : decode cX3_init 8 = .ok (.dup, 1) := by decide +kernel
theorem dX3_init_9 : decode cX3_init 9 = .ok (.invokespecial 9, 3) := by decide +kernel
theorem dX3_init_12 : decode cX3_init 12 = .ok (.putfield 10, 3) := by decide +kernel
theorem dX3_init_15 : decode cX3_init 15 = .ok (.aload_n 0, 1) := by decide +kernel
theorem dX3_init_16 : decode cX3_init 16 = .ok (.new 7, 3) := by decide +kernel
theorem dX3_init_19 : decode cX3_init 19 = .ok (.dup, 1) := by decide +kernel
theorem dX3_init_20 : decode cX3_init 20 = .ok (.invokespecial 9, 3) := by decide +kernel
theorem dX3_init_23 : decode cX3_init 23 = .ok (.putfield 16, 3) := by decide +kernel
theorem dX3_init_26 : decode cX3_init 26 = .ok (.aload_n 0, 1) := by decide +kernel
theorem dX3_init_27 : decode cX3_init 27 = .ok (.new 7, 3) := by decide +kernel
theorem dX3_init_30 : decode cX3_init 30 = .ok (.dup, 1) := by decide +kernel
theorem dX3_init_31 : decode cX3_init 31 = .ok (.invokespecial 9, 3) := by decide +kernel
theorem dX3_init_34 : decode cX3_init 34 = .ok (.putfield 19, 3) := by decide +kernel
theorem dX3_init_37 : decode cX3_init 37 = .ok (.aload_n 0, 1) := by decide +kernel
theorem dX3_init_38 : decode cX3_init 38 = .ok (.iconst 0, 1) := by decide +kernel
theorem dX3_init_39 : decode cX3_init 39 = .ok (.putfield 22, 3) := by decide +kernel
theorem dX3_init_42 : decode cX3_init 42 = .ok (.aload_n 0, 1) := by decide +kernel
theorem dX3_init_43 : decode cX3_init 43 = .ok (.bipush 30, 2) := by decide +kernel
theorem dX3_init_45 : decode cX3_init 45 = .ok (.putfield 26, 3) := by decide +kernel
theorem dX3_init_48 : decode cX3_init 48 = .ok (.aload_n 0, 1) := by decide +kernel
theorem dX3_init_49 : decode cX3_init 49 = .ok (.iconst 0, 1) := by decide +kernel
theorem dX3_init_50 : decode cX3_init 50 = .ok (.putfield 29, 3) := by decide +kernel
theorem dX3_init_53 : decode cX3_init 53 = .ok (.return_, 1) := by decide +kernel
theorem dX3_wall_0 : decode cX3_wall 0 = .ok (.iload 4, 2) := by decide +kernel
theorem dX3_wall_2 : decode cX3_wall 2 = .ok (.ifCond .eq 14, 3) := by decide +kernel
theorem dX3_wall_5 : decode cX3_wall 5 = .ok (.iload 4, 2) := by decide +kernel
theorem dX3_wall_7 : decode cX3_wall 7 = .ok (.iconst 2, 1) := by decide +kernel
theorem dX3_wall_8 : decode cX3_wall 8 = .ok (.bipush 20, 2) := by decide +kernel
theorem dX3_wall_10 : decode cX3_wall 10 = .ok (.invokestatic 32, 3) := by decide +kernel
theorem dX3_wall_13 : decode cX3_wall 13 = .ok (.ifCond .eq 7, 3) := by decide +kernel
theorem dX3_wall_16 : decode cX3_wall 16 = .ok (.iconst 1, 1) := by decide +kernel
theorem dX3_wall_17 : decode cX3_wall 17 = .ok (.goto 4, 3) := by decide +kernel
theorem dX3_wall_20 : decode cX3_wall 20 = .ok (.iconst 0, 1) := by decide +kernel
theorem dX3_wall_21 : decode cX3_wall 21 = .ok (.istore 5, 2) := by decide +kernel
theorem dX3_wall_23 : decode cX3_wall 23 = .ok (.iload_n 1, 1) := by decide +kernel
theorem dX3_wall_24 : decode cX3_wall 24 = .ok (.iconst 4, 1) := by decide +kernel
theorem dX3_wall_25 : decode cX3_wall 25 = .ok (.bipush 16, 2) := by decide +kernel
theorem dX3_wall_27 : decode cX3_wall 27 = .ok (.invokestatic 32, 3) := by decide +kernel
theorem dX3_wall_30 : decode cX3_wall 30 = .ok (.ifCond .eq 27, 3) := by decide +kernel
theorem dX3_wall_33 : decode cX3_wall 33 = .ok (.iload_n 2, 1) := by decide +kernel
theorem dX3_wall_34 : decode cX3_wall 34 = .ok (.iconst 1, 1) := by decide +kernel
theorem dX3_wall_35 : decode cX3_wall 35 = .ok (.bipush 9, 2) := by decide +kernel
theorem dX3_wall_37 : decode cX3_wall 37 = .ok (.invokestatic 32, 3) := by decide +kernel
theorem dX3_wall_40 : decode cX3_wall 40 = .ok (.ifCond .eq 17, 3) := by decide +kernel
theorem dX3_wall_43 : decode cX3_wall 43 = .ok (.iload_n 3, 1) := by decide +kernel
theorem dX3_wall_44 : decode cX3_wall 44 = .ok (.iconst 0, 1) := by decide +kernel
theorem dX3_wall_45 : decode cX3_wall 45 = .ok (.iconst 3, 1) := by decide +kernel
theorem dX3_wall_46 : decode cX3_wall 46 = .ok (.invokestatic 32, 3) := by decide +kernel
theorem dX3_wall_49 : decode cX3_wall 49 = .ok (.ifCond .eq 8, 3) := by decide +kernel
theorem dX3_wall_52 : decode cX3_wall 52 = .ok (.iload 5, 2) := by decide +kernel
theorem dX3_wall_54 : decode cX3_wall 54 = .ok (.ifCond .ne 13, 3) := by decide +kernel
theorem dX3_wall_57 : decode cX3_wall 57 = .ok (.new 36, 3) := by decide +kernel
theorem dX3_wall_60 : decode cX3_wall 60 = .ok (.dup, 1) := by decide +kernel
theorem dX3_wall_61 : decode cX3_wall 61 = .ok (.ldc 38, 2) := by decide +kernel
theorem dX3_wall_63 : decode cX3_wall 63 = .ok (.invokespecial 40, 3) := by decide +kernel
theorem dX3_wall_66 : decode cX3_wall 66 = .ok (.athrow, 1) := by decide +kernel
theorem dX3_wall_67 : decode cX3_wall 67 = .ok (.aload_n 0, 1) := by decide +kernel
theorem dX3_wall_68 : decode cX3_wall 68 = .ok (.getfield 10, 3) := by decide +kernel
theorem dX3_wall_71 : decode cX3_wall 71 = .ok (.invokevirtual 43, 3) := by decide +kernel
theorem dX3_wall_74 : decode cX3_wall 74 = .ok (.istore 6, 2) := by decide +kernel
theorem dX3_wall_76 : decode cX3_wall 76 = .ok (.iload 6, 2) := by decide +kernel
theorem dX3_wall_78 : decode cX3_wall 78 = .ok (.bipush 6, 2) := by decide +kernel
theorem dX3_wall_80 : decode cX3_wall 80 = .ok (.if_icmp .lt 13, 3) := by decide +kernel
theorem dX3_wall_83 : decode cX3_wall 83 = .ok (.new 47, 3) := by decide +kernel
theorem dX3_wall_86 : decode cX3_wall 86 = .ok (.dup, 1) := by decide +kernel
theorem dX3_wall_87 : decode cX3_wall 87 = .ok (.ldc 49, 2) := by decide +kernel
theorem dX3_wall_89 : decode cX3_wall 89 = .ok (.invokespecial 51, 3) := by decide +kernel
theorem dX3_wall_92 : decode cX3_wall 92 = .ok (.athrow, 1) := by decide +kernel
theorem dX3_wall_93 : decode cX3_wall 93 = .ok (.aload_n 0, 1) := by decide +kernel
theorem dX3_wall_94 : decode cX3_wall 94 = .ok (.getfield 10, 3) := by decide +kernel
theorem dX3_wall_97 : decode cX3_wall 97 = .ok (.new 52, 3) := by decide +kernel
theorem dX3_wall_100 : decode cX3_wall 100 = .ok (.dup, 1) := by decide +kernel
theorem dX3_wall_101 : decode cX3_wall 101 = .ok (.iload 6, 2) := by decide +kernel
theorem dX3_wall_103 : decode cX3_wall 103 = .ok (.iload_n 1, 1) := by decide +kernel
theorem dX3_wall_104 : decode cX3_wall 104 = .ok (.iload_n 2, 1) := by decide +kernel
theorem dX3_wall_105 : decode cX3_wall 105 = .ok (.iload_n 3, 1) := by decide +kernel
theorem dX3_wall_106 : decode cX3_wall 106 = .ok (.iload 4, 2) := by decide +kernel
theorem dX3_wall_108 : decode cX3_wall 108 = .ok (.invokespecial 54, 3) := by decide +kernel
theorem dX3_wall_111 : decode cX3_wall 111 = .ok (.invokevirtual 57, 3) := by decide +kernel
theorem dX3_wall_114 : decode cX3_wall 114 = .ok (.pop, 1) := by decide +kernel
theorem dX3_wall_115 : decode cX3_wall 115 = .ok (.iload 6, 2) := by decide +kernel
theorem dX3_wall_117 : decode cX3_wall 117 = .ok (.ireturn, 1) := by decide +kernel
theorem dX3_hand_0 : decode cX3_hand 0 = .ok (.iload_n 1, 1) := by decide +kernel
theorem dX3_hand_1 : decode cX3_hand 1 = .ok (.iconst 0, 1) := by decide +kernel
theorem dX3_hand_2 : decode cX3_hand 2 = .ok (.iconst 3, 1) := by decide +kernel
theorem dX3_hand_3 : decode cX3_hand 3 = .ok (.invokestatic 32, 3) := by decide +kernel
theorem dX3_hand_6 : decode cX3_hand 6 = .ok (.ifCond .eq 34, 3) := by decide +kernel
theorem dX3_hand_9 : decode cX3_hand 9 = .ok (.iload_n 2, 1) := by decide +kernel
theorem dX3_hand_10 : decode cX3_hand 10 = .ok (.iconst 1, 1) := by decide +kernel
theorem dX3_hand_11 : decode cX3_hand 11 = .ok (.bipush 9, 2) := by decide +kernel
theorem dX3_hand_13 : decode cX3_hand 13 = .ok (.invokestatic 32, 3) := by decide +kernel
theorem dX3_hand_16 : decode cX3_hand 16 = .ok (.ifCond .eq 24, 3) := by decide +kernel
theorem dX3_hand_19 : decode cX3_hand 19 = .ok (.iload_n 3, 1) := by decide +kernel
theorem dX3_hand_20 : decode cX3_hand 20 = .ok (.iconst 0, 1) := by decide +kernel
theorem dX3_hand_21 : decode cX3_hand 21 = .ok (.bipush 9, 2) := by decide +kernel
theorem dX3_hand_23 : decode cX3_hand 23 = .ok (.invokestatic 32, 3) := by decide +kernel
theorem dX3_hand_26 : decode cX3_hand 26 = .ok (.ifCond .eq 14, 3) := by decide +kernel
theorem dX3_hand_29 : decode cX3_hand 29 = .ok (.iload 4, 2) := by decide +kernel
theorem dX3_hand_31 : decode cX3_hand 31 = .ok (.iconst 0, 1) := by decide +kernel
theorem dX3_hand_32 : decode cX3_hand 32 = .ok (.bipush 9, 2) := by decide +kernel
theorem dX3_hand_34 : decode cX3_hand 34 = .ok (.invokestatic 32, 3) := by decide +kernel
theorem dX3_hand_37 : decode cX3_hand 37 = .ok (.ifCond .ne 13, 3) := by decide +kernel
theorem dX3_hand_40 : decode cX3_hand 40 = .ok (.new 36, 3) := by decide +kernel
theorem dX3_hand_43 : decode cX3_hand 43 = .ok (.dup, 1) := by decide +kernel
theorem dX3_hand_44 : decode cX3_hand 44 = .ok (.ldc 61, 2) := by decide +kernel
theorem dX3_hand_46 : decode cX3_hand 46 = .ok (.invokespecial 40, 3) := by decide +kernel
theorem dX3_hand_49 : decode cX3_hand 49 = .ok (.athrow, 1) := by decide +kernel
theorem dX3_hand_50 : decode cX3_hand 50 = .ok (.aload_n 0, 1) := by decide +kernel
theorem dX3_hand_51 : decode cX3_hand 51 = .ok (.getfield 16, 3) := by decide +kernel
theorem dX3_hand_54 : decode cX3_hand 54 = .ok (.invokevirtual 43, 3) := by decide +kernel
theorem dX3_hand_57 : decode cX3_hand 57 = .ok (.istore 5, 2) := by decide +kernel
theorem dX3_hand_59 : decode cX3_hand 59 = .ok (.iload 5, 2) := by decide +kernel
theorem dX3_hand_61 : decode cX3_hand 61 = .ok (.bipush 8, 2) := by decide +kernel
theorem dX3_hand_63 : decode cX3_hand 63 = .ok (.if_icmp .lt 13, 3) := by decide +kernel
theorem dX3_hand_66 : decode cX3_hand 66 = .ok (.new 47, 3) := by decide +kernel
theorem dX3_hand_69 : decode cX3_hand 69 = .ok (.dup, 1) := by decide +kernel
theorem dX3_hand_70 : decode cX3_hand 70 = .ok (.ldc 63, 2) := by decide +kernel
theorem dX3_hand_72 : decode cX3_hand 72 = .ok (.invokespecial 51, 3) := by decide +kernel
theorem dX3_hand_75 : decode cX3_hand 75 = .ok (.athrow, 1) := by decide +kernel
theorem dX3_hand_76 : decode cX3_hand 76 = .ok (.aload_n 0, 1) := by decide +kernel
theorem dX3_hand_77 : decode cX3_hand 77 = .ok (.getfield 16, 3) := by decide +kernel
theorem dX3_hand_80 : decode cX3_hand 80 = .ok (.new 65, 3) := by decide +kernel
theorem dX3_hand_83 : decode cX3_hand 83 = .ok (.dup, 1) := by decide +kernel
theorem dX3_hand_84 : decode cX3_hand 84 = .ok (.iload 5, 2) := by decide +kernel
theorem dX3_hand_86 : decode cX3_hand 86 = .ok (.iload_n 1, 1) := by decide +kernel
theorem dX3_hand_87 : decode cX3_hand 87 = .ok (.iload_n 2, 1) := by decide +kernel
theorem dX3_hand_88 : decode cX3_hand 88 = .ok (.iload_n 3, 1) := by decide +kernel
theorem dX3_hand_89 : decode cX3_hand 89 = .ok (.iload 4, 2) := by decide +kernel
theorem dX3_hand_91 : decode cX3_hand 91 = .ok (.invokespecial 67, 3) := by decide +kernel
theorem dX3_hand_94 : decode cX3_hand 94 = .ok (.invokevirtual 57, 3) := by decide +kernel
theorem dX3_hand_97 : decode cX3_hand 97 = .ok (.pop, 1) := by decide +kernel
theorem dX3_hand_98 : decode cX3_hand 98 = .ok (.iload 5, 2) := by decide +kernel
theorem dX3_hand_100 : decode cX3_hand 100 = .ok (.ireturn, 1) := by decide +kernel
theorem dX3_permit_0 : decode cX3_permit 0 = .ok (.aload_n 0, 1) := by decide +kernel
theorem dX3_permit_1 : decode cX3_permit 1 = .ok (.iload_n 1, 1) := by decide +kernel
theorem dX3_permit_2 : decode cX3_permit 2 = .ok (.invokevirtual 68, 3) := by decide +kernel
theorem dX3_permit_5 : decode cX3_permit 5 = .ok (.astore 4, 2) := by decide +kernel
theorem dX3_permit_7 : decode cX3_permit 7 = .ok (.iload_n 2, 1) := by decide +kernel
theorem dX3_permit_8 : decode cX3_permit 8 = .ok (.iconst 0, 1) := by decide +kernel
theorem dX3_permit_9 : decode cX3_permit 9 = .ok (.iconst 3, 1) := by decide +kernel
theorem dX3_permit_10 : decode cX3_permit 10 = .ok (.invokestatic 32, 3) := by decide +kernel
theorem dX3_permit_13 : decode cX3_permit 13 = .ok (.ifCond .eq 17, 3) := by decide +kernel
theorem dX3_permit_16 : decode cX3_permit 16 = .ok (.iload_n 3, 1) := by decide +kernel
theorem dX3_permit_17 : decode cX3_permit 17 = .ok (.aload_n 0, 1) := by decide +kernel
theorem dX3_permit_18 : decode cX3_permit 18 = .ok (.getfield 22, 3) := by decide +kernel
theorem dX3_permit_21 : decode cX3_permit 21 = .ok (.sipush 400, 3) := by decide +kernel
theorem dX3_permit_24 : decode cX3_permit 24 = .ok (.invokestatic 32, 3) := by decide +kernel
theorem dX3_permit_27 : decode cX3_permit 27 = .ok (.ifCond .ne 13, 3) := by decide +kernel
theorem dX3_permit_30 : decode cX3_permit 30 = .ok (.new 36, 3) := by decide +kernel
theorem dX3_permit_33 : decode cX3_permit 33 = .ok (.dup, 1) := by decide +kernel
theorem dX3_permit_34 : decode cX3_permit 34 = .ok (.ldc 72, 2) := by decide +kernel
theorem dX3_permit_36 : decode cX3_permit 36 = .ok (.invokespecial 40, 3) := by decide +kernel
theorem dX3_permit_39 : decode cX3_permit 39 = .ok (.athrow, 1) := by decide +kernel
theorem dX3_permit_40 : decode cX3_permit 40 = .ok (.aload 4, 2) := by decide +kernel
theorem dX3_permit_42 : decode cX3_permit 42 = .ok (.aload_n 0, 1) := by decide +kernel
theorem dX3_permit_43 : decode cX3_permit 43 = .ok (.getfield 22, 3) := by decide +kernel
theorem dX3_permit_46 : decode cX3_permit 46 = .ok (.invokevirtual 74, 3) := by decide +kernel
theorem dX3_permit_49 : decode cX3_permit 49 = .ok (.istore 5, 2) := by decide +kernel
theorem dX3_permit_51 : decode cX3_permit 51 = .ok (.aload 4, 2) := by decide +kernel
theorem dX3_permit_53 : decode cX3_permit 53 = .ok (.iload_n 2, 1) := by decide +kernel
theorem dX3_permit_54 : decode cX3_permit 54 = .ok (.putfield 78, 3) := by decide +kernel
theorem dX3_permit_57 : decode cX3_permit 57 = .ok (.aload 4, 2) := by decide +kernel
theorem dX3_permit_59 : decode cX3_permit 59 = .ok (.iload_n 3, 1) := by decide +kernel
theorem dX3_permit_60 : decode cX3_permit 60 = .ok (.putfield 81, 3) := by decide +kernel
theorem dX3_permit_63 : decode cX3_permit 63 = .ok (.iload 5, 2) := by decide +kernel
theorem dX3_permit_65 : decode cX3_permit 65 = .ok (.ireturn, 1) := by decide +kernel
theorem dX3_watch_0 : decode cX3_watch 0 = .ok (.aload_n 0, 1) := by decide +kernel
theorem dX3_watch_1 : decode cX3_watch 1 = .ok (.iload_n 1, 1) := by decide +kernel
theorem dX3_watch_2 : decode cX3_watch 2 = .ok (.invokevirtual 68, 3) := by decide +kernel
theorem dX3_watch_5 : decode cX3_watch 5 = .ok (.astore 4, 2) := by decide +kernel
theorem dX3_watch_7 : decode cX3_watch 7 = .ok (.iload_n 2, 1) := by decide +kernel
theorem dX3_watch_8 : decode cX3_watch 8 = .ok (.iconst 0, 1) := by decide +kernel
theorem dX3_watch_9 : decode cX3_watch 9 = .ok (.sipush 359, 3) := by decide +kernel
theorem dX3_watch_12 : decode cX3_watch 12 = .ok (.invokestatic 32, 3) := by decide +kernel
theorem dX3_watch_15 : decode cX3_watch 15 = .ok (.ifCond .eq 14, 3) := by decide +kernel
theorem dX3_watch_18 : decode cX3_watch 18 = .ok (.iload_n 3, 1) := by decide +kernel
theorem dX3_watch_19 : decode cX3_watch 19 = .ok (.iload_n 2, 1) := by decide +kernel
theorem dX3_watch_20 : decode cX3_watch 20 = .ok (.sipush 359, 3) := by decide +kernel
theorem dX3_watch_23 : decode cX3_watch 23 = .ok (.invokestatic 32, 3) := by decide +kernel
theorem dX3_watch_26 : decode cX3_watch 26 = .ok (.ifCond .ne 13, 3) := by decide +kernel
theorem dX3_watch_29 : decode cX3_watch 29 = .ok (.new 36, 3) := by decide +kernel
theorem dX3_watch_32 : decode cX3_watch 32 = .ok (.dup, 1) := by decide +kernel
theorem dX3_watch_33 : decode cX3_watch 33 = .ok (.ldc 84, 2) := by decide +kernel
theorem dX3_watch_35 : decode cX3_watch 35 = .ok (.invokespecial 40, 3) := by decide +kernel
theorem dX3_watch_38 : decode cX3_watch 38 = .ok (.athrow, 1) := by decide +kernel
theorem dX3_watch_39 : decode cX3_watch 39 = .ok (.aload 4, 2) := by decide +kernel
theorem dX3_watch_41 : decode cX3_watch 41 = .ok (.iload_n 2, 1) := by decide +kernel
theorem dX3_watch_42 : decode cX3_watch 42 = .ok (.putfield 86, 3) := by decide +kernel
theorem dX3_watch_45 : decode cX3_watch 45 = .ok (.aload 4, 2) := by decide +kernel
theorem dX3_watch_47 : decode cX3_watch 47 = .ok (.iload_n 3, 1) := by decide +kernel
theorem dX3_watch_48 : decode cX3_watch 48 = .ok (.putfield 89, 3) := by decide +kernel
theorem dX3_watch_51 : decode cX3_watch 51 = .ok (.iload_n 3, 1) := by decide +kernel
theorem dX3_watch_52 : decode cX3_watch 52 = .ok (.iload_n 2, 1) := by decide +kernel
theorem dX3_watch_53 : decode cX3_watch 53 = .ok (.isub, 1) := by decide +kernel
theorem dX3_watch_54 : decode cX3_watch 54 = .ok (.iconst 1, 1) := by decide +kernel
theorem dX3_watch_55 : decode cX3_watch 55 = .ok (.iadd, 1) := by decide +kernel
theorem dX3_watch_56 : decode cX3_watch 56 = .ok (.ireturn, 1) := by decide +kernel
theorem dX3_paint_0 : decode cX3_paint 0 = .ok (.aload_n 0, 1) := by decide +kernel
theorem dX3_paint_1 : decode cX3_paint 1 = .ok (.iload_n 1, 1) := by decide +kernel
theorem dX3_paint_2 : decode cX3_paint 2 = .ok (.invokevirtual 92, 3) := by decide +kernel
theorem dX3_paint_5 : decode cX3_paint 5 = .ok (.astore 7, 2) := by decide +kernel
theorem dX3_paint_7 : decode cX3_paint 7 = .ok (.aload_n 0, 1) := by decide +kernel
theorem dX3_paint_8 : decode cX3_paint 8 = .ok (.iload_n 2, 1) := by decide +kernel
theorem dX3_paint_9 : decode cX3_paint 9 = .ok (.invokevirtual 68, 3) := by decide +kernel
theorem dX3_paint_12 : decode cX3_paint 12 = .ok (.astore 8, 2) := by decide +kernel
theorem dX3_paint_14 : decode cX3_paint 14 = .ok (.aload 8, 2) := by decide +kernel
theorem dX3_paint_16 : decode cX3_paint 16 = .ok (.iload_n 3, 1) := by decide +kernel
theorem dX3_paint_17 : decode cX3_paint 17 = .ok (.iload 4, 2) := by decide +kernel
theorem dX3_paint_19 : decode cX3_paint 19 = .ok (.invokevirtual 96, 3) := by decide +kernel
theorem dX3_paint_22 : decode cX3_paint 22 = .ok (.ifCond .eq 22, 3) := by decide +kernel
theorem dX3_paint_25 : decode cX3_paint 25 = .ok (.iload 5, 2) := by decide +kernel
theorem dX3_paint_27 : decode cX3_paint 27 = .ok (.invokestatic 100, 3) := by decide +kernel
theorem dX3_paint_30 : decode cX3_paint 30 = .ok (.ifCond .eq 14, 3) := by decide +kernel
theorem dX3_paint_33 : decode cX3_paint 33 = .ok (.iload 6, 2) := by decide +kernel
theorem dX3_paint_35 : decode cX3_paint 35 = .ok (.bipush (-2), 2) := by decide +kernel
theorem dX3_paint_37 : decode cX3_paint 37 = .ok (.iconst 2, 1) := by decide +kernel
theorem dX3_paint_38 : decode cX3_paint 38 = .ok (.invokestatic 32, 3) := by decide +kernel
theorem dX3_paint_41 : decode cX3_paint 41 = .ok (.ifCond .ne 13, 3) := by decide +kernel
theorem dX3_paint_44 : decode cX3_paint 44 = .ok (.new 36, 3) := by decide +kernel
theorem dX3_paint_47 : decode cX3_paint 47 = .ok (.dup, 1) := by decide +kernel
theorem dX3_paint_48 : decode cX3_paint 48 = .ok (.ldc 104, 2) := by decide +kernel
theorem dX3_paint_50 : decode cX3_paint 50 = .ok (.invokespecial 40, 3) := by decide +kernel
theorem dX3_paint_53 : decode cX3_paint 53 = .ok (.athrow, 1) := by decide +kernel
theorem dX3_paint_54 : decode cX3_paint 54 = .ok (.iload 4, 2) := by decide +kernel
theorem dX3_paint_56 : decode cX3_paint 56 = .ok (.aload 7, 2) := by decide +kernel
theorem dX3_paint_58 : decode cX3_paint 58 = .ok (.iload 5, 2) := by decide +kernel
theorem dX3_paint_60 : decode cX3_paint 60 = .ok (.invokevirtual 106, 3) := by decide +kernel
theorem dX3_paint_63 : decode cX3_paint 63 = .ok (.imul, 1) := by decide +kernel
theorem dX3_paint_64 : decode cX3_paint 64 = .ok (.istore 9, 2) := by decide +kernel
theorem dX3_paint_66 : decode cX3_paint 66 = .ok (.iload 9, 2) := by decide +kernel
theorem dX3_paint_68 : decode cX3_paint 68 = .ok (.aload 7, 2) := by decide +kernel
theorem dX3_paint_70 : decode cX3_paint 70 = .ok (.invokevirtual 109, 3) := by decide +kernel
theorem dX3_paint_73 : decode cX3_paint 73 = .ok (.if_icmp .gt 15, 3) := by decide +kernel
theorem dX3_paint_76 : decode cX3_paint 76 = .ok (.aload_n 0, 1) := by decide +kernel
theorem dX3_paint_77 : decode cX3_paint 77 = .ok (.getfield 19, 3) := by decide +kernel
theorem dX3_paint_80 : decode cX3_paint 80 = .ok (.invokevirtual 43, 3) := by decide +kernel
theorem dX3_paint_83 : decode cX3_paint 83 = .ok (.bipush 60, 2) := by decide +kernel
theorem dX3_paint_85 : decode cX3_paint 85 = .ok (.if_icmp .lt 13, 3) := by decide +kernel
theorem dX3_paint_88 : decode cX3_paint 88 = .ok (.new 47, 3) := by decide +kernel
theorem dX3_paint_91 : decode cX3_paint 91 = .ok (.dup, 1) := by decide +kernel
theorem dX3_paint_92 : decode cX3_paint 92 = .ok (.ldc 112, 2) := by decide +kernel
theorem dX3_paint_94 : decode cX3_paint 94 = .ok (.invokespecial 51, 3) := by decide +kernel
theorem dX3_paint_97 : decode cX3_paint 97 = .ok (.athrow, 1) := by decide +kernel
theorem dX3_paint_98 : decode cX3_paint 98 = .ok (.aload_n 0, 1) := by decide +kernel
theorem dX3_paint_99 : decode cX3_paint 99 = .ok (.aload 7, 2) := by decide +kernel
theorem dX3_paint_101 : decode cX3_paint 101 = .ok (.aload 8, 2) := by decide +kernel
theorem dX3_paint_103 : decode cX3_paint 103 = .ok (.iload_n 3, 1) := by decide +kernel
theorem dX3_paint_104 : decode cX3_paint 104 = .ok (.iload 4, 2) := by decide +kernel
theorem dX3_paint_106 : decode cX3_paint 106 = .ok (.iload 5, 2) := by decide +kernel
theorem dX3_paint_108 : decode cX3_paint 108 = .ok (.invokevirtual 114, 3) := by decide +kernel
theorem dX3_paint_111 : decode cX3_paint 111 = .ok (.istore 10, 2) := by decide +kernel
theorem dX3_paint_113 : decode cX3_paint 113 = .ok (.new 118, 3) := by decide +kernel
theorem dX3_paint_116 : decode cX3_paint 116 = .ok (.dup, 1) := by decide +kernel
theorem dX3_paint_117 : decode cX3_paint 117 = .ok (.aload_n 0, 1) := by decide +kernel
theorem dX3_paint_118 : decode cX3_paint 118 = .ok (.getfield 19, 3) := by decide +kernel
theorem dX3_paint_121 : decode cX3_paint 121 = .ok (.invokevirtual 43, 3) := by decide +kernel
theorem dX3_paint_124 : decode cX3_paint 124 = .ok (.aload 7, 2) := by decide +kernel
theorem dX3_paint_126 : decode cX3_paint 126 = .ok (.aload 8, 2) := by decide +kernel
theorem dX3_paint_128 : decode cX3_paint 128 = .ok (.iload_n 3, 1) := by decide +kernel
theorem dX3_paint_129 : decode cX3_paint 129 = .ok (.iload 4, 2) := by decide +kernel
theorem dX3_paint_131 : decode cX3_paint 131 = .ok (.iload 5, 2) := by decide +kernel
theorem dX3_paint_133 : decode cX3_paint 133 = .ok (.iload 6, 2) := by decide +kernel
theorem dX3_paint_135 : decode cX3_paint 135 = .ok (.invokespecial 120, 3) := by decide +kernel
theorem dX3_paint_138 : decode cX3_paint 138 = .ok (.astore 11, 2) := by decide +kernel
theorem dX3_paint_140 : decode cX3_paint 140 = .ok (.aload 11, 2) := by decide +kernel
theorem dX3_paint_142 : decode cX3_paint 142 = .ok (.aload_n 0, 1) := by decide +kernel
theorem dX3_paint_143 : decode cX3_paint 143 = .ok (.getfield 22, 3) := by decide +kernel
theorem dX3_paint_146 : decode cX3_paint 146 = .ok (.putfield 123, 3) := by decide +kernel
theorem dX3_paint_149 : decode cX3_paint 149 = .ok (.aload 11, 2) := by decide +kernel
theorem dX3_paint_151 : decode cX3_paint 151 = .ok (.aload_n 0, 1) := by decide +kernel
theorem dX3_paint_152 : decode cX3_paint 152 = .ok (.aload 7, 2) := by decide +kernel
theorem dX3_paint_154 : decode cX3_paint 154 = .ok (.aload 8, 2) := by decide +kernel
theorem dX3_paint_156 : decode cX3_paint 156 = .ok (.invokevirtual 126, 3) := by decide +kernel
theorem dX3_paint_159 : decode cX3_paint 159 = .ok (.putfield 130, 3) := by decide +kernel
theorem dX3_paint_162 : decode cX3_paint 162 = .ok (.aload 11, 2) := by decide +kernel
theorem dX3_paint_164 : decode cX3_paint 164 = .ok (.getfield 130, 3) := by decide +kernel
theorem dX3_paint_167 : decode cX3_paint 167 = .ok (.ifCond .ne 25, 3) := by decide +kernel
theorem dX3_paint_170 : decode cX3_paint 170 = .ok (.aload 8, 2) := by decide +kernel
theorem dX3_paint_172 : decode cX3_paint 172 = .ok (.aload 7, 2) := by decide +kernel
theorem dX3_paint_174 : decode cX3_paint 174 = .ok (.getfield 134, 3) := by decide +kernel
theorem dX3_paint_177 : decode cX3_paint 177 = .ok (.iload 9, 2) := by decide +kernel
theorem dX3_paint_179 : decode cX3_paint 179 = .ok (.invokevirtual 137, 3) := by decide +kernel
theorem dX3_paint_182 : decode cX3_paint 182 = .ok (.ifCond .eq 10, 3) := by decide +kernel
theorem dX3_paint_185 : decode cX3_paint 185 = .ok (.aload 7, 2) := by decide +kernel
theorem dX3_paint_187 : decode cX3_paint 187 = .ok (.iload 5, 2) := by decide +kernel
theorem dX3_paint_189 : decode cX3_paint 189 = .ok (.invokevirtual 140, 3) := by decide +kernel
theorem dX3_paint_192 : decode cX3_paint 192 = .ok (.aload 7, 2) := by decide +kernel
theorem dX3_paint_194 : decode cX3_paint 194 = .ok (.dup, 1) := by decide +kernel
theorem dX3_paint_195 : decode cX3_paint 195 = .ok (.getfield 134, 3) := by decide +kernel
theorem dX3_paint_198 : decode cX3_paint 198 = .ok (.iload 9, 2) := by decide +kernel
theorem dX3_paint_200 : decode cX3_paint 200 = .ok (.iadd, 1) := by decide +kernel
theorem dX3_paint_201 : decode cX3_paint 201 = .ok (.putfield 134, 3) := by decide +kernel
theorem dX3_paint_204 : decode cX3_paint 204 = .ok (.aload 8, 2) := by decide +kernel
theorem dX3_paint_206 : decode cX3_paint 206 = .ok (.aload 11, 2) := by decide +kernel
theorem dX3_paint_208 : decode cX3_paint 208 = .ok (.invokevirtual 144, 3) := by decide +kernel
theorem dX3_paint_211 : decode cX3_paint 211 = .ok (.aload_n 0, 1) := by decide +kernel
theorem dX3_paint_212 : decode cX3_paint 212 = .ok (.getfield 19, 3) := by decide +kernel
theorem dX3_paint_215 : decode cX3_paint 215 = .ok (.aload 11, 2) := by decide +kernel
theorem dX3_paint_217 : decode cX3_paint 217 = .ok (.invokevirtual 57, 3) := by decide +kernel
theorem dX3_paint_220 : decode cX3_paint 220 = .ok (.pop, 1) := by decide +kernel
theorem dX3_paint_221 : decode cX3_paint 221 = .ok (.iload 10, 2) := by decide +kernel
theorem dX3_paint_223 : decode cX3_paint 223 = .ok (.ireturn, 1) := by decide +kernel
theorem dX3_buff_0 : decode cX3_buff 0 = .ok (.aload_n 0, 1) := by decide +kernel
theorem dX3_buff_1 : decode cX3_buff 1 = .ok (.iload_n 1, 1) := by decide +kernel
theorem dX3_buff_2 : decode cX3_buff 2 = .ok (.invokevirtual 68, 3) := by decide +kernel
theorem dX3_buff_5 : decode cX3_buff 5 = .ok (.astore_n 2, 1) := by decide +kernel
theorem dX3_buff_6 : decode cX3_buff 6 = .ok (.aload_n 0, 1) := by decide +kernel
theorem dX3_buff_7 : decode cX3_buff 7 = .ok (.aload_n 2, 1) := by decide +kernel
theorem dX3_buff_8 : decode cX3_buff 8 = .ok (.invokevirtual 148, 3) := by decide +kernel
theorem dX3_buff_11 : decode cX3_buff 11 = .ok (.istore_n 3, 1) := by decide +kernel
theorem dX3_buff_12 : decode cX3_buff 12 = .ok (.iload_n 3, 1) := by decide +kernel
theorem dX3_buff_13 : decode cX3_buff 13 = .ok (.aload_n 0, 1) := by decide +kernel
theorem dX3_buff_14 : decode cX3_buff 14 = .ok (.getfield 26, 3) := by decide +kernel
theorem dX3_buff_17 : decode cX3_buff 17 = .ok (.if_icmp .le 13, 3) := by decide +kernel
theorem dX3_buff_20 : decode cX3_buff 20 = .ok (.new 47, 3) := by decide +kernel
theorem dX3_buff_23 : decode cX3_buff 23 = .ok (.dup, 1) := by decide +kernel
theorem dX3_buff_24 : decode cX3_buff 24 = .ok (.ldc 152, 2) := by decide +kernel
theorem dX3_buff_26 : decode cX3_buff 26 = .ok (.invokespecial 51, 3) := by decide +kernel
theorem dX3_buff_29 : decode cX3_buff 29 = .ok (.athrow, 1) := by decide +kernel
theorem dX3_buff_30 : decode cX3_buff 30 = .ok (.iconst 0, 1) := by decide +kernel
theorem dX3_buff_31 : decode cX3_buff 31 = .ok (.istore 4, 2) := by decide +kernel
theorem dX3_buff_33 : decode cX3_buff 33 = .ok (.iload 4, 2) := by decide +kernel
theorem dX3_buff_35 : decode cX3_buff 35 = .ok (.aload_n 2, 1) := by decide +kernel
theorem dX3_buff_36 : decode cX3_buff 36 = .ok (.getfield 154, 3) := by decide +kernel
theorem dX3_buff_39 : decode cX3_buff 39 = .ok (.if_icmp .ge 27, 3) := by decide +kernel
theorem dX3_buff_42 : decode cX3_buff 42 = .ok (.aload_n 0, 1) := by decide +kernel
theorem dX3_buff_43 : decode cX3_buff 43 = .ok (.aload_n 2, 1) := by decide +kernel
theorem dX3_buff_44 : decode cX3_buff 44 = .ok (.iload 4, 2) := by decide +kernel
theorem dX3_buff_46 : decode cX3_buff 46 = .ok (.invokevirtual 157, 3) := by decide +kernel
theorem dX3_buff_49 : decode cX3_buff 49 = .ok (.ifCond .eq 11, 3) := by decide +kernel
theorem dX3_buff_52 : decode cX3_buff 52 = .ok (.aload_n 2, 1) := by decide +kernel
theorem dX3_buff_53 : decode cX3_buff 53 = .ok (.getfield 161, 3) := by decide +kernel
theorem dX3_buff_56 : decode cX3_buff 56 = .ok (.iload 4, 2) := by decide +kernel
theorem dX3_buff_58 : decode cX3_buff 58 = .ok (.aconst_null, 1) := by decide +kernel
theorem dX3_buff_59 : decode cX3_buff 59 = .ok (.aastore, 1) := by decide +kernel
theorem dX3_buff_60 : decode cX3_buff 60 = .ok (.iinc 4 1, 3) := by decide +kernel
theorem dX3_buff_63 : decode cX3_buff 63 = .ok (.goto (-30), 3) := by decide +kernel
theorem dX3_buff_66 : decode cX3_buff 66 = .ok (.aload_n 0, 1) := by decide +kernel
theorem dX3_buff_67 : decode cX3_buff 67 = .ok (.dup, 1) := by decide +kernel
theorem dX3_buff_68 : decode cX3_buff 68 = .ok (.getfield 26, 3) := by decide +kernel
theorem dX3_buff_71 : decode cX3_buff 71 = .ok (.iload_n 3, 1) := by decide +kernel
theorem dX3_buff_72 : decode cX3_buff 72 = .ok (.isub, 1) := by decide +kernel
theorem dX3_buff_73 : decode cX3_buff 73 = .ok (.putfield 26, 3) := by decide +kernel
theorem dX3_buff_76 : decode cX3_buff 76 = .ok (.iload_n 3, 1) := by decide +kernel
theorem dX3_buff_77 : decode cX3_buff 77 = .ok (.ireturn, 1) := by decide +kernel
theorem dX3_clear_0 : decode cX3_clear 0 = .ok (.aload_n 0, 1) := by decide +kernel
theorem dX3_clear_1 : decode cX3_clear 1 = .ok (.iload_n 1, 1) := by decide +kernel
theorem dX3_clear_2 : decode cX3_clear 2 = .ok (.invokevirtual 68, 3) := by decide +kernel
theorem dX3_clear_5 : decode cX3_clear 5 = .ok (.astore_n 2, 1) := by decide +kernel
theorem dX3_clear_6 : decode cX3_clear 6 = .ok (.iconst 0, 1) := by decide +kernel
theorem dX3_clear_7 : decode cX3_clear 7 = .ok (.istore_n 3, 1) := by decide +kernel
theorem dX3_clear_8 : decode cX3_clear 8 = .ok (.iconst 0, 1) := by decide +kernel
theorem dX3_clear_9 : decode cX3_clear 9 = .ok (.istore 4, 2) := by decide +kernel
theorem dX3_clear_11 : decode cX3_clear 11 = .ok (.iload 4, 2) := by decide +kernel
theorem dX3_clear_13 : decode cX3_clear 13 = .ok (.aload_n 2, 1) := by decide +kernel
theorem dX3_clear_14 : decode cX3_clear 14 = .ok (.getfield 154, 3) := by decide +kernel
theorem dX3_clear_17 : decode cX3_clear 17 = .ok (.if_icmp .ge 60, 3) := by decide +kernel
theorem dX3_clear_20 : decode cX3_clear 20 = .ok (.aload_n 2, 1) := by decide +kernel
theorem dX3_clear_21 : decode cX3_clear 21 = .ok (.getfield 161, 3) := by decide +kernel
theorem dX3_clear_24 : decode cX3_clear 24 = .ok (.iload 4, 2) := by decide +kernel
theorem dX3_clear_26 : decode cX3_clear 26 = .ok (.aaload, 1) := by decide +kernel
theorem dX3_clear_27 : decode cX3_clear 27 = .ok (.astore 5, 2) := by decide +kernel
theorem dX3_clear_29 : decode cX3_clear 29 = .ok (.aload 5, 2) := by decide +kernel
theorem dX3_clear_31 : decode cX3_clear 31 = .ok (.ifnull 40, 3) := by decide +kernel
theorem dX3_clear_34 : decode cX3_clear 34 = .ok (.aload 5, 2) := by decide +kernel
theorem dX3_clear_36 : decode cX3_clear 36 = .ok (.invokevirtual 165, 3) := by decide +kernel
theorem dX3_clear_39 : decode cX3_clear 39 = .ok (.ifCond .eq 32, 3) := by decide +kernel
theorem dX3_clear_42 : decode cX3_clear 42 = .ok (.iconst 5, 1) := by decide +kernel
theorem dX3_clear_43 : decode cX3_clear 43 = .ok (.aload 5, 2) := by decide +kernel
theorem dX3_clear_45 : decode cX3_clear 45 = .ok (.invokevirtual 169, 3) := by decide +kernel
theorem dX3_clear_48 : decode cX3_clear 48 = .ok (.imul, 1) := by decide +kernel
theorem dX3_clear_49 : decode cX3_clear 49 = .ok (.istore 6, 2) := by decide +kernel
theorem dX3_clear_51 : decode cX3_clear 51 = .ok (.aload 5, 2) := by decide +kernel
theorem dX3_clear_53 : decode cX3_clear 53 = .ok (.getfield 172, 3) := by decide +kernel
theorem dX3_clear_56 : decode cX3_clear 56 = .ok (.dup, 1) := by decide +kernel
theorem dX3_clear_57 : decode cX3_clear 57 = .ok (.getfield 176, 3) := by decide +kernel
theorem dX3_clear_60 : decode cX3_clear 60 = .ok (.iload 6, 2) := by decide +kernel
theorem dX3_clear_62 : decode cX3_clear 62 = .ok (.iadd, 1) := by decide +kernel
theorem dX3_clear_63 : decode cX3_clear 63 = .ok (.putfield 176, 3) := by decide +kernel
theorem dX3_clear_66 : decode cX3_clear 66 = .ok (.iload_n 3, 1) := by decide +kernel
theorem dX3_clear_67 : decode cX3_clear 67 = .ok (.iload 6, 2) := by decide +kernel
theorem dX3_clear_69 : decode cX3_clear 69 = .ok (.iadd, 1) := by decide +kernel
theorem dX3_clear_70 : decode cX3_clear 70 = .ok (.istore_n 3, 1) := by decide +kernel
theorem dX3_clear_71 : decode cX3_clear 71 = .ok (.iinc 4 1, 3) := by decide +kernel
theorem dX3_clear_74 : decode cX3_clear 74 = .ok (.goto (-63), 3) := by decide +kernel
theorem dX3_clear_77 : decode cX3_clear 77 = .ok (.aload_n 2, 1) := by decide +kernel
theorem dX3_clear_78 : decode cX3_clear 78 = .ok (.invokevirtual 179, 3) := by decide +kernel
theorem dX3_clear_81 : decode cX3_clear 81 = .ok (.iload_n 3, 1) := by decide +kernel
theorem dX3_clear_82 : decode cX3_clear 82 = .ok (.ireturn, 1) := by decide +kernel
theorem dX3_sell_0 : decode cX3_sell 0 = .ok (.aload_n 0, 1) := by decide +kernel
theorem dX3_sell_1 : decode cX3_sell 1 = .ok (.iload_n 1, 1) := by decide +kernel
theorem dX3_sell_2 : decode cX3_sell 2 = .ok (.invokevirtual 182, 3) := by decide +kernel
theorem dX3_sell_5 : decode cX3_sell 5 = .ok (.astore_n 2, 1) := by decide +kernel
theorem dX3_sell_6 : decode cX3_sell 6 = .ok (.aload_n 2, 1) := by decide +kernel
theorem dX3_sell_7 : decode cX3_sell 7 = .ok (.invokevirtual 186, 3) := by decide +kernel
theorem dX3_sell_10 : decode cX3_sell 10 = .ok (.ifCond .ne 13, 3) := by decide +kernel
theorem dX3_sell_13 : decode cX3_sell 13 = .ok (.new 47, 3) := by decide +kernel
theorem dX3_sell_16 : decode cX3_sell 16 = .ok (.dup, 1) := by decide +kernel
theorem dX3_sell_17 : decode cX3_sell 17 = .ok (.ldc 189, 2) := by decide +kernel
theorem dX3_sell_19 : decode cX3_sell 19 = .ok (.invokespecial 51, 3) := by decide +kernel
theorem dX3_sell_22 : decode cX3_sell 22 = .ok (.athrow, 1) := by decide +kernel
theorem dX3_sell_23 : decode cX3_sell 23 = .ok (.aload_n 0, 1) := by decide +kernel
theorem dX3_sell_24 : decode cX3_sell 24 = .ok (.aload_n 2, 1) := by decide +kernel
theorem dX3_sell_25 : decode cX3_sell 25 = .ok (.invokevirtual 191, 3) := by decide +kernel
theorem dX3_sell_28 : decode cX3_sell 28 = .ok (.istore_n 3, 1) := by decide +kernel
theorem dX3_sell_29 : decode cX3_sell 29 = .ok (.aload_n 2, 1) := by decide +kernel
theorem dX3_sell_30 : decode cX3_sell 30 = .ok (.getfield 195, 3) := by decide +kernel
theorem dX3_sell_33 : decode cX3_sell 33 = .ok (.aload_n 2, 1) := by decide +kernel
theorem dX3_sell_34 : decode cX3_sell 34 = .ok (.invokevirtual 199, 3) := by decide +kernel
theorem dX3_sell_37 : decode cX3_sell 37 = .ok (.aload_n 0, 1) := by decide +kernel
theorem dX3_sell_38 : decode cX3_sell 38 = .ok (.dup, 1) := by decide +kernel
theorem dX3_sell_39 : decode cX3_sell 39 = .ok (.getfield 29, 3) := by decide +kernel
theorem dX3_sell_42 : decode cX3_sell 42 = .ok (.iload_n 3, 1) := by decide +kernel
theorem dX3_sell_43 : decode cX3_sell 43 = .ok (.iadd, 1) := by decide +kernel
theorem dX3_sell_44 : decode cX3_sell 44 = .ok (.putfield 29, 3) := by decide +kernel
theorem dX3_sell_47 : decode cX3_sell 47 = .ok (.iload_n 3, 1) := by decide +kernel
theorem dX3_sell_48 : decode cX3_sell 48 = .ok (.ireturn, 1) := by decide +kernel
theorem dX3_waive_0 : decode cX3_waive 0 = .ok (.aload_n 0, 1) := by decide +kernel
theorem dX3_waive_1 : decode cX3_waive 1 = .ok (.iload_n 1, 1) := by decide +kernel
theorem dX3_waive_2 : decode cX3_waive 2 = .ok (.invokevirtual 182, 3) := by decide +kernel
theorem dX3_waive_5 : decode cX3_waive 5 = .ok (.astore_n 2, 1) := by decide +kernel
theorem dX3_waive_6 : decode cX3_waive 6 = .ok (.aload_n 2, 1) := by decide +kernel
theorem dX3_waive_7 : decode cX3_waive 7 = .ok (.getfield 202, 3) := by decide +kernel
theorem dX3_waive_10 : decode cX3_waive 10 = .ok (.ifCond .ne 7, 3) := by decide +kernel
theorem dX3_waive_13 : decode cX3_waive 13 = .ok (.iconst 1, 1) := by decide +kernel
theorem dX3_waive_14 : decode cX3_waive 14 = .ok (.goto 4, 3) := by decide +kernel
theorem dX3_waive_17 : decode cX3_waive 17 = .ok (.iconst 0, 1) := by decide +kernel
theorem dX3_waive_18 : decode cX3_waive 18 = .ok (.istore_n 3, 1) := by decide +kernel
theorem dX3_waive_19 : decode cX3_waive 19 = .ok (.aload_n 2, 1) := by decide +kernel
theorem dX3_waive_20 : decode cX3_waive 20 = .ok (.iconst 1, 1) := by decide +kernel
theorem dX3_waive_21 : decode cX3_waive 21 = .ok (.putfield 202, 3) := by decide +kernel
theorem dX3_waive_24 : decode cX3_waive 24 = .ok (.iload_n 3, 1) := by decide +kernel
theorem dX3_waive_25 : decode cX3_waive 25 = .ok (.ireturn, 1) := by decide +kernel
theorem dX3_remember_0 : decode cX3_remember 0 = .ok (.aload_n 0, 1) := by decide +kernel
theorem dX3_remember_1 : decode cX3_remember 1 = .ok (.iload_n 1, 1) := by decide +kernel
theorem dX3_remember_2 : decode cX3_remember 2 = .ok (.invokevirtual 182, 3) := by decide +kernel
theorem dX3_remember_5 : decode cX3_remember 5 = .ok (.astore_n 2, 1) := by decide +kernel
theorem dX3_remember_6 : decode cX3_remember 6 = .ok (.aload_n 2, 1) := by decide +kernel
theorem dX3_remember_7 : decode cX3_remember 7 = .ok (.getfield 205, 3) := by decide +kernel
theorem dX3_remember_10 : decode cX3_remember 10 = .ok (.ifCond .ne 7, 3) := by decide +kernel
theorem dX3_remember_13 : decode cX3_remember 13 = .ok (.iconst 1, 1) := by decide +kernel
theorem dX3_remember_14 : decode cX3_remember 14 = .ok (.goto 4, 3) := by decide +kernel
theorem dX3_remember_17 : decode cX3_remember 17 = .ok (.iconst 0, 1) := by decide +kernel
theorem dX3_remember_18 : decode cX3_remember 18 = .ok (.istore_n 3, 1) := by decide +kernel
theorem dX3_remember_19 : decode cX3_remember 19 = .ok (.aload_n 2, 1) := by decide +kernel
theorem dX3_remember_20 : decode cX3_remember 20 = .ok (.iconst 1, 1) := by decide +kernel
theorem dX3_remember_21 : decode cX3_remember 21 = .ok (.putfield 205, 3) := by decide +kernel
theorem dX3_remember_24 : decode cX3_remember 24 = .ok (.iload_n 3, 1) := by decide +kernel
theorem dX3_remember_25 : decode cX3_remember 25 = .ok (.ireturn, 1) := by decide +kernel
theorem dX3_pay_0 : decode cX3_pay 0 = .ok (.aload_n 0, 1) := by decide +kernel
theorem dX3_pay_1 : decode cX3_pay 1 = .ok (.iload_n 1, 1) := by decide +kernel
theorem dX3_pay_2 : decode cX3_pay 2 = .ok (.invokevirtual 92, 3) := by decide +kernel
theorem dX3_pay_5 : decode cX3_pay 5 = .ok (.astore_n 2, 1) := by decide +kernel
theorem dX3_pay_6 : decode cX3_pay 6 = .ok (.aload_n 2, 1) := by decide +kernel
theorem dX3_pay_7 : decode cX3_pay 7 = .ok (.getfield 208, 3) := by decide +kernel
theorem dX3_pay_10 : decode cX3_pay 10 = .ok (.istore_n 3, 1) := by decide +kernel
theorem dX3_pay_11 : decode cX3_pay 11 = .ok (.aload_n 2, 1) := by decide +kernel
theorem dX3_pay_12 : decode cX3_pay 12 = .ok (.iconst 0, 1) := by decide +kernel
theorem dX3_pay_13 : decode cX3_pay 13 = .ok (.putfield 208, 3) := by decide +kernel
theorem dX3_pay_16 : decode cX3_pay 16 = .ok (.iload_n 3, 1) := by decide +kernel
theorem dX3_pay_17 : decode cX3_pay 17 = .ok (.ireturn, 1) := by decide +kernel
theorem dX3_pass_0 : decode cX3_pass 0 = .ok (.iload_n 1, 1) := by decide +kernel
theorem dX3_pass_1 : decode cX3_pass 1 = .ok (.iconst 1, 1) := by decide +kernel
theorem dX3_pass_2 : decode cX3_pass 2 = .ok (.bipush 30, 2) := by decide +kernel
theorem dX3_pass_4 : decode cX3_pass 4 = .ok (.invokestatic 32, 3) := by decide +kernel
theorem dX3_pass_7 : decode cX3_pass 7 = .ok (.ifCond .ne 13, 3) := by decide +kernel
theorem dX3_pass_10 : decode cX3_pass 10 = .ok (.new 36, 3) := by decide +kernel
theorem dX3_pass_13 : decode cX3_pass 13 = .ok (.dup, 1) := by decide +kernel
theorem dX3_pass_14 : decode cX3_pass 14 = .ok (.ldc 211, 2) := by decide +kernel
theorem dX3_pass_16 : decode cX3_pass 16 = .ok (.invokespecial 40, 3) := by decide +kernel
theorem dX3_pass_19 : decode cX3_pass 19 = .ok (.athrow, 1) := by decide +kernel
theorem dX3_pass_20 : decode cX3_pass 20 = .ok (.aload_n 0, 1) := by decide +kernel
theorem dX3_pass_21 : decode cX3_pass 21 = .ok (.getfield 22, 3) := by decide +kernel
theorem dX3_pass_24 : decode cX3_pass 24 = .ok (.iload_n 1, 1) := by decide +kernel
theorem dX3_pass_25 : decode cX3_pass 25 = .ok (.iadd, 1) := by decide +kernel
theorem dX3_pass_26 : decode cX3_pass 26 = .ok (.sipush 400, 3) := by decide +kernel
theorem dX3_pass_29 : decode cX3_pass 29 = .ok (.if_icmp .le 13, 3) := by decide +kernel
theorem dX3_pass_32 : decode cX3_pass 32 = .ok (.new 47, 3) := by decide +kernel
theorem dX3_pass_35 : decode cX3_pass 35 = .ok (.dup, 1) := by decide +kernel
theorem dX3_pass_36 : decode cX3_pass 36 = .ok (.ldc 213, 2) := by decide +kernel
theorem dX3_pass_38 : decode cX3_pass 38 = .ok (.invokespecial 51, 3) := by decide +kernel
theorem dX3_pass_41 : decode cX3_pass 41 = .ok (.athrow, 1) := by decide +kernel
theorem dX3_pass_42 : decode cX3_pass 42 = .ok (.iconst 0, 1) := by decide +kernel
theorem dX3_pass_43 : decode cX3_pass 43 = .ok (.istore_n 2, 1) := by decide +kernel
theorem dX3_pass_44 : decode cX3_pass 44 = .ok (.iconst 0, 1) := by decide +kernel
theorem dX3_pass_45 : decode cX3_pass 45 = .ok (.istore_n 3, 1) := by decide +kernel
theorem dX3_pass_46 : decode cX3_pass 46 = .ok (.iload_n 3, 1) := by decide +kernel
theorem dX3_pass_47 : decode cX3_pass 47 = .ok (.iload_n 1, 1) := by decide +kernel
theorem dX3_pass_48 : decode cX3_pass 48 = .ok (.if_icmp .ge 16, 3) := by decide +kernel
theorem dX3_pass_51 : decode cX3_pass 51 = .ok (.iload_n 2, 1) := by decide +kernel
theorem dX3_pass_52 : decode cX3_pass 52 = .ok (.aload_n 0, 1) := by decide +kernel
theorem dX3_pass_53 : decode cX3_pass 53 = .ok (.invokevirtual 215, 3) := by decide +kernel
theorem dX3_pass_56 : decode cX3_pass 56 = .ok (.iadd, 1) := by decide +kernel
theorem dX3_pass_57 : decode cX3_pass 57 = .ok (.istore_n 2, 1) := by decide +kernel
theorem dX3_pass_58 : decode cX3_pass 58 = .ok (.iinc 3 1, 3) := by decide +kernel
theorem dX3_pass_61 : decode cX3_pass 61 = .ok (.goto (-15), 3) := by decide +kernel
theorem dX3_pass_64 : decode cX3_pass 64 = .ok (.iload_n 2, 1) := by decide +kernel
theorem dX3_pass_65 : decode cX3_pass 65 = .ok (.ireturn, 1) := by decide +kernel
theorem dX3_ofWall_0 : decode cX3_ofWall 0 = .ok (.aload_n 0, 1) := by decide +kernel
theorem dX3_ofWall_1 : decode cX3_ofWall 1 = .ok (.iload_n 1, 1) := by decide +kernel
theorem dX3_ofWall_2 : decode cX3_ofWall 2 = .ok (.invokevirtual 68, 3) := by decide +kernel
theorem dX3_ofWall_5 : decode cX3_ofWall 5 = .ok (.astore_n 3, 1) := by decide +kernel
theorem dX3_ofWall_6 : decode cX3_ofWall 6 = .ok (.iload_n 2, 1) := by decide +kernel
theorem dX3_ofWall_7 : decode cX3_ofWall 7 = .ok (.tableswitch 82 0 6 #[41, 46, 51, 56, 65, 70, 76], 41) := by decide +kernel
theorem dX3_ofWall_48 : decode cX3_ofWall 48 = .ok (.aload_n 3, 1) := by decide +kernel
theorem dX3_ofWall_49 : decode cX3_ofWall 49 = .ok (.getfield 154, 3) := by decide +kernel
theorem dX3_ofWall_52 : decode cX3_ofWall 52 = .ok (.ireturn, 1) := by decide +kernel
theorem dX3_ofWall_53 : decode cX3_ofWall 53 = .ok (.aload_n 3, 1) := by decide +kernel
theorem dX3_ofWall_54 : decode cX3_ofWall 54 = .ok (.getfield 218, 3) := by decide +kernel
theorem dX3_ofWall_57 : decode cX3_ofWall 57 = .ok (.ireturn, 1) := by decide +kernel
theorem dX3_ofWall_58 : decode cX3_ofWall 58 = .ok (.aload_n 3, 1) := by decide +kernel
theorem dX3_ofWall_59 : decode cX3_ofWall 59 = .ok (.getfield 221, 3) := by decide +kernel
theorem dX3_ofWall_62 : decode cX3_ofWall 62 = .ok (.ireturn, 1) := by decide +kernel
theorem dX3_ofWall_63 : decode cX3_ofWall 63 = .ok (.aload_n 3, 1) := by decide +kernel
theorem dX3_ofWall_64 : decode cX3_ofWall 64 = .ok (.aload_n 0, 1) := by decide +kernel
theorem dX3_ofWall_65 : decode cX3_ofWall 65 = .ok (.getfield 22, 3) := by decide +kernel
theorem dX3_ofWall_68 : decode cX3_ofWall 68 = .ok (.invokevirtual 74, 3) := by decide +kernel
theorem dX3_ofWall_71 : decode cX3_ofWall 71 = .ok (.ireturn, 1) := by decide +kernel
theorem dX3_ofWall_72 : decode cX3_ofWall 72 = .ok (.aload_n 3, 1) := by decide +kernel
theorem dX3_ofWall_73 : decode cX3_ofWall 73 = .ok (.invokevirtual 224, 3) := by decide +kernel
theorem dX3_ofWall_76 : decode cX3_ofWall 76 = .ok (.ireturn, 1) := by decide +kernel
theorem dX3_ofWall_77 : decode cX3_ofWall 77 = .ok (.aload_n 0, 1) := by decide +kernel
theorem dX3_ofWall_78 : decode cX3_ofWall 78 = .ok (.aload_n 3, 1) := by decide +kernel
theorem dX3_ofWall_79 : decode cX3_ofWall 79 = .ok (.invokevirtual 227, 3) := by decide +kernel
theorem dX3_ofWall_82 : decode cX3_ofWall 82 = .ok (.ireturn, 1) := by decide +kernel
theorem dX3_ofWall_83 : decode cX3_ofWall 83 = .ok (.aload_n 0, 1) := by decide +kernel
theorem dX3_ofWall_84 : decode cX3_ofWall 84 = .ok (.aload_n 3, 1) := by decide +kernel
theorem dX3_ofWall_85 : decode cX3_ofWall 85 = .ok (.invokevirtual 230, 3) := by decide +kernel
theorem dX3_ofWall_88 : decode cX3_ofWall 88 = .ok (.ireturn, 1) := by decide +kernel
theorem dX3_ofWall_89 : decode cX3_ofWall 89 = .ok (.new 36, 3) := by decide +kernel
theorem dX3_ofWall_92 : decode cX3_ofWall 92 = .ok (.dup, 1) := by decide +kernel
theorem dX3_ofWall_93 : decode cX3_ofWall 93 = .ok (.ldc 233, 2) := by decide +kernel
theorem dX3_ofWall_95 : decode cX3_ofWall 95 = .ok (.invokespecial 40, 3) := by decide +kernel
theorem dX3_ofWall_98 : decode cX3_ofWall 98 = .ok (.athrow, 1) := by decide +kernel
theorem dX3_shows_0 : decode cX3_shows 0 = .ok (.aload_n 0, 1) := by decide +kernel
theorem dX3_shows_1 : decode cX3_shows 1 = .ok (.iload_n 1, 1) := by decide +kernel
theorem dX3_shows_2 : decode cX3_shows 2 = .ok (.invokevirtual 68, 3) := by decide +kernel
theorem dX3_shows_5 : decode cX3_shows 5 = .ok (.astore_n 3, 1) := by decide +kernel
theorem dX3_shows_6 : decode cX3_shows 6 = .ok (.iload_n 2, 1) := by decide +kernel
theorem dX3_shows_7 : decode cX3_shows 7 = .ok (.iconst 0, 1) := by decide +kernel
theorem dX3_shows_8 : decode cX3_shows 8 = .ok (.aload_n 3, 1) := by decide +kernel
theorem dX3_shows_9 : decode cX3_shows 9 = .ok (.getfield 154, 3) := by decide +kernel
theorem dX3_shows_12 : decode cX3_shows 12 = .ok (.iconst 1, 1) := by decide +kernel
theorem dX3_shows_13 : decode cX3_shows 13 = .ok (.isub, 1) := by decide +kernel
theorem dX3_shows_14 : decode cX3_shows 14 = .ok (.invokestatic 32, 3) := by decide +kernel
theorem dX3_shows_17 : decode cX3_shows 17 = .ok (.ifCond .ne 13, 3) := by decide +kernel
theorem dX3_shows_20 : decode cX3_shows 20 = .ok (.new 235, 3) := by decide +kernel
theorem dX3_shows_23 : decode cX3_shows 23 = .ok (.dup, 1) := by decide +kernel
theorem dX3_shows_24 : decode cX3_shows 24 = .ok (.ldc 237, 2) := by decide +kernel
theorem dX3_shows_26 : decode cX3_shows 26 = .ok (.invokespecial 239, 3) := by decide +kernel
theorem dX3_shows_29 : decode cX3_shows 29 = .ok (.athrow, 1) := by decide +kernel
theorem dX3_shows_30 : decode cX3_shows 30 = .ok (.aload_n 3, 1) := by decide +kernel
theorem dX3_shows_31 : decode cX3_shows 31 = .ok (.getfield 161, 3) := by decide +kernel
theorem dX3_shows_34 : decode cX3_shows 34 = .ok (.iload_n 2, 1) := by decide +kernel
theorem dX3_shows_35 : decode cX3_shows 35 = .ok (.aaload, 1) := by decide +kernel
theorem dX3_shows_36 : decode cX3_shows 36 = .ok (.astore 4, 2) := by decide +kernel
theorem dX3_shows_38 : decode cX3_shows 38 = .ok (.aload 4, 2) := by decide +kernel
theorem dX3_shows_40 : decode cX3_shows 40 = .ok (.ifnonnull 7, 3) := by decide +kernel
theorem dX3_shows_43 : decode cX3_shows 43 = .ok (.iconst (-1), 1) := by decide +kernel
theorem dX3_shows_44 : decode cX3_shows 44 = .ok (.goto 8, 3) := by decide +kernel
theorem dX3_shows_47 : decode cX3_shows 47 = .ok (.aload 4, 2) := by decide +kernel
theorem dX3_shows_49 : decode cX3_shows 49 = .ok (.getfield 240, 3) := by decide +kernel
theorem dX3_shows_52 : decode cX3_shows 52 = .ok (.ireturn, 1) := by decide +kernel
theorem dX3_ofHand_0 : decode cX3_ofHand 0 = .ok (.aload_n 0, 1) := by decide +kernel
theorem dX3_ofHand_1 : decode cX3_ofHand 1 = .ok (.iload_n 1, 1) := by decide +kernel
theorem dX3_ofHand_2 : decode cX3_ofHand 2 = .ok (.invokevirtual 92, 3) := by decide +kernel
theorem dX3_ofHand_5 : decode cX3_ofHand 5 = .ok (.astore_n 3, 1) := by decide +kernel
theorem dX3_ofHand_6 : decode cX3_ofHand 6 = .ok (.iload_n 2, 1) := by decide +kernel
theorem dX3_ofHand_7 : decode cX3_ofHand 7 = .ok (.tableswitch 124 0 10 #[57, 62, 67, 72, 85, 91, 97, 103, 108, 114, 119], 57) := by decide +kernel
theorem dX3_ofHand_64 : decode cX3_ofHand 64 = .ok (.aload_n 3, 1) := by decide +kernel
theorem dX3_ofHand_65 : decode cX3_ofHand 65 = .ok (.getfield 243, 3) := by decide +kernel
theorem dX3_ofHand_68 : decode cX3_ofHand 68 = .ok (.ireturn, 1) := by decide +kernel
theorem dX3_ofHand_69 : decode cX3_ofHand 69 = .ok (.aload_n 3, 1) := by decide +kernel
theorem dX3_ofHand_70 : decode cX3_ofHand 70 = .ok (.invokevirtual 109, 3) := by decide +kernel
theorem dX3_ofHand_73 : decode cX3_ofHand 73 = .ok (.ireturn, 1) := by decide +kernel
theorem dX3_ofHand_74 : decode cX3_ofHand 74 = .ok (.aload_n 3, 1) := by decide +kernel
theorem dX3_ofHand_75 : decode cX3_ofHand 75 = .ok (.getfield 208, 3) := by decide +kernel
theorem dX3_ofHand_78 : decode cX3_ofHand 78 = .ok (.ireturn, 1) := by decide +kernel
theorem dX3_ofHand_79 : decode cX3_ofHand 79 = .ok (.aload_n 3, 1) := by decide +kernel
theorem dX3_ofHand_80 : decode cX3_ofHand 80 = .ok (.getfield 246, 3) := by decide +kernel
theorem dX3_ofHand_83 : decode cX3_ofHand 83 = .ok (.ifCond .eq 7, 3) := by decide +kernel
theorem dX3_ofHand_86 : decode cX3_ofHand 86 = .ok (.iconst 1, 1) := by decide +kernel
theorem dX3_ofHand_87 : decode cX3_ofHand 87 = .ok (.goto 4, 3) := by decide +kernel
theorem dX3_ofHand_90 : decode cX3_ofHand 90 = .ok (.iconst 0, 1) := by decide +kernel
theorem dX3_ofHand_91 : decode cX3_ofHand 91 = .ok (.ireturn, 1) := by decide +kernel
theorem dX3_ofHand_92 : decode cX3_ofHand 92 = .ok (.aload_n 0, 1) := by decide +kernel
theorem dX3_ofHand_93 : decode cX3_ofHand 93 = .ok (.aload_n 3, 1) := by decide +kernel
theorem dX3_ofHand_94 : decode cX3_ofHand 94 = .ok (.invokevirtual 249, 3) := by decide +kernel
theorem dX3_ofHand_97 : decode cX3_ofHand 97 = .ok (.ireturn, 1) := by decide +kernel
theorem dX3_ofHand_98 : decode cX3_ofHand 98 = .ok (.aload_n 0, 1) := by decide +kernel
theorem dX3_ofHand_99 : decode cX3_ofHand 99 = .ok (.aload_n 3, 1) := by decide +kernel
theorem dX3_ofHand_100 : decode cX3_ofHand 100 = .ok (.invokevirtual 253, 3) := by decide +kernel
theorem dX3_ofHand_103 : decode cX3_ofHand 103 = .ok (.ireturn, 1) := by decide +kernel
theorem dX3_ofHand_104 : decode cX3_ofHand 104 = .ok (.aload_n 0, 1) := by decide +kernel
theorem dX3_ofHand_105 : decode cX3_ofHand 105 = .ok (.aload_n 3, 1) := by decide +kernel
theorem dX3_ofHand_106 : decode cX3_ofHand 106 = .ok (.invokevirtual 256, 3) := by decide +kernel
theorem dX3_ofHand_109 : decode cX3_ofHand 109 = .ok (.ireturn, 1) := by decide +kernel
theorem dX3_ofHand_110 : decode cX3_ofHand 110 = .ok (.aload_n 3, 1) := by decide +kernel
theorem dX3_ofHand_111 : decode cX3_ofHand 111 = .ok (.invokevirtual 259, 3) := by decide +kernel
theorem dX3_ofHand_114 : decode cX3_ofHand 114 = .ok (.ireturn, 1) := by decide +kernel
theorem dX3_ofHand_115 : decode cX3_ofHand 115 = .ok (.aload_n 0, 1) := by decide +kernel
theorem dX3_ofHand_116 : decode cX3_ofHand 116 = .ok (.aload_n 3, 1) := by decide +kernel
theorem dX3_ofHand_117 : decode cX3_ofHand 117 = .ok (.invokevirtual 262, 3) := by decide +kernel
theorem dX3_ofHand_120 : decode cX3_ofHand 120 = .ok (.ireturn, 1) := by decide +kernel
theorem dX3_ofHand_121 : decode cX3_ofHand 121 = .ok (.aload_n 3, 1) := by decide +kernel
theorem dX3_ofHand_122 : decode cX3_ofHand 122 = .ok (.getfield 176, 3) := by decide +kernel
theorem dX3_ofHand_125 : decode cX3_ofHand 125 = .ok (.ireturn, 1) := by decide +kernel
theorem dX3_ofHand_126 : decode cX3_ofHand 126 = .ok (.aload_n 3, 1) := by decide +kernel
theorem dX3_ofHand_127 : decode cX3_ofHand 127 = .ok (.getfield 265, 3) := by decide +kernel
theorem dX3_ofHand_130 : decode cX3_ofHand 130 = .ok (.ireturn, 1) := by decide +kernel
theorem dX3_ofHand_131 : decode cX3_ofHand 131 = .ok (.new 36, 3) := by decide +kernel
theorem dX3_ofHand_134 : decode cX3_ofHand 134 = .ok (.dup, 1) := by decide +kernel
theorem dX3_ofHand_135 : decode cX3_ofHand 135 = .ok (.ldc_w 268, 3) := by decide +kernel
theorem dX3_ofHand_138 : decode cX3_ofHand 138 = .ok (.invokespecial 40, 3) := by decide +kernel
theorem dX3_ofHand_141 : decode cX3_ofHand 141 = .ok (.athrow, 1) := by decide +kernel
theorem dX3_ofLayer_0 : decode cX3_ofLayer 0 = .ok (.aload_n 0, 1) := by decide +kernel
theorem dX3_ofLayer_1 : decode cX3_ofLayer 1 = .ok (.iload_n 1, 1) := by decide +kernel
theorem dX3_ofLayer_2 : decode cX3_ofLayer 2 = .ok (.invokevirtual 182, 3) := by decide +kernel
theorem dX3_ofLayer_5 : decode cX3_ofLayer 5 = .ok (.astore_n 3, 1) := by decide +kernel
theorem dX3_ofLayer_6 : decode cX3_ofLayer 6 = .ok (.iload_n 2, 1) := by decide +kernel
theorem dX3_ofLayer_7 : decode cX3_ofLayer 7 = .ok (.tableswitch 171 0 13 #[69, 77, 85, 90, 95, 100, 105, 118, 131, 144, 149, 154, 159, 165], 69) := by decide +kernel
theorem dX3_ofLayer_76 : decode cX3_ofLayer 76 = .ok (.aload_n 3, 1) := by decide +kernel
theorem dX3_ofLayer_77 : decode cX3_ofLayer 77 = .ok (.getfield 172, 3) := by decide +kernel
theorem dX3_ofLayer_80 : decode cX3_ofLayer 80 = .ok (.getfield 270, 3) := by decide +kernel
theorem dX3_ofLayer_83 : decode cX3_ofLayer 83 = .ok (.ireturn, 1) := by decide +kernel
theorem dX3_ofLayer_84 : decode cX3_ofLayer 84 = .ok (.aload_n 3, 1) := by decide +kernel
theorem dX3_ofLayer_85 : decode cX3_ofLayer 85 = .ok (.getfield 195, 3) := by decide +kernel
theorem dX3_ofLayer_88 : decode cX3_ofLayer 88 = .ok (.getfield 271, 3) := by decide +kernel
theorem dX3_ofLayer_91 : decode cX3_ofLayer 91 = .ok (.ireturn, 1) := by decide +kernel
theorem dX3_ofLayer_92 : decode cX3_ofLayer 92 = .ok (.aload_n 3, 1) := by decide +kernel
theorem dX3_ofLayer_93 : decode cX3_ofLayer 93 = .ok (.getfield 272, 3) := by decide +kernel
theorem dX3_ofLayer_96 : decode cX3_ofLayer 96 = .ok (.ireturn, 1) := by decide +kernel
theorem dX3_ofLayer_97 : decode cX3_ofLayer 97 = .ok (.aload_n 3, 1) := by decide +kernel
theorem dX3_ofLayer_98 : decode cX3_ofLayer 98 = .ok (.getfield 275, 3) := by decide +kernel
theorem dX3_ofLayer_101 : decode cX3_ofLayer 101 = .ok (.ireturn, 1) := by decide +kernel
theorem dX3_ofLayer_102 : decode cX3_ofLayer 102 = .ok (.aload_n 3, 1) := by decide +kernel
theorem dX3_ofLayer_103 : decode cX3_ofLayer 103 = .ok (.getfield 278, 3) := by decide +kernel
theorem dX3_ofLayer_106 : decode cX3_ofLayer 106 = .ok (.ireturn, 1) := by decide +kernel
theorem dX3_ofLayer_107 : decode cX3_ofLayer 107 = .ok (.aload_n 3, 1) := by decide +kernel
theorem dX3_ofLayer_108 : decode cX3_ofLayer 108 = .ok (.getfield 123, 3) := by decide +kernel
theorem dX3_ofLayer_111 : decode cX3_ofLayer 111 = .ok (.ireturn, 1) := by decide +kernel
theorem dX3_ofLayer_112 : decode cX3_ofLayer 112 = .ok (.aload_n 3, 1) := by decide +kernel
theorem dX3_ofLayer_113 : decode cX3_ofLayer 113 = .ok (.getfield 130, 3) := by decide +kernel
theorem dX3_ofLayer_116 : decode cX3_ofLayer 116 = .ok (.ifCond .eq 7, 3) := by decide +kernel
theorem dX3_ofLayer_119 : decode cX3_ofLayer 119 = .ok (.iconst 1, 1) := by decide +kernel
theorem dX3_ofLayer_120 : decode cX3_ofLayer 120 = .ok (.goto 4, 3) := by decide +kernel
theorem dX3_ofLayer_123 : decode cX3_ofLayer 123 = .ok (.iconst 0, 1) := by decide +kernel
theorem dX3_ofLayer_124 : decode cX3_ofLayer 124 = .ok (.ireturn, 1) := by decide +kernel
theorem dX3_ofLayer_125 : decode cX3_ofLayer 125 = .ok (.aload_n 3, 1) := by decide +kernel
theorem dX3_ofLayer_126 : decode cX3_ofLayer 126 = .ok (.getfield 202, 3) := by decide +kernel
theorem dX3_ofLayer_129 : decode cX3_ofLayer 129 = .ok (.ifCond .eq 7, 3) := by decide +kernel
theorem dX3_ofLayer_132 : decode cX3_ofLayer 132 = .ok (.iconst 1, 1) := by decide +kernel
theorem dX3_ofLayer_133 : decode cX3_ofLayer 133 = .ok (.goto 4, 3) := by decide +kernel
theorem dX3_ofLayer_136 : decode cX3_ofLayer 136 = .ok (.iconst 0, 1) := by decide +kernel
theorem dX3_ofLayer_137 : decode cX3_ofLayer 137 = .ok (.ireturn, 1) := by decide +kernel
theorem dX3_ofLayer_138 : decode cX3_ofLayer 138 = .ok (.aload_n 3, 1) := by decide +kernel
theorem dX3_ofLayer_139 : decode cX3_ofLayer 139 = .ok (.getfield 205, 3) := by decide +kernel
theorem dX3_ofLayer_142 : decode cX3_ofLayer 142 = .ok (.ifCond .eq 7, 3) := by decide +kernel
theorem dX3_ofLayer_145 : decode cX3_ofLayer 145 = .ok (.iconst 1, 1) := by decide +kernel
theorem dX3_ofLayer_146 : decode cX3_ofLayer 146 = .ok (.goto 4, 3) := by decide +kernel
theorem dX3_ofLayer_149 : decode cX3_ofLayer 149 = .ok (.iconst 0, 1) := by decide +kernel
theorem dX3_ofLayer_150 : decode cX3_ofLayer 150 = .ok (.ireturn, 1) := by decide +kernel
theorem dX3_ofLayer_151 : decode cX3_ofLayer 151 = .ok (.aload_n 3, 1) := by decide +kernel
theorem dX3_ofLayer_152 : decode cX3_ofLayer 152 = .ok (.invokevirtual 281, 3) := by decide +kernel
theorem dX3_ofLayer_155 : decode cX3_ofLayer 155 = .ok (.ireturn, 1) := by decide +kernel
theorem dX3_ofLayer_156 : decode cX3_ofLayer 156 = .ok (.aload_n 3, 1) := by decide +kernel
theorem dX3_ofLayer_157 : decode cX3_ofLayer 157 = .ok (.invokevirtual 284, 3) := by decide +kernel
theorem dX3_ofLayer_160 : decode cX3_ofLayer 160 = .ok (.ireturn, 1) := by decide +kernel
theorem dX3_ofLayer_161 : decode cX3_ofLayer 161 = .ok (.aload_n 3, 1) := by decide +kernel
theorem dX3_ofLayer_162 : decode cX3_ofLayer 162 = .ok (.invokevirtual 287, 3) := by decide +kernel
theorem dX3_ofLayer_165 : decode cX3_ofLayer 165 = .ok (.ireturn, 1) := by decide +kernel
theorem dX3_ofLayer_166 : decode cX3_ofLayer 166 = .ok (.aload_n 0, 1) := by decide +kernel
theorem dX3_ofLayer_167 : decode cX3_ofLayer 167 = .ok (.aload_n 3, 1) := by decide +kernel
theorem dX3_ofLayer_168 : decode cX3_ofLayer 168 = .ok (.invokevirtual 191, 3) := by decide +kernel
theorem dX3_ofLayer_171 : decode cX3_ofLayer 171 = .ok (.ireturn, 1) := by decide +kernel
theorem dX3_ofLayer_172 : decode cX3_ofLayer 172 = .ok (.aload_n 0, 1) := by decide +kernel
theorem dX3_ofLayer_173 : decode cX3_ofLayer 173 = .ok (.aload_n 3, 1) := by decide +kernel
theorem dX3_ofLayer_174 : decode cX3_ofLayer 174 = .ok (.invokevirtual 290, 3) := by decide +kernel
theorem dX3_ofLayer_177 : decode cX3_ofLayer 177 = .ok (.ireturn, 1) := by decide +kernel
theorem dX3_ofLayer_178 : decode cX3_ofLayer 178 = .ok (.new 36, 3) := by decide +kernel
theorem dX3_ofLayer_181 : decode cX3_ofLayer 181 = .ok (.dup, 1) := by decide +kernel
theorem dX3_ofLayer_182 : decode cX3_ofLayer 182 = .ok (.ldc_w 293, 3) := by decide +kernel
theorem dX3_ofLayer_185 : decode cX3_ofLayer 185 = .ok (.invokespecial 40, 3) := by decide +kernel
theorem dX3_ofLayer_188 : decode cX3_ofLayer 188 = .ok (.athrow, 1) := by decide +kernel
theorem dX3_wrongs_0 : decode cX3_wrongs 0 = .ok (.aload_n 0, 1) := by decide +kernel
theorem dX3_wrongs_1 : decode cX3_wrongs 1 = .ok (.iload_n 1, 1) := by decide +kernel
theorem dX3_wrongs_2 : decode cX3_wrongs 2 = .ok (.invokevirtual 92, 3) := by decide +kernel
theorem dX3_wrongs_5 : decode cX3_wrongs 5 = .ok (.astore_n 3, 1) := by decide +kernel
theorem dX3_wrongs_6 : decode cX3_wrongs 6 = .ok (.aload_n 0, 1) := by decide +kernel
theorem dX3_wrongs_7 : decode cX3_wrongs 7 = .ok (.iload_n 2, 1) := by decide +kernel
theorem dX3_wrongs_8 : decode cX3_wrongs 8 = .ok (.invokevirtual 92, 3) := by decide +kernel
theorem dX3_wrongs_11 : decode cX3_wrongs 11 = .ok (.astore 4, 2) := by decide +kernel
theorem dX3_wrongs_13 : decode cX3_wrongs 13 = .ok (.aload_n 3, 1) := by decide +kernel
theorem dX3_wrongs_14 : decode cX3_wrongs 14 = .ok (.getfield 295, 3) := by decide +kernel
theorem dX3_wrongs_17 : decode cX3_wrongs 17 = .ok (.aload 4, 2) := by decide +kernel
theorem dX3_wrongs_19 : decode cX3_wrongs 19 = .ok (.getfield 270, 3) := by decide +kernel
theorem dX3_wrongs_22 : decode cX3_wrongs 22 = .ok (.iaload, 1) := by decide +kernel
theorem dX3_wrongs_23 : decode cX3_wrongs 23 = .ok (.ireturn, 1) := by decide +kernel
theorem dX3_likeness_0 : decode cX3_likeness 0 = .ok (.aload_n 0, 1) := by decide +kernel
theorem dX3_likeness_1 : decode cX3_likeness 1 = .ok (.iload_n 1, 1) := by decide +kernel
theorem dX3_likeness_2 : decode cX3_likeness 2 = .ok (.invokevirtual 182, 3) := by decide +kernel
theorem dX3_likeness_5 : decode cX3_likeness 5 = .ok (.astore_n 3, 1) := by decide +kernel
theorem dX3_likeness_6 : decode cX3_likeness 6 = .ok (.aload_n 0, 1) := by decide +kernel
theorem dX3_likeness_7 : decode cX3_likeness 7 = .ok (.iload_n 2, 1) := by decide +kernel
theorem dX3_likeness_8 : decode cX3_likeness 8 = .ok (.invokevirtual 182, 3) := by decide +kernel
theorem dX3_likeness_11 : decode cX3_likeness 11 = .ok (.astore 4, 2) := by decide +kernel
theorem dX3_likeness_13 : decode cX3_likeness 13 = .ok (.bipush 20, 2) := by decide +kernel
theorem dX3_likeness_15 : decode cX3_likeness 15 = .ok (.aload_n 3, 1) := by decide +kernel
theorem dX3_likeness_16 : decode cX3_likeness 16 = .ok (.invokevirtual 284, 3) := by decide +kernel
theorem dX3_likeness_19 : decode cX3_likeness 19 = .ok (.aload 4, 2) := by decide +kernel
theorem dX3_likeness_21 : decode cX3_likeness 21 = .ok (.invokevirtual 284, 3) := by decide +kernel
theorem dX3_likeness_24 : decode cX3_likeness 24 = .ok (.isub, 1) := by decide +kernel
theorem dX3_likeness_25 : decode cX3_likeness 25 = .ok (.invokestatic 299, 3) := by decide +kernel
theorem dX3_likeness_28 : decode cX3_likeness 28 = .ok (.isub, 1) := by decide +kernel
theorem dX3_likeness_29 : decode cX3_likeness 29 = .ok (.aload_n 3, 1) := by decide +kernel
theorem dX3_likeness_30 : decode cX3_likeness 30 = .ok (.invokevirtual 287, 3) := by decide +kernel
theorem dX3_likeness_33 : decode cX3_likeness 33 = .ok (.aload 4, 2) := by decide +kernel
theorem dX3_likeness_35 : decode cX3_likeness 35 = .ok (.invokevirtual 287, 3) := by decide +kernel
theorem dX3_likeness_38 : decode cX3_likeness 38 = .ok (.isub, 1) := by decide +kernel
theorem dX3_likeness_39 : decode cX3_likeness 39 = .ok (.invokestatic 299, 3) := by decide +kernel
theorem dX3_likeness_42 : decode cX3_likeness 42 = .ok (.isub, 1) := by decide +kernel
theorem dX3_likeness_43 : decode cX3_likeness 43 = .ok (.ireturn, 1) := by decide +kernel
theorem dX3_many_0 : decode cX3_many 0 = .ok (.iload_n 1, 1) := by decide +kernel
theorem dX3_many_1 : decode cX3_many 1 = .ok (.tableswitch 132 0 11 #[63, 68, 76, 84, 92, 97, 102, 107, 112, 117, 122, 127], 63) := by decide +kernel
theorem dX3_many_64 : decode cX3_many 64 = .ok (.aload_n 0, 1) := by decide +kernel
theorem dX3_many_65 : decode cX3_many 65 = .ok (.getfield 22, 3) := by decide +kernel
theorem dX3_many_68 : decode cX3_many 68 = .ok (.ireturn, 1) := by decide +kernel
theorem dX3_many_69 : decode cX3_many 69 = .ok (.aload_n 0, 1) := by decide +kernel
theorem dX3_many_70 : decode cX3_many 70 = .ok (.getfield 10, 3) := by decide +kernel
theorem dX3_many_73 : decode cX3_many 73 = .ok (.invokevirtual 43, 3) := by decide +kernel
theorem dX3_many_76 : decode cX3_many 76 = .ok (.ireturn, 1) := by decide +kernel
theorem dX3_many_77 : decode cX3_many 77 = .ok (.aload_n 0, 1) := by decide +kernel
theorem dX3_many_78 : decode cX3_many 78 = .ok (.getfield 16, 3) := by decide +kernel
theorem dX3_many_81 : decode cX3_many 81 = .ok (.invokevirtual 43, 3) := by decide +kernel
theorem dX3_many_84 : decode cX3_many 84 = .ok (.ireturn, 1) := by decide +kernel
theorem dX3_many_85 : decode cX3_many 85 = .ok (.aload_n 0, 1) := by decide +kernel
theorem dX3_many_86 : decode cX3_many 86 = .ok (.getfield 19, 3) := by decide +kernel
theorem dX3_many_89 : decode cX3_many 89 = .ok (.invokevirtual 43, 3) := by decide +kernel
theorem dX3_many_92 : decode cX3_many 92 = .ok (.ireturn, 1) := by decide +kernel
theorem dX3_many_93 : decode cX3_many 93 = .ok (.aload_n 0, 1) := by decide +kernel
theorem dX3_many_94 : decode cX3_many 94 = .ok (.invokevirtual 304, 3) := by decide +kernel
theorem dX3_many_97 : decode cX3_many 97 = .ok (.ireturn, 1) := by decide +kernel
theorem dX3_many_98 : decode cX3_many 98 = .ok (.aload_n 0, 1) := by decide +kernel
theorem dX3_many_99 : decode cX3_many 99 = .ok (.getfield 26, 3) := by decide +kernel
theorem dX3_many_102 : decode cX3_many 102 = .ok (.ireturn, 1) := by decide +kernel
theorem dX3_many_103 : decode cX3_many 103 = .ok (.aload_n 0, 1) := by decide +kernel
theorem dX3_many_104 : decode cX3_many 104 = .ok (.invokevirtual 307, 3) := by decide +kernel
theorem dX3_many_107 : decode cX3_many 107 = .ok (.ireturn, 1) := by decide +kernel
theorem dX3_many_108 : decode cX3_many 108 = .ok (.aload_n 0, 1) := by decide +kernel
theorem dX3_many_109 : decode cX3_many 109 = .ok (.invokevirtual 310, 3) := by decide +kernel
theorem dX3_many_112 : decode cX3_many 112 = .ok (.ireturn, 1) := by decide +kernel
theorem dX3_many_113 : decode cX3_many 113 = .ok (.aload_n 0, 1) := by decide +kernel
theorem dX3_many_114 : decode cX3_many 114 = .ok (.invokevirtual 313, 3) := by decide +kernel
theorem dX3_many_117 : decode cX3_many 117 = .ok (.ireturn, 1) := by decide +kernel
theorem dX3_many_118 : decode cX3_many 118 = .ok (.aload_n 0, 1) := by decide +kernel
theorem dX3_many_119 : decode cX3_many 119 = .ok (.invokevirtual 316, 3) := by decide +kernel
theorem dX3_many_122 : decode cX3_many 122 = .ok (.ireturn, 1) := by decide +kernel
theorem dX3_many_123 : decode cX3_many 123 = .ok (.aload_n 0, 1) := by decide +kernel
theorem dX3_many_124 : decode cX3_many 124 = .ok (.getfield 29, 3) := by decide +kernel
theorem dX3_many_127 : decode cX3_many 127 = .ok (.ireturn, 1) := by decide +kernel
theorem dX3_many_128 : decode cX3_many 128 = .ok (.aload_n 0, 1) := by decide +kernel
theorem dX3_many_129 : decode cX3_many 129 = .ok (.invokevirtual 319, 3) := by decide +kernel
theorem dX3_many_132 : decode cX3_many 132 = .ok (.ireturn, 1) := by decide +kernel
theorem dX3_many_133 : decode cX3_many 133 = .ok (.new 36, 3) := by decide +kernel
theorem dX3_many_136 : decode cX3_many 136 = .ok (.dup, 1) := by decide +kernel
theorem dX3_many_137 : decode cX3_many 137 = .ok (.ldc_w 322, 3) := by decide +kernel
theorem dX3_many_140 : decode cX3_many 140 = .ok (.invokespecial 40, 3) := by decide +kernel
theorem dX3_many_143 : decode cX3_many 143 = .ok (.athrow, 1) := by decide +kernel
theorem dX3_meanFame_0 : decode cX3_meanFame 0 = .ok (.aload_n 0, 1) := by decide +kernel
theorem dX3_meanFame_1 : decode cX3_meanFame 1 = .ok (.getfield 16, 3) := by decide +kernel
theorem dX3_meanFame_4 : decode cX3_meanFame 4 = .ok (.invokevirtual 324, 3) := by decide +kernel
theorem dX3_meanFame_7 : decode cX3_meanFame 7 = .ok (.ifCond .eq 5, 3) := by decide +kernel
theorem dX3_meanFame_10 : decode cX3_meanFame 10 = .ok (.dconst 0, 1) := by decide +kernel
theorem dX3_meanFame_11 : decode cX3_meanFame 11 = .ok (.dreturn, 1) := by decide +kernel
theorem dX3_meanFame_12 : decode cX3_meanFame 12 = .ok (.iconst 0, 1) := by decide +kernel
theorem dX3_meanFame_13 : decode cX3_meanFame 13 = .ok (.istore_n 1, 1) := by decide +kernel
theorem dX3_meanFame_14 : decode cX3_meanFame 14 = .ok (.iconst 0, 1) := by decide +kernel
theorem dX3_meanFame_15 : decode cX3_meanFame 15 = .ok (.istore_n 2, 1) := by decide +kernel
theorem dX3_meanFame_16 : decode cX3_meanFame 16 = .ok (.iload_n 2, 1) := by decide +kernel
theorem dX3_meanFame_17 : decode cX3_meanFame 17 = .ok (.aload_n 0, 1) := by decide +kernel
theorem dX3_meanFame_18 : decode cX3_meanFame 18 = .ok (.getfield 16, 3) := by decide +kernel
theorem dX3_meanFame_21 : decode cX3_meanFame 21 = .ok (.invokevirtual 43, 3) := by decide +kernel
theorem dX3_meanFame_24 : decode cX3_meanFame 24 = .ok (.if_icmp .ge 27, 3) := by decide +kernel
theorem dX3_meanFame_27 : decode cX3_meanFame 27 = .ok (.iload_n 1, 1) := by decide +kernel
theorem dX3_meanFame_28 : decode cX3_meanFame 28 = .ok (.aload_n 0, 1) := by decide +kernel
theorem dX3_meanFame_29 : decode cX3_meanFame 29 = .ok (.aload_n 0, 1) := by decide +kernel
theorem dX3_meanFame_30 : decode cX3_meanFame 30 = .ok (.getfield 16, 3) := by decide +kernel
theorem dX3_meanFame_33 : decode cX3_meanFame 33 = .ok (.iload_n 2, 1) := by decide +kernel
theorem dX3_meanFame_34 : decode cX3_meanFame 34 = .ok (.invokevirtual 327, 3) := by decide +kernel
theorem dX3_meanFame_37 : decode cX3_meanFame 37 = .ok (.checkcast 65, 3) := by decide +kernel
theorem dX3_meanFame_40 : decode cX3_meanFame 40 = .ok (.invokevirtual 249, 3) := by decide +kernel
theorem dX3_meanFame_43 : decode cX3_meanFame 43 = .ok (.iadd, 1) := by decide +kernel
theorem dX3_meanFame_44 : decode cX3_meanFame 44 = .ok (.istore_n 1, 1) := by decide +kernel
theorem dX3_meanFame_45 : decode cX3_meanFame 45 = .ok (.iinc 2 1, 3) := by decide +kernel
theorem dX3_meanFame_48 : decode cX3_meanFame 48 = .ok (.goto (-32), 3) := by decide +kernel
theorem dX3_meanFame_51 : decode cX3_meanFame 51 = .ok (.iload_n 1, 1) := by decide +kernel
theorem dX3_meanFame_52 : decode cX3_meanFame 52 = .ok (.i2d, 1) := by decide +kernel
theorem dX3_meanFame_53 : decode cX3_meanFame 53 = .ok (.aload_n 0, 1) := by decide +kernel
theorem dX3_meanFame_54 : decode cX3_meanFame 54 = .ok (.getfield 16, 3) := by decide +kernel
theorem dX3_meanFame_57 : decode cX3_meanFame 57 = .ok (.invokevirtual 43, 3) := by decide +kernel
theorem dX3_meanFame_60 : decode cX3_meanFame 60 = .ok (.i2d, 1) := by decide +kernel
theorem dX3_meanFame_61 : decode cX3_meanFame 61 = .ok (.ddiv, 1) := by decide +kernel
theorem dX3_meanFame_62 : decode cX3_meanFame 62 = .ok (.dreturn, 1) := by decide +kernel
theorem dX3_bestFrom_0 : decode cX3_bestFrom 0 = .ok (.aload_n 0, 1) := by decide +kernel
theorem dX3_bestFrom_1 : decode cX3_bestFrom 1 = .ok (.iload_n 1, 1) := by decide +kernel
theorem dX3_bestFrom_2 : decode cX3_bestFrom 2 = .ok (.invokevirtual 92, 3) := by decide +kernel
theorem dX3_bestFrom_5 : decode cX3_bestFrom 5 = .ok (.astore 5, 2) := by decide +kernel
theorem dX3_bestFrom_7 : decode cX3_bestFrom 7 = .ok (.aload_n 0, 1) := by decide +kernel
theorem dX3_bestFrom_8 : decode cX3_bestFrom 8 = .ok (.iload_n 2, 1) := by decide +kernel
theorem dX3_bestFrom_9 : decode cX3_bestFrom 9 = .ok (.invokevirtual 68, 3) := by decide +kernel
theorem dX3_bestFrom_12 : decode cX3_bestFrom 12 = .ok (.astore 6, 2) := by decide +kernel
theorem dX3_bestFrom_14 : decode cX3_bestFrom 14 = .ok (.iload_n 3, 1) := by decide +kernel
theorem dX3_bestFrom_15 : decode cX3_bestFrom 15 = .ok (.iconst 1, 1) := by decide +kernel
theorem dX3_bestFrom_16 : decode cX3_bestFrom 16 = .ok (.bipush 16, 2) := by decide +kernel
theorem dX3_bestFrom_18 : decode cX3_bestFrom 18 = .ok (.invokestatic 32, 3) := by decide +kernel
theorem dX3_bestFrom_21 : decode cX3_bestFrom 21 = .ok (.ifCond .eq 11, 3) := by decide +kernel
theorem dX3_bestFrom_24 : decode cX3_bestFrom 24 = .ok (.iload 4, 2) := by decide +kernel
theorem dX3_bestFrom_26 : decode cX3_bestFrom 26 = .ok (.invokestatic 100, 3) := by decide +kernel
theorem dX3_bestFrom_29 : decode cX3_bestFrom 29 = .ok (.ifCond .ne 13, 3) := by decide +kernel
theorem dX3_bestFrom_32 : decode cX3_bestFrom 32 = .ok (.new 36, 3) := by decide +kernel
theorem dX3_bestFrom_35 : decode cX3_bestFrom 35 = .ok (.dup, 1) := by decide +kernel
theorem dX3_bestFrom_36 : decode cX3_bestFrom 36 = .ok (.ldc 104, 2) := by decide +kernel
theorem dX3_bestFrom_38 : decode cX3_bestFrom 38 = .ok (.invokespecial 40, 3) := by decide +kernel
theorem dX3_bestFrom_41 : decode cX3_bestFrom 41 = .ok (.athrow, 1) := by decide +kernel
theorem dX3_bestFrom_42 : decode cX3_bestFrom 42 = .ok (.iconst (-1), 1) := by decide +kernel
theorem dX3_bestFrom_43 : decode cX3_bestFrom 43 = .ok (.istore 7, 2) := by decide +kernel
theorem dX3_bestFrom_45 : decode cX3_bestFrom 45 = .ok (.iconst 0, 1) := by decide +kernel
theorem dX3_bestFrom_46 : decode cX3_bestFrom 46 = .ok (.istore 8, 2) := by decide +kernel
theorem dX3_bestFrom_48 : decode cX3_bestFrom 48 = .ok (.iconst 0, 1) := by decide +kernel
theorem dX3_bestFrom_49 : decode cX3_bestFrom 49 = .ok (.istore 9, 2) := by decide +kernel
theorem dX3_bestFrom_51 : decode cX3_bestFrom 51 = .ok (.iconst 0, 1) := by decide +kernel
theorem dX3_bestFrom_52 : decode cX3_bestFrom 52 = .ok (.istore 10, 2) := by decide +kernel
theorem dX3_bestFrom_54 : decode cX3_bestFrom 54 = .ok (.iload 10, 2) := by decide +kernel
theorem dX3_bestFrom_56 : decode cX3_bestFrom 56 = .ok (.iload_n 3, 1) := by decide +kernel
theorem dX3_bestFrom_57 : decode cX3_bestFrom 57 = .ok (.iadd, 1) := by decide +kernel
theorem dX3_bestFrom_58 : decode cX3_bestFrom 58 = .ok (.aload 6, 2) := by decide +kernel
theorem dX3_bestFrom_60 : decode cX3_bestFrom 60 = .ok (.getfield 154, 3) := by decide +kernel
theorem dX3_bestFrom_63 : decode cX3_bestFrom 63 = .ok (.if_icmp .gt 89, 3) := by decide +kernel
theorem dX3_bestFrom_66 : decode cX3_bestFrom 66 = .ok (.aload_n 0, 1) := by decide +kernel
theorem dX3_bestFrom_67 : decode cX3_bestFrom 67 = .ok (.aload 5, 2) := by decide +kernel
theorem dX3_bestFrom_69 : decode cX3_bestFrom 69 = .ok (.aload 6, 2) := by decide +kernel
theorem dX3_bestFrom_71 : decode cX3_bestFrom 71 = .ok (.iload 10, 2) := by decide +kernel
theorem dX3_bestFrom_73 : decode cX3_bestFrom 73 = .ok (.iload_n 3, 1) := by decide +kernel
theorem dX3_bestFrom_74 : decode cX3_bestFrom 74 = .ok (.iload 4, 2) := by decide +kernel
theorem dX3_bestFrom_76 : decode cX3_bestFrom 76 = .ok (.invokevirtual 331, 3) := by decide +kernel
theorem dX3_bestFrom_79 : decode cX3_bestFrom 79 = .ok (.istore 11, 2) := by decide +kernel
theorem dX3_bestFrom_81 : decode cX3_bestFrom 81 = .ok (.aload 5, 2) := by decide +kernel
theorem dX3_bestFrom_83 : decode cX3_bestFrom 83 = .ok (.aload 6, 2) := by decide +kernel
theorem dX3_bestFrom_85 : decode cX3_bestFrom 85 = .ok (.iload 10, 2) := by decide +kernel
theorem dX3_bestFrom_87 : decode cX3_bestFrom 87 = .ok (.iload_n 3, 1) := by decide +kernel
theorem dX3_bestFrom_88 : decode cX3_bestFrom 88 = .ok (.iload 4, 2) := by decide +kernel
theorem dX3_bestFrom_90 : decode cX3_bestFrom 90 = .ok (.invokestatic 334, 3) := by decide +kernel
theorem dX3_bestFrom_93 : decode cX3_bestFrom 93 = .ok (.istore 12, 2) := by decide +kernel
theorem dX3_bestFrom_95 : decode cX3_bestFrom 95 = .ok (.iload 11, 2) := by decide +kernel
theorem dX3_bestFrom_97 : decode cX3_bestFrom 97 = .ok (.iload 8, 2) := by decide +kernel
theorem dX3_bestFrom_99 : decode cX3_bestFrom 99 = .ok (.if_icmp .lt 17, 3) := by decide +kernel
theorem dX3_bestFrom_102 : decode cX3_bestFrom 102 = .ok (.iload 11, 2) := by decide +kernel
theorem dX3_bestFrom_104 : decode cX3_bestFrom 104 = .ok (.iload 8, 2) := by decide +kernel
theorem dX3_bestFrom_106 : decode cX3_bestFrom 106 = .ok (.if_icmp .ne 14, 3) := by decide +kernel
theorem dX3_bestFrom_109 : decode cX3_bestFrom 109 = .ok (.iload 12, 2) := by decide +kernel
theorem dX3_bestFrom_111 : decode cX3_bestFrom 111 = .ok (.iload 9, 2) := by decide +kernel
theorem dX3_bestFrom_113 : decode cX3_bestFrom 113 = .ok (.if_icmp .le 7, 3) := by decide +kernel
theorem dX3_bestFrom_116 : decode cX3_bestFrom 116 = .ok (.iconst 1, 1) := by decide +kernel
theorem dX3_bestFrom_117 : decode cX3_bestFrom 117 = .ok (.goto 4, 3) := by decide +kernel
theorem dX3_bestFrom_120 : decode cX3_bestFrom 120 = .ok (.iconst 0, 1) := by decide +kernel
theorem dX3_bestFrom_121 : decode cX3_bestFrom 121 = .ok (.istore 13, 2) := by decide +kernel
theorem dX3_bestFrom_123 : decode cX3_bestFrom 123 = .ok (.iload 7, 2) := by decide +kernel
theorem dX3_bestFrom_125 : decode cX3_bestFrom 125 = .ok (.iconst (-1), 1) := by decide +kernel
theorem dX3_bestFrom_126 : decode cX3_bestFrom 126 = .ok (.if_icmp .eq 8, 3) := by decide +kernel
theorem dX3_bestFrom_129 : decode cX3_bestFrom 129 = .ok (.iload 13, 2) := by decide +kernel
theorem dX3_bestFrom_131 : decode cX3_bestFrom 131 = .ok (.ifCond .eq 15, 3) := by decide +kernel
theorem dX3_bestFrom_134 : decode cX3_bestFrom 134 = .ok (.iload 10, 2) := by decide +kernel
theorem dX3_bestFrom_136 : decode cX3_bestFrom 136 = .ok (.istore 7, 2) := by decide +kernel
theorem dX3_bestFrom_138 : decode cX3_bestFrom 138 = .ok (.iload 11, 2) := by decide +kernel
theorem dX3_bestFrom_140 : decode cX3_bestFrom 140 = .ok (.istore 8, 2) := by decide +kernel
theorem dX3_bestFrom_142 : decode cX3_bestFrom 142 = .ok (.iload 12, 2) := by decide +kernel
theorem dX3_bestFrom_144 : decode cX3_bestFrom 144 = .ok (.istore 9, 2) := by decide +kernel
theorem dX3_bestFrom_146 : decode cX3_bestFrom 146 = .ok (.iinc 10 1, 3) := by decide +kernel
theorem dX3_bestFrom_149 : decode cX3_bestFrom 149 = .ok (.goto (-95), 3) := by decide +kernel
theorem dX3_bestFrom_152 : decode cX3_bestFrom 152 = .ok (.iload 7, 2) := by decide +kernel
theorem dX3_bestFrom_154 : decode cX3_bestFrom 154 = .ok (.ireturn, 1) := by decide +kernel
theorem dX3_wouldWrong_0 : decode cX3_wouldWrong 0 = .ok (.aload_n 0, 1) := by decide +kernel
theorem dX3_wouldWrong_1 : decode cX3_wouldWrong 1 = .ok (.iload_n 1, 1) := by decide +kernel
theorem dX3_wouldWrong_2 : decode cX3_wouldWrong 2 = .ok (.invokevirtual 92, 3) := by decide +kernel
theorem dX3_wouldWrong_5 : decode cX3_wouldWrong 5 = .ok (.astore 6, 2) := by decide +kernel
theorem dX3_wouldWrong_7 : decode cX3_wouldWrong 7 = .ok (.aload_n 0, 1) := by decide +kernel
theorem dX3_wouldWrong_8 : decode cX3_wouldWrong 8 = .ok (.iload_n 2, 1) := by decide +kernel
theorem dX3_wouldWrong_9 : decode cX3_wouldWrong 9 = .ok (.invokevirtual 68, 3) := by decide +kernel
theorem dX3_wouldWrong_12 : decode cX3_wouldWrong 12 = .ok (.astore 7, 2) := by decide +kernel
theorem dX3_wouldWrong_14 : decode cX3_wouldWrong 14 = .ok (.aload 7, 2) := by decide +kernel
theorem dX3_wouldWrong_16 : decode cX3_wouldWrong 16 = .ok (.iload_n 3, 1) := by decide +kernel
theorem dX3_wouldWrong_17 : decode cX3_wouldWrong 17 = .ok (.iload 4, 2) := by decide +kernel
theorem dX3_wouldWrong_19 : decode cX3_wouldWrong 19 = .ok (.invokevirtual 96, 3) := by decide +kernel
theorem dX3_wouldWrong_22 : decode cX3_wouldWrong 22 = .ok (.ifCond .eq 11, 3) := by decide +kernel
theorem dX3_wouldWrong_25 : decode cX3_wouldWrong 25 = .ok (.iload 5, 2) := by decide +kernel
theorem dX3_wouldWrong_27 : decode cX3_wouldWrong 27 = .ok (.invokestatic 100, 3) := by decide +kernel
theorem dX3_wouldWrong_30 : decode cX3_wouldWrong 30 = .ok (.ifCond .ne 13, 3) := by decide +kernel
theorem dX3_wouldWrong_33 : decode cX3_wouldWrong 33 = .ok (.new 36, 3) := by decide +kernel
theorem dX3_wouldWrong_36 : decode cX3_wouldWrong 36 = .ok (.dup, 1) := by decide +kernel
theorem dX3_wouldWrong_37 : decode cX3_wouldWrong 37 = .ok (.ldc 104, 2) := by decide +kernel
theorem dX3_wouldWrong_39 : decode cX3_wouldWrong 39 = .ok (.invokespecial 40, 3) := by decide +kernel
theorem dX3_wouldWrong_42 : decode cX3_wouldWrong 42 = .ok (.athrow, 1) := by decide +kernel
theorem dX3_wouldWrong_43 : decode cX3_wouldWrong 43 = .ok (.aload_n 0, 1) := by decide +kernel
theorem dX3_wouldWrong_44 : decode cX3_wouldWrong 44 = .ok (.aload 6, 2) := by decide +kernel
theorem dX3_wouldWrong_46 : decode cX3_wouldWrong 46 = .ok (.aload 7, 2) := by decide +kernel
theorem dX3_wouldWrong_48 : decode cX3_wouldWrong 48 = .ok (.iload_n 3, 1) := by decide +kernel
theorem dX3_wouldWrong_49 : decode cX3_wouldWrong 49 = .ok (.iload 4, 2) := by decide +kernel
theorem dX3_wouldWrong_51 : decode cX3_wouldWrong 51 = .ok (.iload 5, 2) := by decide +kernel
theorem dX3_wouldWrong_53 : decode cX3_wouldWrong 53 = .ok (.invokevirtual 331, 3) := by decide +kernel
theorem dX3_wouldWrong_56 : decode cX3_wouldWrong 56 = .ok (.ireturn, 1) := by decide +kernel
theorem dX3_nextBuff_0 : decode cX3_nextBuff 0 = .ok (.iconst (-1), 1) := by decide +kernel
theorem dX3_nextBuff_1 : decode cX3_nextBuff 1 = .ok (.istore_n 1, 1) := by decide +kernel
theorem dX3_nextBuff_2 : decode cX3_nextBuff 2 = .ok (.iconst 0, 1) := by decide +kernel
theorem dX3_nextBuff_3 : decode cX3_nextBuff 3 = .ok (.istore_n 2, 1) := by decide +kernel
theorem dX3_nextBuff_4 : decode cX3_nextBuff 4 = .ok (.iconst 0, 1) := by decide +kernel
theorem dX3_nextBuff_5 : decode cX3_nextBuff 5 = .ok (.istore_n 3, 1) := by decide +kernel
theorem dX3_nextBuff_6 : decode cX3_nextBuff 6 = .ok (.iload_n 3, 1) := by decide +kernel
theorem dX3_nextBuff_7 : decode cX3_nextBuff 7 = .ok (.aload_n 0, 1) := by decide +kernel
theorem dX3_nextBuff_8 : decode cX3_nextBuff 8 = .ok (.getfield 10, 3) := by decide +kernel
theorem dX3_nextBuff_11 : decode cX3_nextBuff 11 = .ok (.invokevirtual 43, 3) := by decide +kernel
theorem dX3_nextBuff_14 : decode cX3_nextBuff 14 = .ok (.if_icmp .ge 54, 3) := by decide +kernel
theorem dX3_nextBuff_17 : decode cX3_nextBuff 17 = .ok (.aload_n 0, 1) := by decide +kernel
theorem dX3_nextBuff_18 : decode cX3_nextBuff 18 = .ok (.getfield 10, 3) := by decide +kernel
theorem dX3_nextBuff_21 : decode cX3_nextBuff 21 = .ok (.iload_n 3, 1) := by decide +kernel
theorem dX3_nextBuff_22 : decode cX3_nextBuff 22 = .ok (.invokevirtual 327, 3) := by decide +kernel
theorem dX3_nextBuff_25 : decode cX3_nextBuff 25 = .ok (.checkcast 52, 3) := by decide +kernel
theorem dX3_nextBuff_28 : decode cX3_nextBuff 28 = .ok (.astore 4, 2) := by decide +kernel
theorem dX3_nextBuff_30 : decode cX3_nextBuff 30 = .ok (.aload_n 0, 1) := by decide +kernel
theorem dX3_nextBuff_31 : decode cX3_nextBuff 31 = .ok (.aload 4, 2) := by decide +kernel
theorem dX3_nextBuff_33 : decode cX3_nextBuff 33 = .ok (.invokevirtual 227, 3) := by decide +kernel
theorem dX3_nextBuff_36 : decode cX3_nextBuff 36 = .ok (.istore 5, 2) := by decide +kernel
theorem dX3_nextBuff_38 : decode cX3_nextBuff 38 = .ok (.aload_n 0, 1) := by decide +kernel
theorem dX3_nextBuff_39 : decode cX3_nextBuff 39 = .ok (.aload 4, 2) := by decide +kernel
theorem dX3_nextBuff_41 : decode cX3_nextBuff 41 = .ok (.invokevirtual 148, 3) := by decide +kernel
theorem dX3_nextBuff_44 : decode cX3_nextBuff 44 = .ok (.aload_n 0, 1) := by decide +kernel
theorem dX3_nextBuff_45 : decode cX3_nextBuff 45 = .ok (.getfield 26, 3) := by decide +kernel
theorem dX3_nextBuff_48 : decode cX3_nextBuff 48 = .ok (.if_icmp .gt 14, 3) := by decide +kernel
theorem dX3_nextBuff_51 : decode cX3_nextBuff 51 = .ok (.iload 5, 2) := by decide +kernel
theorem dX3_nextBuff_53 : decode cX3_nextBuff 53 = .ok (.iload_n 2, 1) := by decide +kernel
theorem dX3_nextBuff_54 : decode cX3_nextBuff 54 = .ok (.if_icmp .le 8, 3) := by decide +kernel
theorem dX3_nextBuff_57 : decode cX3_nextBuff 57 = .ok (.iload_n 3, 1) := by decide +kernel
theorem dX3_nextBuff_58 : decode cX3_nextBuff 58 = .ok (.istore_n 1, 1) := by decide +kernel
theorem dX3_nextBuff_59 : decode cX3_nextBuff 59 = .ok (.iload 5, 2) := by decide +kernel
theorem dX3_nextBuff_61 : decode cX3_nextBuff 61 = .ok (.istore_n 2, 1) := by decide +kernel
theorem dX3_nextBuff_62 : decode cX3_nextBuff 62 = .ok (.iinc 3 1, 3) := by decide +kernel
theorem dX3_nextBuff_65 : decode cX3_nextBuff 65 = .ok (.goto (-59), 3) := by decide +kernel
theorem dX3_nextBuff_68 : decode cX3_nextBuff 68 = .ok (.iload_n 1, 1) := by decide +kernel
theorem dX3_nextBuff_69 : decode cX3_nextBuff 69 = .ok (.ireturn, 1) := by decide +kernel
theorem dX3_wouldFame_0 : decode cX3_wouldFame 0 = .ok (.aload_n 0, 1) := by decide +kernel
theorem dX3_wouldFame_1 : decode cX3_wouldFame 1 = .ok (.iload_n 1, 1) := by decide +kernel
theorem dX3_wouldFame_2 : decode cX3_wouldFame 2 = .ok (.invokevirtual 92, 3) := by decide +kernel
theorem dX3_wouldFame_5 : decode cX3_wouldFame 5 = .ok (.astore_n 3, 1) := by decide +kernel
theorem dX3_wouldFame_6 : decode cX3_wouldFame 6 = .ok (.iload_n 2, 1) := by decide +kernel
theorem dX3_wouldFame_7 : decode cX3_wouldFame 7 = .ok (.iconst 0, 1) := by decide +kernel
theorem dX3_wouldFame_8 : decode cX3_wouldFame 8 = .ok (.bipush 30, 2) := by decide +kernel
theorem dX3_wouldFame_10 : decode cX3_wouldFame 10 = .ok (.invokestatic 32, 3) := by decide +kernel
theorem dX3_wouldFame_13 : decode cX3_wouldFame 13 = .ok (.ifCond .ne 14, 3) := by decide +kernel
theorem dX3_wouldFame_16 : decode cX3_wouldFame 16 = .ok (.new 36, 3) := by decide +kernel
theorem dX3_wouldFame_19 : decode cX3_wouldFame 19 = .ok (.dup, 1) := by decide +kernel
theorem dX3_wouldFame_20 : decode cX3_wouldFame 20 = .ok (.ldc_w 337, 3) := by decide +kernel
theorem dX3_wouldFame_23 : decode cX3_wouldFame 23 = .ok (.invokespecial 40, 3) := by decide +kernel
theorem dX3_wouldFame_26 : decode cX3_wouldFame 26 = .ok (.athrow, 1) := by decide +kernel
theorem dX3_wouldFame_27 : decode cX3_wouldFame 27 = .ok (.iconst 0, 1) := by decide +kernel
theorem dX3_wouldFame_28 : decode cX3_wouldFame 28 = .ok (.istore 4, 2) := by decide +kernel
theorem dX3_wouldFame_30 : decode cX3_wouldFame 30 = .ok (.iconst 0, 1) := by decide +kernel
theorem dX3_wouldFame_31 : decode cX3_wouldFame 31 = .ok (.istore 5, 2) := by decide +kernel
theorem dX3_wouldFame_33 : decode cX3_wouldFame 33 = .ok (.iload 5, 2) := by decide +kernel
theorem dX3_wouldFame_35 : decode cX3_wouldFame 35 = .ok (.aload_n 0, 1) := by decide +kernel
theorem dX3_wouldFame_36 : decode cX3_wouldFame 36 = .ok (.getfield 10, 3) := by decide +kernel
theorem dX3_wouldFame_39 : decode cX3_wouldFame 39 = .ok (.invokevirtual 43, 3) := by decide +kernel
theorem dX3_wouldFame_42 : decode cX3_wouldFame 42 = .ok (.if_icmp .ge 44, 3) := by decide +kernel
theorem dX3_wouldFame_45 : decode cX3_wouldFame 45 = .ok (.aload_n 0, 1) := by decide +kernel
theorem dX3_wouldFame_46 : decode cX3_wouldFame 46 = .ok (.getfield 10, 3) := by decide +kernel
theorem dX3_wouldFame_49 : decode cX3_wouldFame 49 = .ok (.iload 5, 2) := by decide +kernel
theorem dX3_wouldFame_51 : decode cX3_wouldFame 51 = .ok (.invokevirtual 327, 3) := by decide +kernel
theorem dX3_wouldFame_54 : decode cX3_wouldFame 54 = .ok (.checkcast 52, 3) := by decide +kernel
theorem dX3_wouldFame_57 : decode cX3_wouldFame 57 = .ok (.astore 6, 2) := by decide +kernel
theorem dX3_wouldFame_59 : decode cX3_wouldFame 59 = .ok (.aload_n 0, 1) := by decide +kernel
theorem dX3_wouldFame_60 : decode cX3_wouldFame 60 = .ok (.aload 6, 2) := by decide +kernel
theorem dX3_wouldFame_62 : decode cX3_wouldFame 62 = .ok (.iload_n 2, 1) := by decide +kernel
theorem dX3_wouldFame_63 : decode cX3_wouldFame 63 = .ok (.invokevirtual 339, 3) := by decide +kernel
theorem dX3_wouldFame_66 : decode cX3_wouldFame 66 = .ok (.ifCond .ne 14, 3) := by decide +kernel
theorem dX3_wouldFame_69 : decode cX3_wouldFame 69 = .ok (.iload 4, 2) := by decide +kernel
theorem dX3_wouldFame_71 : decode cX3_wouldFame 71 = .ok (.aload 6, 2) := by decide +kernel
theorem dX3_wouldFame_73 : decode cX3_wouldFame 73 = .ok (.aload_n 3, 1) := by decide +kernel
theorem dX3_wouldFame_74 : decode cX3_wouldFame 74 = .ok (.invokevirtual 342, 3) := by decide +kernel
theorem dX3_wouldFame_77 : decode cX3_wouldFame 77 = .ok (.iadd, 1) := by decide +kernel
theorem dX3_wouldFame_78 : decode cX3_wouldFame 78 = .ok (.istore 4, 2) := by decide +kernel
theorem dX3_wouldFame_80 : decode cX3_wouldFame 80 = .ok (.iinc 5 1, 3) := by decide +kernel
theorem dX3_wouldFame_83 : decode cX3_wouldFame 83 = .ok (.goto (-50), 3) := by decide +kernel
theorem dX3_wouldFame_86 : decode cX3_wouldFame 86 = .ok (.iload 4, 2) := by decide +kernel
theorem dX3_wouldFame_88 : decode cX3_wouldFame 88 = .ok (.ireturn, 1) := by decide +kernel
theorem dX3_digest_0 : decode cX3_digest 0 = .ok (.ldc2_w 343, 3) := by decide +kernel
theorem dX3_digest_3 : decode cX3_digest 3 = .ok (.lstore_n 1, 1) := by decide +kernel
theorem dX3_digest_4 : decode cX3_digest 4 = .ok (.iconst 0, 1) := by decide +kernel
theorem dX3_digest_5 : decode cX3_digest 5 = .ok (.istore_n 3, 1) := by decide +kernel
theorem dX3_digest_6 : decode cX3_digest 6 = .ok (.iload_n 3, 1) := by decide +kernel
theorem dX3_digest_7 : decode cX3_digest 7 = .ok (.bipush 11, 2) := by decide +kernel
theorem dX3_digest_9 : decode cX3_digest 9 = .ok (.if_icmp .gt 19, 3) := by decide +kernel
theorem dX3_digest_12 : decode cX3_digest 12 = .ok (.lload_n 1, 1) := by decide +kernel
theorem dX3_digest_13 : decode cX3_digest 13 = .ok (.aload_n 0, 1) := by decide +kernel
theorem dX3_digest_14 : decode cX3_digest 14 = .ok (.iload_n 3, 1) := by decide +kernel
theorem dX3_digest_15 : decode cX3_digest 15 = .ok (.invokevirtual 345, 3) := by decide +kernel
theorem dX3_digest_18 : decode cX3_digest 18 = .ok (.invokestatic 348, 3) := by decide +kernel
theorem dX3_digest_21 : decode cX3_digest 21 = .ok (.lstore_n 1, 1) := by decide +kernel
theorem dX3_digest_22 : decode cX3_digest 22 = .ok (.iinc 3 1, 3) := by decide +kernel
theorem dX3_digest_25 : decode cX3_digest 25 = .ok (.goto (-19), 3) := by decide +kernel
theorem dX3_digest_28 : decode cX3_digest 28 = .ok (.iconst 0, 1) := by decide +kernel
theorem dX3_digest_29 : decode cX3_digest 29 = .ok (.istore_n 3, 1) := by decide +kernel
theorem dX3_digest_30 : decode cX3_digest 30 = .ok (.iload_n 3, 1) := by decide +kernel
theorem dX3_digest_31 : decode cX3_digest 31 = .ok (.aload_n 0, 1) := by decide +kernel
theorem dX3_digest_32 : decode cX3_digest 32 = .ok (.getfield 10, 3) := by decide +kernel
theorem dX3_digest_35 : decode cX3_digest 35 = .ok (.invokevirtual 43, 3) := by decide +kernel
theorem dX3_digest_38 : decode cX3_digest 38 = .ok (.if_icmp .ge 16, 3) := by decide +kernel
theorem dX3_digest_41 : decode cX3_digest 41 = .ok (.aload_n 0, 1) := by decide +kernel
theorem dX3_digest_42 : decode cX3_digest 42 = .ok (.lload_n 1, 1) := by decide +kernel
theorem dX3_digest_43 : decode cX3_digest 43 = .ok (.iload_n 3, 1) := by decide +kernel
theorem dX3_digest_44 : decode cX3_digest 44 = .ok (.invokevirtual 352, 3) := by decide +kernel
theorem dX3_digest_47 : decode cX3_digest 47 = .ok (.lstore_n 1, 1) := by decide +kernel
theorem dX3_digest_48 : decode cX3_digest 48 = .ok (.iinc 3 1, 3) := by decide +kernel
theorem dX3_digest_51 : decode cX3_digest 51 = .ok (.goto (-21), 3) := by decide +kernel
theorem dX3_digest_54 : decode cX3_digest 54 = .ok (.iconst 0, 1) := by decide +kernel
theorem dX3_digest_55 : decode cX3_digest 55 = .ok (.istore_n 3, 1) := by decide +kernel
theorem dX3_digest_56 : decode cX3_digest 56 = .ok (.iload_n 3, 1) := by decide +kernel
theorem dX3_digest_57 : decode cX3_digest 57 = .ok (.aload_n 0, 1) := by decide +kernel
theorem dX3_digest_58 : decode cX3_digest 58 = .ok (.getfield 16, 3) := by decide +kernel
theorem dX3_digest_61 : decode cX3_digest 61 = .ok (.invokevirtual 43, 3) := by decide +kernel
theorem dX3_digest_64 : decode cX3_digest 64 = .ok (.if_icmp .ge 16, 3) := by decide +kernel
theorem dX3_digest_67 : decode cX3_digest 67 = .ok (.aload_n 0, 1) := by decide +kernel
theorem dX3_digest_68 : decode cX3_digest 68 = .ok (.lload_n 1, 1) := by decide +kernel
theorem dX3_digest_69 : decode cX3_digest 69 = .ok (.iload_n 3, 1) := by decide +kernel
theorem dX3_digest_70 : decode cX3_digest 70 = .ok (.invokevirtual 355, 3) := by decide +kernel
theorem dX3_digest_73 : decode cX3_digest 73 = .ok (.lstore_n 1, 1) := by decide +kernel
theorem dX3_digest_74 : decode cX3_digest 74 = .ok (.iinc 3 1, 3) := by decide +kernel
theorem dX3_digest_77 : decode cX3_digest 77 = .ok (.goto (-21), 3) := by decide +kernel
theorem dX3_digest_80 : decode cX3_digest 80 = .ok (.iconst 0, 1) := by decide +kernel
theorem dX3_digest_81 : decode cX3_digest 81 = .ok (.istore_n 3, 1) := by decide +kernel
theorem dX3_digest_82 : decode cX3_digest 82 = .ok (.iload_n 3, 1) := by decide +kernel
theorem dX3_digest_83 : decode cX3_digest 83 = .ok (.aload_n 0, 1) := by decide +kernel
theorem dX3_digest_84 : decode cX3_digest 84 = .ok (.getfield 19, 3) := by decide +kernel
theorem dX3_digest_87 : decode cX3_digest 87 = .ok (.invokevirtual 43, 3) := by decide +kernel
theorem dX3_digest_90 : decode cX3_digest 90 = .ok (.if_icmp .ge 37, 3) := by decide +kernel
theorem dX3_digest_93 : decode cX3_digest 93 = .ok (.iconst 0, 1) := by decide +kernel
theorem dX3_digest_94 : decode cX3_digest 94 = .ok (.istore 4, 2) := by decide +kernel
theorem dX3_digest_96 : decode cX3_digest 96 = .ok (.iload 4, 2) := by decide +kernel
theorem dX3_digest_98 : decode cX3_digest 98 = .ok (.bipush 13, 2) := by decide +kernel
theorem dX3_digest_100 : decode cX3_digest 100 = .ok (.if_icmp .gt 21, 3) := by decide +kernel
theorem dX3_digest_103 : decode cX3_digest 103 = .ok (.lload_n 1, 1) := by decide +kernel
theorem dX3_digest_104 : decode cX3_digest 104 = .ok (.aload_n 0, 1) := by decide +kernel
theorem dX3_digest_105 : decode cX3_digest 105 = .ok (.iload_n 3, 1) := by decide +kernel
theorem dX3_digest_106 : decode cX3_digest 106 = .ok (.iload 4, 2) := by decide +kernel
theorem dX3_digest_108 : decode cX3_digest 108 = .ok (.invokevirtual 358, 3) := by decide +kernel
theorem dX3_digest_111 : decode cX3_digest 111 = .ok (.invokestatic 348, 3) := by decide +kernel
theorem dX3_digest_114 : decode cX3_digest 114 = .ok (.lstore_n 1, 1) := by decide +kernel
theorem dX3_digest_115 : decode cX3_digest 115 = .ok (.iinc 4 1, 3) := by decide +kernel
theorem dX3_digest_118 : decode cX3_digest 118 = .ok (.goto (-22), 3) := by decide +kernel
theorem dX3_digest_121 : decode cX3_digest 121 = .ok (.iinc 3 1, 3) := by decide +kernel
theorem dX3_digest_124 : decode cX3_digest 124 = .ok (.goto (-42), 3) := by decide +kernel
theorem dX3_digest_127 : decode cX3_digest 127 = .ok (.lload_n 1, 1) := by decide +kernel
theorem dX3_digest_128 : decode cX3_digest 128 = .ok (.aload_n 0, 1) := by decide +kernel
theorem dX3_digest_129 : decode cX3_digest 129 = .ok (.invokevirtual 362, 3) := by decide +kernel
theorem dX3_digest_132 : decode cX3_digest 132 = .ok (.invokestatic 348, 3) := by decide +kernel
theorem dX3_digest_135 : decode cX3_digest 135 = .ok (.lstore_n 1, 1) := by decide +kernel
theorem dX3_digest_136 : decode cX3_digest 136 = .ok (.aload_n 0, 1) := by decide +kernel
theorem dX3_digest_137 : decode cX3_digest 137 = .ok (.getfield 16, 3) := by decide +kernel
theorem dX3_digest_140 : decode cX3_digest 140 = .ok (.invokevirtual 324, 3) := by decide +kernel
theorem dX3_digest_143 : decode cX3_digest 143 = .ok (.ifCond .ne 26, 3) := by decide +kernel
theorem dX3_digest_146 : decode cX3_digest 146 = .ok (.aload_n 0, 1) := by decide +kernel
theorem dX3_digest_147 : decode cX3_digest 147 = .ok (.getfield 10, 3) := by decide +kernel
theorem dX3_digest_150 : decode cX3_digest 150 = .ok (.invokevirtual 324, 3) := by decide +kernel
theorem dX3_digest_153 : decode cX3_digest 153 = .ok (.ifCond .ne 16, 3) := by decide +kernel
theorem dX3_digest_156 : decode cX3_digest 156 = .ok (.lload_n 1, 1) := by decide +kernel
theorem dX3_digest_157 : decode cX3_digest 157 = .ok (.aload_n 0, 1) := by decide +kernel
theorem dX3_digest_158 : decode cX3_digest 158 = .ok (.iconst 0, 1) := by decide +kernel
theorem dX3_digest_159 : decode cX3_digest 159 = .ok (.iconst 0, 1) := by decide +kernel
theorem dX3_digest_160 : decode cX3_digest 160 = .ok (.iconst 2, 1) := by decide +kernel
theorem dX3_digest_161 : decode cX3_digest 161 = .ok (.iconst 1, 1) := by decide +kernel
theorem dX3_digest_162 : decode cX3_digest 162 = .ok (.invokevirtual 365, 3) := by decide +kernel
theorem dX3_digest_165 : decode cX3_digest 165 = .ok (.invokestatic 348, 3) := by decide +kernel
theorem dX3_digest_168 : decode cX3_digest 168 = .ok (.lstore_n 1, 1) := by decide +kernel
theorem dX3_digest_169 : decode cX3_digest 169 = .ok (.lload_n 1, 1) := by decide +kernel
theorem dX3_digest_170 : decode cX3_digest 170 = .ok (.lreturn, 1) := by decide +kernel
theorem dX3_mixedWithWall_0 : decode cX3_mixedWithWall 0 = .ok (.lload_n 1, 1) := by decide +kernel
theorem dX3_mixedWithWall_1 : decode cX3_mixedWithWall 1 = .ok (.lstore 4, 2) := by decide +kernel
theorem dX3_mixedWithWall_3 : decode cX3_mixedWithWall 3 = .ok (.iconst 0, 1) := by decide +kernel
theorem dX3_mixedWithWall_4 : decode cX3_mixedWithWall 4 = .ok (.istore 6, 2) := by decide +kernel
theorem dX3_mixedWithWall_6 : decode cX3_mixedWithWall 6 = .ok (.iload 6, 2) := by decide +kernel
theorem dX3_mixedWithWall_8 : decode cX3_mixedWithWall 8 = .ok (.bipush 6, 2) := by decide +kernel
theorem dX3_mixedWithWall_10 : decode cX3_mixedWithWall 10 = .ok (.if_icmp .gt 23, 3) := by decide +kernel
theorem dX3_mixedWithWall_13 : decode cX3_mixedWithWall 13 = .ok (.lload 4, 2) := by decide +kernel
theorem dX3_mixedWithWall_15 : decode cX3_mixedWithWall 15 = .ok (.aload_n 0, 1) := by decide +kernel
theorem dX3_mixedWithWall_16 : decode cX3_mixedWithWall 16 = .ok (.iload_n 3, 1) := by decide +kernel
theorem dX3_mixedWithWall_17 : decode cX3_mixedWithWall 17 = .ok (.iload 6, 2) := by decide +kernel
theorem dX3_mixedWithWall_19 : decode cX3_mixedWithWall 19 = .ok (.invokevirtual 369, 3) := by decide +kernel
theorem dX3_mixedWithWall_22 : decode cX3_mixedWithWall 22 = .ok (.invokestatic 348, 3) := by decide +kernel
theorem dX3_mixedWithWall_25 : decode cX3_mixedWithWall 25 = .ok (.lstore 4, 2) := by decide +kernel
theorem dX3_mixedWithWall_27 : decode cX3_mixedWithWall 27 = .ok (.iinc 6 1, 3) := by decide +kernel
theorem dX3_mixedWithWall_30 : decode cX3_mixedWithWall 30 = .ok (.goto (-24), 3) := by decide +kernel
theorem dX3_mixedWithWall_33 : decode cX3_mixedWithWall 33 = .ok (.aload_n 0, 1) := by decide +kernel
theorem dX3_mixedWithWall_34 : decode cX3_mixedWithWall 34 = .ok (.iload_n 3, 1) := by decide +kernel
theorem dX3_mixedWithWall_35 : decode cX3_mixedWithWall 35 = .ok (.invokevirtual 68, 3) := by decide +kernel
theorem dX3_mixedWithWall_38 : decode cX3_mixedWithWall 38 = .ok (.getfield 154, 3) := by decide +kernel
theorem dX3_mixedWithWall_41 : decode cX3_mixedWithWall 41 = .ok (.istore 6, 2) := by decide +kernel
theorem dX3_mixedWithWall_43 : decode cX3_mixedWithWall 43 = .ok (.iconst 0, 1) := by decide +kernel
theorem dX3_mixedWithWall_44 : decode cX3_mixedWithWall 44 = .ok (.istore 7, 2) := by decide +kernel
theorem dX3_mixedWithWall_46 : decode cX3_mixedWithWall 46 = .ok (.iload 7, 2) := by decide +kernel
theorem dX3_mixedWithWall_48 : decode cX3_mixedWithWall 48 = .ok (.iload 6, 2) := by decide +kernel
theorem dX3_mixedWithWall_50 : decode cX3_mixedWithWall 50 = .ok (.if_icmp .ge 23, 3) := by decide +kernel
theorem dX3_mixedWithWall_53 : decode cX3_mixedWithWall 53 = .ok (.lload 4, 2) := by decide +kernel
theorem dX3_mixedWithWall_55 : decode cX3_mixedWithWall 55 = .ok (.aload_n 0, 1) := by decide +kernel
theorem dX3_mixedWithWall_56 : decode cX3_mixedWithWall 56 = .ok (.iload_n 3, 1) := by decide +kernel
theorem dX3_mixedWithWall_57 : decode cX3_mixedWithWall 57 = .ok (.iload 7, 2) := by decide +kernel
theorem dX3_mixedWithWall_59 : decode cX3_mixedWithWall 59 = .ok (.invokevirtual 372, 3) := by decide +kernel
theorem dX3_mixedWithWall_62 : decode cX3_mixedWithWall 62 = .ok (.invokestatic 348, 3) := by decide +kernel
theorem dX3_mixedWithWall_65 : decode cX3_mixedWithWall 65 = .ok (.lstore 4, 2) := by decide +kernel
theorem dX3_mixedWithWall_67 : decode cX3_mixedWithWall 67 = .ok (.iinc 7 1, 3) := by decide +kernel
theorem dX3_mixedWithWall_70 : decode cX3_mixedWithWall 70 = .ok (.goto (-24), 3) := by decide +kernel
theorem dX3_mixedWithWall_73 : decode cX3_mixedWithWall 73 = .ok (.lload 4, 2) := by decide +kernel
theorem dX3_mixedWithWall_75 : decode cX3_mixedWithWall 75 = .ok (.lreturn, 1) := by decide +kernel
theorem dX3_mixedWithHand_0 : decode cX3_mixedWithHand 0 = .ok (.lload_n 1, 1) := by decide +kernel
theorem dX3_mixedWithHand_1 : decode cX3_mixedWithHand 1 = .ok (.lstore 4, 2) := by decide +kernel
theorem dX3_mixedWithHand_3 : decode cX3_mixedWithHand 3 = .ok (.iconst 0, 1) := by decide +kernel
theorem dX3_mixedWithHand_4 : decode cX3_mixedWithHand 4 = .ok (.istore 6, 2) := by decide +kernel
theorem dX3_mixedWithHand_6 : decode cX3_mixedWithHand 6 = .ok (.iload 6, 2) := by decide +kernel
theorem dX3_mixedWithHand_8 : decode cX3_mixedWithHand 8 = .ok (.bipush 10, 2) := by decide +kernel
theorem dX3_mixedWithHand_10 : decode cX3_mixedWithHand 10 = .ok (.if_icmp .gt 23, 3) := by decide +kernel
theorem dX3_mixedWithHand_13 : decode cX3_mixedWithHand 13 = .ok (.lload 4, 2) := by decide +kernel
theorem dX3_mixedWithHand_15 : decode cX3_mixedWithHand 15 = .ok (.aload_n 0, 1) := by decide +kernel
theorem dX3_mixedWithHand_16 : decode cX3_mixedWithHand 16 = .ok (.iload_n 3, 1) := by decide +kernel
theorem dX3_mixedWithHand_17 : decode cX3_mixedWithHand 17 = .ok (.iload 6, 2) := by decide +kernel
theorem dX3_mixedWithHand_19 : decode cX3_mixedWithHand 19 = .ok (.invokevirtual 375, 3) := by decide +kernel
theorem dX3_mixedWithHand_22 : decode cX3_mixedWithHand 22 = .ok (.invokestatic 348, 3) := by decide +kernel
theorem dX3_mixedWithHand_25 : decode cX3_mixedWithHand 25 = .ok (.lstore 4, 2) := by decide +kernel
theorem dX3_mixedWithHand_27 : decode cX3_mixedWithHand 27 = .ok (.iinc 6 1, 3) := by decide +kernel
theorem dX3_mixedWithHand_30 : decode cX3_mixedWithHand 30 = .ok (.goto (-24), 3) := by decide +kernel
theorem dX3_mixedWithHand_33 : decode cX3_mixedWithHand 33 = .ok (.iconst 0, 1) := by decide +kernel
theorem dX3_mixedWithHand_34 : decode cX3_mixedWithHand 34 = .ok (.istore 6, 2) := by decide +kernel
theorem dX3_mixedWithHand_36 : decode cX3_mixedWithHand 36 = .ok (.iload 6, 2) := by decide +kernel
theorem dX3_mixedWithHand_38 : decode cX3_mixedWithHand 38 = .ok (.aload_n 0, 1) := by decide +kernel
theorem dX3_mixedWithHand_39 : decode cX3_mixedWithHand 39 = .ok (.getfield 16, 3) := by decide +kernel
theorem dX3_mixedWithHand_42 : decode cX3_mixedWithHand 42 = .ok (.invokevirtual 43, 3) := by decide +kernel
theorem dX3_mixedWithHand_45 : decode cX3_mixedWithHand 45 = .ok (.if_icmp .ge 23, 3) := by decide +kernel
theorem dX3_mixedWithHand_48 : decode cX3_mixedWithHand 48 = .ok (.lload 4, 2) := by decide +kernel
theorem dX3_mixedWithHand_50 : decode cX3_mixedWithHand 50 = .ok (.aload_n 0, 1) := by decide +kernel
theorem dX3_mixedWithHand_51 : decode cX3_mixedWithHand 51 = .ok (.iload_n 3, 1) := by decide +kernel
theorem dX3_mixedWithHand_52 : decode cX3_mixedWithHand 52 = .ok (.iload 6, 2) := by decide +kernel
theorem dX3_mixedWithHand_54 : decode cX3_mixedWithHand 54 = .ok (.invokevirtual 378, 3) := by decide +kernel
theorem dX3_mixedWithHand_57 : decode cX3_mixedWithHand 57 = .ok (.invokestatic 348, 3) := by decide +kernel
theorem dX3_mixedWithHand_60 : decode cX3_mixedWithHand 60 = .ok (.lstore 4, 2) := by decide +kernel
theorem dX3_mixedWithHand_62 : decode cX3_mixedWithHand 62 = .ok (.iinc 6 1, 3) := by decide +kernel
theorem dX3_mixedWithHand_65 : decode cX3_mixedWithHand 65 = .ok (.goto (-29), 3) := by decide +kernel
theorem dX3_mixedWithHand_68 : decode cX3_mixedWithHand 68 = .ok (.lload 4, 2) := by decide +kernel
theorem dX3_mixedWithHand_70 : decode cX3_mixedWithHand 70 = .ok (.aload_n 0, 1) := by decide +kernel
theorem dX3_mixedWithHand_71 : decode cX3_mixedWithHand 71 = .ok (.iload_n 3, 1) := by decide +kernel
theorem dX3_mixedWithHand_72 : decode cX3_mixedWithHand 72 = .ok (.bipush 7, 2) := by decide +kernel
theorem dX3_mixedWithHand_74 : decode cX3_mixedWithHand 74 = .ok (.invokevirtual 381, 3) := by decide +kernel
theorem dX3_mixedWithHand_77 : decode cX3_mixedWithHand 77 = .ok (.invokestatic 348, 3) := by decide +kernel
theorem dX3_mixedWithHand_80 : decode cX3_mixedWithHand 80 = .ok (.lreturn, 1) := by decide +kernel
theorem dX3_mixed_0 : decode cX3_mixed 0 = .ok (.lload_n 0, 1) := by decide +kernel
theorem dX3_mixed_1 : decode cX3_mixed 1 = .ok (.ldc2_w 384, 3) := by decide +kernel
theorem dX3_mixed_4 : decode cX3_mixed 4 = .ok (.lmul, 1) := by decide +kernel
theorem dX3_mixed_5 : decode cX3_mixed 5 = .ok (.iload_n 2, 1) := by decide +kernel
theorem dX3_mixed_6 : decode cX3_mixed 6 = .ok (.i2l, 1) := by decide +kernel
theorem dX3_mixed_7 : decode cX3_mixed 7 = .ok (.ladd, 1) := by decide +kernel
theorem dX3_mixed_8 : decode cX3_mixed 8 = .ok (.lreturn, 1) := by decide +kernel
theorem dX3_isWithin_0 : decode cX3_isWithin 0 = .ok (.iload_n 0, 1) := by decide +kernel
theorem dX3_isWithin_1 : decode cX3_isWithin 1 = .ok (.iload_n 1, 1) := by decide +kernel
theorem dX3_isWithin_2 : decode cX3_isWithin 2 = .ok (.if_icmp .lt 12, 3) := by decide +kernel
theorem dX3_isWithin_5 : decode cX3_isWithin 5 = .ok (.iload_n 0, 1) := by decide +kernel
theorem dX3_isWithin_6 : decode cX3_isWithin 6 = .ok (.iload_n 2, 1) := by decide +kernel
theorem dX3_isWithin_7 : decode cX3_isWithin 7 = .ok (.if_icmp .gt 7, 3) := by decide +kernel
theorem dX3_isWithin_10 : decode cX3_isWithin 10 = .ok (.iconst 1, 1) := by decide +kernel
theorem dX3_isWithin_11 : decode cX3_isWithin 11 = .ok (.goto 4, 3) := by decide +kernel
theorem dX3_isWithin_14 : decode cX3_isWithin 14 = .ok (.iconst 0, 1) := by decide +kernel
theorem dX3_isWithin_15 : decode cX3_isWithin 15 = .ok (.ireturn, 1) := by decide +kernel
theorem dX3_isKind_0 : decode cX3_isKind 0 = .ok (.iload_n 0, 1) := by decide +kernel
theorem dX3_isKind_1 : decode cX3_isKind 1 = .ok (.iconst 0, 1) := by decide +kernel
theorem dX3_isKind_2 : decode cX3_isKind 2 = .ok (.iconst 3, 1) := by decide +kernel
theorem dX3_isKind_3 : decode cX3_isKind 3 = .ok (.invokestatic 32, 3) := by decide +kernel
theorem dX3_isKind_6 : decode cX3_isKind 6 = .ok (.ireturn, 1) := by decide +kernel
theorem dX3_wallAt_0 : decode cX3_wallAt 0 = .ok (.iload_n 1, 1) := by decide +kernel
theorem dX3_wallAt_1 : decode cX3_wallAt 1 = .ok (.iconst 0, 1) := by decide +kernel
theorem dX3_wallAt_2 : decode cX3_wallAt 2 = .ok (.aload_n 0, 1) := by decide +kernel
theorem dX3_wallAt_3 : decode cX3_wallAt 3 = .ok (.getfield 10, 3) := by decide +kernel
theorem dX3_wallAt_6 : decode cX3_wallAt 6 = .ok (.invokevirtual 43, 3) := by decide +kernel
theorem dX3_wallAt_9 : decode cX3_wallAt 9 = .ok (.iconst 1, 1) := by decide +kernel
theorem dX3_wallAt_10 : decode cX3_wallAt 10 = .ok (.isub, 1) := by decide +kernel
theorem dX3_wallAt_11 : decode cX3_wallAt 11 = .ok (.invokestatic 32, 3) := by decide +kernel
theorem dX3_wallAt_14 : decode cX3_wallAt 14 = .ok (.ifCond .ne 14, 3) := by decide +kernel
theorem dX3_wallAt_17 : decode cX3_wallAt 17 = .ok (.new 235, 3) := by decide +kernel
theorem dX3_wallAt_20 : decode cX3_wallAt 20 = .ok (.dup, 1) := by decide +kernel
theorem dX3_wallAt_21 : decode cX3_wallAt 21 = .ok (.ldc_w 386, 3) := by decide +kernel
theorem dX3_wallAt_24 : decode cX3_wallAt 24 = .ok (.invokespecial 239, 3) := by decide +kernel
theorem dX3_wallAt_27 : decode cX3_wallAt 27 = .ok (.athrow, 1) := by decide +kernel
theorem dX3_wallAt_28 : decode cX3_wallAt 28 = .ok (.aload_n 0, 1) := by decide +kernel
theorem dX3_wallAt_29 : decode cX3_wallAt 29 = .ok (.getfield 10, 3) := by decide +kernel
theorem dX3_wallAt_32 : decode cX3_wallAt 32 = .ok (.iload_n 1, 1) := by decide +kernel
theorem dX3_wallAt_33 : decode cX3_wallAt 33 = .ok (.invokevirtual 327, 3) := by decide +kernel
theorem dX3_wallAt_36 : decode cX3_wallAt 36 = .ok (.checkcast 52, 3) := by decide +kernel
theorem dX3_wallAt_39 : decode cX3_wallAt 39 = .ok (.areturn, 1) := by decide +kernel
theorem dX3_handAt_0 : decode cX3_handAt 0 = .ok (.iload_n 1, 1) := by decide +kernel
theorem dX3_handAt_1 : decode cX3_handAt 1 = .ok (.iconst 0, 1) := by decide +kernel
theorem dX3_handAt_2 : decode cX3_handAt 2 = .ok (.aload_n 0, 1) := by decide +kernel
theorem dX3_handAt_3 : decode cX3_handAt 3 = .ok (.getfield 16, 3) := by decide +kernel
theorem dX3_handAt_6 : decode cX3_handAt 6 = .ok (.invokevirtual 43, 3) := by decide +kernel
theorem dX3_handAt_9 : decode cX3_handAt 9 = .ok (.iconst 1, 1) := by decide +kernel
theorem dX3_handAt_10 : decode cX3_handAt 10 = .ok (.isub, 1) := by decide +kernel
theorem dX3_handAt_11 : decode cX3_handAt 11 = .ok (.invokestatic 32, 3) := by decide +kernel
theorem dX3_handAt_14 : decode cX3_handAt 14 = .ok (.ifCond .ne 14, 3) := by decide +kernel
theorem dX3_handAt_17 : decode cX3_handAt 17 = .ok (.new 235, 3) := by decide +kernel
theorem dX3_handAt_20 : decode cX3_handAt 20 = .ok (.dup, 1) := by decide +kernel
theorem dX3_handAt_21 : decode cX3_handAt 21 = .ok (.ldc_w 388, 3) := by decide +kernel
theorem dX3_handAt_24 : decode cX3_handAt 24 = .ok (.invokespecial 239, 3) := by decide +kernel
theorem dX3_handAt_27 : decode cX3_handAt 27 = .ok (.athrow, 1) := by decide +kernel
theorem dX3_handAt_28 : decode cX3_handAt 28 = .ok (.aload_n 0, 1) := by decide +kernel
theorem dX3_handAt_29 : decode cX3_handAt 29 = .ok (.getfield 16, 3) := by decide +kernel
theorem dX3_handAt_32 : decode cX3_handAt 32 = .ok (.iload_n 1, 1) := by decide +kernel
theorem dX3_handAt_33 : decode cX3_handAt 33 = .ok (.invokevirtual 327, 3) := by decide +kernel
theorem dX3_handAt_36 : decode cX3_handAt 36 = .ok (.checkcast 65, 3) := by decide +kernel
theorem dX3_handAt_39 : decode cX3_handAt 39 = .ok (.areturn, 1) := by decide +kernel
theorem dX3_layerAt_0 : decode cX3_layerAt 0 = .ok (.iload_n 1, 1) := by decide +kernel
theorem dX3_layerAt_1 : decode cX3_layerAt 1 = .ok (.iconst 0, 1) := by decide +kernel
theorem dX3_layerAt_2 : decode cX3_layerAt 2 = .ok (.aload_n 0, 1) := by decide +kernel
theorem dX3_layerAt_3 : decode cX3_layerAt 3 = .ok (.getfield 19, 3) := by decide +kernel
theorem dX3_layerAt_6 : decode cX3_layerAt 6 = .ok (.invokevirtual 43, 3) := by decide +kernel
theorem dX3_layerAt_9 : decode cX3_layerAt 9 = .ok (.iconst 1, 1) := by decide +kernel
theorem dX3_layerAt_10 : decode cX3_layerAt 10 = .ok (.isub, 1) := by decide +kernel
theorem dX3_layerAt_11 : decode cX3_layerAt 11 = .ok (.invokestatic 32, 3) := by decide +kernel
theorem dX3_layerAt_14 : decode cX3_layerAt 14 = .ok (.ifCond .ne 14, 3) := by decide +kernel
theorem dX3_layerAt_17 : decode cX3_layerAt 17 = .ok (.new 235, 3) := by decide +kernel
theorem dX3_layerAt_20 : decode cX3_layerAt 20 = .ok (.dup, 1) := by decide +kernel
theorem dX3_layerAt_21 : decode cX3_layerAt 21 = .ok (.ldc_w 390, 3) := by decide +kernel
theorem dX3_layerAt_24 : decode cX3_layerAt 24 = .ok (.invokespecial 239, 3) := by decide +kernel
theorem dX3_layerAt_27 : decode cX3_layerAt 27 = .ok (.athrow, 1) := by decide +kernel
theorem dX3_layerAt_28 : decode cX3_layerAt 28 = .ok (.aload_n 0, 1) := by decide +kernel
theorem dX3_layerAt_29 : decode cX3_layerAt 29 = .ok (.getfield 19, 3) := by decide +kernel
theorem dX3_layerAt_32 : decode cX3_layerAt 32 = .ok (.iload_n 1, 1) := by decide +kernel
theorem dX3_layerAt_33 : decode cX3_layerAt 33 = .ok (.invokevirtual 327, 3) := by decide +kernel
theorem dX3_layerAt_36 : decode cX3_layerAt 36 = .ok (.checkcast 118, 3) := by decide +kernel
theorem dX3_layerAt_39 : decode cX3_layerAt 39 = .ok (.areturn, 1) := by decide +kernel
theorem dX3_isPermitted_0 : decode cX3_isPermitted 0 = .ok (.aload_n 2, 1) := by decide +kernel
theorem dX3_isPermitted_1 : decode cX3_isPermitted 1 = .ok (.aload_n 0, 1) := by decide +kernel
theorem dX3_isPermitted_2 : decode cX3_isPermitted 2 = .ok (.getfield 22, 3) := by decide +kernel
theorem dX3_isPermitted_5 : decode cX3_isPermitted 5 = .ok (.invokevirtual 74, 3) := by decide +kernel
theorem dX3_isPermitted_8 : decode cX3_isPermitted 8 = .ok (.aload_n 1, 1) := by decide +kernel
theorem dX3_isPermitted_9 : decode cX3_isPermitted 9 = .ok (.getfield 243, 3) := by decide +kernel
theorem dX3_isPermitted_12 : decode cX3_isPermitted 12 = .ok (.if_icmp .ne 7, 3) := by decide +kernel
theorem dX3_isPermitted_15 : decode cX3_isPermitted 15 = .ok (.iconst 1, 1) := by decide +kernel
theorem dX3_isPermitted_16 : decode cX3_isPermitted 16 = .ok (.goto 4, 3) := by decide +kernel
theorem dX3_isPermitted_19 : decode cX3_isPermitted 19 = .ok (.iconst 0, 1) := by decide +kernel
theorem dX3_isPermitted_20 : decode cX3_isPermitted 20 = .ok (.ireturn, 1) := by decide +kernel
theorem dX3_countWrongs_0 : decode cX3_countWrongs 0 = .ok (.iconst 0, 1) := by decide +kernel
theorem dX3_countWrongs_1 : decode cX3_countWrongs 1 = .ok (.istore 6, 2) := by decide +kernel
theorem dX3_countWrongs_3 : decode cX3_countWrongs 3 = .ok (.iload_n 3, 1) := by decide +kernel
theorem dX3_countWrongs_4 : decode cX3_countWrongs 4 = .ok (.istore 7, 2) := by decide +kernel
theorem dX3_countWrongs_6 : decode cX3_countWrongs 6 = .ok (.iload 7, 2) := by decide +kernel
theorem dX3_countWrongs_8 : decode cX3_countWrongs 8 = .ok (.iload_n 3, 1) := by decide +kernel
theorem dX3_countWrongs_9 : decode cX3_countWrongs 9 = .ok (.iload 4, 2) := by decide +kernel
theorem dX3_countWrongs_11 : decode cX3_countWrongs 11 = .ok (.iadd, 1) := by decide +kernel
theorem dX3_countWrongs_12 : decode cX3_countWrongs 12 = .ok (.if_icmp .ge 26, 3) := by decide +kernel
theorem dX3_countWrongs_15 : decode cX3_countWrongs 15 = .ok (.aload_n 0, 1) := by decide +kernel
theorem dX3_countWrongs_16 : decode cX3_countWrongs 16 = .ok (.aload_n 1, 1) := by decide +kernel
theorem dX3_countWrongs_17 : decode cX3_countWrongs 17 = .ok (.aload_n 2, 1) := by decide +kernel
theorem dX3_countWrongs_18 : decode cX3_countWrongs 18 = .ok (.iload_n 3, 1) := by decide +kernel
theorem dX3_countWrongs_19 : decode cX3_countWrongs 19 = .ok (.iload 7, 2) := by decide +kernel
theorem dX3_countWrongs_21 : decode cX3_countWrongs 21 = .ok (.iload 5, 2) := by decide +kernel
theorem dX3_countWrongs_23 : decode cX3_countWrongs 23 = .ok (.invokevirtual 392, 3) := by decide +kernel
theorem dX3_countWrongs_26 : decode cX3_countWrongs 26 = .ok (.ifnull 6, 3) := by decide +kernel
theorem dX3_countWrongs_29 : decode cX3_countWrongs 29 = .ok (.iinc 6 1, 3) := by decide +kernel
theorem dX3_countWrongs_32 : decode cX3_countWrongs 32 = .ok (.iinc 7 1, 3) := by decide +kernel
theorem dX3_countWrongs_35 : decode cX3_countWrongs 35 = .ok (.goto (-29), 3) := by decide +kernel
theorem dX3_countWrongs_38 : decode cX3_countWrongs 38 = .ok (.iload 6, 2) := by decide +kernel
theorem dX3_countWrongs_40 : decode cX3_countWrongs 40 = .ok (.ireturn, 1) := by decide +kernel
theorem dX3_doWrongs_0 : decode cX3_doWrongs 0 = .ok (.iconst 0, 1) := by decide +kernel
theorem dX3_doWrongs_1 : decode cX3_doWrongs 1 = .ok (.istore 6, 2) := by decide +kernel
theorem dX3_doWrongs_3 : decode cX3_doWrongs 3 = .ok (.iload_n 3, 1) := by decide +kernel
theorem dX3_doWrongs_4 : decode cX3_doWrongs 4 = .ok (.istore 7, 2) := by decide +kernel
theorem dX3_doWrongs_6 : decode cX3_doWrongs 6 = .ok (.iload 7, 2) := by decide +kernel
theorem dX3_doWrongs_8 : decode cX3_doWrongs 8 = .ok (.iload_n 3, 1) := by decide +kernel
theorem dX3_doWrongs_9 : decode cX3_doWrongs 9 = .ok (.iload 4, 2) := by decide +kernel
theorem dX3_doWrongs_11 : decode cX3_doWrongs 11 = .ok (.iadd, 1) := by decide +kernel
theorem dX3_doWrongs_12 : decode cX3_doWrongs 12 = .ok (.if_icmp .ge 44, 3) := by decide +kernel
theorem dX3_doWrongs_15 : decode cX3_doWrongs 15 = .ok (.aload_n 0, 1) := by decide +kernel
theorem dX3_doWrongs_16 : decode cX3_doWrongs 16 = .ok (.aload_n 1, 1) := by decide +kernel
theorem dX3_doWrongs_17 : decode cX3_doWrongs 17 = .ok (.aload_n 2, 1) := by decide +kernel
theorem dX3_doWrongs_18 : decode cX3_doWrongs 18 = .ok (.iload_n 3, 1) := by decide +kernel
theorem dX3_doWrongs_19 : decode cX3_doWrongs 19 = .ok (.iload 7, 2) := by decide +kernel
theorem dX3_doWrongs_21 : decode cX3_doWrongs 21 = .ok (.iload 5, 2) := by decide +kernel
theorem dX3_doWrongs_23 : decode cX3_doWrongs 23 = .ok (.invokevirtual 392, 3) := by decide +kernel
theorem dX3_doWrongs_26 : decode cX3_doWrongs 26 = .ok (.astore 8, 2) := by decide +kernel
theorem dX3_doWrongs_28 : decode cX3_doWrongs 28 = .ok (.aload 8, 2) := by decide +kernel
theorem dX3_doWrongs_30 : decode cX3_doWrongs 30 = .ok (.ifnull 20, 3) := by decide +kernel
theorem dX3_doWrongs_33 : decode cX3_doWrongs 33 = .ok (.aload_n 1, 1) := by decide +kernel
theorem dX3_doWrongs_34 : decode cX3_doWrongs 34 = .ok (.getfield 295, 3) := by decide +kernel
theorem dX3_doWrongs_37 : decode cX3_doWrongs 37 = .ok (.aload 8, 2) := by decide +kernel
theorem dX3_doWrongs_39 : decode cX3_doWrongs 39 = .ok (.getfield 270, 3) := by decide +kernel
theorem dX3_doWrongs_42 : decode cX3_doWrongs 42 = .ok (.dup2, 1) := by decide +kernel
theorem dX3_doWrongs_43 : decode cX3_doWrongs 43 = .ok (.iaload, 1) := by decide +kernel
theorem dX3_doWrongs_44 : decode cX3_doWrongs 44 = .ok (.iconst 1, 1) := by decide +kernel
theorem dX3_doWrongs_45 : decode cX3_doWrongs 45 = .ok (.iadd, 1) := by decide +kernel
theorem dX3_doWrongs_46 : decode cX3_doWrongs 46 = .ok (.iastore, 1) := by decide +kernel
theorem dX3_doWrongs_47 : decode cX3_doWrongs 47 = .ok (.iinc 6 1, 3) := by decide +kernel
theorem dX3_doWrongs_50 : decode cX3_doWrongs 50 = .ok (.iinc 7 1, 3) := by decide +kernel
theorem dX3_doWrongs_53 : decode cX3_doWrongs 53 = .ok (.goto (-47), 3) := by decide +kernel
theorem dX3_doWrongs_56 : decode cX3_doWrongs 56 = .ok (.iload 6, 2) := by decide +kernel
theorem dX3_doWrongs_58 : decode cX3_doWrongs 58 = .ok (.ireturn, 1) := by decide +kernel
theorem dX3_wrongedAt_0 : decode cX3_wrongedAt 0 = .ok (.aload_n 2, 1) := by decide +kernel
theorem dX3_wrongedAt_1 : decode cX3_wrongedAt 1 = .ok (.getfield 161, 3) := by decide +kernel
theorem dX3_wrongedAt_4 : decode cX3_wrongedAt 4 = .ok (.iload 4, 2) := by decide +kernel
theorem dX3_wrongedAt_6 : decode cX3_wrongedAt 6 = .ok (.aaload, 1) := by decide +kernel
theorem dX3_wrongedAt_7 : decode cX3_wrongedAt 7 = .ok (.astore 6, 2) := by decide +kernel
theorem dX3_wrongedAt_9 : decode cX3_wrongedAt 9 = .ok (.aload 6, 2) := by decide +kernel
theorem dX3_wrongedAt_11 : decode cX3_wrongedAt 11 = .ok (.ifnull 15, 3) := by decide +kernel
theorem dX3_wrongedAt_14 : decode cX3_wrongedAt 14 = .ok (.aload_n 2, 1) := by decide +kernel
theorem dX3_wrongedAt_15 : decode cX3_wrongedAt 15 = .ok (.aload 6, 2) := by decide +kernel
theorem dX3_wrongedAt_17 : decode cX3_wrongedAt 17 = .ok (.iload_n 3, 1) := by decide +kernel
theorem dX3_wrongedAt_18 : decode cX3_wrongedAt 18 = .ok (.iload 4, 2) := by decide +kernel
theorem dX3_wrongedAt_20 : decode cX3_wrongedAt 20 = .ok (.invokevirtual 396, 3) := by decide +kernel
theorem dX3_wrongedAt_23 : decode cX3_wrongedAt 23 = .ok (.ifCond .eq 5, 3) := by decide +kernel
theorem dX3_wrongedAt_26 : decode cX3_wrongedAt 26 = .ok (.aconst_null, 1) := by decide +kernel
theorem dX3_wrongedAt_27 : decode cX3_wrongedAt 27 = .ok (.areturn, 1) := by decide +kernel
theorem dX3_wrongedAt_28 : decode cX3_wrongedAt 28 = .ok (.aload_n 0, 1) := by decide +kernel
theorem dX3_wrongedAt_29 : decode cX3_wrongedAt 29 = .ok (.aload_n 1, 1) := by decide +kernel
theorem dX3_wrongedAt_30 : decode cX3_wrongedAt 30 = .ok (.aload_n 2, 1) := by decide +kernel
theorem dX3_wrongedAt_31 : decode cX3_wrongedAt 31 = .ok (.aload 6, 2) := by decide +kernel
theorem dX3_wrongedAt_33 : decode cX3_wrongedAt 33 = .ok (.iload 5, 2) := by decide +kernel
theorem dX3_wrongedAt_35 : decode cX3_wrongedAt 35 = .ok (.invokevirtual 400, 3) := by decide +kernel
theorem dX3_wrongedAt_38 : decode cX3_wrongedAt 38 = .ok (.ifCond .eq 11, 3) := by decide +kernel
theorem dX3_wrongedAt_41 : decode cX3_wrongedAt 41 = .ok (.aload 6, 2) := by decide +kernel
theorem dX3_wrongedAt_43 : decode cX3_wrongedAt 43 = .ok (.getfield 172, 3) := by decide +kernel
theorem dX3_wrongedAt_46 : decode cX3_wrongedAt 46 = .ok (.goto 4, 3) := by decide +kernel
theorem dX3_wrongedAt_49 : decode cX3_wrongedAt 49 = .ok (.aconst_null, 1) := by decide +kernel
theorem dX3_wrongedAt_50 : decode cX3_wrongedAt 50 = .ok (.areturn, 1) := by decide +kernel
theorem dX3_isWronged_0 : decode cX3_isWronged 0 = .ok (.aload_n 3, 1) := by decide +kernel
theorem dX3_isWronged_1 : decode cX3_isWronged 1 = .ok (.getfield 172, 3) := by decide +kernel
theorem dX3_isWronged_4 : decode cX3_isWronged 4 = .ok (.aload_n 1, 1) := by decide +kernel
theorem dX3_isWronged_5 : decode cX3_isWronged 5 = .ok (.if_acmp .ne 5, 3) := by decide +kernel
theorem dX3_isWronged_8 : decode cX3_isWronged 8 = .ok (.iconst 0, 1) := by decide +kernel
theorem dX3_isWronged_9 : decode cX3_isWronged 9 = .ok (.ireturn, 1) := by decide +kernel
theorem dX3_isWronged_10 : decode cX3_isWronged 10 = .ok (.aload_n 3, 1) := by decide +kernel
theorem dX3_isWronged_11 : decode cX3_isWronged 11 = .ok (.getfield 205, 3) := by decide +kernel
theorem dX3_isWronged_14 : decode cX3_isWronged 14 = .ok (.ifCond .eq 5, 3) := by decide +kernel
theorem dX3_isWronged_17 : decode cX3_isWronged 17 = .ok (.iconst 1, 1) := by decide +kernel
theorem dX3_isWronged_18 : decode cX3_isWronged 18 = .ok (.ireturn, 1) := by decide +kernel
theorem dX3_isWronged_19 : decode cX3_isWronged 19 = .ok (.aload_n 3, 1) := by decide +kernel
theorem dX3_isWronged_20 : decode cX3_isWronged 20 = .ok (.getfield 172, 3) := by decide +kernel
theorem dX3_isWronged_23 : decode cX3_isWronged 23 = .ok (.getfield 243, 3) := by decide +kernel
theorem dX3_isWronged_26 : decode cX3_isWronged 26 = .ok (.aload_n 1, 1) := by decide +kernel
theorem dX3_isWronged_27 : decode cX3_isWronged 27 = .ok (.getfield 243, 3) := by decide +kernel
theorem dX3_isWronged_30 : decode cX3_isWronged 30 = .ok (.if_icmp .eq 39, 3) := by decide +kernel
theorem dX3_isWronged_33 : decode cX3_isWronged 33 = .ok (.iload 4, 2) := by decide +kernel
theorem dX3_isWronged_35 : decode cX3_isWronged 35 = .ok (.aload_n 3, 1) := by decide +kernel
theorem dX3_isWronged_36 : decode cX3_isWronged 36 = .ok (.getfield 278, 3) := by decide +kernel
theorem dX3_isWronged_39 : decode cX3_isWronged 39 = .ok (.if_icmp .gt 30, 3) := by decide +kernel
theorem dX3_isWronged_42 : decode cX3_isWronged 42 = .ok (.aload_n 0, 1) := by decide +kernel
theorem dX3_isWronged_43 : decode cX3_isWronged 43 = .ok (.getfield 22, 3) := by decide +kernel
theorem dX3_isWronged_46 : decode cX3_isWronged 46 = .ok (.aload_n 3, 1) := by decide +kernel
theorem dX3_isWronged_47 : decode cX3_isWronged 47 = .ok (.getfield 123, 3) := by decide +kernel
theorem dX3_isWronged_50 : decode cX3_isWronged 50 = .ok (.isub, 1) := by decide +kernel
theorem dX3_isWronged_51 : decode cX3_isWronged 51 = .ok (.bipush 20, 2) := by decide +kernel
theorem dX3_isWronged_53 : decode cX3_isWronged 53 = .ok (.if_icmp .ge 16, 3) := by decide +kernel
theorem dX3_isWronged_56 : decode cX3_isWronged 56 = .ok (.aload_n 0, 1) := by decide +kernel
theorem dX3_isWronged_57 : decode cX3_isWronged 57 = .ok (.aload_n 1, 1) := by decide +kernel
theorem dX3_isWronged_58 : decode cX3_isWronged 58 = .ok (.aload_n 2, 1) := by decide +kernel
theorem dX3_isWronged_59 : decode cX3_isWronged 59 = .ok (.invokevirtual 126, 3) := by decide +kernel
theorem dX3_isWronged_62 : decode cX3_isWronged 62 = .ok (.ifCond .ne 7, 3) := by decide +kernel
theorem dX3_isWronged_65 : decode cX3_isWronged 65 = .ok (.iconst 1, 1) := by decide +kernel
theorem dX3_isWronged_66 : decode cX3_isWronged 66 = .ok (.goto 4, 3) := by decide +kernel
theorem dX3_isWronged_69 : decode cX3_isWronged 69 = .ok (.iconst 0, 1) := by decide +kernel
theorem dX3_isWronged_70 : decode cX3_isWronged 70 = .ok (.ireturn, 1) := by decide +kernel
theorem dX3_fameOf_0 : decode cX3_fameOf 0 = .ok (.iconst 0, 1) := by decide +kernel
theorem dX3_fameOf_1 : decode cX3_fameOf 1 = .ok (.istore_n 2, 1) := by decide +kernel
theorem dX3_fameOf_2 : decode cX3_fameOf 2 = .ok (.iconst 0, 1) := by decide +kernel
theorem dX3_fameOf_3 : decode cX3_fameOf 3 = .ok (.istore_n 3, 1) := by decide +kernel
theorem dX3_fameOf_4 : decode cX3_fameOf 4 = .ok (.iload_n 3, 1) := by decide +kernel
theorem dX3_fameOf_5 : decode cX3_fameOf 5 = .ok (.aload_n 0, 1) := by decide +kernel
theorem dX3_fameOf_6 : decode cX3_fameOf 6 = .ok (.getfield 10, 3) := by decide +kernel
theorem dX3_fameOf_9 : decode cX3_fameOf 9 = .ok (.invokevirtual 43, 3) := by decide +kernel
theorem dX3_fameOf_12 : decode cX3_fameOf 12 = .ok (.if_icmp .ge 27, 3) := by decide +kernel
theorem dX3_fameOf_15 : decode cX3_fameOf 15 = .ok (.iload_n 2, 1) := by decide +kernel
theorem dX3_fameOf_16 : decode cX3_fameOf 16 = .ok (.aload_n 0, 1) := by decide +kernel
theorem dX3_fameOf_17 : decode cX3_fameOf 17 = .ok (.getfield 10, 3) := by decide +kernel
theorem dX3_fameOf_20 : decode cX3_fameOf 20 = .ok (.iload_n 3, 1) := by decide +kernel
theorem dX3_fameOf_21 : decode cX3_fameOf 21 = .ok (.invokevirtual 327, 3) := by decide +kernel
theorem dX3_fameOf_24 : decode cX3_fameOf 24 = .ok (.checkcast 52, 3) := by decide +kernel
theorem dX3_fameOf_27 : decode cX3_fameOf 27 = .ok (.aload_n 1, 1) := by decide +kernel
theorem dX3_fameOf_28 : decode cX3_fameOf 28 = .ok (.invokevirtual 342, 3) := by decide +kernel
theorem dX3_fameOf_31 : decode cX3_fameOf 31 = .ok (.iadd, 1) := by decide +kernel
theorem dX3_fameOf_32 : decode cX3_fameOf 32 = .ok (.istore_n 2, 1) := by decide +kernel
theorem dX3_fameOf_33 : decode cX3_fameOf 33 = .ok (.iinc 3 1, 3) := by decide +kernel
theorem dX3_fameOf_36 : decode cX3_fameOf 36 = .ok (.goto (-32), 3) := by decide +kernel
theorem dX3_fameOf_39 : decode cX3_fameOf 39 = .ok (.iload_n 2, 1) := by decide +kernel
theorem dX3_fameOf_40 : decode cX3_fameOf 40 = .ok (.ireturn, 1) := by decide +kernel
theorem dX3_fameGain_0 : decode cX3_fameGain 0 = .ok (.iconst 0, 1) := by decide +kernel
theorem dX3_fameGain_1 : decode cX3_fameGain 1 = .ok (.istore 5, 2) := by decide +kernel
theorem dX3_fameGain_3 : decode cX3_fameGain 3 = .ok (.iload_n 2, 1) := by decide +kernel
theorem dX3_fameGain_4 : decode cX3_fameGain 4 = .ok (.istore 6, 2) := by decide +kernel
theorem dX3_fameGain_6 : decode cX3_fameGain 6 = .ok (.iload 6, 2) := by decide +kernel
theorem dX3_fameGain_8 : decode cX3_fameGain 8 = .ok (.iload_n 2, 1) := by decide +kernel
theorem dX3_fameGain_9 : decode cX3_fameGain 9 = .ok (.iload_n 3, 1) := by decide +kernel
theorem dX3_fameGain_10 : decode cX3_fameGain 10 = .ok (.iadd, 1) := by decide +kernel
theorem dX3_fameGain_11 : decode cX3_fameGain 11 = .ok (.if_icmp .ge 33, 3) := by decide +kernel
theorem dX3_fameGain_14 : decode cX3_fameGain 14 = .ok (.iload 5, 2) := by decide +kernel
theorem dX3_fameGain_16 : decode cX3_fameGain 16 = .ok (.aload_n 1, 1) := by decide +kernel
theorem dX3_fameGain_17 : decode cX3_fameGain 17 = .ok (.getfield 218, 3) := by decide +kernel
theorem dX3_fameGain_20 : decode cX3_fameGain 20 = .ok (.getstatic 404, 3) := by decide +kernel
theorem dX3_fameGain_23 : decode cX3_fameGain 23 = .ok (.iload 4, 2) := by decide +kernel
theorem dX3_fameGain_25 : decode cX3_fameGain 25 = .ok (.iaload, 1) := by decide +kernel
theorem dX3_fameGain_26 : decode cX3_fameGain 26 = .ok (.imul, 1) := by decide +kernel
theorem dX3_fameGain_27 : decode cX3_fameGain 27 = .ok (.aload_n 1, 1) := by decide +kernel
theorem dX3_fameGain_28 : decode cX3_fameGain 28 = .ok (.iload 6, 2) := by decide +kernel
theorem dX3_fameGain_30 : decode cX3_fameGain 30 = .ok (.aload_n 0, 1) := by decide +kernel
theorem dX3_fameGain_31 : decode cX3_fameGain 31 = .ok (.invokevirtual 407, 3) := by decide +kernel
theorem dX3_fameGain_34 : decode cX3_fameGain 34 = .ok (.isub, 1) := by decide +kernel
theorem dX3_fameGain_35 : decode cX3_fameGain 35 = .ok (.iadd, 1) := by decide +kernel
theorem dX3_fameGain_36 : decode cX3_fameGain 36 = .ok (.istore 5, 2) := by decide +kernel
theorem dX3_fameGain_38 : decode cX3_fameGain 38 = .ok (.iinc 6 1, 3) := by decide +kernel
theorem dX3_fameGain_41 : decode cX3_fameGain 41 = .ok (.goto (-35), 3) := by decide +kernel
theorem dX3_fameGain_44 : decode cX3_fameGain 44 = .ok (.iload 5, 2) := by decide +kernel
theorem dX3_fameGain_46 : decode cX3_fameGain 46 = .ok (.ireturn, 1) := by decide +kernel
theorem dX3_priceOf_0 : decode cX3_priceOf 0 = .ok (.aload_n 1, 1) := by decide +kernel
theorem dX3_priceOf_1 : decode cX3_priceOf 1 = .ok (.invokevirtual 169, 3) := by decide +kernel
theorem dX3_priceOf_4 : decode cX3_priceOf 4 = .ok (.aload_n 1, 1) := by decide +kernel
theorem dX3_priceOf_5 : decode cX3_priceOf 5 = .ok (.invokevirtual 281, 3) := by decide +kernel
theorem dX3_priceOf_8 : decode cX3_priceOf 8 = .ok (.imul, 1) := by decide +kernel
theorem dX3_priceOf_9 : decode cX3_priceOf 9 = .ok (.bipush 10, 2) := by decide +kernel
theorem dX3_priceOf_11 : decode cX3_priceOf 11 = .ok (.aload_n 0, 1) := by decide +kernel
theorem dX3_priceOf_12 : decode cX3_priceOf 12 = .ok (.aload_n 1, 1) := by decide +kernel
theorem dX3_priceOf_13 : decode cX3_priceOf 13 = .ok (.getfield 172, 3) := by decide +kernel
theorem dX3_priceOf_16 : decode cX3_priceOf 16 = .ok (.invokevirtual 249, 3) := by decide +kernel
theorem dX3_priceOf_19 : decode cX3_priceOf 19 = .ok (.bipush 10, 2) := by decide +kernel
theorem dX3_priceOf_21 : decode cX3_priceOf 21 = .ok (.idiv, 1) := by decide +kernel
theorem dX3_priceOf_22 : decode cX3_priceOf 22 = .ok (.iadd, 1) := by decide +kernel
theorem dX3_priceOf_23 : decode cX3_priceOf 23 = .ok (.imul, 1) := by decide +kernel
theorem dX3_priceOf_24 : decode cX3_priceOf 24 = .ok (.ireturn, 1) := by decide +kernel
theorem dX3_suspectOf_0 : decode cX3_suspectOf 0 = .ok (.iconst (-1), 1) := by decide +kernel
theorem dX3_suspectOf_1 : decode cX3_suspectOf 1 = .ok (.istore_n 2, 1) := by decide +kernel
theorem dX3_suspectOf_2 : decode cX3_suspectOf 2 = .ok (.iconst 0, 1) := by decide +kernel
theorem dX3_suspectOf_3 : decode cX3_suspectOf 3 = .ok (.istore_n 3, 1) := by decide +kernel
theorem dX3_suspectOf_4 : decode cX3_suspectOf 4 = .ok (.iconst 0, 1) := by decide +kernel
theorem dX3_suspectOf_5 : decode cX3_suspectOf 5 = .ok (.istore 4, 2) := by decide +kernel
theorem dX3_suspectOf_7 : decode cX3_suspectOf 7 = .ok (.iload 4, 2) := by decide +kernel
theorem dX3_suspectOf_9 : decode cX3_suspectOf 9 = .ok (.aload_n 0, 1) := by decide +kernel
theorem dX3_suspectOf_10 : decode cX3_suspectOf 10 = .ok (.getfield 16, 3) := by decide +kernel
theorem dX3_suspectOf_13 : decode cX3_suspectOf 13 = .ok (.invokevirtual 43, 3) := by decide +kernel
theorem dX3_suspectOf_16 : decode cX3_suspectOf 16 = .ok (.if_icmp .ge 77, 3) := by decide +kernel
theorem dX3_suspectOf_19 : decode cX3_suspectOf 19 = .ok (.aload_n 0, 1) := by decide +kernel
theorem dX3_suspectOf_20 : decode cX3_suspectOf 20 = .ok (.getfield 16, 3) := by decide +kernel
theorem dX3_suspectOf_23 : decode cX3_suspectOf 23 = .ok (.iload 4, 2) := by decide +kernel
theorem dX3_suspectOf_25 : decode cX3_suspectOf 25 = .ok (.invokevirtual 327, 3) := by decide +kernel
theorem dX3_suspectOf_28 : decode cX3_suspectOf 28 = .ok (.checkcast 65, 3) := by decide +kernel
theorem dX3_suspectOf_31 : decode cX3_suspectOf 31 = .ok (.astore 5, 2) := by decide +kernel
theorem dX3_suspectOf_33 : decode cX3_suspectOf 33 = .ok (.aload 5, 2) := by decide +kernel
theorem dX3_suspectOf_35 : decode cX3_suspectOf 35 = .ok (.getfield 411, 3) := by decide +kernel
theorem dX3_suspectOf_38 : decode cX3_suspectOf 38 = .ok (.aload_n 1, 1) := by decide +kernel
theorem dX3_suspectOf_39 : decode cX3_suspectOf 39 = .ok (.invokevirtual 284, 3) := by decide +kernel
theorem dX3_suspectOf_42 : decode cX3_suspectOf 42 = .ok (.isub, 1) := by decide +kernel
theorem dX3_suspectOf_43 : decode cX3_suspectOf 43 = .ok (.invokestatic 299, 3) := by decide +kernel
theorem dX3_suspectOf_46 : decode cX3_suspectOf 46 = .ok (.aload 5, 2) := by decide +kernel
theorem dX3_suspectOf_48 : decode cX3_suspectOf 48 = .ok (.getfield 414, 3) := by decide +kernel
theorem dX3_suspectOf_51 : decode cX3_suspectOf 51 = .ok (.aload_n 1, 1) := by decide +kernel
theorem dX3_suspectOf_52 : decode cX3_suspectOf 52 = .ok (.invokevirtual 287, 3) := by decide +kernel
theorem dX3_suspectOf_55 : decode cX3_suspectOf 55 = .ok (.isub, 1) := by decide +kernel
theorem dX3_suspectOf_56 : decode cX3_suspectOf 56 = .ok (.invokestatic 299, 3) := by decide +kernel
theorem dX3_suspectOf_59 : decode cX3_suspectOf 59 = .ok (.iadd, 1) := by decide +kernel
theorem dX3_suspectOf_60 : decode cX3_suspectOf 60 = .ok (.istore 6, 2) := by decide +kernel
theorem dX3_suspectOf_62 : decode cX3_suspectOf 62 = .ok (.aload 5, 2) := by decide +kernel
theorem dX3_suspectOf_64 : decode cX3_suspectOf 64 = .ok (.getfield 246, 3) := by decide +kernel
theorem dX3_suspectOf_67 : decode cX3_suspectOf 67 = .ok (.ifCond .eq 20, 3) := by decide +kernel
theorem dX3_suspectOf_70 : decode cX3_suspectOf 70 = .ok (.iload_n 2, 1) := by decide +kernel
theorem dX3_suspectOf_71 : decode cX3_suspectOf 71 = .ok (.iconst (-1), 1) := by decide +kernel
theorem dX3_suspectOf_72 : decode cX3_suspectOf 72 = .ok (.if_icmp .eq 9, 3) := by decide +kernel
theorem dX3_suspectOf_75 : decode cX3_suspectOf 75 = .ok (.iload 6, 2) := by decide +kernel
theorem dX3_suspectOf_77 : decode cX3_suspectOf 77 = .ok (.iload_n 3, 1) := by decide +kernel
theorem dX3_suspectOf_78 : decode cX3_suspectOf 78 = .ok (.if_icmp .ge 9, 3) := by decide +kernel
theorem dX3_suspectOf_81 : decode cX3_suspectOf 81 = .ok (.iload 4, 2) := by decide +kernel
theorem dX3_suspectOf_83 : decode cX3_suspectOf 83 = .ok (.istore_n 2, 1) := by decide +kernel
theorem dX3_suspectOf_84 : decode cX3_suspectOf 84 = .ok (.iload 6, 2) := by decide +kernel
theorem dX3_suspectOf_86 : decode cX3_suspectOf 86 = .ok (.istore_n 3, 1) := by decide +kernel
theorem dX3_suspectOf_87 : decode cX3_suspectOf 87 = .ok (.iinc 4 1, 3) := by decide +kernel
theorem dX3_suspectOf_90 : decode cX3_suspectOf 90 = .ok (.goto (-83), 3) := by decide +kernel
theorem dX3_suspectOf_93 : decode cX3_suspectOf 93 = .ok (.iload_n 2, 1) := by decide +kernel
theorem dX3_suspectOf_94 : decode cX3_suspectOf 94 = .ok (.ireturn, 1) := by decide +kernel
theorem dX3_isToBuff_0 : decode cX3_isToBuff 0 = .ok (.aload_n 1, 1) := by decide +kernel
theorem dX3_isToBuff_1 : decode cX3_isToBuff 1 = .ok (.getfield 161, 3) := by decide +kernel
theorem dX3_isToBuff_4 : decode cX3_isToBuff 4 = .ok (.iload_n 2, 1) := by decide +kernel
theorem dX3_isToBuff_5 : decode cX3_isToBuff 5 = .ok (.aaload, 1) := by decide +kernel
theorem dX3_isToBuff_6 : decode cX3_isToBuff 6 = .ok (.astore_n 3, 1) := by decide +kernel
theorem dX3_isToBuff_7 : decode cX3_isToBuff 7 = .ok (.aload_n 3, 1) := by decide +kernel
theorem dX3_isToBuff_8 : decode cX3_isToBuff 8 = .ok (.ifnull 26, 3) := by decide +kernel
theorem dX3_isToBuff_11 : decode cX3_isToBuff 11 = .ok (.aload_n 3, 1) := by decide +kernel
theorem dX3_isToBuff_12 : decode cX3_isToBuff 12 = .ok (.getfield 130, 3) := by decide +kernel
theorem dX3_isToBuff_15 : decode cX3_isToBuff 15 = .ok (.ifCond .eq 15, 3) := by decide +kernel
theorem dX3_isToBuff_18 : decode cX3_isToBuff 18 = .ok (.aload_n 0, 1) := by decide +kernel
theorem dX3_isToBuff_19 : decode cX3_isToBuff 19 = .ok (.aload_n 3, 1) := by decide +kernel
theorem dX3_isToBuff_20 : decode cX3_isToBuff 20 = .ok (.getfield 172, 3) := by decide +kernel
theorem dX3_isToBuff_23 : decode cX3_isToBuff 23 = .ok (.aload_n 1, 1) := by decide +kernel
theorem dX3_isToBuff_24 : decode cX3_isToBuff 24 = .ok (.invokevirtual 126, 3) := by decide +kernel
theorem dX3_isToBuff_27 : decode cX3_isToBuff 27 = .ok (.ifCond .ne 7, 3) := by decide +kernel
theorem dX3_isToBuff_30 : decode cX3_isToBuff 30 = .ok (.iconst 1, 1) := by decide +kernel
theorem dX3_isToBuff_31 : decode cX3_isToBuff 31 = .ok (.goto 4, 3) := by decide +kernel
theorem dX3_isToBuff_34 : decode cX3_isToBuff 34 = .ok (.iconst 0, 1) := by decide +kernel
theorem dX3_isToBuff_35 : decode cX3_isToBuff 35 = .ok (.ireturn, 1) := by decide +kernel
theorem dX3_cellsToBuff_0 : decode cX3_cellsToBuff 0 = .ok (.iconst 0, 1) := by decide +kernel
theorem dX3_cellsToBuff_1 : decode cX3_cellsToBuff 1 = .ok (.istore_n 2, 1) := by decide +kernel
theorem dX3_cellsToBuff_2 : decode cX3_cellsToBuff 2 = .ok (.iconst 0, 1) := by decide +kernel
theorem dX3_cellsToBuff_3 : decode cX3_cellsToBuff 3 = .ok (.istore_n 3, 1) := by decide +kernel
theorem dX3_cellsToBuff_4 : decode cX3_cellsToBuff 4 = .ok (.iload_n 3, 1) := by decide +kernel
theorem dX3_cellsToBuff_5 : decode cX3_cellsToBuff 5 = .ok (.aload_n 1, 1) := by decide +kernel
theorem dX3_cellsToBuff_6 : decode cX3_cellsToBuff 6 = .ok (.getfield 154, 3) := by decide +kernel
theorem dX3_cellsToBuff_9 : decode cX3_cellsToBuff 9 = .ok (.if_icmp .ge 21, 3) := by decide +kernel
theorem dX3_cellsToBuff_12 : decode cX3_cellsToBuff 12 = .ok (.aload_n 0, 1) := by decide +kernel
theorem dX3_cellsToBuff_13 : decode cX3_cellsToBuff 13 = .ok (.aload_n 1, 1) := by decide +kernel
theorem dX3_cellsToBuff_14 : decode cX3_cellsToBuff 14 = .ok (.iload_n 3, 1) := by decide +kernel
theorem dX3_cellsToBuff_15 : decode cX3_cellsToBuff 15 = .ok (.invokevirtual 157, 3) := by decide +kernel
theorem dX3_cellsToBuff_18 : decode cX3_cellsToBuff 18 = .ok (.ifCond .eq 6, 3) := by decide +kernel
theorem dX3_cellsToBuff_21 : decode cX3_cellsToBuff 21 = .ok (.iinc 2 1, 3) := by decide +kernel
theorem dX3_cellsToBuff_24 : decode cX3_cellsToBuff 24 = .ok (.iinc 3 1, 3) := by decide +kernel
theorem dX3_cellsToBuff_27 : decode cX3_cellsToBuff 27 = .ok (.goto (-23), 3) := by decide +kernel
theorem dX3_cellsToBuff_30 : decode cX3_cellsToBuff 30 = .ok (.iload_n 2, 1) := by decide +kernel
theorem dX3_cellsToBuff_31 : decode cX3_cellsToBuff 31 = .ok (.ireturn, 1) := by decide +kernel
theorem dX3_eyesoreOf_0 : decode cX3_eyesoreOf 0 = .ok (.aload_n 1, 1) := by decide +kernel
theorem dX3_eyesoreOf_1 : decode cX3_eyesoreOf 1 = .ok (.getfield 218, 3) := by decide +kernel
theorem dX3_eyesoreOf_4 : decode cX3_eyesoreOf 4 = .ok (.aload_n 0, 1) := by decide +kernel
theorem dX3_eyesoreOf_5 : decode cX3_eyesoreOf 5 = .ok (.aload_n 1, 1) := by decide +kernel
theorem dX3_eyesoreOf_6 : decode cX3_eyesoreOf 6 = .ok (.invokevirtual 148, 3) := by decide +kernel
theorem dX3_eyesoreOf_9 : decode cX3_eyesoreOf 9 = .ok (.imul, 1) := by decide +kernel
theorem dX3_eyesoreOf_10 : decode cX3_eyesoreOf 10 = .ok (.ireturn, 1) := by decide +kernel
theorem dX3_goOneNightOn_0 : decode cX3_goOneNightOn 0 = .ok (.aload_n 0, 1) := by decide +kernel
theorem dX3_goOneNightOn_1 : decode cX3_goOneNightOn 1 = .ok (.dup, 1) := by decide +kernel
theorem dX3_goOneNightOn_2 : decode cX3_goOneNightOn 2 = .ok (.getfield 22, 3) := by decide +kernel
theorem dX3_goOneNightOn_5 : decode cX3_goOneNightOn 5 = .ok (.iconst 1, 1) := by decide +kernel
theorem dX3_goOneNightOn_6 : decode cX3_goOneNightOn 6 = .ok (.iadd, 1) := by decide +kernel
theorem dX3_goOneNightOn_7 : decode cX3_goOneNightOn 7 = .ok (.putfield 22, 3) := by decide +kernel
theorem dX3_goOneNightOn_10 : decode cX3_goOneNightOn 10 = .ok (.aload_n 0, 1) := by decide +kernel
theorem dX3_goOneNightOn_11 : decode cX3_goOneNightOn 11 = .ok (.dup, 1) := by decide +kernel
theorem dX3_goOneNightOn_12 : decode cX3_goOneNightOn 12 = .ok (.getfield 26, 3) := by decide +kernel
theorem dX3_goOneNightOn_15 : decode cX3_goOneNightOn 15 = .ok (.iconst 5, 1) := by decide +kernel
theorem dX3_goOneNightOn_16 : decode cX3_goOneNightOn 16 = .ok (.iadd, 1) := by decide +kernel
theorem dX3_goOneNightOn_17 : decode cX3_goOneNightOn 17 = .ok (.putfield 26, 3) := by decide +kernel
theorem dX3_goOneNightOn_20 : decode cX3_goOneNightOn 20 = .ok (.iconst 0, 1) := by decide +kernel
theorem dX3_goOneNightOn_21 : decode cX3_goOneNightOn 21 = .ok (.istore_n 1, 1) := by decide +kernel
theorem dX3_goOneNightOn_22 : decode cX3_goOneNightOn 22 = .ok (.iload_n 1, 1) := by decide +kernel
theorem dX3_goOneNightOn_23 : decode cX3_goOneNightOn 23 = .ok (.aload_n 0, 1) := by decide +kernel
theorem dX3_goOneNightOn_24 : decode cX3_goOneNightOn 24 = .ok (.getfield 16, 3) := by decide +kernel
theorem dX3_goOneNightOn_27 : decode cX3_goOneNightOn 27 = .ok (.invokevirtual 43, 3) := by decide +kernel
theorem dX3_goOneNightOn_30 : decode cX3_goOneNightOn 30 = .ok (.if_icmp .ge 24, 3) := by decide +kernel
theorem dX3_goOneNightOn_33 : decode cX3_goOneNightOn 33 = .ok (.aload_n 0, 1) := by decide +kernel
theorem dX3_goOneNightOn_34 : decode cX3_goOneNightOn 34 = .ok (.getfield 16, 3) := by decide +kernel
theorem dX3_goOneNightOn_37 : decode cX3_goOneNightOn 37 = .ok (.iload_n 1, 1) := by decide +kernel
theorem dX3_goOneNightOn_38 : decode cX3_goOneNightOn 38 = .ok (.invokevirtual 327, 3) := by decide +kernel
theorem dX3_goOneNightOn_41 : decode cX3_goOneNightOn 41 = .ok (.checkcast 65, 3) := by decide +kernel
theorem dX3_goOneNightOn_44 : decode cX3_goOneNightOn 44 = .ok (.iconst 0, 1) := by decide +kernel
theorem dX3_goOneNightOn_45 : decode cX3_goOneNightOn 45 = .ok (.putfield 134, 3) := by decide +kernel
theorem dX3_goOneNightOn_48 : decode cX3_goOneNightOn 48 = .ok (.iinc 1 1, 3) := by decide +kernel
theorem dX3_goOneNightOn_51 : decode cX3_goOneNightOn 51 = .ok (.goto (-29), 3) := by decide +kernel
theorem dX3_goOneNightOn_54 : decode cX3_goOneNightOn 54 = .ok (.iconst 0, 1) := by decide +kernel
theorem dX3_goOneNightOn_55 : decode cX3_goOneNightOn 55 = .ok (.istore_n 1, 1) := by decide +kernel
theorem dX3_goOneNightOn_56 : decode cX3_goOneNightOn 56 = .ok (.iconst 0, 1) := by decide +kernel
theorem dX3_goOneNightOn_57 : decode cX3_goOneNightOn 57 = .ok (.istore_n 2, 1) := by decide +kernel
theorem dX3_goOneNightOn_58 : decode cX3_goOneNightOn 58 = .ok (.iload_n 2, 1) := by decide +kernel
theorem dX3_goOneNightOn_59 : decode cX3_goOneNightOn 59 = .ok (.aload_n 0, 1) := by decide +kernel
theorem dX3_goOneNightOn_60 : decode cX3_goOneNightOn 60 = .ok (.getfield 10, 3) := by decide +kernel
theorem dX3_goOneNightOn_63 : decode cX3_goOneNightOn 63 = .ok (.invokevirtual 43, 3) := by decide +kernel
theorem dX3_goOneNightOn_66 : decode cX3_goOneNightOn 66 = .ok (.if_icmp .ge 43, 3) := by decide +kernel
theorem dX3_goOneNightOn_69 : decode cX3_goOneNightOn 69 = .ok (.aload_n 0, 1) := by decide +kernel
theorem dX3_goOneNightOn_70 : decode cX3_goOneNightOn 70 = .ok (.getfield 10, 3) := by decide +kernel
theorem dX3_goOneNightOn_73 : decode cX3_goOneNightOn 73 = .ok (.iload_n 2, 1) := by decide +kernel
theorem dX3_goOneNightOn_74 : decode cX3_goOneNightOn 74 = .ok (.invokevirtual 327, 3) := by decide +kernel
theorem dX3_goOneNightOn_77 : decode cX3_goOneNightOn 77 = .ok (.checkcast 52, 3) := by decide +kernel
theorem dX3_goOneNightOn_80 : decode cX3_goOneNightOn 80 = .ok (.astore_n 3, 1) := by decide +kernel
theorem dX3_goOneNightOn_81 : decode cX3_goOneNightOn 81 = .ok (.aload_n 3, 1) := by decide +kernel
theorem dX3_goOneNightOn_82 : decode cX3_goOneNightOn 82 = .ok (.aload_n 0, 1) := by decide +kernel
theorem dX3_goOneNightOn_83 : decode cX3_goOneNightOn 83 = .ok (.getfield 22, 3) := by decide +kernel
theorem dX3_goOneNightOn_86 : decode cX3_goOneNightOn 86 = .ok (.invokevirtual 417, 3) := by decide +kernel
theorem dX3_goOneNightOn_89 : decode cX3_goOneNightOn 89 = .ok (.ifCond .eq 14, 3) := by decide +kernel
theorem dX3_goOneNightOn_92 : decode cX3_goOneNightOn 92 = .ok (.iload_n 1, 1) := by decide +kernel
theorem dX3_goOneNightOn_93 : decode cX3_goOneNightOn 93 = .ok (.aload_n 3, 1) := by decide +kernel
theorem dX3_goOneNightOn_94 : decode cX3_goOneNightOn 94 = .ok (.invokevirtual 224, 3) := by decide +kernel
theorem dX3_goOneNightOn_97 : decode cX3_goOneNightOn 97 = .ok (.iadd, 1) := by decide +kernel
theorem dX3_goOneNightOn_98 : decode cX3_goOneNightOn 98 = .ok (.istore_n 1, 1) := by decide +kernel
theorem dX3_goOneNightOn_99 : decode cX3_goOneNightOn 99 = .ok (.aload_n 3, 1) := by decide +kernel
theorem dX3_goOneNightOn_100 : decode cX3_goOneNightOn 100 = .ok (.invokevirtual 179, 3) := by decide +kernel
theorem dX3_goOneNightOn_103 : decode cX3_goOneNightOn 103 = .ok (.iinc 2 1, 3) := by decide +kernel
theorem dX3_goOneNightOn_106 : decode cX3_goOneNightOn 106 = .ok (.goto (-48), 3) := by decide +kernel
theorem dX3_goOneNightOn_109 : decode cX3_goOneNightOn 109 = .ok (.iload_n 1, 1) := by decide +kernel
theorem dX3_goOneNightOn_110 : decode cX3_goOneNightOn 110 = .ok (.ireturn, 1) := by decide +kernel
theorem dX3_willBeCleaned_0 : decode cX3_willBeCleaned 0 = .ok (.iconst 1, 1) := by decide +kernel
theorem dX3_willBeCleaned_1 : decode cX3_willBeCleaned 1 = .ok (.istore_n 3, 1) := by decide +kernel
theorem dX3_willBeCleaned_2 : decode cX3_willBeCleaned 2 = .ok (.iload_n 3, 1) := by decide +kernel
theorem dX3_willBeCleaned_3 : decode cX3_willBeCleaned 3 = .ok (.iload_n 2, 1) := by decide +kernel
theorem dX3_willBeCleaned_4 : decode cX3_willBeCleaned 4 = .ok (.if_icmp .gt 24, 3) := by decide +kernel
theorem dX3_willBeCleaned_7 : decode cX3_willBeCleaned 7 = .ok (.aload_n 1, 1) := by decide +kernel
theorem dX3_willBeCleaned_8 : decode cX3_willBeCleaned 8 = .ok (.aload_n 0, 1) := by decide +kernel
theorem dX3_willBeCleaned_9 : decode cX3_willBeCleaned 9 = .ok (.getfield 22, 3) := by decide +kernel
theorem dX3_willBeCleaned_12 : decode cX3_willBeCleaned 12 = .ok (.iload_n 3, 1) := by decide +kernel
theorem dX3_willBeCleaned_13 : decode cX3_willBeCleaned 13 = .ok (.iadd, 1) := by decide +kernel
theorem dX3_willBeCleaned_14 : decode cX3_willBeCleaned 14 = .ok (.invokevirtual 417, 3) := by decide +kernel
theorem dX3_willBeCleaned_17 : decode cX3_willBeCleaned 17 = .ok (.ifCond .eq 5, 3) := by decide +kernel
theorem dX3_willBeCleaned_20 : decode cX3_willBeCleaned 20 = .ok (.iconst 1, 1) := by decide +kernel
theorem dX3_willBeCleaned_21 : decode cX3_willBeCleaned 21 = .ok (.ireturn, 1) := by decide +kernel
theorem dX3_willBeCleaned_22 : decode cX3_willBeCleaned 22 = .ok (.iinc 3 1, 3) := by decide +kernel
theorem dX3_willBeCleaned_25 : decode cX3_willBeCleaned 25 = .ok (.goto (-23), 3) := by decide +kernel
theorem dX3_willBeCleaned_28 : decode cX3_willBeCleaned 28 = .ok (.iconst 0, 1) := by decide +kernel
theorem dX3_willBeCleaned_29 : decode cX3_willBeCleaned 29 = .ok (.ireturn, 1) := by decide +kernel
theorem dX3_layersSeenOn_0 : decode cX3_layersSeenOn 0 = .ok (.iconst 0, 1) := by decide +kernel
theorem dX3_layersSeenOn_1 : decode cX3_layersSeenOn 1 = .ok (.istore_n 2, 1) := by decide +kernel
theorem dX3_layersSeenOn_2 : decode cX3_layersSeenOn 2 = .ok (.iconst 0, 1) := by decide +kernel
theorem dX3_layersSeenOn_3 : decode cX3_layersSeenOn 3 = .ok (.istore_n 3, 1) := by decide +kernel
theorem dX3_layersSeenOn_4 : decode cX3_layersSeenOn 4 = .ok (.iload_n 3, 1) := by decide +kernel
theorem dX3_layersSeenOn_5 : decode cX3_layersSeenOn 5 = .ok (.aload_n 0, 1) := by decide +kernel
theorem dX3_layersSeenOn_6 : decode cX3_layersSeenOn 6 = .ok (.getfield 19, 3) := by decide +kernel
theorem dX3_layersSeenOn_9 : decode cX3_layersSeenOn 9 = .ok (.invokevirtual 43, 3) := by decide +kernel
theorem dX3_layersSeenOn_12 : decode cX3_layersSeenOn 12 = .ok (.if_icmp .ge 42, 3) := by decide +kernel
theorem dX3_layersSeenOn_15 : decode cX3_layersSeenOn 15 = .ok (.aload_n 0, 1) := by decide +kernel
theorem dX3_layersSeenOn_16 : decode cX3_layersSeenOn 16 = .ok (.getfield 19, 3) := by decide +kernel
theorem dX3_layersSeenOn_19 : decode cX3_layersSeenOn 19 = .ok (.iload_n 3, 1) := by decide +kernel
theorem dX3_layersSeenOn_20 : decode cX3_layersSeenOn 20 = .ok (.invokevirtual 327, 3) := by decide +kernel
theorem dX3_layersSeenOn_23 : decode cX3_layersSeenOn 23 = .ok (.checkcast 118, 3) := by decide +kernel
theorem dX3_layersSeenOn_26 : decode cX3_layersSeenOn 26 = .ok (.astore 4, 2) := by decide +kernel
theorem dX3_layersSeenOn_28 : decode cX3_layersSeenOn 28 = .ok (.aload 4, 2) := by decide +kernel
theorem dX3_layersSeenOn_30 : decode cX3_layersSeenOn 30 = .ok (.getfield 195, 3) := by decide +kernel
theorem dX3_layersSeenOn_33 : decode cX3_layersSeenOn 33 = .ok (.aload_n 1, 1) := by decide +kernel
theorem dX3_layersSeenOn_34 : decode cX3_layersSeenOn 34 = .ok (.if_acmp .ne 14, 3) := by decide +kernel
theorem dX3_layersSeenOn_37 : decode cX3_layersSeenOn 37 = .ok (.aload 4, 2) := by decide +kernel
theorem dX3_layersSeenOn_39 : decode cX3_layersSeenOn 39 = .ok (.invokevirtual 186, 3) := by decide +kernel
theorem dX3_layersSeenOn_42 : decode cX3_layersSeenOn 42 = .ok (.ifCond .eq 6, 3) := by decide +kernel
theorem dX3_layersSeenOn_45 : decode cX3_layersSeenOn 45 = .ok (.iinc 2 1, 3) := by decide +kernel
theorem dX3_layersSeenOn_48 : decode cX3_layersSeenOn 48 = .ok (.iinc 3 1, 3) := by decide +kernel
theorem dX3_layersSeenOn_51 : decode cX3_layersSeenOn 51 = .ok (.goto (-47), 3) := by decide +kernel
theorem dX3_layersSeenOn_54 : decode cX3_layersSeenOn 54 = .ok (.iload_n 2, 1) := by decide +kernel
theorem dX3_layersSeenOn_55 : decode cX3_layersSeenOn 55 = .ok (.ireturn, 1) := by decide +kernel
theorem dX3_layersOf_0 : decode cX3_layersOf 0 = .ok (.iconst 0, 1) := by decide +kernel
theorem dX3_layersOf_1 : decode cX3_layersOf 1 = .ok (.istore_n 2, 1) := by decide +kernel
theorem dX3_layersOf_2 : decode cX3_layersOf 2 = .ok (.iconst 0, 1) := by decide +kernel
theorem dX3_layersOf_3 : decode cX3_layersOf 3 = .ok (.istore_n 3, 1) := by decide +kernel
theorem dX3_layersOf_4 : decode cX3_layersOf 4 = .ok (.iload_n 3, 1) := by decide +kernel
theorem dX3_layersOf_5 : decode cX3_layersOf 5 = .ok (.aload_n 0, 1) := by decide +kernel
theorem dX3_layersOf_6 : decode cX3_layersOf 6 = .ok (.getfield 19, 3) := by decide +kernel
theorem dX3_layersOf_9 : decode cX3_layersOf 9 = .ok (.invokevirtual 43, 3) := by decide +kernel
theorem dX3_layersOf_12 : decode cX3_layersOf 12 = .ok (.if_icmp .ge 30, 3) := by decide +kernel
theorem dX3_layersOf_15 : decode cX3_layersOf 15 = .ok (.aload_n 0, 1) := by decide +kernel
theorem dX3_layersOf_16 : decode cX3_layersOf 16 = .ok (.getfield 19, 3) := by decide +kernel
theorem dX3_layersOf_19 : decode cX3_layersOf 19 = .ok (.iload_n 3, 1) := by decide +kernel
theorem dX3_layersOf_20 : decode cX3_layersOf 20 = .ok (.invokevirtual 327, 3) := by decide +kernel
theorem dX3_layersOf_23 : decode cX3_layersOf 23 = .ok (.checkcast 118, 3) := by decide +kernel
theorem dX3_layersOf_26 : decode cX3_layersOf 26 = .ok (.getfield 172, 3) := by decide +kernel
theorem dX3_layersOf_29 : decode cX3_layersOf 29 = .ok (.aload_n 1, 1) := by decide +kernel
theorem dX3_layersOf_30 : decode cX3_layersOf 30 = .ok (.if_acmp .ne 6, 3) := by decide +kernel
theorem dX3_layersOf_33 : decode cX3_layersOf 33 = .ok (.iinc 2 1, 3) := by decide +kernel
theorem dX3_layersOf_36 : decode cX3_layersOf 36 = .ok (.iinc 3 1, 3) := by decide +kernel
theorem dX3_layersOf_39 : decode cX3_layersOf 39 = .ok (.goto (-35), 3) := by decide +kernel
theorem dX3_layersOf_42 : decode cX3_layersOf 42 = .ok (.iload_n 2, 1) := by decide +kernel
theorem dX3_layersOf_43 : decode cX3_layersOf 43 = .ok (.ireturn, 1) := by decide +kernel
theorem dX3_layersSeenOf_0 : decode cX3_layersSeenOf 0 = .ok (.iconst 0, 1) := by decide +kernel
theorem dX3_layersSeenOf_1 : decode cX3_layersSeenOf 1 = .ok (.istore_n 2, 1) := by decide +kernel
theorem dX3_layersSeenOf_2 : decode cX3_layersSeenOf 2 = .ok (.iconst 0, 1) := by decide +kernel
theorem dX3_layersSeenOf_3 : decode cX3_layersSeenOf 3 = .ok (.istore_n 3, 1) := by decide +kernel
theorem dX3_layersSeenOf_4 : decode cX3_layersSeenOf 4 = .ok (.iload_n 3, 1) := by decide +kernel
theorem dX3_layersSeenOf_5 : decode cX3_layersSeenOf 5 = .ok (.aload_n 0, 1) := by decide +kernel
theorem dX3_layersSeenOf_6 : decode cX3_layersSeenOf 6 = .ok (.getfield 19, 3) := by decide +kernel
theorem dX3_layersSeenOf_9 : decode cX3_layersSeenOf 9 = .ok (.invokevirtual 43, 3) := by decide +kernel
theorem dX3_layersSeenOf_12 : decode cX3_layersSeenOf 12 = .ok (.if_icmp .ge 42, 3) := by decide +kernel
theorem dX3_layersSeenOf_15 : decode cX3_layersSeenOf 15 = .ok (.aload_n 0, 1) := by decide +kernel
theorem dX3_layersSeenOf_16 : decode cX3_layersSeenOf 16 = .ok (.getfield 19, 3) := by decide +kernel
theorem dX3_layersSeenOf_19 : decode cX3_layersSeenOf 19 = .ok (.iload_n 3, 1) := by decide +kernel
theorem dX3_layersSeenOf_20 : decode cX3_layersSeenOf 20 = .ok (.invokevirtual 327, 3) := by decide +kernel
theorem dX3_layersSeenOf_23 : decode cX3_layersSeenOf 23 = .ok (.checkcast 118, 3) := by decide +kernel
theorem dX3_layersSeenOf_26 : decode cX3_layersSeenOf 26 = .ok (.astore 4, 2) := by decide +kernel
theorem dX3_layersSeenOf_28 : decode cX3_layersSeenOf 28 = .ok (.aload 4, 2) := by decide +kernel
theorem dX3_layersSeenOf_30 : decode cX3_layersSeenOf 30 = .ok (.getfield 172, 3) := by decide +kernel
theorem dX3_layersSeenOf_33 : decode cX3_layersSeenOf 33 = .ok (.aload_n 1, 1) := by decide +kernel
theorem dX3_layersSeenOf_34 : decode cX3_layersSeenOf 34 = .ok (.if_acmp .ne 14, 3) := by decide +kernel
theorem dX3_layersSeenOf_37 : decode cX3_layersSeenOf 37 = .ok (.aload 4, 2) := by decide +kernel
theorem dX3_layersSeenOf_39 : decode cX3_layersSeenOf 39 = .ok (.invokevirtual 186, 3) := by decide +kernel
theorem dX3_layersSeenOf_42 : decode cX3_layersSeenOf 42 = .ok (.ifCond .eq 6, 3) := by decide +kernel
theorem dX3_layersSeenOf_45 : decode cX3_layersSeenOf 45 = .ok (.iinc 2 1, 3) := by decide +kernel
theorem dX3_layersSeenOf_48 : decode cX3_layersSeenOf 48 = .ok (.iinc 3 1, 3) := by decide +kernel
theorem dX3_layersSeenOf_51 : decode cX3_layersSeenOf 51 = .ok (.goto (-47), 3) := by decide +kernel
theorem dX3_layersSeenOf_54 : decode cX3_layersSeenOf 54 = .ok (.iload_n 2, 1) := by decide +kernel
theorem dX3_layersSeenOf_55 : decode cX3_layersSeenOf 55 = .ok (.ireturn, 1) := by decide +kernel
theorem dX3_layersSeen_0 : decode cX3_layersSeen 0 = .ok (.iconst 0, 1) := by decide +kernel
theorem dX3_layersSeen_1 : decode cX3_layersSeen 1 = .ok (.istore_n 1, 1) := by decide +kernel
theorem dX3_layersSeen_2 : decode cX3_layersSeen 2 = .ok (.iconst 0, 1) := by decide +kernel
theorem dX3_layersSeen_3 : decode cX3_layersSeen 3 = .ok (.istore_n 2, 1) := by decide +kernel
theorem dX3_layersSeen_4 : decode cX3_layersSeen 4 = .ok (.iload_n 2, 1) := by decide +kernel
theorem dX3_layersSeen_5 : decode cX3_layersSeen 5 = .ok (.aload_n 0, 1) := by decide +kernel
theorem dX3_layersSeen_6 : decode cX3_layersSeen 6 = .ok (.getfield 19, 3) := by decide +kernel
theorem dX3_layersSeen_9 : decode cX3_layersSeen 9 = .ok (.invokevirtual 43, 3) := by decide +kernel
theorem dX3_layersSeen_12 : decode cX3_layersSeen 12 = .ok (.if_icmp .ge 29, 3) := by decide +kernel
theorem dX3_layersSeen_15 : decode cX3_layersSeen 15 = .ok (.aload_n 0, 1) := by decide +kernel
theorem dX3_layersSeen_16 : decode cX3_layersSeen 16 = .ok (.getfield 19, 3) := by decide +kernel
theorem dX3_layersSeen_19 : decode cX3_layersSeen 19 = .ok (.iload_n 2, 1) := by decide +kernel
theorem dX3_layersSeen_20 : decode cX3_layersSeen 20 = .ok (.invokevirtual 327, 3) := by decide +kernel
theorem dX3_layersSeen_23 : decode cX3_layersSeen 23 = .ok (.checkcast 118, 3) := by decide +kernel
theorem dX3_layersSeen_26 : decode cX3_layersSeen 26 = .ok (.invokevirtual 186, 3) := by decide +kernel
theorem dX3_layersSeen_29 : decode cX3_layersSeen 29 = .ok (.ifCond .eq 6, 3) := by decide +kernel
theorem dX3_layersSeen_32 : decode cX3_layersSeen 32 = .ok (.iinc 1 1, 3) := by decide +kernel
theorem dX3_layersSeen_35 : decode cX3_layersSeen 35 = .ok (.iinc 2 1, 3) := by decide +kernel
theorem dX3_layersSeen_38 : decode cX3_layersSeen 38 = .ok (.goto (-34), 3) := by decide +kernel
theorem dX3_layersSeen_41 : decode cX3_layersSeen 41 = .ok (.iload_n 1, 1) := by decide +kernel
theorem dX3_layersSeen_42 : decode cX3_layersSeen 42 = .ok (.ireturn, 1) := by decide +kernel
theorem dX3_layersWithWrongSuspect_0 : decode cX3_layersWithWrongSuspect 0 = .ok (.iconst 0, 1) := by decide +kernel
theorem dX3_layersWithWrongSuspect_1 : decode cX3_layersWithWrongSuspect 1 = .ok (.istore_n 1, 1) := by decide +kernel
theorem dX3_layersWithWrongSuspect_2 : decode cX3_layersWithWrongSuspect 2 = .ok (.iconst 0, 1) := by decide +kernel
theorem dX3_layersWithWrongSuspect_3 : decode cX3_layersWithWrongSuspect 3 = .ok (.istore_n 2, 1) := by decide +kernel
theorem dX3_layersWithWrongSuspect_4 : decode cX3_layersWithWrongSuspect 4 = .ok (.iload_n 2, 1) := by decide +kernel
theorem dX3_layersWithWrongSuspect_5 : decode cX3_layersWithWrongSuspect 5 = .ok (.aload_n 0, 1) := by decide +kernel
theorem dX3_layersWithWrongSuspect_6 : decode cX3_layersWithWrongSuspect 6 = .ok (.getfield 19, 3) := by decide +kernel
theorem dX3_layersWithWrongSuspect_9 : decode cX3_layersWithWrongSuspect 9 = .ok (.invokevirtual 43, 3) := by decide +kernel
theorem dX3_layersWithWrongSuspect_12 : decode cX3_layersWithWrongSuspect 12 = .ok (.if_icmp .ge 56, 3) := by decide +kernel
theorem dX3_layersWithWrongSuspect_15 : decode cX3_layersWithWrongSuspect 15 = .ok (.aload_n 0, 1) := by decide +kernel
theorem dX3_layersWithWrongSuspect_16 : decode cX3_layersWithWrongSuspect 16 = .ok (.getfield 19, 3) := by decide +kernel
theorem dX3_layersWithWrongSuspect_19 : decode cX3_layersWithWrongSuspect 19 = .ok (.iload_n 2, 1) := by decide +kernel
theorem dX3_layersWithWrongSuspect_20 : decode cX3_layersWithWrongSuspect 20 = .ok (.invokevirtual 327, 3) := by decide +kernel
theorem dX3_layersWithWrongSuspect_23 : decode cX3_layersWithWrongSuspect 23 = .ok (.checkcast 118, 3) := by decide +kernel
theorem dX3_layersWithWrongSuspect_26 : decode cX3_layersWithWrongSuspect 26 = .ok (.astore_n 3, 1) := by decide +kernel
theorem dX3_layersWithWrongSuspect_27 : decode cX3_layersWithWrongSuspect 27 = .ok (.aload_n 0, 1) := by decide +kernel
theorem dX3_layersWithWrongSuspect_28 : decode cX3_layersWithWrongSuspect 28 = .ok (.aload_n 3, 1) := by decide +kernel
theorem dX3_layersWithWrongSuspect_29 : decode cX3_layersWithWrongSuspect 29 = .ok (.invokevirtual 290, 3) := by decide +kernel
theorem dX3_layersWithWrongSuspect_32 : decode cX3_layersWithWrongSuspect 32 = .ok (.istore 4, 2) := by decide +kernel
theorem dX3_layersWithWrongSuspect_34 : decode cX3_layersWithWrongSuspect 34 = .ok (.aload_n 3, 1) := by decide +kernel
theorem dX3_layersWithWrongSuspect_35 : decode cX3_layersWithWrongSuspect 35 = .ok (.invokevirtual 186, 3) := by decide +kernel
theorem dX3_layersWithWrongSuspect_38 : decode cX3_layersWithWrongSuspect 38 = .ok (.ifCond .eq 24, 3) := by decide +kernel
theorem dX3_layersWithWrongSuspect_41 : decode cX3_layersWithWrongSuspect 41 = .ok (.iload 4, 2) := by decide +kernel
theorem dX3_layersWithWrongSuspect_43 : decode cX3_layersWithWrongSuspect 43 = .ok (.iconst (-1), 1) := by decide +kernel
theorem dX3_layersWithWrongSuspect_44 : decode cX3_layersWithWrongSuspect 44 = .ok (.if_icmp .eq 18, 3) := by decide +kernel
theorem dX3_layersWithWrongSuspect_47 : decode cX3_layersWithWrongSuspect 47 = .ok (.iload 4, 2) := by decide +kernel
theorem dX3_layersWithWrongSuspect_49 : decode cX3_layersWithWrongSuspect 49 = .ok (.aload_n 3, 1) := by decide +kernel
theorem dX3_layersWithWrongSuspect_50 : decode cX3_layersWithWrongSuspect 50 = .ok (.getfield 172, 3) := by decide +kernel
theorem dX3_layersWithWrongSuspect_53 : decode cX3_layersWithWrongSuspect 53 = .ok (.getfield 270, 3) := by decide +kernel
theorem dX3_layersWithWrongSuspect_56 : decode cX3_layersWithWrongSuspect 56 = .ok (.if_icmp .eq 6, 3) := by decide +kernel
theorem dX3_layersWithWrongSuspect_59 : decode cX3_layersWithWrongSuspect 59 = .ok (.iinc 1 1, 3) := by decide +kernel
theorem dX3_layersWithWrongSuspect_62 : decode cX3_layersWithWrongSuspect 62 = .ok (.iinc 2 1, 3) := by decide +kernel
theorem dX3_layersWithWrongSuspect_65 : decode cX3_layersWithWrongSuspect 65 = .ok (.goto (-61), 3) := by decide +kernel
theorem dX3_layersWithWrongSuspect_68 : decode cX3_layersWithWrongSuspect 68 = .ok (.iload_n 1, 1) := by decide +kernel
theorem dX3_layersWithWrongSuspect_69 : decode cX3_layersWithWrongSuspect 69 = .ok (.ireturn, 1) := by decide +kernel
theorem dX3_wrongsSufferedBy_0 : decode cX3_wrongsSufferedBy 0 = .ok (.iconst 0, 1) := by decide +kernel
theorem dX3_wrongsSufferedBy_1 : decode cX3_wrongsSufferedBy 1 = .ok (.istore_n 2, 1) := by decide +kernel
theorem dX3_wrongsSufferedBy_2 : decode cX3_wrongsSufferedBy 2 = .ok (.iconst 0, 1) := by decide +kernel
theorem dX3_wrongsSufferedBy_3 : decode cX3_wrongsSufferedBy 3 = .ok (.istore_n 3, 1) := by decide +kernel
theorem dX3_wrongsSufferedBy_4 : decode cX3_wrongsSufferedBy 4 = .ok (.iload_n 3, 1) := by decide +kernel
theorem dX3_wrongsSufferedBy_5 : decode cX3_wrongsSufferedBy 5 = .ok (.aload_n 0, 1) := by decide +kernel
theorem dX3_wrongsSufferedBy_6 : decode cX3_wrongsSufferedBy 6 = .ok (.getfield 16, 3) := by decide +kernel
theorem dX3_wrongsSufferedBy_9 : decode cX3_wrongsSufferedBy 9 = .ok (.invokevirtual 43, 3) := by decide +kernel
theorem dX3_wrongsSufferedBy_12 : decode cX3_wrongsSufferedBy 12 = .ok (.if_icmp .ge 31, 3) := by decide +kernel
theorem dX3_wrongsSufferedBy_15 : decode cX3_wrongsSufferedBy 15 = .ok (.iload_n 2, 1) := by decide +kernel
theorem dX3_wrongsSufferedBy_16 : decode cX3_wrongsSufferedBy 16 = .ok (.aload_n 0, 1) := by decide +kernel
theorem dX3_wrongsSufferedBy_17 : decode cX3_wrongsSufferedBy 17 = .ok (.getfield 16, 3) := by decide +kernel
theorem dX3_wrongsSufferedBy_20 : decode cX3_wrongsSufferedBy 20 = .ok (.iload_n 3, 1) := by decide +kernel
theorem dX3_wrongsSufferedBy_21 : decode cX3_wrongsSufferedBy 21 = .ok (.invokevirtual 327, 3) := by decide +kernel
theorem dX3_wrongsSufferedBy_24 : decode cX3_wrongsSufferedBy 24 = .ok (.checkcast 65, 3) := by decide +kernel
theorem dX3_wrongsSufferedBy_27 : decode cX3_wrongsSufferedBy 27 = .ok (.getfield 295, 3) := by decide +kernel
theorem dX3_wrongsSufferedBy_30 : decode cX3_wrongsSufferedBy 30 = .ok (.aload_n 1, 1) := by decide +kernel
theorem dX3_wrongsSufferedBy_31 : decode cX3_wrongsSufferedBy 31 = .ok (.getfield 270, 3) := by decide +kernel
theorem dX3_wrongsSufferedBy_34 : decode cX3_wrongsSufferedBy 34 = .ok (.iaload, 1) := by decide +kernel
theorem dX3_wrongsSufferedBy_35 : decode cX3_wrongsSufferedBy 35 = .ok (.iadd, 1) := by decide +kernel
theorem dX3_wrongsSufferedBy_36 : decode cX3_wrongsSufferedBy 36 = .ok (.istore_n 2, 1) := by decide +kernel
theorem dX3_wrongsSufferedBy_37 : decode cX3_wrongsSufferedBy 37 = .ok (.iinc 3 1, 3) := by decide +kernel
theorem dX3_wrongsSufferedBy_40 : decode cX3_wrongsSufferedBy 40 = .ok (.goto (-36), 3) := by decide +kernel
theorem dX3_wrongsSufferedBy_43 : decode cX3_wrongsSufferedBy 43 = .ok (.iload_n 2, 1) := by decide +kernel
theorem dX3_wrongsSufferedBy_44 : decode cX3_wrongsSufferedBy 44 = .ok (.ireturn, 1) := by decide +kernel
theorem dX3_allWrongs_0 : decode cX3_allWrongs 0 = .ok (.iconst 0, 1) := by decide +kernel
theorem dX3_allWrongs_1 : decode cX3_allWrongs 1 = .ok (.istore_n 1, 1) := by decide +kernel
theorem dX3_allWrongs_2 : decode cX3_allWrongs 2 = .ok (.iconst 0, 1) := by decide +kernel
theorem dX3_allWrongs_3 : decode cX3_allWrongs 3 = .ok (.istore_n 2, 1) := by decide +kernel
theorem dX3_allWrongs_4 : decode cX3_allWrongs 4 = .ok (.iload_n 2, 1) := by decide +kernel
theorem dX3_allWrongs_5 : decode cX3_allWrongs 5 = .ok (.aload_n 0, 1) := by decide +kernel
theorem dX3_allWrongs_6 : decode cX3_allWrongs 6 = .ok (.getfield 16, 3) := by decide +kernel
theorem dX3_allWrongs_9 : decode cX3_allWrongs 9 = .ok (.invokevirtual 43, 3) := by decide +kernel
theorem dX3_allWrongs_12 : decode cX3_allWrongs 12 = .ok (.if_icmp .ge 26, 3) := by decide +kernel
theorem dX3_allWrongs_15 : decode cX3_allWrongs 15 = .ok (.iload_n 1, 1) := by decide +kernel
theorem dX3_allWrongs_16 : decode cX3_allWrongs 16 = .ok (.aload_n 0, 1) := by decide +kernel
theorem dX3_allWrongs_17 : decode cX3_allWrongs 17 = .ok (.getfield 16, 3) := by decide +kernel
theorem dX3_allWrongs_20 : decode cX3_allWrongs 20 = .ok (.iload_n 2, 1) := by decide +kernel
theorem dX3_allWrongs_21 : decode cX3_allWrongs 21 = .ok (.invokevirtual 327, 3) := by decide +kernel
theorem dX3_allWrongs_24 : decode cX3_allWrongs 24 = .ok (.checkcast 65, 3) := by decide +kernel
theorem dX3_allWrongs_27 : decode cX3_allWrongs 27 = .ok (.invokevirtual 259, 3) := by decide +kernel
theorem dX3_allWrongs_30 : decode cX3_allWrongs 30 = .ok (.iadd, 1) := by decide +kernel
theorem dX3_allWrongs_31 : decode cX3_allWrongs 31 = .ok (.istore_n 1, 1) := by decide +kernel
theorem dX3_allWrongs_32 : decode cX3_allWrongs 32 = .ok (.iinc 2 1, 3) := by decide +kernel
theorem dX3_allWrongs_35 : decode cX3_allWrongs 35 = .ok (.goto (-31), 3) := by decide +kernel
theorem dX3_allWrongs_38 : decode cX3_allWrongs 38 = .ok (.iload_n 1, 1) := by decide +kernel
theorem dX3_allWrongs_39 : decode cX3_allWrongs 39 = .ok (.ireturn, 1) := by decide +kernel
theorem dX3_knownHands_0 : decode cX3_knownHands 0 = .ok (.iconst 0, 1) := by decide +kernel
theorem dX3_knownHands_1 : decode cX3_knownHands 1 = .ok (.istore_n 1, 1) := by decide +kernel
theorem dX3_knownHands_2 : decode cX3_knownHands 2 = .ok (.iconst 0, 1) := by decide +kernel
theorem dX3_knownHands_3 : decode cX3_knownHands 3 = .ok (.istore_n 2, 1) := by decide +kernel
theorem dX3_knownHands_4 : decode cX3_knownHands 4 = .ok (.iload_n 2, 1) := by decide +kernel
theorem dX3_knownHands_5 : decode cX3_knownHands 5 = .ok (.aload_n 0, 1) := by decide +kernel
theorem dX3_knownHands_6 : decode cX3_knownHands 6 = .ok (.getfield 16, 3) := by decide +kernel
theorem dX3_knownHands_9 : decode cX3_knownHands 9 = .ok (.invokevirtual 43, 3) := by decide +kernel
theorem dX3_knownHands_12 : decode cX3_knownHands 12 = .ok (.if_icmp .ge 29, 3) := by decide +kernel
theorem dX3_knownHands_15 : decode cX3_knownHands 15 = .ok (.aload_n 0, 1) := by decide +kernel
theorem dX3_knownHands_16 : decode cX3_knownHands 16 = .ok (.getfield 16, 3) := by decide +kernel
theorem dX3_knownHands_19 : decode cX3_knownHands 19 = .ok (.iload_n 2, 1) := by decide +kernel
theorem dX3_knownHands_20 : decode cX3_knownHands 20 = .ok (.invokevirtual 327, 3) := by decide +kernel
theorem dX3_knownHands_23 : decode cX3_knownHands 23 = .ok (.checkcast 65, 3) := by decide +kernel
theorem dX3_knownHands_26 : decode cX3_knownHands 26 = .ok (.getfield 246, 3) := by decide +kernel
theorem dX3_knownHands_29 : decode cX3_knownHands 29 = .ok (.ifCond .eq 6, 3) := by decide +kernel
theorem dX3_knownHands_32 : decode cX3_knownHands 32 = .ok (.iinc 1 1, 3) := by decide +kernel
theorem dX3_knownHands_35 : decode cX3_knownHands 35 = .ok (.iinc 2 1, 3) := by decide +kernel
theorem dX3_knownHands_38 : decode cX3_knownHands 38 = .ok (.goto (-34), 3) := by decide +kernel
theorem dX3_knownHands_41 : decode cX3_knownHands 41 = .ok (.iload_n 1, 1) := by decide +kernel
theorem dX3_knownHands_42 : decode cX3_knownHands 42 = .ok (.ireturn, 1) := by decide +kernel
theorem dX3_allFines_0 : decode cX3_allFines 0 = .ok (.iconst 0, 1) := by decide +kernel
theorem dX3_allFines_1 : decode cX3_allFines 1 = .ok (.istore_n 1, 1) := by decide +kernel
theorem dX3_allFines_2 : decode cX3_allFines 2 = .ok (.iconst 0, 1) := by decide +kernel
theorem dX3_allFines_3 : decode cX3_allFines 3 = .ok (.istore_n 2, 1) := by decide +kernel
theorem dX3_allFines_4 : decode cX3_allFines 4 = .ok (.iload_n 2, 1) := by decide +kernel
theorem dX3_allFines_5 : decode cX3_allFines 5 = .ok (.aload_n 0, 1) := by decide +kernel
theorem dX3_allFines_6 : decode cX3_allFines 6 = .ok (.getfield 16, 3) := by decide +kernel
theorem dX3_allFines_9 : decode cX3_allFines 9 = .ok (.invokevirtual 43, 3) := by decide +kernel
theorem dX3_allFines_12 : decode cX3_allFines 12 = .ok (.if_icmp .ge 26, 3) := by decide +kernel
theorem dX3_allFines_15 : decode cX3_allFines 15 = .ok (.iload_n 1, 1) := by decide +kernel
theorem dX3_allFines_16 : decode cX3_allFines 16 = .ok (.aload_n 0, 1) := by decide +kernel
theorem dX3_allFines_17 : decode cX3_allFines 17 = .ok (.getfield 16, 3) := by decide +kernel
theorem dX3_allFines_20 : decode cX3_allFines 20 = .ok (.iload_n 2, 1) := by decide +kernel
theorem dX3_allFines_21 : decode cX3_allFines 21 = .ok (.invokevirtual 327, 3) := by decide +kernel
theorem dX3_allFines_24 : decode cX3_allFines 24 = .ok (.checkcast 65, 3) := by decide +kernel
theorem dX3_allFines_27 : decode cX3_allFines 27 = .ok (.getfield 208, 3) := by decide +kernel
theorem dX3_allFines_30 : decode cX3_allFines 30 = .ok (.iadd, 1) := by decide +kernel
theorem dX3_allFines_31 : decode cX3_allFines 31 = .ok (.istore_n 1, 1) := by decide +kernel
theorem dX3_allFines_32 : decode cX3_allFines 32 = .ok (.iinc 2 1, 3) := by decide +kernel
theorem dX3_allFines_35 : decode cX3_allFines 35 = .ok (.goto (-31), 3) := by decide +kernel
theorem dX3_allFines_38 : decode cX3_allFines 38 = .ok (.iload_n 1, 1) := by decide +kernel
theorem dX3_allFines_39 : decode cX3_allFines 39 = .ok (.ireturn, 1) := by decide +kernel
theorem dX3_allOwed_0 : decode cX3_allOwed 0 = .ok (.iconst 0, 1) := by decide +kernel
theorem dX3_allOwed_1 : decode cX3_allOwed 1 = .ok (.istore_n 1, 1) := by decide +kernel
theorem dX3_allOwed_2 : decode cX3_allOwed 2 = .ok (.iconst 0, 1) := by decide +kernel
theorem dX3_allOwed_3 : decode cX3_allOwed 3 = .ok (.istore_n 2, 1) := by decide +kernel
theorem dX3_allOwed_4 : decode cX3_allOwed 4 = .ok (.iload_n 2, 1) := by decide +kernel
theorem dX3_allOwed_5 : decode cX3_allOwed 5 = .ok (.aload_n 0, 1) := by decide +kernel
theorem dX3_allOwed_6 : decode cX3_allOwed 6 = .ok (.getfield 16, 3) := by decide +kernel
theorem dX3_allOwed_9 : decode cX3_allOwed 9 = .ok (.invokevirtual 43, 3) := by decide +kernel
theorem dX3_allOwed_12 : decode cX3_allOwed 12 = .ok (.if_icmp .ge 26, 3) := by decide +kernel
theorem dX3_allOwed_15 : decode cX3_allOwed 15 = .ok (.iload_n 1, 1) := by decide +kernel
theorem dX3_allOwed_16 : decode cX3_allOwed 16 = .ok (.aload_n 0, 1) := by decide +kernel
theorem dX3_allOwed_17 : decode cX3_allOwed 17 = .ok (.getfield 16, 3) := by decide +kernel
theorem dX3_allOwed_20 : decode cX3_allOwed 20 = .ok (.iload_n 2, 1) := by decide +kernel
theorem dX3_allOwed_21 : decode cX3_allOwed 21 = .ok (.invokevirtual 327, 3) := by decide +kernel
theorem dX3_allOwed_24 : decode cX3_allOwed 24 = .ok (.checkcast 65, 3) := by decide +kernel
theorem dX3_allOwed_27 : decode cX3_allOwed 27 = .ok (.getfield 176, 3) := by decide +kernel
theorem dX3_allOwed_30 : decode cX3_allOwed 30 = .ok (.iadd, 1) := by decide +kernel
theorem dX3_allOwed_31 : decode cX3_allOwed 31 = .ok (.istore_n 1, 1) := by decide +kernel
theorem dX3_allOwed_32 : decode cX3_allOwed 32 = .ok (.iinc 2 1, 3) := by decide +kernel
theorem dX3_allOwed_35 : decode cX3_allOwed 35 = .ok (.goto (-31), 3) := by decide +kernel
theorem dX3_allOwed_38 : decode cX3_allOwed 38 = .ok (.iload_n 1, 1) := by decide +kernel
theorem dX3_allOwed_39 : decode cX3_allOwed 39 = .ok (.ireturn, 1) := by decide +kernel
theorem dX4_init_0 : decode cX4_init 0 = .ok (.aload_n 0, 1) := by decide +kernel
theorem dX4_init_1 : decode cX4_init 1 = .ok (.invokespecial 3, 3) := by decide +kernel
theorem dX4_init_4 : decode cX4_init 4 = .ok (.aload_n 0, 1) := by decide +kernel
theorem dX4_init_5 : decode cX4_init 5 = .ok (.bipush 8, 2) := by decide +kernel
theorem dX4_init_7 : decode cX4_init 7 = .ok (.newarray .int, 2) := by decide +kernel
theorem dX4_init_9 : decode cX4_init 9 = .ok (.putfield 9, 3) := by decide +kernel
theorem dX4_init_12 : decode cX4_init 12 = .ok (.aload_n 0, 1) := by decide +kernel
theorem dX4_init_13 : decode cX4_init 13 = .ok (.iload_n 1, 1) := by decide +kernel
theorem dX4_init_14 : decode cX4_init 14 = .ok (.putfield 15, 3) := by decide +kernel
theorem dX4_init_17 : decode cX4_init 17 = .ok (.aload_n 0, 1) := by decide +kernel
theorem dX4_init_18 : decode cX4_init 18 = .ok (.iload_n 2, 1) := by decide +kernel
theorem dX4_init_19 : decode cX4_init 19 = .ok (.putfield 19, 3) := by decide +kernel
theorem dX4_init_22 : decode cX4_init 22 = .ok (.aload_n 0, 1) := by decide +kernel
theorem dX4_init_23 : decode cX4_init 23 = .ok (.iload_n 3, 1) := by decide +kernel
theorem dX4_init_24 : decode cX4_init 24 = .ok (.putfield 22, 3) := by decide +kernel
theorem dX4_init_27 : decode cX4_init 27 = .ok (.aload_n 0, 1) := by decide +kernel
theorem dX4_init_28 : decode cX4_init 28 = .ok (.iload 4, 2) := by decide +kernel
theorem dX4_init_30 : decode cX4_init 30 = .ok (.putfield 25, 3) := by decide +kernel
theorem dX4_init_33 : decode cX4_init 33 = .ok (.return_, 1) := by decide +kernel
theorem dX4_minutes_0 : decode cX4_minutes 0 = .ok (.iload_n 1, 1) := by decide +kernel
theorem dX4_minutes_1 : decode cX4_minutes 1 = .ok (.getstatic 28, 3) := by decide +kernel
theorem dX4_minutes_4 : decode cX4_minutes 4 = .ok (.iload_n 2, 1) := by decide +kernel
theorem dX4_minutes_5 : decode cX4_minutes 5 = .ok (.iaload, 1) := by decide +kernel
theorem dX4_minutes_6 : decode cX4_minutes 6 = .ok (.aload_n 0, 1) := by decide +kernel
theorem dX4_minutes_7 : decode cX4_minutes 7 = .ok (.getfield 19, 3) := by decide +kernel
theorem dX4_minutes_10 : decode cX4_minutes 10 = .ok (.iadd, 1) := by decide +kernel
theorem dX4_minutes_11 : decode cX4_minutes 11 = .ok (.iconst 1, 1) := by decide +kernel
theorem dX4_minutes_12 : decode cX4_minutes 12 = .ok (.isub, 1) := by decide +kernel
theorem dX4_minutes_13 : decode cX4_minutes 13 = .ok (.aload_n 0, 1) := by decide +kernel
theorem dX4_minutes_14 : decode cX4_minutes 14 = .ok (.getfield 19, 3) := by decide +kernel
theorem dX4_minutes_17 : decode cX4_minutes 17 = .ok (.idiv, 1) := by decide +kernel
theorem dX4_minutes_18 : decode cX4_minutes 18 = .ok (.imul, 1) := by decide +kernel
theorem dX4_minutes_19 : decode cX4_minutes 19 = .ok (.ireturn, 1) := by decide +kernel
theorem dX5_init_0 : decode cX5_init 0 = .ok (.aload_n 0, 1) := by decide +kernel
theorem dX5_init_1 : decode cX5_init 1 = .ok (.invokespecial 1, 3) := by decide +kernel
theorem dX5_init_4 : decode cX5_init 4 = .ok (.aload_n 0, 1) := by decide +kernel
theorem dX5_init_5 : decode cX5_init 5 = .ok (.iload_n 1, 1) := by decide +kernel
theorem dX5_init_6 : decode cX5_init 6 = .ok (.putfield 7, 3) := by decide +kernel
theorem dX5_init_9 : decode cX5_init 9 = .ok (.aload_n 0, 1) := by decide +kernel
theorem dX5_init_10 : decode cX5_init 10 = .ok (.iload_n 2, 1) := by decide +kernel
theorem dX5_init_11 : decode cX5_init 11 = .ok (.putfield 13, 3) := by decide +kernel
theorem dX5_init_14 : decode cX5_init 14 = .ok (.aload_n 0, 1) := by decide +kernel
theorem dX5_init_15 : decode cX5_init 15 = .ok (.iload_n 3, 1) := by decide +kernel
theorem dX5_init_16 : decode cX5_init 16 = .ok (.putfield 16, 3) := by decide +kernel
theorem dX5_init_19 : decode cX5_init 19 = .ok (.aload_n 0, 1) := by decide +kernel
theorem dX5_init_20 : decode cX5_init 20 = .ok (.iload 4, 2) := by decide +kernel
theorem dX5_init_22 : decode cX5_init 22 = .ok (.putfield 19, 3) := by decide +kernel
theorem dX5_init_25 : decode cX5_init 25 = .ok (.aload_n 0, 1) := by decide +kernel
theorem dX5_init_26 : decode cX5_init 26 = .ok (.iload 5, 2) := by decide +kernel
theorem dX5_init_28 : decode cX5_init 28 = .ok (.putfield 22, 3) := by decide +kernel
theorem dX5_init_31 : decode cX5_init 31 = .ok (.aload_n 0, 1) := by decide +kernel
theorem dX5_init_32 : decode cX5_init 32 = .ok (.iload 6, 2) := by decide +kernel
theorem dX5_init_34 : decode cX5_init 34 = .ok (.putfield 25, 3) := by decide +kernel
theorem dX5_init_37 : decode cX5_init 37 = .ok (.aload_n 0, 1) := by decide +kernel
theorem dX5_init_38 : decode cX5_init 38 = .ok (.iload 7, 2) := by decide +kernel
theorem dX5_init_40 : decode cX5_init 40 = .ok (.putfield 28, 3) := by decide +kernel
theorem dX5_init_43 : decode cX5_init 43 = .ok (.aload_n 0, 1) := by decide +kernel
theorem dX5_init_44 : decode cX5_init 44 = .ok (.iload 8, 2) := by decide +kernel
theorem dX5_init_46 : decode cX5_init 46 = .ok (.putfield 31, 3) := by decide +kernel
theorem dX5_init_49 : decode cX5_init 49 = .ok (.aload_n 0, 1) := by decide +kernel
theorem dX5_init_50 : decode cX5_init 50 = .ok (.iload 9, 2) := by decide +kernel
theorem dX5_init_52 : decode cX5_init 52 = .ok (.putfield 34, 3) := by decide +kernel
theorem dX5_init_55 : decode cX5_init 55 = .ok (.return_, 1) := by decide +kernel
theorem dX6_init_0 : decode cX6_init 0 = .ok (.aload_n 0, 1) := by decide +kernel
theorem dX6_init_1 : decode cX6_init 1 = .ok (.invokespecial 3, 3) := by decide +kernel
theorem dX6_init_4 : decode cX6_init 4 = .ok (.aload_n 0, 1) := by decide +kernel
theorem dX6_init_5 : decode cX6_init 5 = .ok (.iconst (-1), 1) := by decide +kernel
theorem dX6_init_6 : decode cX6_init 6 = .ok (.putfield 9, 3) := by decide +kernel
theorem dX6_init_9 : decode cX6_init 9 = .ok (.aload_n 0, 1) := by decide +kernel
theorem dX6_init_10 : decode cX6_init 10 = .ok (.iconst (-1), 1) := by decide +kernel
theorem dX6_init_11 : decode cX6_init 11 = .ok (.putfield 15, 3) := by decide +kernel
theorem dX6_init_14 : decode cX6_init 14 = .ok (.aload_n 0, 1) := by decide +kernel
theorem dX6_init_15 : decode cX6_init 15 = .ok (.iconst (-1), 1) := by decide +kernel
theorem dX6_init_16 : decode cX6_init 16 = .ok (.putfield 18, 3) := by decide +kernel
theorem dX6_init_19 : decode cX6_init 19 = .ok (.aload_n 0, 1) := by decide +kernel
theorem dX6_init_20 : decode cX6_init 20 = .ok (.iconst (-1), 1) := by decide +kernel
theorem dX6_init_21 : decode cX6_init 21 = .ok (.putfield 21, 3) := by decide +kernel
theorem dX6_init_24 : decode cX6_init 24 = .ok (.aload_n 0, 1) := by decide +kernel
theorem dX6_init_25 : decode cX6_init 25 = .ok (.iload_n 2, 1) := by decide +kernel
theorem dX6_init_26 : decode cX6_init 26 = .ok (.putfield 24, 3) := by decide +kernel
theorem dX6_init_29 : decode cX6_init 29 = .ok (.aload_n 0, 1) := by decide +kernel
theorem dX6_init_30 : decode cX6_init 30 = .ok (.iload_n 3, 1) := by decide +kernel
theorem dX6_init_31 : decode cX6_init 31 = .ok (.putfield 27, 3) := by decide +kernel
theorem dX6_init_34 : decode cX6_init 34 = .ok (.aload_n 0, 1) := by decide +kernel
theorem dX6_init_35 : decode cX6_init 35 = .ok (.iload 4, 2) := by decide +kernel
theorem dX6_init_37 : decode cX6_init 37 = .ok (.putfield 30, 3) := by decide +kernel
theorem dX6_init_40 : decode cX6_init 40 = .ok (.aload_n 0, 1) := by decide +kernel
theorem dX6_init_41 : decode cX6_init 41 = .ok (.iload_n 1, 1) := by decide +kernel
theorem dX6_init_42 : decode cX6_init 42 = .ok (.newarray .int, 2) := by decide +kernel
theorem dX6_init_44 : decode cX6_init 44 = .ok (.putfield 33, 3) := by decide +kernel
theorem dX6_init_47 : decode cX6_init 47 = .ok (.iconst 0, 1) := by decide +kernel
theorem dX6_init_48 : decode cX6_init 48 = .ok (.istore 5, 2) := by decide +kernel
theorem dX6_init_50 : decode cX6_init 50 = .ok (.iload 5, 2) := by decide +kernel
theorem dX6_init_52 : decode cX6_init 52 = .ok (.iload_n 1, 1) := by decide +kernel
theorem dX6_init_53 : decode cX6_init 53 = .ok (.if_icmp .ge 17, 3) := by decide +kernel
theorem dX6_init_56 : decode cX6_init 56 = .ok (.aload_n 0, 1) := by decide +kernel
theorem dX6_init_57 : decode cX6_init 57 = .ok (.getfield 33, 3) := by decide +kernel
theorem dX6_init_60 : decode cX6_init 60 = .ok (.iload 5, 2) := by decide +kernel
theorem dX6_init_62 : decode cX6_init 62 = .ok (.iconst (-1), 1) := by decide +kernel
theorem dX6_init_63 : decode cX6_init 63 = .ok (.iastore, 1) := by decide +kernel
theorem dX6_init_64 : decode cX6_init 64 = .ok (.iinc 5 1, 3) := by decide +kernel
theorem dX6_init_67 : decode cX6_init 67 = .ok (.goto (-17), 3) := by decide +kernel
theorem dX6_init_70 : decode cX6_init 70 = .ok (.return_, 1) := by decide +kernel
theorem dX6_permitted_0 : decode cX6_permitted 0 = .ok (.iload_n 1, 1) := by decide +kernel
theorem dX6_permitted_1 : decode cX6_permitted 1 = .ok (.aload_n 0, 1) := by decide +kernel
theorem dX6_permitted_2 : decode cX6_permitted 2 = .ok (.getfield 15, 3) := by decide +kernel
theorem dX6_permitted_5 : decode cX6_permitted 5 = .ok (.if_icmp .gt 10, 3) := by decide +kernel
theorem dX6_permitted_8 : decode cX6_permitted 8 = .ok (.aload_n 0, 1) := by decide +kernel
theorem dX6_permitted_9 : decode cX6_permitted 9 = .ok (.getfield 9, 3) := by decide +kernel
theorem dX6_permitted_12 : decode cX6_permitted 12 = .ok (.goto 4, 3) := by decide +kernel
theorem dX6_permitted_15 : decode cX6_permitted 15 = .ok (.iconst (-1), 1) := by decide +kernel
theorem dX6_permitted_16 : decode cX6_permitted 16 = .ok (.ireturn, 1) := by decide +kernel
theorem dX6_many_0 : decode cX6_many 0 = .ok (.iconst 0, 1) := by decide +kernel
theorem dX6_many_1 : decode cX6_many 1 = .ok (.istore_n 2, 1) := by decide +kernel
theorem dX6_many_2 : decode cX6_many 2 = .ok (.aload_n 0, 1) := by decide +kernel
theorem dX6_many_3 : decode cX6_many 3 = .ok (.getfield 33, 3) := by decide +kernel
theorem dX6_many_6 : decode cX6_many 6 = .ok (.astore_n 3, 1) := by decide +kernel
theorem dX6_many_7 : decode cX6_many 7 = .ok (.aload_n 3, 1) := by decide +kernel
theorem dX6_many_8 : decode cX6_many 8 = .ok (.arraylength, 1) := by decide +kernel
theorem dX6_many_9 : decode cX6_many 9 = .ok (.istore 4, 2) := by decide +kernel
theorem dX6_many_11 : decode cX6_many 11 = .ok (.iconst 0, 1) := by decide +kernel
theorem dX6_many_12 : decode cX6_many 12 = .ok (.istore 5, 2) := by decide +kernel
theorem dX6_many_14 : decode cX6_many 14 = .ok (.iload 5, 2) := by decide +kernel
theorem dX6_many_16 : decode cX6_many 16 = .ok (.iload 4, 2) := by decide +kernel
theorem dX6_many_18 : decode cX6_many 18 = .ok (.if_icmp .ge 29, 3) := by decide +kernel
theorem dX6_many_21 : decode cX6_many 21 = .ok (.aload_n 3, 1) := by decide +kernel
theorem dX6_many_22 : decode cX6_many 22 = .ok (.iload 5, 2) := by decide +kernel
theorem dX6_many_24 : decode cX6_many 24 = .ok (.iaload, 1) := by decide +kernel
theorem dX6_many_25 : decode cX6_many 25 = .ok (.istore 6, 2) := by decide +kernel
theorem dX6_many_27 : decode cX6_many 27 = .ok (.iload_n 2, 1) := by decide +kernel
theorem dX6_many_28 : decode cX6_many 28 = .ok (.iload 6, 2) := by decide +kernel
theorem dX6_many_30 : decode cX6_many 30 = .ok (.iload_n 1, 1) := by decide +kernel
theorem dX6_many_31 : decode cX6_many 31 = .ok (.if_icmp .ne 7, 3) := by decide +kernel
theorem dX6_many_34 : decode cX6_many 34 = .ok (.iconst 1, 1) := by decide +kernel
theorem dX6_many_35 : decode cX6_many 35 = .ok (.goto 4, 3) := by decide +kernel
theorem dX6_many_38 : decode cX6_many 38 = .ok (.iconst 0, 1) := by decide +kernel
theorem dX6_many_39 : decode cX6_many 39 = .ok (.iadd, 1) := by decide +kernel
theorem dX6_many_40 : decode cX6_many 40 = .ok (.istore_n 2, 1) := by decide +kernel
theorem dX6_many_41 : decode cX6_many 41 = .ok (.iinc 5 1, 3) := by decide +kernel
theorem dX6_many_44 : decode cX6_many 44 = .ok (.goto (-30), 3) := by decide +kernel
theorem dX6_many_47 : decode cX6_many 47 = .ok (.iload_n 2, 1) := by decide +kernel
theorem dX6_many_48 : decode cX6_many 48 = .ok (.ireturn, 1) := by decide +kernel
theorem dX6_bare_0 : decode cX6_bare 0 = .ok (.aload_n 0, 1) := by decide +kernel
theorem dX6_bare_1 : decode cX6_bare 1 = .ok (.getfield 33, 3) := by decide +kernel
theorem dX6_bare_4 : decode cX6_bare 4 = .ok (.arraylength, 1) := by decide +kernel
theorem dX6_bare_5 : decode cX6_bare 5 = .ok (.aload_n 0, 1) := by decide +kernel
theorem dX6_bare_6 : decode cX6_bare 6 = .ok (.iconst (-1), 1) := by decide +kernel
theorem dX6_bare_7 : decode cX6_bare 7 = .ok (.invokevirtual 37, 3) := by decide +kernel
theorem dX6_bare_10 : decode cX6_bare 10 = .ok (.isub, 1) := by decide +kernel
theorem dX6_bare_11 : decode cX6_bare 11 = .ok (.istore_n 1, 1) := by decide +kernel
theorem dX6_bare_12 : decode cX6_bare 12 = .ok (.iconst 0, 1) := by decide +kernel
theorem dX6_bare_13 : decode cX6_bare 13 = .ok (.istore_n 2, 1) := by decide +kernel
theorem dX6_bare_14 : decode cX6_bare 14 = .ok (.iload_n 2, 1) := by decide +kernel
theorem dX6_bare_15 : decode cX6_bare 15 = .ok (.aload_n 0, 1) := by decide +kernel
theorem dX6_bare_16 : decode cX6_bare 16 = .ok (.getfield 33, 3) := by decide +kernel
theorem dX6_bare_19 : decode cX6_bare 19 = .ok (.arraylength, 1) := by decide +kernel
theorem dX6_bare_20 : decode cX6_bare 20 = .ok (.if_icmp .ge 16, 3) := by decide +kernel
theorem dX6_bare_23 : decode cX6_bare 23 = .ok (.aload_n 0, 1) := by decide +kernel
theorem dX6_bare_24 : decode cX6_bare 24 = .ok (.getfield 33, 3) := by decide +kernel
theorem dX6_bare_27 : decode cX6_bare 27 = .ok (.iload_n 2, 1) := by decide +kernel
theorem dX6_bare_28 : decode cX6_bare 28 = .ok (.iconst (-1), 1) := by decide +kernel
theorem dX6_bare_29 : decode cX6_bare 29 = .ok (.iastore, 1) := by decide +kernel
theorem dX6_bare_30 : decode cX6_bare 30 = .ok (.iinc 2 1, 3) := by decide +kernel
theorem dX6_bare_33 : decode cX6_bare 33 = .ok (.goto (-19), 3) := by decide +kernel
theorem dX6_bare_36 : decode cX6_bare 36 = .ok (.iload_n 1, 1) := by decide +kernel
theorem dX6_bare_37 : decode cX6_bare 37 = .ok (.ireturn, 1) := by decide +kernel
theorem dX6_isWatched_0 : decode cX6_isWatched 0 = .ok (.aload_n 0, 1) := by decide +kernel
theorem dX6_isWatched_1 : decode cX6_isWatched 1 = .ok (.getfield 18, 3) := by decide +kernel
theorem dX6_isWatched_4 : decode cX6_isWatched 4 = .ok (.iconst (-1), 1) := by decide +kernel
theorem dX6_isWatched_5 : decode cX6_isWatched 5 = .ok (.if_icmp .eq 25, 3) := by decide +kernel
theorem dX6_isWatched_8 : decode cX6_isWatched 8 = .ok (.iload_n 1, 1) := by decide +kernel
theorem dX6_isWatched_9 : decode cX6_isWatched 9 = .ok (.aload_n 0, 1) := by decide +kernel
theorem dX6_isWatched_10 : decode cX6_isWatched 10 = .ok (.getfield 21, 3) := by decide +kernel
theorem dX6_isWatched_13 : decode cX6_isWatched 13 = .ok (.if_icmp .gt 17, 3) := by decide +kernel
theorem dX6_isWatched_16 : decode cX6_isWatched 16 = .ok (.iload_n 1, 1) := by decide +kernel
theorem dX6_isWatched_17 : decode cX6_isWatched 17 = .ok (.iload_n 2, 1) := by decide +kernel
theorem dX6_isWatched_18 : decode cX6_isWatched 18 = .ok (.iadd, 1) := by decide +kernel
theorem dX6_isWatched_19 : decode cX6_isWatched 19 = .ok (.aload_n 0, 1) := by decide +kernel
theorem dX6_isWatched_20 : decode cX6_isWatched 20 = .ok (.getfield 18, 3) := by decide +kernel
theorem dX6_isWatched_23 : decode cX6_isWatched 23 = .ok (.if_icmp .le 7, 3) := by decide +kernel
theorem dX6_isWatched_26 : decode cX6_isWatched 26 = .ok (.iconst 1, 1) := by decide +kernel
theorem dX6_isWatched_27 : decode cX6_isWatched 27 = .ok (.goto 4, 3) := by decide +kernel
theorem dX6_isWatched_30 : decode cX6_isWatched 30 = .ok (.iconst 0, 1) := by decide +kernel
theorem dX6_isWatched_31 : decode cX6_isWatched 31 = .ok (.ireturn, 1) := by decide +kernel
theorem dX7_isIn_0 : decode cX7_isIn 0 = .ok (.iload_n 0, 1) := by decide +kernel
theorem dX7_isIn_1 : decode cX7_isIn 1 = .ok (.iload_n 1, 1) := by decide +kernel
theorem dX7_isIn_2 : decode cX7_isIn 2 = .ok (.if_icmp .lt 12, 3) := by decide +kernel
theorem dX7_isIn_5 : decode cX7_isIn 5 = .ok (.iload_n 0, 1) := by decide +kernel
theorem dX7_isIn_6 : decode cX7_isIn 6 = .ok (.iload_n 2, 1) := by decide +kernel
theorem dX7_isIn_7 : decode cX7_isIn 7 = .ok (.if_icmp .gt 7, 3) := by decide +kernel
theorem dX7_isIn_10 : decode cX7_isIn 10 = .ok (.iconst 1, 1) := by decide +kernel
theorem dX7_isIn_11 : decode cX7_isIn 11 = .ok (.goto 4, 3) := by decide +kernel
theorem dX7_isIn_14 : decode cX7_isIn 14 = .ok (.iconst 0, 1) := by decide +kernel
theorem dX7_isIn_15 : decode cX7_isIn 15 = .ok (.ireturn, 1) := by decide +kernel
theorem dX7_init_0 : decode cX7_init 0 = .ok (.aload_n 0, 1) := by decide +kernel
theorem dX7_init_1 : decode cX7_init 1 = .ok (.invokespecial 1, 3) := by decide +kernel
theorem dX7_init_4 : decode cX7_init 4 = .ok (.aload_n 0, 1) := by decide +kernel
theorem dX7_init_5 : decode cX7_init 5 = .ok (.bipush 30, 2) := by decide +kernel
theorem dX7_init_7 : decode cX7_init 7 = .ok (.putfield 9, 3) := by decide +kernel
theorem dX7_init_10 : decode cX7_init 10 = .ok (.aload_n 0, 1) := by decide +kernel
theorem dX7_init_11 : decode cX7_init 11 = .ok (.new 13, 3) := by decide +kernel
theorem dX7_init_14 : decode cX7_init 14 = .ok (.dup, 1) := by decide +kernel
theorem dX7_init_15 : decode cX7_init 15 = .ok (.invokespecial 15, 3) := by decide +kernel
theorem dX7_init_18 : decode cX7_init 18 = .ok (.putfield 16, 3) := by decide +kernel
theorem dX7_init_21 : decode cX7_init 21 = .ok (.aload_n 0, 1) := by decide +kernel
theorem dX7_init_22 : decode cX7_init 22 = .ok (.new 13, 3) := by decide +kernel
theorem dX7_init_25 : decode cX7_init 25 = .ok (.dup, 1) := by decide +kernel
theorem dX7_init_26 : decode cX7_init 26 = .ok (.invokespecial 15, 3) := by decide +kernel
theorem dX7_init_29 : decode cX7_init 29 = .ok (.putfield 20, 3) := by decide +kernel
theorem dX7_init_32 : decode cX7_init 32 = .ok (.aload_n 0, 1) := by decide +kernel
theorem dX7_init_33 : decode cX7_init 33 = .ok (.new 13, 3) := by decide +kernel
theorem dX7_init_36 : decode cX7_init 36 = .ok (.dup, 1) := by decide +kernel
theorem dX7_init_37 : decode cX7_init 37 = .ok (.invokespecial 15, 3) := by decide +kernel
theorem dX7_init_40 : decode cX7_init 40 = .ok (.putfield 23, 3) := by decide +kernel
theorem dX7_init_43 : decode cX7_init 43 = .ok (.return_, 1) := by decide +kernel
theorem dX7_thrown_0 : decode cX7_thrown 0 = .ok (.aload_n 0, 1) := by decide +kernel
theorem dX7_thrown_1 : decode cX7_thrown 1 = .ok (.getfield 26, 3) := by decide +kernel
theorem dX7_thrown_4 : decode cX7_thrown 4 = .ok (.ireturn, 1) := by decide +kernel
theorem dX7_refuse_0 : decode cX7_refuse 0 = .ok (.iload_n 1, 1) := by decide +kernel
theorem dX7_refuse_1 : decode cX7_refuse 1 = .ok (.ifCond .eq 15, 3) := by decide +kernel
theorem dX7_refuse_4 : decode cX7_refuse 4 = .ok (.aload_n 0, 1) := by decide +kernel
theorem dX7_refuse_5 : decode cX7_refuse 5 = .ok (.getfield 26, 3) := by decide +kernel
theorem dX7_refuse_8 : decode cX7_refuse 8 = .ok (.ifCond .ne 8, 3) := by decide +kernel
theorem dX7_refuse_11 : decode cX7_refuse 11 = .ok (.aload_n 0, 1) := by decide +kernel
theorem dX7_refuse_12 : decode cX7_refuse 12 = .ok (.iload_n 2, 1) := by decide +kernel
theorem dX7_refuse_13 : decode cX7_refuse 13 = .ok (.putfield 26, 3) := by decide +kernel
theorem dX7_refuse_16 : decode cX7_refuse 16 = .ok (.aload_n 0, 1) := by decide +kernel
theorem dX7_refuse_17 : decode cX7_refuse 17 = .ok (.getfield 26, 3) := by decide +kernel
theorem dX7_refuse_20 : decode cX7_refuse 20 = .ok (.ifCond .le 7, 3) := by decide +kernel
theorem dX7_refuse_23 : decode cX7_refuse 23 = .ok (.iconst 1, 1) := by decide +kernel
theorem dX7_refuse_24 : decode cX7_refuse 24 = .ok (.goto 4, 3) := by decide +kernel
theorem dX7_refuse_27 : decode cX7_refuse 27 = .ok (.iconst 0, 1) := by decide +kernel
theorem dX7_refuse_28 : decode cX7_refuse 28 = .ok (.ireturn, 1) := by decide +kernel
theorem dX7_start_0 : decode cX7_start 0 = .ok (.aload_n 0, 1) := by decide +kernel
theorem dX7_start_1 : decode cX7_start 1 = .ok (.iconst 0, 1) := by decide +kernel
theorem dX7_start_2 : decode cX7_start 2 = .ok (.putfield 26, 3) := by decide +kernel
theorem dX7_start_5 : decode cX7_start 5 = .ok (.aload_n 0, 1) := by decide +kernel
theorem dX7_start_6 : decode cX7_start 6 = .ok (.iload_n 1, 1) := by decide +kernel
theorem dX7_start_7 : decode cX7_start 7 = .ok (.iload_n 2, 1) := by decide +kernel
theorem dX7_start_8 : decode cX7_start 8 = .ok (.invokevirtual 29, 3) := by decide +kernel
theorem dX7_start_11 : decode cX7_start 11 = .ok (.ireturn, 1) := by decide +kernel
theorem dX7_isNoWall_0 : decode cX7_isNoWall 0 = .ok (.iload_n 1, 1) := by decide +kernel
theorem dX7_isNoWall_1 : decode cX7_isNoWall 1 = .ok (.iconst 0, 1) := by decide +kernel
theorem dX7_isNoWall_2 : decode cX7_isNoWall 2 = .ok (.aload_n 0, 1) := by decide +kernel
theorem dX7_isNoWall_3 : decode cX7_isNoWall 3 = .ok (.getfield 16, 3) := by decide +kernel
theorem dX7_isNoWall_6 : decode cX7_isNoWall 6 = .ok (.invokevirtual 33, 3) := by decide +kernel
theorem dX7_isNoWall_9 : decode cX7_isNoWall 9 = .ok (.iconst 1, 1) := by decide +kernel
theorem dX7_isNoWall_10 : decode cX7_isNoWall 10 = .ok (.isub, 1) := by decide +kernel
theorem dX7_isNoWall_11 : decode cX7_isNoWall 11 = .ok (.invokestatic 37, 3) := by decide +kernel
theorem dX7_isNoWall_14 : decode cX7_isNoWall 14 = .ok (.ifCond .ne 7, 3) := by decide +kernel
theorem dX7_isNoWall_17 : decode cX7_isNoWall 17 = .ok (.iconst 1, 1) := by decide +kernel
theorem dX7_isNoWall_18 : decode cX7_isNoWall 18 = .ok (.goto 4, 3) := by decide +kernel
theorem dX7_isNoWall_21 : decode cX7_isNoWall 21 = .ok (.iconst 0, 1) := by decide +kernel
theorem dX7_isNoWall_22 : decode cX7_isNoWall 22 = .ok (.ireturn, 1) := by decide +kernel
theorem dX7_isNoHand_0 : decode cX7_isNoHand 0 = .ok (.iload_n 1, 1) := by decide +kernel
theorem dX7_isNoHand_1 : decode cX7_isNoHand 1 = .ok (.iconst 0, 1) := by decide +kernel
theorem dX7_isNoHand_2 : decode cX7_isNoHand 2 = .ok (.aload_n 0, 1) := by decide +kernel
theorem dX7_isNoHand_3 : decode cX7_isNoHand 3 = .ok (.getfield 20, 3) := by decide +kernel
theorem dX7_isNoHand_6 : decode cX7_isNoHand 6 = .ok (.invokevirtual 33, 3) := by decide +kernel
theorem dX7_isNoHand_9 : decode cX7_isNoHand 9 = .ok (.iconst 1, 1) := by decide +kernel
theorem dX7_isNoHand_10 : decode cX7_isNoHand 10 = .ok (.isub, 1) := by decide +kernel
theorem dX7_isNoHand_11 : decode cX7_isNoHand 11 = .ok (.invokestatic 37, 3) := by decide +kernel
theorem dX7_isNoHand_14 : decode cX7_isNoHand 14 = .ok (.ifCond .ne 7, 3) := by decide +kernel
theorem dX7_isNoHand_17 : decode cX7_isNoHand 17 = .ok (.iconst 1, 1) := by decide +kernel
theorem dX7_isNoHand_18 : decode cX7_isNoHand 18 = .ok (.goto 4, 3) := by decide +kernel
theorem dX7_isNoHand_21 : decode cX7_isNoHand 21 = .ok (.iconst 0, 1) := by decide +kernel
theorem dX7_isNoHand_22 : decode cX7_isNoHand 22 = .ok (.ireturn, 1) := by decide +kernel
theorem dX7_isNoLayer_0 : decode cX7_isNoLayer 0 = .ok (.iload_n 1, 1) := by decide +kernel
theorem dX7_isNoLayer_1 : decode cX7_isNoLayer 1 = .ok (.iconst 0, 1) := by decide +kernel
theorem dX7_isNoLayer_2 : decode cX7_isNoLayer 2 = .ok (.aload_n 0, 1) := by decide +kernel
theorem dX7_isNoLayer_3 : decode cX7_isNoLayer 3 = .ok (.getfield 23, 3) := by decide +kernel
theorem dX7_isNoLayer_6 : decode cX7_isNoLayer 6 = .ok (.invokevirtual 33, 3) := by decide +kernel
theorem dX7_isNoLayer_9 : decode cX7_isNoLayer 9 = .ok (.iconst 1, 1) := by decide +kernel
theorem dX7_isNoLayer_10 : decode cX7_isNoLayer 10 = .ok (.isub, 1) := by decide +kernel
theorem dX7_isNoLayer_11 : decode cX7_isNoLayer 11 = .ok (.invokestatic 37, 3) := by decide +kernel
theorem dX7_isNoLayer_14 : decode cX7_isNoLayer 14 = .ok (.ifCond .ne 7, 3) := by decide +kernel
theorem dX7_isNoLayer_17 : decode cX7_isNoLayer 17 = .ok (.iconst 1, 1) := by decide +kernel
theorem dX7_isNoLayer_18 : decode cX7_isNoLayer 18 = .ok (.goto 4, 3) := by decide +kernel
theorem dX7_isNoLayer_21 : decode cX7_isNoLayer 21 = .ok (.iconst 0, 1) := by decide +kernel
theorem dX7_isNoLayer_22 : decode cX7_isNoLayer 22 = .ok (.ireturn, 1) := by decide +kernel
theorem dX7_wall_0 : decode cX7_wall 0 = .ok (.iload_n 1, 1) := by decide +kernel
theorem dX7_wall_1 : decode cX7_wall 1 = .ok (.iconst 4, 1) := by decide +kernel
theorem dX7_wall_2 : decode cX7_wall 2 = .ok (.bipush 16, 2) := by decide +kernel
theorem dX7_wall_4 : decode cX7_wall 4 = .ok (.invokestatic 37, 3) := by decide +kernel
theorem dX7_wall_7 : decode cX7_wall 7 = .ok (.ifCond .eq 38, 3) := by decide +kernel
theorem dX7_wall_10 : decode cX7_wall 10 = .ok (.iload_n 2, 1) := by decide +kernel
theorem dX7_wall_11 : decode cX7_wall 11 = .ok (.iconst 1, 1) := by decide +kernel
theorem dX7_wall_12 : decode cX7_wall 12 = .ok (.bipush 9, 2) := by decide +kernel
theorem dX7_wall_14 : decode cX7_wall 14 = .ok (.invokestatic 37, 3) := by decide +kernel
theorem dX7_wall_17 : decode cX7_wall 17 = .ok (.ifCond .eq 28, 3) := by decide +kernel
theorem dX7_wall_20 : decode cX7_wall 20 = .ok (.iload_n 3, 1) := by decide +kernel
theorem dX7_wall_21 : decode cX7_wall 21 = .ok (.iconst 0, 1) := by decide +kernel
theorem dX7_wall_22 : decode cX7_wall 22 = .ok (.iconst 3, 1) := by decide +kernel
theorem dX7_wall_23 : decode cX7_wall 23 = .ok (.invokestatic 37, 3) := by decide +kernel
theorem dX7_wall_26 : decode cX7_wall 26 = .ok (.ifCond .eq 19, 3) := by decide +kernel
theorem dX7_wall_29 : decode cX7_wall 29 = .ok (.iload 4, 2) := by decide +kernel
theorem dX7_wall_31 : decode cX7_wall 31 = .ok (.ifCond .eq 18, 3) := by decide +kernel
theorem dX7_wall_34 : decode cX7_wall 34 = .ok (.iload 4, 2) := by decide +kernel
theorem dX7_wall_36 : decode cX7_wall 36 = .ok (.iconst 2, 1) := by decide +kernel
theorem dX7_wall_37 : decode cX7_wall 37 = .ok (.bipush 20, 2) := by decide +kernel
theorem dX7_wall_39 : decode cX7_wall 39 = .ok (.invokestatic 37, 3) := by decide +kernel
theorem dX7_wall_42 : decode cX7_wall 42 = .ok (.ifCond .ne 7, 3) := by decide +kernel
theorem dX7_wall_45 : decode cX7_wall 45 = .ok (.iconst 1, 1) := by decide +kernel
theorem dX7_wall_46 : decode cX7_wall 46 = .ok (.goto 4, 3) := by decide +kernel
theorem dX7_wall_49 : decode cX7_wall 49 = .ok (.iconst 0, 1) := by decide +kernel
theorem dX7_wall_50 : decode cX7_wall 50 = .ok (.istore 5, 2) := by decide +kernel
theorem dX7_wall_52 : decode cX7_wall 52 = .ok (.aload_n 0, 1) := by decide +kernel
theorem dX7_wall_53 : decode cX7_wall 53 = .ok (.iload 5, 2) := by decide +kernel
theorem dX7_wall_55 : decode cX7_wall 55 = .ok (.iconst 1, 1) := by decide +kernel
theorem dX7_wall_56 : decode cX7_wall 56 = .ok (.invokevirtual 41, 3) := by decide +kernel
theorem dX7_wall_59 : decode cX7_wall 59 = .ok (.ifCond .ne 28, 3) := by decide +kernel
theorem dX7_wall_62 : decode cX7_wall 62 = .ok (.aload_n 0, 1) := by decide +kernel
theorem dX7_wall_63 : decode cX7_wall 63 = .ok (.aload_n 0, 1) := by decide +kernel
theorem dX7_wall_64 : decode cX7_wall 64 = .ok (.getfield 16, 3) := by decide +kernel
theorem dX7_wall_67 : decode cX7_wall 67 = .ok (.invokevirtual 33, 3) := by decide +kernel
theorem dX7_wall_70 : decode cX7_wall 70 = .ok (.bipush 6, 2) := by decide +kernel
theorem dX7_wall_72 : decode cX7_wall 72 = .ok (.if_icmp .ne 7, 3) := by decide +kernel
theorem dX7_wall_75 : decode cX7_wall 75 = .ok (.iconst 1, 1) := by decide +kernel
theorem dX7_wall_76 : decode cX7_wall 76 = .ok (.goto 4, 3) := by decide +kernel
theorem dX7_wall_79 : decode cX7_wall 79 = .ok (.iconst 0, 1) := by decide +kernel
theorem dX7_wall_80 : decode cX7_wall 80 = .ok (.iconst 2, 1) := by decide +kernel
theorem dX7_wall_81 : decode cX7_wall 81 = .ok (.invokevirtual 29, 3) := by decide +kernel
theorem dX7_wall_84 : decode cX7_wall 84 = .ok (.ifCond .eq 5, 3) := by decide +kernel
theorem dX7_wall_87 : decode cX7_wall 87 = .ok (.iconst 0, 1) := by decide +kernel
theorem dX7_wall_88 : decode cX7_wall 88 = .ok (.ireturn, 1) := by decide +kernel
theorem dX7_wall_89 : decode cX7_wall 89 = .ok (.aload_n 0, 1) := by decide +kernel
theorem dX7_wall_90 : decode cX7_wall 90 = .ok (.getfield 16, 3) := by decide +kernel
theorem dX7_wall_93 : decode cX7_wall 93 = .ok (.new 44, 3) := by decide +kernel
theorem dX7_wall_96 : decode cX7_wall 96 = .ok (.dup, 1) := by decide +kernel
theorem dX7_wall_97 : decode cX7_wall 97 = .ok (.iload_n 1, 1) := by decide +kernel
theorem dX7_wall_98 : decode cX7_wall 98 = .ok (.iload_n 2, 1) := by decide +kernel
theorem dX7_wall_99 : decode cX7_wall 99 = .ok (.iload_n 3, 1) := by decide +kernel
theorem dX7_wall_100 : decode cX7_wall 100 = .ok (.iload 4, 2) := by decide +kernel
theorem dX7_wall_102 : decode cX7_wall 102 = .ok (.invokespecial 46, 3) := by decide +kernel
theorem dX7_wall_105 : decode cX7_wall 105 = .ok (.invokevirtual 49, 3) := by decide +kernel
theorem dX7_wall_108 : decode cX7_wall 108 = .ok (.pop, 1) := by decide +kernel
theorem dX7_wall_109 : decode cX7_wall 109 = .ok (.aload_n 0, 1) := by decide +kernel
theorem dX7_wall_110 : decode cX7_wall 110 = .ok (.getfield 16, 3) := by decide +kernel
theorem dX7_wall_113 : decode cX7_wall 113 = .ok (.invokevirtual 33, 3) := by decide +kernel
theorem dX7_wall_116 : decode cX7_wall 116 = .ok (.iconst 1, 1) := by decide +kernel
theorem dX7_wall_117 : decode cX7_wall 117 = .ok (.isub, 1) := by decide +kernel
theorem dX7_wall_118 : decode cX7_wall 118 = .ok (.ireturn, 1) := by decide +kernel
theorem dX7_hand_0 : decode cX7_hand 0 = .ok (.iload_n 1, 1) := by decide +kernel
theorem dX7_hand_1 : decode cX7_hand 1 = .ok (.iconst 0, 1) := by decide +kernel
theorem dX7_hand_2 : decode cX7_hand 2 = .ok (.iconst 3, 1) := by decide +kernel
theorem dX7_hand_3 : decode cX7_hand 3 = .ok (.invokestatic 37, 3) := by decide +kernel
theorem dX7_hand_6 : decode cX7_hand 6 = .ok (.ifCond .eq 34, 3) := by decide +kernel
theorem dX7_hand_9 : decode cX7_hand 9 = .ok (.iload_n 2, 1) := by decide +kernel
theorem dX7_hand_10 : decode cX7_hand 10 = .ok (.iconst 1, 1) := by decide +kernel
theorem dX7_hand_11 : decode cX7_hand 11 = .ok (.bipush 9, 2) := by decide +kernel
theorem dX7_hand_13 : decode cX7_hand 13 = .ok (.invokestatic 37, 3) := by decide +kernel
theorem dX7_hand_16 : decode cX7_hand 16 = .ok (.ifCond .eq 24, 3) := by decide +kernel
theorem dX7_hand_19 : decode cX7_hand 19 = .ok (.iload_n 3, 1) := by decide +kernel
theorem dX7_hand_20 : decode cX7_hand 20 = .ok (.iconst 0, 1) := by decide +kernel
theorem dX7_hand_21 : decode cX7_hand 21 = .ok (.bipush 9, 2) := by decide +kernel
theorem dX7_hand_23 : decode cX7_hand 23 = .ok (.invokestatic 37, 3) := by decide +kernel
theorem dX7_hand_26 : decode cX7_hand 26 = .ok (.ifCond .eq 14, 3) := by decide +kernel
theorem dX7_hand_29 : decode cX7_hand 29 = .ok (.iload 4, 2) := by decide +kernel
theorem dX7_hand_31 : decode cX7_hand 31 = .ok (.iconst 0, 1) := by decide +kernel
theorem dX7_hand_32 : decode cX7_hand 32 = .ok (.bipush 9, 2) := by decide +kernel
theorem dX7_hand_34 : decode cX7_hand 34 = .ok (.invokestatic 37, 3) := by decide +kernel
theorem dX7_hand_37 : decode cX7_hand 37 = .ok (.ifCond .ne 7, 3) := by decide +kernel
theorem dX7_hand_40 : decode cX7_hand 40 = .ok (.iconst 1, 1) := by decide +kernel
theorem dX7_hand_41 : decode cX7_hand 41 = .ok (.goto 4, 3) := by decide +kernel
theorem dX7_hand_44 : decode cX7_hand 44 = .ok (.iconst 0, 1) := by decide +kernel
theorem dX7_hand_45 : decode cX7_hand 45 = .ok (.istore 5, 2) := by decide +kernel
theorem dX7_hand_47 : decode cX7_hand 47 = .ok (.aload_n 0, 1) := by decide +kernel
theorem dX7_hand_48 : decode cX7_hand 48 = .ok (.iload 5, 2) := by decide +kernel
theorem dX7_hand_50 : decode cX7_hand 50 = .ok (.iconst 1, 1) := by decide +kernel
theorem dX7_hand_51 : decode cX7_hand 51 = .ok (.invokevirtual 41, 3) := by decide +kernel
theorem dX7_hand_54 : decode cX7_hand 54 = .ok (.ifCond .ne 28, 3) := by decide +kernel
theorem dX7_hand_57 : decode cX7_hand 57 = .ok (.aload_n 0, 1) := by decide +kernel
theorem dX7_hand_58 : decode cX7_hand 58 = .ok (.aload_n 0, 1) := by decide +kernel
theorem dX7_hand_59 : decode cX7_hand 59 = .ok (.getfield 20, 3) := by decide +kernel
theorem dX7_hand_62 : decode cX7_hand 62 = .ok (.invokevirtual 33, 3) := by decide +kernel
theorem dX7_hand_65 : decode cX7_hand 65 = .ok (.bipush 8, 2) := by decide +kernel
theorem dX7_hand_67 : decode cX7_hand 67 = .ok (.if_icmp .ne 7, 3) := by decide +kernel
theorem dX7_hand_70 : decode cX7_hand 70 = .ok (.iconst 1, 1) := by decide +kernel
theorem dX7_hand_71 : decode cX7_hand 71 = .ok (.goto 4, 3) := by decide +kernel
theorem dX7_hand_74 : decode cX7_hand 74 = .ok (.iconst 0, 1) := by decide +kernel
theorem dX7_hand_75 : decode cX7_hand 75 = .ok (.iconst 2, 1) := by decide +kernel
theorem dX7_hand_76 : decode cX7_hand 76 = .ok (.invokevirtual 29, 3) := by decide +kernel
theorem dX7_hand_79 : decode cX7_hand 79 = .ok (.ifCond .eq 5, 3) := by decide +kernel
theorem dX7_hand_82 : decode cX7_hand 82 = .ok (.iconst 0, 1) := by decide +kernel
theorem dX7_hand_83 : decode cX7_hand 83 = .ok (.ireturn, 1) := by decide +kernel
theorem dX7_hand_84 : decode cX7_hand 84 = .ok (.aload_n 0, 1) := by decide +kernel
theorem dX7_hand_85 : decode cX7_hand 85 = .ok (.getfield 20, 3) := by decide +kernel
theorem dX7_hand_88 : decode cX7_hand 88 = .ok (.new 53, 3) := by decide +kernel
theorem dX7_hand_91 : decode cX7_hand 91 = .ok (.dup, 1) := by decide +kernel
theorem dX7_hand_92 : decode cX7_hand 92 = .ok (.iload_n 1, 1) := by decide +kernel
theorem dX7_hand_93 : decode cX7_hand 93 = .ok (.iload_n 2, 1) := by decide +kernel
theorem dX7_hand_94 : decode cX7_hand 94 = .ok (.iload_n 3, 1) := by decide +kernel
theorem dX7_hand_95 : decode cX7_hand 95 = .ok (.iload 4, 2) := by decide +kernel
theorem dX7_hand_97 : decode cX7_hand 97 = .ok (.invokespecial 55, 3) := by decide +kernel
theorem dX7_hand_100 : decode cX7_hand 100 = .ok (.invokevirtual 49, 3) := by decide +kernel
theorem dX7_hand_103 : decode cX7_hand 103 = .ok (.pop, 1) := by decide +kernel
theorem dX7_hand_104 : decode cX7_hand 104 = .ok (.aload_n 0, 1) := by decide +kernel
theorem dX7_hand_105 : decode cX7_hand 105 = .ok (.getfield 20, 3) := by decide +kernel
theorem dX7_hand_108 : decode cX7_hand 108 = .ok (.invokevirtual 33, 3) := by decide +kernel
theorem dX7_hand_111 : decode cX7_hand 111 = .ok (.iconst 1, 1) := by decide +kernel
theorem dX7_hand_112 : decode cX7_hand 112 = .ok (.isub, 1) := by decide +kernel
theorem dX7_hand_113 : decode cX7_hand 113 = .ok (.ireturn, 1) := by decide +kernel
theorem dX7_permit_0 : decode cX7_permit 0 = .ok (.aload_n 0, 1) := by decide +kernel
theorem dX7_permit_1 : decode cX7_permit 1 = .ok (.aload_n 0, 1) := by decide +kernel
theorem dX7_permit_2 : decode cX7_permit 2 = .ok (.iload_n 1, 1) := by decide +kernel
theorem dX7_permit_3 : decode cX7_permit 3 = .ok (.invokevirtual 56, 3) := by decide +kernel
theorem dX7_permit_6 : decode cX7_permit 6 = .ok (.iconst 1, 1) := by decide +kernel
theorem dX7_permit_7 : decode cX7_permit 7 = .ok (.invokevirtual 41, 3) := by decide +kernel
theorem dX7_permit_10 : decode cX7_permit 10 = .ok (.ifCond .ne 39, 3) := by decide +kernel
theorem dX7_permit_13 : decode cX7_permit 13 = .ok (.aload_n 0, 1) := by decide +kernel
theorem dX7_permit_14 : decode cX7_permit 14 = .ok (.iload_n 2, 1) := by decide +kernel
theorem dX7_permit_15 : decode cX7_permit 15 = .ok (.iconst 0, 1) := by decide +kernel
theorem dX7_permit_16 : decode cX7_permit 16 = .ok (.iconst 3, 1) := by decide +kernel
theorem dX7_permit_17 : decode cX7_permit 17 = .ok (.invokestatic 37, 3) := by decide +kernel
theorem dX7_permit_20 : decode cX7_permit 20 = .ok (.ifCond .eq 17, 3) := by decide +kernel
theorem dX7_permit_23 : decode cX7_permit 23 = .ok (.iload_n 3, 1) := by decide +kernel
theorem dX7_permit_24 : decode cX7_permit 24 = .ok (.aload_n 0, 1) := by decide +kernel
theorem dX7_permit_25 : decode cX7_permit 25 = .ok (.getfield 60, 3) := by decide +kernel
theorem dX7_permit_28 : decode cX7_permit 28 = .ok (.sipush 400, 3) := by decide +kernel
theorem dX7_permit_31 : decode cX7_permit 31 = .ok (.invokestatic 37, 3) := by decide +kernel
theorem dX7_permit_34 : decode cX7_permit 34 = .ok (.ifCond .ne 7, 3) := by decide +kernel
theorem dX7_permit_37 : decode cX7_permit 37 = .ok (.iconst 1, 1) := by decide +kernel
theorem dX7_permit_38 : decode cX7_permit 38 = .ok (.goto 4, 3) := by decide +kernel
theorem dX7_permit_41 : decode cX7_permit 41 = .ok (.iconst 0, 1) := by decide +kernel
theorem dX7_permit_42 : decode cX7_permit 42 = .ok (.iconst 2, 1) := by decide +kernel
theorem dX7_permit_43 : decode cX7_permit 43 = .ok (.invokevirtual 29, 3) := by decide +kernel
theorem dX7_permit_46 : decode cX7_permit 46 = .ok (.ifCond .eq 5, 3) := by decide +kernel
theorem dX7_permit_49 : decode cX7_permit 49 = .ok (.iconst 0, 1) := by decide +kernel
theorem dX7_permit_50 : decode cX7_permit 50 = .ok (.ireturn, 1) := by decide +kernel
theorem dX7_permit_51 : decode cX7_permit 51 = .ok (.aload_n 0, 1) := by decide +kernel
theorem dX7_permit_52 : decode cX7_permit 52 = .ok (.getfield 16, 3) := by decide +kernel
theorem dX7_permit_55 : decode cX7_permit 55 = .ok (.iload_n 1, 1) := by decide +kernel
theorem dX7_permit_56 : decode cX7_permit 56 = .ok (.invokevirtual 63, 3) := by decide +kernel
theorem dX7_permit_59 : decode cX7_permit 59 = .ok (.checkcast 44, 3) := by decide +kernel
theorem dX7_permit_62 : decode cX7_permit 62 = .ok (.astore 4, 2) := by decide +kernel
theorem dX7_permit_64 : decode cX7_permit 64 = .ok (.aload 4, 2) := by decide +kernel
theorem dX7_permit_66 : decode cX7_permit 66 = .ok (.aload_n 0, 1) := by decide +kernel
theorem dX7_permit_67 : decode cX7_permit 67 = .ok (.getfield 60, 3) := by decide +kernel
theorem dX7_permit_70 : decode cX7_permit 70 = .ok (.invokevirtual 67, 3) := by decide +kernel
theorem dX7_permit_73 : decode cX7_permit 73 = .ok (.istore 5, 2) := by decide +kernel
theorem dX7_permit_75 : decode cX7_permit 75 = .ok (.aload 4, 2) := by decide +kernel
theorem dX7_permit_77 : decode cX7_permit 77 = .ok (.iload_n 2, 1) := by decide +kernel
theorem dX7_permit_78 : decode cX7_permit 78 = .ok (.putfield 71, 3) := by decide +kernel
theorem dX7_permit_81 : decode cX7_permit 81 = .ok (.aload 4, 2) := by decide +kernel
theorem dX7_permit_83 : decode cX7_permit 83 = .ok (.iload_n 3, 1) := by decide +kernel
theorem dX7_permit_84 : decode cX7_permit 84 = .ok (.putfield 74, 3) := by decide +kernel
theorem dX7_permit_87 : decode cX7_permit 87 = .ok (.iload 5, 2) := by decide +kernel
theorem dX7_permit_89 : decode cX7_permit 89 = .ok (.ireturn, 1) := by decide +kernel
theorem dX7_watch_0 : decode cX7_watch 0 = .ok (.aload_n 0, 1) := by decide +kernel
theorem dX7_watch_1 : decode cX7_watch 1 = .ok (.aload_n 0, 1) := by decide +kernel
theorem dX7_watch_2 : decode cX7_watch 2 = .ok (.iload_n 1, 1) := by decide +kernel
theorem dX7_watch_3 : decode cX7_watch 3 = .ok (.invokevirtual 56, 3) := by decide +kernel
theorem dX7_watch_6 : decode cX7_watch 6 = .ok (.iconst 1, 1) := by decide +kernel
theorem dX7_watch_7 : decode cX7_watch 7 = .ok (.invokevirtual 41, 3) := by decide +kernel
theorem dX7_watch_10 : decode cX7_watch 10 = .ok (.ifCond .ne 38, 3) := by decide +kernel
theorem dX7_watch_13 : decode cX7_watch 13 = .ok (.aload_n 0, 1) := by decide +kernel
theorem dX7_watch_14 : decode cX7_watch 14 = .ok (.iload_n 2, 1) := by decide +kernel
theorem dX7_watch_15 : decode cX7_watch 15 = .ok (.iconst 0, 1) := by decide +kernel
theorem dX7_watch_16 : decode cX7_watch 16 = .ok (.sipush 359, 3) := by decide +kernel
theorem dX7_watch_19 : decode cX7_watch 19 = .ok (.invokestatic 37, 3) := by decide +kernel
theorem dX7_watch_22 : decode cX7_watch 22 = .ok (.ifCond .eq 14, 3) := by decide +kernel
theorem dX7_watch_25 : decode cX7_watch 25 = .ok (.iload_n 3, 1) := by decide +kernel
theorem dX7_watch_26 : decode cX7_watch 26 = .ok (.iload_n 2, 1) := by decide +kernel
theorem dX7_watch_27 : decode cX7_watch 27 = .ok (.sipush 359, 3) := by decide +kernel
theorem dX7_watch_30 : decode cX7_watch 30 = .ok (.invokestatic 37, 3) := by decide +kernel
theorem dX7_watch_33 : decode cX7_watch 33 = .ok (.ifCond .ne 7, 3) := by decide +kernel
theorem dX7_watch_36 : decode cX7_watch 36 = .ok (.iconst 1, 1) := by decide +kernel
theorem dX7_watch_37 : decode cX7_watch 37 = .ok (.goto 4, 3) := by decide +kernel
theorem dX7_watch_40 : decode cX7_watch 40 = .ok (.iconst 0, 1) := by decide +kernel
theorem dX7_watch_41 : decode cX7_watch 41 = .ok (.iconst 2, 1) := by decide +kernel
theorem dX7_watch_42 : decode cX7_watch 42 = .ok (.invokevirtual 29, 3) := by decide +kernel
theorem dX7_watch_45 : decode cX7_watch 45 = .ok (.ifCond .eq 5, 3) := by decide +kernel
theorem dX7_watch_48 : decode cX7_watch 48 = .ok (.iconst 0, 1) := by decide +kernel
theorem dX7_watch_49 : decode cX7_watch 49 = .ok (.ireturn, 1) := by decide +kernel
theorem dX7_watch_50 : decode cX7_watch 50 = .ok (.aload_n 0, 1) := by decide +kernel
theorem dX7_watch_51 : decode cX7_watch 51 = .ok (.getfield 16, 3) := by decide +kernel
theorem dX7_watch_54 : decode cX7_watch 54 = .ok (.iload_n 1, 1) := by decide +kernel
theorem dX7_watch_55 : decode cX7_watch 55 = .ok (.invokevirtual 63, 3) := by decide +kernel
theorem dX7_watch_58 : decode cX7_watch 58 = .ok (.checkcast 44, 3) := by decide +kernel
theorem dX7_watch_61 : decode cX7_watch 61 = .ok (.iload_n 2, 1) := by decide +kernel
theorem dX7_watch_62 : decode cX7_watch 62 = .ok (.putfield 77, 3) := by decide +kernel
theorem dX7_watch_65 : decode cX7_watch 65 = .ok (.aload_n 0, 1) := by decide +kernel
theorem dX7_watch_66 : decode cX7_watch 66 = .ok (.getfield 16, 3) := by decide +kernel
theorem dX7_watch_69 : decode cX7_watch 69 = .ok (.iload_n 1, 1) := by decide +kernel
theorem dX7_watch_70 : decode cX7_watch 70 = .ok (.invokevirtual 63, 3) := by decide +kernel
theorem dX7_watch_73 : decode cX7_watch 73 = .ok (.checkcast 44, 3) := by decide +kernel
theorem dX7_watch_76 : decode cX7_watch 76 = .ok (.iload_n 3, 1) := by decide +kernel
theorem dX7_watch_77 : decode cX7_watch 77 = .ok (.putfield 80, 3) := by decide +kernel
theorem dX7_watch_80 : decode cX7_watch 80 = .ok (.iload_n 3, 1) := by decide +kernel
theorem dX7_watch_81 : decode cX7_watch 81 = .ok (.iload_n 2, 1) := by decide +kernel
theorem dX7_watch_82 : decode cX7_watch 82 = .ok (.isub, 1) := by decide +kernel
theorem dX7_watch_83 : decode cX7_watch 83 = .ok (.iconst 1, 1) := by decide +kernel
theorem dX7_watch_84 : decode cX7_watch 84 = .ok (.iadd, 1) := by decide +kernel
theorem dX7_watch_85 : decode cX7_watch 85 = .ok (.ireturn, 1) := by decide +kernel
theorem dX7_isLegal_0 : decode cX7_isLegal 0 = .ok (.aload_n 0, 1) := by decide +kernel
theorem dX7_isLegal_1 : decode cX7_isLegal 1 = .ok (.getfield 16, 3) := by decide +kernel
theorem dX7_isLegal_4 : decode cX7_isLegal 4 = .ok (.iload_n 2, 1) := by decide +kernel
theorem dX7_isLegal_5 : decode cX7_isLegal 5 = .ok (.invokevirtual 63, 3) := by decide +kernel
theorem dX7_isLegal_8 : decode cX7_isLegal 8 = .ok (.checkcast 44, 3) := by decide +kernel
theorem dX7_isLegal_11 : decode cX7_isLegal 11 = .ok (.aload_n 0, 1) := by decide +kernel
theorem dX7_isLegal_12 : decode cX7_isLegal 12 = .ok (.getfield 60, 3) := by decide +kernel
theorem dX7_isLegal_15 : decode cX7_isLegal 15 = .ok (.invokevirtual 67, 3) := by decide +kernel
theorem dX7_isLegal_18 : decode cX7_isLegal 18 = .ok (.aload_n 0, 1) := by decide +kernel
theorem dX7_isLegal_19 : decode cX7_isLegal 19 = .ok (.getfield 20, 3) := by decide +kernel
theorem dX7_isLegal_22 : decode cX7_isLegal 22 = .ok (.iload_n 1, 1) := by decide +kernel
theorem dX7_isLegal_23 : decode cX7_isLegal 23 = .ok (.invokevirtual 63, 3) := by decide +kernel
theorem dX7_isLegal_26 : decode cX7_isLegal 26 = .ok (.checkcast 53, 3) := by decide +kernel
theorem dX7_isLegal_29 : decode cX7_isLegal 29 = .ok (.getfield 83, 3) := by decide +kernel
theorem dX7_isLegal_32 : decode cX7_isLegal 32 = .ok (.if_icmp .ne 7, 3) := by decide +kernel
theorem dX7_isLegal_35 : decode cX7_isLegal 35 = .ok (.iconst 1, 1) := by decide +kernel
theorem dX7_isLegal_36 : decode cX7_isLegal 36 = .ok (.goto 4, 3) := by decide +kernel
theorem dX7_isLegal_39 : decode cX7_isLegal 39 = .ok (.iconst 0, 1) := by decide +kernel
theorem dX7_isLegal_40 : decode cX7_isLegal 40 = .ok (.ireturn, 1) := by decide +kernel
theorem dX7_isWrong_0 : decode cX7_isWrong 0 = .ok (.aload 4, 2) := by decide +kernel
theorem dX7_isWrong_2 : decode cX7_isWrong 2 = .ok (.getfield 84, 3) := by decide +kernel
theorem dX7_isWrong_5 : decode cX7_isWrong 5 = .ok (.iload_n 1, 1) := by decide +kernel
theorem dX7_isWrong_6 : decode cX7_isWrong 6 = .ok (.if_icmp .ne 5, 3) := by decide +kernel
theorem dX7_isWrong_9 : decode cX7_isWrong 9 = .ok (.iconst 0, 1) := by decide +kernel
theorem dX7_isWrong_10 : decode cX7_isWrong 10 = .ok (.ireturn, 1) := by decide +kernel
theorem dX7_isWrong_11 : decode cX7_isWrong 11 = .ok (.aload 4, 2) := by decide +kernel
theorem dX7_isWrong_13 : decode cX7_isWrong 13 = .ok (.getfield 89, 3) := by decide +kernel
theorem dX7_isWrong_16 : decode cX7_isWrong 16 = .ok (.ifCond .eq 5, 3) := by decide +kernel
theorem dX7_isWrong_19 : decode cX7_isWrong 19 = .ok (.iconst 1, 1) := by decide +kernel
theorem dX7_isWrong_20 : decode cX7_isWrong 20 = .ok (.ireturn, 1) := by decide +kernel
theorem dX7_isWrong_21 : decode cX7_isWrong 21 = .ok (.aload_n 0, 1) := by decide +kernel
theorem dX7_isWrong_22 : decode cX7_isWrong 22 = .ok (.getfield 20, 3) := by decide +kernel
theorem dX7_isWrong_25 : decode cX7_isWrong 25 = .ok (.aload 4, 2) := by decide +kernel
theorem dX7_isWrong_27 : decode cX7_isWrong 27 = .ok (.getfield 84, 3) := by decide +kernel
theorem dX7_isWrong_30 : decode cX7_isWrong 30 = .ok (.invokevirtual 63, 3) := by decide +kernel
theorem dX7_isWrong_33 : decode cX7_isWrong 33 = .ok (.checkcast 53, 3) := by decide +kernel
theorem dX7_isWrong_36 : decode cX7_isWrong 36 = .ok (.getfield 83, 3) := by decide +kernel
theorem dX7_isWrong_39 : decode cX7_isWrong 39 = .ok (.aload_n 0, 1) := by decide +kernel
theorem dX7_isWrong_40 : decode cX7_isWrong 40 = .ok (.getfield 20, 3) := by decide +kernel
theorem dX7_isWrong_43 : decode cX7_isWrong 43 = .ok (.iload_n 1, 1) := by decide +kernel
theorem dX7_isWrong_44 : decode cX7_isWrong 44 = .ok (.invokevirtual 63, 3) := by decide +kernel
theorem dX7_isWrong_47 : decode cX7_isWrong 47 = .ok (.checkcast 53, 3) := by decide +kernel
theorem dX7_isWrong_50 : decode cX7_isWrong 50 = .ok (.getfield 83, 3) := by decide +kernel
theorem dX7_isWrong_53 : decode cX7_isWrong 53 = .ok (.if_icmp .eq 35, 3) := by decide +kernel
theorem dX7_isWrong_56 : decode cX7_isWrong 56 = .ok (.iload_n 2, 1) := by decide +kernel
theorem dX7_isWrong_57 : decode cX7_isWrong 57 = .ok (.aload 4, 2) := by decide +kernel
theorem dX7_isWrong_59 : decode cX7_isWrong 59 = .ok (.getfield 93, 3) := by decide +kernel
theorem dX7_isWrong_62 : decode cX7_isWrong 62 = .ok (.if_icmp .gt 26, 3) := by decide +kernel
theorem dX7_isWrong_65 : decode cX7_isWrong 65 = .ok (.aload_n 0, 1) := by decide +kernel
theorem dX7_isWrong_66 : decode cX7_isWrong 66 = .ok (.getfield 60, 3) := by decide +kernel
theorem dX7_isWrong_69 : decode cX7_isWrong 69 = .ok (.aload 4, 2) := by decide +kernel
theorem dX7_isWrong_71 : decode cX7_isWrong 71 = .ok (.getfield 96, 3) := by decide +kernel
theorem dX7_isWrong_74 : decode cX7_isWrong 74 = .ok (.isub, 1) := by decide +kernel
theorem dX7_isWrong_75 : decode cX7_isWrong 75 = .ok (.bipush 20, 2) := by decide +kernel
theorem dX7_isWrong_77 : decode cX7_isWrong 77 = .ok (.if_icmp .ge 11, 3) := by decide +kernel
theorem dX7_isWrong_80 : decode cX7_isWrong 80 = .ok (.iload_n 3, 1) := by decide +kernel
theorem dX7_isWrong_81 : decode cX7_isWrong 81 = .ok (.ifCond .ne 7, 3) := by decide +kernel
theorem dX7_isWrong_84 : decode cX7_isWrong 84 = .ok (.iconst 1, 1) := by decide +kernel
theorem dX7_isWrong_85 : decode cX7_isWrong 85 = .ok (.goto 4, 3) := by decide +kernel
theorem dX7_isWrong_88 : decode cX7_isWrong 88 = .ok (.iconst 0, 1) := by decide +kernel
theorem dX7_isWrong_89 : decode cX7_isWrong 89 = .ok (.ireturn, 1) := by decide +kernel
theorem dX7_isNew_0 : decode cX7_isNew 0 = .ok (.iload_n 1, 1) := by decide +kernel
theorem dX7_isNew_1 : decode cX7_isNew 1 = .ok (.istore_n 3, 1) := by decide +kernel
theorem dX7_isNew_2 : decode cX7_isNew 2 = .ok (.iload_n 3, 1) := by decide +kernel
theorem dX7_isNew_3 : decode cX7_isNew 3 = .ok (.iload_n 2, 1) := by decide +kernel
theorem dX7_isNew_4 : decode cX7_isNew 4 = .ok (.if_icmp .ge 20, 3) := by decide +kernel
theorem dX7_isNew_7 : decode cX7_isNew 7 = .ok (.aload_n 0, 1) := by decide +kernel
theorem dX7_isNew_8 : decode cX7_isNew 8 = .ok (.iload_n 3, 1) := by decide +kernel
theorem dX7_isNew_9 : decode cX7_isNew 9 = .ok (.iaload, 1) := by decide +kernel
theorem dX7_isNew_10 : decode cX7_isNew 10 = .ok (.aload_n 0, 1) := by decide +kernel
theorem dX7_isNew_11 : decode cX7_isNew 11 = .ok (.iload_n 2, 1) := by decide +kernel
theorem dX7_isNew_12 : decode cX7_isNew 12 = .ok (.iaload, 1) := by decide +kernel
theorem dX7_isNew_13 : decode cX7_isNew 13 = .ok (.if_icmp .ne 5, 3) := by decide +kernel
theorem dX7_isNew_16 : decode cX7_isNew 16 = .ok (.iconst 0, 1) := by decide +kernel
theorem dX7_isNew_17 : decode cX7_isNew 17 = .ok (.ireturn, 1) := by decide +kernel
theorem dX7_isNew_18 : decode cX7_isNew 18 = .ok (.iinc 3 1, 3) := by decide +kernel
theorem dX7_isNew_21 : decode cX7_isNew 21 = .ok (.goto (-19), 3) := by decide +kernel
theorem dX7_isNew_24 : decode cX7_isNew 24 = .ok (.aload_n 0, 1) := by decide +kernel
theorem dX7_isNew_25 : decode cX7_isNew 25 = .ok (.iload_n 2, 1) := by decide +kernel
theorem dX7_isNew_26 : decode cX7_isNew 26 = .ok (.iaload, 1) := by decide +kernel
theorem dX7_isNew_27 : decode cX7_isNew 27 = .ok (.iconst (-1), 1) := by decide +kernel
theorem dX7_isNew_28 : decode cX7_isNew 28 = .ok (.if_icmp .eq 7, 3) := by decide +kernel
theorem dX7_isNew_31 : decode cX7_isNew 31 = .ok (.iconst 1, 1) := by decide +kernel
theorem dX7_isNew_32 : decode cX7_isNew 32 = .ok (.goto 4, 3) := by decide +kernel
theorem dX7_isNew_35 : decode cX7_isNew 35 = .ok (.iconst 0, 1) := by decide +kernel
theorem dX7_isNew_36 : decode cX7_isNew 36 = .ok (.ireturn, 1) := by decide +kernel
theorem dX7_wrongsOf_0 : decode cX7_wrongsOf 0 = .ok (.aload_n 0, 1) := by decide +kernel
theorem dX7_wrongsOf_1 : decode cX7_wrongsOf 1 = .ok (.getfield 16, 3) := by decide +kernel
theorem dX7_wrongsOf_4 : decode cX7_wrongsOf 4 = .ok (.iload_n 2, 1) := by decide +kernel
theorem dX7_wrongsOf_5 : decode cX7_wrongsOf 5 = .ok (.invokevirtual 63, 3) := by decide +kernel
theorem dX7_wrongsOf_8 : decode cX7_wrongsOf 8 = .ok (.checkcast 44, 3) := by decide +kernel
theorem dX7_wrongsOf_11 : decode cX7_wrongsOf 11 = .ok (.getfield 97, 3) := by decide +kernel
theorem dX7_wrongsOf_14 : decode cX7_wrongsOf 14 = .ok (.astore 6, 2) := by decide +kernel
theorem dX7_wrongsOf_16 : decode cX7_wrongsOf 16 = .ok (.aload_n 0, 1) := by decide +kernel
theorem dX7_wrongsOf_17 : decode cX7_wrongsOf 17 = .ok (.iload_n 1, 1) := by decide +kernel
theorem dX7_wrongsOf_18 : decode cX7_wrongsOf 18 = .ok (.iload_n 2, 1) := by decide +kernel
theorem dX7_wrongsOf_19 : decode cX7_wrongsOf 19 = .ok (.invokevirtual 101, 3) := by decide +kernel
theorem dX7_wrongsOf_22 : decode cX7_wrongsOf 22 = .ok (.istore 7, 2) := by decide +kernel
theorem dX7_wrongsOf_24 : decode cX7_wrongsOf 24 = .ok (.iconst 0, 1) := by decide +kernel
theorem dX7_wrongsOf_25 : decode cX7_wrongsOf 25 = .ok (.istore 8, 2) := by decide +kernel
theorem dX7_wrongsOf_27 : decode cX7_wrongsOf 27 = .ok (.iload_n 3, 1) := by decide +kernel
theorem dX7_wrongsOf_28 : decode cX7_wrongsOf 28 = .ok (.istore 9, 2) := by decide +kernel
theorem dX7_wrongsOf_30 : decode cX7_wrongsOf 30 = .ok (.iload 9, 2) := by decide +kernel
theorem dX7_wrongsOf_32 : decode cX7_wrongsOf 32 = .ok (.iload_n 3, 1) := by decide +kernel
theorem dX7_wrongsOf_33 : decode cX7_wrongsOf 33 = .ok (.iload 4, 2) := by decide +kernel
theorem dX7_wrongsOf_35 : decode cX7_wrongsOf 35 = .ok (.iadd, 1) := by decide +kernel
theorem dX7_wrongsOf_36 : decode cX7_wrongsOf 36 = .ok (.if_icmp .ge 50, 3) := by decide +kernel
theorem dX7_wrongsOf_39 : decode cX7_wrongsOf 39 = .ok (.aload 6, 2) := by decide +kernel
theorem dX7_wrongsOf_41 : decode cX7_wrongsOf 41 = .ok (.iload_n 3, 1) := by decide +kernel
theorem dX7_wrongsOf_42 : decode cX7_wrongsOf 42 = .ok (.iload 9, 2) := by decide +kernel
theorem dX7_wrongsOf_44 : decode cX7_wrongsOf 44 = .ok (.invokestatic 105, 3) := by decide +kernel
theorem dX7_wrongsOf_47 : decode cX7_wrongsOf 47 = .ok (.ifCond .eq 33, 3) := by decide +kernel
theorem dX7_wrongsOf_50 : decode cX7_wrongsOf 50 = .ok (.aload_n 0, 1) := by decide +kernel
theorem dX7_wrongsOf_51 : decode cX7_wrongsOf 51 = .ok (.iload_n 1, 1) := by decide +kernel
theorem dX7_wrongsOf_52 : decode cX7_wrongsOf 52 = .ok (.iload 5, 2) := by decide +kernel
theorem dX7_wrongsOf_54 : decode cX7_wrongsOf 54 = .ok (.iload 7, 2) := by decide +kernel
theorem dX7_wrongsOf_56 : decode cX7_wrongsOf 56 = .ok (.aload_n 0, 1) := by decide +kernel
theorem dX7_wrongsOf_57 : decode cX7_wrongsOf 57 = .ok (.getfield 23, 3) := by decide +kernel
theorem dX7_wrongsOf_60 : decode cX7_wrongsOf 60 = .ok (.aload 6, 2) := by decide +kernel
theorem dX7_wrongsOf_62 : decode cX7_wrongsOf 62 = .ok (.iload 9, 2) := by decide +kernel
theorem dX7_wrongsOf_64 : decode cX7_wrongsOf 64 = .ok (.iaload, 1) := by decide +kernel
theorem dX7_wrongsOf_65 : decode cX7_wrongsOf 65 = .ok (.invokevirtual 63, 3) := by decide +kernel
theorem dX7_wrongsOf_68 : decode cX7_wrongsOf 68 = .ok (.checkcast 85, 3) := by decide +kernel
theorem dX7_wrongsOf_71 : decode cX7_wrongsOf 71 = .ok (.invokevirtual 109, 3) := by decide +kernel
theorem dX7_wrongsOf_74 : decode cX7_wrongsOf 74 = .ok (.ifCond .eq 6, 3) := by decide +kernel
theorem dX7_wrongsOf_77 : decode cX7_wrongsOf 77 = .ok (.iinc 8 1, 3) := by decide +kernel
theorem dX7_wrongsOf_80 : decode cX7_wrongsOf 80 = .ok (.iinc 9 1, 3) := by decide +kernel
theorem dX7_wrongsOf_83 : decode cX7_wrongsOf 83 = .ok (.goto (-53), 3) := by decide +kernel
theorem dX7_wrongsOf_86 : decode cX7_wrongsOf 86 = .ok (.iload 8, 2) := by decide +kernel
theorem dX7_wrongsOf_88 : decode cX7_wrongsOf 88 = .ok (.ireturn, 1) := by decide +kernel
theorem dX7_isNoPlace_0 : decode cX7_isNoPlace 0 = .ok (.iload_n 2, 1) := by decide +kernel
theorem dX7_isNoPlace_1 : decode cX7_isNoPlace 1 = .ok (.ifCond .lt 48, 3) := by decide +kernel
theorem dX7_isNoPlace_4 : decode cX7_isNoPlace 4 = .ok (.iload_n 3, 1) := by decide +kernel
theorem dX7_isNoPlace_5 : decode cX7_isNoPlace 5 = .ok (.iconst 1, 1) := by decide +kernel
theorem dX7_isNoPlace_6 : decode cX7_isNoPlace 6 = .ok (.if_icmp .lt 43, 3) := by decide +kernel
theorem dX7_isNoPlace_9 : decode cX7_isNoPlace 9 = .ok (.iload_n 3, 1) := by decide +kernel
theorem dX7_isNoPlace_10 : decode cX7_isNoPlace 10 = .ok (.aload_n 0, 1) := by decide +kernel
theorem dX7_isNoPlace_11 : decode cX7_isNoPlace 11 = .ok (.getfield 16, 3) := by decide +kernel
theorem dX7_isNoPlace_14 : decode cX7_isNoPlace 14 = .ok (.iload_n 1, 1) := by decide +kernel
theorem dX7_isNoPlace_15 : decode cX7_isNoPlace 15 = .ok (.invokevirtual 63, 3) := by decide +kernel
theorem dX7_isNoPlace_18 : decode cX7_isNoPlace 18 = .ok (.checkcast 44, 3) := by decide +kernel
theorem dX7_isNoPlace_21 : decode cX7_isNoPlace 21 = .ok (.getfield 97, 3) := by decide +kernel
theorem dX7_isNoPlace_24 : decode cX7_isNoPlace 24 = .ok (.arraylength, 1) := by decide +kernel
theorem dX7_isNoPlace_25 : decode cX7_isNoPlace 25 = .ok (.if_icmp .gt 24, 3) := by decide +kernel
theorem dX7_isNoPlace_28 : decode cX7_isNoPlace 28 = .ok (.iload_n 2, 1) := by decide +kernel
theorem dX7_isNoPlace_29 : decode cX7_isNoPlace 29 = .ok (.aload_n 0, 1) := by decide +kernel
theorem dX7_isNoPlace_30 : decode cX7_isNoPlace 30 = .ok (.getfield 16, 3) := by decide +kernel
theorem dX7_isNoPlace_33 : decode cX7_isNoPlace 33 = .ok (.iload_n 1, 1) := by decide +kernel
theorem dX7_isNoPlace_34 : decode cX7_isNoPlace 34 = .ok (.invokevirtual 63, 3) := by decide +kernel
theorem dX7_isNoPlace_37 : decode cX7_isNoPlace 37 = .ok (.checkcast 44, 3) := by decide +kernel
theorem dX7_isNoPlace_40 : decode cX7_isNoPlace 40 = .ok (.getfield 97, 3) := by decide +kernel
theorem dX7_isNoPlace_43 : decode cX7_isNoPlace 43 = .ok (.arraylength, 1) := by decide +kernel
theorem dX7_isNoPlace_44 : decode cX7_isNoPlace 44 = .ok (.iload_n 3, 1) := by decide +kernel
theorem dX7_isNoPlace_45 : decode cX7_isNoPlace 45 = .ok (.isub, 1) := by decide +kernel
theorem dX7_isNoPlace_46 : decode cX7_isNoPlace 46 = .ok (.if_icmp .le 7, 3) := by decide +kernel
theorem dX7_isNoPlace_49 : decode cX7_isNoPlace 49 = .ok (.iconst 1, 1) := by decide +kernel
theorem dX7_isNoPlace_50 : decode cX7_isNoPlace 50 = .ok (.goto 4, 3) := by decide +kernel
theorem dX7_isNoPlace_53 : decode cX7_isNoPlace 53 = .ok (.iconst 0, 1) := by decide +kernel
theorem dX7_isNoPlace_54 : decode cX7_isNoPlace 54 = .ok (.ireturn, 1) := by decide +kernel
theorem dX7_paint_0 : decode cX7_paint 0 = .ok (.aload_n 0, 1) := by decide +kernel
theorem dX7_paint_1 : decode cX7_paint 1 = .ok (.aload_n 0, 1) := by decide +kernel
theorem dX7_paint_2 : decode cX7_paint 2 = .ok (.iload_n 1, 1) := by decide +kernel
theorem dX7_paint_3 : decode cX7_paint 3 = .ok (.invokevirtual 113, 3) := by decide +kernel
theorem dX7_paint_6 : decode cX7_paint 6 = .ok (.ifCond .ne 11, 3) := by decide +kernel
theorem dX7_paint_9 : decode cX7_paint 9 = .ok (.aload_n 0, 1) := by decide +kernel
theorem dX7_paint_10 : decode cX7_paint 10 = .ok (.iload_n 2, 1) := by decide +kernel
theorem dX7_paint_11 : decode cX7_paint 11 = .ok (.invokevirtual 56, 3) := by decide +kernel
theorem dX7_paint_14 : decode cX7_paint 14 = .ok (.ifCond .eq 7, 3) := by decide +kernel
theorem dX7_paint_17 : decode cX7_paint 17 = .ok (.iconst 1, 1) := by decide +kernel
theorem dX7_paint_18 : decode cX7_paint 18 = .ok (.goto 4, 3) := by decide +kernel
theorem dX7_paint_21 : decode cX7_paint 21 = .ok (.iconst 0, 1) := by decide +kernel
theorem dX7_paint_22 : decode cX7_paint 22 = .ok (.iconst 1, 1) := by decide +kernel
theorem dX7_paint_23 : decode cX7_paint 23 = .ok (.invokevirtual 41, 3) := by decide +kernel
theorem dX7_paint_26 : decode cX7_paint 26 = .ok (.ifCond .ne 48, 3) := by decide +kernel
theorem dX7_paint_29 : decode cX7_paint 29 = .ok (.aload_n 0, 1) := by decide +kernel
theorem dX7_paint_30 : decode cX7_paint 30 = .ok (.aload_n 0, 1) := by decide +kernel
theorem dX7_paint_31 : decode cX7_paint 31 = .ok (.iload_n 2, 1) := by decide +kernel
theorem dX7_paint_32 : decode cX7_paint 32 = .ok (.iload_n 3, 1) := by decide +kernel
theorem dX7_paint_33 : decode cX7_paint 33 = .ok (.iload 4, 2) := by decide +kernel
theorem dX7_paint_35 : decode cX7_paint 35 = .ok (.invokevirtual 116, 3) := by decide +kernel
theorem dX7_paint_38 : decode cX7_paint 38 = .ok (.ifCond .ne 24, 3) := by decide +kernel
theorem dX7_paint_41 : decode cX7_paint 41 = .ok (.iload 5, 2) := by decide +kernel
theorem dX7_paint_43 : decode cX7_paint 43 = .ok (.iconst 0, 1) := by decide +kernel
theorem dX7_paint_44 : decode cX7_paint 44 = .ok (.iconst 3, 1) := by decide +kernel
theorem dX7_paint_45 : decode cX7_paint 45 = .ok (.invokestatic 37, 3) := by decide +kernel
theorem dX7_paint_48 : decode cX7_paint 48 = .ok (.ifCond .eq 14, 3) := by decide +kernel
theorem dX7_paint_51 : decode cX7_paint 51 = .ok (.iload 6, 2) := by decide +kernel
theorem dX7_paint_53 : decode cX7_paint 53 = .ok (.bipush (-2), 2) := by decide +kernel
theorem dX7_paint_55 : decode cX7_paint 55 = .ok (.iconst 2, 1) := by decide +kernel
theorem dX7_paint_56 : decode cX7_paint 56 = .ok (.invokestatic 37, 3) := by decide +kernel
theorem dX7_paint_59 : decode cX7_paint 59 = .ok (.ifCond .ne 7, 3) := by decide +kernel
theorem dX7_paint_62 : decode cX7_paint 62 = .ok (.iconst 1, 1) := by decide +kernel
theorem dX7_paint_63 : decode cX7_paint 63 = .ok (.goto 4, 3) := by decide +kernel
theorem dX7_paint_66 : decode cX7_paint 66 = .ok (.iconst 0, 1) := by decide +kernel
theorem dX7_paint_67 : decode cX7_paint 67 = .ok (.iconst 2, 1) := by decide +kernel
theorem dX7_paint_68 : decode cX7_paint 68 = .ok (.invokevirtual 29, 3) := by decide +kernel
theorem dX7_paint_71 : decode cX7_paint 71 = .ok (.ifCond .eq 5, 3) := by decide +kernel
theorem dX7_paint_74 : decode cX7_paint 74 = .ok (.iconst 0, 1) := by decide +kernel
theorem dX7_paint_75 : decode cX7_paint 75 = .ok (.ireturn, 1) := by decide +kernel
theorem dX7_paint_76 : decode cX7_paint 76 = .ok (.aload_n 0, 1) := by decide +kernel
theorem dX7_paint_77 : decode cX7_paint 77 = .ok (.getfield 20, 3) := by decide +kernel
theorem dX7_paint_80 : decode cX7_paint 80 = .ok (.iload_n 1, 1) := by decide +kernel
theorem dX7_paint_81 : decode cX7_paint 81 = .ok (.invokevirtual 63, 3) := by decide +kernel
theorem dX7_paint_84 : decode cX7_paint 84 = .ok (.checkcast 53, 3) := by decide +kernel
theorem dX7_paint_87 : decode cX7_paint 87 = .ok (.astore 7, 2) := by decide +kernel
theorem dX7_paint_89 : decode cX7_paint 89 = .ok (.aload 7, 2) := by decide +kernel
theorem dX7_paint_91 : decode cX7_paint 91 = .ok (.iload 4, 2) := by decide +kernel
theorem dX7_paint_93 : decode cX7_paint 93 = .ok (.iload 5, 2) := by decide +kernel
theorem dX7_paint_95 : decode cX7_paint 95 = .ok (.invokevirtual 119, 3) := by decide +kernel
theorem dX7_paint_98 : decode cX7_paint 98 = .ok (.istore 8, 2) := by decide +kernel
theorem dX7_paint_100 : decode cX7_paint 100 = .ok (.aload_n 0, 1) := by decide +kernel
theorem dX7_paint_101 : decode cX7_paint 101 = .ok (.aload 7, 2) := by decide +kernel
theorem dX7_paint_103 : decode cX7_paint 103 = .ok (.getfield 123, 3) := by decide +kernel
theorem dX7_paint_106 : decode cX7_paint 106 = .ok (.iload 8, 2) := by decide +kernel
theorem dX7_paint_108 : decode cX7_paint 108 = .ok (.iadd, 1) := by decide +kernel
theorem dX7_paint_109 : decode cX7_paint 109 = .ok (.sipush 360, 3) := by decide +kernel
theorem dX7_paint_112 : decode cX7_paint 112 = .ok (.if_icmp .gt 15, 3) := by decide +kernel
theorem dX7_paint_115 : decode cX7_paint 115 = .ok (.aload_n 0, 1) := by decide +kernel
theorem dX7_paint_116 : decode cX7_paint 116 = .ok (.getfield 23, 3) := by decide +kernel
theorem dX7_paint_119 : decode cX7_paint 119 = .ok (.invokevirtual 33, 3) := by decide +kernel
theorem dX7_paint_122 : decode cX7_paint 122 = .ok (.bipush 60, 2) := by decide +kernel
theorem dX7_paint_124 : decode cX7_paint 124 = .ok (.if_icmp .ne 7, 3) := by decide +kernel
theorem dX7_paint_127 : decode cX7_paint 127 = .ok (.iconst 1, 1) := by decide +kernel
theorem dX7_paint_128 : decode cX7_paint 128 = .ok (.goto 4, 3) := by decide +kernel
theorem dX7_paint_131 : decode cX7_paint 131 = .ok (.iconst 0, 1) := by decide +kernel
theorem dX7_paint_132 : decode cX7_paint 132 = .ok (.iconst 3, 1) := by decide +kernel
theorem dX7_paint_133 : decode cX7_paint 133 = .ok (.invokevirtual 29, 3) := by decide +kernel
theorem dX7_paint_136 : decode cX7_paint 136 = .ok (.ifCond .eq 5, 3) := by decide +kernel
theorem dX7_paint_139 : decode cX7_paint 139 = .ok (.iconst 0, 1) := by decide +kernel
theorem dX7_paint_140 : decode cX7_paint 140 = .ok (.ireturn, 1) := by decide +kernel
theorem dX7_paint_141 : decode cX7_paint 141 = .ok (.aload_n 0, 1) := by decide +kernel
theorem dX7_paint_142 : decode cX7_paint 142 = .ok (.getfield 16, 3) := by decide +kernel
theorem dX7_paint_145 : decode cX7_paint 145 = .ok (.iload_n 2, 1) := by decide +kernel
theorem dX7_paint_146 : decode cX7_paint 146 = .ok (.invokevirtual 63, 3) := by decide +kernel
theorem dX7_paint_149 : decode cX7_paint 149 = .ok (.checkcast 44, 3) := by decide +kernel
theorem dX7_paint_152 : decode cX7_paint 152 = .ok (.astore 9, 2) := by decide +kernel
theorem dX7_paint_154 : decode cX7_paint 154 = .ok (.aload_n 0, 1) := by decide +kernel
theorem dX7_paint_155 : decode cX7_paint 155 = .ok (.iload_n 1, 1) := by decide +kernel
theorem dX7_paint_156 : decode cX7_paint 156 = .ok (.iload_n 2, 1) := by decide +kernel
theorem dX7_paint_157 : decode cX7_paint 157 = .ok (.invokevirtual 101, 3) := by decide +kernel
theorem dX7_paint_160 : decode cX7_paint 160 = .ok (.istore 10, 2) := by decide +kernel
theorem dX7_paint_162 : decode cX7_paint 162 = .ok (.aload_n 0, 1) := by decide +kernel
theorem dX7_paint_163 : decode cX7_paint 163 = .ok (.iload_n 1, 1) := by decide +kernel
theorem dX7_paint_164 : decode cX7_paint 164 = .ok (.iload_n 2, 1) := by decide +kernel
theorem dX7_paint_165 : decode cX7_paint 165 = .ok (.iload_n 3, 1) := by decide +kernel
theorem dX7_paint_166 : decode cX7_paint 166 = .ok (.iload 4, 2) := by decide +kernel
theorem dX7_paint_168 : decode cX7_paint 168 = .ok (.iload 5, 2) := by decide +kernel
theorem dX7_paint_170 : decode cX7_paint 170 = .ok (.invokevirtual 126, 3) := by decide +kernel
theorem dX7_paint_173 : decode cX7_paint 173 = .ok (.istore 11, 2) := by decide +kernel
theorem dX7_paint_175 : decode cX7_paint 175 = .ok (.iload_n 3, 1) := by decide +kernel
theorem dX7_paint_176 : decode cX7_paint 176 = .ok (.istore 12, 2) := by decide +kernel
theorem dX7_paint_178 : decode cX7_paint 178 = .ok (.iload 12, 2) := by decide +kernel
theorem dX7_paint_180 : decode cX7_paint 180 = .ok (.iload_n 3, 1) := by decide +kernel
theorem dX7_paint_181 : decode cX7_paint 181 = .ok (.iload 4, 2) := by decide +kernel
theorem dX7_paint_183 : decode cX7_paint 183 = .ok (.iadd, 1) := by decide +kernel
theorem dX7_paint_184 : decode cX7_paint 184 = .ok (.if_icmp .ge 84, 3) := by decide +kernel
theorem dX7_paint_187 : decode cX7_paint 187 = .ok (.aload 9, 2) := by decide +kernel
theorem dX7_paint_189 : decode cX7_paint 189 = .ok (.getfield 97, 3) := by decide +kernel
theorem dX7_paint_192 : decode cX7_paint 192 = .ok (.iload_n 3, 1) := by decide +kernel
theorem dX7_paint_193 : decode cX7_paint 193 = .ok (.iload 12, 2) := by decide +kernel
theorem dX7_paint_195 : decode cX7_paint 195 = .ok (.invokestatic 105, 3) := by decide +kernel
theorem dX7_paint_198 : decode cX7_paint 198 = .ok (.ifCond .eq 64, 3) := by decide +kernel
theorem dX7_paint_201 : decode cX7_paint 201 = .ok (.aload_n 0, 1) := by decide +kernel
theorem dX7_paint_202 : decode cX7_paint 202 = .ok (.iload_n 1, 1) := by decide +kernel
theorem dX7_paint_203 : decode cX7_paint 203 = .ok (.iload 5, 2) := by decide +kernel
theorem dX7_paint_205 : decode cX7_paint 205 = .ok (.iload 10, 2) := by decide +kernel
theorem dX7_paint_207 : decode cX7_paint 207 = .ok (.aload_n 0, 1) := by decide +kernel
theorem dX7_paint_208 : decode cX7_paint 208 = .ok (.getfield 23, 3) := by decide +kernel
theorem dX7_paint_211 : decode cX7_paint 211 = .ok (.aload 9, 2) := by decide +kernel
theorem dX7_paint_213 : decode cX7_paint 213 = .ok (.getfield 97, 3) := by decide +kernel
theorem dX7_paint_216 : decode cX7_paint 216 = .ok (.iload 12, 2) := by decide +kernel
theorem dX7_paint_218 : decode cX7_paint 218 = .ok (.iaload, 1) := by decide +kernel
theorem dX7_paint_219 : decode cX7_paint 219 = .ok (.invokevirtual 63, 3) := by decide +kernel
theorem dX7_paint_222 : decode cX7_paint 222 = .ok (.checkcast 85, 3) := by decide +kernel
theorem dX7_paint_225 : decode cX7_paint 225 = .ok (.invokevirtual 109, 3) := by decide +kernel
theorem dX7_paint_228 : decode cX7_paint 228 = .ok (.ifCond .eq 34, 3) := by decide +kernel
theorem dX7_paint_231 : decode cX7_paint 231 = .ok (.aload 7, 2) := by decide +kernel
theorem dX7_paint_233 : decode cX7_paint 233 = .ok (.getfield 130, 3) := by decide +kernel
theorem dX7_paint_236 : decode cX7_paint 236 = .ok (.aload_n 0, 1) := by decide +kernel
theorem dX7_paint_237 : decode cX7_paint 237 = .ok (.getfield 23, 3) := by decide +kernel
theorem dX7_paint_240 : decode cX7_paint 240 = .ok (.aload 9, 2) := by decide +kernel
theorem dX7_paint_242 : decode cX7_paint 242 = .ok (.getfield 97, 3) := by decide +kernel
theorem dX7_paint_245 : decode cX7_paint 245 = .ok (.iload 12, 2) := by decide +kernel
theorem dX7_paint_247 : decode cX7_paint 247 = .ok (.iaload, 1) := by decide +kernel
theorem dX7_paint_248 : decode cX7_paint 248 = .ok (.invokevirtual 63, 3) := by decide +kernel
theorem dX7_paint_251 : decode cX7_paint 251 = .ok (.checkcast 85, 3) := by decide +kernel
theorem dX7_paint_254 : decode cX7_paint 254 = .ok (.getfield 84, 3) := by decide +kernel
theorem dX7_paint_257 : decode cX7_paint 257 = .ok (.dup2, 1) := by decide +kernel
theorem dX7_paint_258 : decode cX7_paint 258 = .ok (.iaload, 1) := by decide +kernel
theorem dX7_paint_259 : decode cX7_paint 259 = .ok (.iconst 1, 1) := by decide +kernel
theorem dX7_paint_260 : decode cX7_paint 260 = .ok (.iadd, 1) := by decide +kernel
theorem dX7_paint_261 : decode cX7_paint 261 = .ok (.iastore, 1) := by decide +kernel
theorem dX7_paint_262 : decode cX7_paint 262 = .ok (.iinc 12 1, 3) := by decide +kernel
theorem dX7_paint_265 : decode cX7_paint 265 = .ok (.goto (-87), 3) := by decide +kernel
theorem dX7_paint_268 : decode cX7_paint 268 = .ok (.iload_n 3, 1) := by decide +kernel
theorem dX7_paint_269 : decode cX7_paint 269 = .ok (.istore 12, 2) := by decide +kernel
theorem dX7_paint_271 : decode cX7_paint 271 = .ok (.iload 12, 2) := by decide +kernel
theorem dX7_paint_273 : decode cX7_paint 273 = .ok (.iload_n 3, 1) := by decide +kernel
theorem dX7_paint_274 : decode cX7_paint 274 = .ok (.iload 4, 2) := by decide +kernel
theorem dX7_paint_276 : decode cX7_paint 276 = .ok (.iadd, 1) := by decide +kernel
theorem dX7_paint_277 : decode cX7_paint 277 = .ok (.if_icmp .ge 24, 3) := by decide +kernel
theorem dX7_paint_280 : decode cX7_paint 280 = .ok (.aload 9, 2) := by decide +kernel
theorem dX7_paint_282 : decode cX7_paint 282 = .ok (.getfield 97, 3) := by decide +kernel
theorem dX7_paint_285 : decode cX7_paint 285 = .ok (.iload 12, 2) := by decide +kernel
theorem dX7_paint_287 : decode cX7_paint 287 = .ok (.aload_n 0, 1) := by decide +kernel
theorem dX7_paint_288 : decode cX7_paint 288 = .ok (.getfield 23, 3) := by decide +kernel
theorem dX7_paint_291 : decode cX7_paint 291 = .ok (.invokevirtual 33, 3) := by decide +kernel
theorem dX7_paint_294 : decode cX7_paint 294 = .ok (.iastore, 1) := by decide +kernel
theorem dX7_paint_295 : decode cX7_paint 295 = .ok (.iinc 12 1, 3) := by decide +kernel
theorem dX7_paint_298 : decode cX7_paint 298 = .ok (.goto (-27), 3) := by decide +kernel
theorem dX7_paint_301 : decode cX7_paint 301 = .ok (.aload_n 0, 1) := by decide +kernel
theorem dX7_paint_302 : decode cX7_paint 302 = .ok (.getfield 23, 3) := by decide +kernel
theorem dX7_paint_305 : decode cX7_paint 305 = .ok (.new 85, 3) := by decide +kernel
theorem dX7_paint_308 : decode cX7_paint 308 = .ok (.dup, 1) := by decide +kernel
theorem dX7_paint_309 : decode cX7_paint 309 = .ok (.iload_n 1, 1) := by decide +kernel
theorem dX7_paint_310 : decode cX7_paint 310 = .ok (.iload_n 2, 1) := by decide +kernel
theorem dX7_paint_311 : decode cX7_paint 311 = .ok (.iload_n 3, 1) := by decide +kernel
theorem dX7_paint_312 : decode cX7_paint 312 = .ok (.iload 4, 2) := by decide +kernel
theorem dX7_paint_314 : decode cX7_paint 314 = .ok (.iload 5, 2) := by decide +kernel
theorem dX7_paint_316 : decode cX7_paint 316 = .ok (.aload 7, 2) := by decide +kernel
theorem dX7_paint_318 : decode cX7_paint 318 = .ok (.getfield 133, 3) := by decide +kernel
theorem dX7_paint_321 : decode cX7_paint 321 = .ok (.iload 6, 2) := by decide +kernel
theorem dX7_paint_323 : decode cX7_paint 323 = .ok (.iadd, 1) := by decide +kernel
theorem dX7_paint_324 : decode cX7_paint 324 = .ok (.aload 7, 2) := by decide +kernel
theorem dX7_paint_326 : decode cX7_paint 326 = .ok (.getfield 136, 3) := by decide +kernel
theorem dX7_paint_329 : decode cX7_paint 329 = .ok (.iload 6, 2) := by decide +kernel
theorem dX7_paint_331 : decode cX7_paint 331 = .ok (.isub, 1) := by decide +kernel
theorem dX7_paint_332 : decode cX7_paint 332 = .ok (.aload_n 0, 1) := by decide +kernel
theorem dX7_paint_333 : decode cX7_paint 333 = .ok (.getfield 60, 3) := by decide +kernel
theorem dX7_paint_336 : decode cX7_paint 336 = .ok (.iload 10, 2) := by decide +kernel
theorem dX7_paint_338 : decode cX7_paint 338 = .ok (.invokespecial 139, 3) := by decide +kernel
theorem dX7_paint_341 : decode cX7_paint 341 = .ok (.invokevirtual 49, 3) := by decide +kernel
theorem dX7_paint_344 : decode cX7_paint 344 = .ok (.pop, 1) := by decide +kernel
theorem dX7_paint_345 : decode cX7_paint 345 = .ok (.iload 10, 2) := by decide +kernel
theorem dX7_paint_347 : decode cX7_paint 347 = .ok (.ifCond .ne 53, 3) := by decide +kernel
theorem dX7_paint_350 : decode cX7_paint 350 = .ok (.aload 9, 2) := by decide +kernel
theorem dX7_paint_352 : decode cX7_paint 352 = .ok (.aload 7, 2) := by decide +kernel
theorem dX7_paint_354 : decode cX7_paint 354 = .ok (.getfield 123, 3) := by decide +kernel
theorem dX7_paint_357 : decode cX7_paint 357 = .ok (.iload 8, 2) := by decide +kernel
theorem dX7_paint_359 : decode cX7_paint 359 = .ok (.invokevirtual 142, 3) := by decide +kernel
theorem dX7_paint_362 : decode cX7_paint 362 = .ok (.ifCond .eq 38, 3) := by decide +kernel
theorem dX7_paint_365 : decode cX7_paint 365 = .ok (.aload 7, 2) := by decide +kernel
theorem dX7_paint_367 : decode cX7_paint 367 = .ok (.dup, 1) := by decide +kernel
theorem dX7_paint_368 : decode cX7_paint 368 = .ok (.getfield 145, 3) := by decide +kernel
theorem dX7_paint_371 : decode cX7_paint 371 = .ok (.iconst 1, 1) := by decide +kernel
theorem dX7_paint_372 : decode cX7_paint 372 = .ok (.iadd, 1) := by decide +kernel
theorem dX7_paint_373 : decode cX7_paint 373 = .ok (.putfield 145, 3) := by decide +kernel
theorem dX7_paint_376 : decode cX7_paint 376 = .ok (.aload 7, 2) := by decide +kernel
theorem dX7_paint_378 : decode cX7_paint 378 = .ok (.dup, 1) := by decide +kernel
theorem dX7_paint_379 : decode cX7_paint 379 = .ok (.getfield 148, 3) := by decide +kernel
theorem dX7_paint_382 : decode cX7_paint 382 = .ok (.bipush 20, 2) := by decide +kernel
theorem dX7_paint_384 : decode cX7_paint 384 = .ok (.bipush 10, 2) := by decide +kernel
theorem dX7_paint_386 : decode cX7_paint 386 = .ok (.iload 5, 2) := by decide +kernel
theorem dX7_paint_388 : decode cX7_paint 388 = .ok (.imul, 1) := by decide +kernel
theorem dX7_paint_389 : decode cX7_paint 389 = .ok (.iadd, 1) := by decide +kernel
theorem dX7_paint_390 : decode cX7_paint 390 = .ok (.iadd, 1) := by decide +kernel
theorem dX7_paint_391 : decode cX7_paint 391 = .ok (.putfield 148, 3) := by decide +kernel
theorem dX7_paint_394 : decode cX7_paint 394 = .ok (.aload 7, 2) := by decide +kernel
theorem dX7_paint_396 : decode cX7_paint 396 = .ok (.iconst 1, 1) := by decide +kernel
theorem dX7_paint_397 : decode cX7_paint 397 = .ok (.putfield 151, 3) := by decide +kernel
theorem dX7_paint_400 : decode cX7_paint 400 = .ok (.aload 7, 2) := by decide +kernel
theorem dX7_paint_402 : decode cX7_paint 402 = .ok (.dup, 1) := by decide +kernel
theorem dX7_paint_403 : decode cX7_paint 403 = .ok (.getfield 123, 3) := by decide +kernel
theorem dX7_paint_406 : decode cX7_paint 406 = .ok (.iload 8, 2) := by decide +kernel
theorem dX7_paint_408 : decode cX7_paint 408 = .ok (.iadd, 1) := by decide +kernel
theorem dX7_paint_409 : decode cX7_paint 409 = .ok (.putfield 123, 3) := by decide +kernel
theorem dX7_paint_412 : decode cX7_paint 412 = .ok (.iload 11, 2) := by decide +kernel
theorem dX7_paint_414 : decode cX7_paint 414 = .ok (.ireturn, 1) := by decide +kernel
theorem dX7_isBuffed_0 : decode cX7_isBuffed 0 = .ok (.iload_n 2, 1) := by decide +kernel
theorem dX7_isBuffed_1 : decode cX7_isBuffed 1 = .ok (.iconst (-1), 1) := by decide +kernel
theorem dX7_isBuffed_2 : decode cX7_isBuffed 2 = .ok (.if_icmp .eq 46, 3) := by decide +kernel
theorem dX7_isBuffed_5 : decode cX7_isBuffed 5 = .ok (.aload_n 0, 1) := by decide +kernel
theorem dX7_isBuffed_6 : decode cX7_isBuffed 6 = .ok (.getfield 23, 3) := by decide +kernel
theorem dX7_isBuffed_9 : decode cX7_isBuffed 9 = .ok (.iload_n 2, 1) := by decide +kernel
theorem dX7_isBuffed_10 : decode cX7_isBuffed 10 = .ok (.invokevirtual 63, 3) := by decide +kernel
theorem dX7_isBuffed_13 : decode cX7_isBuffed 13 = .ok (.checkcast 85, 3) := by decide +kernel
theorem dX7_isBuffed_16 : decode cX7_isBuffed 16 = .ok (.getfield 154, 3) := by decide +kernel
theorem dX7_isBuffed_19 : decode cX7_isBuffed 19 = .ok (.ifCond .eq 25, 3) := by decide +kernel
theorem dX7_isBuffed_22 : decode cX7_isBuffed 22 = .ok (.aload_n 0, 1) := by decide +kernel
theorem dX7_isBuffed_23 : decode cX7_isBuffed 23 = .ok (.aload_n 0, 1) := by decide +kernel
theorem dX7_isBuffed_24 : decode cX7_isBuffed 24 = .ok (.getfield 23, 3) := by decide +kernel
theorem dX7_isBuffed_27 : decode cX7_isBuffed 27 = .ok (.iload_n 2, 1) := by decide +kernel
theorem dX7_isBuffed_28 : decode cX7_isBuffed 28 = .ok (.invokevirtual 63, 3) := by decide +kernel
theorem dX7_isBuffed_31 : decode cX7_isBuffed 31 = .ok (.checkcast 85, 3) := by decide +kernel
theorem dX7_isBuffed_34 : decode cX7_isBuffed 34 = .ok (.getfield 84, 3) := by decide +kernel
theorem dX7_isBuffed_37 : decode cX7_isBuffed 37 = .ok (.iload_n 1, 1) := by decide +kernel
theorem dX7_isBuffed_38 : decode cX7_isBuffed 38 = .ok (.invokevirtual 101, 3) := by decide +kernel
theorem dX7_isBuffed_41 : decode cX7_isBuffed 41 = .ok (.ifCond .ne 7, 3) := by decide +kernel
theorem dX7_isBuffed_44 : decode cX7_isBuffed 44 = .ok (.iconst 1, 1) := by decide +kernel
theorem dX7_isBuffed_45 : decode cX7_isBuffed 45 = .ok (.goto 4, 3) := by decide +kernel
theorem dX7_isBuffed_48 : decode cX7_isBuffed 48 = .ok (.iconst 0, 1) := by decide +kernel
theorem dX7_isBuffed_49 : decode cX7_isBuffed 49 = .ok (.ireturn, 1) := by decide +kernel
theorem dX7_buffs_0 : decode cX7_buffs 0 = .ok (.iconst 0, 1) := by decide +kernel
theorem dX7_buffs_1 : decode cX7_buffs 1 = .ok (.istore_n 2, 1) := by decide +kernel
theorem dX7_buffs_2 : decode cX7_buffs 2 = .ok (.aload_n 0, 1) := by decide +kernel
theorem dX7_buffs_3 : decode cX7_buffs 3 = .ok (.getfield 16, 3) := by decide +kernel
theorem dX7_buffs_6 : decode cX7_buffs 6 = .ok (.iload_n 1, 1) := by decide +kernel
theorem dX7_buffs_7 : decode cX7_buffs 7 = .ok (.invokevirtual 63, 3) := by decide +kernel
theorem dX7_buffs_10 : decode cX7_buffs 10 = .ok (.checkcast 44, 3) := by decide +kernel
theorem dX7_buffs_13 : decode cX7_buffs 13 = .ok (.getfield 97, 3) := by decide +kernel
theorem dX7_buffs_16 : decode cX7_buffs 16 = .ok (.astore_n 3, 1) := by decide +kernel
theorem dX7_buffs_17 : decode cX7_buffs 17 = .ok (.aload_n 3, 1) := by decide +kernel
theorem dX7_buffs_18 : decode cX7_buffs 18 = .ok (.arraylength, 1) := by decide +kernel
theorem dX7_buffs_19 : decode cX7_buffs 19 = .ok (.istore 4, 2) := by decide +kernel
theorem dX7_buffs_21 : decode cX7_buffs 21 = .ok (.iconst 0, 1) := by decide +kernel
theorem dX7_buffs_22 : decode cX7_buffs 22 = .ok (.istore 5, 2) := by decide +kernel
theorem dX7_buffs_24 : decode cX7_buffs 24 = .ok (.iload 5, 2) := by decide +kernel
theorem dX7_buffs_26 : decode cX7_buffs 26 = .ok (.iload 4, 2) := by decide +kernel
theorem dX7_buffs_28 : decode cX7_buffs 28 = .ok (.if_icmp .ge 33, 3) := by decide +kernel
theorem dX7_buffs_31 : decode cX7_buffs 31 = .ok (.aload_n 3, 1) := by decide +kernel
theorem dX7_buffs_32 : decode cX7_buffs 32 = .ok (.iload 5, 2) := by decide +kernel
theorem dX7_buffs_34 : decode cX7_buffs 34 = .ok (.iaload, 1) := by decide +kernel
theorem dX7_buffs_35 : decode cX7_buffs 35 = .ok (.istore 6, 2) := by decide +kernel
theorem dX7_buffs_37 : decode cX7_buffs 37 = .ok (.iload_n 2, 1) := by decide +kernel
theorem dX7_buffs_38 : decode cX7_buffs 38 = .ok (.aload_n 0, 1) := by decide +kernel
theorem dX7_buffs_39 : decode cX7_buffs 39 = .ok (.iload_n 1, 1) := by decide +kernel
theorem dX7_buffs_40 : decode cX7_buffs 40 = .ok (.iload 6, 2) := by decide +kernel
theorem dX7_buffs_42 : decode cX7_buffs 42 = .ok (.invokevirtual 156, 3) := by decide +kernel
theorem dX7_buffs_45 : decode cX7_buffs 45 = .ok (.ifCond .eq 7, 3) := by decide +kernel
theorem dX7_buffs_48 : decode cX7_buffs 48 = .ok (.iconst 1, 1) := by decide +kernel
theorem dX7_buffs_49 : decode cX7_buffs 49 = .ok (.goto 4, 3) := by decide +kernel
theorem dX7_buffs_52 : decode cX7_buffs 52 = .ok (.iconst 0, 1) := by decide +kernel
theorem dX7_buffs_53 : decode cX7_buffs 53 = .ok (.iadd, 1) := by decide +kernel
theorem dX7_buffs_54 : decode cX7_buffs 54 = .ok (.istore_n 2, 1) := by decide +kernel
theorem dX7_buffs_55 : decode cX7_buffs 55 = .ok (.iinc 5 1, 3) := by decide +kernel
theorem dX7_buffs_58 : decode cX7_buffs 58 = .ok (.goto (-34), 3) := by decide +kernel
theorem dX7_buffs_61 : decode cX7_buffs 61 = .ok (.iload_n 2, 1) := by decide +kernel
theorem dX7_buffs_62 : decode cX7_buffs 62 = .ok (.ireturn, 1) := by decide +kernel
theorem dX7_buff_0 : decode cX7_buff 0 = .ok (.aload_n 0, 1) := by decide +kernel
theorem dX7_buff_1 : decode cX7_buff 1 = .ok (.aload_n 0, 1) := by decide +kernel
theorem dX7_buff_2 : decode cX7_buff 2 = .ok (.iload_n 1, 1) := by decide +kernel
theorem dX7_buff_3 : decode cX7_buff 3 = .ok (.invokevirtual 56, 3) := by decide +kernel
theorem dX7_buff_6 : decode cX7_buff 6 = .ok (.iconst 1, 1) := by decide +kernel
theorem dX7_buff_7 : decode cX7_buff 7 = .ok (.invokevirtual 41, 3) := by decide +kernel
theorem dX7_buff_10 : decode cX7_buff 10 = .ok (.ifCond .ne 28, 3) := by decide +kernel
theorem dX7_buff_13 : decode cX7_buff 13 = .ok (.aload_n 0, 1) := by decide +kernel
theorem dX7_buff_14 : decode cX7_buff 14 = .ok (.aload_n 0, 1) := by decide +kernel
theorem dX7_buff_15 : decode cX7_buff 15 = .ok (.iload_n 1, 1) := by decide +kernel
theorem dX7_buff_16 : decode cX7_buff 16 = .ok (.invokevirtual 159, 3) := by decide +kernel
theorem dX7_buff_19 : decode cX7_buff 19 = .ok (.aload_n 0, 1) := by decide +kernel
theorem dX7_buff_20 : decode cX7_buff 20 = .ok (.getfield 9, 3) := by decide +kernel
theorem dX7_buff_23 : decode cX7_buff 23 = .ok (.if_icmp .le 7, 3) := by decide +kernel
theorem dX7_buff_26 : decode cX7_buff 26 = .ok (.iconst 1, 1) := by decide +kernel
theorem dX7_buff_27 : decode cX7_buff 27 = .ok (.goto 4, 3) := by decide +kernel
theorem dX7_buff_30 : decode cX7_buff 30 = .ok (.iconst 0, 1) := by decide +kernel
theorem dX7_buff_31 : decode cX7_buff 31 = .ok (.iconst 2, 1) := by decide +kernel
theorem dX7_buff_32 : decode cX7_buff 32 = .ok (.invokevirtual 29, 3) := by decide +kernel
theorem dX7_buff_35 : decode cX7_buff 35 = .ok (.ifCond .eq 5, 3) := by decide +kernel
theorem dX7_buff_38 : decode cX7_buff 38 = .ok (.iconst 0, 1) := by decide +kernel
theorem dX7_buff_39 : decode cX7_buff 39 = .ok (.ireturn, 1) := by decide +kernel
theorem dX7_buff_40 : decode cX7_buff 40 = .ok (.aload_n 0, 1) := by decide +kernel
theorem dX7_buff_41 : decode cX7_buff 41 = .ok (.iload_n 1, 1) := by decide +kernel
theorem dX7_buff_42 : decode cX7_buff 42 = .ok (.invokevirtual 159, 3) := by decide +kernel
theorem dX7_buff_45 : decode cX7_buff 45 = .ok (.istore_n 2, 1) := by decide +kernel
theorem dX7_buff_46 : decode cX7_buff 46 = .ok (.aload_n 0, 1) := by decide +kernel
theorem dX7_buff_47 : decode cX7_buff 47 = .ok (.getfield 16, 3) := by decide +kernel
theorem dX7_buff_50 : decode cX7_buff 50 = .ok (.iload_n 1, 1) := by decide +kernel
theorem dX7_buff_51 : decode cX7_buff 51 = .ok (.invokevirtual 63, 3) := by decide +kernel
theorem dX7_buff_54 : decode cX7_buff 54 = .ok (.checkcast 44, 3) := by decide +kernel
theorem dX7_buff_57 : decode cX7_buff 57 = .ok (.getfield 97, 3) := by decide +kernel
theorem dX7_buff_60 : decode cX7_buff 60 = .ok (.astore_n 3, 1) := by decide +kernel
theorem dX7_buff_61 : decode cX7_buff 61 = .ok (.iconst 0, 1) := by decide +kernel
theorem dX7_buff_62 : decode cX7_buff 62 = .ok (.istore 4, 2) := by decide +kernel
theorem dX7_buff_64 : decode cX7_buff 64 = .ok (.iload 4, 2) := by decide +kernel
theorem dX7_buff_66 : decode cX7_buff 66 = .ok (.aload_n 3, 1) := by decide +kernel
theorem dX7_buff_67 : decode cX7_buff 67 = .ok (.arraylength, 1) := by decide +kernel
theorem dX7_buff_68 : decode cX7_buff 68 = .ok (.if_icmp .ge 26, 3) := by decide +kernel
theorem dX7_buff_71 : decode cX7_buff 71 = .ok (.aload_n 0, 1) := by decide +kernel
theorem dX7_buff_72 : decode cX7_buff 72 = .ok (.iload_n 1, 1) := by decide +kernel
theorem dX7_buff_73 : decode cX7_buff 73 = .ok (.aload_n 3, 1) := by decide +kernel
theorem dX7_buff_74 : decode cX7_buff 74 = .ok (.iload 4, 2) := by decide +kernel
theorem dX7_buff_76 : decode cX7_buff 76 = .ok (.iaload, 1) := by decide +kernel
theorem dX7_buff_77 : decode cX7_buff 77 = .ok (.invokevirtual 156, 3) := by decide +kernel
theorem dX7_buff_80 : decode cX7_buff 80 = .ok (.ifCond .eq 8, 3) := by decide +kernel
theorem dX7_buff_83 : decode cX7_buff 83 = .ok (.aload_n 3, 1) := by decide +kernel
theorem dX7_buff_84 : decode cX7_buff 84 = .ok (.iload 4, 2) := by decide +kernel
theorem dX7_buff_86 : decode cX7_buff 86 = .ok (.iconst (-1), 1) := by decide +kernel
theorem dX7_buff_87 : decode cX7_buff 87 = .ok (.iastore, 1) := by decide +kernel
theorem dX7_buff_88 : decode cX7_buff 88 = .ok (.iinc 4 1, 3) := by decide +kernel
theorem dX7_buff_91 : decode cX7_buff 91 = .ok (.goto (-27), 3) := by decide +kernel
theorem dX7_buff_94 : decode cX7_buff 94 = .ok (.aload_n 0, 1) := by decide +kernel
theorem dX7_buff_95 : decode cX7_buff 95 = .ok (.dup, 1) := by decide +kernel
theorem dX7_buff_96 : decode cX7_buff 96 = .ok (.getfield 9, 3) := by decide +kernel
theorem dX7_buff_99 : decode cX7_buff 99 = .ok (.iload_n 2, 1) := by decide +kernel
theorem dX7_buff_100 : decode cX7_buff 100 = .ok (.isub, 1) := by decide +kernel
theorem dX7_buff_101 : decode cX7_buff 101 = .ok (.putfield 9, 3) := by decide +kernel
theorem dX7_buff_104 : decode cX7_buff 104 = .ok (.iload_n 2, 1) := by decide +kernel
theorem dX7_buff_105 : decode cX7_buff 105 = .ok (.ireturn, 1) := by decide +kernel
theorem dX7_clear_0 : decode cX7_clear 0 = .ok (.aload_n 0, 1) := by decide +kernel
theorem dX7_clear_1 : decode cX7_clear 1 = .ok (.aload_n 0, 1) := by decide +kernel
theorem dX7_clear_2 : decode cX7_clear 2 = .ok (.iload_n 1, 1) := by decide +kernel
theorem dX7_clear_3 : decode cX7_clear 3 = .ok (.invokevirtual 56, 3) := by decide +kernel
theorem dX7_clear_6 : decode cX7_clear 6 = .ok (.iconst 1, 1) := by decide +kernel
theorem dX7_clear_7 : decode cX7_clear 7 = .ok (.invokevirtual 41, 3) := by decide +kernel
theorem dX7_clear_10 : decode cX7_clear 10 = .ok (.ifCond .eq 5, 3) := by decide +kernel
theorem dX7_clear_13 : decode cX7_clear 13 = .ok (.iconst 0, 1) := by decide +kernel
theorem dX7_clear_14 : decode cX7_clear 14 = .ok (.ireturn, 1) := by decide +kernel
theorem dX7_clear_15 : decode cX7_clear 15 = .ok (.iconst 0, 1) := by decide +kernel
theorem dX7_clear_16 : decode cX7_clear 16 = .ok (.istore_n 2, 1) := by decide +kernel
theorem dX7_clear_17 : decode cX7_clear 17 = .ok (.aload_n 0, 1) := by decide +kernel
theorem dX7_clear_18 : decode cX7_clear 18 = .ok (.getfield 16, 3) := by decide +kernel
theorem dX7_clear_21 : decode cX7_clear 21 = .ok (.iload_n 1, 1) := by decide +kernel
theorem dX7_clear_22 : decode cX7_clear 22 = .ok (.invokevirtual 63, 3) := by decide +kernel
theorem dX7_clear_25 : decode cX7_clear 25 = .ok (.checkcast 44, 3) := by decide +kernel
theorem dX7_clear_28 : decode cX7_clear 28 = .ok (.getfield 97, 3) := by decide +kernel
theorem dX7_clear_31 : decode cX7_clear 31 = .ok (.astore_n 3, 1) := by decide +kernel
theorem dX7_clear_32 : decode cX7_clear 32 = .ok (.aload_n 3, 1) := by decide +kernel
theorem dX7_clear_33 : decode cX7_clear 33 = .ok (.arraylength, 1) := by decide +kernel
theorem dX7_clear_34 : decode cX7_clear 34 = .ok (.istore 4, 2) := by decide +kernel
theorem dX7_clear_36 : decode cX7_clear 36 = .ok (.iconst 0, 1) := by decide +kernel
theorem dX7_clear_37 : decode cX7_clear 37 = .ok (.istore 5, 2) := by decide +kernel
theorem dX7_clear_39 : decode cX7_clear 39 = .ok (.iload 5, 2) := by decide +kernel
theorem dX7_clear_41 : decode cX7_clear 41 = .ok (.iload 4, 2) := by decide +kernel
theorem dX7_clear_43 : decode cX7_clear 43 = .ok (.if_icmp .ge 114, 3) := by decide +kernel
theorem dX7_clear_46 : decode cX7_clear 46 = .ok (.aload_n 3, 1) := by decide +kernel
theorem dX7_clear_47 : decode cX7_clear 47 = .ok (.iload 5, 2) := by decide +kernel
theorem dX7_clear_49 : decode cX7_clear 49 = .ok (.iaload, 1) := by decide +kernel
theorem dX7_clear_50 : decode cX7_clear 50 = .ok (.istore 6, 2) := by decide +kernel
theorem dX7_clear_52 : decode cX7_clear 52 = .ok (.iload 6, 2) := by decide +kernel
theorem dX7_clear_54 : decode cX7_clear 54 = .ok (.iconst (-1), 1) := by decide +kernel
theorem dX7_clear_55 : decode cX7_clear 55 = .ok (.if_icmp .ne 6, 3) := by decide +kernel
theorem dX7_clear_58 : decode cX7_clear 58 = .ok (.goto 93, 3) := by decide +kernel
theorem dX7_clear_61 : decode cX7_clear 61 = .ok (.aload_n 0, 1) := by decide +kernel
theorem dX7_clear_62 : decode cX7_clear 62 = .ok (.getfield 23, 3) := by decide +kernel
theorem dX7_clear_65 : decode cX7_clear 65 = .ok (.iload 6, 2) := by decide +kernel
theorem dX7_clear_67 : decode cX7_clear 67 = .ok (.invokevirtual 63, 3) := by decide +kernel
theorem dX7_clear_70 : decode cX7_clear 70 = .ok (.checkcast 85, 3) := by decide +kernel
theorem dX7_clear_73 : decode cX7_clear 73 = .ok (.astore 7, 2) := by decide +kernel
theorem dX7_clear_75 : decode cX7_clear 75 = .ok (.aload 7, 2) := by decide +kernel
theorem dX7_clear_77 : decode cX7_clear 77 = .ok (.getfield 154, 3) := by decide +kernel
theorem dX7_clear_80 : decode cX7_clear 80 = .ok (.ifCond .eq 71, 3) := by decide +kernel
theorem dX7_clear_83 : decode cX7_clear 83 = .ok (.aload 7, 2) := by decide +kernel
theorem dX7_clear_85 : decode cX7_clear 85 = .ok (.getfield 93, 3) := by decide +kernel
theorem dX7_clear_88 : decode cX7_clear 88 = .ok (.iconst 2, 1) := by decide +kernel
theorem dX7_clear_89 : decode cX7_clear 89 = .ok (.if_icmp .lt 62, 3) := by decide +kernel
theorem dX7_clear_92 : decode cX7_clear 92 = .ok (.aload 7, 2) := by decide +kernel
theorem dX7_clear_94 : decode cX7_clear 94 = .ok (.getfield 162, 3) := by decide +kernel
theorem dX7_clear_97 : decode cX7_clear 97 = .ok (.ifCond .eq 6, 3) := by decide +kernel
theorem dX7_clear_100 : decode cX7_clear 100 = .ok (.goto 51, 3) := by decide +kernel
theorem dX7_clear_103 : decode cX7_clear 103 = .ok (.iload_n 2, 1) := by decide +kernel
theorem dX7_clear_104 : decode cX7_clear 104 = .ok (.iconst 5, 1) := by decide +kernel
theorem dX7_clear_105 : decode cX7_clear 105 = .ok (.getstatic 165, 3) := by decide +kernel
theorem dX7_clear_108 : decode cX7_clear 108 = .ok (.aload 7, 2) := by decide +kernel
theorem dX7_clear_110 : decode cX7_clear 110 = .ok (.getfield 93, 3) := by decide +kernel
theorem dX7_clear_113 : decode cX7_clear 113 = .ok (.iaload, 1) := by decide +kernel
theorem dX7_clear_114 : decode cX7_clear 114 = .ok (.imul, 1) := by decide +kernel
theorem dX7_clear_115 : decode cX7_clear 115 = .ok (.iadd, 1) := by decide +kernel
theorem dX7_clear_116 : decode cX7_clear 116 = .ok (.istore_n 2, 1) := by decide +kernel
theorem dX7_clear_117 : decode cX7_clear 117 = .ok (.aload_n 0, 1) := by decide +kernel
theorem dX7_clear_118 : decode cX7_clear 118 = .ok (.getfield 20, 3) := by decide +kernel
theorem dX7_clear_121 : decode cX7_clear 121 = .ok (.aload 7, 2) := by decide +kernel
theorem dX7_clear_123 : decode cX7_clear 123 = .ok (.getfield 84, 3) := by decide +kernel
theorem dX7_clear_126 : decode cX7_clear 126 = .ok (.invokevirtual 63, 3) := by decide +kernel
theorem dX7_clear_129 : decode cX7_clear 129 = .ok (.checkcast 53, 3) := by decide +kernel
theorem dX7_clear_132 : decode cX7_clear 132 = .ok (.dup, 1) := by decide +kernel
theorem dX7_clear_133 : decode cX7_clear 133 = .ok (.getfield 168, 3) := by decide +kernel
theorem dX7_clear_136 : decode cX7_clear 136 = .ok (.iconst 5, 1) := by decide +kernel
theorem dX7_clear_137 : decode cX7_clear 137 = .ok (.getstatic 165, 3) := by decide +kernel
theorem dX7_clear_140 : decode cX7_clear 140 = .ok (.aload 7, 2) := by decide +kernel
theorem dX7_clear_142 : decode cX7_clear 142 = .ok (.getfield 93, 3) := by decide +kernel
theorem dX7_clear_145 : decode cX7_clear 145 = .ok (.iaload, 1) := by decide +kernel
theorem dX7_clear_146 : decode cX7_clear 146 = .ok (.imul, 1) := by decide +kernel
theorem dX7_clear_147 : decode cX7_clear 147 = .ok (.iadd, 1) := by decide +kernel
theorem dX7_clear_148 : decode cX7_clear 148 = .ok (.putfield 168, 3) := by decide +kernel
theorem dX7_clear_151 : decode cX7_clear 151 = .ok (.iinc 5 1, 3) := by decide +kernel
theorem dX7_clear_154 : decode cX7_clear 154 = .ok (.goto (-115), 3) := by decide +kernel
theorem dX7_clear_157 : decode cX7_clear 157 = .ok (.aload_n 0, 1) := by decide +kernel
theorem dX7_clear_158 : decode cX7_clear 158 = .ok (.getfield 16, 3) := by decide +kernel
theorem dX7_clear_161 : decode cX7_clear 161 = .ok (.iload_n 1, 1) := by decide +kernel
theorem dX7_clear_162 : decode cX7_clear 162 = .ok (.invokevirtual 63, 3) := by decide +kernel
theorem dX7_clear_165 : decode cX7_clear 165 = .ok (.checkcast 44, 3) := by decide +kernel
theorem dX7_clear_168 : decode cX7_clear 168 = .ok (.invokevirtual 171, 3) := by decide +kernel
theorem dX7_clear_171 : decode cX7_clear 171 = .ok (.pop, 1) := by decide +kernel
theorem dX7_clear_172 : decode cX7_clear 172 = .ok (.iload_n 2, 1) := by decide +kernel
theorem dX7_clear_173 : decode cX7_clear 173 = .ok (.ireturn, 1) := by decide +kernel
theorem dX7_seen_0 : decode cX7_seen 0 = .ok (.aload_n 0, 1) := by decide +kernel
theorem dX7_seen_1 : decode cX7_seen 1 = .ok (.getfield 16, 3) := by decide +kernel
theorem dX7_seen_4 : decode cX7_seen 4 = .ok (.aload_n 0, 1) := by decide +kernel
theorem dX7_seen_5 : decode cX7_seen 5 = .ok (.getfield 23, 3) := by decide +kernel
theorem dX7_seen_8 : decode cX7_seen 8 = .ok (.iload_n 1, 1) := by decide +kernel
theorem dX7_seen_9 : decode cX7_seen 9 = .ok (.invokevirtual 63, 3) := by decide +kernel
theorem dX7_seen_12 : decode cX7_seen 12 = .ok (.checkcast 85, 3) := by decide +kernel
theorem dX7_seen_15 : decode cX7_seen 15 = .ok (.getfield 174, 3) := by decide +kernel
theorem dX7_seen_18 : decode cX7_seen 18 = .ok (.invokevirtual 63, 3) := by decide +kernel
theorem dX7_seen_21 : decode cX7_seen 21 = .ok (.checkcast 44, 3) := by decide +kernel
theorem dX7_seen_24 : decode cX7_seen 24 = .ok (.iload_n 1, 1) := by decide +kernel
theorem dX7_seen_25 : decode cX7_seen 25 = .ok (.invokevirtual 177, 3) := by decide +kernel
theorem dX7_seen_28 : decode cX7_seen 28 = .ok (.ireturn, 1) := by decide +kernel
theorem dX7_fame_0 : decode cX7_fame 0 = .ok (.iconst 0, 1) := by decide +kernel
theorem dX7_fame_1 : decode cX7_fame 1 = .ok (.istore_n 2, 1) := by decide +kernel
theorem dX7_fame_2 : decode cX7_fame 2 = .ok (.aload_n 0, 1) := by decide +kernel
theorem dX7_fame_3 : decode cX7_fame 3 = .ok (.getfield 16, 3) := by decide +kernel
theorem dX7_fame_6 : decode cX7_fame 6 = .ok (.invokevirtual 180, 3) := by decide +kernel
theorem dX7_fame_9 : decode cX7_fame 9 = .ok (.astore_n 3, 1) := by decide +kernel
theorem dX7_fame_10 : decode cX7_fame 10 = .ok (.aload_n 3, 1) := by decide +kernel
theorem dX7_fame_11 : decode cX7_fame 11 = .ok (.invokeinterface 184 1, 5) := by decide +kernel
theorem dX7_fame_16 : decode cX7_fame 16 = .ok (.ifCond .eq 105, 3) := by decide +kernel
theorem dX7_fame_19 : decode cX7_fame 19 = .ok (.aload_n 3, 1) := by decide +kernel
theorem dX7_fame_20 : decode cX7_fame 20 = .ok (.invokeinterface 190 1, 5) := by decide +kernel
theorem dX7_fame_25 : decode cX7_fame 25 = .ok (.checkcast 44, 3) := by decide +kernel
theorem dX7_fame_28 : decode cX7_fame 28 = .ok (.astore 4, 2) := by decide +kernel
theorem dX7_fame_30 : decode cX7_fame 30 = .ok (.aload 4, 2) := by decide +kernel
theorem dX7_fame_32 : decode cX7_fame 32 = .ok (.getfield 97, 3) := by decide +kernel
theorem dX7_fame_35 : decode cX7_fame 35 = .ok (.astore 5, 2) := by decide +kernel
theorem dX7_fame_37 : decode cX7_fame 37 = .ok (.aload 5, 2) := by decide +kernel
theorem dX7_fame_39 : decode cX7_fame 39 = .ok (.arraylength, 1) := by decide +kernel
theorem dX7_fame_40 : decode cX7_fame 40 = .ok (.istore 6, 2) := by decide +kernel
theorem dX7_fame_42 : decode cX7_fame 42 = .ok (.iconst 0, 1) := by decide +kernel
theorem dX7_fame_43 : decode cX7_fame 43 = .ok (.istore 7, 2) := by decide +kernel
theorem dX7_fame_45 : decode cX7_fame 45 = .ok (.iload 7, 2) := by decide +kernel
theorem dX7_fame_47 : decode cX7_fame 47 = .ok (.iload 6, 2) := by decide +kernel
theorem dX7_fame_49 : decode cX7_fame 49 = .ok (.if_icmp .ge 69, 3) := by decide +kernel
theorem dX7_fame_52 : decode cX7_fame 52 = .ok (.aload 5, 2) := by decide +kernel
theorem dX7_fame_54 : decode cX7_fame 54 = .ok (.iload 7, 2) := by decide +kernel
theorem dX7_fame_56 : decode cX7_fame 56 = .ok (.iaload, 1) := by decide +kernel
theorem dX7_fame_57 : decode cX7_fame 57 = .ok (.istore 8, 2) := by decide +kernel
theorem dX7_fame_59 : decode cX7_fame 59 = .ok (.iload 8, 2) := by decide +kernel
theorem dX7_fame_61 : decode cX7_fame 61 = .ok (.iconst (-1), 1) := by decide +kernel
theorem dX7_fame_62 : decode cX7_fame 62 = .ok (.if_icmp .eq 50, 3) := by decide +kernel
theorem dX7_fame_65 : decode cX7_fame 65 = .ok (.aload_n 0, 1) := by decide +kernel
theorem dX7_fame_66 : decode cX7_fame 66 = .ok (.getfield 23, 3) := by decide +kernel
theorem dX7_fame_69 : decode cX7_fame 69 = .ok (.iload 8, 2) := by decide +kernel
theorem dX7_fame_71 : decode cX7_fame 71 = .ok (.invokevirtual 63, 3) := by decide +kernel
theorem dX7_fame_74 : decode cX7_fame 74 = .ok (.checkcast 85, 3) := by decide +kernel
theorem dX7_fame_77 : decode cX7_fame 77 = .ok (.getfield 84, 3) := by decide +kernel
theorem dX7_fame_80 : decode cX7_fame 80 = .ok (.iload_n 1, 1) := by decide +kernel
theorem dX7_fame_81 : decode cX7_fame 81 = .ok (.if_icmp .ne 31, 3) := by decide +kernel
theorem dX7_fame_84 : decode cX7_fame 84 = .ok (.iload_n 2, 1) := by decide +kernel
theorem dX7_fame_85 : decode cX7_fame 85 = .ok (.aload 4, 2) := by decide +kernel
theorem dX7_fame_87 : decode cX7_fame 87 = .ok (.getfield 194, 3) := by decide +kernel
theorem dX7_fame_90 : decode cX7_fame 90 = .ok (.getstatic 165, 3) := by decide +kernel
theorem dX7_fame_93 : decode cX7_fame 93 = .ok (.aload_n 0, 1) := by decide +kernel
theorem dX7_fame_94 : decode cX7_fame 94 = .ok (.getfield 23, 3) := by decide +kernel
theorem dX7_fame_97 : decode cX7_fame 97 = .ok (.iload 8, 2) := by decide +kernel
theorem dX7_fame_99 : decode cX7_fame 99 = .ok (.invokevirtual 63, 3) := by decide +kernel
theorem dX7_fame_102 : decode cX7_fame 102 = .ok (.checkcast 85, 3) := by decide +kernel
theorem dX7_fame_105 : decode cX7_fame 105 = .ok (.getfield 93, 3) := by decide +kernel
theorem dX7_fame_108 : decode cX7_fame 108 = .ok (.iaload, 1) := by decide +kernel
theorem dX7_fame_109 : decode cX7_fame 109 = .ok (.imul, 1) := by decide +kernel
theorem dX7_fame_110 : decode cX7_fame 110 = .ok (.iadd, 1) := by decide +kernel
theorem dX7_fame_111 : decode cX7_fame 111 = .ok (.istore_n 2, 1) := by decide +kernel
theorem dX7_fame_112 : decode cX7_fame 112 = .ok (.iinc 7 1, 3) := by decide +kernel
theorem dX7_fame_115 : decode cX7_fame 115 = .ok (.goto (-70), 3) := by decide +kernel
theorem dX7_fame_118 : decode cX7_fame 118 = .ok (.goto (-108), 3) := by decide +kernel
theorem dX7_fame_121 : decode cX7_fame 121 = .ok (.iload_n 2, 1) := by decide +kernel
theorem dX7_fame_122 : decode cX7_fame 122 = .ok (.ireturn, 1) := by decide +kernel
theorem dX7_price_0 : decode cX7_price 0 = .ok (.getstatic 165, 3) := by decide +kernel
theorem dX7_price_3 : decode cX7_price 3 = .ok (.aload_n 0, 1) := by decide +kernel
theorem dX7_price_4 : decode cX7_price 4 = .ok (.getfield 23, 3) := by decide +kernel
theorem dX7_price_7 : decode cX7_price 7 = .ok (.iload_n 1, 1) := by decide +kernel
theorem dX7_price_8 : decode cX7_price 8 = .ok (.invokevirtual 63, 3) := by decide +kernel
theorem dX7_price_11 : decode cX7_price 11 = .ok (.checkcast 85, 3) := by decide +kernel
theorem dX7_price_14 : decode cX7_price 14 = .ok (.getfield 93, 3) := by decide +kernel
theorem dX7_price_17 : decode cX7_price 17 = .ok (.iaload, 1) := by decide +kernel
theorem dX7_price_18 : decode cX7_price 18 = .ok (.aload_n 0, 1) := by decide +kernel
theorem dX7_price_19 : decode cX7_price 19 = .ok (.iload_n 1, 1) := by decide +kernel
theorem dX7_price_20 : decode cX7_price 20 = .ok (.invokevirtual 197, 3) := by decide +kernel
theorem dX7_price_23 : decode cX7_price 23 = .ok (.imul, 1) := by decide +kernel
theorem dX7_price_24 : decode cX7_price 24 = .ok (.bipush 10, 2) := by decide +kernel
theorem dX7_price_26 : decode cX7_price 26 = .ok (.aload_n 0, 1) := by decide +kernel
theorem dX7_price_27 : decode cX7_price 27 = .ok (.aload_n 0, 1) := by decide +kernel
theorem dX7_price_28 : decode cX7_price 28 = .ok (.getfield 23, 3) := by decide +kernel
theorem dX7_price_31 : decode cX7_price 31 = .ok (.iload_n 1, 1) := by decide +kernel
theorem dX7_price_32 : decode cX7_price 32 = .ok (.invokevirtual 63, 3) := by decide +kernel
theorem dX7_price_35 : decode cX7_price 35 = .ok (.checkcast 85, 3) := by decide +kernel
theorem dX7_price_38 : decode cX7_price 38 = .ok (.getfield 84, 3) := by decide +kernel
theorem dX7_price_41 : decode cX7_price 41 = .ok (.invokevirtual 200, 3) := by decide +kernel
theorem dX7_price_44 : decode cX7_price 44 = .ok (.bipush 10, 2) := by decide +kernel
theorem dX7_price_46 : decode cX7_price 46 = .ok (.idiv, 1) := by decide +kernel
theorem dX7_price_47 : decode cX7_price 47 = .ok (.iadd, 1) := by decide +kernel
theorem dX7_price_48 : decode cX7_price 48 = .ok (.imul, 1) := by decide +kernel
theorem dX7_price_49 : decode cX7_price 49 = .ok (.ireturn, 1) := by decide +kernel
theorem dX7_sell_0 : decode cX7_sell 0 = .ok (.aload_n 0, 1) := by decide +kernel
theorem dX7_sell_1 : decode cX7_sell 1 = .ok (.aload_n 0, 1) := by decide +kernel
theorem dX7_sell_2 : decode cX7_sell 2 = .ok (.iload_n 1, 1) := by decide +kernel
theorem dX7_sell_3 : decode cX7_sell 3 = .ok (.invokevirtual 203, 3) := by decide +kernel
theorem dX7_sell_6 : decode cX7_sell 6 = .ok (.iconst 1, 1) := by decide +kernel
theorem dX7_sell_7 : decode cX7_sell 7 = .ok (.invokevirtual 41, 3) := by decide +kernel
theorem dX7_sell_10 : decode cX7_sell 10 = .ok (.ifCond .ne 24, 3) := by decide +kernel
theorem dX7_sell_13 : decode cX7_sell 13 = .ok (.aload_n 0, 1) := by decide +kernel
theorem dX7_sell_14 : decode cX7_sell 14 = .ok (.aload_n 0, 1) := by decide +kernel
theorem dX7_sell_15 : decode cX7_sell 15 = .ok (.iload_n 1, 1) := by decide +kernel
theorem dX7_sell_16 : decode cX7_sell 16 = .ok (.invokevirtual 197, 3) := by decide +kernel
theorem dX7_sell_19 : decode cX7_sell 19 = .ok (.ifCond .ne 7, 3) := by decide +kernel
theorem dX7_sell_22 : decode cX7_sell 22 = .ok (.iconst 1, 1) := by decide +kernel
theorem dX7_sell_23 : decode cX7_sell 23 = .ok (.goto 4, 3) := by decide +kernel
theorem dX7_sell_26 : decode cX7_sell 26 = .ok (.iconst 0, 1) := by decide +kernel
theorem dX7_sell_27 : decode cX7_sell 27 = .ok (.iconst 2, 1) := by decide +kernel
theorem dX7_sell_28 : decode cX7_sell 28 = .ok (.invokevirtual 29, 3) := by decide +kernel
theorem dX7_sell_31 : decode cX7_sell 31 = .ok (.ifCond .eq 5, 3) := by decide +kernel
theorem dX7_sell_34 : decode cX7_sell 34 = .ok (.iconst 0, 1) := by decide +kernel
theorem dX7_sell_35 : decode cX7_sell 35 = .ok (.ireturn, 1) := by decide +kernel
theorem dX7_sell_36 : decode cX7_sell 36 = .ok (.aload_n 0, 1) := by decide +kernel
theorem dX7_sell_37 : decode cX7_sell 37 = .ok (.iload_n 1, 1) := by decide +kernel
theorem dX7_sell_38 : decode cX7_sell 38 = .ok (.invokevirtual 206, 3) := by decide +kernel
theorem dX7_sell_41 : decode cX7_sell 41 = .ok (.istore_n 2, 1) := by decide +kernel
theorem dX7_sell_42 : decode cX7_sell 42 = .ok (.aload_n 0, 1) := by decide +kernel
theorem dX7_sell_43 : decode cX7_sell 43 = .ok (.getfield 16, 3) := by decide +kernel
theorem dX7_sell_46 : decode cX7_sell 46 = .ok (.aload_n 0, 1) := by decide +kernel
theorem dX7_sell_47 : decode cX7_sell 47 = .ok (.getfield 23, 3) := by decide +kernel
theorem dX7_sell_50 : decode cX7_sell 50 = .ok (.iload_n 1, 1) := by decide +kernel
theorem dX7_sell_51 : decode cX7_sell 51 = .ok (.invokevirtual 63, 3) := by decide +kernel
theorem dX7_sell_54 : decode cX7_sell 54 = .ok (.checkcast 85, 3) := by decide +kernel
theorem dX7_sell_57 : decode cX7_sell 57 = .ok (.getfield 174, 3) := by decide +kernel
theorem dX7_sell_60 : decode cX7_sell 60 = .ok (.invokevirtual 63, 3) := by decide +kernel
theorem dX7_sell_63 : decode cX7_sell 63 = .ok (.checkcast 44, 3) := by decide +kernel
theorem dX7_sell_66 : decode cX7_sell 66 = .ok (.getfield 97, 3) := by decide +kernel
theorem dX7_sell_69 : decode cX7_sell 69 = .ok (.astore_n 3, 1) := by decide +kernel
theorem dX7_sell_70 : decode cX7_sell 70 = .ok (.iconst 0, 1) := by decide +kernel
theorem dX7_sell_71 : decode cX7_sell 71 = .ok (.istore 4, 2) := by decide +kernel
theorem dX7_sell_73 : decode cX7_sell 73 = .ok (.iload 4, 2) := by decide +kernel
theorem dX7_sell_75 : decode cX7_sell 75 = .ok (.aload_n 3, 1) := by decide +kernel
theorem dX7_sell_76 : decode cX7_sell 76 = .ok (.arraylength, 1) := by decide +kernel
theorem dX7_sell_77 : decode cX7_sell 77 = .ok (.if_icmp .ge 22, 3) := by decide +kernel
theorem dX7_sell_80 : decode cX7_sell 80 = .ok (.aload_n 3, 1) := by decide +kernel
theorem dX7_sell_81 : decode cX7_sell 81 = .ok (.iload 4, 2) := by decide +kernel
theorem dX7_sell_83 : decode cX7_sell 83 = .ok (.iaload, 1) := by decide +kernel
theorem dX7_sell_84 : decode cX7_sell 84 = .ok (.iload_n 1, 1) := by decide +kernel
theorem dX7_sell_85 : decode cX7_sell 85 = .ok (.if_icmp .ne 8, 3) := by decide +kernel
theorem dX7_sell_88 : decode cX7_sell 88 = .ok (.aload_n 3, 1) := by decide +kernel
theorem dX7_sell_89 : decode cX7_sell 89 = .ok (.iload 4, 2) := by decide +kernel
theorem dX7_sell_91 : decode cX7_sell 91 = .ok (.iconst (-1), 1) := by decide +kernel
theorem dX7_sell_92 : decode cX7_sell 92 = .ok (.iastore, 1) := by decide +kernel
theorem dX7_sell_93 : decode cX7_sell 93 = .ok (.iinc 4 1, 3) := by decide +kernel
theorem dX7_sell_96 : decode cX7_sell 96 = .ok (.goto (-23), 3) := by decide +kernel
theorem dX7_sell_99 : decode cX7_sell 99 = .ok (.aload_n 0, 1) := by decide +kernel
theorem dX7_sell_100 : decode cX7_sell 100 = .ok (.dup, 1) := by decide +kernel
theorem dX7_sell_101 : decode cX7_sell 101 = .ok (.getfield 209, 3) := by decide +kernel
theorem dX7_sell_104 : decode cX7_sell 104 = .ok (.iload_n 2, 1) := by decide +kernel
theorem dX7_sell_105 : decode cX7_sell 105 = .ok (.iadd, 1) := by decide +kernel
theorem dX7_sell_106 : decode cX7_sell 106 = .ok (.putfield 209, 3) := by decide +kernel
theorem dX7_sell_109 : decode cX7_sell 109 = .ok (.iload_n 2, 1) := by decide +kernel
theorem dX7_sell_110 : decode cX7_sell 110 = .ok (.ireturn, 1) := by decide +kernel
theorem dX7_waive_0 : decode cX7_waive 0 = .ok (.aload_n 0, 1) := by decide +kernel
theorem dX7_waive_1 : decode cX7_waive 1 = .ok (.aload_n 0, 1) := by decide +kernel
theorem dX7_waive_2 : decode cX7_waive 2 = .ok (.iload_n 1, 1) := by decide +kernel
theorem dX7_waive_3 : decode cX7_waive 3 = .ok (.invokevirtual 203, 3) := by decide +kernel
theorem dX7_waive_6 : decode cX7_waive 6 = .ok (.iconst 1, 1) := by decide +kernel
theorem dX7_waive_7 : decode cX7_waive 7 = .ok (.invokevirtual 41, 3) := by decide +kernel
theorem dX7_waive_10 : decode cX7_waive 10 = .ok (.ifCond .eq 5, 3) := by decide +kernel
theorem dX7_waive_13 : decode cX7_waive 13 = .ok (.iconst 0, 1) := by decide +kernel
theorem dX7_waive_14 : decode cX7_waive 14 = .ok (.ireturn, 1) := by decide +kernel
theorem dX7_waive_15 : decode cX7_waive 15 = .ok (.aload_n 0, 1) := by decide +kernel
theorem dX7_waive_16 : decode cX7_waive 16 = .ok (.getfield 23, 3) := by decide +kernel
theorem dX7_waive_19 : decode cX7_waive 19 = .ok (.iload_n 1, 1) := by decide +kernel
theorem dX7_waive_20 : decode cX7_waive 20 = .ok (.invokevirtual 63, 3) := by decide +kernel
theorem dX7_waive_23 : decode cX7_waive 23 = .ok (.checkcast 85, 3) := by decide +kernel
theorem dX7_waive_26 : decode cX7_waive 26 = .ok (.getfield 162, 3) := by decide +kernel
theorem dX7_waive_29 : decode cX7_waive 29 = .ok (.istore_n 2, 1) := by decide +kernel
theorem dX7_waive_30 : decode cX7_waive 30 = .ok (.aload_n 0, 1) := by decide +kernel
theorem dX7_waive_31 : decode cX7_waive 31 = .ok (.getfield 23, 3) := by decide +kernel
theorem dX7_waive_34 : decode cX7_waive 34 = .ok (.iload_n 1, 1) := by decide +kernel
theorem dX7_waive_35 : decode cX7_waive 35 = .ok (.invokevirtual 63, 3) := by decide +kernel
theorem dX7_waive_38 : decode cX7_waive 38 = .ok (.checkcast 85, 3) := by decide +kernel
theorem dX7_waive_41 : decode cX7_waive 41 = .ok (.iconst 1, 1) := by decide +kernel
theorem dX7_waive_42 : decode cX7_waive 42 = .ok (.putfield 162, 3) := by decide +kernel
theorem dX7_waive_45 : decode cX7_waive 45 = .ok (.iload_n 2, 1) := by decide +kernel
theorem dX7_waive_46 : decode cX7_waive 46 = .ok (.ifCond .ne 7, 3) := by decide +kernel
theorem dX7_waive_49 : decode cX7_waive 49 = .ok (.iconst 1, 1) := by decide +kernel
theorem dX7_waive_50 : decode cX7_waive 50 = .ok (.goto 4, 3) := by decide +kernel
theorem dX7_waive_53 : decode cX7_waive 53 = .ok (.iconst 0, 1) := by decide +kernel
theorem dX7_waive_54 : decode cX7_waive 54 = .ok (.ireturn, 1) := by decide +kernel
theorem dX7_remember_0 : decode cX7_remember 0 = .ok (.aload_n 0, 1) := by decide +kernel
theorem dX7_remember_1 : decode cX7_remember 1 = .ok (.aload_n 0, 1) := by decide +kernel
theorem dX7_remember_2 : decode cX7_remember 2 = .ok (.iload_n 1, 1) := by decide +kernel
theorem dX7_remember_3 : decode cX7_remember 3 = .ok (.invokevirtual 203, 3) := by decide +kernel
theorem dX7_remember_6 : decode cX7_remember 6 = .ok (.iconst 1, 1) := by decide +kernel
theorem dX7_remember_7 : decode cX7_remember 7 = .ok (.invokevirtual 41, 3) := by decide +kernel
theorem dX7_remember_10 : decode cX7_remember 10 = .ok (.ifCond .eq 5, 3) := by decide +kernel
theorem dX7_remember_13 : decode cX7_remember 13 = .ok (.iconst 0, 1) := by decide +kernel
theorem dX7_remember_14 : decode cX7_remember 14 = .ok (.ireturn, 1) := by decide +kernel
theorem dX7_remember_15 : decode cX7_remember 15 = .ok (.aload_n 0, 1) := by decide +kernel
theorem dX7_remember_16 : decode cX7_remember 16 = .ok (.getfield 23, 3) := by decide +kernel
theorem dX7_remember_19 : decode cX7_remember 19 = .ok (.iload_n 1, 1) := by decide +kernel
theorem dX7_remember_20 : decode cX7_remember 20 = .ok (.invokevirtual 63, 3) := by decide +kernel
theorem dX7_remember_23 : decode cX7_remember 23 = .ok (.checkcast 85, 3) := by decide +kernel
theorem dX7_remember_26 : decode cX7_remember 26 = .ok (.getfield 89, 3) := by decide +kernel
theorem dX7_remember_29 : decode cX7_remember 29 = .ok (.istore_n 2, 1) := by decide +kernel
theorem dX7_remember_30 : decode cX7_remember 30 = .ok (.aload_n 0, 1) := by decide +kernel
theorem dX7_remember_31 : decode cX7_remember 31 = .ok (.getfield 23, 3) := by decide +kernel
theorem dX7_remember_34 : decode cX7_remember 34 = .ok (.iload_n 1, 1) := by decide +kernel
theorem dX7_remember_35 : decode cX7_remember 35 = .ok (.invokevirtual 63, 3) := by decide +kernel
theorem dX7_remember_38 : decode cX7_remember 38 = .ok (.checkcast 85, 3) := by decide +kernel
theorem dX7_remember_41 : decode cX7_remember 41 = .ok (.iconst 1, 1) := by decide +kernel
theorem dX7_remember_42 : decode cX7_remember 42 = .ok (.putfield 89, 3) := by decide +kernel
theorem dX7_remember_45 : decode cX7_remember 45 = .ok (.iload_n 2, 1) := by decide +kernel
theorem dX7_remember_46 : decode cX7_remember 46 = .ok (.ifCond .ne 7, 3) := by decide +kernel
theorem dX7_remember_49 : decode cX7_remember 49 = .ok (.iconst 1, 1) := by decide +kernel
theorem dX7_remember_50 : decode cX7_remember 50 = .ok (.goto 4, 3) := by decide +kernel
theorem dX7_remember_53 : decode cX7_remember 53 = .ok (.iconst 0, 1) := by decide +kernel
theorem dX7_remember_54 : decode cX7_remember 54 = .ok (.ireturn, 1) := by decide +kernel
theorem dX7_pay_0 : decode cX7_pay 0 = .ok (.aload_n 0, 1) := by decide +kernel
theorem dX7_pay_1 : decode cX7_pay 1 = .ok (.aload_n 0, 1) := by decide +kernel
theorem dX7_pay_2 : decode cX7_pay 2 = .ok (.iload_n 1, 1) := by decide +kernel
theorem dX7_pay_3 : decode cX7_pay 3 = .ok (.invokevirtual 113, 3) := by decide +kernel
theorem dX7_pay_6 : decode cX7_pay 6 = .ok (.iconst 1, 1) := by decide +kernel
theorem dX7_pay_7 : decode cX7_pay 7 = .ok (.invokevirtual 41, 3) := by decide +kernel
theorem dX7_pay_10 : decode cX7_pay 10 = .ok (.ifCond .eq 5, 3) := by decide +kernel
theorem dX7_pay_13 : decode cX7_pay 13 = .ok (.iconst 0, 1) := by decide +kernel
theorem dX7_pay_14 : decode cX7_pay 14 = .ok (.ireturn, 1) := by decide +kernel
theorem dX7_pay_15 : decode cX7_pay 15 = .ok (.aload_n 0, 1) := by decide +kernel
theorem dX7_pay_16 : decode cX7_pay 16 = .ok (.getfield 20, 3) := by decide +kernel
theorem dX7_pay_19 : decode cX7_pay 19 = .ok (.iload_n 1, 1) := by decide +kernel
theorem dX7_pay_20 : decode cX7_pay 20 = .ok (.invokevirtual 63, 3) := by decide +kernel
theorem dX7_pay_23 : decode cX7_pay 23 = .ok (.checkcast 53, 3) := by decide +kernel
theorem dX7_pay_26 : decode cX7_pay 26 = .ok (.getfield 148, 3) := by decide +kernel
theorem dX7_pay_29 : decode cX7_pay 29 = .ok (.istore_n 2, 1) := by decide +kernel
theorem dX7_pay_30 : decode cX7_pay 30 = .ok (.aload_n 0, 1) := by decide +kernel
theorem dX7_pay_31 : decode cX7_pay 31 = .ok (.getfield 20, 3) := by decide +kernel
theorem dX7_pay_34 : decode cX7_pay 34 = .ok (.iload_n 1, 1) := by decide +kernel
theorem dX7_pay_35 : decode cX7_pay 35 = .ok (.invokevirtual 63, 3) := by decide +kernel
theorem dX7_pay_38 : decode cX7_pay 38 = .ok (.checkcast 53, 3) := by decide +kernel
theorem dX7_pay_41 : decode cX7_pay 41 = .ok (.iconst 0, 1) := by decide +kernel
theorem dX7_pay_42 : decode cX7_pay 42 = .ok (.putfield 148, 3) := by decide +kernel
theorem dX7_pay_45 : decode cX7_pay 45 = .ok (.iload_n 2, 1) := by decide +kernel
theorem dX7_pay_46 : decode cX7_pay 46 = .ok (.ireturn, 1) := by decide +kernel
theorem dX7_pass_0 : decode cX7_pass 0 = .ok (.aload_n 0, 1) := by decide +kernel
theorem dX7_pass_1 : decode cX7_pass 1 = .ok (.iload_n 1, 1) := by decide +kernel
theorem dX7_pass_2 : decode cX7_pass 2 = .ok (.iconst 1, 1) := by decide +kernel
theorem dX7_pass_3 : decode cX7_pass 3 = .ok (.bipush 30, 2) := by decide +kernel
theorem dX7_pass_5 : decode cX7_pass 5 = .ok (.invokestatic 37, 3) := by decide +kernel
theorem dX7_pass_8 : decode cX7_pass 8 = .ok (.ifCond .ne 7, 3) := by decide +kernel
theorem dX7_pass_11 : decode cX7_pass 11 = .ok (.iconst 1, 1) := by decide +kernel
theorem dX7_pass_12 : decode cX7_pass 12 = .ok (.goto 4, 3) := by decide +kernel
theorem dX7_pass_15 : decode cX7_pass 15 = .ok (.iconst 0, 1) := by decide +kernel
theorem dX7_pass_16 : decode cX7_pass 16 = .ok (.iconst 1, 1) := by decide +kernel
theorem dX7_pass_17 : decode cX7_pass 17 = .ok (.invokevirtual 41, 3) := by decide +kernel
theorem dX7_pass_20 : decode cX7_pass 20 = .ok (.ifCond .ne 28, 3) := by decide +kernel
theorem dX7_pass_23 : decode cX7_pass 23 = .ok (.aload_n 0, 1) := by decide +kernel
theorem dX7_pass_24 : decode cX7_pass 24 = .ok (.aload_n 0, 1) := by decide +kernel
theorem dX7_pass_25 : decode cX7_pass 25 = .ok (.getfield 60, 3) := by decide +kernel
theorem dX7_pass_28 : decode cX7_pass 28 = .ok (.iload_n 1, 1) := by decide +kernel
theorem dX7_pass_29 : decode cX7_pass 29 = .ok (.iadd, 1) := by decide +kernel
theorem dX7_pass_30 : decode cX7_pass 30 = .ok (.sipush 400, 3) := by decide +kernel
theorem dX7_pass_33 : decode cX7_pass 33 = .ok (.if_icmp .le 7, 3) := by decide +kernel
theorem dX7_pass_36 : decode cX7_pass 36 = .ok (.iconst 1, 1) := by decide +kernel
theorem dX7_pass_37 : decode cX7_pass 37 = .ok (.goto 4, 3) := by decide +kernel
theorem dX7_pass_40 : decode cX7_pass 40 = .ok (.iconst 0, 1) := by decide +kernel
theorem dX7_pass_41 : decode cX7_pass 41 = .ok (.iconst 2, 1) := by decide +kernel
theorem dX7_pass_42 : decode cX7_pass 42 = .ok (.invokevirtual 29, 3) := by decide +kernel
theorem dX7_pass_45 : decode cX7_pass 45 = .ok (.ifCond .eq 5, 3) := by decide +kernel
theorem dX7_pass_48 : decode cX7_pass 48 = .ok (.iconst 0, 1) := by decide +kernel
theorem dX7_pass_49 : decode cX7_pass 49 = .ok (.ireturn, 1) := by decide +kernel
theorem dX7_pass_50 : decode cX7_pass 50 = .ok (.iconst 0, 1) := by decide +kernel
theorem dX7_pass_51 : decode cX7_pass 51 = .ok (.istore_n 2, 1) := by decide +kernel
theorem dX7_pass_52 : decode cX7_pass 52 = .ok (.iconst 0, 1) := by decide +kernel
theorem dX7_pass_53 : decode cX7_pass 53 = .ok (.istore_n 3, 1) := by decide +kernel
theorem dX7_pass_54 : decode cX7_pass 54 = .ok (.iload_n 3, 1) := by decide +kernel
theorem dX7_pass_55 : decode cX7_pass 55 = .ok (.iload_n 1, 1) := by decide +kernel
theorem dX7_pass_56 : decode cX7_pass 56 = .ok (.if_icmp .ge 132, 3) := by decide +kernel
theorem dX7_pass_59 : decode cX7_pass 59 = .ok (.aload_n 0, 1) := by decide +kernel
theorem dX7_pass_60 : decode cX7_pass 60 = .ok (.dup, 1) := by decide +kernel
theorem dX7_pass_61 : decode cX7_pass 61 = .ok (.getfield 60, 3) := by decide +kernel
theorem dX7_pass_64 : decode cX7_pass 64 = .ok (.iconst 1, 1) := by decide +kernel
theorem dX7_pass_65 : decode cX7_pass 65 = .ok (.iadd, 1) := by decide +kernel
theorem dX7_pass_66 : decode cX7_pass 66 = .ok (.putfield 60, 3) := by decide +kernel
theorem dX7_pass_69 : decode cX7_pass 69 = .ok (.aload_n 0, 1) := by decide +kernel
theorem dX7_pass_70 : decode cX7_pass 70 = .ok (.dup, 1) := by decide +kernel
theorem dX7_pass_71 : decode cX7_pass 71 = .ok (.getfield 9, 3) := by decide +kernel
theorem dX7_pass_74 : decode cX7_pass 74 = .ok (.iconst 5, 1) := by decide +kernel
theorem dX7_pass_75 : decode cX7_pass 75 = .ok (.iadd, 1) := by decide +kernel
theorem dX7_pass_76 : decode cX7_pass 76 = .ok (.putfield 9, 3) := by decide +kernel
theorem dX7_pass_79 : decode cX7_pass 79 = .ok (.aload_n 0, 1) := by decide +kernel
theorem dX7_pass_80 : decode cX7_pass 80 = .ok (.getfield 20, 3) := by decide +kernel
theorem dX7_pass_83 : decode cX7_pass 83 = .ok (.invokevirtual 180, 3) := by decide +kernel
theorem dX7_pass_86 : decode cX7_pass 86 = .ok (.astore 4, 2) := by decide +kernel
theorem dX7_pass_88 : decode cX7_pass 88 = .ok (.aload 4, 2) := by decide +kernel
theorem dX7_pass_90 : decode cX7_pass 90 = .ok (.invokeinterface 184 1, 5) := by decide +kernel
theorem dX7_pass_95 : decode cX7_pass 95 = .ok (.ifCond .eq 24, 3) := by decide +kernel
theorem dX7_pass_98 : decode cX7_pass 98 = .ok (.aload 4, 2) := by decide +kernel
theorem dX7_pass_100 : decode cX7_pass 100 = .ok (.invokeinterface 190 1, 5) := by decide +kernel
theorem dX7_pass_105 : decode cX7_pass 105 = .ok (.checkcast 53, 3) := by decide +kernel
theorem dX7_pass_108 : decode cX7_pass 108 = .ok (.astore 5, 2) := by decide +kernel
theorem dX7_pass_110 : decode cX7_pass 110 = .ok (.aload 5, 2) := by decide +kernel
theorem dX7_pass_112 : decode cX7_pass 112 = .ok (.iconst 0, 1) := by decide +kernel
theorem dX7_pass_113 : decode cX7_pass 113 = .ok (.putfield 123, 3) := by decide +kernel
theorem dX7_pass_116 : decode cX7_pass 116 = .ok (.goto (-28), 3) := by decide +kernel
theorem dX7_pass_119 : decode cX7_pass 119 = .ok (.aload_n 0, 1) := by decide +kernel
theorem dX7_pass_120 : decode cX7_pass 120 = .ok (.getfield 16, 3) := by decide +kernel
theorem dX7_pass_123 : decode cX7_pass 123 = .ok (.invokevirtual 180, 3) := by decide +kernel
theorem dX7_pass_126 : decode cX7_pass 126 = .ok (.astore 4, 2) := by decide +kernel
theorem dX7_pass_128 : decode cX7_pass 128 = .ok (.aload 4, 2) := by decide +kernel
theorem dX7_pass_130 : decode cX7_pass 130 = .ok (.invokeinterface 184 1, 5) := by decide +kernel
theorem dX7_pass_135 : decode cX7_pass 135 = .ok (.ifCond .eq 47, 3) := by decide +kernel
theorem dX7_pass_138 : decode cX7_pass 138 = .ok (.aload 4, 2) := by decide +kernel
theorem dX7_pass_140 : decode cX7_pass 140 = .ok (.invokeinterface 190 1, 5) := by decide +kernel
theorem dX7_pass_145 : decode cX7_pass 145 = .ok (.checkcast 44, 3) := by decide +kernel
theorem dX7_pass_148 : decode cX7_pass 148 = .ok (.astore 5, 2) := by decide +kernel
theorem dX7_pass_150 : decode cX7_pass 150 = .ok (.aload 5, 2) := by decide +kernel
theorem dX7_pass_152 : decode cX7_pass 152 = .ok (.getfield 212, 3) := by decide +kernel
theorem dX7_pass_155 : decode cX7_pass 155 = .ok (.ifCond .le 24, 3) := by decide +kernel
theorem dX7_pass_158 : decode cX7_pass 158 = .ok (.aload_n 0, 1) := by decide +kernel
theorem dX7_pass_159 : decode cX7_pass 159 = .ok (.getfield 60, 3) := by decide +kernel
theorem dX7_pass_162 : decode cX7_pass 162 = .ok (.aload 5, 2) := by decide +kernel
theorem dX7_pass_164 : decode cX7_pass 164 = .ok (.getfield 212, 3) := by decide +kernel
theorem dX7_pass_167 : decode cX7_pass 167 = .ok (.irem, 1) := by decide +kernel
theorem dX7_pass_168 : decode cX7_pass 168 = .ok (.ifCond .ne 11, 3) := by decide +kernel
theorem dX7_pass_171 : decode cX7_pass 171 = .ok (.iload_n 2, 1) := by decide +kernel
theorem dX7_pass_172 : decode cX7_pass 172 = .ok (.aload 5, 2) := by decide +kernel
theorem dX7_pass_174 : decode cX7_pass 174 = .ok (.invokevirtual 171, 3) := by decide +kernel
theorem dX7_pass_177 : decode cX7_pass 177 = .ok (.iadd, 1) := by decide +kernel
theorem dX7_pass_178 : decode cX7_pass 178 = .ok (.istore_n 2, 1) := by decide +kernel
theorem dX7_pass_179 : decode cX7_pass 179 = .ok (.goto (-51), 3) := by decide +kernel
theorem dX7_pass_182 : decode cX7_pass 182 = .ok (.iinc 3 1, 3) := by decide +kernel
theorem dX7_pass_185 : decode cX7_pass 185 = .ok (.goto (-131), 3) := by decide +kernel
theorem dX7_pass_188 : decode cX7_pass 188 = .ok (.iload_n 2, 1) := by decide +kernel
theorem dX7_pass_189 : decode cX7_pass 189 = .ok (.ireturn, 1) := by decide +kernel
theorem dX7_layersOn_0 : decode cX7_layersOn 0 = .ok (.iconst 0, 1) := by decide +kernel
theorem dX7_layersOn_1 : decode cX7_layersOn 1 = .ok (.istore_n 2, 1) := by decide +kernel
theorem dX7_layersOn_2 : decode cX7_layersOn 2 = .ok (.iconst 0, 1) := by decide +kernel
theorem dX7_layersOn_3 : decode cX7_layersOn 3 = .ok (.istore_n 3, 1) := by decide +kernel
theorem dX7_layersOn_4 : decode cX7_layersOn 4 = .ok (.iload_n 3, 1) := by decide +kernel
theorem dX7_layersOn_5 : decode cX7_layersOn 5 = .ok (.aload_n 0, 1) := by decide +kernel
theorem dX7_layersOn_6 : decode cX7_layersOn 6 = .ok (.getfield 23, 3) := by decide +kernel
theorem dX7_layersOn_9 : decode cX7_layersOn 9 = .ok (.invokevirtual 33, 3) := by decide +kernel
theorem dX7_layersOn_12 : decode cX7_layersOn 12 = .ok (.if_icmp .ge 43, 3) := by decide +kernel
theorem dX7_layersOn_15 : decode cX7_layersOn 15 = .ok (.iload_n 2, 1) := by decide +kernel
theorem dX7_layersOn_16 : decode cX7_layersOn 16 = .ok (.aload_n 0, 1) := by decide +kernel
theorem dX7_layersOn_17 : decode cX7_layersOn 17 = .ok (.getfield 23, 3) := by decide +kernel
theorem dX7_layersOn_20 : decode cX7_layersOn 20 = .ok (.iload_n 3, 1) := by decide +kernel
theorem dX7_layersOn_21 : decode cX7_layersOn 21 = .ok (.invokevirtual 63, 3) := by decide +kernel
theorem dX7_layersOn_24 : decode cX7_layersOn 24 = .ok (.checkcast 85, 3) := by decide +kernel
theorem dX7_layersOn_27 : decode cX7_layersOn 27 = .ok (.getfield 174, 3) := by decide +kernel
theorem dX7_layersOn_30 : decode cX7_layersOn 30 = .ok (.iload_n 1, 1) := by decide +kernel
theorem dX7_layersOn_31 : decode cX7_layersOn 31 = .ok (.if_icmp .ne 15, 3) := by decide +kernel
theorem dX7_layersOn_34 : decode cX7_layersOn 34 = .ok (.aload_n 0, 1) := by decide +kernel
theorem dX7_layersOn_35 : decode cX7_layersOn 35 = .ok (.iload_n 3, 1) := by decide +kernel
theorem dX7_layersOn_36 : decode cX7_layersOn 36 = .ok (.invokevirtual 197, 3) := by decide +kernel
theorem dX7_layersOn_39 : decode cX7_layersOn 39 = .ok (.ifCond .le 7, 3) := by decide +kernel
theorem dX7_layersOn_42 : decode cX7_layersOn 42 = .ok (.iconst 1, 1) := by decide +kernel
theorem dX7_layersOn_43 : decode cX7_layersOn 43 = .ok (.goto 4, 3) := by decide +kernel
theorem dX7_layersOn_46 : decode cX7_layersOn 46 = .ok (.iconst 0, 1) := by decide +kernel
theorem dX7_layersOn_47 : decode cX7_layersOn 47 = .ok (.iadd, 1) := by decide +kernel
theorem dX7_layersOn_48 : decode cX7_layersOn 48 = .ok (.istore_n 2, 1) := by decide +kernel
theorem dX7_layersOn_49 : decode cX7_layersOn 49 = .ok (.iinc 3 1, 3) := by decide +kernel
theorem dX7_layersOn_52 : decode cX7_layersOn 52 = .ok (.goto (-48), 3) := by decide +kernel
theorem dX7_layersOn_55 : decode cX7_layersOn 55 = .ok (.iload_n 2, 1) := by decide +kernel
theorem dX7_layersOn_56 : decode cX7_layersOn 56 = .ok (.ireturn, 1) := by decide +kernel
theorem dX7_ofWallNow_0 : decode cX7_ofWallNow 0 = .ok (.aload_n 0, 1) := by decide +kernel
theorem dX7_ofWallNow_1 : decode cX7_ofWallNow 1 = .ok (.getfield 16, 3) := by decide +kernel
theorem dX7_ofWallNow_4 : decode cX7_ofWallNow 4 = .ok (.iload_n 1, 1) := by decide +kernel
theorem dX7_ofWallNow_5 : decode cX7_ofWallNow 5 = .ok (.invokevirtual 63, 3) := by decide +kernel
theorem dX7_ofWallNow_8 : decode cX7_ofWallNow 8 = .ok (.checkcast 44, 3) := by decide +kernel
theorem dX7_ofWallNow_11 : decode cX7_ofWallNow 11 = .ok (.astore_n 3, 1) := by decide +kernel
theorem dX7_ofWallNow_12 : decode cX7_ofWallNow 12 = .ok (.iload_n 2, 1) := by decide +kernel
theorem dX7_ofWallNow_13 : decode cX7_ofWallNow 13 = .ok (.tableswitch 87 0 5 #[39, 45, 50, 55, 64, 76], 39) := by decide +kernel
theorem dX7_ofWallNow_52 : decode cX7_ofWallNow 52 = .ok (.aload_n 3, 1) := by decide +kernel
theorem dX7_ofWallNow_53 : decode cX7_ofWallNow 53 = .ok (.getfield 97, 3) := by decide +kernel
theorem dX7_ofWallNow_56 : decode cX7_ofWallNow 56 = .ok (.arraylength, 1) := by decide +kernel
theorem dX7_ofWallNow_57 : decode cX7_ofWallNow 57 = .ok (.ireturn, 1) := by decide +kernel
theorem dX7_ofWallNow_58 : decode cX7_ofWallNow 58 = .ok (.aload_n 3, 1) := by decide +kernel
theorem dX7_ofWallNow_59 : decode cX7_ofWallNow 59 = .ok (.getfield 194, 3) := by decide +kernel
theorem dX7_ofWallNow_62 : decode cX7_ofWallNow 62 = .ok (.ireturn, 1) := by decide +kernel
theorem dX7_ofWallNow_63 : decode cX7_ofWallNow 63 = .ok (.aload_n 3, 1) := by decide +kernel
theorem dX7_ofWallNow_64 : decode cX7_ofWallNow 64 = .ok (.getfield 215, 3) := by decide +kernel
theorem dX7_ofWallNow_67 : decode cX7_ofWallNow 67 = .ok (.ireturn, 1) := by decide +kernel
theorem dX7_ofWallNow_68 : decode cX7_ofWallNow 68 = .ok (.aload_n 3, 1) := by decide +kernel
theorem dX7_ofWallNow_69 : decode cX7_ofWallNow 69 = .ok (.aload_n 0, 1) := by decide +kernel
theorem dX7_ofWallNow_70 : decode cX7_ofWallNow 70 = .ok (.getfield 60, 3) := by decide +kernel
theorem dX7_ofWallNow_73 : decode cX7_ofWallNow 73 = .ok (.invokevirtual 67, 3) := by decide +kernel
theorem dX7_ofWallNow_76 : decode cX7_ofWallNow 76 = .ok (.ireturn, 1) := by decide +kernel
theorem dX7_ofWallNow_77 : decode cX7_ofWallNow 77 = .ok (.aload_n 3, 1) := by decide +kernel
theorem dX7_ofWallNow_78 : decode cX7_ofWallNow 78 = .ok (.getfield 97, 3) := by decide +kernel
theorem dX7_ofWallNow_81 : decode cX7_ofWallNow 81 = .ok (.arraylength, 1) := by decide +kernel
theorem dX7_ofWallNow_82 : decode cX7_ofWallNow 82 = .ok (.aload_n 3, 1) := by decide +kernel
theorem dX7_ofWallNow_83 : decode cX7_ofWallNow 83 = .ok (.iconst (-1), 1) := by decide +kernel
theorem dX7_ofWallNow_84 : decode cX7_ofWallNow 84 = .ok (.invokevirtual 177, 3) := by decide +kernel
theorem dX7_ofWallNow_87 : decode cX7_ofWallNow 87 = .ok (.isub, 1) := by decide +kernel
theorem dX7_ofWallNow_88 : decode cX7_ofWallNow 88 = .ok (.ireturn, 1) := by decide +kernel
theorem dX7_ofWallNow_89 : decode cX7_ofWallNow 89 = .ok (.aload_n 3, 1) := by decide +kernel
theorem dX7_ofWallNow_90 : decode cX7_ofWallNow 90 = .ok (.getfield 194, 3) := by decide +kernel
theorem dX7_ofWallNow_93 : decode cX7_ofWallNow 93 = .ok (.aload_n 0, 1) := by decide +kernel
theorem dX7_ofWallNow_94 : decode cX7_ofWallNow 94 = .ok (.iload_n 1, 1) := by decide +kernel
theorem dX7_ofWallNow_95 : decode cX7_ofWallNow 95 = .ok (.invokevirtual 159, 3) := by decide +kernel
theorem dX7_ofWallNow_98 : decode cX7_ofWallNow 98 = .ok (.imul, 1) := by decide +kernel
theorem dX7_ofWallNow_99 : decode cX7_ofWallNow 99 = .ok (.ireturn, 1) := by decide +kernel
theorem dX7_ofWallNow_100 : decode cX7_ofWallNow 100 = .ok (.aload_n 0, 1) := by decide +kernel
theorem dX7_ofWallNow_101 : decode cX7_ofWallNow 101 = .ok (.iload_n 1, 1) := by decide +kernel
theorem dX7_ofWallNow_102 : decode cX7_ofWallNow 102 = .ok (.invokevirtual 218, 3) := by decide +kernel
theorem dX7_ofWallNow_105 : decode cX7_ofWallNow 105 = .ok (.ireturn, 1) := by decide +kernel
theorem dX7_ofWall_0 : decode cX7_ofWall 0 = .ok (.aload_n 0, 1) := by decide +kernel
theorem dX7_ofWall_1 : decode cX7_ofWall 1 = .ok (.aload_n 0, 1) := by decide +kernel
theorem dX7_ofWall_2 : decode cX7_ofWall 2 = .ok (.iload_n 1, 1) := by decide +kernel
theorem dX7_ofWall_3 : decode cX7_ofWall 3 = .ok (.invokevirtual 56, 3) := by decide +kernel
theorem dX7_ofWall_6 : decode cX7_ofWall 6 = .ok (.iconst 1, 1) := by decide +kernel
theorem dX7_ofWall_7 : decode cX7_ofWall 7 = .ok (.invokevirtual 41, 3) := by decide +kernel
theorem dX7_ofWall_10 : decode cX7_ofWall 10 = .ok (.ifCond .ne 26, 3) := by decide +kernel
theorem dX7_ofWall_13 : decode cX7_ofWall 13 = .ok (.aload_n 0, 1) := by decide +kernel
theorem dX7_ofWall_14 : decode cX7_ofWall 14 = .ok (.iload_n 2, 1) := by decide +kernel
theorem dX7_ofWall_15 : decode cX7_ofWall 15 = .ok (.iconst 0, 1) := by decide +kernel
theorem dX7_ofWall_16 : decode cX7_ofWall 16 = .ok (.bipush 6, 2) := by decide +kernel
theorem dX7_ofWall_18 : decode cX7_ofWall 18 = .ok (.invokestatic 37, 3) := by decide +kernel
theorem dX7_ofWall_21 : decode cX7_ofWall 21 = .ok (.ifCond .ne 7, 3) := by decide +kernel
theorem dX7_ofWall_24 : decode cX7_ofWall 24 = .ok (.iconst 1, 1) := by decide +kernel
theorem dX7_ofWall_25 : decode cX7_ofWall 25 = .ok (.goto 4, 3) := by decide +kernel
theorem dX7_ofWall_28 : decode cX7_ofWall 28 = .ok (.iconst 0, 1) := by decide +kernel
theorem dX7_ofWall_29 : decode cX7_ofWall 29 = .ok (.iconst 2, 1) := by decide +kernel
theorem dX7_ofWall_30 : decode cX7_ofWall 30 = .ok (.invokevirtual 29, 3) := by decide +kernel
theorem dX7_ofWall_33 : decode cX7_ofWall 33 = .ok (.ifCond .eq 7, 3) := by decide +kernel
theorem dX7_ofWall_36 : decode cX7_ofWall 36 = .ok (.iconst 0, 1) := by decide +kernel
theorem dX7_ofWall_37 : decode cX7_ofWall 37 = .ok (.goto 9, 3) := by decide +kernel
theorem dX7_ofWall_40 : decode cX7_ofWall 40 = .ok (.aload_n 0, 1) := by decide +kernel
theorem dX7_ofWall_41 : decode cX7_ofWall 41 = .ok (.iload_n 1, 1) := by decide +kernel
theorem dX7_ofWall_42 : decode cX7_ofWall 42 = .ok (.iload_n 2, 1) := by decide +kernel
theorem dX7_ofWall_43 : decode cX7_ofWall 43 = .ok (.invokevirtual 221, 3) := by decide +kernel
theorem dX7_ofWall_46 : decode cX7_ofWall 46 = .ok (.ireturn, 1) := by decide +kernel
theorem dX7_shows_0 : decode cX7_shows 0 = .ok (.aload_n 0, 1) := by decide +kernel
theorem dX7_shows_1 : decode cX7_shows 1 = .ok (.aload_n 0, 1) := by decide +kernel
theorem dX7_shows_2 : decode cX7_shows 2 = .ok (.iload_n 1, 1) := by decide +kernel
theorem dX7_shows_3 : decode cX7_shows 3 = .ok (.invokevirtual 56, 3) := by decide +kernel
theorem dX7_shows_6 : decode cX7_shows 6 = .ok (.ifCond .ne 28, 3) := by decide +kernel
theorem dX7_shows_9 : decode cX7_shows 9 = .ok (.iload_n 2, 1) := by decide +kernel
theorem dX7_shows_10 : decode cX7_shows 10 = .ok (.iconst 0, 1) := by decide +kernel
theorem dX7_shows_11 : decode cX7_shows 11 = .ok (.aload_n 0, 1) := by decide +kernel
theorem dX7_shows_12 : decode cX7_shows 12 = .ok (.getfield 16, 3) := by decide +kernel
theorem dX7_shows_15 : decode cX7_shows 15 = .ok (.iload_n 1, 1) := by decide +kernel
theorem dX7_shows_16 : decode cX7_shows 16 = .ok (.invokevirtual 63, 3) := by decide +kernel
theorem dX7_shows_19 : decode cX7_shows 19 = .ok (.checkcast 44, 3) := by decide +kernel
theorem dX7_shows_22 : decode cX7_shows 22 = .ok (.getfield 97, 3) := by decide +kernel
theorem dX7_shows_25 : decode cX7_shows 25 = .ok (.arraylength, 1) := by decide +kernel
theorem dX7_shows_26 : decode cX7_shows 26 = .ok (.iconst 1, 1) := by decide +kernel
theorem dX7_shows_27 : decode cX7_shows 27 = .ok (.isub, 1) := by decide +kernel
theorem dX7_shows_28 : decode cX7_shows 28 = .ok (.invokestatic 37, 3) := by decide +kernel
theorem dX7_shows_31 : decode cX7_shows 31 = .ok (.ifCond .ne 7, 3) := by decide +kernel
theorem dX7_shows_34 : decode cX7_shows 34 = .ok (.iconst 1, 1) := by decide +kernel
theorem dX7_shows_35 : decode cX7_shows 35 = .ok (.goto 4, 3) := by decide +kernel
theorem dX7_shows_38 : decode cX7_shows 38 = .ok (.iconst 0, 1) := by decide +kernel
theorem dX7_shows_39 : decode cX7_shows 39 = .ok (.iconst 1, 1) := by decide +kernel
theorem dX7_shows_40 : decode cX7_shows 40 = .ok (.invokevirtual 41, 3) := by decide +kernel
theorem dX7_shows_43 : decode cX7_shows 43 = .ok (.ifCond .eq 7, 3) := by decide +kernel
theorem dX7_shows_46 : decode cX7_shows 46 = .ok (.iconst 0, 1) := by decide +kernel
theorem dX7_shows_47 : decode cX7_shows 47 = .ok (.goto 19, 3) := by decide +kernel
theorem dX7_shows_50 : decode cX7_shows 50 = .ok (.aload_n 0, 1) := by decide +kernel
theorem dX7_shows_51 : decode cX7_shows 51 = .ok (.getfield 16, 3) := by decide +kernel
theorem dX7_shows_54 : decode cX7_shows 54 = .ok (.iload_n 1, 1) := by decide +kernel
theorem dX7_shows_55 : decode cX7_shows 55 = .ok (.invokevirtual 63, 3) := by decide +kernel
theorem dX7_shows_58 : decode cX7_shows 58 = .ok (.checkcast 44, 3) := by decide +kernel
theorem dX7_shows_61 : decode cX7_shows 61 = .ok (.getfield 97, 3) := by decide +kernel
theorem dX7_shows_64 : decode cX7_shows 64 = .ok (.iload_n 2, 1) := by decide +kernel
theorem dX7_shows_65 : decode cX7_shows 65 = .ok (.iaload, 1) := by decide +kernel
theorem dX7_shows_66 : decode cX7_shows 66 = .ok (.ireturn, 1) := by decide +kernel
theorem dX7_layersOf_0 : decode cX7_layersOf 0 = .ok (.iconst 0, 1) := by decide +kernel
theorem dX7_layersOf_1 : decode cX7_layersOf 1 = .ok (.istore_n 3, 1) := by decide +kernel
theorem dX7_layersOf_2 : decode cX7_layersOf 2 = .ok (.iconst 0, 1) := by decide +kernel
theorem dX7_layersOf_3 : decode cX7_layersOf 3 = .ok (.istore 4, 2) := by decide +kernel
theorem dX7_layersOf_5 : decode cX7_layersOf 5 = .ok (.iload 4, 2) := by decide +kernel
theorem dX7_layersOf_7 : decode cX7_layersOf 7 = .ok (.aload_n 0, 1) := by decide +kernel
theorem dX7_layersOf_8 : decode cX7_layersOf 8 = .ok (.getfield 23, 3) := by decide +kernel
theorem dX7_layersOf_11 : decode cX7_layersOf 11 = .ok (.invokevirtual 33, 3) := by decide +kernel
theorem dX7_layersOf_14 : decode cX7_layersOf 14 = .ok (.if_icmp .ge 49, 3) := by decide +kernel
theorem dX7_layersOf_17 : decode cX7_layersOf 17 = .ok (.iload_n 3, 1) := by decide +kernel
theorem dX7_layersOf_18 : decode cX7_layersOf 18 = .ok (.aload_n 0, 1) := by decide +kernel
theorem dX7_layersOf_19 : decode cX7_layersOf 19 = .ok (.getfield 23, 3) := by decide +kernel
theorem dX7_layersOf_22 : decode cX7_layersOf 22 = .ok (.iload 4, 2) := by decide +kernel
theorem dX7_layersOf_24 : decode cX7_layersOf 24 = .ok (.invokevirtual 63, 3) := by decide +kernel
theorem dX7_layersOf_27 : decode cX7_layersOf 27 = .ok (.checkcast 85, 3) := by decide +kernel
theorem dX7_layersOf_30 : decode cX7_layersOf 30 = .ok (.getfield 84, 3) := by decide +kernel
theorem dX7_layersOf_33 : decode cX7_layersOf 33 = .ok (.iload_n 1, 1) := by decide +kernel
theorem dX7_layersOf_34 : decode cX7_layersOf 34 = .ok (.if_icmp .ne 20, 3) := by decide +kernel
theorem dX7_layersOf_37 : decode cX7_layersOf 37 = .ok (.iload_n 2, 1) := by decide +kernel
theorem dX7_layersOf_38 : decode cX7_layersOf 38 = .ok (.ifCond .eq 12, 3) := by decide +kernel
theorem dX7_layersOf_41 : decode cX7_layersOf 41 = .ok (.aload_n 0, 1) := by decide +kernel
theorem dX7_layersOf_42 : decode cX7_layersOf 42 = .ok (.iload 4, 2) := by decide +kernel
theorem dX7_layersOf_44 : decode cX7_layersOf 44 = .ok (.invokevirtual 197, 3) := by decide +kernel
theorem dX7_layersOf_47 : decode cX7_layersOf 47 = .ok (.ifCond .le 7, 3) := by decide +kernel
theorem dX7_layersOf_50 : decode cX7_layersOf 50 = .ok (.iconst 1, 1) := by decide +kernel
theorem dX7_layersOf_51 : decode cX7_layersOf 51 = .ok (.goto 4, 3) := by decide +kernel
theorem dX7_layersOf_54 : decode cX7_layersOf 54 = .ok (.iconst 0, 1) := by decide +kernel
theorem dX7_layersOf_55 : decode cX7_layersOf 55 = .ok (.iadd, 1) := by decide +kernel
theorem dX7_layersOf_56 : decode cX7_layersOf 56 = .ok (.istore_n 3, 1) := by decide +kernel
theorem dX7_layersOf_57 : decode cX7_layersOf 57 = .ok (.iinc 4 1, 3) := by decide +kernel
theorem dX7_layersOf_60 : decode cX7_layersOf 60 = .ok (.goto (-55), 3) := by decide +kernel
theorem dX7_layersOf_63 : decode cX7_layersOf 63 = .ok (.iload_n 3, 1) := by decide +kernel
theorem dX7_layersOf_64 : decode cX7_layersOf 64 = .ok (.ireturn, 1) := by decide +kernel
theorem dX7_wrongsOf__0 : decode cX7_wrongsOf_ 0 = .ok (.iconst 0, 1) := by decide +kernel
theorem dX7_wrongsOf__1 : decode cX7_wrongsOf_ 1 = .ok (.istore_n 3, 1) := by decide +kernel
theorem dX7_wrongsOf__2 : decode cX7_wrongsOf_ 2 = .ok (.iconst 0, 1) := by decide +kernel
theorem dX7_wrongsOf__3 : decode cX7_wrongsOf_ 3 = .ok (.istore 4, 2) := by decide +kernel
theorem dX7_wrongsOf__5 : decode cX7_wrongsOf_ 5 = .ok (.iload 4, 2) := by decide +kernel
theorem dX7_wrongsOf__7 : decode cX7_wrongsOf_ 7 = .ok (.aload_n 0, 1) := by decide +kernel
theorem dX7_wrongsOf__8 : decode cX7_wrongsOf_ 8 = .ok (.getfield 20, 3) := by decide +kernel
theorem dX7_wrongsOf__11 : decode cX7_wrongsOf_ 11 = .ok (.invokevirtual 33, 3) := by decide +kernel
theorem dX7_wrongsOf__14 : decode cX7_wrongsOf_ 14 = .ok (.if_icmp .ge 53, 3) := by decide +kernel
theorem dX7_wrongsOf__17 : decode cX7_wrongsOf_ 17 = .ok (.iload_n 3, 1) := by decide +kernel
theorem dX7_wrongsOf__18 : decode cX7_wrongsOf_ 18 = .ok (.iload_n 2, 1) := by decide +kernel
theorem dX7_wrongsOf__19 : decode cX7_wrongsOf_ 19 = .ok (.ifCond .eq 23, 3) := by decide +kernel
theorem dX7_wrongsOf__22 : decode cX7_wrongsOf_ 22 = .ok (.aload_n 0, 1) := by decide +kernel
theorem dX7_wrongsOf__23 : decode cX7_wrongsOf_ 23 = .ok (.getfield 20, 3) := by decide +kernel
theorem dX7_wrongsOf__26 : decode cX7_wrongsOf_ 26 = .ok (.iload_n 1, 1) := by decide +kernel
theorem dX7_wrongsOf__27 : decode cX7_wrongsOf_ 27 = .ok (.invokevirtual 63, 3) := by decide +kernel
theorem dX7_wrongsOf__30 : decode cX7_wrongsOf_ 30 = .ok (.checkcast 53, 3) := by decide +kernel
theorem dX7_wrongsOf__33 : decode cX7_wrongsOf_ 33 = .ok (.getfield 130, 3) := by decide +kernel
theorem dX7_wrongsOf__36 : decode cX7_wrongsOf_ 36 = .ok (.iload 4, 2) := by decide +kernel
theorem dX7_wrongsOf__38 : decode cX7_wrongsOf_ 38 = .ok (.iaload, 1) := by decide +kernel
theorem dX7_wrongsOf__39 : decode cX7_wrongsOf_ 39 = .ok (.goto 20, 3) := by decide +kernel
theorem dX7_wrongsOf__42 : decode cX7_wrongsOf_ 42 = .ok (.aload_n 0, 1) := by decide +kernel
theorem dX7_wrongsOf__43 : decode cX7_wrongsOf_ 43 = .ok (.getfield 20, 3) := by decide +kernel
theorem dX7_wrongsOf__46 : decode cX7_wrongsOf_ 46 = .ok (.iload 4, 2) := by decide +kernel
theorem dX7_wrongsOf__48 : decode cX7_wrongsOf_ 48 = .ok (.invokevirtual 63, 3) := by decide +kernel
theorem dX7_wrongsOf__51 : decode cX7_wrongsOf_ 51 = .ok (.checkcast 53, 3) := by decide +kernel
theorem dX7_wrongsOf__54 : decode cX7_wrongsOf_ 54 = .ok (.getfield 130, 3) := by decide +kernel
theorem dX7_wrongsOf__57 : decode cX7_wrongsOf_ 57 = .ok (.iload_n 1, 1) := by decide +kernel
theorem dX7_wrongsOf__58 : decode cX7_wrongsOf_ 58 = .ok (.iaload, 1) := by decide +kernel
theorem dX7_wrongsOf__59 : decode cX7_wrongsOf_ 59 = .ok (.iadd, 1) := by decide +kernel
theorem dX7_wrongsOf__60 : decode cX7_wrongsOf_ 60 = .ok (.istore_n 3, 1) := by decide +kernel
theorem dX7_wrongsOf__61 : decode cX7_wrongsOf_ 61 = .ok (.iinc 4 1, 3) := by decide +kernel
theorem dX7_wrongsOf__64 : decode cX7_wrongsOf_ 64 = .ok (.goto (-59), 3) := by decide +kernel
theorem dX7_wrongsOf__67 : decode cX7_wrongsOf_ 67 = .ok (.iload_n 3, 1) := by decide +kernel
theorem dX7_wrongsOf__68 : decode cX7_wrongsOf_ 68 = .ok (.ireturn, 1) := by decide +kernel
theorem dX7_ofHandNow_0 : decode cX7_ofHandNow 0 = .ok (.aload_n 0, 1) := by decide +kernel
theorem dX7_ofHandNow_1 : decode cX7_ofHandNow 1 = .ok (.getfield 20, 3) := by decide +kernel
theorem dX7_ofHandNow_4 : decode cX7_ofHandNow 4 = .ok (.iload_n 1, 1) := by decide +kernel
theorem dX7_ofHandNow_5 : decode cX7_ofHandNow 5 = .ok (.invokevirtual 63, 3) := by decide +kernel
theorem dX7_ofHandNow_8 : decode cX7_ofHandNow 8 = .ok (.checkcast 53, 3) := by decide +kernel
theorem dX7_ofHandNow_11 : decode cX7_ofHandNow 11 = .ok (.astore_n 3, 1) := by decide +kernel
theorem dX7_ofHandNow_12 : decode cX7_ofHandNow 12 = .ok (.iload_n 2, 1) := by decide +kernel
theorem dX7_ofHandNow_13 : decode cX7_ofHandNow 13 = .ok (.tableswitch 126 0 9 #[55, 60, 69, 74, 87, 93, 100, 107, 114, 121], 55) := by decide +kernel
theorem dX7_ofHandNow_68 : decode cX7_ofHandNow 68 = .ok (.aload_n 3, 1) := by decide +kernel
theorem dX7_ofHandNow_69 : decode cX7_ofHandNow 69 = .ok (.getfield 83, 3) := by decide +kernel
theorem dX7_ofHandNow_72 : decode cX7_ofHandNow 72 = .ok (.ireturn, 1) := by decide +kernel
theorem dX7_ofHandNow_73 : decode cX7_ofHandNow 73 = .ok (.sipush 360, 3) := by decide +kernel
theorem dX7_ofHandNow_76 : decode cX7_ofHandNow 76 = .ok (.aload_n 3, 1) := by decide +kernel
theorem dX7_ofHandNow_77 : decode cX7_ofHandNow 77 = .ok (.getfield 123, 3) := by decide +kernel
theorem dX7_ofHandNow_80 : decode cX7_ofHandNow 80 = .ok (.isub, 1) := by decide +kernel
theorem dX7_ofHandNow_81 : decode cX7_ofHandNow 81 = .ok (.ireturn, 1) := by decide +kernel
theorem dX7_ofHandNow_82 : decode cX7_ofHandNow 82 = .ok (.aload_n 3, 1) := by decide +kernel
theorem dX7_ofHandNow_83 : decode cX7_ofHandNow 83 = .ok (.getfield 148, 3) := by decide +kernel
theorem dX7_ofHandNow_86 : decode cX7_ofHandNow 86 = .ok (.ireturn, 1) := by decide +kernel
theorem dX7_ofHandNow_87 : decode cX7_ofHandNow 87 = .ok (.aload_n 3, 1) := by decide +kernel
theorem dX7_ofHandNow_88 : decode cX7_ofHandNow 88 = .ok (.getfield 151, 3) := by decide +kernel
theorem dX7_ofHandNow_91 : decode cX7_ofHandNow 91 = .ok (.ifCond .eq 7, 3) := by decide +kernel
theorem dX7_ofHandNow_94 : decode cX7_ofHandNow 94 = .ok (.iconst 1, 1) := by decide +kernel
theorem dX7_ofHandNow_95 : decode cX7_ofHandNow 95 = .ok (.goto 4, 3) := by decide +kernel
theorem dX7_ofHandNow_98 : decode cX7_ofHandNow 98 = .ok (.iconst 0, 1) := by decide +kernel
theorem dX7_ofHandNow_99 : decode cX7_ofHandNow 99 = .ok (.ireturn, 1) := by decide +kernel
theorem dX7_ofHandNow_100 : decode cX7_ofHandNow 100 = .ok (.aload_n 0, 1) := by decide +kernel
theorem dX7_ofHandNow_101 : decode cX7_ofHandNow 101 = .ok (.iload_n 1, 1) := by decide +kernel
theorem dX7_ofHandNow_102 : decode cX7_ofHandNow 102 = .ok (.invokevirtual 200, 3) := by decide +kernel
theorem dX7_ofHandNow_105 : decode cX7_ofHandNow 105 = .ok (.ireturn, 1) := by decide +kernel
theorem dX7_ofHandNow_106 : decode cX7_ofHandNow 106 = .ok (.aload_n 0, 1) := by decide +kernel
theorem dX7_ofHandNow_107 : decode cX7_ofHandNow 107 = .ok (.iload_n 1, 1) := by decide +kernel
theorem dX7_ofHandNow_108 : decode cX7_ofHandNow 108 = .ok (.iconst 0, 1) := by decide +kernel
theorem dX7_ofHandNow_109 : decode cX7_ofHandNow 109 = .ok (.invokevirtual 224, 3) := by decide +kernel
theorem dX7_ofHandNow_112 : decode cX7_ofHandNow 112 = .ok (.ireturn, 1) := by decide +kernel
theorem dX7_ofHandNow_113 : decode cX7_ofHandNow 113 = .ok (.aload_n 0, 1) := by decide +kernel
theorem dX7_ofHandNow_114 : decode cX7_ofHandNow 114 = .ok (.iload_n 1, 1) := by decide +kernel
theorem dX7_ofHandNow_115 : decode cX7_ofHandNow 115 = .ok (.iconst 1, 1) := by decide +kernel
theorem dX7_ofHandNow_116 : decode cX7_ofHandNow 116 = .ok (.invokevirtual 224, 3) := by decide +kernel
theorem dX7_ofHandNow_119 : decode cX7_ofHandNow 119 = .ok (.ireturn, 1) := by decide +kernel
theorem dX7_ofHandNow_120 : decode cX7_ofHandNow 120 = .ok (.aload_n 0, 1) := by decide +kernel
theorem dX7_ofHandNow_121 : decode cX7_ofHandNow 121 = .ok (.iload_n 1, 1) := by decide +kernel
theorem dX7_ofHandNow_122 : decode cX7_ofHandNow 122 = .ok (.iconst 1, 1) := by decide +kernel
theorem dX7_ofHandNow_123 : decode cX7_ofHandNow 123 = .ok (.invokevirtual 228, 3) := by decide +kernel
theorem dX7_ofHandNow_126 : decode cX7_ofHandNow 126 = .ok (.ireturn, 1) := by decide +kernel
theorem dX7_ofHandNow_127 : decode cX7_ofHandNow 127 = .ok (.aload_n 0, 1) := by decide +kernel
theorem dX7_ofHandNow_128 : decode cX7_ofHandNow 128 = .ok (.iload_n 1, 1) := by decide +kernel
theorem dX7_ofHandNow_129 : decode cX7_ofHandNow 129 = .ok (.iconst 0, 1) := by decide +kernel
theorem dX7_ofHandNow_130 : decode cX7_ofHandNow 130 = .ok (.invokevirtual 228, 3) := by decide +kernel
theorem dX7_ofHandNow_133 : decode cX7_ofHandNow 133 = .ok (.ireturn, 1) := by decide +kernel
theorem dX7_ofHandNow_134 : decode cX7_ofHandNow 134 = .ok (.aload_n 3, 1) := by decide +kernel
theorem dX7_ofHandNow_135 : decode cX7_ofHandNow 135 = .ok (.getfield 168, 3) := by decide +kernel
theorem dX7_ofHandNow_138 : decode cX7_ofHandNow 138 = .ok (.ireturn, 1) := by decide +kernel
theorem dX7_ofHandNow_139 : decode cX7_ofHandNow 139 = .ok (.aload_n 3, 1) := by decide +kernel
theorem dX7_ofHandNow_140 : decode cX7_ofHandNow 140 = .ok (.getfield 145, 3) := by decide +kernel
theorem dX7_ofHandNow_143 : decode cX7_ofHandNow 143 = .ok (.ireturn, 1) := by decide +kernel
theorem dX7_ofHand_0 : decode cX7_ofHand 0 = .ok (.aload_n 0, 1) := by decide +kernel
theorem dX7_ofHand_1 : decode cX7_ofHand 1 = .ok (.aload_n 0, 1) := by decide +kernel
theorem dX7_ofHand_2 : decode cX7_ofHand 2 = .ok (.iload_n 1, 1) := by decide +kernel
theorem dX7_ofHand_3 : decode cX7_ofHand 3 = .ok (.invokevirtual 113, 3) := by decide +kernel
theorem dX7_ofHand_6 : decode cX7_ofHand 6 = .ok (.iconst 1, 1) := by decide +kernel
theorem dX7_ofHand_7 : decode cX7_ofHand 7 = .ok (.invokevirtual 41, 3) := by decide +kernel
theorem dX7_ofHand_10 : decode cX7_ofHand 10 = .ok (.ifCond .ne 26, 3) := by decide +kernel
theorem dX7_ofHand_13 : decode cX7_ofHand 13 = .ok (.aload_n 0, 1) := by decide +kernel
theorem dX7_ofHand_14 : decode cX7_ofHand 14 = .ok (.iload_n 2, 1) := by decide +kernel
theorem dX7_ofHand_15 : decode cX7_ofHand 15 = .ok (.iconst 0, 1) := by decide +kernel
theorem dX7_ofHand_16 : decode cX7_ofHand 16 = .ok (.bipush 10, 2) := by decide +kernel
theorem dX7_ofHand_18 : decode cX7_ofHand 18 = .ok (.invokestatic 37, 3) := by decide +kernel
theorem dX7_ofHand_21 : decode cX7_ofHand 21 = .ok (.ifCond .ne 7, 3) := by decide +kernel
theorem dX7_ofHand_24 : decode cX7_ofHand 24 = .ok (.iconst 1, 1) := by decide +kernel
theorem dX7_ofHand_25 : decode cX7_ofHand 25 = .ok (.goto 4, 3) := by decide +kernel
theorem dX7_ofHand_28 : decode cX7_ofHand 28 = .ok (.iconst 0, 1) := by decide +kernel
theorem dX7_ofHand_29 : decode cX7_ofHand 29 = .ok (.iconst 2, 1) := by decide +kernel
theorem dX7_ofHand_30 : decode cX7_ofHand 30 = .ok (.invokevirtual 29, 3) := by decide +kernel
theorem dX7_ofHand_33 : decode cX7_ofHand 33 = .ok (.ifCond .eq 7, 3) := by decide +kernel
theorem dX7_ofHand_36 : decode cX7_ofHand 36 = .ok (.iconst 0, 1) := by decide +kernel
theorem dX7_ofHand_37 : decode cX7_ofHand 37 = .ok (.goto 9, 3) := by decide +kernel
theorem dX7_ofHand_40 : decode cX7_ofHand 40 = .ok (.aload_n 0, 1) := by decide +kernel
theorem dX7_ofHand_41 : decode cX7_ofHand 41 = .ok (.iload_n 1, 1) := by decide +kernel
theorem dX7_ofHand_42 : decode cX7_ofHand 42 = .ok (.iload_n 2, 1) := by decide +kernel
theorem dX7_ofHand_43 : decode cX7_ofHand 43 = .ok (.invokevirtual 230, 3) := by decide +kernel
theorem dX7_ofHand_46 : decode cX7_ofHand 46 = .ok (.ireturn, 1) := by decide +kernel
theorem dX7_suspect_0 : decode cX7_suspect 0 = .ok (.iconst (-1), 1) := by decide +kernel
theorem dX7_suspect_1 : decode cX7_suspect 1 = .ok (.istore_n 2, 1) := by decide +kernel
theorem dX7_suspect_2 : decode cX7_suspect 2 = .ok (.iconst 0, 1) := by decide +kernel
theorem dX7_suspect_3 : decode cX7_suspect 3 = .ok (.istore_n 3, 1) := by decide +kernel
theorem dX7_suspect_4 : decode cX7_suspect 4 = .ok (.iconst 0, 1) := by decide +kernel
theorem dX7_suspect_5 : decode cX7_suspect 5 = .ok (.istore 4, 2) := by decide +kernel
theorem dX7_suspect_7 : decode cX7_suspect 7 = .ok (.iload 4, 2) := by decide +kernel
theorem dX7_suspect_9 : decode cX7_suspect 9 = .ok (.aload_n 0, 1) := by decide +kernel
theorem dX7_suspect_10 : decode cX7_suspect 10 = .ok (.getfield 20, 3) := by decide +kernel
theorem dX7_suspect_13 : decode cX7_suspect 13 = .ok (.invokevirtual 33, 3) := by decide +kernel
theorem dX7_suspect_16 : decode cX7_suspect 16 = .ok (.if_icmp .ge 80, 3) := by decide +kernel
theorem dX7_suspect_19 : decode cX7_suspect 19 = .ok (.aload_n 0, 1) := by decide +kernel
theorem dX7_suspect_20 : decode cX7_suspect 20 = .ok (.getfield 20, 3) := by decide +kernel
theorem dX7_suspect_23 : decode cX7_suspect 23 = .ok (.iload 4, 2) := by decide +kernel
theorem dX7_suspect_25 : decode cX7_suspect 25 = .ok (.invokevirtual 63, 3) := by decide +kernel
theorem dX7_suspect_28 : decode cX7_suspect 28 = .ok (.checkcast 53, 3) := by decide +kernel
theorem dX7_suspect_31 : decode cX7_suspect 31 = .ok (.astore 5, 2) := by decide +kernel
theorem dX7_suspect_33 : decode cX7_suspect 33 = .ok (.aload 5, 2) := by decide +kernel
theorem dX7_suspect_35 : decode cX7_suspect 35 = .ok (.getfield 133, 3) := by decide +kernel
theorem dX7_suspect_38 : decode cX7_suspect 38 = .ok (.aload_n 1, 1) := by decide +kernel
theorem dX7_suspect_39 : decode cX7_suspect 39 = .ok (.getfield 233, 3) := by decide +kernel
theorem dX7_suspect_42 : decode cX7_suspect 42 = .ok (.isub, 1) := by decide +kernel
theorem dX7_suspect_43 : decode cX7_suspect 43 = .ok (.invokestatic 234, 3) := by decide +kernel
theorem dX7_suspect_46 : decode cX7_suspect 46 = .ok (.aload 5, 2) := by decide +kernel
theorem dX7_suspect_48 : decode cX7_suspect 48 = .ok (.getfield 136, 3) := by decide +kernel
theorem dX7_suspect_51 : decode cX7_suspect 51 = .ok (.aload_n 1, 1) := by decide +kernel
theorem dX7_suspect_52 : decode cX7_suspect 52 = .ok (.getfield 239, 3) := by decide +kernel
theorem dX7_suspect_55 : decode cX7_suspect 55 = .ok (.isub, 1) := by decide +kernel
theorem dX7_suspect_56 : decode cX7_suspect 56 = .ok (.invokestatic 234, 3) := by decide +kernel
theorem dX7_suspect_59 : decode cX7_suspect 59 = .ok (.iadd, 1) := by decide +kernel
theorem dX7_suspect_60 : decode cX7_suspect 60 = .ok (.istore 6, 2) := by decide +kernel
theorem dX7_suspect_62 : decode cX7_suspect 62 = .ok (.aload 5, 2) := by decide +kernel
theorem dX7_suspect_64 : decode cX7_suspect 64 = .ok (.getfield 151, 3) := by decide +kernel
theorem dX7_suspect_67 : decode cX7_suspect 67 = .ok (.ifCond .eq 23, 3) := by decide +kernel
theorem dX7_suspect_70 : decode cX7_suspect 70 = .ok (.iload_n 2, 1) := by decide +kernel
theorem dX7_suspect_71 : decode cX7_suspect 71 = .ok (.iconst (-1), 1) := by decide +kernel
theorem dX7_suspect_72 : decode cX7_suspect 72 = .ok (.if_icmp .eq 12, 3) := by decide +kernel
theorem dX7_suspect_75 : decode cX7_suspect 75 = .ok (.iload 6, 2) := by decide +kernel
theorem dX7_suspect_77 : decode cX7_suspect 77 = .ok (.iload_n 3, 1) := by decide +kernel
theorem dX7_suspect_78 : decode cX7_suspect 78 = .ok (.if_icmp .lt 6, 3) := by decide +kernel
theorem dX7_suspect_81 : decode cX7_suspect 81 = .ok (.goto 9, 3) := by decide +kernel
theorem dX7_suspect_84 : decode cX7_suspect 84 = .ok (.iload 4, 2) := by decide +kernel
theorem dX7_suspect_86 : decode cX7_suspect 86 = .ok (.istore_n 2, 1) := by decide +kernel
theorem dX7_suspect_87 : decode cX7_suspect 87 = .ok (.iload 6, 2) := by decide +kernel
theorem dX7_suspect_89 : decode cX7_suspect 89 = .ok (.istore_n 3, 1) := by decide +kernel
theorem dX7_suspect_90 : decode cX7_suspect 90 = .ok (.iinc 4 1, 3) := by decide +kernel
theorem dX7_suspect_93 : decode cX7_suspect 93 = .ok (.goto (-86), 3) := by decide +kernel
theorem dX7_suspect_96 : decode cX7_suspect 96 = .ok (.iload_n 2, 1) := by decide +kernel
theorem dX7_suspect_97 : decode cX7_suspect 97 = .ok (.ireturn, 1) := by decide +kernel
theorem dX7_ofLayerNow_0 : decode cX7_ofLayerNow 0 = .ok (.aload_n 0, 1) := by decide +kernel
theorem dX7_ofLayerNow_1 : decode cX7_ofLayerNow 1 = .ok (.getfield 23, 3) := by decide +kernel
theorem dX7_ofLayerNow_4 : decode cX7_ofLayerNow 4 = .ok (.iload_n 1, 1) := by decide +kernel
theorem dX7_ofLayerNow_5 : decode cX7_ofLayerNow 5 = .ok (.invokevirtual 63, 3) := by decide +kernel
theorem dX7_ofLayerNow_8 : decode cX7_ofLayerNow 8 = .ok (.checkcast 85, 3) := by decide +kernel
theorem dX7_ofLayerNow_11 : decode cX7_ofLayerNow 11 = .ok (.astore_n 3, 1) := by decide +kernel
theorem dX7_ofLayerNow_12 : decode cX7_ofLayerNow 12 = .ok (.iload_n 2, 1) := by decide +kernel
theorem dX7_ofLayerNow_13 : decode cX7_ofLayerNow 13 = .ok (.tableswitch 158 0 12 #[67, 72, 77, 82, 87, 92, 97, 110, 123, 136, 142, 147, 152], 67) := by decide +kernel
theorem dX7_ofLayerNow_80 : decode cX7_ofLayerNow 80 = .ok (.aload_n 3, 1) := by decide +kernel
theorem dX7_ofLayerNow_81 : decode cX7_ofLayerNow 81 = .ok (.getfield 84, 3) := by decide +kernel
theorem dX7_ofLayerNow_84 : decode cX7_ofLayerNow 84 = .ok (.ireturn, 1) := by decide +kernel
theorem dX7_ofLayerNow_85 : decode cX7_ofLayerNow 85 = .ok (.aload_n 3, 1) := by decide +kernel
theorem dX7_ofLayerNow_86 : decode cX7_ofLayerNow 86 = .ok (.getfield 174, 3) := by decide +kernel
theorem dX7_ofLayerNow_89 : decode cX7_ofLayerNow 89 = .ok (.ireturn, 1) := by decide +kernel
theorem dX7_ofLayerNow_90 : decode cX7_ofLayerNow 90 = .ok (.aload_n 3, 1) := by decide +kernel
theorem dX7_ofLayerNow_91 : decode cX7_ofLayerNow 91 = .ok (.getfield 240, 3) := by decide +kernel
theorem dX7_ofLayerNow_94 : decode cX7_ofLayerNow 94 = .ok (.ireturn, 1) := by decide +kernel
theorem dX7_ofLayerNow_95 : decode cX7_ofLayerNow 95 = .ok (.aload_n 3, 1) := by decide +kernel
theorem dX7_ofLayerNow_96 : decode cX7_ofLayerNow 96 = .ok (.getfield 241, 3) := by decide +kernel
theorem dX7_ofLayerNow_99 : decode cX7_ofLayerNow 99 = .ok (.ireturn, 1) := by decide +kernel
theorem dX7_ofLayerNow_100 : decode cX7_ofLayerNow 100 = .ok (.aload_n 3, 1) := by decide +kernel
theorem dX7_ofLayerNow_101 : decode cX7_ofLayerNow 101 = .ok (.getfield 93, 3) := by decide +kernel
theorem dX7_ofLayerNow_104 : decode cX7_ofLayerNow 104 = .ok (.ireturn, 1) := by decide +kernel
theorem dX7_ofLayerNow_105 : decode cX7_ofLayerNow 105 = .ok (.aload_n 3, 1) := by decide +kernel
theorem dX7_ofLayerNow_106 : decode cX7_ofLayerNow 106 = .ok (.getfield 96, 3) := by decide +kernel
theorem dX7_ofLayerNow_109 : decode cX7_ofLayerNow 109 = .ok (.ireturn, 1) := by decide +kernel
theorem dX7_ofLayerNow_110 : decode cX7_ofLayerNow 110 = .ok (.aload_n 3, 1) := by decide +kernel
theorem dX7_ofLayerNow_111 : decode cX7_ofLayerNow 111 = .ok (.getfield 154, 3) := by decide +kernel
theorem dX7_ofLayerNow_114 : decode cX7_ofLayerNow 114 = .ok (.ifCond .eq 7, 3) := by decide +kernel
theorem dX7_ofLayerNow_117 : decode cX7_ofLayerNow 117 = .ok (.iconst 1, 1) := by decide +kernel
theorem dX7_ofLayerNow_118 : decode cX7_ofLayerNow 118 = .ok (.goto 4, 3) := by decide +kernel
theorem dX7_ofLayerNow_121 : decode cX7_ofLayerNow 121 = .ok (.iconst 0, 1) := by decide +kernel
theorem dX7_ofLayerNow_122 : decode cX7_ofLayerNow 122 = .ok (.ireturn, 1) := by decide +kernel
theorem dX7_ofLayerNow_123 : decode cX7_ofLayerNow 123 = .ok (.aload_n 3, 1) := by decide +kernel
theorem dX7_ofLayerNow_124 : decode cX7_ofLayerNow 124 = .ok (.getfield 162, 3) := by decide +kernel
theorem dX7_ofLayerNow_127 : decode cX7_ofLayerNow 127 = .ok (.ifCond .eq 7, 3) := by decide +kernel
theorem dX7_ofLayerNow_130 : decode cX7_ofLayerNow 130 = .ok (.iconst 1, 1) := by decide +kernel
theorem dX7_ofLayerNow_131 : decode cX7_ofLayerNow 131 = .ok (.goto 4, 3) := by decide +kernel
theorem dX7_ofLayerNow_134 : decode cX7_ofLayerNow 134 = .ok (.iconst 0, 1) := by decide +kernel
theorem dX7_ofLayerNow_135 : decode cX7_ofLayerNow 135 = .ok (.ireturn, 1) := by decide +kernel
theorem dX7_ofLayerNow_136 : decode cX7_ofLayerNow 136 = .ok (.aload_n 3, 1) := by decide +kernel
theorem dX7_ofLayerNow_137 : decode cX7_ofLayerNow 137 = .ok (.getfield 89, 3) := by decide +kernel
theorem dX7_ofLayerNow_140 : decode cX7_ofLayerNow 140 = .ok (.ifCond .eq 7, 3) := by decide +kernel
theorem dX7_ofLayerNow_143 : decode cX7_ofLayerNow 143 = .ok (.iconst 1, 1) := by decide +kernel
theorem dX7_ofLayerNow_144 : decode cX7_ofLayerNow 144 = .ok (.goto 4, 3) := by decide +kernel
theorem dX7_ofLayerNow_147 : decode cX7_ofLayerNow 147 = .ok (.iconst 0, 1) := by decide +kernel
theorem dX7_ofLayerNow_148 : decode cX7_ofLayerNow 148 = .ok (.ireturn, 1) := by decide +kernel
theorem dX7_ofLayerNow_149 : decode cX7_ofLayerNow 149 = .ok (.aload_n 0, 1) := by decide +kernel
theorem dX7_ofLayerNow_150 : decode cX7_ofLayerNow 150 = .ok (.iload_n 1, 1) := by decide +kernel
theorem dX7_ofLayerNow_151 : decode cX7_ofLayerNow 151 = .ok (.invokevirtual 197, 3) := by decide +kernel
theorem dX7_ofLayerNow_154 : decode cX7_ofLayerNow 154 = .ok (.ireturn, 1) := by decide +kernel
theorem dX7_ofLayerNow_155 : decode cX7_ofLayerNow 155 = .ok (.aload_n 3, 1) := by decide +kernel
theorem dX7_ofLayerNow_156 : decode cX7_ofLayerNow 156 = .ok (.getfield 233, 3) := by decide +kernel
theorem dX7_ofLayerNow_159 : decode cX7_ofLayerNow 159 = .ok (.ireturn, 1) := by decide +kernel
theorem dX7_ofLayerNow_160 : decode cX7_ofLayerNow 160 = .ok (.aload_n 3, 1) := by decide +kernel
theorem dX7_ofLayerNow_161 : decode cX7_ofLayerNow 161 = .ok (.getfield 239, 3) := by decide +kernel
theorem dX7_ofLayerNow_164 : decode cX7_ofLayerNow 164 = .ok (.ireturn, 1) := by decide +kernel
theorem dX7_ofLayerNow_165 : decode cX7_ofLayerNow 165 = .ok (.aload_n 0, 1) := by decide +kernel
theorem dX7_ofLayerNow_166 : decode cX7_ofLayerNow 166 = .ok (.iload_n 1, 1) := by decide +kernel
theorem dX7_ofLayerNow_167 : decode cX7_ofLayerNow 167 = .ok (.invokevirtual 206, 3) := by decide +kernel
theorem dX7_ofLayerNow_170 : decode cX7_ofLayerNow 170 = .ok (.ireturn, 1) := by decide +kernel
theorem dX7_ofLayerNow_171 : decode cX7_ofLayerNow 171 = .ok (.aload_n 0, 1) := by decide +kernel
theorem dX7_ofLayerNow_172 : decode cX7_ofLayerNow 172 = .ok (.aload_n 3, 1) := by decide +kernel
theorem dX7_ofLayerNow_173 : decode cX7_ofLayerNow 173 = .ok (.invokevirtual 244, 3) := by decide +kernel
theorem dX7_ofLayerNow_176 : decode cX7_ofLayerNow 176 = .ok (.ireturn, 1) := by decide +kernel
theorem dX7_ofLayer_0 : decode cX7_ofLayer 0 = .ok (.aload_n 0, 1) := by decide +kernel
theorem dX7_ofLayer_1 : decode cX7_ofLayer 1 = .ok (.aload_n 0, 1) := by decide +kernel
theorem dX7_ofLayer_2 : decode cX7_ofLayer 2 = .ok (.iload_n 1, 1) := by decide +kernel
theorem dX7_ofLayer_3 : decode cX7_ofLayer 3 = .ok (.invokevirtual 203, 3) := by decide +kernel
theorem dX7_ofLayer_6 : decode cX7_ofLayer 6 = .ok (.iconst 1, 1) := by decide +kernel
theorem dX7_ofLayer_7 : decode cX7_ofLayer 7 = .ok (.invokevirtual 41, 3) := by decide +kernel
theorem dX7_ofLayer_10 : decode cX7_ofLayer 10 = .ok (.ifCond .ne 26, 3) := by decide +kernel
theorem dX7_ofLayer_13 : decode cX7_ofLayer 13 = .ok (.aload_n 0, 1) := by decide +kernel
theorem dX7_ofLayer_14 : decode cX7_ofLayer 14 = .ok (.iload_n 2, 1) := by decide +kernel
theorem dX7_ofLayer_15 : decode cX7_ofLayer 15 = .ok (.iconst 0, 1) := by decide +kernel
theorem dX7_ofLayer_16 : decode cX7_ofLayer 16 = .ok (.bipush 13, 2) := by decide +kernel
theorem dX7_ofLayer_18 : decode cX7_ofLayer 18 = .ok (.invokestatic 37, 3) := by decide +kernel
theorem dX7_ofLayer_21 : decode cX7_ofLayer 21 = .ok (.ifCond .ne 7, 3) := by decide +kernel
theorem dX7_ofLayer_24 : decode cX7_ofLayer 24 = .ok (.iconst 1, 1) := by decide +kernel
theorem dX7_ofLayer_25 : decode cX7_ofLayer 25 = .ok (.goto 4, 3) := by decide +kernel
theorem dX7_ofLayer_28 : decode cX7_ofLayer 28 = .ok (.iconst 0, 1) := by decide +kernel
theorem dX7_ofLayer_29 : decode cX7_ofLayer 29 = .ok (.iconst 2, 1) := by decide +kernel
theorem dX7_ofLayer_30 : decode cX7_ofLayer 30 = .ok (.invokevirtual 29, 3) := by decide +kernel
theorem dX7_ofLayer_33 : decode cX7_ofLayer 33 = .ok (.ifCond .eq 7, 3) := by decide +kernel
theorem dX7_ofLayer_36 : decode cX7_ofLayer 36 = .ok (.iconst 0, 1) := by decide +kernel
theorem dX7_ofLayer_37 : decode cX7_ofLayer 37 = .ok (.goto 9, 3) := by decide +kernel
theorem dX7_ofLayer_40 : decode cX7_ofLayer 40 = .ok (.aload_n 0, 1) := by decide +kernel
theorem dX7_ofLayer_41 : decode cX7_ofLayer 41 = .ok (.iload_n 1, 1) := by decide +kernel
theorem dX7_ofLayer_42 : decode cX7_ofLayer 42 = .ok (.iload_n 2, 1) := by decide +kernel
theorem dX7_ofLayer_43 : decode cX7_ofLayer 43 = .ok (.invokevirtual 248, 3) := by decide +kernel
theorem dX7_ofLayer_46 : decode cX7_ofLayer 46 = .ok (.ireturn, 1) := by decide +kernel
theorem dX7_wrongs_0 : decode cX7_wrongs 0 = .ok (.aload_n 0, 1) := by decide +kernel
theorem dX7_wrongs_1 : decode cX7_wrongs 1 = .ok (.aload_n 0, 1) := by decide +kernel
theorem dX7_wrongs_2 : decode cX7_wrongs 2 = .ok (.iload_n 1, 1) := by decide +kernel
theorem dX7_wrongs_3 : decode cX7_wrongs 3 = .ok (.invokevirtual 113, 3) := by decide +kernel
theorem dX7_wrongs_6 : decode cX7_wrongs 6 = .ok (.ifCond .ne 11, 3) := by decide +kernel
theorem dX7_wrongs_9 : decode cX7_wrongs 9 = .ok (.aload_n 0, 1) := by decide +kernel
theorem dX7_wrongs_10 : decode cX7_wrongs 10 = .ok (.iload_n 2, 1) := by decide +kernel
theorem dX7_wrongs_11 : decode cX7_wrongs 11 = .ok (.invokevirtual 113, 3) := by decide +kernel
theorem dX7_wrongs_14 : decode cX7_wrongs 14 = .ok (.ifCond .eq 7, 3) := by decide +kernel
theorem dX7_wrongs_17 : decode cX7_wrongs 17 = .ok (.iconst 1, 1) := by decide +kernel
theorem dX7_wrongs_18 : decode cX7_wrongs 18 = .ok (.goto 4, 3) := by decide +kernel
theorem dX7_wrongs_21 : decode cX7_wrongs 21 = .ok (.iconst 0, 1) := by decide +kernel
theorem dX7_wrongs_22 : decode cX7_wrongs 22 = .ok (.iconst 1, 1) := by decide +kernel
theorem dX7_wrongs_23 : decode cX7_wrongs 23 = .ok (.invokevirtual 41, 3) := by decide +kernel
theorem dX7_wrongs_26 : decode cX7_wrongs 26 = .ok (.ifCond .eq 7, 3) := by decide +kernel
theorem dX7_wrongs_29 : decode cX7_wrongs 29 = .ok (.iconst 0, 1) := by decide +kernel
theorem dX7_wrongs_30 : decode cX7_wrongs 30 = .ok (.goto 19, 3) := by decide +kernel
theorem dX7_wrongs_33 : decode cX7_wrongs 33 = .ok (.aload_n 0, 1) := by decide +kernel
theorem dX7_wrongs_34 : decode cX7_wrongs 34 = .ok (.getfield 20, 3) := by decide +kernel
theorem dX7_wrongs_37 : decode cX7_wrongs 37 = .ok (.iload_n 1, 1) := by decide +kernel
theorem dX7_wrongs_38 : decode cX7_wrongs 38 = .ok (.invokevirtual 63, 3) := by decide +kernel
theorem dX7_wrongs_41 : decode cX7_wrongs 41 = .ok (.checkcast 53, 3) := by decide +kernel
theorem dX7_wrongs_44 : decode cX7_wrongs 44 = .ok (.getfield 130, 3) := by decide +kernel
theorem dX7_wrongs_47 : decode cX7_wrongs 47 = .ok (.iload_n 2, 1) := by decide +kernel
theorem dX7_wrongs_48 : decode cX7_wrongs 48 = .ok (.iaload, 1) := by decide +kernel
theorem dX7_wrongs_49 : decode cX7_wrongs 49 = .ok (.ireturn, 1) := by decide +kernel
theorem dX7_likeness_0 : decode cX7_likeness 0 = .ok (.aload_n 0, 1) := by decide +kernel
theorem dX7_likeness_1 : decode cX7_likeness 1 = .ok (.aload_n 0, 1) := by decide +kernel
theorem dX7_likeness_2 : decode cX7_likeness 2 = .ok (.iload_n 1, 1) := by decide +kernel
theorem dX7_likeness_3 : decode cX7_likeness 3 = .ok (.invokevirtual 203, 3) := by decide +kernel
theorem dX7_likeness_6 : decode cX7_likeness 6 = .ok (.ifCond .ne 11, 3) := by decide +kernel
theorem dX7_likeness_9 : decode cX7_likeness 9 = .ok (.aload_n 0, 1) := by decide +kernel
theorem dX7_likeness_10 : decode cX7_likeness 10 = .ok (.iload_n 2, 1) := by decide +kernel
theorem dX7_likeness_11 : decode cX7_likeness 11 = .ok (.invokevirtual 203, 3) := by decide +kernel
theorem dX7_likeness_14 : decode cX7_likeness 14 = .ok (.ifCond .eq 7, 3) := by decide +kernel
theorem dX7_likeness_17 : decode cX7_likeness 17 = .ok (.iconst 1, 1) := by decide +kernel
theorem dX7_likeness_18 : decode cX7_likeness 18 = .ok (.goto 4, 3) := by decide +kernel
theorem dX7_likeness_21 : decode cX7_likeness 21 = .ok (.iconst 0, 1) := by decide +kernel
theorem dX7_likeness_22 : decode cX7_likeness 22 = .ok (.iconst 1, 1) := by decide +kernel
theorem dX7_likeness_23 : decode cX7_likeness 23 = .ok (.invokevirtual 41, 3) := by decide +kernel
theorem dX7_likeness_26 : decode cX7_likeness 26 = .ok (.ifCond .eq 5, 3) := by decide +kernel
theorem dX7_likeness_29 : decode cX7_likeness 29 = .ok (.iconst 0, 1) := by decide +kernel
theorem dX7_likeness_30 : decode cX7_likeness 30 = .ok (.ireturn, 1) := by decide +kernel
theorem dX7_likeness_31 : decode cX7_likeness 31 = .ok (.bipush 20, 2) := by decide +kernel
theorem dX7_likeness_33 : decode cX7_likeness 33 = .ok (.aload_n 0, 1) := by decide +kernel
theorem dX7_likeness_34 : decode cX7_likeness 34 = .ok (.getfield 23, 3) := by decide +kernel
theorem dX7_likeness_37 : decode cX7_likeness 37 = .ok (.iload_n 1, 1) := by decide +kernel
theorem dX7_likeness_38 : decode cX7_likeness 38 = .ok (.invokevirtual 63, 3) := by decide +kernel
theorem dX7_likeness_41 : decode cX7_likeness 41 = .ok (.checkcast 85, 3) := by decide +kernel
theorem dX7_likeness_44 : decode cX7_likeness 44 = .ok (.getfield 233, 3) := by decide +kernel
theorem dX7_likeness_47 : decode cX7_likeness 47 = .ok (.aload_n 0, 1) := by decide +kernel
theorem dX7_likeness_48 : decode cX7_likeness 48 = .ok (.getfield 23, 3) := by decide +kernel
theorem dX7_likeness_51 : decode cX7_likeness 51 = .ok (.iload_n 2, 1) := by decide +kernel
theorem dX7_likeness_52 : decode cX7_likeness 52 = .ok (.invokevirtual 63, 3) := by decide +kernel
theorem dX7_likeness_55 : decode cX7_likeness 55 = .ok (.checkcast 85, 3) := by decide +kernel
theorem dX7_likeness_58 : decode cX7_likeness 58 = .ok (.getfield 233, 3) := by decide +kernel
theorem dX7_likeness_61 : decode cX7_likeness 61 = .ok (.isub, 1) := by decide +kernel
theorem dX7_likeness_62 : decode cX7_likeness 62 = .ok (.invokestatic 234, 3) := by decide +kernel
theorem dX7_likeness_65 : decode cX7_likeness 65 = .ok (.isub, 1) := by decide +kernel
theorem dX7_likeness_66 : decode cX7_likeness 66 = .ok (.aload_n 0, 1) := by decide +kernel
theorem dX7_likeness_67 : decode cX7_likeness 67 = .ok (.getfield 23, 3) := by decide +kernel
theorem dX7_likeness_70 : decode cX7_likeness 70 = .ok (.iload_n 1, 1) := by decide +kernel
theorem dX7_likeness_71 : decode cX7_likeness 71 = .ok (.invokevirtual 63, 3) := by decide +kernel
theorem dX7_likeness_74 : decode cX7_likeness 74 = .ok (.checkcast 85, 3) := by decide +kernel
theorem dX7_likeness_77 : decode cX7_likeness 77 = .ok (.getfield 239, 3) := by decide +kernel
theorem dX7_likeness_80 : decode cX7_likeness 80 = .ok (.aload_n 0, 1) := by decide +kernel
theorem dX7_likeness_81 : decode cX7_likeness 81 = .ok (.getfield 23, 3) := by decide +kernel
theorem dX7_likeness_84 : decode cX7_likeness 84 = .ok (.iload_n 2, 1) := by decide +kernel
theorem dX7_likeness_85 : decode cX7_likeness 85 = .ok (.invokevirtual 63, 3) := by decide +kernel
theorem dX7_likeness_88 : decode cX7_likeness 88 = .ok (.checkcast 85, 3) := by decide +kernel
theorem dX7_likeness_91 : decode cX7_likeness 91 = .ok (.getfield 239, 3) := by decide +kernel
theorem dX7_likeness_94 : decode cX7_likeness 94 = .ok (.isub, 1) := by decide +kernel
theorem dX7_likeness_95 : decode cX7_likeness 95 = .ok (.invokestatic 234, 3) := by decide +kernel
theorem dX7_likeness_98 : decode cX7_likeness 98 = .ok (.isub, 1) := by decide +kernel
theorem dX7_likeness_99 : decode cX7_likeness 99 = .ok (.ireturn, 1) := by decide +kernel
theorem dX7_seenLayers_0 : decode cX7_seenLayers 0 = .ok (.iconst 0, 1) := by decide +kernel
theorem dX7_seenLayers_1 : decode cX7_seenLayers 1 = .ok (.istore_n 2, 1) := by decide +kernel
theorem dX7_seenLayers_2 : decode cX7_seenLayers 2 = .ok (.iconst 0, 1) := by decide +kernel
theorem dX7_seenLayers_3 : decode cX7_seenLayers 3 = .ok (.istore_n 3, 1) := by decide +kernel
theorem dX7_seenLayers_4 : decode cX7_seenLayers 4 = .ok (.iload_n 3, 1) := by decide +kernel
theorem dX7_seenLayers_5 : decode cX7_seenLayers 5 = .ok (.aload_n 0, 1) := by decide +kernel
theorem dX7_seenLayers_6 : decode cX7_seenLayers 6 = .ok (.getfield 23, 3) := by decide +kernel
theorem dX7_seenLayers_9 : decode cX7_seenLayers 9 = .ok (.invokevirtual 33, 3) := by decide +kernel
theorem dX7_seenLayers_12 : decode cX7_seenLayers 12 = .ok (.if_icmp .ge 79, 3) := by decide +kernel
theorem dX7_seenLayers_15 : decode cX7_seenLayers 15 = .ok (.iload_n 1, 1) := by decide +kernel
theorem dX7_seenLayers_16 : decode cX7_seenLayers 16 = .ok (.ifCond .eq 21, 3) := by decide +kernel
theorem dX7_seenLayers_19 : decode cX7_seenLayers 19 = .ok (.aload_n 0, 1) := by decide +kernel
theorem dX7_seenLayers_20 : decode cX7_seenLayers 20 = .ok (.aload_n 0, 1) := by decide +kernel
theorem dX7_seenLayers_21 : decode cX7_seenLayers 21 = .ok (.getfield 23, 3) := by decide +kernel
theorem dX7_seenLayers_24 : decode cX7_seenLayers 24 = .ok (.iload_n 3, 1) := by decide +kernel
theorem dX7_seenLayers_25 : decode cX7_seenLayers 25 = .ok (.invokevirtual 63, 3) := by decide +kernel
theorem dX7_seenLayers_28 : decode cX7_seenLayers 28 = .ok (.checkcast 85, 3) := by decide +kernel
theorem dX7_seenLayers_31 : decode cX7_seenLayers 31 = .ok (.invokevirtual 244, 3) := by decide +kernel
theorem dX7_seenLayers_34 : decode cX7_seenLayers 34 = .ok (.goto 4, 3) := by decide +kernel
theorem dX7_seenLayers_37 : decode cX7_seenLayers 37 = .ok (.iconst (-1), 1) := by decide +kernel
theorem dX7_seenLayers_38 : decode cX7_seenLayers 38 = .ok (.istore 4, 2) := by decide +kernel
theorem dX7_seenLayers_40 : decode cX7_seenLayers 40 = .ok (.iload_n 2, 1) := by decide +kernel
theorem dX7_seenLayers_41 : decode cX7_seenLayers 41 = .ok (.aload_n 0, 1) := by decide +kernel
theorem dX7_seenLayers_42 : decode cX7_seenLayers 42 = .ok (.iload_n 3, 1) := by decide +kernel
theorem dX7_seenLayers_43 : decode cX7_seenLayers 43 = .ok (.invokevirtual 197, 3) := by decide +kernel
theorem dX7_seenLayers_46 : decode cX7_seenLayers 46 = .ok (.ifCond .le 36, 3) := by decide +kernel
theorem dX7_seenLayers_49 : decode cX7_seenLayers 49 = .ok (.iload_n 1, 1) := by decide +kernel
theorem dX7_seenLayers_50 : decode cX7_seenLayers 50 = .ok (.ifCond .eq 28, 3) := by decide +kernel
theorem dX7_seenLayers_53 : decode cX7_seenLayers 53 = .ok (.iload 4, 2) := by decide +kernel
theorem dX7_seenLayers_55 : decode cX7_seenLayers 55 = .ok (.iconst (-1), 1) := by decide +kernel
theorem dX7_seenLayers_56 : decode cX7_seenLayers 56 = .ok (.if_icmp .eq 26, 3) := by decide +kernel
theorem dX7_seenLayers_59 : decode cX7_seenLayers 59 = .ok (.iload 4, 2) := by decide +kernel
theorem dX7_seenLayers_61 : decode cX7_seenLayers 61 = .ok (.aload_n 0, 1) := by decide +kernel
theorem dX7_seenLayers_62 : decode cX7_seenLayers 62 = .ok (.getfield 23, 3) := by decide +kernel
theorem dX7_seenLayers_65 : decode cX7_seenLayers 65 = .ok (.iload_n 3, 1) := by decide +kernel
theorem dX7_seenLayers_66 : decode cX7_seenLayers 66 = .ok (.invokevirtual 63, 3) := by decide +kernel
theorem dX7_seenLayers_69 : decode cX7_seenLayers 69 = .ok (.checkcast 85, 3) := by decide +kernel
theorem dX7_seenLayers_72 : decode cX7_seenLayers 72 = .ok (.getfield 84, 3) := by decide +kernel
theorem dX7_seenLayers_75 : decode cX7_seenLayers 75 = .ok (.if_icmp .eq 7, 3) := by decide +kernel
theorem dX7_seenLayers_78 : decode cX7_seenLayers 78 = .ok (.iconst 1, 1) := by decide +kernel
theorem dX7_seenLayers_79 : decode cX7_seenLayers 79 = .ok (.goto 4, 3) := by decide +kernel
theorem dX7_seenLayers_82 : decode cX7_seenLayers 82 = .ok (.iconst 0, 1) := by decide +kernel
theorem dX7_seenLayers_83 : decode cX7_seenLayers 83 = .ok (.iadd, 1) := by decide +kernel
theorem dX7_seenLayers_84 : decode cX7_seenLayers 84 = .ok (.istore_n 2, 1) := by decide +kernel
theorem dX7_seenLayers_85 : decode cX7_seenLayers 85 = .ok (.iinc 3 1, 3) := by decide +kernel
theorem dX7_seenLayers_88 : decode cX7_seenLayers 88 = .ok (.goto (-84), 3) := by decide +kernel
theorem dX7_seenLayers_91 : decode cX7_seenLayers 91 = .ok (.iload_n 2, 1) := by decide +kernel
theorem dX7_seenLayers_92 : decode cX7_seenLayers 92 = .ok (.ireturn, 1) := by decide +kernel
theorem dX7_ofHands_0 : decode cX7_ofHands 0 = .ok (.iconst 0, 1) := by decide +kernel
theorem dX7_ofHands_1 : decode cX7_ofHands 1 = .ok (.istore_n 2, 1) := by decide +kernel
theorem dX7_ofHands_2 : decode cX7_ofHands 2 = .ok (.iconst 0, 1) := by decide +kernel
theorem dX7_ofHands_3 : decode cX7_ofHands 3 = .ok (.istore_n 3, 1) := by decide +kernel
theorem dX7_ofHands_4 : decode cX7_ofHands 4 = .ok (.iload_n 3, 1) := by decide +kernel
theorem dX7_ofHands_5 : decode cX7_ofHands 5 = .ok (.aload_n 0, 1) := by decide +kernel
theorem dX7_ofHands_6 : decode cX7_ofHands 6 = .ok (.getfield 20, 3) := by decide +kernel
theorem dX7_ofHands_9 : decode cX7_ofHands 9 = .ok (.invokevirtual 33, 3) := by decide +kernel
theorem dX7_ofHands_12 : decode cX7_ofHands 12 = .ok (.if_icmp .ge 18, 3) := by decide +kernel
theorem dX7_ofHands_15 : decode cX7_ofHands 15 = .ok (.iload_n 2, 1) := by decide +kernel
theorem dX7_ofHands_16 : decode cX7_ofHands 16 = .ok (.aload_n 0, 1) := by decide +kernel
theorem dX7_ofHands_17 : decode cX7_ofHands 17 = .ok (.iload_n 3, 1) := by decide +kernel
theorem dX7_ofHands_18 : decode cX7_ofHands 18 = .ok (.iload_n 1, 1) := by decide +kernel
theorem dX7_ofHands_19 : decode cX7_ofHands 19 = .ok (.invokevirtual 230, 3) := by decide +kernel
theorem dX7_ofHands_22 : decode cX7_ofHands 22 = .ok (.iadd, 1) := by decide +kernel
theorem dX7_ofHands_23 : decode cX7_ofHands 23 = .ok (.istore_n 2, 1) := by decide +kernel
theorem dX7_ofHands_24 : decode cX7_ofHands 24 = .ok (.iinc 3 1, 3) := by decide +kernel
theorem dX7_ofHands_27 : decode cX7_ofHands 27 = .ok (.goto (-23), 3) := by decide +kernel
theorem dX7_ofHands_30 : decode cX7_ofHands 30 = .ok (.iload_n 2, 1) := by decide +kernel
theorem dX7_ofHands_31 : decode cX7_ofHands 31 = .ok (.ireturn, 1) := by decide +kernel
theorem dX7_manyNow_0 : decode cX7_manyNow 0 = .ok (.iload_n 1, 1) := by decide +kernel
theorem dX7_manyNow_1 : decode cX7_manyNow 1 = .ok (.tableswitch 130 0 10 #[59, 64, 72, 80, 88, 94, 99, 106, 112, 118, 125], 59) := by decide +kernel
theorem dX7_manyNow_60 : decode cX7_manyNow 60 = .ok (.aload_n 0, 1) := by decide +kernel
theorem dX7_manyNow_61 : decode cX7_manyNow 61 = .ok (.getfield 60, 3) := by decide +kernel
theorem dX7_manyNow_64 : decode cX7_manyNow 64 = .ok (.ireturn, 1) := by decide +kernel
theorem dX7_manyNow_65 : decode cX7_manyNow 65 = .ok (.aload_n 0, 1) := by decide +kernel
theorem dX7_manyNow_66 : decode cX7_manyNow 66 = .ok (.getfield 16, 3) := by decide +kernel
theorem dX7_manyNow_69 : decode cX7_manyNow 69 = .ok (.invokevirtual 33, 3) := by decide +kernel
theorem dX7_manyNow_72 : decode cX7_manyNow 72 = .ok (.ireturn, 1) := by decide +kernel
theorem dX7_manyNow_73 : decode cX7_manyNow 73 = .ok (.aload_n 0, 1) := by decide +kernel
theorem dX7_manyNow_74 : decode cX7_manyNow 74 = .ok (.getfield 20, 3) := by decide +kernel
theorem dX7_manyNow_77 : decode cX7_manyNow 77 = .ok (.invokevirtual 33, 3) := by decide +kernel
theorem dX7_manyNow_80 : decode cX7_manyNow 80 = .ok (.ireturn, 1) := by decide +kernel
theorem dX7_manyNow_81 : decode cX7_manyNow 81 = .ok (.aload_n 0, 1) := by decide +kernel
theorem dX7_manyNow_82 : decode cX7_manyNow 82 = .ok (.getfield 23, 3) := by decide +kernel
theorem dX7_manyNow_85 : decode cX7_manyNow 85 = .ok (.invokevirtual 33, 3) := by decide +kernel
theorem dX7_manyNow_88 : decode cX7_manyNow 88 = .ok (.ireturn, 1) := by decide +kernel
theorem dX7_manyNow_89 : decode cX7_manyNow 89 = .ok (.aload_n 0, 1) := by decide +kernel
theorem dX7_manyNow_90 : decode cX7_manyNow 90 = .ok (.iconst 0, 1) := by decide +kernel
theorem dX7_manyNow_91 : decode cX7_manyNow 91 = .ok (.invokevirtual 251, 3) := by decide +kernel
theorem dX7_manyNow_94 : decode cX7_manyNow 94 = .ok (.ireturn, 1) := by decide +kernel
theorem dX7_manyNow_95 : decode cX7_manyNow 95 = .ok (.aload_n 0, 1) := by decide +kernel
theorem dX7_manyNow_96 : decode cX7_manyNow 96 = .ok (.getfield 9, 3) := by decide +kernel
theorem dX7_manyNow_99 : decode cX7_manyNow 99 = .ok (.ireturn, 1) := by decide +kernel
theorem dX7_manyNow_100 : decode cX7_manyNow 100 = .ok (.aload_n 0, 1) := by decide +kernel
theorem dX7_manyNow_101 : decode cX7_manyNow 101 = .ok (.bipush 7, 2) := by decide +kernel
theorem dX7_manyNow_103 : decode cX7_manyNow 103 = .ok (.invokevirtual 255, 3) := by decide +kernel
theorem dX7_manyNow_106 : decode cX7_manyNow 106 = .ok (.ireturn, 1) := by decide +kernel
theorem dX7_manyNow_107 : decode cX7_manyNow 107 = .ok (.aload_n 0, 1) := by decide +kernel
theorem dX7_manyNow_108 : decode cX7_manyNow 108 = .ok (.iconst 3, 1) := by decide +kernel
theorem dX7_manyNow_109 : decode cX7_manyNow 109 = .ok (.invokevirtual 255, 3) := by decide +kernel
theorem dX7_manyNow_112 : decode cX7_manyNow 112 = .ok (.ireturn, 1) := by decide +kernel
theorem dX7_manyNow_113 : decode cX7_manyNow 113 = .ok (.aload_n 0, 1) := by decide +kernel
theorem dX7_manyNow_114 : decode cX7_manyNow 114 = .ok (.iconst 2, 1) := by decide +kernel
theorem dX7_manyNow_115 : decode cX7_manyNow 115 = .ok (.invokevirtual 255, 3) := by decide +kernel
theorem dX7_manyNow_118 : decode cX7_manyNow 118 = .ok (.ireturn, 1) := by decide +kernel
theorem dX7_manyNow_119 : decode cX7_manyNow 119 = .ok (.aload_n 0, 1) := by decide +kernel
theorem dX7_manyNow_120 : decode cX7_manyNow 120 = .ok (.bipush 9, 2) := by decide +kernel
theorem dX7_manyNow_122 : decode cX7_manyNow 122 = .ok (.invokevirtual 255, 3) := by decide +kernel
theorem dX7_manyNow_125 : decode cX7_manyNow 125 = .ok (.ireturn, 1) := by decide +kernel
theorem dX7_manyNow_126 : decode cX7_manyNow 126 = .ok (.aload_n 0, 1) := by decide +kernel
theorem dX7_manyNow_127 : decode cX7_manyNow 127 = .ok (.getfield 209, 3) := by decide +kernel
theorem dX7_manyNow_130 : decode cX7_manyNow 130 = .ok (.ireturn, 1) := by decide +kernel
theorem dX7_manyNow_131 : decode cX7_manyNow 131 = .ok (.aload_n 0, 1) := by decide +kernel
theorem dX7_manyNow_132 : decode cX7_manyNow 132 = .ok (.iconst 1, 1) := by decide +kernel
theorem dX7_manyNow_133 : decode cX7_manyNow 133 = .ok (.invokevirtual 251, 3) := by decide +kernel
theorem dX7_manyNow_136 : decode cX7_manyNow 136 = .ok (.ireturn, 1) := by decide +kernel
theorem dX7_many_0 : decode cX7_many 0 = .ok (.aload_n 0, 1) := by decide +kernel
theorem dX7_many_1 : decode cX7_many 1 = .ok (.iload_n 1, 1) := by decide +kernel
theorem dX7_many_2 : decode cX7_many 2 = .ok (.iconst 0, 1) := by decide +kernel
theorem dX7_many_3 : decode cX7_many 3 = .ok (.bipush 11, 2) := by decide +kernel
theorem dX7_many_5 : decode cX7_many 5 = .ok (.invokestatic 37, 3) := by decide +kernel
theorem dX7_many_8 : decode cX7_many 8 = .ok (.ifCond .ne 7, 3) := by decide +kernel
theorem dX7_many_11 : decode cX7_many 11 = .ok (.iconst 1, 1) := by decide +kernel
theorem dX7_many_12 : decode cX7_many 12 = .ok (.goto 4, 3) := by decide +kernel
theorem dX7_many_15 : decode cX7_many 15 = .ok (.iconst 0, 1) := by decide +kernel
theorem dX7_many_16 : decode cX7_many 16 = .ok (.iconst 1, 1) := by decide +kernel
theorem dX7_many_17 : decode cX7_many 17 = .ok (.invokevirtual 41, 3) := by decide +kernel
theorem dX7_many_20 : decode cX7_many 20 = .ok (.ifCond .eq 7, 3) := by decide +kernel
theorem dX7_many_23 : decode cX7_many 23 = .ok (.iconst 0, 1) := by decide +kernel
theorem dX7_many_24 : decode cX7_many 24 = .ok (.goto 8, 3) := by decide +kernel
theorem dX7_many_27 : decode cX7_many 27 = .ok (.aload_n 0, 1) := by decide +kernel
theorem dX7_many_28 : decode cX7_many 28 = .ok (.iload_n 1, 1) := by decide +kernel
theorem dX7_many_29 : decode cX7_many 29 = .ok (.invokevirtual 258, 3) := by decide +kernel
theorem dX7_many_32 : decode cX7_many 32 = .ok (.ireturn, 1) := by decide +kernel
theorem dX7_meanFame_0 : decode cX7_meanFame 0 = .ok (.aload_n 0, 1) := by decide +kernel
theorem dX7_meanFame_1 : decode cX7_meanFame 1 = .ok (.iconst 0, 1) := by decide +kernel
theorem dX7_meanFame_2 : decode cX7_meanFame 2 = .ok (.putfield 26, 3) := by decide +kernel
theorem dX7_meanFame_5 : decode cX7_meanFame 5 = .ok (.aload_n 0, 1) := by decide +kernel
theorem dX7_meanFame_6 : decode cX7_meanFame 6 = .ok (.getfield 20, 3) := by decide +kernel
theorem dX7_meanFame_9 : decode cX7_meanFame 9 = .ok (.invokevirtual 261, 3) := by decide +kernel
theorem dX7_meanFame_12 : decode cX7_meanFame 12 = .ok (.ifCond .eq 7, 3) := by decide +kernel
theorem dX7_meanFame_15 : decode cX7_meanFame 15 = .ok (.dconst 0, 1) := by decide +kernel
theorem dX7_meanFame_16 : decode cX7_meanFame 16 = .ok (.goto 18, 3) := by decide +kernel
theorem dX7_meanFame_19 : decode cX7_meanFame 19 = .ok (.aload_n 0, 1) := by decide +kernel
theorem dX7_meanFame_20 : decode cX7_meanFame 20 = .ok (.iconst 4, 1) := by decide +kernel
theorem dX7_meanFame_21 : decode cX7_meanFame 21 = .ok (.invokevirtual 255, 3) := by decide +kernel
theorem dX7_meanFame_24 : decode cX7_meanFame 24 = .ok (.i2d, 1) := by decide +kernel
theorem dX7_meanFame_25 : decode cX7_meanFame 25 = .ok (.aload_n 0, 1) := by decide +kernel
theorem dX7_meanFame_26 : decode cX7_meanFame 26 = .ok (.getfield 20, 3) := by decide +kernel
theorem dX7_meanFame_29 : decode cX7_meanFame 29 = .ok (.invokevirtual 33, 3) := by decide +kernel
theorem dX7_meanFame_32 : decode cX7_meanFame 32 = .ok (.i2d, 1) := by decide +kernel
theorem dX7_meanFame_33 : decode cX7_meanFame 33 = .ok (.ddiv, 1) := by decide +kernel
theorem dX7_meanFame_34 : decode cX7_meanFame 34 = .ok (.dreturn, 1) := by decide +kernel
theorem dX7_gains_0 : decode cX7_gains 0 = .ok (.iconst 0, 1) := by decide +kernel
theorem dX7_gains_1 : decode cX7_gains 1 = .ok (.istore 6, 2) := by decide +kernel
theorem dX7_gains_3 : decode cX7_gains 3 = .ok (.iload_n 3, 1) := by decide +kernel
theorem dX7_gains_4 : decode cX7_gains 4 = .ok (.istore 7, 2) := by decide +kernel
theorem dX7_gains_6 : decode cX7_gains 6 = .ok (.iload 7, 2) := by decide +kernel
theorem dX7_gains_8 : decode cX7_gains 8 = .ok (.iload_n 3, 1) := by decide +kernel
theorem dX7_gains_9 : decode cX7_gains 9 = .ok (.iload 4, 2) := by decide +kernel
theorem dX7_gains_11 : decode cX7_gains 11 = .ok (.iadd, 1) := by decide +kernel
theorem dX7_gains_12 : decode cX7_gains 12 = .ok (.if_icmp .ge 88, 3) := by decide +kernel
theorem dX7_gains_15 : decode cX7_gains 15 = .ok (.aload_n 0, 1) := by decide +kernel
theorem dX7_gains_16 : decode cX7_gains 16 = .ok (.getfield 16, 3) := by decide +kernel
theorem dX7_gains_19 : decode cX7_gains 19 = .ok (.iload_n 2, 1) := by decide +kernel
theorem dX7_gains_20 : decode cX7_gains 20 = .ok (.invokevirtual 63, 3) := by decide +kernel
theorem dX7_gains_23 : decode cX7_gains 23 = .ok (.checkcast 44, 3) := by decide +kernel
theorem dX7_gains_26 : decode cX7_gains 26 = .ok (.getfield 97, 3) := by decide +kernel
theorem dX7_gains_29 : decode cX7_gains 29 = .ok (.iload 7, 2) := by decide +kernel
theorem dX7_gains_31 : decode cX7_gains 31 = .ok (.iaload, 1) := by decide +kernel
theorem dX7_gains_32 : decode cX7_gains 32 = .ok (.istore 8, 2) := by decide +kernel
theorem dX7_gains_34 : decode cX7_gains 34 = .ok (.iload 6, 2) := by decide +kernel
theorem dX7_gains_36 : decode cX7_gains 36 = .ok (.getstatic 165, 3) := by decide +kernel
theorem dX7_gains_39 : decode cX7_gains 39 = .ok (.iload 5, 2) := by decide +kernel
theorem dX7_gains_41 : decode cX7_gains 41 = .ok (.iaload, 1) := by decide +kernel
theorem dX7_gains_42 : decode cX7_gains 42 = .ok (.iload 8, 2) := by decide +kernel
theorem dX7_gains_44 : decode cX7_gains 44 = .ok (.iconst (-1), 1) := by decide +kernel
theorem dX7_gains_45 : decode cX7_gains 45 = .ok (.if_icmp .eq 44, 3) := by decide +kernel
theorem dX7_gains_48 : decode cX7_gains 48 = .ok (.aload_n 0, 1) := by decide +kernel
theorem dX7_gains_49 : decode cX7_gains 49 = .ok (.getfield 23, 3) := by decide +kernel
theorem dX7_gains_52 : decode cX7_gains 52 = .ok (.iload 8, 2) := by decide +kernel
theorem dX7_gains_54 : decode cX7_gains 54 = .ok (.invokevirtual 63, 3) := by decide +kernel
theorem dX7_gains_57 : decode cX7_gains 57 = .ok (.checkcast 85, 3) := by decide +kernel
theorem dX7_gains_60 : decode cX7_gains 60 = .ok (.getfield 84, 3) := by decide +kernel
theorem dX7_gains_63 : decode cX7_gains 63 = .ok (.iload_n 1, 1) := by decide +kernel
theorem dX7_gains_64 : decode cX7_gains 64 = .ok (.if_icmp .ne 25, 3) := by decide +kernel
theorem dX7_gains_67 : decode cX7_gains 67 = .ok (.getstatic 165, 3) := by decide +kernel
theorem dX7_gains_70 : decode cX7_gains 70 = .ok (.aload_n 0, 1) := by decide +kernel
theorem dX7_gains_71 : decode cX7_gains 71 = .ok (.getfield 23, 3) := by decide +kernel
theorem dX7_gains_74 : decode cX7_gains 74 = .ok (.iload 8, 2) := by decide +kernel
theorem dX7_gains_76 : decode cX7_gains 76 = .ok (.invokevirtual 63, 3) := by decide +kernel
theorem dX7_gains_79 : decode cX7_gains 79 = .ok (.checkcast 85, 3) := by decide +kernel
theorem dX7_gains_82 : decode cX7_gains 82 = .ok (.getfield 93, 3) := by decide +kernel
theorem dX7_gains_85 : decode cX7_gains 85 = .ok (.iaload, 1) := by decide +kernel
theorem dX7_gains_86 : decode cX7_gains 86 = .ok (.goto 4, 3) := by decide +kernel
theorem dX7_gains_89 : decode cX7_gains 89 = .ok (.iconst 0, 1) := by decide +kernel
theorem dX7_gains_90 : decode cX7_gains 90 = .ok (.isub, 1) := by decide +kernel
theorem dX7_gains_91 : decode cX7_gains 91 = .ok (.iadd, 1) := by decide +kernel
theorem dX7_gains_92 : decode cX7_gains 92 = .ok (.istore 6, 2) := by decide +kernel
theorem dX7_gains_94 : decode cX7_gains 94 = .ok (.iinc 7 1, 3) := by decide +kernel
theorem dX7_gains_97 : decode cX7_gains 97 = .ok (.goto (-91), 3) := by decide +kernel
theorem dX7_gains_100 : decode cX7_gains 100 = .ok (.iload 6, 2) := by decide +kernel
theorem dX7_gains_102 : decode cX7_gains 102 = .ok (.ireturn, 1) := by decide +kernel
theorem dX7_bestFromNow_0 : decode cX7_bestFromNow 0 = .ok (.iconst (-1), 1) := by decide +kernel
theorem dX7_bestFromNow_1 : decode cX7_bestFromNow 1 = .ok (.istore 5, 2) := by decide +kernel
theorem dX7_bestFromNow_3 : decode cX7_bestFromNow 3 = .ok (.iconst 0, 1) := by decide +kernel
theorem dX7_bestFromNow_4 : decode cX7_bestFromNow 4 = .ok (.istore 6, 2) := by decide +kernel
theorem dX7_bestFromNow_6 : decode cX7_bestFromNow 6 = .ok (.iload 6, 2) := by decide +kernel
theorem dX7_bestFromNow_8 : decode cX7_bestFromNow 8 = .ok (.aload_n 0, 1) := by decide +kernel
theorem dX7_bestFromNow_9 : decode cX7_bestFromNow 9 = .ok (.getfield 16, 3) := by decide +kernel
theorem dX7_bestFromNow_12 : decode cX7_bestFromNow 12 = .ok (.iload_n 2, 1) := by decide +kernel
theorem dX7_bestFromNow_13 : decode cX7_bestFromNow 13 = .ok (.invokevirtual 63, 3) := by decide +kernel
theorem dX7_bestFromNow_16 : decode cX7_bestFromNow 16 = .ok (.checkcast 44, 3) := by decide +kernel
theorem dX7_bestFromNow_19 : decode cX7_bestFromNow 19 = .ok (.getfield 97, 3) := by decide +kernel
theorem dX7_bestFromNow_22 : decode cX7_bestFromNow 22 = .ok (.arraylength, 1) := by decide +kernel
theorem dX7_bestFromNow_23 : decode cX7_bestFromNow 23 = .ok (.iload_n 3, 1) := by decide +kernel
theorem dX7_bestFromNow_24 : decode cX7_bestFromNow 24 = .ok (.isub, 1) := by decide +kernel
theorem dX7_bestFromNow_25 : decode cX7_bestFromNow 25 = .ok (.if_icmp .gt 83, 3) := by decide +kernel
theorem dX7_bestFromNow_28 : decode cX7_bestFromNow 28 = .ok (.iload 5, 2) := by decide +kernel
theorem dX7_bestFromNow_30 : decode cX7_bestFromNow 30 = .ok (.iconst (-1), 1) := by decide +kernel
theorem dX7_bestFromNow_31 : decode cX7_bestFromNow 31 = .ok (.if_icmp .ne 7, 3) := by decide +kernel
theorem dX7_bestFromNow_34 : decode cX7_bestFromNow 34 = .ok (.iconst (-1), 1) := by decide +kernel
theorem dX7_bestFromNow_35 : decode cX7_bestFromNow 35 = .ok (.goto 26, 3) := by decide +kernel
theorem dX7_bestFromNow_38 : decode cX7_bestFromNow 38 = .ok (.aload_n 0, 1) := by decide +kernel
theorem dX7_bestFromNow_39 : decode cX7_bestFromNow 39 = .ok (.iload_n 1, 1) := by decide +kernel
theorem dX7_bestFromNow_40 : decode cX7_bestFromNow 40 = .ok (.iload_n 2, 1) := by decide +kernel
theorem dX7_bestFromNow_41 : decode cX7_bestFromNow 41 = .ok (.iload 6, 2) := by decide +kernel
theorem dX7_bestFromNow_43 : decode cX7_bestFromNow 43 = .ok (.iload_n 3, 1) := by decide +kernel
theorem dX7_bestFromNow_44 : decode cX7_bestFromNow 44 = .ok (.iload 4, 2) := by decide +kernel
theorem dX7_bestFromNow_46 : decode cX7_bestFromNow 46 = .ok (.invokevirtual 126, 3) := by decide +kernel
theorem dX7_bestFromNow_49 : decode cX7_bestFromNow 49 = .ok (.aload_n 0, 1) := by decide +kernel
theorem dX7_bestFromNow_50 : decode cX7_bestFromNow 50 = .ok (.iload_n 1, 1) := by decide +kernel
theorem dX7_bestFromNow_51 : decode cX7_bestFromNow 51 = .ok (.iload_n 2, 1) := by decide +kernel
theorem dX7_bestFromNow_52 : decode cX7_bestFromNow 52 = .ok (.iload 5, 2) := by decide +kernel
theorem dX7_bestFromNow_54 : decode cX7_bestFromNow 54 = .ok (.iload_n 3, 1) := by decide +kernel
theorem dX7_bestFromNow_55 : decode cX7_bestFromNow 55 = .ok (.iload 4, 2) := by decide +kernel
theorem dX7_bestFromNow_57 : decode cX7_bestFromNow 57 = .ok (.invokevirtual 126, 3) := by decide +kernel
theorem dX7_bestFromNow_60 : decode cX7_bestFromNow 60 = .ok (.isub, 1) := by decide +kernel
theorem dX7_bestFromNow_61 : decode cX7_bestFromNow 61 = .ok (.istore 7, 2) := by decide +kernel
theorem dX7_bestFromNow_63 : decode cX7_bestFromNow 63 = .ok (.iload 7, 2) := by decide +kernel
theorem dX7_bestFromNow_65 : decode cX7_bestFromNow 65 = .ok (.ifCond .lt 33, 3) := by decide +kernel
theorem dX7_bestFromNow_68 : decode cX7_bestFromNow 68 = .ok (.iload 7, 2) := by decide +kernel
theorem dX7_bestFromNow_70 : decode cX7_bestFromNow 70 = .ok (.ifCond .ne 32, 3) := by decide +kernel
theorem dX7_bestFromNow_73 : decode cX7_bestFromNow 73 = .ok (.aload_n 0, 1) := by decide +kernel
theorem dX7_bestFromNow_74 : decode cX7_bestFromNow 74 = .ok (.iload_n 1, 1) := by decide +kernel
theorem dX7_bestFromNow_75 : decode cX7_bestFromNow 75 = .ok (.iload_n 2, 1) := by decide +kernel
theorem dX7_bestFromNow_76 : decode cX7_bestFromNow 76 = .ok (.iload 6, 2) := by decide +kernel
theorem dX7_bestFromNow_78 : decode cX7_bestFromNow 78 = .ok (.iload_n 3, 1) := by decide +kernel
theorem dX7_bestFromNow_79 : decode cX7_bestFromNow 79 = .ok (.iload 4, 2) := by decide +kernel
theorem dX7_bestFromNow_81 : decode cX7_bestFromNow 81 = .ok (.invokevirtual 264, 3) := by decide +kernel
theorem dX7_bestFromNow_84 : decode cX7_bestFromNow 84 = .ok (.aload_n 0, 1) := by decide +kernel
theorem dX7_bestFromNow_85 : decode cX7_bestFromNow 85 = .ok (.iload_n 1, 1) := by decide +kernel
theorem dX7_bestFromNow_86 : decode cX7_bestFromNow 86 = .ok (.iload_n 2, 1) := by decide +kernel
theorem dX7_bestFromNow_87 : decode cX7_bestFromNow 87 = .ok (.iload 5, 2) := by decide +kernel
theorem dX7_bestFromNow_89 : decode cX7_bestFromNow 89 = .ok (.iload_n 3, 1) := by decide +kernel
theorem dX7_bestFromNow_90 : decode cX7_bestFromNow 90 = .ok (.iload 4, 2) := by decide +kernel
theorem dX7_bestFromNow_92 : decode cX7_bestFromNow 92 = .ok (.invokevirtual 264, 3) := by decide +kernel
theorem dX7_bestFromNow_95 : decode cX7_bestFromNow 95 = .ok (.if_icmp .le 7, 3) := by decide +kernel
theorem dX7_bestFromNow_98 : decode cX7_bestFromNow 98 = .ok (.iload 6, 2) := by decide +kernel
theorem dX7_bestFromNow_100 : decode cX7_bestFromNow 100 = .ok (.istore 5, 2) := by decide +kernel
theorem dX7_bestFromNow_102 : decode cX7_bestFromNow 102 = .ok (.iinc 6 1, 3) := by decide +kernel
theorem dX7_bestFromNow_105 : decode cX7_bestFromNow 105 = .ok (.goto (-99), 3) := by decide +kernel
theorem dX7_bestFromNow_108 : decode cX7_bestFromNow 108 = .ok (.iload 5, 2) := by decide +kernel
theorem dX7_bestFromNow_110 : decode cX7_bestFromNow 110 = .ok (.ireturn, 1) := by decide +kernel
theorem dX7_bestFrom_0 : decode cX7_bestFrom 0 = .ok (.aload_n 0, 1) := by decide +kernel
theorem dX7_bestFrom_1 : decode cX7_bestFrom 1 = .ok (.aload_n 0, 1) := by decide +kernel
theorem dX7_bestFrom_2 : decode cX7_bestFrom 2 = .ok (.iload_n 1, 1) := by decide +kernel
theorem dX7_bestFrom_3 : decode cX7_bestFrom 3 = .ok (.invokevirtual 113, 3) := by decide +kernel
theorem dX7_bestFrom_6 : decode cX7_bestFrom 6 = .ok (.ifCond .ne 11, 3) := by decide +kernel
theorem dX7_bestFrom_9 : decode cX7_bestFrom 9 = .ok (.aload_n 0, 1) := by decide +kernel
theorem dX7_bestFrom_10 : decode cX7_bestFrom 10 = .ok (.iload_n 2, 1) := by decide +kernel
theorem dX7_bestFrom_11 : decode cX7_bestFrom 11 = .ok (.invokevirtual 56, 3) := by decide +kernel
theorem dX7_bestFrom_14 : decode cX7_bestFrom 14 = .ok (.ifCond .eq 7, 3) := by decide +kernel
theorem dX7_bestFrom_17 : decode cX7_bestFrom 17 = .ok (.iconst 1, 1) := by decide +kernel
theorem dX7_bestFrom_18 : decode cX7_bestFrom 18 = .ok (.goto 4, 3) := by decide +kernel
theorem dX7_bestFrom_21 : decode cX7_bestFrom 21 = .ok (.iconst 0, 1) := by decide +kernel
theorem dX7_bestFrom_22 : decode cX7_bestFrom 22 = .ok (.iconst 1, 1) := by decide +kernel
theorem dX7_bestFrom_23 : decode cX7_bestFrom 23 = .ok (.invokevirtual 41, 3) := by decide +kernel
theorem dX7_bestFrom_26 : decode cX7_bestFrom 26 = .ok (.ifCond .ne 36, 3) := by decide +kernel
theorem dX7_bestFrom_29 : decode cX7_bestFrom 29 = .ok (.aload_n 0, 1) := by decide +kernel
theorem dX7_bestFrom_30 : decode cX7_bestFrom 30 = .ok (.iload_n 3, 1) := by decide +kernel
theorem dX7_bestFrom_31 : decode cX7_bestFrom 31 = .ok (.iconst 1, 1) := by decide +kernel
theorem dX7_bestFrom_32 : decode cX7_bestFrom 32 = .ok (.bipush 16, 2) := by decide +kernel
theorem dX7_bestFrom_34 : decode cX7_bestFrom 34 = .ok (.invokestatic 37, 3) := by decide +kernel
theorem dX7_bestFrom_37 : decode cX7_bestFrom 37 = .ok (.ifCond .eq 13, 3) := by decide +kernel
theorem dX7_bestFrom_40 : decode cX7_bestFrom 40 = .ok (.iload 4, 2) := by decide +kernel
theorem dX7_bestFrom_42 : decode cX7_bestFrom 42 = .ok (.iconst 0, 1) := by decide +kernel
theorem dX7_bestFrom_43 : decode cX7_bestFrom 43 = .ok (.iconst 3, 1) := by decide +kernel
theorem dX7_bestFrom_44 : decode cX7_bestFrom 44 = .ok (.invokestatic 37, 3) := by decide +kernel
theorem dX7_bestFrom_47 : decode cX7_bestFrom 47 = .ok (.ifCond .ne 7, 3) := by decide +kernel
theorem dX7_bestFrom_50 : decode cX7_bestFrom 50 = .ok (.iconst 1, 1) := by decide +kernel
theorem dX7_bestFrom_51 : decode cX7_bestFrom 51 = .ok (.goto 4, 3) := by decide +kernel
theorem dX7_bestFrom_54 : decode cX7_bestFrom 54 = .ok (.iconst 0, 1) := by decide +kernel
theorem dX7_bestFrom_55 : decode cX7_bestFrom 55 = .ok (.iconst 2, 1) := by decide +kernel
theorem dX7_bestFrom_56 : decode cX7_bestFrom 56 = .ok (.invokevirtual 29, 3) := by decide +kernel
theorem dX7_bestFrom_59 : decode cX7_bestFrom 59 = .ok (.ifCond .eq 7, 3) := by decide +kernel
theorem dX7_bestFrom_62 : decode cX7_bestFrom 62 = .ok (.iconst 0, 1) := by decide +kernel
theorem dX7_bestFrom_63 : decode cX7_bestFrom 63 = .ok (.goto 12, 3) := by decide +kernel
theorem dX7_bestFrom_66 : decode cX7_bestFrom 66 = .ok (.aload_n 0, 1) := by decide +kernel
theorem dX7_bestFrom_67 : decode cX7_bestFrom 67 = .ok (.iload_n 1, 1) := by decide +kernel
theorem dX7_bestFrom_68 : decode cX7_bestFrom 68 = .ok (.iload_n 2, 1) := by decide +kernel
theorem dX7_bestFrom_69 : decode cX7_bestFrom 69 = .ok (.iload_n 3, 1) := by decide +kernel
theorem dX7_bestFrom_70 : decode cX7_bestFrom 70 = .ok (.iload 4, 2) := by decide +kernel
theorem dX7_bestFrom_72 : decode cX7_bestFrom 72 = .ok (.invokevirtual 267, 3) := by decide +kernel
theorem dX7_bestFrom_75 : decode cX7_bestFrom 75 = .ok (.ireturn, 1) := by decide +kernel
theorem dX7_wouldWrong_0 : decode cX7_wouldWrong 0 = .ok (.aload_n 0, 1) := by decide +kernel
theorem dX7_wouldWrong_1 : decode cX7_wouldWrong 1 = .ok (.aload_n 0, 1) := by decide +kernel
theorem dX7_wouldWrong_2 : decode cX7_wouldWrong 2 = .ok (.iload_n 1, 1) := by decide +kernel
theorem dX7_wouldWrong_3 : decode cX7_wouldWrong 3 = .ok (.invokevirtual 113, 3) := by decide +kernel
theorem dX7_wouldWrong_6 : decode cX7_wouldWrong 6 = .ok (.ifCond .ne 11, 3) := by decide +kernel
theorem dX7_wouldWrong_9 : decode cX7_wouldWrong 9 = .ok (.aload_n 0, 1) := by decide +kernel
theorem dX7_wouldWrong_10 : decode cX7_wouldWrong 10 = .ok (.iload_n 2, 1) := by decide +kernel
theorem dX7_wouldWrong_11 : decode cX7_wouldWrong 11 = .ok (.invokevirtual 56, 3) := by decide +kernel
theorem dX7_wouldWrong_14 : decode cX7_wouldWrong 14 = .ok (.ifCond .eq 7, 3) := by decide +kernel
theorem dX7_wouldWrong_17 : decode cX7_wouldWrong 17 = .ok (.iconst 1, 1) := by decide +kernel
theorem dX7_wouldWrong_18 : decode cX7_wouldWrong 18 = .ok (.goto 4, 3) := by decide +kernel
theorem dX7_wouldWrong_21 : decode cX7_wouldWrong 21 = .ok (.iconst 0, 1) := by decide +kernel
theorem dX7_wouldWrong_22 : decode cX7_wouldWrong 22 = .ok (.iconst 1, 1) := by decide +kernel
theorem dX7_wouldWrong_23 : decode cX7_wouldWrong 23 = .ok (.invokevirtual 41, 3) := by decide +kernel
theorem dX7_wouldWrong_26 : decode cX7_wouldWrong 26 = .ok (.ifCond .ne 37, 3) := by decide +kernel
theorem dX7_wouldWrong_29 : decode cX7_wouldWrong 29 = .ok (.aload_n 0, 1) := by decide +kernel
theorem dX7_wouldWrong_30 : decode cX7_wouldWrong 30 = .ok (.aload_n 0, 1) := by decide +kernel
theorem dX7_wouldWrong_31 : decode cX7_wouldWrong 31 = .ok (.iload_n 2, 1) := by decide +kernel
theorem dX7_wouldWrong_32 : decode cX7_wouldWrong 32 = .ok (.iload_n 3, 1) := by decide +kernel
theorem dX7_wouldWrong_33 : decode cX7_wouldWrong 33 = .ok (.iload 4, 2) := by decide +kernel
theorem dX7_wouldWrong_35 : decode cX7_wouldWrong 35 = .ok (.invokevirtual 116, 3) := by decide +kernel
theorem dX7_wouldWrong_38 : decode cX7_wouldWrong 38 = .ok (.ifCond .ne 13, 3) := by decide +kernel
theorem dX7_wouldWrong_41 : decode cX7_wouldWrong 41 = .ok (.iload 5, 2) := by decide +kernel
theorem dX7_wouldWrong_43 : decode cX7_wouldWrong 43 = .ok (.iconst 0, 1) := by decide +kernel
theorem dX7_wouldWrong_44 : decode cX7_wouldWrong 44 = .ok (.iconst 3, 1) := by decide +kernel
theorem dX7_wouldWrong_45 : decode cX7_wouldWrong 45 = .ok (.invokestatic 37, 3) := by decide +kernel
theorem dX7_wouldWrong_48 : decode cX7_wouldWrong 48 = .ok (.ifCond .ne 7, 3) := by decide +kernel
theorem dX7_wouldWrong_51 : decode cX7_wouldWrong 51 = .ok (.iconst 1, 1) := by decide +kernel
theorem dX7_wouldWrong_52 : decode cX7_wouldWrong 52 = .ok (.goto 4, 3) := by decide +kernel
theorem dX7_wouldWrong_55 : decode cX7_wouldWrong 55 = .ok (.iconst 0, 1) := by decide +kernel
theorem dX7_wouldWrong_56 : decode cX7_wouldWrong 56 = .ok (.iconst 2, 1) := by decide +kernel
theorem dX7_wouldWrong_57 : decode cX7_wouldWrong 57 = .ok (.invokevirtual 29, 3) := by decide +kernel
theorem dX7_wouldWrong_60 : decode cX7_wouldWrong 60 = .ok (.ifCond .eq 7, 3) := by decide +kernel
theorem dX7_wouldWrong_63 : decode cX7_wouldWrong 63 = .ok (.iconst 0, 1) := by decide +kernel
theorem dX7_wouldWrong_64 : decode cX7_wouldWrong 64 = .ok (.goto 14, 3) := by decide +kernel
theorem dX7_wouldWrong_67 : decode cX7_wouldWrong 67 = .ok (.aload_n 0, 1) := by decide +kernel
theorem dX7_wouldWrong_68 : decode cX7_wouldWrong 68 = .ok (.iload_n 1, 1) := by decide +kernel
theorem dX7_wouldWrong_69 : decode cX7_wouldWrong 69 = .ok (.iload_n 2, 1) := by decide +kernel
theorem dX7_wouldWrong_70 : decode cX7_wouldWrong 70 = .ok (.iload_n 3, 1) := by decide +kernel
theorem dX7_wouldWrong_71 : decode cX7_wouldWrong 71 = .ok (.iload 4, 2) := by decide +kernel
theorem dX7_wouldWrong_73 : decode cX7_wouldWrong 73 = .ok (.iload 5, 2) := by decide +kernel
theorem dX7_wouldWrong_75 : decode cX7_wouldWrong 75 = .ok (.invokevirtual 126, 3) := by decide +kernel
theorem dX7_wouldWrong_78 : decode cX7_wouldWrong 78 = .ok (.ireturn, 1) := by decide +kernel
theorem dX7_nextBuffNow_0 : decode cX7_nextBuffNow 0 = .ok (.iconst (-1), 1) := by decide +kernel
theorem dX7_nextBuffNow_1 : decode cX7_nextBuffNow 1 = .ok (.istore_n 1, 1) := by decide +kernel
theorem dX7_nextBuffNow_2 : decode cX7_nextBuffNow 2 = .ok (.iconst 0, 1) := by decide +kernel
theorem dX7_nextBuffNow_3 : decode cX7_nextBuffNow 3 = .ok (.istore_n 2, 1) := by decide +kernel
theorem dX7_nextBuffNow_4 : decode cX7_nextBuffNow 4 = .ok (.iconst 0, 1) := by decide +kernel
theorem dX7_nextBuffNow_5 : decode cX7_nextBuffNow 5 = .ok (.istore_n 3, 1) := by decide +kernel
theorem dX7_nextBuffNow_6 : decode cX7_nextBuffNow 6 = .ok (.iload_n 3, 1) := by decide +kernel
theorem dX7_nextBuffNow_7 : decode cX7_nextBuffNow 7 = .ok (.aload_n 0, 1) := by decide +kernel
theorem dX7_nextBuffNow_8 : decode cX7_nextBuffNow 8 = .ok (.getfield 16, 3) := by decide +kernel
theorem dX7_nextBuffNow_11 : decode cX7_nextBuffNow 11 = .ok (.invokevirtual 33, 3) := by decide +kernel
theorem dX7_nextBuffNow_14 : decode cX7_nextBuffNow 14 = .ok (.if_icmp .ge 57, 3) := by decide +kernel
theorem dX7_nextBuffNow_17 : decode cX7_nextBuffNow 17 = .ok (.aload_n 0, 1) := by decide +kernel
theorem dX7_nextBuffNow_18 : decode cX7_nextBuffNow 18 = .ok (.getfield 16, 3) := by decide +kernel
theorem dX7_nextBuffNow_21 : decode cX7_nextBuffNow 21 = .ok (.iload_n 3, 1) := by decide +kernel
theorem dX7_nextBuffNow_22 : decode cX7_nextBuffNow 22 = .ok (.invokevirtual 63, 3) := by decide +kernel
theorem dX7_nextBuffNow_25 : decode cX7_nextBuffNow 25 = .ok (.checkcast 44, 3) := by decide +kernel
theorem dX7_nextBuffNow_28 : decode cX7_nextBuffNow 28 = .ok (.getfield 194, 3) := by decide +kernel
theorem dX7_nextBuffNow_31 : decode cX7_nextBuffNow 31 = .ok (.aload_n 0, 1) := by decide +kernel
theorem dX7_nextBuffNow_32 : decode cX7_nextBuffNow 32 = .ok (.iload_n 3, 1) := by decide +kernel
theorem dX7_nextBuffNow_33 : decode cX7_nextBuffNow 33 = .ok (.invokevirtual 159, 3) := by decide +kernel
theorem dX7_nextBuffNow_36 : decode cX7_nextBuffNow 36 = .ok (.imul, 1) := by decide +kernel
theorem dX7_nextBuffNow_37 : decode cX7_nextBuffNow 37 = .ok (.istore 4, 2) := by decide +kernel
theorem dX7_nextBuffNow_39 : decode cX7_nextBuffNow 39 = .ok (.iload 4, 2) := by decide +kernel
theorem dX7_nextBuffNow_41 : decode cX7_nextBuffNow 41 = .ok (.iload_n 2, 1) := by decide +kernel
theorem dX7_nextBuffNow_42 : decode cX7_nextBuffNow 42 = .ok (.if_icmp .le 23, 3) := by decide +kernel
theorem dX7_nextBuffNow_45 : decode cX7_nextBuffNow 45 = .ok (.aload_n 0, 1) := by decide +kernel
theorem dX7_nextBuffNow_46 : decode cX7_nextBuffNow 46 = .ok (.iload_n 3, 1) := by decide +kernel
theorem dX7_nextBuffNow_47 : decode cX7_nextBuffNow 47 = .ok (.invokevirtual 159, 3) := by decide +kernel
theorem dX7_nextBuffNow_50 : decode cX7_nextBuffNow 50 = .ok (.aload_n 0, 1) := by decide +kernel
theorem dX7_nextBuffNow_51 : decode cX7_nextBuffNow 51 = .ok (.getfield 9, 3) := by decide +kernel
theorem dX7_nextBuffNow_54 : decode cX7_nextBuffNow 54 = .ok (.if_icmp .le 6, 3) := by decide +kernel
theorem dX7_nextBuffNow_57 : decode cX7_nextBuffNow 57 = .ok (.goto 8, 3) := by decide +kernel
theorem dX7_nextBuffNow_60 : decode cX7_nextBuffNow 60 = .ok (.iload_n 3, 1) := by decide +kernel
theorem dX7_nextBuffNow_61 : decode cX7_nextBuffNow 61 = .ok (.istore_n 1, 1) := by decide +kernel
theorem dX7_nextBuffNow_62 : decode cX7_nextBuffNow 62 = .ok (.iload 4, 2) := by decide +kernel
theorem dX7_nextBuffNow_64 : decode cX7_nextBuffNow 64 = .ok (.istore_n 2, 1) := by decide +kernel
theorem dX7_nextBuffNow_65 : decode cX7_nextBuffNow 65 = .ok (.iinc 3 1, 3) := by decide +kernel
theorem dX7_nextBuffNow_68 : decode cX7_nextBuffNow 68 = .ok (.goto (-62), 3) := by decide +kernel
theorem dX7_nextBuffNow_71 : decode cX7_nextBuffNow 71 = .ok (.iload_n 1, 1) := by decide +kernel
theorem dX7_nextBuffNow_72 : decode cX7_nextBuffNow 72 = .ok (.ireturn, 1) := by decide +kernel
theorem dX7_nextBuff_0 : decode cX7_nextBuff 0 = .ok (.aload_n 0, 1) := by decide +kernel
theorem dX7_nextBuff_1 : decode cX7_nextBuff 1 = .ok (.iconst 0, 1) := by decide +kernel
theorem dX7_nextBuff_2 : decode cX7_nextBuff 2 = .ok (.putfield 26, 3) := by decide +kernel
theorem dX7_nextBuff_5 : decode cX7_nextBuff 5 = .ok (.aload_n 0, 1) := by decide +kernel
theorem dX7_nextBuff_6 : decode cX7_nextBuff 6 = .ok (.invokevirtual 271, 3) := by decide +kernel
theorem dX7_nextBuff_9 : decode cX7_nextBuff 9 = .ok (.ireturn, 1) := by decide +kernel
theorem dX7_isCleaned_0 : decode cX7_isCleaned 0 = .ok (.aload_n 1, 1) := by decide +kernel
theorem dX7_isCleaned_1 : decode cX7_isCleaned 1 = .ok (.getfield 212, 3) := by decide +kernel
theorem dX7_isCleaned_4 : decode cX7_isCleaned 4 = .ok (.ifCond .ne 5, 3) := by decide +kernel
theorem dX7_isCleaned_7 : decode cX7_isCleaned 7 = .ok (.iconst 0, 1) := by decide +kernel
theorem dX7_isCleaned_8 : decode cX7_isCleaned 8 = .ok (.ireturn, 1) := by decide +kernel
theorem dX7_isCleaned_9 : decode cX7_isCleaned 9 = .ok (.aload_n 0, 1) := by decide +kernel
theorem dX7_isCleaned_10 : decode cX7_isCleaned 10 = .ok (.getfield 60, 3) := by decide +kernel
theorem dX7_isCleaned_13 : decode cX7_isCleaned 13 = .ok (.iload_n 2, 1) := by decide +kernel
theorem dX7_isCleaned_14 : decode cX7_isCleaned 14 = .ok (.iadd, 1) := by decide +kernel
theorem dX7_isCleaned_15 : decode cX7_isCleaned 15 = .ok (.aload_n 1, 1) := by decide +kernel
theorem dX7_isCleaned_16 : decode cX7_isCleaned 16 = .ok (.getfield 212, 3) := by decide +kernel
theorem dX7_isCleaned_19 : decode cX7_isCleaned 19 = .ok (.idiv, 1) := by decide +kernel
theorem dX7_isCleaned_20 : decode cX7_isCleaned 20 = .ok (.aload_n 0, 1) := by decide +kernel
theorem dX7_isCleaned_21 : decode cX7_isCleaned 21 = .ok (.getfield 60, 3) := by decide +kernel
theorem dX7_isCleaned_24 : decode cX7_isCleaned 24 = .ok (.aload_n 1, 1) := by decide +kernel
theorem dX7_isCleaned_25 : decode cX7_isCleaned 25 = .ok (.getfield 212, 3) := by decide +kernel
theorem dX7_isCleaned_28 : decode cX7_isCleaned 28 = .ok (.idiv, 1) := by decide +kernel
theorem dX7_isCleaned_29 : decode cX7_isCleaned 29 = .ok (.if_icmp .le 7, 3) := by decide +kernel
theorem dX7_isCleaned_32 : decode cX7_isCleaned 32 = .ok (.iconst 1, 1) := by decide +kernel
theorem dX7_isCleaned_33 : decode cX7_isCleaned 33 = .ok (.goto 4, 3) := by decide +kernel
theorem dX7_isCleaned_36 : decode cX7_isCleaned 36 = .ok (.iconst 0, 1) := by decide +kernel
theorem dX7_isCleaned_37 : decode cX7_isCleaned 37 = .ok (.ireturn, 1) := by decide +kernel
theorem dX7_wouldFameNow_0 : decode cX7_wouldFameNow 0 = .ok (.iconst 0, 1) := by decide +kernel
theorem dX7_wouldFameNow_1 : decode cX7_wouldFameNow 1 = .ok (.istore_n 3, 1) := by decide +kernel
theorem dX7_wouldFameNow_2 : decode cX7_wouldFameNow 2 = .ok (.aload_n 0, 1) := by decide +kernel
theorem dX7_wouldFameNow_3 : decode cX7_wouldFameNow 3 = .ok (.getfield 16, 3) := by decide +kernel
theorem dX7_wouldFameNow_6 : decode cX7_wouldFameNow 6 = .ok (.invokevirtual 180, 3) := by decide +kernel
theorem dX7_wouldFameNow_9 : decode cX7_wouldFameNow 9 = .ok (.astore 4, 2) := by decide +kernel
theorem dX7_wouldFameNow_11 : decode cX7_wouldFameNow 11 = .ok (.aload 4, 2) := by decide +kernel
theorem dX7_wouldFameNow_13 : decode cX7_wouldFameNow 13 = .ok (.invokeinterface 184 1, 5) := by decide +kernel
theorem dX7_wouldFameNow_18 : decode cX7_wouldFameNow 18 = .ok (.ifCond .eq 116, 3) := by decide +kernel
theorem dX7_wouldFameNow_21 : decode cX7_wouldFameNow 21 = .ok (.aload 4, 2) := by decide +kernel
theorem dX7_wouldFameNow_23 : decode cX7_wouldFameNow 23 = .ok (.invokeinterface 190 1, 5) := by decide +kernel
theorem dX7_wouldFameNow_28 : decode cX7_wouldFameNow 28 = .ok (.checkcast 44, 3) := by decide +kernel
theorem dX7_wouldFameNow_31 : decode cX7_wouldFameNow 31 = .ok (.astore 5, 2) := by decide +kernel
theorem dX7_wouldFameNow_33 : decode cX7_wouldFameNow 33 = .ok (.aload 5, 2) := by decide +kernel
theorem dX7_wouldFameNow_35 : decode cX7_wouldFameNow 35 = .ok (.getfield 97, 3) := by decide +kernel
theorem dX7_wouldFameNow_38 : decode cX7_wouldFameNow 38 = .ok (.astore 6, 2) := by decide +kernel
theorem dX7_wouldFameNow_40 : decode cX7_wouldFameNow 40 = .ok (.aload 6, 2) := by decide +kernel
theorem dX7_wouldFameNow_42 : decode cX7_wouldFameNow 42 = .ok (.arraylength, 1) := by decide +kernel
theorem dX7_wouldFameNow_43 : decode cX7_wouldFameNow 43 = .ok (.istore 7, 2) := by decide +kernel
theorem dX7_wouldFameNow_45 : decode cX7_wouldFameNow 45 = .ok (.iconst 0, 1) := by decide +kernel
theorem dX7_wouldFameNow_46 : decode cX7_wouldFameNow 46 = .ok (.istore 8, 2) := by decide +kernel
theorem dX7_wouldFameNow_48 : decode cX7_wouldFameNow 48 = .ok (.iload 8, 2) := by decide +kernel
theorem dX7_wouldFameNow_50 : decode cX7_wouldFameNow 50 = .ok (.iload 7, 2) := by decide +kernel
theorem dX7_wouldFameNow_52 : decode cX7_wouldFameNow 52 = .ok (.if_icmp .ge 79, 3) := by decide +kernel
theorem dX7_wouldFameNow_55 : decode cX7_wouldFameNow 55 = .ok (.aload 6, 2) := by decide +kernel
theorem dX7_wouldFameNow_57 : decode cX7_wouldFameNow 57 = .ok (.iload 8, 2) := by decide +kernel
theorem dX7_wouldFameNow_59 : decode cX7_wouldFameNow 59 = .ok (.iaload, 1) := by decide +kernel
theorem dX7_wouldFameNow_60 : decode cX7_wouldFameNow 60 = .ok (.istore 9, 2) := by decide +kernel
theorem dX7_wouldFameNow_62 : decode cX7_wouldFameNow 62 = .ok (.iload 9, 2) := by decide +kernel
theorem dX7_wouldFameNow_64 : decode cX7_wouldFameNow 64 = .ok (.iconst (-1), 1) := by decide +kernel
theorem dX7_wouldFameNow_65 : decode cX7_wouldFameNow 65 = .ok (.if_icmp .eq 60, 3) := by decide +kernel
theorem dX7_wouldFameNow_68 : decode cX7_wouldFameNow 68 = .ok (.aload_n 0, 1) := by decide +kernel
theorem dX7_wouldFameNow_69 : decode cX7_wouldFameNow 69 = .ok (.getfield 23, 3) := by decide +kernel
theorem dX7_wouldFameNow_72 : decode cX7_wouldFameNow 72 = .ok (.iload 9, 2) := by decide +kernel
theorem dX7_wouldFameNow_74 : decode cX7_wouldFameNow 74 = .ok (.invokevirtual 63, 3) := by decide +kernel
theorem dX7_wouldFameNow_77 : decode cX7_wouldFameNow 77 = .ok (.checkcast 85, 3) := by decide +kernel
theorem dX7_wouldFameNow_80 : decode cX7_wouldFameNow 80 = .ok (.getfield 84, 3) := by decide +kernel
theorem dX7_wouldFameNow_83 : decode cX7_wouldFameNow 83 = .ok (.iload_n 1, 1) := by decide +kernel
theorem dX7_wouldFameNow_84 : decode cX7_wouldFameNow 84 = .ok (.if_icmp .ne 41, 3) := by decide +kernel
theorem dX7_wouldFameNow_87 : decode cX7_wouldFameNow 87 = .ok (.aload_n 0, 1) := by decide +kernel
theorem dX7_wouldFameNow_88 : decode cX7_wouldFameNow 88 = .ok (.aload 5, 2) := by decide +kernel
theorem dX7_wouldFameNow_90 : decode cX7_wouldFameNow 90 = .ok (.iload_n 2, 1) := by decide +kernel
theorem dX7_wouldFameNow_91 : decode cX7_wouldFameNow 91 = .ok (.invokevirtual 274, 3) := by decide +kernel
theorem dX7_wouldFameNow_94 : decode cX7_wouldFameNow 94 = .ok (.ifCond .ne 31, 3) := by decide +kernel
theorem dX7_wouldFameNow_97 : decode cX7_wouldFameNow 97 = .ok (.iload_n 3, 1) := by decide +kernel
theorem dX7_wouldFameNow_98 : decode cX7_wouldFameNow 98 = .ok (.aload 5, 2) := by decide +kernel
theorem dX7_wouldFameNow_100 : decode cX7_wouldFameNow 100 = .ok (.getfield 194, 3) := by decide +kernel
theorem dX7_wouldFameNow_103 : decode cX7_wouldFameNow 103 = .ok (.getstatic 165, 3) := by decide +kernel
theorem dX7_wouldFameNow_106 : decode cX7_wouldFameNow 106 = .ok (.aload_n 0, 1) := by decide +kernel
theorem dX7_wouldFameNow_107 : decode cX7_wouldFameNow 107 = .ok (.getfield 23, 3) := by decide +kernel
theorem dX7_wouldFameNow_110 : decode cX7_wouldFameNow 110 = .ok (.iload 9, 2) := by decide +kernel
theorem dX7_wouldFameNow_112 : decode cX7_wouldFameNow 112 = .ok (.invokevirtual 63, 3) := by decide +kernel
theorem dX7_wouldFameNow_115 : decode cX7_wouldFameNow 115 = .ok (.checkcast 85, 3) := by decide +kernel
theorem dX7_wouldFameNow_118 : decode cX7_wouldFameNow 118 = .ok (.getfield 93, 3) := by decide +kernel
theorem dX7_wouldFameNow_121 : decode cX7_wouldFameNow 121 = .ok (.iaload, 1) := by decide +kernel
theorem dX7_wouldFameNow_122 : decode cX7_wouldFameNow 122 = .ok (.imul, 1) := by decide +kernel
theorem dX7_wouldFameNow_123 : decode cX7_wouldFameNow 123 = .ok (.iadd, 1) := by decide +kernel
theorem dX7_wouldFameNow_124 : decode cX7_wouldFameNow 124 = .ok (.istore_n 3, 1) := by decide +kernel
theorem dX7_wouldFameNow_125 : decode cX7_wouldFameNow 125 = .ok (.iinc 8 1, 3) := by decide +kernel
theorem dX7_wouldFameNow_128 : decode cX7_wouldFameNow 128 = .ok (.goto (-80), 3) := by decide +kernel
theorem dX7_wouldFameNow_131 : decode cX7_wouldFameNow 131 = .ok (.goto (-120), 3) := by decide +kernel
theorem dX7_wouldFameNow_134 : decode cX7_wouldFameNow 134 = .ok (.iload_n 3, 1) := by decide +kernel
theorem dX7_wouldFameNow_135 : decode cX7_wouldFameNow 135 = .ok (.ireturn, 1) := by decide +kernel
theorem dX7_wouldFame_0 : decode cX7_wouldFame 0 = .ok (.aload_n 0, 1) := by decide +kernel
theorem dX7_wouldFame_1 : decode cX7_wouldFame 1 = .ok (.aload_n 0, 1) := by decide +kernel
theorem dX7_wouldFame_2 : decode cX7_wouldFame 2 = .ok (.iload_n 1, 1) := by decide +kernel
theorem dX7_wouldFame_3 : decode cX7_wouldFame 3 = .ok (.invokevirtual 113, 3) := by decide +kernel
theorem dX7_wouldFame_6 : decode cX7_wouldFame 6 = .ok (.iconst 1, 1) := by decide +kernel
theorem dX7_wouldFame_7 : decode cX7_wouldFame 7 = .ok (.invokevirtual 41, 3) := by decide +kernel
theorem dX7_wouldFame_10 : decode cX7_wouldFame 10 = .ok (.ifCond .ne 26, 3) := by decide +kernel
theorem dX7_wouldFame_13 : decode cX7_wouldFame 13 = .ok (.aload_n 0, 1) := by decide +kernel
theorem dX7_wouldFame_14 : decode cX7_wouldFame 14 = .ok (.iload_n 2, 1) := by decide +kernel
theorem dX7_wouldFame_15 : decode cX7_wouldFame 15 = .ok (.iconst 0, 1) := by decide +kernel
theorem dX7_wouldFame_16 : decode cX7_wouldFame 16 = .ok (.bipush 30, 2) := by decide +kernel
theorem dX7_wouldFame_18 : decode cX7_wouldFame 18 = .ok (.invokestatic 37, 3) := by decide +kernel
theorem dX7_wouldFame_21 : decode cX7_wouldFame 21 = .ok (.ifCond .ne 7, 3) := by decide +kernel
theorem dX7_wouldFame_24 : decode cX7_wouldFame 24 = .ok (.iconst 1, 1) := by decide +kernel
theorem dX7_wouldFame_25 : decode cX7_wouldFame 25 = .ok (.goto 4, 3) := by decide +kernel
theorem dX7_wouldFame_28 : decode cX7_wouldFame 28 = .ok (.iconst 0, 1) := by decide +kernel
theorem dX7_wouldFame_29 : decode cX7_wouldFame 29 = .ok (.iconst 2, 1) := by decide +kernel
theorem dX7_wouldFame_30 : decode cX7_wouldFame 30 = .ok (.invokevirtual 29, 3) := by decide +kernel
theorem dX7_wouldFame_33 : decode cX7_wouldFame 33 = .ok (.ifCond .eq 7, 3) := by decide +kernel
theorem dX7_wouldFame_36 : decode cX7_wouldFame 36 = .ok (.iconst 0, 1) := by decide +kernel
theorem dX7_wouldFame_37 : decode cX7_wouldFame 37 = .ok (.goto 9, 3) := by decide +kernel
theorem dX7_wouldFame_40 : decode cX7_wouldFame 40 = .ok (.aload_n 0, 1) := by decide +kernel
theorem dX7_wouldFame_41 : decode cX7_wouldFame 41 = .ok (.iload_n 1, 1) := by decide +kernel
theorem dX7_wouldFame_42 : decode cX7_wouldFame 42 = .ok (.iload_n 2, 1) := by decide +kernel
theorem dX7_wouldFame_43 : decode cX7_wouldFame 43 = .ok (.invokevirtual 278, 3) := by decide +kernel
theorem dX7_wouldFame_46 : decode cX7_wouldFame 46 = .ok (.ireturn, 1) := by decide +kernel
theorem dX7_add_0 : decode cX7_add 0 = .ok (.lload_n 0, 1) := by decide +kernel
theorem dX7_add_1 : decode cX7_add 1 = .ok (.ldc2_w 281, 3) := by decide +kernel
theorem dX7_add_4 : decode cX7_add 4 = .ok (.lmul, 1) := by decide +kernel
theorem dX7_add_5 : decode cX7_add 5 = .ok (.lload_n 2, 1) := by decide +kernel
theorem dX7_add_6 : decode cX7_add 6 = .ok (.ladd, 1) := by decide +kernel
theorem dX7_add_7 : decode cX7_add 7 = .ok (.lreturn, 1) := by decide +kernel
theorem dX7_digest_0 : decode cX7_digest 0 = .ok (.aload_n 0, 1) := by decide +kernel
theorem dX7_digest_1 : decode cX7_digest 1 = .ok (.iconst 0, 1) := by decide +kernel
theorem dX7_digest_2 : decode cX7_digest 2 = .ok (.putfield 26, 3) := by decide +kernel
theorem dX7_digest_5 : decode cX7_digest 5 = .ok (.ldc2_w 283, 3) := by decide +kernel
theorem dX7_digest_8 : decode cX7_digest 8 = .ok (.lstore_n 1, 1) := by decide +kernel
theorem dX7_digest_9 : decode cX7_digest 9 = .ok (.iconst 0, 1) := by decide +kernel
theorem dX7_digest_10 : decode cX7_digest 10 = .ok (.istore_n 3, 1) := by decide +kernel
theorem dX7_digest_11 : decode cX7_digest 11 = .ok (.iload_n 3, 1) := by decide +kernel
theorem dX7_digest_12 : decode cX7_digest 12 = .ok (.bipush 12, 2) := by decide +kernel
theorem dX7_digest_14 : decode cX7_digest 14 = .ok (.if_icmp .ge 20, 3) := by decide +kernel
theorem dX7_digest_17 : decode cX7_digest 17 = .ok (.lload_n 1, 1) := by decide +kernel
theorem dX7_digest_18 : decode cX7_digest 18 = .ok (.aload_n 0, 1) := by decide +kernel
theorem dX7_digest_19 : decode cX7_digest 19 = .ok (.iload_n 3, 1) := by decide +kernel
theorem dX7_digest_20 : decode cX7_digest 20 = .ok (.invokevirtual 258, 3) := by decide +kernel
theorem dX7_digest_23 : decode cX7_digest 23 = .ok (.i2l, 1) := by decide +kernel
theorem dX7_digest_24 : decode cX7_digest 24 = .ok (.invokestatic 285, 3) := by decide +kernel
theorem dX7_digest_27 : decode cX7_digest 27 = .ok (.lstore_n 1, 1) := by decide +kernel
theorem dX7_digest_28 : decode cX7_digest 28 = .ok (.iinc 3 1, 3) := by decide +kernel
theorem dX7_digest_31 : decode cX7_digest 31 = .ok (.goto (-20), 3) := by decide +kernel
theorem dX7_digest_34 : decode cX7_digest 34 = .ok (.iconst 0, 1) := by decide +kernel
theorem dX7_digest_35 : decode cX7_digest 35 = .ok (.istore_n 3, 1) := by decide +kernel
theorem dX7_digest_36 : decode cX7_digest 36 = .ok (.iload_n 3, 1) := by decide +kernel
theorem dX7_digest_37 : decode cX7_digest 37 = .ok (.aload_n 0, 1) := by decide +kernel
theorem dX7_digest_38 : decode cX7_digest 38 = .ok (.getfield 16, 3) := by decide +kernel
theorem dX7_digest_41 : decode cX7_digest 41 = .ok (.invokevirtual 33, 3) := by decide +kernel
theorem dX7_digest_44 : decode cX7_digest 44 = .ok (.if_icmp .ge 90, 3) := by decide +kernel
theorem dX7_digest_47 : decode cX7_digest 47 = .ok (.iconst 0, 1) := by decide +kernel
theorem dX7_digest_48 : decode cX7_digest 48 = .ok (.istore 4, 2) := by decide +kernel
theorem dX7_digest_50 : decode cX7_digest 50 = .ok (.iload 4, 2) := by decide +kernel
theorem dX7_digest_52 : decode cX7_digest 52 = .ok (.bipush 7, 2) := by decide +kernel
theorem dX7_digest_54 : decode cX7_digest 54 = .ok (.if_icmp .ge 22, 3) := by decide +kernel
theorem dX7_digest_57 : decode cX7_digest 57 = .ok (.lload_n 1, 1) := by decide +kernel
theorem dX7_digest_58 : decode cX7_digest 58 = .ok (.aload_n 0, 1) := by decide +kernel
theorem dX7_digest_59 : decode cX7_digest 59 = .ok (.iload_n 3, 1) := by decide +kernel
theorem dX7_digest_60 : decode cX7_digest 60 = .ok (.iload 4, 2) := by decide +kernel
theorem dX7_digest_62 : decode cX7_digest 62 = .ok (.invokevirtual 221, 3) := by decide +kernel
theorem dX7_digest_65 : decode cX7_digest 65 = .ok (.i2l, 1) := by decide +kernel
theorem dX7_digest_66 : decode cX7_digest 66 = .ok (.invokestatic 285, 3) := by decide +kernel
theorem dX7_digest_69 : decode cX7_digest 69 = .ok (.lstore_n 1, 1) := by decide +kernel
theorem dX7_digest_70 : decode cX7_digest 70 = .ok (.iinc 4 1, 3) := by decide +kernel
theorem dX7_digest_73 : decode cX7_digest 73 = .ok (.goto (-23), 3) := by decide +kernel
theorem dX7_digest_76 : decode cX7_digest 76 = .ok (.aload_n 0, 1) := by decide +kernel
theorem dX7_digest_77 : decode cX7_digest 77 = .ok (.getfield 16, 3) := by decide +kernel
theorem dX7_digest_80 : decode cX7_digest 80 = .ok (.iload_n 3, 1) := by decide +kernel
theorem dX7_digest_81 : decode cX7_digest 81 = .ok (.invokevirtual 63, 3) := by decide +kernel
theorem dX7_digest_84 : decode cX7_digest 84 = .ok (.checkcast 44, 3) := by decide +kernel
theorem dX7_digest_87 : decode cX7_digest 87 = .ok (.getfield 97, 3) := by decide +kernel
theorem dX7_digest_90 : decode cX7_digest 90 = .ok (.astore 4, 2) := by decide +kernel
theorem dX7_digest_92 : decode cX7_digest 92 = .ok (.aload 4, 2) := by decide +kernel
theorem dX7_digest_94 : decode cX7_digest 94 = .ok (.arraylength, 1) := by decide +kernel
theorem dX7_digest_95 : decode cX7_digest 95 = .ok (.istore 5, 2) := by decide +kernel
theorem dX7_digest_97 : decode cX7_digest 97 = .ok (.iconst 0, 1) := by decide +kernel
theorem dX7_digest_98 : decode cX7_digest 98 = .ok (.istore 6, 2) := by decide +kernel
theorem dX7_digest_100 : decode cX7_digest 100 = .ok (.iload 6, 2) := by decide +kernel
theorem dX7_digest_102 : decode cX7_digest 102 = .ok (.iload 5, 2) := by decide +kernel
theorem dX7_digest_104 : decode cX7_digest 104 = .ok (.if_icmp .ge 24, 3) := by decide +kernel
theorem dX7_digest_107 : decode cX7_digest 107 = .ok (.aload 4, 2) := by decide +kernel
theorem dX7_digest_109 : decode cX7_digest 109 = .ok (.iload 6, 2) := by decide +kernel
theorem dX7_digest_111 : decode cX7_digest 111 = .ok (.iaload, 1) := by decide +kernel
theorem dX7_digest_112 : decode cX7_digest 112 = .ok (.istore 7, 2) := by decide +kernel
theorem dX7_digest_114 : decode cX7_digest 114 = .ok (.lload_n 1, 1) := by decide +kernel
theorem dX7_digest_115 : decode cX7_digest 115 = .ok (.iload 7, 2) := by decide +kernel
theorem dX7_digest_117 : decode cX7_digest 117 = .ok (.i2l, 1) := by decide +kernel
theorem dX7_digest_118 : decode cX7_digest 118 = .ok (.invokestatic 285, 3) := by decide +kernel
theorem dX7_digest_121 : decode cX7_digest 121 = .ok (.lstore_n 1, 1) := by decide +kernel
theorem dX7_digest_122 : decode cX7_digest 122 = .ok (.iinc 6 1, 3) := by decide +kernel
theorem dX7_digest_125 : decode cX7_digest 125 = .ok (.goto (-25), 3) := by decide +kernel
theorem dX7_digest_128 : decode cX7_digest 128 = .ok (.iinc 3 1, 3) := by decide +kernel
theorem dX7_digest_131 : decode cX7_digest 131 = .ok (.goto (-95), 3) := by decide +kernel
theorem dX7_digest_134 : decode cX7_digest 134 = .ok (.iconst 0, 1) := by decide +kernel
theorem dX7_digest_135 : decode cX7_digest 135 = .ok (.istore_n 3, 1) := by decide +kernel
theorem dX7_digest_136 : decode cX7_digest 136 = .ok (.iload_n 3, 1) := by decide +kernel
theorem dX7_digest_137 : decode cX7_digest 137 = .ok (.aload_n 0, 1) := by decide +kernel
theorem dX7_digest_138 : decode cX7_digest 138 = .ok (.getfield 20, 3) := by decide +kernel
theorem dX7_digest_141 : decode cX7_digest 141 = .ok (.invokevirtual 33, 3) := by decide +kernel
theorem dX7_digest_144 : decode cX7_digest 144 = .ok (.if_icmp .ge 95, 3) := by decide +kernel
theorem dX7_digest_147 : decode cX7_digest 147 = .ok (.iconst 0, 1) := by decide +kernel
theorem dX7_digest_148 : decode cX7_digest 148 = .ok (.istore 4, 2) := by decide +kernel
theorem dX7_digest_150 : decode cX7_digest 150 = .ok (.iload 4, 2) := by decide +kernel
theorem dX7_digest_152 : decode cX7_digest 152 = .ok (.bipush 11, 2) := by decide +kernel
theorem dX7_digest_154 : decode cX7_digest 154 = .ok (.if_icmp .ge 22, 3) := by decide +kernel
theorem dX7_digest_157 : decode cX7_digest 157 = .ok (.lload_n 1, 1) := by decide +kernel
theorem dX7_digest_158 : decode cX7_digest 158 = .ok (.aload_n 0, 1) := by decide +kernel
theorem dX7_digest_159 : decode cX7_digest 159 = .ok (.iload_n 3, 1) := by decide +kernel
theorem dX7_digest_160 : decode cX7_digest 160 = .ok (.iload 4, 2) := by decide +kernel
theorem dX7_digest_162 : decode cX7_digest 162 = .ok (.invokevirtual 230, 3) := by decide +kernel
theorem dX7_digest_165 : decode cX7_digest 165 = .ok (.i2l, 1) := by decide +kernel
theorem dX7_digest_166 : decode cX7_digest 166 = .ok (.invokestatic 285, 3) := by decide +kernel
theorem dX7_digest_169 : decode cX7_digest 169 = .ok (.lstore_n 1, 1) := by decide +kernel
theorem dX7_digest_170 : decode cX7_digest 170 = .ok (.iinc 4 1, 3) := by decide +kernel
theorem dX7_digest_173 : decode cX7_digest 173 = .ok (.goto (-23), 3) := by decide +kernel
theorem dX7_digest_176 : decode cX7_digest 176 = .ok (.iconst 0, 1) := by decide +kernel
theorem dX7_digest_177 : decode cX7_digest 177 = .ok (.istore 4, 2) := by decide +kernel
theorem dX7_digest_179 : decode cX7_digest 179 = .ok (.iload 4, 2) := by decide +kernel
theorem dX7_digest_181 : decode cX7_digest 181 = .ok (.aload_n 0, 1) := by decide +kernel
theorem dX7_digest_182 : decode cX7_digest 182 = .ok (.getfield 20, 3) := by decide +kernel
theorem dX7_digest_185 : decode cX7_digest 185 = .ok (.invokevirtual 33, 3) := by decide +kernel
theorem dX7_digest_188 : decode cX7_digest 188 = .ok (.if_icmp .ge 32, 3) := by decide +kernel
theorem dX7_digest_191 : decode cX7_digest 191 = .ok (.lload_n 1, 1) := by decide +kernel
theorem dX7_digest_192 : decode cX7_digest 192 = .ok (.aload_n 0, 1) := by decide +kernel
theorem dX7_digest_193 : decode cX7_digest 193 = .ok (.getfield 20, 3) := by decide +kernel
theorem dX7_digest_196 : decode cX7_digest 196 = .ok (.iload_n 3, 1) := by decide +kernel
theorem dX7_digest_197 : decode cX7_digest 197 = .ok (.invokevirtual 63, 3) := by decide +kernel
theorem dX7_digest_200 : decode cX7_digest 200 = .ok (.checkcast 53, 3) := by decide +kernel
theorem dX7_digest_203 : decode cX7_digest 203 = .ok (.getfield 130, 3) := by decide +kernel
theorem dX7_digest_206 : decode cX7_digest 206 = .ok (.iload 4, 2) := by decide +kernel
theorem dX7_digest_208 : decode cX7_digest 208 = .ok (.iaload, 1) := by decide +kernel
theorem dX7_digest_209 : decode cX7_digest 209 = .ok (.i2l, 1) := by decide +kernel
theorem dX7_digest_210 : decode cX7_digest 210 = .ok (.invokestatic 285, 3) := by decide +kernel
theorem dX7_digest_213 : decode cX7_digest 213 = .ok (.lstore_n 1, 1) := by decide +kernel
theorem dX7_digest_214 : decode cX7_digest 214 = .ok (.iinc 4 1, 3) := by decide +kernel
theorem dX7_digest_217 : decode cX7_digest 217 = .ok (.goto (-38), 3) := by decide +kernel
theorem dX7_digest_220 : decode cX7_digest 220 = .ok (.lload_n 1, 1) := by decide +kernel
theorem dX7_digest_221 : decode cX7_digest 221 = .ok (.aload_n 0, 1) := by decide +kernel
theorem dX7_digest_222 : decode cX7_digest 222 = .ok (.iload_n 3, 1) := by decide +kernel
theorem dX7_digest_223 : decode cX7_digest 223 = .ok (.bipush 7, 2) := by decide +kernel
theorem dX7_digest_225 : decode cX7_digest 225 = .ok (.invokevirtual 278, 3) := by decide +kernel
theorem dX7_digest_228 : decode cX7_digest 228 = .ok (.i2l, 1) := by decide +kernel
theorem dX7_digest_229 : decode cX7_digest 229 = .ok (.invokestatic 285, 3) := by decide +kernel
theorem dX7_digest_232 : decode cX7_digest 232 = .ok (.lstore_n 1, 1) := by decide +kernel
theorem dX7_digest_233 : decode cX7_digest 233 = .ok (.iinc 3 1, 3) := by decide +kernel
theorem dX7_digest_236 : decode cX7_digest 236 = .ok (.goto (-100), 3) := by decide +kernel
theorem dX7_digest_239 : decode cX7_digest 239 = .ok (.iconst 0, 1) := by decide +kernel
theorem dX7_digest_240 : decode cX7_digest 240 = .ok (.istore_n 3, 1) := by decide +kernel
theorem dX7_digest_241 : decode cX7_digest 241 = .ok (.iload_n 3, 1) := by decide +kernel
theorem dX7_digest_242 : decode cX7_digest 242 = .ok (.aload_n 0, 1) := by decide +kernel
theorem dX7_digest_243 : decode cX7_digest 243 = .ok (.getfield 23, 3) := by decide +kernel
theorem dX7_digest_246 : decode cX7_digest 246 = .ok (.invokevirtual 33, 3) := by decide +kernel
theorem dX7_digest_249 : decode cX7_digest 249 = .ok (.if_icmp .ge 38, 3) := by decide +kernel
theorem dX7_digest_252 : decode cX7_digest 252 = .ok (.iconst 0, 1) := by decide +kernel
theorem dX7_digest_253 : decode cX7_digest 253 = .ok (.istore 4, 2) := by decide +kernel
theorem dX7_digest_255 : decode cX7_digest 255 = .ok (.iload 4, 2) := by decide +kernel
theorem dX7_digest_257 : decode cX7_digest 257 = .ok (.bipush 14, 2) := by decide +kernel
theorem dX7_digest_259 : decode cX7_digest 259 = .ok (.if_icmp .ge 22, 3) := by decide +kernel
theorem dX7_digest_262 : decode cX7_digest 262 = .ok (.lload_n 1, 1) := by decide +kernel
theorem dX7_digest_263 : decode cX7_digest 263 = .ok (.aload_n 0, 1) := by decide +kernel
theorem dX7_digest_264 : decode cX7_digest 264 = .ok (.iload_n 3, 1) := by decide +kernel
theorem dX7_digest_265 : decode cX7_digest 265 = .ok (.iload 4, 2) := by decide +kernel
theorem dX7_digest_267 : decode cX7_digest 267 = .ok (.invokevirtual 248, 3) := by decide +kernel
theorem dX7_digest_270 : decode cX7_digest 270 = .ok (.i2l, 1) := by decide +kernel
theorem dX7_digest_271 : decode cX7_digest 271 = .ok (.invokestatic 285, 3) := by decide +kernel
theorem dX7_digest_274 : decode cX7_digest 274 = .ok (.lstore_n 1, 1) := by decide +kernel
theorem dX7_digest_275 : decode cX7_digest 275 = .ok (.iinc 4 1, 3) := by decide +kernel
theorem dX7_digest_278 : decode cX7_digest 278 = .ok (.goto (-23), 3) := by decide +kernel
theorem dX7_digest_281 : decode cX7_digest 281 = .ok (.iinc 3 1, 3) := by decide +kernel
theorem dX7_digest_284 : decode cX7_digest 284 = .ok (.goto (-43), 3) := by decide +kernel
theorem dX7_digest_287 : decode cX7_digest 287 = .ok (.lload_n 1, 1) := by decide +kernel
theorem dX7_digest_288 : decode cX7_digest 288 = .ok (.aload_n 0, 1) := by decide +kernel
theorem dX7_digest_289 : decode cX7_digest 289 = .ok (.invokevirtual 271, 3) := by decide +kernel
theorem dX7_digest_292 : decode cX7_digest 292 = .ok (.i2l, 1) := by decide +kernel
theorem dX7_digest_293 : decode cX7_digest 293 = .ok (.invokestatic 285, 3) := by decide +kernel
theorem dX7_digest_296 : decode cX7_digest 296 = .ok (.lstore_n 1, 1) := by decide +kernel
theorem dX7_digest_297 : decode cX7_digest 297 = .ok (.aload_n 0, 1) := by decide +kernel
theorem dX7_digest_298 : decode cX7_digest 298 = .ok (.getfield 20, 3) := by decide +kernel
theorem dX7_digest_301 : decode cX7_digest 301 = .ok (.invokevirtual 261, 3) := by decide +kernel
theorem dX7_digest_304 : decode cX7_digest 304 = .ok (.ifCond .ne 13, 3) := by decide +kernel
theorem dX7_digest_307 : decode cX7_digest 307 = .ok (.aload_n 0, 1) := by decide +kernel
theorem dX7_digest_308 : decode cX7_digest 308 = .ok (.getfield 16, 3) := by decide +kernel
theorem dX7_digest_311 : decode cX7_digest 311 = .ok (.invokevirtual 261, 3) := by decide +kernel
theorem dX7_digest_314 : decode cX7_digest 314 = .ok (.ifCond .eq 7, 3) := by decide +kernel
theorem dX7_digest_317 : decode cX7_digest 317 = .ok (.lload_n 1, 1) := by decide +kernel
theorem dX7_digest_318 : decode cX7_digest 318 = .ok (.goto 16, 3) := by decide +kernel
theorem dX7_digest_321 : decode cX7_digest 321 = .ok (.lload_n 1, 1) := by decide +kernel
theorem dX7_digest_322 : decode cX7_digest 322 = .ok (.aload_n 0, 1) := by decide +kernel
theorem dX7_digest_323 : decode cX7_digest 323 = .ok (.iconst 0, 1) := by decide +kernel
theorem dX7_digest_324 : decode cX7_digest 324 = .ok (.iconst 0, 1) := by decide +kernel
theorem dX7_digest_325 : decode cX7_digest 325 = .ok (.iconst 2, 1) := by decide +kernel
theorem dX7_digest_326 : decode cX7_digest 326 = .ok (.iconst 1, 1) := by decide +kernel
theorem dX7_digest_327 : decode cX7_digest 327 = .ok (.invokevirtual 267, 3) := by decide +kernel
theorem dX7_digest_330 : decode cX7_digest 330 = .ok (.i2l, 1) := by decide +kernel
theorem dX7_digest_331 : decode cX7_digest 331 = .ok (.invokestatic 285, 3) := by decide +kernel
theorem dX7_digest_334 : decode cX7_digest 334 = .ok (.lreturn, 1) := by decide +kernel
theorem dJ9_abs_0f7a4_0 : decode cJ9_abs_0f7a4 0 = .ok (.iload_n 0, 1) := by decide +kernel
theorem dJ9_abs_0f7a4_1 : decode cJ9_abs_0f7a4 1 = .ok (.ifCond .ge 8, 3) := by decide +kernel
theorem dJ9_abs_0f7a4_4 : decode cJ9_abs_0f7a4 4 = .ok (.iload_n 0, 1) := by decide +kernel
theorem dJ9_abs_0f7a4_5 : decode cJ9_abs_0f7a4 5 = .ok (.ineg, 1) := by decide +kernel
theorem dJ9_abs_0f7a4_6 : decode cJ9_abs_0f7a4 6 = .ok (.goto 4, 3) := by decide +kernel
theorem dJ9_abs_0f7a4_9 : decode cJ9_abs_0f7a4 9 = .ok (.iload_n 0, 1) := by decide +kernel
theorem dJ9_abs_0f7a4_10 : decode cJ9_abs_0f7a4 10 = .ok (.ireturn, 1) := by decide +kernel
theorem dJ9_max_7cf53_0 : decode cJ9_max_7cf53 0 = .ok (.iload_n 0, 1) := by decide +kernel
theorem dJ9_max_7cf53_1 : decode cJ9_max_7cf53 1 = .ok (.iload_n 1, 1) := by decide +kernel
theorem dJ9_max_7cf53_2 : decode cJ9_max_7cf53 2 = .ok (.if_icmp .lt 7, 3) := by decide +kernel
theorem dJ9_max_7cf53_5 : decode cJ9_max_7cf53 5 = .ok (.iload_n 0, 1) := by decide +kernel
theorem dJ9_max_7cf53_6 : decode cJ9_max_7cf53 6 = .ok (.goto 4, 3) := by decide +kernel
theorem dJ9_max_7cf53_9 : decode cJ9_max_7cf53 9 = .ok (.iload_n 1, 1) := by decide +kernel
theorem dJ9_max_7cf53_10 : decode cJ9_max_7cf53 10 = .ok (.ireturn, 1) := by decide +kernel
theorem dJ9_min_7cf53_0 : decode cJ9_min_7cf53 0 = .ok (.iload_n 0, 1) := by decide +kernel
theorem dJ9_min_7cf53_1 : decode cJ9_min_7cf53 1 = .ok (.iload_n 1, 1) := by decide +kernel
theorem dJ9_min_7cf53_2 : decode cJ9_min_7cf53 2 = .ok (.if_icmp .gt 7, 3) := by decide +kernel
theorem dJ9_min_7cf53_5 : decode cJ9_min_7cf53 5 = .ok (.iload_n 0, 1) := by decide +kernel
theorem dJ9_min_7cf53_6 : decode cJ9_min_7cf53 6 = .ok (.goto 4, 3) := by decide +kernel
theorem dJ9_min_7cf53_9 : decode cJ9_min_7cf53 9 = .ok (.iload_n 1, 1) := by decide +kernel
theorem dJ9_min_7cf53_10 : decode cJ9_min_7cf53 10 = .ok (.ireturn, 1) := by decide +kernel
theorem dJxa1e45_init_da8c8_0 : decode cJxa1e45_init_da8c8 0 = .ok (.aload_n 0, 1) := by decide +kernel
theorem dJxa1e45_init_da8c8_1 : decode cJxa1e45_init_da8c8 1 = .ok (.invokespecial 1, 3) := by decide +kernel
theorem dJxa1e45_init_da8c8_4 : decode cJxa1e45_init_da8c8 4 = .ok (.return_, 1) := by decide +kernel
theorem dJxc12de_init_da8c8_0 : decode cJxc12de_init_da8c8 0 = .ok (.aload_n 0, 1) := by decide +kernel
theorem dJxc12de_init_da8c8_1 : decode cJxc12de_init_da8c8 1 = .ok (.invokespecial 1, 3) := by decide +kernel
theorem dJxc12de_init_da8c8_4 : decode cJxc12de_init_da8c8 4 = .ok (.aload_n 0, 1) := by decide +kernel
theorem dJxc12de_init_da8c8_5 : decode cJxc12de_init_da8c8 5 = .ok (.iconst 0, 1) := by decide +kernel
theorem dJxc12de_init_da8c8_6 : decode cJxc12de_init_da8c8 6 = .ok (.putfield 7, 3) := by decide +kernel
theorem dJxc12de_init_da8c8_9 : decode cJxc12de_init_da8c8 9 = .ok (.return_, 1) := by decide +kernel
theorem dJx35411_init_45d68_0 : decode cJx35411_init_45d68 0 = .ok (.aload_n 0, 1) := by decide +kernel
theorem dJx35411_init_45d68_1 : decode cJx35411_init_45d68 1 = .ok (.aload_n 1, 1) := by decide +kernel
theorem dJx35411_init_45d68_2 : decode cJx35411_init_45d68 2 = .ok (.putfield 1, 3) := by decide +kernel
theorem dJx35411_init_45d68_5 : decode cJx35411_init_45d68 5 = .ok (.aload_n 0, 1) := by decide +kernel
theorem dJx35411_init_45d68_6 : decode cJx35411_init_45d68 6 = .ok (.invokespecial 7, 3) := by decide +kernel
theorem dJx35411_init_45d68_9 : decode cJx35411_init_45d68 9 = .ok (.aload_n 0, 1) := by decide +kernel
theorem dJx35411_init_45d68_10 : decode cJx35411_init_45d68 10 = .ok (.iconst (-1), 1) := by decide +kernel
theorem dJx35411_init_45d68_11 : decode cJx35411_init_45d68 11 = .ok (.putfield 13, 3) := by decide +kernel
theorem dJx35411_init_45d68_14 : decode cJx35411_init_45d68 14 = .ok (.aload_n 0, 1) := by decide +kernel
theorem dJx35411_init_45d68_15 : decode cJx35411_init_45d68 15 = .ok (.aload_n 0, 1) := by decide +kernel
theorem dJx35411_init_45d68_16 : decode cJx35411_init_45d68 16 = .ok (.getfield 1, 3) := by decide +kernel
theorem dJx35411_init_45d68_19 : decode cJx35411_init_45d68 19 = .ok (.getfield 17, 3) := by decide +kernel
theorem dJx35411_init_45d68_22 : decode cJx35411_init_45d68 22 = .ok (.putfield 22, 3) := by decide +kernel
theorem dJx35411_init_45d68_25 : decode cJx35411_init_45d68 25 = .ok (.return_, 1) := by decide +kernel
theorem dJx35411_hasNext_aae02_0 : decode cJx35411_hasNext_aae02 0 = .ok (.aload_n 0, 1) := by decide +kernel
theorem dJx35411_hasNext_aae02_1 : decode cJx35411_hasNext_aae02 1 = .ok (.getfield 25, 3) := by decide +kernel
theorem dJx35411_hasNext_aae02_4 : decode cJx35411_hasNext_aae02 4 = .ok (.aload_n 0, 1) := by decide +kernel
theorem dJx35411_hasNext_aae02_5 : decode cJx35411_hasNext_aae02 5 = .ok (.getfield 1, 3) := by decide +kernel
theorem dJx35411_hasNext_aae02_8 : decode cJx35411_hasNext_aae02 8 = .ok (.getfield 28, 3) := by decide +kernel
theorem dJx35411_hasNext_aae02_11 : decode cJx35411_hasNext_aae02 11 = .ok (.if_icmp .eq 7, 3) := by decide +kernel
theorem dJx35411_hasNext_aae02_14 : decode cJx35411_hasNext_aae02 14 = .ok (.iconst 1, 1) := by decide +kernel
theorem dJx35411_hasNext_aae02_15 : decode cJx35411_hasNext_aae02 15 = .ok (.goto 4, 3) := by decide +kernel
theorem dJx35411_hasNext_aae02_18 : decode cJx35411_hasNext_aae02 18 = .ok (.iconst 0, 1) := by decide +kernel
theorem dJx35411_hasNext_aae02_19 : decode cJx35411_hasNext_aae02 19 = .ok (.ireturn, 1) := by decide +kernel
theorem dJx35411_next_0502b_0 : decode cJx35411_next_0502b 0 = .ok (.aload_n 0, 1) := by decide +kernel
theorem dJx35411_next_0502b_1 : decode cJx35411_next_0502b 1 = .ok (.invokevirtual 31, 3) := by decide +kernel
theorem dJx35411_next_0502b_4 : decode cJx35411_next_0502b 4 = .ok (.aload_n 0, 1) := by decide +kernel
theorem dJx35411_next_0502b_5 : decode cJx35411_next_0502b 5 = .ok (.getfield 25, 3) := by decide +kernel
theorem dJx35411_next_0502b_8 : decode cJx35411_next_0502b 8 = .ok (.istore_n 1, 1) := by decide +kernel
theorem dJx35411_next_0502b_9 : decode cJx35411_next_0502b 9 = .ok (.iload_n 1, 1) := by decide +kernel
theorem dJx35411_next_0502b_10 : decode cJx35411_next_0502b 10 = .ok (.aload_n 0, 1) := by decide +kernel
theorem dJx35411_next_0502b_11 : decode cJx35411_next_0502b 11 = .ok (.getfield 1, 3) := by decide +kernel
theorem dJx35411_next_0502b_14 : decode cJx35411_next_0502b 14 = .ok (.getfield 28, 3) := by decide +kernel
theorem dJx35411_next_0502b_17 : decode cJx35411_next_0502b 17 = .ok (.if_icmp .lt 11, 3) := by decide +kernel
theorem dJx35411_next_0502b_20 : decode cJx35411_next_0502b 20 = .ok (.new 34, 3) := by decide +kernel
theorem dJx35411_next_0502b_23 : decode cJx35411_next_0502b 23 = .ok (.dup, 1) := by decide +kernel
theorem dJx35411_next_0502b_24 : decode cJx35411_next_0502b 24 = .ok (.invokespecial 36, 3) := by decide +kernel
theorem dJx35411_next_0502b_27 : decode cJx35411_next_0502b 27 = .ok (.athrow, 1) := by decide +kernel
theorem dJx35411_next_0502b_28 : decode cJx35411_next_0502b 28 = .ok (.aload_n 0, 1) := by decide +kernel
theorem dJx35411_next_0502b_29 : decode cJx35411_next_0502b 29 = .ok (.getfield 1, 3) := by decide +kernel
theorem dJx35411_next_0502b_32 : decode cJx35411_next_0502b 32 = .ok (.getfield 37, 3) := by decide +kernel
theorem dJx35411_next_0502b_35 : decode cJx35411_next_0502b 35 = .ok (.astore_n 2, 1) := by decide +kernel
theorem dJx35411_next_0502b_36 : decode cJx35411_next_0502b 36 = .ok (.iload_n 1, 1) := by decide +kernel
theorem dJx35411_next_0502b_37 : decode cJx35411_next_0502b 37 = .ok (.aload_n 2, 1) := by decide +kernel
theorem dJx35411_next_0502b_38 : decode cJx35411_next_0502b 38 = .ok (.arraylength, 1) := by decide +kernel
theorem dJx35411_next_0502b_39 : decode cJx35411_next_0502b 39 = .ok (.if_icmp .lt 11, 3) := by decide +kernel
theorem dJx35411_next_0502b_42 : decode cJx35411_next_0502b 42 = .ok (.new 41, 3) := by decide +kernel
theorem dJx35411_next_0502b_45 : decode cJx35411_next_0502b 45 = .ok (.dup, 1) := by decide +kernel
theorem dJx35411_next_0502b_46 : decode cJx35411_next_0502b 46 = .ok (.invokespecial 43, 3) := by decide +kernel
theorem dJx35411_next_0502b_49 : decode cJx35411_next_0502b 49 = .ok (.athrow, 1) := by decide +kernel
theorem dJx35411_next_0502b_50 : decode cJx35411_next_0502b 50 = .ok (.aload_n 0, 1) := by decide +kernel
theorem dJx35411_next_0502b_51 : decode cJx35411_next_0502b 51 = .ok (.iload_n 1, 1) := by decide +kernel
theorem dJx35411_next_0502b_52 : decode cJx35411_next_0502b 52 = .ok (.iconst 1, 1) := by decide +kernel
theorem dJx35411_next_0502b_53 : decode cJx35411_next_0502b 53 = .ok (.iadd, 1) := by decide +kernel
theorem dJx35411_next_0502b_54 : decode cJx35411_next_0502b 54 = .ok (.putfield 25, 3) := by decide +kernel
theorem dJx35411_next_0502b_57 : decode cJx35411_next_0502b 57 = .ok (.aload_n 2, 1) := by decide +kernel
theorem dJx35411_next_0502b_58 : decode cJx35411_next_0502b 58 = .ok (.aload_n 0, 1) := by decide +kernel
theorem dJx35411_next_0502b_59 : decode cJx35411_next_0502b 59 = .ok (.iload_n 1, 1) := by decide +kernel
theorem dJx35411_next_0502b_60 : decode cJx35411_next_0502b 60 = .ok (.dup_x1, 1) := by decide +kernel
theorem dJx35411_next_0502b_61 : decode cJx35411_next_0502b 61 = .ok (.putfield 13, 3) := by decide +kernel
theorem dJx35411_next_0502b_64 : decode cJx35411_next_0502b 64 = .ok (.aaload, 1) := by decide +kernel
theorem dJx35411_next_0502b_65 : decode cJx35411_next_0502b 65 = .ok (.areturn, 1) := by decide +kernel
theorem dJx35411_checkForComodification_da8c8_0 : decode cJx35411_checkForComodification_da8c8 0 = .ok (.aload_n 0, 1) := by decide +kernel
theorem dJx35411_checkForComodification_da8c8_1 : decode cJx35411_checkForComodification_da8c8 1 = .ok (.getfield 1, 3) := by decide +kernel
theorem dJx35411_checkForComodification_da8c8_4 : decode cJx35411_checkForComodification_da8c8 4 = .ok (.getfield 17, 3) := by decide +kernel
theorem dJx35411_checkForComodification_da8c8_7 : decode cJx35411_checkForComodification_da8c8 7 = .ok (.aload_n 0, 1) := by decide +kernel
theorem dJx35411_checkForComodification_da8c8_8 : decode cJx35411_checkForComodification_da8c8 8 = .ok (.getfield 22, 3) := by decide +kernel
theorem dJx35411_checkForComodification_da8c8_11 : decode cJx35411_checkForComodification_da8c8 11 = .ok (.if_icmp .eq 11, 3) := by decide +kernel
theorem dJx35411_checkForComodification_da8c8_14 : decode cJx35411_checkForComodification_da8c8 14 = .ok (.new 41, 3) := by decide +kernel
theorem dJx35411_checkForComodification_da8c8_17 : decode cJx35411_checkForComodification_da8c8 17 = .ok (.dup, 1) := by decide +kernel
theorem dJx35411_checkForComodification_da8c8_18 : decode cJx35411_checkForComodification_da8c8 18 = .ok (.invokespecial 43, 3) := by decide +kernel
theorem dJx35411_checkForComodification_da8c8_21 : decode cJx35411_checkForComodification_da8c8 21 = .ok (.athrow, 1) := by decide +kernel
theorem dJx35411_checkForComodification_da8c8_22 : decode cJx35411_checkForComodification_da8c8 22 = .ok (.return_, 1) := by decide +kernel
theorem dJx4a65c_init_da8c8_0 : decode cJx4a65c_init_da8c8 0 = .ok (.aload_n 0, 1) := by decide +kernel
theorem dJx4a65c_init_da8c8_1 : decode cJx4a65c_init_da8c8 1 = .ok (.invokespecial 1, 3) := by decide +kernel
theorem dJx4a65c_init_da8c8_4 : decode cJx4a65c_init_da8c8 4 = .ok (.aload_n 0, 1) := by decide +kernel
theorem dJx4a65c_init_da8c8_5 : decode cJx4a65c_init_da8c8 5 = .ok (.getstatic 39, 3) := by decide +kernel
theorem dJx4a65c_init_da8c8_8 : decode cJx4a65c_init_da8c8 8 = .ok (.putfield 9, 3) := by decide +kernel
theorem dJx4a65c_init_da8c8_11 : decode cJx4a65c_init_da8c8 11 = .ok (.return_, 1) := by decide +kernel
theorem dJx4a65c_grow_92f84_0 : decode cJx4a65c_grow_92f84 0 = .ok (.aload_n 0, 1) := by decide +kernel
theorem dJx4a65c_grow_92f84_1 : decode cJx4a65c_grow_92f84 1 = .ok (.getfield 9, 3) := by decide +kernel
theorem dJx4a65c_grow_92f84_4 : decode cJx4a65c_grow_92f84 4 = .ok (.arraylength, 1) := by decide +kernel
theorem dJx4a65c_grow_92f84_5 : decode cJx4a65c_grow_92f84 5 = .ok (.istore_n 2, 1) := by decide +kernel
theorem dJx4a65c_grow_92f84_6 : decode cJx4a65c_grow_92f84 6 = .ok (.iload_n 2, 1) := by decide +kernel
theorem dJx4a65c_grow_92f84_7 : decode cJx4a65c_grow_92f84 7 = .ok (.ifCond .gt 13, 3) := by decide +kernel
theorem dJx4a65c_grow_92f84_10 : decode cJx4a65c_grow_92f84 10 = .ok (.aload_n 0, 1) := by decide +kernel
theorem dJx4a65c_grow_92f84_11 : decode cJx4a65c_grow_92f84 11 = .ok (.getfield 9, 3) := by decide +kernel
theorem dJx4a65c_grow_92f84_14 : decode cJx4a65c_grow_92f84 14 = .ok (.getstatic 39, 3) := by decide +kernel
theorem dJx4a65c_grow_92f84_17 : decode cJx4a65c_grow_92f84 17 = .ok (.if_acmp .eq 28, 3) := by decide +kernel
theorem dJx4a65c_grow_92f84_20 : decode cJx4a65c_grow_92f84 20 = .ok (.iload_n 2, 1) := by decide +kernel
theorem dJx4a65c_grow_92f84_21 : decode cJx4a65c_grow_92f84 21 = .ok (.iload_n 1, 1) := by decide +kernel
theorem dJx4a65c_grow_92f84_22 : decode cJx4a65c_grow_92f84 22 = .ok (.iload_n 2, 1) := by decide +kernel
theorem dJx4a65c_grow_92f84_23 : decode cJx4a65c_grow_92f84 23 = .ok (.isub, 1) := by decide +kernel
theorem dJx4a65c_grow_92f84_24 : decode cJx4a65c_grow_92f84 24 = .ok (.iload_n 2, 1) := by decide +kernel
theorem dJx4a65c_grow_92f84_25 : decode cJx4a65c_grow_92f84 25 = .ok (.iconst 1, 1) := by decide +kernel
theorem dJx4a65c_grow_92f84_26 : decode cJx4a65c_grow_92f84 26 = .ok (.ishr, 1) := by decide +kernel
theorem dJx4a65c_grow_92f84_27 : decode cJx4a65c_grow_92f84 27 = .ok (.invokestatic 73, 3) := by decide +kernel
theorem dJx4a65c_grow_92f84_30 : decode cJx4a65c_grow_92f84 30 = .ok (.istore_n 3, 1) := by decide +kernel
theorem dJx4a65c_grow_92f84_31 : decode cJx4a65c_grow_92f84 31 = .ok (.aload_n 0, 1) := by decide +kernel
theorem dJx4a65c_grow_92f84_32 : decode cJx4a65c_grow_92f84 32 = .ok (.aload_n 0, 1) := by decide +kernel
theorem dJx4a65c_grow_92f84_33 : decode cJx4a65c_grow_92f84 33 = .ok (.getfield 9, 3) := by decide +kernel
theorem dJx4a65c_grow_92f84_36 : decode cJx4a65c_grow_92f84 36 = .ok (.iload_n 3, 1) := by decide +kernel
theorem dJx4a65c_grow_92f84_37 : decode cJx4a65c_grow_92f84 37 = .ok (.invokestatic 66, 3) := by decide +kernel
theorem dJx4a65c_grow_92f84_40 : decode cJx4a65c_grow_92f84 40 = .ok (.dup_x1, 1) := by decide +kernel
theorem dJx4a65c_grow_92f84_41 : decode cJx4a65c_grow_92f84 41 = .ok (.putfield 9, 3) := by decide +kernel
theorem dJx4a65c_grow_92f84_44 : decode cJx4a65c_grow_92f84 44 = .ok (.areturn, 1) := by decide +kernel
theorem dJx4a65c_grow_92f84_45 : decode cJx4a65c_grow_92f84 45 = .ok (.aload_n 0, 1) := by decide +kernel
theorem dJx4a65c_grow_92f84_46 : decode cJx4a65c_grow_92f84 46 = .ok (.bipush 10, 2) := by decide +kernel
theorem dJx4a65c_grow_92f84_48 : decode cJx4a65c_grow_92f84 48 = .ok (.iload_n 1, 1) := by decide +kernel
theorem dJx4a65c_grow_92f84_49 : decode cJx4a65c_grow_92f84 49 = .ok (.invokestatic 79, 3) := by decide +kernel
theorem dJx4a65c_grow_92f84_52 : decode cJx4a65c_grow_92f84 52 = .ok (.anewarray 7, 3) := by decide +kernel
theorem dJx4a65c_grow_92f84_55 : decode cJx4a65c_grow_92f84 55 = .ok (.dup_x1, 1) := by decide +kernel
theorem dJx4a65c_grow_92f84_56 : decode cJx4a65c_grow_92f84 56 = .ok (.putfield 9, 3) := by decide +kernel
theorem dJx4a65c_grow_92f84_59 : decode cJx4a65c_grow_92f84 59 = .ok (.areturn, 1) := by decide +kernel
theorem dJx4a65c_grow_d5877_0 : decode cJx4a65c_grow_d5877 0 = .ok (.aload_n 0, 1) := by decide +kernel
theorem dJx4a65c_grow_d5877_1 : decode cJx4a65c_grow_d5877 1 = .ok (.aload_n 0, 1) := by decide +kernel
theorem dJx4a65c_grow_d5877_2 : decode cJx4a65c_grow_d5877 2 = .ok (.getfield 48, 3) := by decide +kernel
theorem dJx4a65c_grow_d5877_5 : decode cJx4a65c_grow_d5877 5 = .ok (.iconst 1, 1) := by decide +kernel
theorem dJx4a65c_grow_d5877_6 : decode cJx4a65c_grow_d5877 6 = .ok (.iadd, 1) := by decide +kernel
theorem dJx4a65c_grow_d5877_7 : decode cJx4a65c_grow_d5877 7 = .ok (.invokevirtual 69, 3) := by decide +kernel
theorem dJx4a65c_grow_d5877_10 : decode cJx4a65c_grow_d5877 10 = .ok (.areturn, 1) := by decide +kernel
theorem dJx4a65c_size_8abf5_0 : decode cJx4a65c_size_8abf5 0 = .ok (.aload_n 0, 1) := by decide +kernel
theorem dJx4a65c_size_8abf5_1 : decode cJx4a65c_size_8abf5 1 = .ok (.getfield 48, 3) := by decide +kernel
theorem dJx4a65c_size_8abf5_4 : decode cJx4a65c_size_8abf5 4 = .ok (.ireturn, 1) := by decide +kernel
theorem dJx4a65c_isEmpty_aae02_0 : decode cJx4a65c_isEmpty_aae02 0 = .ok (.aload_n 0, 1) := by decide +kernel
theorem dJx4a65c_isEmpty_aae02_1 : decode cJx4a65c_isEmpty_aae02 1 = .ok (.getfield 48, 3) := by decide +kernel
theorem dJx4a65c_isEmpty_aae02_4 : decode cJx4a65c_isEmpty_aae02 4 = .ok (.ifCond .ne 7, 3) := by decide +kernel
theorem dJx4a65c_isEmpty_aae02_7 : decode cJx4a65c_isEmpty_aae02 7 = .ok (.iconst 1, 1) := by decide +kernel
theorem dJx4a65c_isEmpty_aae02_8 : decode cJx4a65c_isEmpty_aae02 8 = .ok (.goto 4, 3) := by decide +kernel
theorem dJx4a65c_isEmpty_aae02_11 : decode cJx4a65c_isEmpty_aae02 11 = .ok (.iconst 0, 1) := by decide +kernel
theorem dJx4a65c_isEmpty_aae02_12 : decode cJx4a65c_isEmpty_aae02 12 = .ok (.ireturn, 1) := by decide +kernel
theorem dJx4a65c_elementData_915e3_0 : decode cJx4a65c_elementData_915e3 0 = .ok (.aload_n 0, 1) := by decide +kernel
theorem dJx4a65c_elementData_915e3_1 : decode cJx4a65c_elementData_915e3 1 = .ok (.getfield 9, 3) := by decide +kernel
theorem dJx4a65c_elementData_915e3_4 : decode cJx4a65c_elementData_915e3 4 = .ok (.iload_n 1, 1) := by decide +kernel
theorem dJx4a65c_elementData_915e3_5 : decode cJx4a65c_elementData_915e3 5 = .ok (.aaload, 1) := by decide +kernel
theorem dJx4a65c_elementData_915e3_6 : decode cJx4a65c_elementData_915e3 6 = .ok (.areturn, 1) := by decide +kernel
theorem dJx4a65c_get_915e3_0 : decode cJx4a65c_get_915e3 0 = .ok (.iload_n 1, 1) := by decide +kernel
theorem dJx4a65c_get_915e3_1 : decode cJx4a65c_get_915e3 1 = .ok (.aload_n 0, 1) := by decide +kernel
theorem dJx4a65c_get_915e3_2 : decode cJx4a65c_get_915e3 2 = .ok (.getfield 48, 3) := by decide +kernel
theorem dJx4a65c_get_915e3_5 : decode cJx4a65c_get_915e3 5 = .ok (.invokestatic 118, 3) := by decide +kernel
theorem dJx4a65c_get_915e3_8 : decode cJx4a65c_get_915e3 8 = .ok (.pop, 1) := by decide +kernel
theorem dJx4a65c_get_915e3_9 : decode cJx4a65c_get_915e3 9 = .ok (.aload_n 0, 1) := by decide +kernel
theorem dJx4a65c_get_915e3_10 : decode cJx4a65c_get_915e3 10 = .ok (.iload_n 1, 1) := by decide +kernel
theorem dJx4a65c_get_915e3_11 : decode cJx4a65c_get_915e3 11 = .ok (.invokevirtual 123, 3) := by decide +kernel
theorem dJx4a65c_get_915e3_14 : decode cJx4a65c_get_915e3 14 = .ok (.areturn, 1) := by decide +kernel
theorem dJx4a65c_add_72be8_0 : decode cJx4a65c_add_72be8 0 = .ok (.iload_n 3, 1) := by decide +kernel
theorem dJx4a65c_add_72be8_1 : decode cJx4a65c_add_72be8 1 = .ok (.aload_n 2, 1) := by decide +kernel
theorem dJx4a65c_add_72be8_2 : decode cJx4a65c_add_72be8 2 = .ok (.arraylength, 1) := by decide +kernel
theorem dJx4a65c_add_72be8_3 : decode cJx4a65c_add_72be8 3 = .ok (.if_icmp .ne 8, 3) := by decide +kernel
theorem dJx4a65c_add_72be8_6 : decode cJx4a65c_add_72be8 6 = .ok (.aload_n 0, 1) := by decide +kernel
theorem dJx4a65c_add_72be8_7 : decode cJx4a65c_add_72be8 7 = .ok (.invokevirtual 129, 3) := by decide +kernel
theorem dJx4a65c_add_72be8_10 : decode cJx4a65c_add_72be8 10 = .ok (.astore_n 2, 1) := by decide +kernel
theorem dJx4a65c_add_72be8_11 : decode cJx4a65c_add_72be8 11 = .ok (.aload_n 2, 1) := by decide +kernel
theorem dJx4a65c_add_72be8_12 : decode cJx4a65c_add_72be8 12 = .ok (.iload_n 3, 1) := by decide +kernel
theorem dJx4a65c_add_72be8_13 : decode cJx4a65c_add_72be8 13 = .ok (.aload_n 1, 1) := by decide +kernel
theorem dJx4a65c_add_72be8_14 : decode cJx4a65c_add_72be8 14 = .ok (.aastore, 1) := by decide +kernel
theorem dJx4a65c_add_72be8_15 : decode cJx4a65c_add_72be8 15 = .ok (.aload_n 0, 1) := by decide +kernel
theorem dJx4a65c_add_72be8_16 : decode cJx4a65c_add_72be8 16 = .ok (.iload_n 3, 1) := by decide +kernel
theorem dJx4a65c_add_72be8_17 : decode cJx4a65c_add_72be8 17 = .ok (.iconst 1, 1) := by decide +kernel
theorem dJx4a65c_add_72be8_18 : decode cJx4a65c_add_72be8 18 = .ok (.iadd, 1) := by decide +kernel
theorem dJx4a65c_add_72be8_19 : decode cJx4a65c_add_72be8 19 = .ok (.putfield 48, 3) := by decide +kernel
theorem dJx4a65c_add_72be8_22 : decode cJx4a65c_add_72be8 22 = .ok (.return_, 1) := by decide +kernel
theorem dJx4a65c_add_9ea2d_0 : decode cJx4a65c_add_9ea2d 0 = .ok (.aload_n 0, 1) := by decide +kernel
theorem dJx4a65c_add_9ea2d_1 : decode cJx4a65c_add_9ea2d 1 = .ok (.dup, 1) := by decide +kernel
theorem dJx4a65c_add_9ea2d_2 : decode cJx4a65c_add_9ea2d 2 = .ok (.getfield 63, 3) := by decide +kernel
theorem dJx4a65c_add_9ea2d_5 : decode cJx4a65c_add_9ea2d 5 = .ok (.iconst 1, 1) := by decide +kernel
theorem dJx4a65c_add_9ea2d_6 : decode cJx4a65c_add_9ea2d 6 = .ok (.iadd, 1) := by decide +kernel
theorem dJx4a65c_add_9ea2d_7 : decode cJx4a65c_add_9ea2d 7 = .ok (.putfield 63, 3) := by decide +kernel
theorem dJx4a65c_add_9ea2d_10 : decode cJx4a65c_add_9ea2d 10 = .ok (.aload_n 0, 1) := by decide +kernel
theorem dJx4a65c_add_9ea2d_11 : decode cJx4a65c_add_9ea2d 11 = .ok (.aload_n 1, 1) := by decide +kernel
theorem dJx4a65c_add_9ea2d_12 : decode cJx4a65c_add_9ea2d 12 = .ok (.aload_n 0, 1) := by decide +kernel
theorem dJx4a65c_add_9ea2d_13 : decode cJx4a65c_add_9ea2d 13 = .ok (.getfield 9, 3) := by decide +kernel
theorem dJx4a65c_add_9ea2d_16 : decode cJx4a65c_add_9ea2d 16 = .ok (.aload_n 0, 1) := by decide +kernel
theorem dJx4a65c_add_9ea2d_17 : decode cJx4a65c_add_9ea2d 17 = .ok (.getfield 48, 3) := by decide +kernel
theorem dJx4a65c_add_9ea2d_20 : decode cJx4a65c_add_9ea2d 20 = .ok (.invokevirtual 131, 3) := by decide +kernel
theorem dJx4a65c_add_9ea2d_23 : decode cJx4a65c_add_9ea2d 23 = .ok (.iconst 1, 1) := by decide +kernel
theorem dJx4a65c_add_9ea2d_24 : decode cJx4a65c_add_9ea2d 24 = .ok (.ireturn, 1) := by decide +kernel
theorem dJx4a65c_iterator_32c93_0 : decode cJx4a65c_iterator_32c93 0 = .ok (.new 267, 3) := by decide +kernel
theorem dJx4a65c_iterator_32c93_3 : decode cJx4a65c_iterator_32c93 3 = .ok (.dup, 1) := by decide +kernel
theorem dJx4a65c_iterator_32c93_4 : decode cJx4a65c_iterator_32c93 4 = .ok (.aload_n 0, 1) := by decide +kernel
theorem dJx4a65c_iterator_32c93_5 : decode cJx4a65c_iterator_32c93 5 = .ok (.invokespecial 269, 3) := by decide +kernel
theorem dJx4a65c_iterator_32c93_8 : decode cJx4a65c_iterator_32c93 8 = .ok (.areturn, 1) := by decide +kernel
theorem dJ7_copyOf_1904c_0 : decode cJ7_copyOf_1904c 0 = .ok (.aload_n 0, 1) := by decide +kernel
theorem dJ7_copyOf_1904c_1 : decode cJ7_copyOf_1904c 1 = .ok (.iload_n 1, 1) := by decide +kernel
theorem dJ7_copyOf_1904c_2 : decode cJ7_copyOf_1904c 2 = .ok (.aload_n 0, 1) := by decide +kernel
theorem dJ7_copyOf_1904c_3 : decode cJ7_copyOf_1904c 3 = .ok (.invokevirtual 86, 3) := by decide +kernel
theorem dJ7_copyOf_1904c_6 : decode cJ7_copyOf_1904c 6 = .ok (.invokestatic 300, 3) := by decide +kernel
theorem dJ7_copyOf_1904c_9 : decode cJ7_copyOf_1904c 9 = .ok (.areturn, 1) := by decide +kernel
theorem dJ7_copyOf_6403c_0 : decode cJ7_copyOf_6403c 0 = .ok (.aload_n 2, 1) := by decide +kernel
theorem dJ7_copyOf_6403c_1 : decode cJ7_copyOf_6403c 1 = .ok (.ldc 110, 2) := by decide +kernel
theorem dJ7_copyOf_6403c_3 : decode cJ7_copyOf_6403c 3 = .ok (.if_acmp .ne 10, 3) := by decide +kernel
theorem dJ7_copyOf_6403c_6 : decode cJ7_copyOf_6403c 6 = .ok (.iload_n 1, 1) := by decide +kernel
theorem dJ7_copyOf_6403c_7 : decode cJ7_copyOf_6403c 7 = .ok (.anewarray 2, 3) := by decide +kernel
theorem dJ7_copyOf_6403c_10 : decode cJ7_copyOf_6403c 10 = .ok (.goto 14, 3) := by decide +kernel
theorem dJ7_copyOf_6403c_13 : decode cJ7_copyOf_6403c 13 = .ok (.aload_n 2, 1) := by decide +kernel
theorem dJ7_copyOf_6403c_14 : decode cJ7_copyOf_6403c 14 = .ok (.invokevirtual 90, 3) := by decide +kernel
theorem dJ7_copyOf_6403c_17 : decode cJ7_copyOf_6403c 17 = .ok (.iload_n 1, 1) := by decide +kernel
theorem dJ7_copyOf_6403c_18 : decode cJ7_copyOf_6403c 18 = .ok (.invokestatic 95, 3) := by decide +kernel
theorem dJ7_copyOf_6403c_21 : decode cJ7_copyOf_6403c 21 = .ok (.checkcast 110, 3) := by decide +kernel
theorem dJ7_copyOf_6403c_24 : decode cJ7_copyOf_6403c 24 = .ok (.astore_n 3, 1) := by decide +kernel
theorem dJ7_copyOf_6403c_25 : decode cJ7_copyOf_6403c 25 = .ok (.aload_n 0, 1) := by decide +kernel
theorem dJ7_copyOf_6403c_26 : decode cJ7_copyOf_6403c 26 = .ok (.iconst 0, 1) := by decide +kernel
theorem dJ7_copyOf_6403c_27 : decode cJ7_copyOf_6403c 27 = .ok (.aload_n 3, 1) := by decide +kernel
theorem dJ7_copyOf_6403c_28 : decode cJ7_copyOf_6403c 28 = .ok (.iconst 0, 1) := by decide +kernel
theorem dJ7_copyOf_6403c_29 : decode cJ7_copyOf_6403c 29 = .ok (.aload_n 0, 1) := by decide +kernel
theorem dJ7_copyOf_6403c_30 : decode cJ7_copyOf_6403c 30 = .ok (.arraylength, 1) := by decide +kernel
theorem dJ7_copyOf_6403c_31 : decode cJ7_copyOf_6403c 31 = .ok (.iload_n 1, 1) := by decide +kernel
theorem dJ7_copyOf_6403c_32 : decode cJ7_copyOf_6403c 32 = .ok (.invokestatic 304, 3) := by decide +kernel
theorem dJ7_copyOf_6403c_35 : decode cJ7_copyOf_6403c 35 = .ok (.invokestatic 150, 3) := by decide +kernel
theorem dJ7_copyOf_6403c_38 : decode cJ7_copyOf_6403c 38 = .ok (.aload_n 3, 1) := by decide +kernel
theorem dJ7_copyOf_6403c_39 : decode cJ7_copyOf_6403c 39 = .ok (.areturn, 1) := by decide +kernel
theorem dJ15_checkIndex_7cf53_0 : decode cJ15_checkIndex_7cf53 0 = .ok (.iload_n 0, 1) := by decide +kernel
theorem dJ15_checkIndex_7cf53_1 : decode cJ15_checkIndex_7cf53 1 = .ok (.iload_n 1, 1) := by decide +kernel
theorem dJ15_checkIndex_7cf53_2 : decode cJ15_checkIndex_7cf53 2 = .ok (.aconst_null, 1) := by decide +kernel
theorem dJ15_checkIndex_7cf53_3 : decode cJ15_checkIndex_7cf53 3 = .ok (.invokestatic 105, 3) := by decide +kernel
theorem dJ15_checkIndex_7cf53_6 : decode cJ15_checkIndex_7cf53 6 = .ok (.ireturn, 1) := by decide +kernel
theorem dJ8_newLength_cabcc_0 : decode cJ8_newLength_cabcc 0 = .ok (.iload_n 0, 1) := by decide +kernel
theorem dJ8_newLength_cabcc_1 : decode cJ8_newLength_cabcc 1 = .ok (.iload_n 1, 1) := by decide +kernel
theorem dJ8_newLength_cabcc_2 : decode cJ8_newLength_cabcc 2 = .ok (.iload_n 2, 1) := by decide +kernel
theorem dJ8_newLength_cabcc_3 : decode cJ8_newLength_cabcc 3 = .ok (.invokestatic 194, 3) := by decide +kernel
theorem dJ8_newLength_cabcc_6 : decode cJ8_newLength_cabcc 6 = .ok (.iadd, 1) := by decide +kernel
theorem dJ8_newLength_cabcc_7 : decode cJ8_newLength_cabcc 7 = .ok (.istore_n 3, 1) := by decide +kernel
theorem dJ8_newLength_cabcc_8 : decode cJ8_newLength_cabcc 8 = .ok (.iconst 0, 1) := by decide +kernel
theorem dJ8_newLength_cabcc_9 : decode cJ8_newLength_cabcc 9 = .ok (.iload_n 3, 1) := by decide +kernel
theorem dJ8_newLength_cabcc_10 : decode cJ8_newLength_cabcc 10 = .ok (.if_icmp .ge 11, 3) := by decide +kernel
theorem dJ8_newLength_cabcc_13 : decode cJ8_newLength_cabcc 13 = .ok (.iload_n 3, 1) := by decide +kernel
theorem dJ8_newLength_cabcc_14 : decode cJ8_newLength_cabcc 14 = .ok (.ldc 200, 2) := by decide +kernel
theorem dJ8_newLength_cabcc_16 : decode cJ8_newLength_cabcc 16 = .ok (.if_icmp .gt 5, 3) := by decide +kernel
theorem dJ8_newLength_cabcc_19 : decode cJ8_newLength_cabcc 19 = .ok (.iload_n 3, 1) := by decide +kernel
theorem dJ8_newLength_cabcc_20 : decode cJ8_newLength_cabcc 20 = .ok (.ireturn, 1) := by decide +kernel
theorem dJ8_newLength_cabcc_21 : decode cJ8_newLength_cabcc 21 = .ok (.iload_n 0, 1) := by decide +kernel
theorem dJ8_newLength_cabcc_22 : decode cJ8_newLength_cabcc 22 = .ok (.iload_n 1, 1) := by decide +kernel
theorem dJ8_newLength_cabcc_23 : decode cJ8_newLength_cabcc 23 = .ok (.invokestatic 201, 3) := by decide +kernel
theorem dJ8_newLength_cabcc_26 : decode cJ8_newLength_cabcc 26 = .ok (.ireturn, 1) := by decide +kernel
theorem dJ8_hugeLength_7cf53_0 : decode cJ8_hugeLength_7cf53 0 = .ok (.iload_n 0, 1) := by decide +kernel
theorem dJ8_hugeLength_7cf53_1 : decode cJ8_hugeLength_7cf53 1 = .ok (.iload_n 1, 1) := by decide +kernel
theorem dJ8_hugeLength_7cf53_2 : decode cJ8_hugeLength_7cf53 2 = .ok (.iadd, 1) := by decide +kernel
theorem dJ8_hugeLength_7cf53_3 : decode cJ8_hugeLength_7cf53 3 = .ok (.istore_n 2, 1) := by decide +kernel
theorem dJ8_hugeLength_7cf53_4 : decode cJ8_hugeLength_7cf53 4 = .ok (.iload_n 2, 1) := by decide +kernel
theorem dJ8_hugeLength_7cf53_5 : decode cJ8_hugeLength_7cf53 5 = .ok (.ifCond .ge 44, 3) := by decide +kernel
theorem dJ8_hugeLength_7cf53_8 : decode cJ8_hugeLength_7cf53 8 = .ok (.new 204, 3) := by decide +kernel
theorem dJ8_hugeLength_7cf53_11 : decode cJ8_hugeLength_7cf53 11 = .ok (.dup, 1) := by decide +kernel
theorem dJ8_hugeLength_7cf53_12 : decode cJ8_hugeLength_7cf53 12 = .ok (.new 89, 3) := by decide +kernel
theorem dJ8_hugeLength_7cf53_15 : decode cJ8_hugeLength_7cf53 15 = .ok (.dup, 1) := by decide +kernel
theorem dJ8_hugeLength_7cf53_16 : decode cJ8_hugeLength_7cf53 16 = .ok (.invokespecial 91, 3) := by decide +kernel
theorem dJ8_hugeLength_7cf53_19 : decode cJ8_hugeLength_7cf53 19 = .ok (.ldc 206, 2) := by decide +kernel
theorem dJ8_hugeLength_7cf53_21 : decode cJ8_hugeLength_7cf53 21 = .ok (.invokevirtual 94, 3) := by decide +kernel
theorem dJ8_hugeLength_7cf53_24 : decode cJ8_hugeLength_7cf53 24 = .ok (.iload_n 0, 1) := by decide +kernel
theorem dJ8_hugeLength_7cf53_25 : decode cJ8_hugeLength_7cf53 25 = .ok (.invokevirtual 98, 3) := by decide +kernel
theorem dJ8_hugeLength_7cf53_28 : decode cJ8_hugeLength_7cf53 28 = .ok (.ldc 208, 2) := by decide +kernel
theorem dJ8_hugeLength_7cf53_30 : decode cJ8_hugeLength_7cf53 30 = .ok (.invokevirtual 94, 3) := by decide +kernel
theorem dJ8_hugeLength_7cf53_33 : decode cJ8_hugeLength_7cf53 33 = .ok (.iload_n 1, 1) := by decide +kernel
theorem dJ8_hugeLength_7cf53_34 : decode cJ8_hugeLength_7cf53 34 = .ok (.invokevirtual 98, 3) := by decide +kernel
theorem dJ8_hugeLength_7cf53_37 : decode cJ8_hugeLength_7cf53 37 = .ok (.ldc 210, 2) := by decide +kernel
theorem dJ8_hugeLength_7cf53_39 : decode cJ8_hugeLength_7cf53 39 = .ok (.invokevirtual 94, 3) := by decide +kernel
theorem dJ8_hugeLength_7cf53_42 : decode cJ8_hugeLength_7cf53 42 = .ok (.invokevirtual 101, 3) := by decide +kernel
theorem dJ8_hugeLength_7cf53_45 : decode cJ8_hugeLength_7cf53 45 = .ok (.invokespecial 212, 3) := by decide +kernel
theorem dJ8_hugeLength_7cf53_48 : decode cJ8_hugeLength_7cf53 48 = .ok (.athrow, 1) := by decide +kernel
theorem dJ8_hugeLength_7cf53_49 : decode cJ8_hugeLength_7cf53 49 = .ok (.iload_n 2, 1) := by decide +kernel
theorem dJ8_hugeLength_7cf53_50 : decode cJ8_hugeLength_7cf53 50 = .ok (.ldc 200, 2) := by decide +kernel
theorem dJ8_hugeLength_7cf53_52 : decode cJ8_hugeLength_7cf53 52 = .ok (.if_icmp .gt 6, 3) := by decide +kernel
theorem dJ8_hugeLength_7cf53_55 : decode cJ8_hugeLength_7cf53 55 = .ok (.ldc 200, 2) := by decide +kernel
theorem dJ8_hugeLength_7cf53_57 : decode cJ8_hugeLength_7cf53 57 = .ok (.ireturn, 1) := by decide +kernel
theorem dJ8_hugeLength_7cf53_58 : decode cJ8_hugeLength_7cf53 58 = .ok (.iload_n 2, 1) := by decide +kernel
theorem dJ8_hugeLength_7cf53_59 : decode cJ8_hugeLength_7cf53 59 = .ok (.ireturn, 1) := by decide +kernel
theorem dJ3_checkIndex_8e157_0 : decode cJ3_checkIndex_8e157 0 = .ok (.iload_n 0, 1) := by decide +kernel
theorem dJ3_checkIndex_8e157_1 : decode cJ3_checkIndex_8e157 1 = .ok (.ifCond .lt 8, 3) := by decide +kernel
theorem dJ3_checkIndex_8e157_4 : decode cJ3_checkIndex_8e157 4 = .ok (.iload_n 0, 1) := by decide +kernel
theorem dJ3_checkIndex_8e157_5 : decode cJ3_checkIndex_8e157 5 = .ok (.iload_n 1, 1) := by decide +kernel
theorem dJ3_checkIndex_8e157_6 : decode cJ3_checkIndex_8e157 6 = .ok (.if_icmp .lt 10, 3) := by decide +kernel
theorem dJ3_checkIndex_8e157_9 : decode cJ3_checkIndex_8e157 9 = .ok (.aload_n 2, 1) := by decide +kernel
theorem dJ3_checkIndex_8e157_10 : decode cJ3_checkIndex_8e157 10 = .ok (.iload_n 0, 1) := by decide +kernel
theorem dJ3_checkIndex_8e157_11 : decode cJ3_checkIndex_8e157 11 = .ok (.iload_n 1, 1) := by decide +kernel
theorem dJ3_checkIndex_8e157_12 : decode cJ3_checkIndex_8e157 12 = .ok (.invokestatic 95, 3) := by decide +kernel
theorem dJ3_checkIndex_8e157_15 : decode cJ3_checkIndex_8e157 15 = .ok (.athrow, 1) := by decide +kernel
theorem dJ3_checkIndex_8e157_16 : decode cJ3_checkIndex_8e157 16 = .ok (.iload_n 0, 1) := by decide +kernel
theorem dJ3_checkIndex_8e157_17 : decode cJ3_checkIndex_8e157 17 = .ok (.ireturn, 1) := by decide +kernel
theorem dL_wall_0 : decode cL_wall 0 = .ok (.aload 5, 2) := by decide +kernel
theorem dL_wall_2 : decode cL_wall 2 = .ok (.iconst 0, 1) := by decide +kernel
theorem dL_wall_3 : decode cL_wall 3 = .ok (.aload_n 0, 1) := by decide +kernel
theorem dL_wall_4 : decode cL_wall 4 = .ok (.iload_n 1, 1) := by decide +kernel
theorem dL_wall_5 : decode cL_wall 5 = .ok (.iload_n 2, 1) := by decide +kernel
theorem dL_wall_6 : decode cL_wall 6 = .ok (.iload_n 3, 1) := by decide +kernel
theorem dL_wall_7 : decode cL_wall 7 = .ok (.iload 4, 2) := by decide +kernel
theorem dL_wall_9 : decode cL_wall 9 = .ok (.invokevirtual 7, 3) := by decide +kernel
theorem dL_wall_12 : decode cL_wall 12 = .ok (.i2l, 1) := by decide +kernel
theorem dL_wall_13 : decode cL_wall 13 = .ok (.lastore, 1) := by decide +kernel
theorem dL_wall_14 : decode cL_wall 14 = .ok (.goto 11, 3) := by decide +kernel
theorem dL_wall_17 : decode cL_wall 17 = .ok (.astore 6, 2) := by decide +kernel
theorem dL_wall_19 : decode cL_wall 19 = .ok (.iconst 1, 1) := by decide +kernel
theorem dL_wall_20 : decode cL_wall 20 = .ok (.ireturn, 1) := by decide +kernel
theorem dL_wall_21 : decode cL_wall 21 = .ok (.astore 6, 2) := by decide +kernel
theorem dL_wall_23 : decode cL_wall 23 = .ok (.iconst 2, 1) := by decide +kernel
theorem dL_wall_24 : decode cL_wall 24 = .ok (.ireturn, 1) := by decide +kernel
theorem dL_wall_25 : decode cL_wall 25 = .ok (.iconst 0, 1) := by decide +kernel
theorem dL_wall_26 : decode cL_wall 26 = .ok (.ireturn, 1) := by decide +kernel
theorem dL_hand_0 : decode cL_hand 0 = .ok (.aload 5, 2) := by decide +kernel
theorem dL_hand_2 : decode cL_hand 2 = .ok (.iconst 0, 1) := by decide +kernel
theorem dL_hand_3 : decode cL_hand 3 = .ok (.aload_n 0, 1) := by decide +kernel
theorem dL_hand_4 : decode cL_hand 4 = .ok (.iload_n 1, 1) := by decide +kernel
theorem dL_hand_5 : decode cL_hand 5 = .ok (.iload_n 2, 1) := by decide +kernel
theorem dL_hand_6 : decode cL_hand 6 = .ok (.iload_n 3, 1) := by decide +kernel
theorem dL_hand_7 : decode cL_hand 7 = .ok (.iload 4, 2) := by decide +kernel
theorem dL_hand_9 : decode cL_hand 9 = .ok (.invokevirtual 17, 3) := by decide +kernel
theorem dL_hand_12 : decode cL_hand 12 = .ok (.i2l, 1) := by decide +kernel
theorem dL_hand_13 : decode cL_hand 13 = .ok (.lastore, 1) := by decide +kernel
theorem dL_hand_14 : decode cL_hand 14 = .ok (.goto 11, 3) := by decide +kernel
theorem dL_hand_17 : decode cL_hand 17 = .ok (.astore 6, 2) := by decide +kernel
theorem dL_hand_19 : decode cL_hand 19 = .ok (.iconst 1, 1) := by decide +kernel
theorem dL_hand_20 : decode cL_hand 20 = .ok (.ireturn, 1) := by decide +kernel
theorem dL_hand_21 : decode cL_hand 21 = .ok (.astore 6, 2) := by decide +kernel
theorem dL_hand_23 : decode cL_hand 23 = .ok (.iconst 2, 1) := by decide +kernel
theorem dL_hand_24 : decode cL_hand 24 = .ok (.ireturn, 1) := by decide +kernel
theorem dL_hand_25 : decode cL_hand 25 = .ok (.iconst 0, 1) := by decide +kernel
theorem dL_hand_26 : decode cL_hand 26 = .ok (.ireturn, 1) := by decide +kernel
theorem dL_permit_0 : decode cL_permit 0 = .ok (.aload 4, 2) := by decide +kernel
theorem dL_permit_2 : decode cL_permit 2 = .ok (.iconst 0, 1) := by decide +kernel
theorem dL_permit_3 : decode cL_permit 3 = .ok (.aload_n 0, 1) := by decide +kernel
theorem dL_permit_4 : decode cL_permit 4 = .ok (.iload_n 1, 1) := by decide +kernel
theorem dL_permit_5 : decode cL_permit 5 = .ok (.iload_n 2, 1) := by decide +kernel
theorem dL_permit_6 : decode cL_permit 6 = .ok (.iload_n 3, 1) := by decide +kernel
theorem dL_permit_7 : decode cL_permit 7 = .ok (.invokevirtual 20, 3) := by decide +kernel
theorem dL_permit_10 : decode cL_permit 10 = .ok (.i2l, 1) := by decide +kernel
theorem dL_permit_11 : decode cL_permit 11 = .ok (.lastore, 1) := by decide +kernel
theorem dL_permit_12 : decode cL_permit 12 = .ok (.goto 11, 3) := by decide +kernel
theorem dL_permit_15 : decode cL_permit 15 = .ok (.astore 5, 2) := by decide +kernel
theorem dL_permit_17 : decode cL_permit 17 = .ok (.iconst 1, 1) := by decide +kernel
theorem dL_permit_18 : decode cL_permit 18 = .ok (.ireturn, 1) := by decide +kernel
theorem dL_permit_19 : decode cL_permit 19 = .ok (.astore 5, 2) := by decide +kernel
theorem dL_permit_21 : decode cL_permit 21 = .ok (.iconst 2, 1) := by decide +kernel
theorem dL_permit_22 : decode cL_permit 22 = .ok (.ireturn, 1) := by decide +kernel
theorem dL_permit_23 : decode cL_permit 23 = .ok (.iconst 0, 1) := by decide +kernel
theorem dL_permit_24 : decode cL_permit 24 = .ok (.ireturn, 1) := by decide +kernel
theorem dL_watch_0 : decode cL_watch 0 = .ok (.aload 4, 2) := by decide +kernel
theorem dL_watch_2 : decode cL_watch 2 = .ok (.iconst 0, 1) := by decide +kernel
theorem dL_watch_3 : decode cL_watch 3 = .ok (.aload_n 0, 1) := by decide +kernel
theorem dL_watch_4 : decode cL_watch 4 = .ok (.iload_n 1, 1) := by decide +kernel
theorem dL_watch_5 : decode cL_watch 5 = .ok (.iload_n 2, 1) := by decide +kernel
theorem dL_watch_6 : decode cL_watch 6 = .ok (.iload_n 3, 1) := by decide +kernel
theorem dL_watch_7 : decode cL_watch 7 = .ok (.invokevirtual 26, 3) := by decide +kernel
theorem dL_watch_10 : decode cL_watch 10 = .ok (.i2l, 1) := by decide +kernel
theorem dL_watch_11 : decode cL_watch 11 = .ok (.lastore, 1) := by decide +kernel
theorem dL_watch_12 : decode cL_watch 12 = .ok (.goto 11, 3) := by decide +kernel
theorem dL_watch_15 : decode cL_watch 15 = .ok (.astore 5, 2) := by decide +kernel
theorem dL_watch_17 : decode cL_watch 17 = .ok (.iconst 1, 1) := by decide +kernel
theorem dL_watch_18 : decode cL_watch 18 = .ok (.ireturn, 1) := by decide +kernel
theorem dL_watch_19 : decode cL_watch 19 = .ok (.astore 5, 2) := by decide +kernel
theorem dL_watch_21 : decode cL_watch 21 = .ok (.iconst 2, 1) := by decide +kernel
theorem dL_watch_22 : decode cL_watch 22 = .ok (.ireturn, 1) := by decide +kernel
theorem dL_watch_23 : decode cL_watch 23 = .ok (.iconst 0, 1) := by decide +kernel
theorem dL_watch_24 : decode cL_watch 24 = .ok (.ireturn, 1) := by decide +kernel
theorem dL_paint_0 : decode cL_paint 0 = .ok (.aload 7, 2) := by decide +kernel
theorem dL_paint_2 : decode cL_paint 2 = .ok (.iconst 0, 1) := by decide +kernel
theorem dL_paint_3 : decode cL_paint 3 = .ok (.aload_n 0, 1) := by decide +kernel
theorem dL_paint_4 : decode cL_paint 4 = .ok (.iload_n 1, 1) := by decide +kernel
theorem dL_paint_5 : decode cL_paint 5 = .ok (.iload_n 2, 1) := by decide +kernel
theorem dL_paint_6 : decode cL_paint 6 = .ok (.iload_n 3, 1) := by decide +kernel
theorem dL_paint_7 : decode cL_paint 7 = .ok (.iload 4, 2) := by decide +kernel
theorem dL_paint_9 : decode cL_paint 9 = .ok (.iload 5, 2) := by decide +kernel
theorem dL_paint_11 : decode cL_paint 11 = .ok (.iload 6, 2) := by decide +kernel
theorem dL_paint_13 : decode cL_paint 13 = .ok (.invokevirtual 29, 3) := by decide +kernel
theorem dL_paint_16 : decode cL_paint 16 = .ok (.i2l, 1) := by decide +kernel
theorem dL_paint_17 : decode cL_paint 17 = .ok (.lastore, 1) := by decide +kernel
theorem dL_paint_18 : decode cL_paint 18 = .ok (.goto 15, 3) := by decide +kernel
theorem dL_paint_21 : decode cL_paint 21 = .ok (.astore 8, 2) := by decide +kernel
theorem dL_paint_23 : decode cL_paint 23 = .ok (.iconst 1, 1) := by decide +kernel
theorem dL_paint_24 : decode cL_paint 24 = .ok (.ireturn, 1) := by decide +kernel
theorem dL_paint_25 : decode cL_paint 25 = .ok (.astore 8, 2) := by decide +kernel
theorem dL_paint_27 : decode cL_paint 27 = .ok (.iconst 2, 1) := by decide +kernel
theorem dL_paint_28 : decode cL_paint 28 = .ok (.ireturn, 1) := by decide +kernel
theorem dL_paint_29 : decode cL_paint 29 = .ok (.astore 8, 2) := by decide +kernel
theorem dL_paint_31 : decode cL_paint 31 = .ok (.iconst 3, 1) := by decide +kernel
theorem dL_paint_32 : decode cL_paint 32 = .ok (.ireturn, 1) := by decide +kernel
theorem dL_paint_33 : decode cL_paint 33 = .ok (.iconst 0, 1) := by decide +kernel
theorem dL_paint_34 : decode cL_paint 34 = .ok (.ireturn, 1) := by decide +kernel
theorem dL_buff_0 : decode cL_buff 0 = .ok (.aload_n 2, 1) := by decide +kernel
theorem dL_buff_1 : decode cL_buff 1 = .ok (.iconst 0, 1) := by decide +kernel
theorem dL_buff_2 : decode cL_buff 2 = .ok (.aload_n 0, 1) := by decide +kernel
theorem dL_buff_3 : decode cL_buff 3 = .ok (.iload_n 1, 1) := by decide +kernel
theorem dL_buff_4 : decode cL_buff 4 = .ok (.invokevirtual 33, 3) := by decide +kernel
theorem dL_buff_7 : decode cL_buff 7 = .ok (.i2l, 1) := by decide +kernel
theorem dL_buff_8 : decode cL_buff 8 = .ok (.lastore, 1) := by decide +kernel
theorem dL_buff_9 : decode cL_buff 9 = .ok (.goto 9, 3) := by decide +kernel
theorem dL_buff_12 : decode cL_buff 12 = .ok (.astore_n 3, 1) := by decide +kernel
theorem dL_buff_13 : decode cL_buff 13 = .ok (.iconst 1, 1) := by decide +kernel
theorem dL_buff_14 : decode cL_buff 14 = .ok (.ireturn, 1) := by decide +kernel
theorem dL_buff_15 : decode cL_buff 15 = .ok (.astore_n 3, 1) := by decide +kernel
theorem dL_buff_16 : decode cL_buff 16 = .ok (.iconst 2, 1) := by decide +kernel
theorem dL_buff_17 : decode cL_buff 17 = .ok (.ireturn, 1) := by decide +kernel
theorem dL_buff_18 : decode cL_buff 18 = .ok (.iconst 0, 1) := by decide +kernel
theorem dL_buff_19 : decode cL_buff 19 = .ok (.ireturn, 1) := by decide +kernel
theorem dL_clear_0 : decode cL_clear 0 = .ok (.aload_n 2, 1) := by decide +kernel
theorem dL_clear_1 : decode cL_clear 1 = .ok (.iconst 0, 1) := by decide +kernel
theorem dL_clear_2 : decode cL_clear 2 = .ok (.aload_n 0, 1) := by decide +kernel
theorem dL_clear_3 : decode cL_clear 3 = .ok (.iload_n 1, 1) := by decide +kernel
theorem dL_clear_4 : decode cL_clear 4 = .ok (.invokevirtual 37, 3) := by decide +kernel
theorem dL_clear_7 : decode cL_clear 7 = .ok (.i2l, 1) := by decide +kernel
theorem dL_clear_8 : decode cL_clear 8 = .ok (.lastore, 1) := by decide +kernel
theorem dL_clear_9 : decode cL_clear 9 = .ok (.goto 6, 3) := by decide +kernel
theorem dL_clear_12 : decode cL_clear 12 = .ok (.astore_n 3, 1) := by decide +kernel
theorem dL_clear_13 : decode cL_clear 13 = .ok (.iconst 1, 1) := by decide +kernel
theorem dL_clear_14 : decode cL_clear 14 = .ok (.ireturn, 1) := by decide +kernel
theorem dL_clear_15 : decode cL_clear 15 = .ok (.iconst 0, 1) := by decide +kernel
theorem dL_clear_16 : decode cL_clear 16 = .ok (.ireturn, 1) := by decide +kernel
theorem dL_sell_0 : decode cL_sell 0 = .ok (.aload_n 2, 1) := by decide +kernel
theorem dL_sell_1 : decode cL_sell 1 = .ok (.iconst 0, 1) := by decide +kernel
theorem dL_sell_2 : decode cL_sell 2 = .ok (.aload_n 0, 1) := by decide +kernel
theorem dL_sell_3 : decode cL_sell 3 = .ok (.iload_n 1, 1) := by decide +kernel
theorem dL_sell_4 : decode cL_sell 4 = .ok (.invokevirtual 40, 3) := by decide +kernel
theorem dL_sell_7 : decode cL_sell 7 = .ok (.i2l, 1) := by decide +kernel
theorem dL_sell_8 : decode cL_sell 8 = .ok (.lastore, 1) := by decide +kernel
theorem dL_sell_9 : decode cL_sell 9 = .ok (.goto 9, 3) := by decide +kernel
theorem dL_sell_12 : decode cL_sell 12 = .ok (.astore_n 3, 1) := by decide +kernel
theorem dL_sell_13 : decode cL_sell 13 = .ok (.iconst 1, 1) := by decide +kernel
theorem dL_sell_14 : decode cL_sell 14 = .ok (.ireturn, 1) := by decide +kernel
theorem dL_sell_15 : decode cL_sell 15 = .ok (.astore_n 3, 1) := by decide +kernel
theorem dL_sell_16 : decode cL_sell 16 = .ok (.iconst 2, 1) := by decide +kernel
theorem dL_sell_17 : decode cL_sell 17 = .ok (.ireturn, 1) := by decide +kernel
theorem dL_sell_18 : decode cL_sell 18 = .ok (.iconst 0, 1) := by decide +kernel
theorem dL_sell_19 : decode cL_sell 19 = .ok (.ireturn, 1) := by decide +kernel
theorem dL_waive_0 : decode cL_waive 0 = .ok (.aload_n 2, 1) := by decide +kernel
theorem dL_waive_1 : decode cL_waive 1 = .ok (.iconst 0, 1) := by decide +kernel
theorem dL_waive_2 : decode cL_waive 2 = .ok (.aload_n 0, 1) := by decide +kernel
theorem dL_waive_3 : decode cL_waive 3 = .ok (.iload_n 1, 1) := by decide +kernel
theorem dL_waive_4 : decode cL_waive 4 = .ok (.invokevirtual 43, 3) := by decide +kernel
theorem dL_waive_7 : decode cL_waive 7 = .ok (.ifCond .eq 7, 3) := by decide +kernel
theorem dL_waive_10 : decode cL_waive 10 = .ok (.lconst 1, 1) := by decide +kernel
theorem dL_waive_11 : decode cL_waive 11 = .ok (.goto 4, 3) := by decide +kernel
theorem dL_waive_14 : decode cL_waive 14 = .ok (.lconst 0, 1) := by decide +kernel
theorem dL_waive_15 : decode cL_waive 15 = .ok (.lastore, 1) := by decide +kernel
theorem dL_waive_16 : decode cL_waive 16 = .ok (.goto 6, 3) := by decide +kernel
theorem dL_waive_19 : decode cL_waive 19 = .ok (.astore_n 3, 1) := by decide +kernel
theorem dL_waive_20 : decode cL_waive 20 = .ok (.iconst 1, 1) := by decide +kernel
theorem dL_waive_21 : decode cL_waive 21 = .ok (.ireturn, 1) := by decide +kernel
theorem dL_waive_22 : decode cL_waive 22 = .ok (.iconst 0, 1) := by decide +kernel
theorem dL_waive_23 : decode cL_waive 23 = .ok (.ireturn, 1) := by decide +kernel
theorem dL_remember_0 : decode cL_remember 0 = .ok (.aload_n 2, 1) := by decide +kernel
theorem dL_remember_1 : decode cL_remember 1 = .ok (.iconst 0, 1) := by decide +kernel
theorem dL_remember_2 : decode cL_remember 2 = .ok (.aload_n 0, 1) := by decide +kernel
theorem dL_remember_3 : decode cL_remember 3 = .ok (.iload_n 1, 1) := by decide +kernel
theorem dL_remember_4 : decode cL_remember 4 = .ok (.invokevirtual 47, 3) := by decide +kernel
theorem dL_remember_7 : decode cL_remember 7 = .ok (.ifCond .eq 7, 3) := by decide +kernel
theorem dL_remember_10 : decode cL_remember 10 = .ok (.lconst 1, 1) := by decide +kernel
theorem dL_remember_11 : decode cL_remember 11 = .ok (.goto 4, 3) := by decide +kernel
theorem dL_remember_14 : decode cL_remember 14 = .ok (.lconst 0, 1) := by decide +kernel
theorem dL_remember_15 : decode cL_remember 15 = .ok (.lastore, 1) := by decide +kernel
theorem dL_remember_16 : decode cL_remember 16 = .ok (.goto 6, 3) := by decide +kernel
theorem dL_remember_19 : decode cL_remember 19 = .ok (.astore_n 3, 1) := by decide +kernel
theorem dL_remember_20 : decode cL_remember 20 = .ok (.iconst 1, 1) := by decide +kernel
theorem dL_remember_21 : decode cL_remember 21 = .ok (.ireturn, 1) := by decide +kernel
theorem dL_remember_22 : decode cL_remember 22 = .ok (.iconst 0, 1) := by decide +kernel
theorem dL_remember_23 : decode cL_remember 23 = .ok (.ireturn, 1) := by decide +kernel
theorem dL_pay_0 : decode cL_pay 0 = .ok (.aload_n 2, 1) := by decide +kernel
theorem dL_pay_1 : decode cL_pay 1 = .ok (.iconst 0, 1) := by decide +kernel
theorem dL_pay_2 : decode cL_pay 2 = .ok (.aload_n 0, 1) := by decide +kernel
theorem dL_pay_3 : decode cL_pay 3 = .ok (.iload_n 1, 1) := by decide +kernel
theorem dL_pay_4 : decode cL_pay 4 = .ok (.invokevirtual 50, 3) := by decide +kernel
theorem dL_pay_7 : decode cL_pay 7 = .ok (.i2l, 1) := by decide +kernel
theorem dL_pay_8 : decode cL_pay 8 = .ok (.lastore, 1) := by decide +kernel
theorem dL_pay_9 : decode cL_pay 9 = .ok (.goto 6, 3) := by decide +kernel
theorem dL_pay_12 : decode cL_pay 12 = .ok (.astore_n 3, 1) := by decide +kernel
theorem dL_pay_13 : decode cL_pay 13 = .ok (.iconst 1, 1) := by decide +kernel
theorem dL_pay_14 : decode cL_pay 14 = .ok (.ireturn, 1) := by decide +kernel
theorem dL_pay_15 : decode cL_pay 15 = .ok (.iconst 0, 1) := by decide +kernel
theorem dL_pay_16 : decode cL_pay 16 = .ok (.ireturn, 1) := by decide +kernel
theorem dL_pass_0 : decode cL_pass 0 = .ok (.aload_n 2, 1) := by decide +kernel
theorem dL_pass_1 : decode cL_pass 1 = .ok (.iconst 0, 1) := by decide +kernel
theorem dL_pass_2 : decode cL_pass 2 = .ok (.aload_n 0, 1) := by decide +kernel
theorem dL_pass_3 : decode cL_pass 3 = .ok (.iload_n 1, 1) := by decide +kernel
theorem dL_pass_4 : decode cL_pass 4 = .ok (.invokevirtual 53, 3) := by decide +kernel
theorem dL_pass_7 : decode cL_pass 7 = .ok (.i2l, 1) := by decide +kernel
theorem dL_pass_8 : decode cL_pass 8 = .ok (.lastore, 1) := by decide +kernel
theorem dL_pass_9 : decode cL_pass 9 = .ok (.goto 9, 3) := by decide +kernel
theorem dL_pass_12 : decode cL_pass 12 = .ok (.astore_n 3, 1) := by decide +kernel
theorem dL_pass_13 : decode cL_pass 13 = .ok (.iconst 1, 1) := by decide +kernel
theorem dL_pass_14 : decode cL_pass 14 = .ok (.ireturn, 1) := by decide +kernel
theorem dL_pass_15 : decode cL_pass 15 = .ok (.astore_n 3, 1) := by decide +kernel
theorem dL_pass_16 : decode cL_pass 16 = .ok (.iconst 2, 1) := by decide +kernel
theorem dL_pass_17 : decode cL_pass 17 = .ok (.ireturn, 1) := by decide +kernel
theorem dL_pass_18 : decode cL_pass 18 = .ok (.iconst 0, 1) := by decide +kernel
theorem dL_pass_19 : decode cL_pass 19 = .ok (.ireturn, 1) := by decide +kernel
theorem dL_ofWall_0 : decode cL_ofWall 0 = .ok (.aload_n 3, 1) := by decide +kernel
theorem dL_ofWall_1 : decode cL_ofWall 1 = .ok (.iconst 0, 1) := by decide +kernel
theorem dL_ofWall_2 : decode cL_ofWall 2 = .ok (.aload_n 0, 1) := by decide +kernel
theorem dL_ofWall_3 : decode cL_ofWall 3 = .ok (.iload_n 1, 1) := by decide +kernel
theorem dL_ofWall_4 : decode cL_ofWall 4 = .ok (.iload_n 2, 1) := by decide +kernel
theorem dL_ofWall_5 : decode cL_ofWall 5 = .ok (.invokevirtual 56, 3) := by decide +kernel
theorem dL_ofWall_8 : decode cL_ofWall 8 = .ok (.i2l, 1) := by decide +kernel
theorem dL_ofWall_9 : decode cL_ofWall 9 = .ok (.lastore, 1) := by decide +kernel
theorem dL_ofWall_10 : decode cL_ofWall 10 = .ok (.goto 11, 3) := by decide +kernel
theorem dL_ofWall_13 : decode cL_ofWall 13 = .ok (.astore 4, 2) := by decide +kernel
theorem dL_ofWall_15 : decode cL_ofWall 15 = .ok (.iconst 1, 1) := by decide +kernel
theorem dL_ofWall_16 : decode cL_ofWall 16 = .ok (.ireturn, 1) := by decide +kernel
theorem dL_ofWall_17 : decode cL_ofWall 17 = .ok (.astore 4, 2) := by decide +kernel
theorem dL_ofWall_19 : decode cL_ofWall 19 = .ok (.iconst 2, 1) := by decide +kernel
theorem dL_ofWall_20 : decode cL_ofWall 20 = .ok (.ireturn, 1) := by decide +kernel
theorem dL_ofWall_21 : decode cL_ofWall 21 = .ok (.iconst 0, 1) := by decide +kernel
theorem dL_ofWall_22 : decode cL_ofWall 22 = .ok (.ireturn, 1) := by decide +kernel
theorem dL_shows_0 : decode cL_shows 0 = .ok (.aload_n 3, 1) := by decide +kernel
theorem dL_shows_1 : decode cL_shows 1 = .ok (.iconst 0, 1) := by decide +kernel
theorem dL_shows_2 : decode cL_shows 2 = .ok (.aload_n 0, 1) := by decide +kernel
theorem dL_shows_3 : decode cL_shows 3 = .ok (.iload_n 1, 1) := by decide +kernel
theorem dL_shows_4 : decode cL_shows 4 = .ok (.iload_n 2, 1) := by decide +kernel
theorem dL_shows_5 : decode cL_shows 5 = .ok (.invokevirtual 60, 3) := by decide +kernel
theorem dL_shows_8 : decode cL_shows 8 = .ok (.i2l, 1) := by decide +kernel
theorem dL_shows_9 : decode cL_shows 9 = .ok (.lastore, 1) := by decide +kernel
theorem dL_shows_10 : decode cL_shows 10 = .ok (.goto 7, 3) := by decide +kernel
theorem dL_shows_13 : decode cL_shows 13 = .ok (.astore 4, 2) := by decide +kernel
theorem dL_shows_15 : decode cL_shows 15 = .ok (.iconst 1, 1) := by decide +kernel
theorem dL_shows_16 : decode cL_shows 16 = .ok (.ireturn, 1) := by decide +kernel
theorem dL_shows_17 : decode cL_shows 17 = .ok (.iconst 0, 1) := by decide +kernel
theorem dL_shows_18 : decode cL_shows 18 = .ok (.ireturn, 1) := by decide +kernel
theorem dL_ofHand_0 : decode cL_ofHand 0 = .ok (.aload_n 3, 1) := by decide +kernel
theorem dL_ofHand_1 : decode cL_ofHand 1 = .ok (.iconst 0, 1) := by decide +kernel
theorem dL_ofHand_2 : decode cL_ofHand 2 = .ok (.aload_n 0, 1) := by decide +kernel
theorem dL_ofHand_3 : decode cL_ofHand 3 = .ok (.iload_n 1, 1) := by decide +kernel
theorem dL_ofHand_4 : decode cL_ofHand 4 = .ok (.iload_n 2, 1) := by decide +kernel
theorem dL_ofHand_5 : decode cL_ofHand 5 = .ok (.invokevirtual 63, 3) := by decide +kernel
theorem dL_ofHand_8 : decode cL_ofHand 8 = .ok (.i2l, 1) := by decide +kernel
theorem dL_ofHand_9 : decode cL_ofHand 9 = .ok (.lastore, 1) := by decide +kernel
theorem dL_ofHand_10 : decode cL_ofHand 10 = .ok (.goto 11, 3) := by decide +kernel
theorem dL_ofHand_13 : decode cL_ofHand 13 = .ok (.astore 4, 2) := by decide +kernel
theorem dL_ofHand_15 : decode cL_ofHand 15 = .ok (.iconst 1, 1) := by decide +kernel
theorem dL_ofHand_16 : decode cL_ofHand 16 = .ok (.ireturn, 1) := by decide +kernel
theorem dL_ofHand_17 : decode cL_ofHand 17 = .ok (.astore 4, 2) := by decide +kernel
theorem dL_ofHand_19 : decode cL_ofHand 19 = .ok (.iconst 2, 1) := by decide +kernel
theorem dL_ofHand_20 : decode cL_ofHand 20 = .ok (.ireturn, 1) := by decide +kernel
theorem dL_ofHand_21 : decode cL_ofHand 21 = .ok (.iconst 0, 1) := by decide +kernel
theorem dL_ofHand_22 : decode cL_ofHand 22 = .ok (.ireturn, 1) := by decide +kernel
theorem dL_ofLayer_0 : decode cL_ofLayer 0 = .ok (.aload_n 3, 1) := by decide +kernel
theorem dL_ofLayer_1 : decode cL_ofLayer 1 = .ok (.iconst 0, 1) := by decide +kernel
theorem dL_ofLayer_2 : decode cL_ofLayer 2 = .ok (.aload_n 0, 1) := by decide +kernel
theorem dL_ofLayer_3 : decode cL_ofLayer 3 = .ok (.iload_n 1, 1) := by decide +kernel
theorem dL_ofLayer_4 : decode cL_ofLayer 4 = .ok (.iload_n 2, 1) := by decide +kernel
theorem dL_ofLayer_5 : decode cL_ofLayer 5 = .ok (.invokevirtual 66, 3) := by decide +kernel
theorem dL_ofLayer_8 : decode cL_ofLayer 8 = .ok (.i2l, 1) := by decide +kernel
theorem dL_ofLayer_9 : decode cL_ofLayer 9 = .ok (.lastore, 1) := by decide +kernel
theorem dL_ofLayer_10 : decode cL_ofLayer 10 = .ok (.goto 11, 3) := by decide +kernel
theorem dL_ofLayer_13 : decode cL_ofLayer 13 = .ok (.astore 4, 2) := by decide +kernel
theorem dL_ofLayer_15 : decode cL_ofLayer 15 = .ok (.iconst 1, 1) := by decide +kernel
theorem dL_ofLayer_16 : decode cL_ofLayer 16 = .ok (.ireturn, 1) := by decide +kernel
theorem dL_ofLayer_17 : decode cL_ofLayer 17 = .ok (.astore 4, 2) := by decide +kernel
theorem dL_ofLayer_19 : decode cL_ofLayer 19 = .ok (.iconst 2, 1) := by decide +kernel
theorem dL_ofLayer_20 : decode cL_ofLayer 20 = .ok (.ireturn, 1) := by decide +kernel
theorem dL_ofLayer_21 : decode cL_ofLayer 21 = .ok (.iconst 0, 1) := by decide +kernel
theorem dL_ofLayer_22 : decode cL_ofLayer 22 = .ok (.ireturn, 1) := by decide +kernel
theorem dL_wrongs_0 : decode cL_wrongs 0 = .ok (.aload_n 3, 1) := by decide +kernel
theorem dL_wrongs_1 : decode cL_wrongs 1 = .ok (.iconst 0, 1) := by decide +kernel
theorem dL_wrongs_2 : decode cL_wrongs 2 = .ok (.aload_n 0, 1) := by decide +kernel
theorem dL_wrongs_3 : decode cL_wrongs 3 = .ok (.iload_n 1, 1) := by decide +kernel
theorem dL_wrongs_4 : decode cL_wrongs 4 = .ok (.iload_n 2, 1) := by decide +kernel
theorem dL_wrongs_5 : decode cL_wrongs 5 = .ok (.invokevirtual 69, 3) := by decide +kernel
theorem dL_wrongs_8 : decode cL_wrongs 8 = .ok (.i2l, 1) := by decide +kernel
theorem dL_wrongs_9 : decode cL_wrongs 9 = .ok (.lastore, 1) := by decide +kernel
theorem dL_wrongs_10 : decode cL_wrongs 10 = .ok (.goto 7, 3) := by decide +kernel
theorem dL_wrongs_13 : decode cL_wrongs 13 = .ok (.astore 4, 2) := by decide +kernel
theorem dL_wrongs_15 : decode cL_wrongs 15 = .ok (.iconst 1, 1) := by decide +kernel
theorem dL_wrongs_16 : decode cL_wrongs 16 = .ok (.ireturn, 1) := by decide +kernel
theorem dL_wrongs_17 : decode cL_wrongs 17 = .ok (.iconst 0, 1) := by decide +kernel
theorem dL_wrongs_18 : decode cL_wrongs 18 = .ok (.ireturn, 1) := by decide +kernel
theorem dL_likeness_0 : decode cL_likeness 0 = .ok (.aload_n 3, 1) := by decide +kernel
theorem dL_likeness_1 : decode cL_likeness 1 = .ok (.iconst 0, 1) := by decide +kernel
theorem dL_likeness_2 : decode cL_likeness 2 = .ok (.aload_n 0, 1) := by decide +kernel
theorem dL_likeness_3 : decode cL_likeness 3 = .ok (.iload_n 1, 1) := by decide +kernel
theorem dL_likeness_4 : decode cL_likeness 4 = .ok (.iload_n 2, 1) := by decide +kernel
theorem dL_likeness_5 : decode cL_likeness 5 = .ok (.invokevirtual 72, 3) := by decide +kernel
theorem dL_likeness_8 : decode cL_likeness 8 = .ok (.i2l, 1) := by decide +kernel
theorem dL_likeness_9 : decode cL_likeness 9 = .ok (.lastore, 1) := by decide +kernel
theorem dL_likeness_10 : decode cL_likeness 10 = .ok (.goto 7, 3) := by decide +kernel
theorem dL_likeness_13 : decode cL_likeness 13 = .ok (.astore 4, 2) := by decide +kernel
theorem dL_likeness_15 : decode cL_likeness 15 = .ok (.iconst 1, 1) := by decide +kernel
theorem dL_likeness_16 : decode cL_likeness 16 = .ok (.ireturn, 1) := by decide +kernel
theorem dL_likeness_17 : decode cL_likeness 17 = .ok (.iconst 0, 1) := by decide +kernel
theorem dL_likeness_18 : decode cL_likeness 18 = .ok (.ireturn, 1) := by decide +kernel
theorem dL_many_0 : decode cL_many 0 = .ok (.aload_n 2, 1) := by decide +kernel
theorem dL_many_1 : decode cL_many 1 = .ok (.iconst 0, 1) := by decide +kernel
theorem dL_many_2 : decode cL_many 2 = .ok (.aload_n 0, 1) := by decide +kernel
theorem dL_many_3 : decode cL_many 3 = .ok (.iload_n 1, 1) := by decide +kernel
theorem dL_many_4 : decode cL_many 4 = .ok (.invokevirtual 75, 3) := by decide +kernel
theorem dL_many_7 : decode cL_many 7 = .ok (.i2l, 1) := by decide +kernel
theorem dL_many_8 : decode cL_many 8 = .ok (.lastore, 1) := by decide +kernel
theorem dL_many_9 : decode cL_many 9 = .ok (.goto 6, 3) := by decide +kernel
theorem dL_many_12 : decode cL_many 12 = .ok (.astore_n 3, 1) := by decide +kernel
theorem dL_many_13 : decode cL_many 13 = .ok (.iconst 1, 1) := by decide +kernel
theorem dL_many_14 : decode cL_many 14 = .ok (.ireturn, 1) := by decide +kernel
theorem dL_many_15 : decode cL_many 15 = .ok (.iconst 0, 1) := by decide +kernel
theorem dL_many_16 : decode cL_many 16 = .ok (.ireturn, 1) := by decide +kernel
theorem dL_bestFrom_0 : decode cL_bestFrom 0 = .ok (.aload 5, 2) := by decide +kernel
theorem dL_bestFrom_2 : decode cL_bestFrom 2 = .ok (.iconst 0, 1) := by decide +kernel
theorem dL_bestFrom_3 : decode cL_bestFrom 3 = .ok (.aload_n 0, 1) := by decide +kernel
theorem dL_bestFrom_4 : decode cL_bestFrom 4 = .ok (.iload_n 1, 1) := by decide +kernel
theorem dL_bestFrom_5 : decode cL_bestFrom 5 = .ok (.iload_n 2, 1) := by decide +kernel
theorem dL_bestFrom_6 : decode cL_bestFrom 6 = .ok (.iload_n 3, 1) := by decide +kernel
theorem dL_bestFrom_7 : decode cL_bestFrom 7 = .ok (.iload 4, 2) := by decide +kernel
theorem dL_bestFrom_9 : decode cL_bestFrom 9 = .ok (.invokevirtual 78, 3) := by decide +kernel
theorem dL_bestFrom_12 : decode cL_bestFrom 12 = .ok (.i2l, 1) := by decide +kernel
theorem dL_bestFrom_13 : decode cL_bestFrom 13 = .ok (.lastore, 1) := by decide +kernel
theorem dL_bestFrom_14 : decode cL_bestFrom 14 = .ok (.goto 11, 3) := by decide +kernel
theorem dL_bestFrom_17 : decode cL_bestFrom 17 = .ok (.astore 6, 2) := by decide +kernel
theorem dL_bestFrom_19 : decode cL_bestFrom 19 = .ok (.iconst 1, 1) := by decide +kernel
theorem dL_bestFrom_20 : decode cL_bestFrom 20 = .ok (.ireturn, 1) := by decide +kernel
theorem dL_bestFrom_21 : decode cL_bestFrom 21 = .ok (.astore 6, 2) := by decide +kernel
theorem dL_bestFrom_23 : decode cL_bestFrom 23 = .ok (.iconst 2, 1) := by decide +kernel
theorem dL_bestFrom_24 : decode cL_bestFrom 24 = .ok (.ireturn, 1) := by decide +kernel
theorem dL_bestFrom_25 : decode cL_bestFrom 25 = .ok (.iconst 0, 1) := by decide +kernel
theorem dL_bestFrom_26 : decode cL_bestFrom 26 = .ok (.ireturn, 1) := by decide +kernel
theorem dL_wouldWrong_0 : decode cL_wouldWrong 0 = .ok (.aload 6, 2) := by decide +kernel
theorem dL_wouldWrong_2 : decode cL_wouldWrong 2 = .ok (.iconst 0, 1) := by decide +kernel
theorem dL_wouldWrong_3 : decode cL_wouldWrong 3 = .ok (.aload_n 0, 1) := by decide +kernel
theorem dL_wouldWrong_4 : decode cL_wouldWrong 4 = .ok (.iload_n 1, 1) := by decide +kernel
theorem dL_wouldWrong_5 : decode cL_wouldWrong 5 = .ok (.iload_n 2, 1) := by decide +kernel
theorem dL_wouldWrong_6 : decode cL_wouldWrong 6 = .ok (.iload_n 3, 1) := by decide +kernel
theorem dL_wouldWrong_7 : decode cL_wouldWrong 7 = .ok (.iload 4, 2) := by decide +kernel
theorem dL_wouldWrong_9 : decode cL_wouldWrong 9 = .ok (.iload 5, 2) := by decide +kernel
theorem dL_wouldWrong_11 : decode cL_wouldWrong 11 = .ok (.invokevirtual 81, 3) := by decide +kernel
theorem dL_wouldWrong_14 : decode cL_wouldWrong 14 = .ok (.i2l, 1) := by decide +kernel
theorem dL_wouldWrong_15 : decode cL_wouldWrong 15 = .ok (.lastore, 1) := by decide +kernel
theorem dL_wouldWrong_16 : decode cL_wouldWrong 16 = .ok (.goto 11, 3) := by decide +kernel
theorem dL_wouldWrong_19 : decode cL_wouldWrong 19 = .ok (.astore 7, 2) := by decide +kernel
theorem dL_wouldWrong_21 : decode cL_wouldWrong 21 = .ok (.iconst 1, 1) := by decide +kernel
theorem dL_wouldWrong_22 : decode cL_wouldWrong 22 = .ok (.ireturn, 1) := by decide +kernel
theorem dL_wouldWrong_23 : decode cL_wouldWrong 23 = .ok (.astore 7, 2) := by decide +kernel
theorem dL_wouldWrong_25 : decode cL_wouldWrong 25 = .ok (.iconst 2, 1) := by decide +kernel
theorem dL_wouldWrong_26 : decode cL_wouldWrong 26 = .ok (.ireturn, 1) := by decide +kernel
theorem dL_wouldWrong_27 : decode cL_wouldWrong 27 = .ok (.iconst 0, 1) := by decide +kernel
theorem dL_wouldWrong_28 : decode cL_wouldWrong 28 = .ok (.ireturn, 1) := by decide +kernel
theorem dL_wouldFame_0 : decode cL_wouldFame 0 = .ok (.aload_n 3, 1) := by decide +kernel
theorem dL_wouldFame_1 : decode cL_wouldFame 1 = .ok (.iconst 0, 1) := by decide +kernel
theorem dL_wouldFame_2 : decode cL_wouldFame 2 = .ok (.aload_n 0, 1) := by decide +kernel
theorem dL_wouldFame_3 : decode cL_wouldFame 3 = .ok (.iload_n 1, 1) := by decide +kernel
theorem dL_wouldFame_4 : decode cL_wouldFame 4 = .ok (.iload_n 2, 1) := by decide +kernel
theorem dL_wouldFame_5 : decode cL_wouldFame 5 = .ok (.invokevirtual 85, 3) := by decide +kernel
theorem dL_wouldFame_8 : decode cL_wouldFame 8 = .ok (.i2l, 1) := by decide +kernel
theorem dL_wouldFame_9 : decode cL_wouldFame 9 = .ok (.lastore, 1) := by decide +kernel
theorem dL_wouldFame_10 : decode cL_wouldFame 10 = .ok (.goto 11, 3) := by decide +kernel
theorem dL_wouldFame_13 : decode cL_wouldFame 13 = .ok (.astore 4, 2) := by decide +kernel
theorem dL_wouldFame_15 : decode cL_wouldFame 15 = .ok (.iconst 1, 1) := by decide +kernel
theorem dL_wouldFame_16 : decode cL_wouldFame 16 = .ok (.ireturn, 1) := by decide +kernel
theorem dL_wouldFame_17 : decode cL_wouldFame 17 = .ok (.astore 4, 2) := by decide +kernel
theorem dL_wouldFame_19 : decode cL_wouldFame 19 = .ok (.iconst 2, 1) := by decide +kernel
theorem dL_wouldFame_20 : decode cL_wouldFame 20 = .ok (.ireturn, 1) := by decide +kernel
theorem dL_wouldFame_21 : decode cL_wouldFame 21 = .ok (.iconst 0, 1) := by decide +kernel
theorem dL_wouldFame_22 : decode cL_wouldFame 22 = .ok (.ireturn, 1) := by decide +kernel
theorem dL_law_0 : decode cL_law 0 = .ok (.new 8, 3) := by decide +kernel
theorem dL_law_3 : decode cL_law 3 = .ok (.dup, 1) := by decide +kernel
theorem dL_law_4 : decode cL_law 4 = .ok (.invokespecial 88, 3) := by decide +kernel
theorem dL_law_7 : decode cL_law 7 = .ok (.astore_n 1, 1) := by decide +kernel
theorem dL_law_8 : decode cL_law 8 = .ok (.new 89, 3) := by decide +kernel
theorem dL_law_11 : decode cL_law 11 = .ok (.dup, 1) := by decide +kernel
theorem dL_law_12 : decode cL_law 12 = .ok (.invokespecial 91, 3) := by decide +kernel
theorem dL_law_15 : decode cL_law 15 = .ok (.astore_n 2, 1) := by decide +kernel
theorem dL_law_16 : decode cL_law 16 = .ok (.iconst 1, 1) := by decide +kernel
theorem dL_law_17 : decode cL_law 17 = .ok (.newarray .long, 2) := by decide +kernel
theorem dL_law_19 : decode cL_law 19 = .ok (.astore_n 3, 1) := by decide +kernel
theorem dL_law_20 : decode cL_law 20 = .ok (.iconst 0, 1) := by decide +kernel
theorem dL_law_21 : decode cL_law 21 = .ok (.istore 4, 2) := by decide +kernel
theorem dL_law_23 : decode cL_law 23 = .ok (.iload 4, 2) := by decide +kernel
theorem dL_law_25 : decode cL_law 25 = .ok (.aload_n 0, 1) := by decide +kernel
theorem dL_law_26 : decode cL_law 26 = .ok (.arraylength, 1) := by decide +kernel
theorem dL_law_27 : decode cL_law 27 = .ok (.bipush 7, 2) := by decide +kernel
theorem dL_law_29 : decode cL_law 29 = .ok (.isub, 1) := by decide +kernel
theorem dL_law_30 : decode cL_law 30 = .ok (.if_icmp .gt 1796, 3) := by decide +kernel
theorem dL_law_33 : decode cL_law 33 = .ok (.aload_n 0, 1) := by decide +kernel
theorem dL_law_34 : decode cL_law 34 = .ok (.iload 4, 2) := by decide +kernel
theorem dL_law_36 : decode cL_law 36 = .ok (.iaload, 1) := by decide +kernel
theorem dL_law_37 : decode cL_law 37 = .ok (.bipush 31, 2) := by decide +kernel
theorem dL_law_39 : decode cL_law 39 = .ok (.iand, 1) := by decide +kernel
theorem dL_law_40 : decode cL_law 40 = .ok (.tableswitch 1780 0 24 #[116, 208, 300, 380, 460, 578, 634, 690, 746, 809, 872, 928, 984, 1052, 1120, 1188, 1256, 1324, 1392, 1448, 1489, 1581, 1685, 1698, 1766], 116) := by decide +kernel
theorem dL_law_156 : decode cL_law 156 = .ok (.aload_n 1, 1) := by decide +kernel
theorem dL_law_157 : decode cL_law 157 = .ok (.aload_n 0, 1) := by decide +kernel
theorem dL_law_158 : decode cL_law 158 = .ok (.iload 4, 2) := by decide +kernel
theorem dL_law_160 : decode cL_law 160 = .ok (.iconst 1, 1) := by decide +kernel
theorem dL_law_161 : decode cL_law 161 = .ok (.iadd, 1) := by decide +kernel
theorem dL_law_162 : decode cL_law 162 = .ok (.iaload, 1) := by decide +kernel
theorem dL_law_163 : decode cL_law 163 = .ok (.aload_n 0, 1) := by decide +kernel
theorem dL_law_164 : decode cL_law 164 = .ok (.iload 4, 2) := by decide +kernel
theorem dL_law_166 : decode cL_law 166 = .ok (.iconst 2, 1) := by decide +kernel
theorem dL_law_167 : decode cL_law 167 = .ok (.iadd, 1) := by decide +kernel
theorem dL_law_168 : decode cL_law 168 = .ok (.iaload, 1) := by decide +kernel
theorem dL_law_169 : decode cL_law 169 = .ok (.aload_n 0, 1) := by decide +kernel
theorem dL_law_170 : decode cL_law 170 = .ok (.iload 4, 2) := by decide +kernel
theorem dL_law_172 : decode cL_law 172 = .ok (.iconst 3, 1) := by decide +kernel
theorem dL_law_173 : decode cL_law 173 = .ok (.iadd, 1) := by decide +kernel
theorem dL_law_174 : decode cL_law 174 = .ok (.iaload, 1) := by decide +kernel
theorem dL_law_175 : decode cL_law 175 = .ok (.aload_n 0, 1) := by decide +kernel
theorem dL_law_176 : decode cL_law 176 = .ok (.iload 4, 2) := by decide +kernel
theorem dL_law_178 : decode cL_law 178 = .ok (.iconst 4, 1) := by decide +kernel
theorem dL_law_179 : decode cL_law 179 = .ok (.iadd, 1) := by decide +kernel
theorem dL_law_180 : decode cL_law 180 = .ok (.iaload, 1) := by decide +kernel
theorem dL_law_181 : decode cL_law 181 = .ok (.aload_n 3, 1) := by decide +kernel
theorem dL_law_182 : decode cL_law 182 = .ok (.invokestatic 92, 3) := by decide +kernel
theorem dL_law_185 : decode cL_law 185 = .ok (.istore 5, 2) := by decide +kernel
theorem dL_law_187 : decode cL_law 187 = .ok (.aload_n 2, 1) := by decide +kernel
theorem dL_law_188 : decode cL_law 188 = .ok (.aload_n 0, 1) := by decide +kernel
theorem dL_law_189 : decode cL_law 189 = .ok (.iload 4, 2) := by decide +kernel
theorem dL_law_191 : decode cL_law 191 = .ok (.iconst 1, 1) := by decide +kernel
theorem dL_law_192 : decode cL_law 192 = .ok (.iadd, 1) := by decide +kernel
theorem dL_law_193 : decode cL_law 193 = .ok (.iaload, 1) := by decide +kernel
theorem dL_law_194 : decode cL_law 194 = .ok (.aload_n 0, 1) := by decide +kernel
theorem dL_law_195 : decode cL_law 195 = .ok (.iload 4, 2) := by decide +kernel
theorem dL_law_197 : decode cL_law 197 = .ok (.iconst 2, 1) := by decide +kernel
theorem dL_law_198 : decode cL_law 198 = .ok (.iadd, 1) := by decide +kernel
theorem dL_law_199 : decode cL_law 199 = .ok (.iaload, 1) := by decide +kernel
theorem dL_law_200 : decode cL_law 200 = .ok (.aload_n 0, 1) := by decide +kernel
theorem dL_law_201 : decode cL_law 201 = .ok (.iload 4, 2) := by decide +kernel
theorem dL_law_203 : decode cL_law 203 = .ok (.iconst 3, 1) := by decide +kernel
theorem dL_law_204 : decode cL_law 204 = .ok (.iadd, 1) := by decide +kernel
theorem dL_law_205 : decode cL_law 205 = .ok (.iaload, 1) := by decide +kernel
theorem dL_law_206 : decode cL_law 206 = .ok (.aload_n 0, 1) := by decide +kernel
theorem dL_law_207 : decode cL_law 207 = .ok (.iload 4, 2) := by decide +kernel
theorem dL_law_209 : decode cL_law 209 = .ok (.iconst 4, 1) := by decide +kernel
theorem dL_law_210 : decode cL_law 210 = .ok (.iadd, 1) := by decide +kernel
theorem dL_law_211 : decode cL_law 211 = .ok (.iaload, 1) := by decide +kernel
theorem dL_law_212 : decode cL_law 212 = .ok (.invokevirtual 97, 3) := by decide +kernel
theorem dL_law_215 : decode cL_law 215 = .ok (.istore 6, 2) := by decide +kernel
theorem dL_law_217 : decode cL_law 217 = .ok (.aload_n 2, 1) := by decide +kernel
theorem dL_law_218 : decode cL_law 218 = .ok (.invokevirtual 98, 3) := by decide +kernel
theorem dL_law_221 : decode cL_law 221 = .ok (.iload 5, 2) := by decide +kernel
theorem dL_law_223 : decode cL_law 223 = .ok (.if_icmp .eq 5, 3) := by decide +kernel
theorem dL_law_226 : decode cL_law 226 = .ok (.iconst 0, 1) := by decide +kernel
theorem dL_law_227 : decode cL_law 227 = .ok (.ireturn, 1) := by decide +kernel
theorem dL_law_228 : decode cL_law 228 = .ok (.iload 5, 2) := by decide +kernel
theorem dL_law_230 : decode cL_law 230 = .ok (.ifCond .ne 15, 3) := by decide +kernel
theorem dL_law_233 : decode cL_law 233 = .ok (.aload_n 3, 1) := by decide +kernel
theorem dL_law_234 : decode cL_law 234 = .ok (.iconst 0, 1) := by decide +kernel
theorem dL_law_235 : decode cL_law 235 = .ok (.laload, 1) := by decide +kernel
theorem dL_law_236 : decode cL_law 236 = .ok (.iload 6, 2) := by decide +kernel
theorem dL_law_238 : decode cL_law 238 = .ok (.i2l, 1) := by decide +kernel
theorem dL_law_239 : decode cL_law 239 = .ok (.lcmp, 1) := by decide +kernel
theorem dL_law_240 : decode cL_law 240 = .ok (.ifCond .eq 5, 3) := by decide +kernel
theorem dL_law_243 : decode cL_law 243 = .ok (.iconst 0, 1) := by decide +kernel
theorem dL_law_244 : decode cL_law 244 = .ok (.ireturn, 1) := by decide +kernel
theorem dL_law_245 : decode cL_law 245 = .ok (.goto 1575, 3) := by decide +kernel
theorem dL_law_248 : decode cL_law 248 = .ok (.aload_n 1, 1) := by decide +kernel
theorem dL_law_249 : decode cL_law 249 = .ok (.aload_n 0, 1) := by decide +kernel
theorem dL_law_250 : decode cL_law 250 = .ok (.iload 4, 2) := by decide +kernel
theorem dL_law_252 : decode cL_law 252 = .ok (.iconst 1, 1) := by decide +kernel
theorem dL_law_253 : decode cL_law 253 = .ok (.iadd, 1) := by decide +kernel
theorem dL_law_254 : decode cL_law 254 = .ok (.iaload, 1) := by decide +kernel
theorem dL_law_255 : decode cL_law 255 = .ok (.aload_n 0, 1) := by decide +kernel
theorem dL_law_256 : decode cL_law 256 = .ok (.iload 4, 2) := by decide +kernel
theorem dL_law_258 : decode cL_law 258 = .ok (.iconst 2, 1) := by decide +kernel
theorem dL_law_259 : decode cL_law 259 = .ok (.iadd, 1) := by decide +kernel
theorem dL_law_260 : decode cL_law 260 = .ok (.iaload, 1) := by decide +kernel
theorem dL_law_261 : decode cL_law 261 = .ok (.aload_n 0, 1) := by decide +kernel
theorem dL_law_262 : decode cL_law 262 = .ok (.iload 4, 2) := by decide +kernel
theorem dL_law_264 : decode cL_law 264 = .ok (.iconst 3, 1) := by decide +kernel
theorem dL_law_265 : decode cL_law 265 = .ok (.iadd, 1) := by decide +kernel
theorem dL_law_266 : decode cL_law 266 = .ok (.iaload, 1) := by decide +kernel
theorem dL_law_267 : decode cL_law 267 = .ok (.aload_n 0, 1) := by decide +kernel
theorem dL_law_268 : decode cL_law 268 = .ok (.iload 4, 2) := by decide +kernel
theorem dL_law_270 : decode cL_law 270 = .ok (.iconst 4, 1) := by decide +kernel
theorem dL_law_271 : decode cL_law 271 = .ok (.iadd, 1) := by decide +kernel
theorem dL_law_272 : decode cL_law 272 = .ok (.iaload, 1) := by decide +kernel
theorem dL_law_273 : decode cL_law 273 = .ok (.aload_n 3, 1) := by decide +kernel
theorem dL_law_274 : decode cL_law 274 = .ok (.invokestatic 102, 3) := by decide +kernel
theorem dL_law_277 : decode cL_law 277 = .ok (.istore 5, 2) := by decide +kernel
theorem dL_law_279 : decode cL_law 279 = .ok (.aload_n 2, 1) := by decide +kernel
theorem dL_law_280 : decode cL_law 280 = .ok (.aload_n 0, 1) := by decide +kernel
theorem dL_law_281 : decode cL_law 281 = .ok (.iload 4, 2) := by decide +kernel
theorem dL_law_283 : decode cL_law 283 = .ok (.iconst 1, 1) := by decide +kernel
theorem dL_law_284 : decode cL_law 284 = .ok (.iadd, 1) := by decide +kernel
theorem dL_law_285 : decode cL_law 285 = .ok (.iaload, 1) := by decide +kernel
theorem dL_law_286 : decode cL_law 286 = .ok (.aload_n 0, 1) := by decide +kernel
theorem dL_law_287 : decode cL_law 287 = .ok (.iload 4, 2) := by decide +kernel
theorem dL_law_289 : decode cL_law 289 = .ok (.iconst 2, 1) := by decide +kernel
theorem dL_law_290 : decode cL_law 290 = .ok (.iadd, 1) := by decide +kernel
theorem dL_law_291 : decode cL_law 291 = .ok (.iaload, 1) := by decide +kernel
theorem dL_law_292 : decode cL_law 292 = .ok (.aload_n 0, 1) := by decide +kernel
theorem dL_law_293 : decode cL_law 293 = .ok (.iload 4, 2) := by decide +kernel
theorem dL_law_295 : decode cL_law 295 = .ok (.iconst 3, 1) := by decide +kernel
theorem dL_law_296 : decode cL_law 296 = .ok (.iadd, 1) := by decide +kernel
theorem dL_law_297 : decode cL_law 297 = .ok (.iaload, 1) := by decide +kernel
theorem dL_law_298 : decode cL_law 298 = .ok (.aload_n 0, 1) := by decide +kernel
theorem dL_law_299 : decode cL_law 299 = .ok (.iload 4, 2) := by decide +kernel
theorem dL_law_301 : decode cL_law 301 = .ok (.iconst 4, 1) := by decide +kernel
theorem dL_law_302 : decode cL_law 302 = .ok (.iadd, 1) := by decide +kernel
theorem dL_law_303 : decode cL_law 303 = .ok (.iaload, 1) := by decide +kernel
theorem dL_law_304 : decode cL_law 304 = .ok (.invokevirtual 104, 3) := by decide +kernel
theorem dL_law_307 : decode cL_law 307 = .ok (.istore 6, 2) := by decide +kernel
theorem dL_law_309 : decode cL_law 309 = .ok (.aload_n 2, 1) := by decide +kernel
theorem dL_law_310 : decode cL_law 310 = .ok (.invokevirtual 98, 3) := by decide +kernel
theorem dL_law_313 : decode cL_law 313 = .ok (.iload 5, 2) := by decide +kernel
theorem dL_law_315 : decode cL_law 315 = .ok (.if_icmp .eq 5, 3) := by decide +kernel
theorem dL_law_318 : decode cL_law 318 = .ok (.iconst 0, 1) := by decide +kernel
theorem dL_law_319 : decode cL_law 319 = .ok (.ireturn, 1) := by decide +kernel
theorem dL_law_320 : decode cL_law 320 = .ok (.iload 5, 2) := by decide +kernel
theorem dL_law_322 : decode cL_law 322 = .ok (.ifCond .ne 15, 3) := by decide +kernel
theorem dL_law_325 : decode cL_law 325 = .ok (.aload_n 3, 1) := by decide +kernel
theorem dL_law_326 : decode cL_law 326 = .ok (.iconst 0, 1) := by decide +kernel
theorem dL_law_327 : decode cL_law 327 = .ok (.laload, 1) := by decide +kernel
theorem dL_law_328 : decode cL_law 328 = .ok (.iload 6, 2) := by decide +kernel
theorem dL_law_330 : decode cL_law 330 = .ok (.i2l, 1) := by decide +kernel
theorem dL_law_331 : decode cL_law 331 = .ok (.lcmp, 1) := by decide +kernel
theorem dL_law_332 : decode cL_law 332 = .ok (.ifCond .eq 5, 3) := by decide +kernel
theorem dL_law_335 : decode cL_law 335 = .ok (.iconst 0, 1) := by decide +kernel
theorem dL_law_336 : decode cL_law 336 = .ok (.ireturn, 1) := by decide +kernel
theorem dL_law_337 : decode cL_law 337 = .ok (.goto 1483, 3) := by decide +kernel
theorem dL_law_340 : decode cL_law 340 = .ok (.aload_n 1, 1) := by decide +kernel
theorem dL_law_341 : decode cL_law 341 = .ok (.aload_n 0, 1) := by decide +kernel
theorem dL_law_342 : decode cL_law 342 = .ok (.iload 4, 2) := by decide +kernel
theorem dL_law_344 : decode cL_law 344 = .ok (.iconst 1, 1) := by decide +kernel
theorem dL_law_345 : decode cL_law 345 = .ok (.iadd, 1) := by decide +kernel
theorem dL_law_346 : decode cL_law 346 = .ok (.iaload, 1) := by decide +kernel
theorem dL_law_347 : decode cL_law 347 = .ok (.aload_n 0, 1) := by decide +kernel
theorem dL_law_348 : decode cL_law 348 = .ok (.iload 4, 2) := by decide +kernel
theorem dL_law_350 : decode cL_law 350 = .ok (.iconst 2, 1) := by decide +kernel
theorem dL_law_351 : decode cL_law 351 = .ok (.iadd, 1) := by decide +kernel
theorem dL_law_352 : decode cL_law 352 = .ok (.iaload, 1) := by decide +kernel
theorem dL_law_353 : decode cL_law 353 = .ok (.aload_n 0, 1) := by decide +kernel
theorem dL_law_354 : decode cL_law 354 = .ok (.iload 4, 2) := by decide +kernel
theorem dL_law_356 : decode cL_law 356 = .ok (.iconst 3, 1) := by decide +kernel
theorem dL_law_357 : decode cL_law 357 = .ok (.iadd, 1) := by decide +kernel
theorem dL_law_358 : decode cL_law 358 = .ok (.iaload, 1) := by decide +kernel
theorem dL_law_359 : decode cL_law 359 = .ok (.aload_n 3, 1) := by decide +kernel
theorem dL_law_360 : decode cL_law 360 = .ok (.invokestatic 105, 3) := by decide +kernel
theorem dL_law_363 : decode cL_law 363 = .ok (.istore 5, 2) := by decide +kernel
theorem dL_law_365 : decode cL_law 365 = .ok (.aload_n 2, 1) := by decide +kernel
theorem dL_law_366 : decode cL_law 366 = .ok (.aload_n 0, 1) := by decide +kernel
theorem dL_law_367 : decode cL_law 367 = .ok (.iload 4, 2) := by decide +kernel
theorem dL_law_369 : decode cL_law 369 = .ok (.iconst 1, 1) := by decide +kernel
theorem dL_law_370 : decode cL_law 370 = .ok (.iadd, 1) := by decide +kernel
theorem dL_law_371 : decode cL_law 371 = .ok (.iaload, 1) := by decide +kernel
theorem dL_law_372 : decode cL_law 372 = .ok (.aload_n 0, 1) := by decide +kernel
theorem dL_law_373 : decode cL_law 373 = .ok (.iload 4, 2) := by decide +kernel
theorem dL_law_375 : decode cL_law 375 = .ok (.iconst 2, 1) := by decide +kernel
theorem dL_law_376 : decode cL_law 376 = .ok (.iadd, 1) := by decide +kernel
theorem dL_law_377 : decode cL_law 377 = .ok (.iaload, 1) := by decide +kernel
theorem dL_law_378 : decode cL_law 378 = .ok (.aload_n 0, 1) := by decide +kernel
theorem dL_law_379 : decode cL_law 379 = .ok (.iload 4, 2) := by decide +kernel
theorem dL_law_381 : decode cL_law 381 = .ok (.iconst 3, 1) := by decide +kernel
theorem dL_law_382 : decode cL_law 382 = .ok (.iadd, 1) := by decide +kernel
theorem dL_law_383 : decode cL_law 383 = .ok (.iaload, 1) := by decide +kernel
theorem dL_law_384 : decode cL_law 384 = .ok (.invokevirtual 108, 3) := by decide +kernel
theorem dL_law_387 : decode cL_law 387 = .ok (.istore 6, 2) := by decide +kernel
theorem dL_law_389 : decode cL_law 389 = .ok (.aload_n 2, 1) := by decide +kernel
theorem dL_law_390 : decode cL_law 390 = .ok (.invokevirtual 98, 3) := by decide +kernel
theorem dL_law_393 : decode cL_law 393 = .ok (.iload 5, 2) := by decide +kernel
theorem dL_law_395 : decode cL_law 395 = .ok (.if_icmp .eq 5, 3) := by decide +kernel
theorem dL_law_398 : decode cL_law 398 = .ok (.iconst 0, 1) := by decide +kernel
theorem dL_law_399 : decode cL_law 399 = .ok (.ireturn, 1) := by decide +kernel
theorem dL_law_400 : decode cL_law 400 = .ok (.iload 5, 2) := by decide +kernel
theorem dL_law_402 : decode cL_law 402 = .ok (.ifCond .ne 15, 3) := by decide +kernel
theorem dL_law_405 : decode cL_law 405 = .ok (.aload_n 3, 1) := by decide +kernel
theorem dL_law_406 : decode cL_law 406 = .ok (.iconst 0, 1) := by decide +kernel
theorem dL_law_407 : decode cL_law 407 = .ok (.laload, 1) := by decide +kernel
theorem dL_law_408 : decode cL_law 408 = .ok (.iload 6, 2) := by decide +kernel
theorem dL_law_410 : decode cL_law 410 = .ok (.i2l, 1) := by decide +kernel
theorem dL_law_411 : decode cL_law 411 = .ok (.lcmp, 1) := by decide +kernel
theorem dL_law_412 : decode cL_law 412 = .ok (.ifCond .eq 5, 3) := by decide +kernel
theorem dL_law_415 : decode cL_law 415 = .ok (.iconst 0, 1) := by decide +kernel
theorem dL_law_416 : decode cL_law 416 = .ok (.ireturn, 1) := by decide +kernel
theorem dL_law_417 : decode cL_law 417 = .ok (.goto 1403, 3) := by decide +kernel
theorem dL_law_420 : decode cL_law 420 = .ok (.aload_n 1, 1) := by decide +kernel
theorem dL_law_421 : decode cL_law 421 = .ok (.aload_n 0, 1) := by decide +kernel
theorem dL_law_422 : decode cL_law 422 = .ok (.iload 4, 2) := by decide +kernel
theorem dL_law_424 : decode cL_law 424 = .ok (.iconst 1, 1) := by decide +kernel
theorem dL_law_425 : decode cL_law 425 = .ok (.iadd, 1) := by decide +kernel
theorem dL_law_426 : decode cL_law 426 = .ok (.iaload, 1) := by decide +kernel
theorem dL_law_427 : decode cL_law 427 = .ok (.aload_n 0, 1) := by decide +kernel
theorem dL_law_428 : decode cL_law 428 = .ok (.iload 4, 2) := by decide +kernel
theorem dL_law_430 : decode cL_law 430 = .ok (.iconst 2, 1) := by decide +kernel
theorem dL_law_431 : decode cL_law 431 = .ok (.iadd, 1) := by decide +kernel
theorem dL_law_432 : decode cL_law 432 = .ok (.iaload, 1) := by decide +kernel
theorem dL_law_433 : decode cL_law 433 = .ok (.aload_n 0, 1) := by decide +kernel
theorem dL_law_434 : decode cL_law 434 = .ok (.iload 4, 2) := by decide +kernel
theorem dL_law_436 : decode cL_law 436 = .ok (.iconst 3, 1) := by decide +kernel
theorem dL_law_437 : decode cL_law 437 = .ok (.iadd, 1) := by decide +kernel
theorem dL_law_438 : decode cL_law 438 = .ok (.iaload, 1) := by decide +kernel
theorem dL_law_439 : decode cL_law 439 = .ok (.aload_n 3, 1) := by decide +kernel
theorem dL_law_440 : decode cL_law 440 = .ok (.invokestatic 109, 3) := by decide +kernel
theorem dL_law_443 : decode cL_law 443 = .ok (.istore 5, 2) := by decide +kernel
theorem dL_law_445 : decode cL_law 445 = .ok (.aload_n 2, 1) := by decide +kernel
theorem dL_law_446 : decode cL_law 446 = .ok (.aload_n 0, 1) := by decide +kernel
theorem dL_law_447 : decode cL_law 447 = .ok (.iload 4, 2) := by decide +kernel
theorem dL_law_449 : decode cL_law 449 = .ok (.iconst 1, 1) := by decide +kernel
theorem dL_law_450 : decode cL_law 450 = .ok (.iadd, 1) := by decide +kernel
theorem dL_law_451 : decode cL_law 451 = .ok (.iaload, 1) := by decide +kernel
theorem dL_law_452 : decode cL_law 452 = .ok (.aload_n 0, 1) := by decide +kernel
theorem dL_law_453 : decode cL_law 453 = .ok (.iload 4, 2) := by decide +kernel
theorem dL_law_455 : decode cL_law 455 = .ok (.iconst 2, 1) := by decide +kernel
theorem dL_law_456 : decode cL_law 456 = .ok (.iadd, 1) := by decide +kernel
theorem dL_law_457 : decode cL_law 457 = .ok (.iaload, 1) := by decide +kernel
theorem dL_law_458 : decode cL_law 458 = .ok (.aload_n 0, 1) := by decide +kernel
theorem dL_law_459 : decode cL_law 459 = .ok (.iload 4, 2) := by decide +kernel
theorem dL_law_461 : decode cL_law 461 = .ok (.iconst 3, 1) := by decide +kernel
theorem dL_law_462 : decode cL_law 462 = .ok (.iadd, 1) := by decide +kernel
theorem dL_law_463 : decode cL_law 463 = .ok (.iaload, 1) := by decide +kernel
theorem dL_law_464 : decode cL_law 464 = .ok (.invokevirtual 111, 3) := by decide +kernel
theorem dL_law_467 : decode cL_law 467 = .ok (.istore 6, 2) := by decide +kernel
theorem dL_law_469 : decode cL_law 469 = .ok (.aload_n 2, 1) := by decide +kernel
theorem dL_law_470 : decode cL_law 470 = .ok (.invokevirtual 98, 3) := by decide +kernel
theorem dL_law_473 : decode cL_law 473 = .ok (.iload 5, 2) := by decide +kernel
theorem dL_law_475 : decode cL_law 475 = .ok (.if_icmp .eq 5, 3) := by decide +kernel
theorem dL_law_478 : decode cL_law 478 = .ok (.iconst 0, 1) := by decide +kernel
theorem dL_law_479 : decode cL_law 479 = .ok (.ireturn, 1) := by decide +kernel
theorem dL_law_480 : decode cL_law 480 = .ok (.iload 5, 2) := by decide +kernel
theorem dL_law_482 : decode cL_law 482 = .ok (.ifCond .ne 15, 3) := by decide +kernel
theorem dL_law_485 : decode cL_law 485 = .ok (.aload_n 3, 1) := by decide +kernel
theorem dL_law_486 : decode cL_law 486 = .ok (.iconst 0, 1) := by decide +kernel
theorem dL_law_487 : decode cL_law 487 = .ok (.laload, 1) := by decide +kernel
theorem dL_law_488 : decode cL_law 488 = .ok (.iload 6, 2) := by decide +kernel
theorem dL_law_490 : decode cL_law 490 = .ok (.i2l, 1) := by decide +kernel
theorem dL_law_491 : decode cL_law 491 = .ok (.lcmp, 1) := by decide +kernel
theorem dL_law_492 : decode cL_law 492 = .ok (.ifCond .eq 5, 3) := by decide +kernel
theorem dL_law_495 : decode cL_law 495 = .ok (.iconst 0, 1) := by decide +kernel
theorem dL_law_496 : decode cL_law 496 = .ok (.ireturn, 1) := by decide +kernel
theorem dL_law_497 : decode cL_law 497 = .ok (.goto 1323, 3) := by decide +kernel
theorem dL_law_500 : decode cL_law 500 = .ok (.aload_n 1, 1) := by decide +kernel
theorem dL_law_501 : decode cL_law 501 = .ok (.aload_n 0, 1) := by decide +kernel
theorem dL_law_502 : decode cL_law 502 = .ok (.iload 4, 2) := by decide +kernel
theorem dL_law_504 : decode cL_law 504 = .ok (.iconst 1, 1) := by decide +kernel
theorem dL_law_505 : decode cL_law 505 = .ok (.iadd, 1) := by decide +kernel
theorem dL_law_506 : decode cL_law 506 = .ok (.iaload, 1) := by decide +kernel
theorem dL_law_507 : decode cL_law 507 = .ok (.aload_n 0, 1) := by decide +kernel
theorem dL_law_508 : decode cL_law 508 = .ok (.iload 4, 2) := by decide +kernel
theorem dL_law_510 : decode cL_law 510 = .ok (.iconst 2, 1) := by decide +kernel
theorem dL_law_511 : decode cL_law 511 = .ok (.iadd, 1) := by decide +kernel
theorem dL_law_512 : decode cL_law 512 = .ok (.iaload, 1) := by decide +kernel
theorem dL_law_513 : decode cL_law 513 = .ok (.aload_n 0, 1) := by decide +kernel
theorem dL_law_514 : decode cL_law 514 = .ok (.iload 4, 2) := by decide +kernel
theorem dL_law_516 : decode cL_law 516 = .ok (.iconst 3, 1) := by decide +kernel
theorem dL_law_517 : decode cL_law 517 = .ok (.iadd, 1) := by decide +kernel
theorem dL_law_518 : decode cL_law 518 = .ok (.iaload, 1) := by decide +kernel
theorem dL_law_519 : decode cL_law 519 = .ok (.aload_n 0, 1) := by decide +kernel
theorem dL_law_520 : decode cL_law 520 = .ok (.iload 4, 2) := by decide +kernel
theorem dL_law_522 : decode cL_law 522 = .ok (.iconst 4, 1) := by decide +kernel
theorem dL_law_523 : decode cL_law 523 = .ok (.iadd, 1) := by decide +kernel
theorem dL_law_524 : decode cL_law 524 = .ok (.iaload, 1) := by decide +kernel
theorem dL_law_525 : decode cL_law 525 = .ok (.aload_n 0, 1) := by decide +kernel
theorem dL_law_526 : decode cL_law 526 = .ok (.iload 4, 2) := by decide +kernel
theorem dL_law_528 : decode cL_law 528 = .ok (.iconst 5, 1) := by decide +kernel
theorem dL_law_529 : decode cL_law 529 = .ok (.iadd, 1) := by decide +kernel
theorem dL_law_530 : decode cL_law 530 = .ok (.iaload, 1) := by decide +kernel
theorem dL_law_531 : decode cL_law 531 = .ok (.aload_n 0, 1) := by decide +kernel
theorem dL_law_532 : decode cL_law 532 = .ok (.iload 4, 2) := by decide +kernel
theorem dL_law_534 : decode cL_law 534 = .ok (.bipush 6, 2) := by decide +kernel
theorem dL_law_536 : decode cL_law 536 = .ok (.iadd, 1) := by decide +kernel
theorem dL_law_537 : decode cL_law 537 = .ok (.iaload, 1) := by decide +kernel
theorem dL_law_538 : decode cL_law 538 = .ok (.aload_n 3, 1) := by decide +kernel
theorem dL_law_539 : decode cL_law 539 = .ok (.invokestatic 112, 3) := by decide +kernel
theorem dL_law_542 : decode cL_law 542 = .ok (.istore 5, 2) := by decide +kernel
theorem dL_law_544 : decode cL_law 544 = .ok (.aload_n 2, 1) := by decide +kernel
theorem dL_law_545 : decode cL_law 545 = .ok (.aload_n 0, 1) := by decide +kernel
theorem dL_law_546 : decode cL_law 546 = .ok (.iload 4, 2) := by decide +kernel
theorem dL_law_548 : decode cL_law 548 = .ok (.iconst 1, 1) := by decide +kernel
theorem dL_law_549 : decode cL_law 549 = .ok (.iadd, 1) := by decide +kernel
theorem dL_law_550 : decode cL_law 550 = .ok (.iaload, 1) := by decide +kernel
theorem dL_law_551 : decode cL_law 551 = .ok (.aload_n 0, 1) := by decide +kernel
theorem dL_law_552 : decode cL_law 552 = .ok (.iload 4, 2) := by decide +kernel
theorem dL_law_554 : decode cL_law 554 = .ok (.iconst 2, 1) := by decide +kernel
theorem dL_law_555 : decode cL_law 555 = .ok (.iadd, 1) := by decide +kernel
theorem dL_law_556 : decode cL_law 556 = .ok (.iaload, 1) := by decide +kernel
theorem dL_law_557 : decode cL_law 557 = .ok (.aload_n 0, 1) := by decide +kernel
theorem dL_law_558 : decode cL_law 558 = .ok (.iload 4, 2) := by decide +kernel
theorem dL_law_560 : decode cL_law 560 = .ok (.iconst 3, 1) := by decide +kernel
theorem dL_law_561 : decode cL_law 561 = .ok (.iadd, 1) := by decide +kernel
theorem dL_law_562 : decode cL_law 562 = .ok (.iaload, 1) := by decide +kernel
theorem dL_law_563 : decode cL_law 563 = .ok (.aload_n 0, 1) := by decide +kernel
theorem dL_law_564 : decode cL_law 564 = .ok (.iload 4, 2) := by decide +kernel
theorem dL_law_566 : decode cL_law 566 = .ok (.iconst 4, 1) := by decide +kernel
theorem dL_law_567 : decode cL_law 567 = .ok (.iadd, 1) := by decide +kernel
theorem dL_law_568 : decode cL_law 568 = .ok (.iaload, 1) := by decide +kernel
theorem dL_law_569 : decode cL_law 569 = .ok (.aload_n 0, 1) := by decide +kernel
theorem dL_law_570 : decode cL_law 570 = .ok (.iload 4, 2) := by decide +kernel
theorem dL_law_572 : decode cL_law 572 = .ok (.iconst 5, 1) := by decide +kernel
theorem dL_law_573 : decode cL_law 573 = .ok (.iadd, 1) := by decide +kernel
theorem dL_law_574 : decode cL_law 574 = .ok (.iaload, 1) := by decide +kernel
theorem dL_law_575 : decode cL_law 575 = .ok (.aload_n 0, 1) := by decide +kernel
theorem dL_law_576 : decode cL_law 576 = .ok (.iload 4, 2) := by decide +kernel
theorem dL_law_578 : decode cL_law 578 = .ok (.bipush 6, 2) := by decide +kernel
theorem dL_law_580 : decode cL_law 580 = .ok (.iadd, 1) := by decide +kernel
theorem dL_law_581 : decode cL_law 581 = .ok (.iaload, 1) := by decide +kernel
theorem dL_law_582 : decode cL_law 582 = .ok (.invokevirtual 115, 3) := by decide +kernel
theorem dL_law_585 : decode cL_law 585 = .ok (.istore 6, 2) := by decide +kernel
theorem dL_law_587 : decode cL_law 587 = .ok (.aload_n 2, 1) := by decide +kernel
theorem dL_law_588 : decode cL_law 588 = .ok (.invokevirtual 98, 3) := by decide +kernel
theorem dL_law_591 : decode cL_law 591 = .ok (.iload 5, 2) := by decide +kernel
theorem dL_law_593 : decode cL_law 593 = .ok (.if_icmp .eq 5, 3) := by decide +kernel
theorem dL_law_596 : decode cL_law 596 = .ok (.iconst 0, 1) := by decide +kernel
theorem dL_law_597 : decode cL_law 597 = .ok (.ireturn, 1) := by decide +kernel
theorem dL_law_598 : decode cL_law 598 = .ok (.iload 5, 2) := by decide +kernel
theorem dL_law_600 : decode cL_law 600 = .ok (.ifCond .ne 15, 3) := by decide +kernel
theorem dL_law_603 : decode cL_law 603 = .ok (.aload_n 3, 1) := by decide +kernel
theorem dL_law_604 : decode cL_law 604 = .ok (.iconst 0, 1) := by decide +kernel
theorem dL_law_605 : decode cL_law 605 = .ok (.laload, 1) := by decide +kernel
theorem dL_law_606 : decode cL_law 606 = .ok (.iload 6, 2) := by decide +kernel
theorem dL_law_608 : decode cL_law 608 = .ok (.i2l, 1) := by decide +kernel
theorem dL_law_609 : decode cL_law 609 = .ok (.lcmp, 1) := by decide +kernel
theorem dL_law_610 : decode cL_law 610 = .ok (.ifCond .eq 5, 3) := by decide +kernel
theorem dL_law_613 : decode cL_law 613 = .ok (.iconst 0, 1) := by decide +kernel
theorem dL_law_614 : decode cL_law 614 = .ok (.ireturn, 1) := by decide +kernel
theorem dL_law_615 : decode cL_law 615 = .ok (.goto 1205, 3) := by decide +kernel
theorem dL_law_618 : decode cL_law 618 = .ok (.aload_n 1, 1) := by decide +kernel
theorem dL_law_619 : decode cL_law 619 = .ok (.aload_n 0, 1) := by decide +kernel
theorem dL_law_620 : decode cL_law 620 = .ok (.iload 4, 2) := by decide +kernel
theorem dL_law_622 : decode cL_law 622 = .ok (.iconst 1, 1) := by decide +kernel
theorem dL_law_623 : decode cL_law 623 = .ok (.iadd, 1) := by decide +kernel
theorem dL_law_624 : decode cL_law 624 = .ok (.iaload, 1) := by decide +kernel
theorem dL_law_625 : decode cL_law 625 = .ok (.aload_n 3, 1) := by decide +kernel
theorem dL_law_626 : decode cL_law 626 = .ok (.invokestatic 116, 3) := by decide +kernel
theorem dL_law_629 : decode cL_law 629 = .ok (.istore 5, 2) := by decide +kernel
theorem dL_law_631 : decode cL_law 631 = .ok (.aload_n 2, 1) := by decide +kernel
theorem dL_law_632 : decode cL_law 632 = .ok (.aload_n 0, 1) := by decide +kernel
theorem dL_law_633 : decode cL_law 633 = .ok (.iload 4, 2) := by decide +kernel
theorem dL_law_635 : decode cL_law 635 = .ok (.iconst 1, 1) := by decide +kernel
theorem dL_law_636 : decode cL_law 636 = .ok (.iadd, 1) := by decide +kernel
theorem dL_law_637 : decode cL_law 637 = .ok (.iaload, 1) := by decide +kernel
theorem dL_law_638 : decode cL_law 638 = .ok (.invokevirtual 119, 3) := by decide +kernel
theorem dL_law_641 : decode cL_law 641 = .ok (.istore 6, 2) := by decide +kernel
theorem dL_law_643 : decode cL_law 643 = .ok (.aload_n 2, 1) := by decide +kernel
theorem dL_law_644 : decode cL_law 644 = .ok (.invokevirtual 98, 3) := by decide +kernel
theorem dL_law_647 : decode cL_law 647 = .ok (.iload 5, 2) := by decide +kernel
theorem dL_law_649 : decode cL_law 649 = .ok (.if_icmp .eq 5, 3) := by decide +kernel
theorem dL_law_652 : decode cL_law 652 = .ok (.iconst 0, 1) := by decide +kernel
theorem dL_law_653 : decode cL_law 653 = .ok (.ireturn, 1) := by decide +kernel
theorem dL_law_654 : decode cL_law 654 = .ok (.iload 5, 2) := by decide +kernel
theorem dL_law_656 : decode cL_law 656 = .ok (.ifCond .ne 15, 3) := by decide +kernel
theorem dL_law_659 : decode cL_law 659 = .ok (.aload_n 3, 1) := by decide +kernel
theorem dL_law_660 : decode cL_law 660 = .ok (.iconst 0, 1) := by decide +kernel
theorem dL_law_661 : decode cL_law 661 = .ok (.laload, 1) := by decide +kernel
theorem dL_law_662 : decode cL_law 662 = .ok (.iload 6, 2) := by decide +kernel
theorem dL_law_664 : decode cL_law 664 = .ok (.i2l, 1) := by decide +kernel
theorem dL_law_665 : decode cL_law 665 = .ok (.lcmp, 1) := by decide +kernel
theorem dL_law_666 : decode cL_law 666 = .ok (.ifCond .eq 5, 3) := by decide +kernel
theorem dL_law_669 : decode cL_law 669 = .ok (.iconst 0, 1) := by decide +kernel
theorem dL_law_670 : decode cL_law 670 = .ok (.ireturn, 1) := by decide +kernel
theorem dL_law_671 : decode cL_law 671 = .ok (.goto 1149, 3) := by decide +kernel
theorem dL_law_674 : decode cL_law 674 = .ok (.aload_n 1, 1) := by decide +kernel
theorem dL_law_675 : decode cL_law 675 = .ok (.aload_n 0, 1) := by decide +kernel
theorem dL_law_676 : decode cL_law 676 = .ok (.iload 4, 2) := by decide +kernel
theorem dL_law_678 : decode cL_law 678 = .ok (.iconst 1, 1) := by decide +kernel
theorem dL_law_679 : decode cL_law 679 = .ok (.iadd, 1) := by decide +kernel
theorem dL_law_680 : decode cL_law 680 = .ok (.iaload, 1) := by decide +kernel
theorem dL_law_681 : decode cL_law 681 = .ok (.aload_n 3, 1) := by decide +kernel
theorem dL_law_682 : decode cL_law 682 = .ok (.invokestatic 120, 3) := by decide +kernel
theorem dL_law_685 : decode cL_law 685 = .ok (.istore 5, 2) := by decide +kernel
theorem dL_law_687 : decode cL_law 687 = .ok (.aload_n 2, 1) := by decide +kernel
theorem dL_law_688 : decode cL_law 688 = .ok (.aload_n 0, 1) := by decide +kernel
theorem dL_law_689 : decode cL_law 689 = .ok (.iload 4, 2) := by decide +kernel
theorem dL_law_691 : decode cL_law 691 = .ok (.iconst 1, 1) := by decide +kernel
theorem dL_law_692 : decode cL_law 692 = .ok (.iadd, 1) := by decide +kernel
theorem dL_law_693 : decode cL_law 693 = .ok (.iaload, 1) := by decide +kernel
theorem dL_law_694 : decode cL_law 694 = .ok (.invokevirtual 122, 3) := by decide +kernel
theorem dL_law_697 : decode cL_law 697 = .ok (.istore 6, 2) := by decide +kernel
theorem dL_law_699 : decode cL_law 699 = .ok (.aload_n 2, 1) := by decide +kernel
theorem dL_law_700 : decode cL_law 700 = .ok (.invokevirtual 98, 3) := by decide +kernel
theorem dL_law_703 : decode cL_law 703 = .ok (.iload 5, 2) := by decide +kernel
theorem dL_law_705 : decode cL_law 705 = .ok (.if_icmp .eq 5, 3) := by decide +kernel
theorem dL_law_708 : decode cL_law 708 = .ok (.iconst 0, 1) := by decide +kernel
theorem dL_law_709 : decode cL_law 709 = .ok (.ireturn, 1) := by decide +kernel
theorem dL_law_710 : decode cL_law 710 = .ok (.iload 5, 2) := by decide +kernel
theorem dL_law_712 : decode cL_law 712 = .ok (.ifCond .ne 15, 3) := by decide +kernel
theorem dL_law_715 : decode cL_law 715 = .ok (.aload_n 3, 1) := by decide +kernel
theorem dL_law_716 : decode cL_law 716 = .ok (.iconst 0, 1) := by decide +kernel
theorem dL_law_717 : decode cL_law 717 = .ok (.laload, 1) := by decide +kernel
theorem dL_law_718 : decode cL_law 718 = .ok (.iload 6, 2) := by decide +kernel
theorem dL_law_720 : decode cL_law 720 = .ok (.i2l, 1) := by decide +kernel
theorem dL_law_721 : decode cL_law 721 = .ok (.lcmp, 1) := by decide +kernel
theorem dL_law_722 : decode cL_law 722 = .ok (.ifCond .eq 5, 3) := by decide +kernel
theorem dL_law_725 : decode cL_law 725 = .ok (.iconst 0, 1) := by decide +kernel
theorem dL_law_726 : decode cL_law 726 = .ok (.ireturn, 1) := by decide +kernel
theorem dL_law_727 : decode cL_law 727 = .ok (.goto 1093, 3) := by decide +kernel
theorem dL_law_730 : decode cL_law 730 = .ok (.aload_n 1, 1) := by decide +kernel
theorem dL_law_731 : decode cL_law 731 = .ok (.aload_n 0, 1) := by decide +kernel
theorem dL_law_732 : decode cL_law 732 = .ok (.iload 4, 2) := by decide +kernel
theorem dL_law_734 : decode cL_law 734 = .ok (.iconst 1, 1) := by decide +kernel
theorem dL_law_735 : decode cL_law 735 = .ok (.iadd, 1) := by decide +kernel
theorem dL_law_736 : decode cL_law 736 = .ok (.iaload, 1) := by decide +kernel
theorem dL_law_737 : decode cL_law 737 = .ok (.aload_n 3, 1) := by decide +kernel
theorem dL_law_738 : decode cL_law 738 = .ok (.invokestatic 123, 3) := by decide +kernel
theorem dL_law_741 : decode cL_law 741 = .ok (.istore 5, 2) := by decide +kernel
theorem dL_law_743 : decode cL_law 743 = .ok (.aload_n 2, 1) := by decide +kernel
theorem dL_law_744 : decode cL_law 744 = .ok (.aload_n 0, 1) := by decide +kernel
theorem dL_law_745 : decode cL_law 745 = .ok (.iload 4, 2) := by decide +kernel
theorem dL_law_747 : decode cL_law 747 = .ok (.iconst 1, 1) := by decide +kernel
theorem dL_law_748 : decode cL_law 748 = .ok (.iadd, 1) := by decide +kernel
theorem dL_law_749 : decode cL_law 749 = .ok (.iaload, 1) := by decide +kernel
theorem dL_law_750 : decode cL_law 750 = .ok (.invokevirtual 125, 3) := by decide +kernel
theorem dL_law_753 : decode cL_law 753 = .ok (.istore 6, 2) := by decide +kernel
theorem dL_law_755 : decode cL_law 755 = .ok (.aload_n 2, 1) := by decide +kernel
theorem dL_law_756 : decode cL_law 756 = .ok (.invokevirtual 98, 3) := by decide +kernel
theorem dL_law_759 : decode cL_law 759 = .ok (.iload 5, 2) := by decide +kernel
theorem dL_law_761 : decode cL_law 761 = .ok (.if_icmp .eq 5, 3) := by decide +kernel
theorem dL_law_764 : decode cL_law 764 = .ok (.iconst 0, 1) := by decide +kernel
theorem dL_law_765 : decode cL_law 765 = .ok (.ireturn, 1) := by decide +kernel
theorem dL_law_766 : decode cL_law 766 = .ok (.iload 5, 2) := by decide +kernel
theorem dL_law_768 : decode cL_law 768 = .ok (.ifCond .ne 15, 3) := by decide +kernel
theorem dL_law_771 : decode cL_law 771 = .ok (.aload_n 3, 1) := by decide +kernel
theorem dL_law_772 : decode cL_law 772 = .ok (.iconst 0, 1) := by decide +kernel
theorem dL_law_773 : decode cL_law 773 = .ok (.laload, 1) := by decide +kernel
theorem dL_law_774 : decode cL_law 774 = .ok (.iload 6, 2) := by decide +kernel
theorem dL_law_776 : decode cL_law 776 = .ok (.i2l, 1) := by decide +kernel
theorem dL_law_777 : decode cL_law 777 = .ok (.lcmp, 1) := by decide +kernel
theorem dL_law_778 : decode cL_law 778 = .ok (.ifCond .eq 5, 3) := by decide +kernel
theorem dL_law_781 : decode cL_law 781 = .ok (.iconst 0, 1) := by decide +kernel
theorem dL_law_782 : decode cL_law 782 = .ok (.ireturn, 1) := by decide +kernel
theorem dL_law_783 : decode cL_law 783 = .ok (.goto 1037, 3) := by decide +kernel
theorem dL_law_786 : decode cL_law 786 = .ok (.aload_n 1, 1) := by decide +kernel
theorem dL_law_787 : decode cL_law 787 = .ok (.aload_n 0, 1) := by decide +kernel
theorem dL_law_788 : decode cL_law 788 = .ok (.iload 4, 2) := by decide +kernel
theorem dL_law_790 : decode cL_law 790 = .ok (.iconst 1, 1) := by decide +kernel
theorem dL_law_791 : decode cL_law 791 = .ok (.iadd, 1) := by decide +kernel
theorem dL_law_792 : decode cL_law 792 = .ok (.iaload, 1) := by decide +kernel
theorem dL_law_793 : decode cL_law 793 = .ok (.aload_n 3, 1) := by decide +kernel
theorem dL_law_794 : decode cL_law 794 = .ok (.invokestatic 126, 3) := by decide +kernel
theorem dL_law_797 : decode cL_law 797 = .ok (.istore 5, 2) := by decide +kernel
theorem dL_law_799 : decode cL_law 799 = .ok (.aload_n 2, 1) := by decide +kernel
theorem dL_law_800 : decode cL_law 800 = .ok (.aload_n 0, 1) := by decide +kernel
theorem dL_law_801 : decode cL_law 801 = .ok (.iload 4, 2) := by decide +kernel
theorem dL_law_803 : decode cL_law 803 = .ok (.iconst 1, 1) := by decide +kernel
theorem dL_law_804 : decode cL_law 804 = .ok (.iadd, 1) := by decide +kernel
theorem dL_law_805 : decode cL_law 805 = .ok (.iaload, 1) := by decide +kernel
theorem dL_law_806 : decode cL_law 806 = .ok (.invokevirtual 128, 3) := by decide +kernel
theorem dL_law_809 : decode cL_law 809 = .ok (.istore 6, 2) := by decide +kernel
theorem dL_law_811 : decode cL_law 811 = .ok (.aload_n 2, 1) := by decide +kernel
theorem dL_law_812 : decode cL_law 812 = .ok (.invokevirtual 98, 3) := by decide +kernel
theorem dL_law_815 : decode cL_law 815 = .ok (.iload 5, 2) := by decide +kernel
theorem dL_law_817 : decode cL_law 817 = .ok (.if_icmp .eq 5, 3) := by decide +kernel
theorem dL_law_820 : decode cL_law 820 = .ok (.iconst 0, 1) := by decide +kernel
theorem dL_law_821 : decode cL_law 821 = .ok (.ireturn, 1) := by decide +kernel
theorem dL_law_822 : decode cL_law 822 = .ok (.iload 5, 2) := by decide +kernel
theorem dL_law_824 : decode cL_law 824 = .ok (.ifCond .ne 22, 3) := by decide +kernel
theorem dL_law_827 : decode cL_law 827 = .ok (.aload_n 3, 1) := by decide +kernel
theorem dL_law_828 : decode cL_law 828 = .ok (.iconst 0, 1) := by decide +kernel
theorem dL_law_829 : decode cL_law 829 = .ok (.laload, 1) := by decide +kernel
theorem dL_law_830 : decode cL_law 830 = .ok (.iload 6, 2) := by decide +kernel
theorem dL_law_832 : decode cL_law 832 = .ok (.ifCond .eq 7, 3) := by decide +kernel
theorem dL_law_835 : decode cL_law 835 = .ok (.lconst 1, 1) := by decide +kernel
theorem dL_law_836 : decode cL_law 836 = .ok (.goto 4, 3) := by decide +kernel
theorem dL_law_839 : decode cL_law 839 = .ok (.lconst 0, 1) := by decide +kernel
theorem dL_law_840 : decode cL_law 840 = .ok (.lcmp, 1) := by decide +kernel
theorem dL_law_841 : decode cL_law 841 = .ok (.ifCond .eq 5, 3) := by decide +kernel
theorem dL_law_844 : decode cL_law 844 = .ok (.iconst 0, 1) := by decide +kernel
theorem dL_law_845 : decode cL_law 845 = .ok (.ireturn, 1) := by decide +kernel
theorem dL_law_846 : decode cL_law 846 = .ok (.goto 974, 3) := by decide +kernel
theorem dL_law_849 : decode cL_law 849 = .ok (.aload_n 1, 1) := by decide +kernel
theorem dL_law_850 : decode cL_law 850 = .ok (.aload_n 0, 1) := by decide +kernel
theorem dL_law_851 : decode cL_law 851 = .ok (.iload 4, 2) := by decide +kernel
theorem dL_law_853 : decode cL_law 853 = .ok (.iconst 1, 1) := by decide +kernel
theorem dL_law_854 : decode cL_law 854 = .ok (.iadd, 1) := by decide +kernel
theorem dL_law_855 : decode cL_law 855 = .ok (.iaload, 1) := by decide +kernel
theorem dL_law_856 : decode cL_law 856 = .ok (.aload_n 3, 1) := by decide +kernel
theorem dL_law_857 : decode cL_law 857 = .ok (.invokestatic 129, 3) := by decide +kernel
theorem dL_law_860 : decode cL_law 860 = .ok (.istore 5, 2) := by decide +kernel
theorem dL_law_862 : decode cL_law 862 = .ok (.aload_n 2, 1) := by decide +kernel
theorem dL_law_863 : decode cL_law 863 = .ok (.aload_n 0, 1) := by decide +kernel
theorem dL_law_864 : decode cL_law 864 = .ok (.iload 4, 2) := by decide +kernel
theorem dL_law_866 : decode cL_law 866 = .ok (.iconst 1, 1) := by decide +kernel
theorem dL_law_867 : decode cL_law 867 = .ok (.iadd, 1) := by decide +kernel
theorem dL_law_868 : decode cL_law 868 = .ok (.iaload, 1) := by decide +kernel
theorem dL_law_869 : decode cL_law 869 = .ok (.invokevirtual 131, 3) := by decide +kernel
theorem dL_law_872 : decode cL_law 872 = .ok (.istore 6, 2) := by decide +kernel
theorem dL_law_874 : decode cL_law 874 = .ok (.aload_n 2, 1) := by decide +kernel
theorem dL_law_875 : decode cL_law 875 = .ok (.invokevirtual 98, 3) := by decide +kernel
theorem dL_law_878 : decode cL_law 878 = .ok (.iload 5, 2) := by decide +kernel
theorem dL_law_880 : decode cL_law 880 = .ok (.if_icmp .eq 5, 3) := by decide +kernel
theorem dL_law_883 : decode cL_law 883 = .ok (.iconst 0, 1) := by decide +kernel
theorem dL_law_884 : decode cL_law 884 = .ok (.ireturn, 1) := by decide +kernel
theorem dL_law_885 : decode cL_law 885 = .ok (.iload 5, 2) := by decide +kernel
theorem dL_law_887 : decode cL_law 887 = .ok (.ifCond .ne 22, 3) := by decide +kernel
theorem dL_law_890 : decode cL_law 890 = .ok (.aload_n 3, 1) := by decide +kernel
theorem dL_law_891 : decode cL_law 891 = .ok (.iconst 0, 1) := by decide +kernel
theorem dL_law_892 : decode cL_law 892 = .ok (.laload, 1) := by decide +kernel
theorem dL_law_893 : decode cL_law 893 = .ok (.iload 6, 2) := by decide +kernel
theorem dL_law_895 : decode cL_law 895 = .ok (.ifCond .eq 7, 3) := by decide +kernel
theorem dL_law_898 : decode cL_law 898 = .ok (.lconst 1, 1) := by decide +kernel
theorem dL_law_899 : decode cL_law 899 = .ok (.goto 4, 3) := by decide +kernel
theorem dL_law_902 : decode cL_law 902 = .ok (.lconst 0, 1) := by decide +kernel
theorem dL_law_903 : decode cL_law 903 = .ok (.lcmp, 1) := by decide +kernel
theorem dL_law_904 : decode cL_law 904 = .ok (.ifCond .eq 5, 3) := by decide +kernel
theorem dL_law_907 : decode cL_law 907 = .ok (.iconst 0, 1) := by decide +kernel
theorem dL_law_908 : decode cL_law 908 = .ok (.ireturn, 1) := by decide +kernel
theorem dL_law_909 : decode cL_law 909 = .ok (.goto 911, 3) := by decide +kernel
theorem dL_law_912 : decode cL_law 912 = .ok (.aload_n 1, 1) := by decide +kernel
theorem dL_law_913 : decode cL_law 913 = .ok (.aload_n 0, 1) := by decide +kernel
theorem dL_law_914 : decode cL_law 914 = .ok (.iload 4, 2) := by decide +kernel
theorem dL_law_916 : decode cL_law 916 = .ok (.iconst 1, 1) := by decide +kernel
theorem dL_law_917 : decode cL_law 917 = .ok (.iadd, 1) := by decide +kernel
theorem dL_law_918 : decode cL_law 918 = .ok (.iaload, 1) := by decide +kernel
theorem dL_law_919 : decode cL_law 919 = .ok (.aload_n 3, 1) := by decide +kernel
theorem dL_law_920 : decode cL_law 920 = .ok (.invokestatic 132, 3) := by decide +kernel
theorem dL_law_923 : decode cL_law 923 = .ok (.istore 5, 2) := by decide +kernel
theorem dL_law_925 : decode cL_law 925 = .ok (.aload_n 2, 1) := by decide +kernel
theorem dL_law_926 : decode cL_law 926 = .ok (.aload_n 0, 1) := by decide +kernel
theorem dL_law_927 : decode cL_law 927 = .ok (.iload 4, 2) := by decide +kernel
theorem dL_law_929 : decode cL_law 929 = .ok (.iconst 1, 1) := by decide +kernel
theorem dL_law_930 : decode cL_law 930 = .ok (.iadd, 1) := by decide +kernel
theorem dL_law_931 : decode cL_law 931 = .ok (.iaload, 1) := by decide +kernel
theorem dL_law_932 : decode cL_law 932 = .ok (.invokevirtual 134, 3) := by decide +kernel
theorem dL_law_935 : decode cL_law 935 = .ok (.istore 6, 2) := by decide +kernel
theorem dL_law_937 : decode cL_law 937 = .ok (.aload_n 2, 1) := by decide +kernel
theorem dL_law_938 : decode cL_law 938 = .ok (.invokevirtual 98, 3) := by decide +kernel
theorem dL_law_941 : decode cL_law 941 = .ok (.iload 5, 2) := by decide +kernel
theorem dL_law_943 : decode cL_law 943 = .ok (.if_icmp .eq 5, 3) := by decide +kernel
theorem dL_law_946 : decode cL_law 946 = .ok (.iconst 0, 1) := by decide +kernel
theorem dL_law_947 : decode cL_law 947 = .ok (.ireturn, 1) := by decide +kernel
theorem dL_law_948 : decode cL_law 948 = .ok (.iload 5, 2) := by decide +kernel
theorem dL_law_950 : decode cL_law 950 = .ok (.ifCond .ne 15, 3) := by decide +kernel
theorem dL_law_953 : decode cL_law 953 = .ok (.aload_n 3, 1) := by decide +kernel
theorem dL_law_954 : decode cL_law 954 = .ok (.iconst 0, 1) := by decide +kernel
theorem dL_law_955 : decode cL_law 955 = .ok (.laload, 1) := by decide +kernel
theorem dL_law_956 : decode cL_law 956 = .ok (.iload 6, 2) := by decide +kernel
theorem dL_law_958 : decode cL_law 958 = .ok (.i2l, 1) := by decide +kernel
theorem dL_law_959 : decode cL_law 959 = .ok (.lcmp, 1) := by decide +kernel
theorem dL_law_960 : decode cL_law 960 = .ok (.ifCond .eq 5, 3) := by decide +kernel
theorem dL_law_963 : decode cL_law 963 = .ok (.iconst 0, 1) := by decide +kernel
theorem dL_law_964 : decode cL_law 964 = .ok (.ireturn, 1) := by decide +kernel
theorem dL_law_965 : decode cL_law 965 = .ok (.goto 855, 3) := by decide +kernel
theorem dL_law_968 : decode cL_law 968 = .ok (.aload_n 1, 1) := by decide +kernel
theorem dL_law_969 : decode cL_law 969 = .ok (.aload_n 0, 1) := by decide +kernel
theorem dL_law_970 : decode cL_law 970 = .ok (.iload 4, 2) := by decide +kernel
theorem dL_law_972 : decode cL_law 972 = .ok (.iconst 1, 1) := by decide +kernel
theorem dL_law_973 : decode cL_law 973 = .ok (.iadd, 1) := by decide +kernel
theorem dL_law_974 : decode cL_law 974 = .ok (.iaload, 1) := by decide +kernel
theorem dL_law_975 : decode cL_law 975 = .ok (.aload_n 3, 1) := by decide +kernel
theorem dL_law_976 : decode cL_law 976 = .ok (.invokestatic 135, 3) := by decide +kernel
theorem dL_law_979 : decode cL_law 979 = .ok (.istore 5, 2) := by decide +kernel
theorem dL_law_981 : decode cL_law 981 = .ok (.aload_n 2, 1) := by decide +kernel
theorem dL_law_982 : decode cL_law 982 = .ok (.aload_n 0, 1) := by decide +kernel
theorem dL_law_983 : decode cL_law 983 = .ok (.iload 4, 2) := by decide +kernel
theorem dL_law_985 : decode cL_law 985 = .ok (.iconst 1, 1) := by decide +kernel
theorem dL_law_986 : decode cL_law 986 = .ok (.iadd, 1) := by decide +kernel
theorem dL_law_987 : decode cL_law 987 = .ok (.iaload, 1) := by decide +kernel
theorem dL_law_988 : decode cL_law 988 = .ok (.invokevirtual 137, 3) := by decide +kernel
theorem dL_law_991 : decode cL_law 991 = .ok (.istore 6, 2) := by decide +kernel
theorem dL_law_993 : decode cL_law 993 = .ok (.aload_n 2, 1) := by decide +kernel
theorem dL_law_994 : decode cL_law 994 = .ok (.invokevirtual 98, 3) := by decide +kernel
theorem dL_law_997 : decode cL_law 997 = .ok (.iload 5, 2) := by decide +kernel
theorem dL_law_999 : decode cL_law 999 = .ok (.if_icmp .eq 5, 3) := by decide +kernel
theorem dL_law_1002 : decode cL_law 1002 = .ok (.iconst 0, 1) := by decide +kernel
theorem dL_law_1003 : decode cL_law 1003 = .ok (.ireturn, 1) := by decide +kernel
theorem dL_law_1004 : decode cL_law 1004 = .ok (.iload 5, 2) := by decide +kernel
theorem dL_law_1006 : decode cL_law 1006 = .ok (.ifCond .ne 15, 3) := by decide +kernel
theorem dL_law_1009 : decode cL_law 1009 = .ok (.aload_n 3, 1) := by decide +kernel
theorem dL_law_1010 : decode cL_law 1010 = .ok (.iconst 0, 1) := by decide +kernel
theorem dL_law_1011 : decode cL_law 1011 = .ok (.laload, 1) := by decide +kernel
theorem dL_law_1012 : decode cL_law 1012 = .ok (.iload 6, 2) := by decide +kernel
theorem dL_law_1014 : decode cL_law 1014 = .ok (.i2l, 1) := by decide +kernel
theorem dL_law_1015 : decode cL_law 1015 = .ok (.lcmp, 1) := by decide +kernel
theorem dL_law_1016 : decode cL_law 1016 = .ok (.ifCond .eq 5, 3) := by decide +kernel
theorem dL_law_1019 : decode cL_law 1019 = .ok (.iconst 0, 1) := by decide +kernel
theorem dL_law_1020 : decode cL_law 1020 = .ok (.ireturn, 1) := by decide +kernel
theorem dL_law_1021 : decode cL_law 1021 = .ok (.goto 799, 3) := by decide +kernel
theorem dL_law_1024 : decode cL_law 1024 = .ok (.aload_n 1, 1) := by decide +kernel
theorem dL_law_1025 : decode cL_law 1025 = .ok (.aload_n 0, 1) := by decide +kernel
theorem dL_law_1026 : decode cL_law 1026 = .ok (.iload 4, 2) := by decide +kernel
theorem dL_law_1028 : decode cL_law 1028 = .ok (.iconst 1, 1) := by decide +kernel
theorem dL_law_1029 : decode cL_law 1029 = .ok (.iadd, 1) := by decide +kernel
theorem dL_law_1030 : decode cL_law 1030 = .ok (.iaload, 1) := by decide +kernel
theorem dL_law_1031 : decode cL_law 1031 = .ok (.aload_n 0, 1) := by decide +kernel
theorem dL_law_1032 : decode cL_law 1032 = .ok (.iload 4, 2) := by decide +kernel
theorem dL_law_1034 : decode cL_law 1034 = .ok (.iconst 2, 1) := by decide +kernel
theorem dL_law_1035 : decode cL_law 1035 = .ok (.iadd, 1) := by decide +kernel
theorem dL_law_1036 : decode cL_law 1036 = .ok (.iaload, 1) := by decide +kernel
theorem dL_law_1037 : decode cL_law 1037 = .ok (.aload_n 3, 1) := by decide +kernel
theorem dL_law_1038 : decode cL_law 1038 = .ok (.invokestatic 138, 3) := by decide +kernel
theorem dL_law_1041 : decode cL_law 1041 = .ok (.istore 5, 2) := by decide +kernel
theorem dL_law_1043 : decode cL_law 1043 = .ok (.aload_n 2, 1) := by decide +kernel
theorem dL_law_1044 : decode cL_law 1044 = .ok (.aload_n 0, 1) := by decide +kernel
theorem dL_law_1045 : decode cL_law 1045 = .ok (.iload 4, 2) := by decide +kernel
theorem dL_law_1047 : decode cL_law 1047 = .ok (.iconst 1, 1) := by decide +kernel
theorem dL_law_1048 : decode cL_law 1048 = .ok (.iadd, 1) := by decide +kernel
theorem dL_law_1049 : decode cL_law 1049 = .ok (.iaload, 1) := by decide +kernel
theorem dL_law_1050 : decode cL_law 1050 = .ok (.aload_n 0, 1) := by decide +kernel
theorem dL_law_1051 : decode cL_law 1051 = .ok (.iload 4, 2) := by decide +kernel
theorem dL_law_1053 : decode cL_law 1053 = .ok (.iconst 2, 1) := by decide +kernel
theorem dL_law_1054 : decode cL_law 1054 = .ok (.iadd, 1) := by decide +kernel
theorem dL_law_1055 : decode cL_law 1055 = .ok (.iaload, 1) := by decide +kernel
theorem dL_law_1056 : decode cL_law 1056 = .ok (.invokevirtual 141, 3) := by decide +kernel
theorem dL_law_1059 : decode cL_law 1059 = .ok (.istore 6, 2) := by decide +kernel
theorem dL_law_1061 : decode cL_law 1061 = .ok (.aload_n 2, 1) := by decide +kernel
theorem dL_law_1062 : decode cL_law 1062 = .ok (.invokevirtual 98, 3) := by decide +kernel
theorem dL_law_1065 : decode cL_law 1065 = .ok (.iload 5, 2) := by decide +kernel
theorem dL_law_1067 : decode cL_law 1067 = .ok (.if_icmp .eq 5, 3) := by decide +kernel
theorem dL_law_1070 : decode cL_law 1070 = .ok (.iconst 0, 1) := by decide +kernel
theorem dL_law_1071 : decode cL_law 1071 = .ok (.ireturn, 1) := by decide +kernel
theorem dL_law_1072 : decode cL_law 1072 = .ok (.iload 5, 2) := by decide +kernel
theorem dL_law_1074 : decode cL_law 1074 = .ok (.ifCond .ne 15, 3) := by decide +kernel
theorem dL_law_1077 : decode cL_law 1077 = .ok (.aload_n 3, 1) := by decide +kernel
theorem dL_law_1078 : decode cL_law 1078 = .ok (.iconst 0, 1) := by decide +kernel
theorem dL_law_1079 : decode cL_law 1079 = .ok (.laload, 1) := by decide +kernel
theorem dL_law_1080 : decode cL_law 1080 = .ok (.iload 6, 2) := by decide +kernel
theorem dL_law_1082 : decode cL_law 1082 = .ok (.i2l, 1) := by decide +kernel
theorem dL_law_1083 : decode cL_law 1083 = .ok (.lcmp, 1) := by decide +kernel
theorem dL_law_1084 : decode cL_law 1084 = .ok (.ifCond .eq 5, 3) := by decide +kernel
theorem dL_law_1087 : decode cL_law 1087 = .ok (.iconst 0, 1) := by decide +kernel
theorem dL_law_1088 : decode cL_law 1088 = .ok (.ireturn, 1) := by decide +kernel
theorem dL_law_1089 : decode cL_law 1089 = .ok (.goto 731, 3) := by decide +kernel
theorem dL_law_1092 : decode cL_law 1092 = .ok (.aload_n 1, 1) := by decide +kernel
theorem dL_law_1093 : decode cL_law 1093 = .ok (.aload_n 0, 1) := by decide +kernel
theorem dL_law_1094 : decode cL_law 1094 = .ok (.iload 4, 2) := by decide +kernel
theorem dL_law_1096 : decode cL_law 1096 = .ok (.iconst 1, 1) := by decide +kernel
theorem dL_law_1097 : decode cL_law 1097 = .ok (.iadd, 1) := by decide +kernel
theorem dL_law_1098 : decode cL_law 1098 = .ok (.iaload, 1) := by decide +kernel
theorem dL_law_1099 : decode cL_law 1099 = .ok (.aload_n 0, 1) := by decide +kernel
theorem dL_law_1100 : decode cL_law 1100 = .ok (.iload 4, 2) := by decide +kernel
theorem dL_law_1102 : decode cL_law 1102 = .ok (.iconst 2, 1) := by decide +kernel
theorem dL_law_1103 : decode cL_law 1103 = .ok (.iadd, 1) := by decide +kernel
theorem dL_law_1104 : decode cL_law 1104 = .ok (.iaload, 1) := by decide +kernel
theorem dL_law_1105 : decode cL_law 1105 = .ok (.aload_n 3, 1) := by decide +kernel
theorem dL_law_1106 : decode cL_law 1106 = .ok (.invokestatic 142, 3) := by decide +kernel
theorem dL_law_1109 : decode cL_law 1109 = .ok (.istore 5, 2) := by decide +kernel
theorem dL_law_1111 : decode cL_law 1111 = .ok (.aload_n 2, 1) := by decide +kernel
theorem dL_law_1112 : decode cL_law 1112 = .ok (.aload_n 0, 1) := by decide +kernel
theorem dL_law_1113 : decode cL_law 1113 = .ok (.iload 4, 2) := by decide +kernel
theorem dL_law_1115 : decode cL_law 1115 = .ok (.iconst 1, 1) := by decide +kernel
theorem dL_law_1116 : decode cL_law 1116 = .ok (.iadd, 1) := by decide +kernel
theorem dL_law_1117 : decode cL_law 1117 = .ok (.iaload, 1) := by decide +kernel
theorem dL_law_1118 : decode cL_law 1118 = .ok (.aload_n 0, 1) := by decide +kernel
theorem dL_law_1119 : decode cL_law 1119 = .ok (.iload 4, 2) := by decide +kernel
theorem dL_law_1121 : decode cL_law 1121 = .ok (.iconst 2, 1) := by decide +kernel
theorem dL_law_1122 : decode cL_law 1122 = .ok (.iadd, 1) := by decide +kernel
theorem dL_law_1123 : decode cL_law 1123 = .ok (.iaload, 1) := by decide +kernel
theorem dL_law_1124 : decode cL_law 1124 = .ok (.invokevirtual 144, 3) := by decide +kernel
theorem dL_law_1127 : decode cL_law 1127 = .ok (.istore 6, 2) := by decide +kernel
theorem dL_law_1129 : decode cL_law 1129 = .ok (.aload_n 2, 1) := by decide +kernel
theorem dL_law_1130 : decode cL_law 1130 = .ok (.invokevirtual 98, 3) := by decide +kernel
theorem dL_law_1133 : decode cL_law 1133 = .ok (.iload 5, 2) := by decide +kernel
theorem dL_law_1135 : decode cL_law 1135 = .ok (.if_icmp .eq 5, 3) := by decide +kernel
theorem dL_law_1138 : decode cL_law 1138 = .ok (.iconst 0, 1) := by decide +kernel
theorem dL_law_1139 : decode cL_law 1139 = .ok (.ireturn, 1) := by decide +kernel
theorem dL_law_1140 : decode cL_law 1140 = .ok (.iload 5, 2) := by decide +kernel
theorem dL_law_1142 : decode cL_law 1142 = .ok (.ifCond .ne 15, 3) := by decide +kernel
theorem dL_law_1145 : decode cL_law 1145 = .ok (.aload_n 3, 1) := by decide +kernel
theorem dL_law_1146 : decode cL_law 1146 = .ok (.iconst 0, 1) := by decide +kernel
theorem dL_law_1147 : decode cL_law 1147 = .ok (.laload, 1) := by decide +kernel
theorem dL_law_1148 : decode cL_law 1148 = .ok (.iload 6, 2) := by decide +kernel
theorem dL_law_1150 : decode cL_law 1150 = .ok (.i2l, 1) := by decide +kernel
theorem dL_law_1151 : decode cL_law 1151 = .ok (.lcmp, 1) := by decide +kernel
theorem dL_law_1152 : decode cL_law 1152 = .ok (.ifCond .eq 5, 3) := by decide +kernel
theorem dL_law_1155 : decode cL_law 1155 = .ok (.iconst 0, 1) := by decide +kernel
theorem dL_law_1156 : decode cL_law 1156 = .ok (.ireturn, 1) := by decide +kernel
theorem dL_law_1157 : decode cL_law 1157 = .ok (.goto 663, 3) := by decide +kernel
theorem dL_law_1160 : decode cL_law 1160 = .ok (.aload_n 1, 1) := by decide +kernel
theorem dL_law_1161 : decode cL_law 1161 = .ok (.aload_n 0, 1) := by decide +kernel
theorem dL_law_1162 : decode cL_law 1162 = .ok (.iload 4, 2) := by decide +kernel
theorem dL_law_1164 : decode cL_law 1164 = .ok (.iconst 1, 1) := by decide +kernel
theorem dL_law_1165 : decode cL_law 1165 = .ok (.iadd, 1) := by decide +kernel
theorem dL_law_1166 : decode cL_law 1166 = .ok (.iaload, 1) := by decide +kernel
theorem dL_law_1167 : decode cL_law 1167 = .ok (.aload_n 0, 1) := by decide +kernel
theorem dL_law_1168 : decode cL_law 1168 = .ok (.iload 4, 2) := by decide +kernel
theorem dL_law_1170 : decode cL_law 1170 = .ok (.iconst 2, 1) := by decide +kernel
theorem dL_law_1171 : decode cL_law 1171 = .ok (.iadd, 1) := by decide +kernel
theorem dL_law_1172 : decode cL_law 1172 = .ok (.iaload, 1) := by decide +kernel
theorem dL_law_1173 : decode cL_law 1173 = .ok (.aload_n 3, 1) := by decide +kernel
theorem dL_law_1174 : decode cL_law 1174 = .ok (.invokestatic 145, 3) := by decide +kernel
theorem dL_law_1177 : decode cL_law 1177 = .ok (.istore 5, 2) := by decide +kernel
theorem dL_law_1179 : decode cL_law 1179 = .ok (.aload_n 2, 1) := by decide +kernel
theorem dL_law_1180 : decode cL_law 1180 = .ok (.aload_n 0, 1) := by decide +kernel
theorem dL_law_1181 : decode cL_law 1181 = .ok (.iload 4, 2) := by decide +kernel
theorem dL_law_1183 : decode cL_law 1183 = .ok (.iconst 1, 1) := by decide +kernel
theorem dL_law_1184 : decode cL_law 1184 = .ok (.iadd, 1) := by decide +kernel
theorem dL_law_1185 : decode cL_law 1185 = .ok (.iaload, 1) := by decide +kernel
theorem dL_law_1186 : decode cL_law 1186 = .ok (.aload_n 0, 1) := by decide +kernel
theorem dL_law_1187 : decode cL_law 1187 = .ok (.iload 4, 2) := by decide +kernel
theorem dL_law_1189 : decode cL_law 1189 = .ok (.iconst 2, 1) := by decide +kernel
theorem dL_law_1190 : decode cL_law 1190 = .ok (.iadd, 1) := by decide +kernel
theorem dL_law_1191 : decode cL_law 1191 = .ok (.iaload, 1) := by decide +kernel
theorem dL_law_1192 : decode cL_law 1192 = .ok (.invokevirtual 147, 3) := by decide +kernel
theorem dL_law_1195 : decode cL_law 1195 = .ok (.istore 6, 2) := by decide +kernel
theorem dL_law_1197 : decode cL_law 1197 = .ok (.aload_n 2, 1) := by decide +kernel
theorem dL_law_1198 : decode cL_law 1198 = .ok (.invokevirtual 98, 3) := by decide +kernel
theorem dL_law_1201 : decode cL_law 1201 = .ok (.iload 5, 2) := by decide +kernel
theorem dL_law_1203 : decode cL_law 1203 = .ok (.if_icmp .eq 5, 3) := by decide +kernel
theorem dL_law_1206 : decode cL_law 1206 = .ok (.iconst 0, 1) := by decide +kernel
theorem dL_law_1207 : decode cL_law 1207 = .ok (.ireturn, 1) := by decide +kernel
theorem dL_law_1208 : decode cL_law 1208 = .ok (.iload 5, 2) := by decide +kernel
theorem dL_law_1210 : decode cL_law 1210 = .ok (.ifCond .ne 15, 3) := by decide +kernel
theorem dL_law_1213 : decode cL_law 1213 = .ok (.aload_n 3, 1) := by decide +kernel
theorem dL_law_1214 : decode cL_law 1214 = .ok (.iconst 0, 1) := by decide +kernel
theorem dL_law_1215 : decode cL_law 1215 = .ok (.laload, 1) := by decide +kernel
theorem dL_law_1216 : decode cL_law 1216 = .ok (.iload 6, 2) := by decide +kernel
theorem dL_law_1218 : decode cL_law 1218 = .ok (.i2l, 1) := by decide +kernel
theorem dL_law_1219 : decode cL_law 1219 = .ok (.lcmp, 1) := by decide +kernel
theorem dL_law_1220 : decode cL_law 1220 = .ok (.ifCond .eq 5, 3) := by decide +kernel
theorem dL_law_1223 : decode cL_law 1223 = .ok (.iconst 0, 1) := by decide +kernel
theorem dL_law_1224 : decode cL_law 1224 = .ok (.ireturn, 1) := by decide +kernel
theorem dL_law_1225 : decode cL_law 1225 = .ok (.goto 595, 3) := by decide +kernel
theorem dL_law_1228 : decode cL_law 1228 = .ok (.aload_n 1, 1) := by decide +kernel
theorem dL_law_1229 : decode cL_law 1229 = .ok (.aload_n 0, 1) := by decide +kernel
theorem dL_law_1230 : decode cL_law 1230 = .ok (.iload 4, 2) := by decide +kernel
theorem dL_law_1232 : decode cL_law 1232 = .ok (.iconst 1, 1) := by decide +kernel
theorem dL_law_1233 : decode cL_law 1233 = .ok (.iadd, 1) := by decide +kernel
theorem dL_law_1234 : decode cL_law 1234 = .ok (.iaload, 1) := by decide +kernel
theorem dL_law_1235 : decode cL_law 1235 = .ok (.aload_n 0, 1) := by decide +kernel
theorem dL_law_1236 : decode cL_law 1236 = .ok (.iload 4, 2) := by decide +kernel
theorem dL_law_1238 : decode cL_law 1238 = .ok (.iconst 2, 1) := by decide +kernel
theorem dL_law_1239 : decode cL_law 1239 = .ok (.iadd, 1) := by decide +kernel
theorem dL_law_1240 : decode cL_law 1240 = .ok (.iaload, 1) := by decide +kernel
theorem dL_law_1241 : decode cL_law 1241 = .ok (.aload_n 3, 1) := by decide +kernel
theorem dL_law_1242 : decode cL_law 1242 = .ok (.invokestatic 148, 3) := by decide +kernel
theorem dL_law_1245 : decode cL_law 1245 = .ok (.istore 5, 2) := by decide +kernel
theorem dL_law_1247 : decode cL_law 1247 = .ok (.aload_n 2, 1) := by decide +kernel
theorem dL_law_1248 : decode cL_law 1248 = .ok (.aload_n 0, 1) := by decide +kernel
theorem dL_law_1249 : decode cL_law 1249 = .ok (.iload 4, 2) := by decide +kernel
theorem dL_law_1251 : decode cL_law 1251 = .ok (.iconst 1, 1) := by decide +kernel
theorem dL_law_1252 : decode cL_law 1252 = .ok (.iadd, 1) := by decide +kernel
theorem dL_law_1253 : decode cL_law 1253 = .ok (.iaload, 1) := by decide +kernel
theorem dL_law_1254 : decode cL_law 1254 = .ok (.aload_n 0, 1) := by decide +kernel
theorem dL_law_1255 : decode cL_law 1255 = .ok (.iload 4, 2) := by decide +kernel
theorem dL_law_1257 : decode cL_law 1257 = .ok (.iconst 2, 1) := by decide +kernel
theorem dL_law_1258 : decode cL_law 1258 = .ok (.iadd, 1) := by decide +kernel
theorem dL_law_1259 : decode cL_law 1259 = .ok (.iaload, 1) := by decide +kernel
theorem dL_law_1260 : decode cL_law 1260 = .ok (.invokevirtual 150, 3) := by decide +kernel
theorem dL_law_1263 : decode cL_law 1263 = .ok (.istore 6, 2) := by decide +kernel
theorem dL_law_1265 : decode cL_law 1265 = .ok (.aload_n 2, 1) := by decide +kernel
theorem dL_law_1266 : decode cL_law 1266 = .ok (.invokevirtual 98, 3) := by decide +kernel
theorem dL_law_1269 : decode cL_law 1269 = .ok (.iload 5, 2) := by decide +kernel
theorem dL_law_1271 : decode cL_law 1271 = .ok (.if_icmp .eq 5, 3) := by decide +kernel
theorem dL_law_1274 : decode cL_law 1274 = .ok (.iconst 0, 1) := by decide +kernel
theorem dL_law_1275 : decode cL_law 1275 = .ok (.ireturn, 1) := by decide +kernel
theorem dL_law_1276 : decode cL_law 1276 = .ok (.iload 5, 2) := by decide +kernel
theorem dL_law_1278 : decode cL_law 1278 = .ok (.ifCond .ne 15, 3) := by decide +kernel
theorem dL_law_1281 : decode cL_law 1281 = .ok (.aload_n 3, 1) := by decide +kernel
theorem dL_law_1282 : decode cL_law 1282 = .ok (.iconst 0, 1) := by decide +kernel
theorem dL_law_1283 : decode cL_law 1283 = .ok (.laload, 1) := by decide +kernel
theorem dL_law_1284 : decode cL_law 1284 = .ok (.iload 6, 2) := by decide +kernel
theorem dL_law_1286 : decode cL_law 1286 = .ok (.i2l, 1) := by decide +kernel
theorem dL_law_1287 : decode cL_law 1287 = .ok (.lcmp, 1) := by decide +kernel
theorem dL_law_1288 : decode cL_law 1288 = .ok (.ifCond .eq 5, 3) := by decide +kernel
theorem dL_law_1291 : decode cL_law 1291 = .ok (.iconst 0, 1) := by decide +kernel
theorem dL_law_1292 : decode cL_law 1292 = .ok (.ireturn, 1) := by decide +kernel
theorem dL_law_1293 : decode cL_law 1293 = .ok (.goto 527, 3) := by decide +kernel
theorem dL_law_1296 : decode cL_law 1296 = .ok (.aload_n 1, 1) := by decide +kernel
theorem dL_law_1297 : decode cL_law 1297 = .ok (.aload_n 0, 1) := by decide +kernel
theorem dL_law_1298 : decode cL_law 1298 = .ok (.iload 4, 2) := by decide +kernel
theorem dL_law_1300 : decode cL_law 1300 = .ok (.iconst 1, 1) := by decide +kernel
theorem dL_law_1301 : decode cL_law 1301 = .ok (.iadd, 1) := by decide +kernel
theorem dL_law_1302 : decode cL_law 1302 = .ok (.iaload, 1) := by decide +kernel
theorem dL_law_1303 : decode cL_law 1303 = .ok (.aload_n 0, 1) := by decide +kernel
theorem dL_law_1304 : decode cL_law 1304 = .ok (.iload 4, 2) := by decide +kernel
theorem dL_law_1306 : decode cL_law 1306 = .ok (.iconst 2, 1) := by decide +kernel
theorem dL_law_1307 : decode cL_law 1307 = .ok (.iadd, 1) := by decide +kernel
theorem dL_law_1308 : decode cL_law 1308 = .ok (.iaload, 1) := by decide +kernel
theorem dL_law_1309 : decode cL_law 1309 = .ok (.aload_n 3, 1) := by decide +kernel
theorem dL_law_1310 : decode cL_law 1310 = .ok (.invokestatic 151, 3) := by decide +kernel
theorem dL_law_1313 : decode cL_law 1313 = .ok (.istore 5, 2) := by decide +kernel
theorem dL_law_1315 : decode cL_law 1315 = .ok (.aload_n 2, 1) := by decide +kernel
theorem dL_law_1316 : decode cL_law 1316 = .ok (.aload_n 0, 1) := by decide +kernel
theorem dL_law_1317 : decode cL_law 1317 = .ok (.iload 4, 2) := by decide +kernel
theorem dL_law_1319 : decode cL_law 1319 = .ok (.iconst 1, 1) := by decide +kernel
theorem dL_law_1320 : decode cL_law 1320 = .ok (.iadd, 1) := by decide +kernel
theorem dL_law_1321 : decode cL_law 1321 = .ok (.iaload, 1) := by decide +kernel
theorem dL_law_1322 : decode cL_law 1322 = .ok (.aload_n 0, 1) := by decide +kernel
theorem dL_law_1323 : decode cL_law 1323 = .ok (.iload 4, 2) := by decide +kernel
theorem dL_law_1325 : decode cL_law 1325 = .ok (.iconst 2, 1) := by decide +kernel
theorem dL_law_1326 : decode cL_law 1326 = .ok (.iadd, 1) := by decide +kernel
theorem dL_law_1327 : decode cL_law 1327 = .ok (.iaload, 1) := by decide +kernel
theorem dL_law_1328 : decode cL_law 1328 = .ok (.invokevirtual 153, 3) := by decide +kernel
theorem dL_law_1331 : decode cL_law 1331 = .ok (.istore 6, 2) := by decide +kernel
theorem dL_law_1333 : decode cL_law 1333 = .ok (.aload_n 2, 1) := by decide +kernel
theorem dL_law_1334 : decode cL_law 1334 = .ok (.invokevirtual 98, 3) := by decide +kernel
theorem dL_law_1337 : decode cL_law 1337 = .ok (.iload 5, 2) := by decide +kernel
theorem dL_law_1339 : decode cL_law 1339 = .ok (.if_icmp .eq 5, 3) := by decide +kernel
theorem dL_law_1342 : decode cL_law 1342 = .ok (.iconst 0, 1) := by decide +kernel
theorem dL_law_1343 : decode cL_law 1343 = .ok (.ireturn, 1) := by decide +kernel
theorem dL_law_1344 : decode cL_law 1344 = .ok (.iload 5, 2) := by decide +kernel
theorem dL_law_1346 : decode cL_law 1346 = .ok (.ifCond .ne 15, 3) := by decide +kernel
theorem dL_law_1349 : decode cL_law 1349 = .ok (.aload_n 3, 1) := by decide +kernel
theorem dL_law_1350 : decode cL_law 1350 = .ok (.iconst 0, 1) := by decide +kernel
theorem dL_law_1351 : decode cL_law 1351 = .ok (.laload, 1) := by decide +kernel
theorem dL_law_1352 : decode cL_law 1352 = .ok (.iload 6, 2) := by decide +kernel
theorem dL_law_1354 : decode cL_law 1354 = .ok (.i2l, 1) := by decide +kernel
theorem dL_law_1355 : decode cL_law 1355 = .ok (.lcmp, 1) := by decide +kernel
theorem dL_law_1356 : decode cL_law 1356 = .ok (.ifCond .eq 5, 3) := by decide +kernel
theorem dL_law_1359 : decode cL_law 1359 = .ok (.iconst 0, 1) := by decide +kernel
theorem dL_law_1360 : decode cL_law 1360 = .ok (.ireturn, 1) := by decide +kernel
theorem dL_law_1361 : decode cL_law 1361 = .ok (.goto 459, 3) := by decide +kernel
theorem dL_law_1364 : decode cL_law 1364 = .ok (.aload_n 1, 1) := by decide +kernel
theorem dL_law_1365 : decode cL_law 1365 = .ok (.aload_n 0, 1) := by decide +kernel
theorem dL_law_1366 : decode cL_law 1366 = .ok (.iload 4, 2) := by decide +kernel
theorem dL_law_1368 : decode cL_law 1368 = .ok (.iconst 1, 1) := by decide +kernel
theorem dL_law_1369 : decode cL_law 1369 = .ok (.iadd, 1) := by decide +kernel
theorem dL_law_1370 : decode cL_law 1370 = .ok (.iaload, 1) := by decide +kernel
theorem dL_law_1371 : decode cL_law 1371 = .ok (.aload_n 0, 1) := by decide +kernel
theorem dL_law_1372 : decode cL_law 1372 = .ok (.iload 4, 2) := by decide +kernel
theorem dL_law_1374 : decode cL_law 1374 = .ok (.iconst 2, 1) := by decide +kernel
theorem dL_law_1375 : decode cL_law 1375 = .ok (.iadd, 1) := by decide +kernel
theorem dL_law_1376 : decode cL_law 1376 = .ok (.iaload, 1) := by decide +kernel
theorem dL_law_1377 : decode cL_law 1377 = .ok (.aload_n 3, 1) := by decide +kernel
theorem dL_law_1378 : decode cL_law 1378 = .ok (.invokestatic 154, 3) := by decide +kernel
theorem dL_law_1381 : decode cL_law 1381 = .ok (.istore 5, 2) := by decide +kernel
theorem dL_law_1383 : decode cL_law 1383 = .ok (.aload_n 2, 1) := by decide +kernel
theorem dL_law_1384 : decode cL_law 1384 = .ok (.aload_n 0, 1) := by decide +kernel
theorem dL_law_1385 : decode cL_law 1385 = .ok (.iload 4, 2) := by decide +kernel
theorem dL_law_1387 : decode cL_law 1387 = .ok (.iconst 1, 1) := by decide +kernel
theorem dL_law_1388 : decode cL_law 1388 = .ok (.iadd, 1) := by decide +kernel
theorem dL_law_1389 : decode cL_law 1389 = .ok (.iaload, 1) := by decide +kernel
theorem dL_law_1390 : decode cL_law 1390 = .ok (.aload_n 0, 1) := by decide +kernel
theorem dL_law_1391 : decode cL_law 1391 = .ok (.iload 4, 2) := by decide +kernel
theorem dL_law_1393 : decode cL_law 1393 = .ok (.iconst 2, 1) := by decide +kernel
theorem dL_law_1394 : decode cL_law 1394 = .ok (.iadd, 1) := by decide +kernel
theorem dL_law_1395 : decode cL_law 1395 = .ok (.iaload, 1) := by decide +kernel
theorem dL_law_1396 : decode cL_law 1396 = .ok (.invokevirtual 156, 3) := by decide +kernel
theorem dL_law_1399 : decode cL_law 1399 = .ok (.istore 6, 2) := by decide +kernel
theorem dL_law_1401 : decode cL_law 1401 = .ok (.aload_n 2, 1) := by decide +kernel
theorem dL_law_1402 : decode cL_law 1402 = .ok (.invokevirtual 98, 3) := by decide +kernel
theorem dL_law_1405 : decode cL_law 1405 = .ok (.iload 5, 2) := by decide +kernel
theorem dL_law_1407 : decode cL_law 1407 = .ok (.if_icmp .eq 5, 3) := by decide +kernel
theorem dL_law_1410 : decode cL_law 1410 = .ok (.iconst 0, 1) := by decide +kernel
theorem dL_law_1411 : decode cL_law 1411 = .ok (.ireturn, 1) := by decide +kernel
theorem dL_law_1412 : decode cL_law 1412 = .ok (.iload 5, 2) := by decide +kernel
theorem dL_law_1414 : decode cL_law 1414 = .ok (.ifCond .ne 15, 3) := by decide +kernel
theorem dL_law_1417 : decode cL_law 1417 = .ok (.aload_n 3, 1) := by decide +kernel
theorem dL_law_1418 : decode cL_law 1418 = .ok (.iconst 0, 1) := by decide +kernel
theorem dL_law_1419 : decode cL_law 1419 = .ok (.laload, 1) := by decide +kernel
theorem dL_law_1420 : decode cL_law 1420 = .ok (.iload 6, 2) := by decide +kernel
theorem dL_law_1422 : decode cL_law 1422 = .ok (.i2l, 1) := by decide +kernel
theorem dL_law_1423 : decode cL_law 1423 = .ok (.lcmp, 1) := by decide +kernel
theorem dL_law_1424 : decode cL_law 1424 = .ok (.ifCond .eq 5, 3) := by decide +kernel
theorem dL_law_1427 : decode cL_law 1427 = .ok (.iconst 0, 1) := by decide +kernel
theorem dL_law_1428 : decode cL_law 1428 = .ok (.ireturn, 1) := by decide +kernel
theorem dL_law_1429 : decode cL_law 1429 = .ok (.goto 391, 3) := by decide +kernel
theorem dL_law_1432 : decode cL_law 1432 = .ok (.aload_n 1, 1) := by decide +kernel
theorem dL_law_1433 : decode cL_law 1433 = .ok (.aload_n 0, 1) := by decide +kernel
theorem dL_law_1434 : decode cL_law 1434 = .ok (.iload 4, 2) := by decide +kernel
theorem dL_law_1436 : decode cL_law 1436 = .ok (.iconst 1, 1) := by decide +kernel
theorem dL_law_1437 : decode cL_law 1437 = .ok (.iadd, 1) := by decide +kernel
theorem dL_law_1438 : decode cL_law 1438 = .ok (.iaload, 1) := by decide +kernel
theorem dL_law_1439 : decode cL_law 1439 = .ok (.aload_n 3, 1) := by decide +kernel
theorem dL_law_1440 : decode cL_law 1440 = .ok (.invokestatic 157, 3) := by decide +kernel
theorem dL_law_1443 : decode cL_law 1443 = .ok (.istore 5, 2) := by decide +kernel
theorem dL_law_1445 : decode cL_law 1445 = .ok (.aload_n 2, 1) := by decide +kernel
theorem dL_law_1446 : decode cL_law 1446 = .ok (.aload_n 0, 1) := by decide +kernel
theorem dL_law_1447 : decode cL_law 1447 = .ok (.iload 4, 2) := by decide +kernel
theorem dL_law_1449 : decode cL_law 1449 = .ok (.iconst 1, 1) := by decide +kernel
theorem dL_law_1450 : decode cL_law 1450 = .ok (.iadd, 1) := by decide +kernel
theorem dL_law_1451 : decode cL_law 1451 = .ok (.iaload, 1) := by decide +kernel
theorem dL_law_1452 : decode cL_law 1452 = .ok (.invokevirtual 159, 3) := by decide +kernel
theorem dL_law_1455 : decode cL_law 1455 = .ok (.istore 6, 2) := by decide +kernel
theorem dL_law_1457 : decode cL_law 1457 = .ok (.aload_n 2, 1) := by decide +kernel
theorem dL_law_1458 : decode cL_law 1458 = .ok (.invokevirtual 98, 3) := by decide +kernel
theorem dL_law_1461 : decode cL_law 1461 = .ok (.iload 5, 2) := by decide +kernel
theorem dL_law_1463 : decode cL_law 1463 = .ok (.if_icmp .eq 5, 3) := by decide +kernel
theorem dL_law_1466 : decode cL_law 1466 = .ok (.iconst 0, 1) := by decide +kernel
theorem dL_law_1467 : decode cL_law 1467 = .ok (.ireturn, 1) := by decide +kernel
theorem dL_law_1468 : decode cL_law 1468 = .ok (.iload 5, 2) := by decide +kernel
theorem dL_law_1470 : decode cL_law 1470 = .ok (.ifCond .ne 15, 3) := by decide +kernel
theorem dL_law_1473 : decode cL_law 1473 = .ok (.aload_n 3, 1) := by decide +kernel
theorem dL_law_1474 : decode cL_law 1474 = .ok (.iconst 0, 1) := by decide +kernel
theorem dL_law_1475 : decode cL_law 1475 = .ok (.laload, 1) := by decide +kernel
theorem dL_law_1476 : decode cL_law 1476 = .ok (.iload 6, 2) := by decide +kernel
theorem dL_law_1478 : decode cL_law 1478 = .ok (.i2l, 1) := by decide +kernel
theorem dL_law_1479 : decode cL_law 1479 = .ok (.lcmp, 1) := by decide +kernel
theorem dL_law_1480 : decode cL_law 1480 = .ok (.ifCond .eq 5, 3) := by decide +kernel
theorem dL_law_1483 : decode cL_law 1483 = .ok (.iconst 0, 1) := by decide +kernel
theorem dL_law_1484 : decode cL_law 1484 = .ok (.ireturn, 1) := by decide +kernel
theorem dL_law_1485 : decode cL_law 1485 = .ok (.goto 335, 3) := by decide +kernel
theorem dL_law_1488 : decode cL_law 1488 = .ok (.aload_n 1, 1) := by decide +kernel
theorem dL_law_1489 : decode cL_law 1489 = .ok (.invokevirtual 160, 3) := by decide +kernel
theorem dL_law_1492 : decode cL_law 1492 = .ok (.dstore 5, 2) := by decide +kernel
theorem dL_law_1494 : decode cL_law 1494 = .ok (.aload_n 2, 1) := by decide +kernel
theorem dL_law_1495 : decode cL_law 1495 = .ok (.invokevirtual 164, 3) := by decide +kernel
theorem dL_law_1498 : decode cL_law 1498 = .ok (.dstore 7, 2) := by decide +kernel
theorem dL_law_1500 : decode cL_law 1500 = .ok (.dload 5, 2) := by decide +kernel
theorem dL_law_1502 : decode cL_law 1502 = .ok (.dload 7, 2) := by decide +kernel
theorem dL_law_1504 : decode cL_law 1504 = .ok (.dcmp .l, 1) := by decide +kernel
theorem dL_law_1505 : decode cL_law 1505 = .ok (.ifCond .eq 21, 3) := by decide +kernel
theorem dL_law_1508 : decode cL_law 1508 = .ok (.dload 5, 2) := by decide +kernel
theorem dL_law_1510 : decode cL_law 1510 = .ok (.dload 5, 2) := by decide +kernel
theorem dL_law_1512 : decode cL_law 1512 = .ok (.dcmp .l, 1) := by decide +kernel
theorem dL_law_1513 : decode cL_law 1513 = .ok (.ifCond .eq 11, 3) := by decide +kernel
theorem dL_law_1516 : decode cL_law 1516 = .ok (.dload 7, 2) := by decide +kernel
theorem dL_law_1518 : decode cL_law 1518 = .ok (.dload 7, 2) := by decide +kernel
theorem dL_law_1520 : decode cL_law 1520 = .ok (.dcmp .l, 1) := by decide +kernel
theorem dL_law_1521 : decode cL_law 1521 = .ok (.ifCond .ne 5, 3) := by decide +kernel
theorem dL_law_1524 : decode cL_law 1524 = .ok (.iconst 0, 1) := by decide +kernel
theorem dL_law_1525 : decode cL_law 1525 = .ok (.ireturn, 1) := by decide +kernel
theorem dL_law_1526 : decode cL_law 1526 = .ok (.goto 294, 3) := by decide +kernel
theorem dL_law_1529 : decode cL_law 1529 = .ok (.aload_n 1, 1) := by decide +kernel
theorem dL_law_1530 : decode cL_law 1530 = .ok (.aload_n 0, 1) := by decide +kernel
theorem dL_law_1531 : decode cL_law 1531 = .ok (.iload 4, 2) := by decide +kernel
theorem dL_law_1533 : decode cL_law 1533 = .ok (.iconst 1, 1) := by decide +kernel
theorem dL_law_1534 : decode cL_law 1534 = .ok (.iadd, 1) := by decide +kernel
theorem dL_law_1535 : decode cL_law 1535 = .ok (.iaload, 1) := by decide +kernel
theorem dL_law_1536 : decode cL_law 1536 = .ok (.aload_n 0, 1) := by decide +kernel
theorem dL_law_1537 : decode cL_law 1537 = .ok (.iload 4, 2) := by decide +kernel
theorem dL_law_1539 : decode cL_law 1539 = .ok (.iconst 2, 1) := by decide +kernel
theorem dL_law_1540 : decode cL_law 1540 = .ok (.iadd, 1) := by decide +kernel
theorem dL_law_1541 : decode cL_law 1541 = .ok (.iaload, 1) := by decide +kernel
theorem dL_law_1542 : decode cL_law 1542 = .ok (.aload_n 0, 1) := by decide +kernel
theorem dL_law_1543 : decode cL_law 1543 = .ok (.iload 4, 2) := by decide +kernel
theorem dL_law_1545 : decode cL_law 1545 = .ok (.iconst 3, 1) := by decide +kernel
theorem dL_law_1546 : decode cL_law 1546 = .ok (.iadd, 1) := by decide +kernel
theorem dL_law_1547 : decode cL_law 1547 = .ok (.iaload, 1) := by decide +kernel
theorem dL_law_1548 : decode cL_law 1548 = .ok (.aload_n 0, 1) := by decide +kernel
theorem dL_law_1549 : decode cL_law 1549 = .ok (.iload 4, 2) := by decide +kernel
theorem dL_law_1551 : decode cL_law 1551 = .ok (.iconst 4, 1) := by decide +kernel
theorem dL_law_1552 : decode cL_law 1552 = .ok (.iadd, 1) := by decide +kernel
theorem dL_law_1553 : decode cL_law 1553 = .ok (.iaload, 1) := by decide +kernel
theorem dL_law_1554 : decode cL_law 1554 = .ok (.aload_n 3, 1) := by decide +kernel
theorem dL_law_1555 : decode cL_law 1555 = .ok (.invokestatic 165, 3) := by decide +kernel
theorem dL_law_1558 : decode cL_law 1558 = .ok (.istore 5, 2) := by decide +kernel
theorem dL_law_1560 : decode cL_law 1560 = .ok (.aload_n 2, 1) := by decide +kernel
theorem dL_law_1561 : decode cL_law 1561 = .ok (.aload_n 0, 1) := by decide +kernel
theorem dL_law_1562 : decode cL_law 1562 = .ok (.iload 4, 2) := by decide +kernel
theorem dL_law_1564 : decode cL_law 1564 = .ok (.iconst 1, 1) := by decide +kernel
theorem dL_law_1565 : decode cL_law 1565 = .ok (.iadd, 1) := by decide +kernel
theorem dL_law_1566 : decode cL_law 1566 = .ok (.iaload, 1) := by decide +kernel
theorem dL_law_1567 : decode cL_law 1567 = .ok (.aload_n 0, 1) := by decide +kernel
theorem dL_law_1568 : decode cL_law 1568 = .ok (.iload 4, 2) := by decide +kernel
theorem dL_law_1570 : decode cL_law 1570 = .ok (.iconst 2, 1) := by decide +kernel
theorem dL_law_1571 : decode cL_law 1571 = .ok (.iadd, 1) := by decide +kernel
theorem dL_law_1572 : decode cL_law 1572 = .ok (.iaload, 1) := by decide +kernel
theorem dL_law_1573 : decode cL_law 1573 = .ok (.aload_n 0, 1) := by decide +kernel
theorem dL_law_1574 : decode cL_law 1574 = .ok (.iload 4, 2) := by decide +kernel
theorem dL_law_1576 : decode cL_law 1576 = .ok (.iconst 3, 1) := by decide +kernel
theorem dL_law_1577 : decode cL_law 1577 = .ok (.iadd, 1) := by decide +kernel
theorem dL_law_1578 : decode cL_law 1578 = .ok (.iaload, 1) := by decide +kernel
theorem dL_law_1579 : decode cL_law 1579 = .ok (.aload_n 0, 1) := by decide +kernel
theorem dL_law_1580 : decode cL_law 1580 = .ok (.iload 4, 2) := by decide +kernel
theorem dL_law_1582 : decode cL_law 1582 = .ok (.iconst 4, 1) := by decide +kernel
theorem dL_law_1583 : decode cL_law 1583 = .ok (.iadd, 1) := by decide +kernel
theorem dL_law_1584 : decode cL_law 1584 = .ok (.iaload, 1) := by decide +kernel
theorem dL_law_1585 : decode cL_law 1585 = .ok (.invokevirtual 167, 3) := by decide +kernel
theorem dL_law_1588 : decode cL_law 1588 = .ok (.istore 6, 2) := by decide +kernel
theorem dL_law_1590 : decode cL_law 1590 = .ok (.aload_n 2, 1) := by decide +kernel
theorem dL_law_1591 : decode cL_law 1591 = .ok (.invokevirtual 98, 3) := by decide +kernel
theorem dL_law_1594 : decode cL_law 1594 = .ok (.iload 5, 2) := by decide +kernel
theorem dL_law_1596 : decode cL_law 1596 = .ok (.if_icmp .eq 5, 3) := by decide +kernel
theorem dL_law_1599 : decode cL_law 1599 = .ok (.iconst 0, 1) := by decide +kernel
theorem dL_law_1600 : decode cL_law 1600 = .ok (.ireturn, 1) := by decide +kernel
theorem dL_law_1601 : decode cL_law 1601 = .ok (.iload 5, 2) := by decide +kernel
theorem dL_law_1603 : decode cL_law 1603 = .ok (.ifCond .ne 15, 3) := by decide +kernel
theorem dL_law_1606 : decode cL_law 1606 = .ok (.aload_n 3, 1) := by decide +kernel
theorem dL_law_1607 : decode cL_law 1607 = .ok (.iconst 0, 1) := by decide +kernel
theorem dL_law_1608 : decode cL_law 1608 = .ok (.laload, 1) := by decide +kernel
theorem dL_law_1609 : decode cL_law 1609 = .ok (.iload 6, 2) := by decide +kernel
theorem dL_law_1611 : decode cL_law 1611 = .ok (.i2l, 1) := by decide +kernel
theorem dL_law_1612 : decode cL_law 1612 = .ok (.lcmp, 1) := by decide +kernel
theorem dL_law_1613 : decode cL_law 1613 = .ok (.ifCond .eq 5, 3) := by decide +kernel
theorem dL_law_1616 : decode cL_law 1616 = .ok (.iconst 0, 1) := by decide +kernel
theorem dL_law_1617 : decode cL_law 1617 = .ok (.ireturn, 1) := by decide +kernel
theorem dL_law_1618 : decode cL_law 1618 = .ok (.goto 202, 3) := by decide +kernel
theorem dL_law_1621 : decode cL_law 1621 = .ok (.aload_n 1, 1) := by decide +kernel
theorem dL_law_1622 : decode cL_law 1622 = .ok (.aload_n 0, 1) := by decide +kernel
theorem dL_law_1623 : decode cL_law 1623 = .ok (.iload 4, 2) := by decide +kernel
theorem dL_law_1625 : decode cL_law 1625 = .ok (.iconst 1, 1) := by decide +kernel
theorem dL_law_1626 : decode cL_law 1626 = .ok (.iadd, 1) := by decide +kernel
theorem dL_law_1627 : decode cL_law 1627 = .ok (.iaload, 1) := by decide +kernel
theorem dL_law_1628 : decode cL_law 1628 = .ok (.aload_n 0, 1) := by decide +kernel
theorem dL_law_1629 : decode cL_law 1629 = .ok (.iload 4, 2) := by decide +kernel
theorem dL_law_1631 : decode cL_law 1631 = .ok (.iconst 2, 1) := by decide +kernel
theorem dL_law_1632 : decode cL_law 1632 = .ok (.iadd, 1) := by decide +kernel
theorem dL_law_1633 : decode cL_law 1633 = .ok (.iaload, 1) := by decide +kernel
theorem dL_law_1634 : decode cL_law 1634 = .ok (.aload_n 0, 1) := by decide +kernel
theorem dL_law_1635 : decode cL_law 1635 = .ok (.iload 4, 2) := by decide +kernel
theorem dL_law_1637 : decode cL_law 1637 = .ok (.iconst 3, 1) := by decide +kernel
theorem dL_law_1638 : decode cL_law 1638 = .ok (.iadd, 1) := by decide +kernel
theorem dL_law_1639 : decode cL_law 1639 = .ok (.iaload, 1) := by decide +kernel
theorem dL_law_1640 : decode cL_law 1640 = .ok (.aload_n 0, 1) := by decide +kernel
theorem dL_law_1641 : decode cL_law 1641 = .ok (.iload 4, 2) := by decide +kernel
theorem dL_law_1643 : decode cL_law 1643 = .ok (.iconst 4, 1) := by decide +kernel
theorem dL_law_1644 : decode cL_law 1644 = .ok (.iadd, 1) := by decide +kernel
theorem dL_law_1645 : decode cL_law 1645 = .ok (.iaload, 1) := by decide +kernel
theorem dL_law_1646 : decode cL_law 1646 = .ok (.aload_n 0, 1) := by decide +kernel
theorem dL_law_1647 : decode cL_law 1647 = .ok (.iload 4, 2) := by decide +kernel
theorem dL_law_1649 : decode cL_law 1649 = .ok (.iconst 5, 1) := by decide +kernel
theorem dL_law_1650 : decode cL_law 1650 = .ok (.iadd, 1) := by decide +kernel
theorem dL_law_1651 : decode cL_law 1651 = .ok (.iaload, 1) := by decide +kernel
theorem dL_law_1652 : decode cL_law 1652 = .ok (.aload_n 3, 1) := by decide +kernel
theorem dL_law_1653 : decode cL_law 1653 = .ok (.invokestatic 168, 3) := by decide +kernel
theorem dL_law_1656 : decode cL_law 1656 = .ok (.istore 5, 2) := by decide +kernel
theorem dL_law_1658 : decode cL_law 1658 = .ok (.aload_n 2, 1) := by decide +kernel
theorem dL_law_1659 : decode cL_law 1659 = .ok (.aload_n 0, 1) := by decide +kernel
theorem dL_law_1660 : decode cL_law 1660 = .ok (.iload 4, 2) := by decide +kernel
theorem dL_law_1662 : decode cL_law 1662 = .ok (.iconst 1, 1) := by decide +kernel
theorem dL_law_1663 : decode cL_law 1663 = .ok (.iadd, 1) := by decide +kernel
theorem dL_law_1664 : decode cL_law 1664 = .ok (.iaload, 1) := by decide +kernel
theorem dL_law_1665 : decode cL_law 1665 = .ok (.aload_n 0, 1) := by decide +kernel
theorem dL_law_1666 : decode cL_law 1666 = .ok (.iload 4, 2) := by decide +kernel
theorem dL_law_1668 : decode cL_law 1668 = .ok (.iconst 2, 1) := by decide +kernel
theorem dL_law_1669 : decode cL_law 1669 = .ok (.iadd, 1) := by decide +kernel
theorem dL_law_1670 : decode cL_law 1670 = .ok (.iaload, 1) := by decide +kernel
theorem dL_law_1671 : decode cL_law 1671 = .ok (.aload_n 0, 1) := by decide +kernel
theorem dL_law_1672 : decode cL_law 1672 = .ok (.iload 4, 2) := by decide +kernel
theorem dL_law_1674 : decode cL_law 1674 = .ok (.iconst 3, 1) := by decide +kernel
theorem dL_law_1675 : decode cL_law 1675 = .ok (.iadd, 1) := by decide +kernel
theorem dL_law_1676 : decode cL_law 1676 = .ok (.iaload, 1) := by decide +kernel
theorem dL_law_1677 : decode cL_law 1677 = .ok (.aload_n 0, 1) := by decide +kernel
theorem dL_law_1678 : decode cL_law 1678 = .ok (.iload 4, 2) := by decide +kernel
theorem dL_law_1680 : decode cL_law 1680 = .ok (.iconst 4, 1) := by decide +kernel
theorem dL_law_1681 : decode cL_law 1681 = .ok (.iadd, 1) := by decide +kernel
theorem dL_law_1682 : decode cL_law 1682 = .ok (.iaload, 1) := by decide +kernel
theorem dL_law_1683 : decode cL_law 1683 = .ok (.aload_n 0, 1) := by decide +kernel
theorem dL_law_1684 : decode cL_law 1684 = .ok (.iload 4, 2) := by decide +kernel
theorem dL_law_1686 : decode cL_law 1686 = .ok (.iconst 5, 1) := by decide +kernel
theorem dL_law_1687 : decode cL_law 1687 = .ok (.iadd, 1) := by decide +kernel
theorem dL_law_1688 : decode cL_law 1688 = .ok (.iaload, 1) := by decide +kernel
theorem dL_law_1689 : decode cL_law 1689 = .ok (.invokevirtual 171, 3) := by decide +kernel
theorem dL_law_1692 : decode cL_law 1692 = .ok (.istore 6, 2) := by decide +kernel
theorem dL_law_1694 : decode cL_law 1694 = .ok (.aload_n 2, 1) := by decide +kernel
theorem dL_law_1695 : decode cL_law 1695 = .ok (.invokevirtual 98, 3) := by decide +kernel
theorem dL_law_1698 : decode cL_law 1698 = .ok (.iload 5, 2) := by decide +kernel
theorem dL_law_1700 : decode cL_law 1700 = .ok (.if_icmp .eq 5, 3) := by decide +kernel
theorem dL_law_1703 : decode cL_law 1703 = .ok (.iconst 0, 1) := by decide +kernel
theorem dL_law_1704 : decode cL_law 1704 = .ok (.ireturn, 1) := by decide +kernel
theorem dL_law_1705 : decode cL_law 1705 = .ok (.iload 5, 2) := by decide +kernel
theorem dL_law_1707 : decode cL_law 1707 = .ok (.ifCond .ne 15, 3) := by decide +kernel
theorem dL_law_1710 : decode cL_law 1710 = .ok (.aload_n 3, 1) := by decide +kernel
theorem dL_law_1711 : decode cL_law 1711 = .ok (.iconst 0, 1) := by decide +kernel
theorem dL_law_1712 : decode cL_law 1712 = .ok (.laload, 1) := by decide +kernel
theorem dL_law_1713 : decode cL_law 1713 = .ok (.iload 6, 2) := by decide +kernel
theorem dL_law_1715 : decode cL_law 1715 = .ok (.i2l, 1) := by decide +kernel
theorem dL_law_1716 : decode cL_law 1716 = .ok (.lcmp, 1) := by decide +kernel
theorem dL_law_1717 : decode cL_law 1717 = .ok (.ifCond .eq 5, 3) := by decide +kernel
theorem dL_law_1720 : decode cL_law 1720 = .ok (.iconst 0, 1) := by decide +kernel
theorem dL_law_1721 : decode cL_law 1721 = .ok (.ireturn, 1) := by decide +kernel
theorem dL_law_1722 : decode cL_law 1722 = .ok (.goto 98, 3) := by decide +kernel
theorem dL_law_1725 : decode cL_law 1725 = .ok (.aload_n 1, 1) := by decide +kernel
theorem dL_law_1726 : decode cL_law 1726 = .ok (.invokevirtual 172, 3) := by decide +kernel
theorem dL_law_1729 : decode cL_law 1729 = .ok (.aload_n 2, 1) := by decide +kernel
theorem dL_law_1730 : decode cL_law 1730 = .ok (.invokevirtual 175, 3) := by decide +kernel
theorem dL_law_1733 : decode cL_law 1733 = .ok (.if_icmp .eq 87, 3) := by decide +kernel
theorem dL_law_1736 : decode cL_law 1736 = .ok (.iconst 0, 1) := by decide +kernel
theorem dL_law_1737 : decode cL_law 1737 = .ok (.ireturn, 1) := by decide +kernel
theorem dL_law_1738 : decode cL_law 1738 = .ok (.aload_n 1, 1) := by decide +kernel
theorem dL_law_1739 : decode cL_law 1739 = .ok (.aload_n 0, 1) := by decide +kernel
theorem dL_law_1740 : decode cL_law 1740 = .ok (.iload 4, 2) := by decide +kernel
theorem dL_law_1742 : decode cL_law 1742 = .ok (.iconst 1, 1) := by decide +kernel
theorem dL_law_1743 : decode cL_law 1743 = .ok (.iadd, 1) := by decide +kernel
theorem dL_law_1744 : decode cL_law 1744 = .ok (.iaload, 1) := by decide +kernel
theorem dL_law_1745 : decode cL_law 1745 = .ok (.aload_n 0, 1) := by decide +kernel
theorem dL_law_1746 : decode cL_law 1746 = .ok (.iload 4, 2) := by decide +kernel
theorem dL_law_1748 : decode cL_law 1748 = .ok (.iconst 2, 1) := by decide +kernel
theorem dL_law_1749 : decode cL_law 1749 = .ok (.iadd, 1) := by decide +kernel
theorem dL_law_1750 : decode cL_law 1750 = .ok (.iaload, 1) := by decide +kernel
theorem dL_law_1751 : decode cL_law 1751 = .ok (.aload_n 3, 1) := by decide +kernel
theorem dL_law_1752 : decode cL_law 1752 = .ok (.invokestatic 176, 3) := by decide +kernel
theorem dL_law_1755 : decode cL_law 1755 = .ok (.istore 5, 2) := by decide +kernel
theorem dL_law_1757 : decode cL_law 1757 = .ok (.aload_n 2, 1) := by decide +kernel
theorem dL_law_1758 : decode cL_law 1758 = .ok (.aload_n 0, 1) := by decide +kernel
theorem dL_law_1759 : decode cL_law 1759 = .ok (.iload 4, 2) := by decide +kernel
theorem dL_law_1761 : decode cL_law 1761 = .ok (.iconst 1, 1) := by decide +kernel
theorem dL_law_1762 : decode cL_law 1762 = .ok (.iadd, 1) := by decide +kernel
theorem dL_law_1763 : decode cL_law 1763 = .ok (.iaload, 1) := by decide +kernel
theorem dL_law_1764 : decode cL_law 1764 = .ok (.aload_n 0, 1) := by decide +kernel
theorem dL_law_1765 : decode cL_law 1765 = .ok (.iload 4, 2) := by decide +kernel
theorem dL_law_1767 : decode cL_law 1767 = .ok (.iconst 2, 1) := by decide +kernel
theorem dL_law_1768 : decode cL_law 1768 = .ok (.iadd, 1) := by decide +kernel
theorem dL_law_1769 : decode cL_law 1769 = .ok (.iaload, 1) := by decide +kernel
theorem dL_law_1770 : decode cL_law 1770 = .ok (.invokevirtual 178, 3) := by decide +kernel
theorem dL_law_1773 : decode cL_law 1773 = .ok (.istore 6, 2) := by decide +kernel
theorem dL_law_1775 : decode cL_law 1775 = .ok (.aload_n 2, 1) := by decide +kernel
theorem dL_law_1776 : decode cL_law 1776 = .ok (.invokevirtual 98, 3) := by decide +kernel
theorem dL_law_1779 : decode cL_law 1779 = .ok (.iload 5, 2) := by decide +kernel
theorem dL_law_1781 : decode cL_law 1781 = .ok (.if_icmp .eq 5, 3) := by decide +kernel
theorem dL_law_1784 : decode cL_law 1784 = .ok (.iconst 0, 1) := by decide +kernel
theorem dL_law_1785 : decode cL_law 1785 = .ok (.ireturn, 1) := by decide +kernel
theorem dL_law_1786 : decode cL_law 1786 = .ok (.iload 5, 2) := by decide +kernel
theorem dL_law_1788 : decode cL_law 1788 = .ok (.ifCond .ne 15, 3) := by decide +kernel
theorem dL_law_1791 : decode cL_law 1791 = .ok (.aload_n 3, 1) := by decide +kernel
theorem dL_law_1792 : decode cL_law 1792 = .ok (.iconst 0, 1) := by decide +kernel
theorem dL_law_1793 : decode cL_law 1793 = .ok (.laload, 1) := by decide +kernel
theorem dL_law_1794 : decode cL_law 1794 = .ok (.iload 6, 2) := by decide +kernel
theorem dL_law_1796 : decode cL_law 1796 = .ok (.i2l, 1) := by decide +kernel
theorem dL_law_1797 : decode cL_law 1797 = .ok (.lcmp, 1) := by decide +kernel
theorem dL_law_1798 : decode cL_law 1798 = .ok (.ifCond .eq 5, 3) := by decide +kernel
theorem dL_law_1801 : decode cL_law 1801 = .ok (.iconst 0, 1) := by decide +kernel
theorem dL_law_1802 : decode cL_law 1802 = .ok (.ireturn, 1) := by decide +kernel
theorem dL_law_1803 : decode cL_law 1803 = .ok (.goto 17, 3) := by decide +kernel
theorem dL_law_1806 : decode cL_law 1806 = .ok (.aload_n 1, 1) := by decide +kernel
theorem dL_law_1807 : decode cL_law 1807 = .ok (.invokevirtual 179, 3) := by decide +kernel
theorem dL_law_1810 : decode cL_law 1810 = .ok (.aload_n 2, 1) := by decide +kernel
theorem dL_law_1811 : decode cL_law 1811 = .ok (.invokevirtual 183, 3) := by decide +kernel
theorem dL_law_1814 : decode cL_law 1814 = .ok (.lcmp, 1) := by decide +kernel
theorem dL_law_1815 : decode cL_law 1815 = .ok (.ifCond .eq 5, 3) := by decide +kernel
theorem dL_law_1818 : decode cL_law 1818 = .ok (.iconst 0, 1) := by decide +kernel
theorem dL_law_1819 : decode cL_law 1819 = .ok (.ireturn, 1) := by decide +kernel
theorem dL_law_1820 : decode cL_law 1820 = .ok (.iinc 4 7, 3) := by decide +kernel
theorem dL_law_1823 : decode cL_law 1823 = .ok (.goto (-1800), 3) := by decide +kernel
theorem dL_law_1826 : decode cL_law 1826 = .ok (.iconst 1, 1) := by decide +kernel
theorem dL_law_1827 : decode cL_law 1827 = .ok (.ireturn, 1) := by decide +kernel
end
section
/-! words of the tables that stay true as the run goes on -/
def stn : Cond → Bool
  | .fieldLinkNest _ _ _ _ _ _ => true
  | .methodLinkNest _ _ _ _ => true
  | .castable _ _ => true
  | .declares _ => true
  | _ => false
def stb (w : Cond) : Bool := goodWord w || stn w
def Wd (U : State) : Prop := ∀ w ∈ lw_tbl, stb w = true → w.before #[] U = true
theorem stn_go {w : Cond} {s U : State} (hs : stn w = true) (hW : s.WarmedH U.vm) (h1 : w.before #[] s = true) : w.before #[] U = true := by
  unfold stn at hs
  split at hs
  · exact va_Nw.warmF hW h1
  · exact va_Nw.warmM hW h1
  · exact va_Nw.warmC hW h1
  · exact va_Nw.warmD hW h1
  · cases hs
theorem Wd.go {s U : State} (hW : s.WarmedH U.vm) (h : Wd s) : Wd U := by
  intro w hw hs
  have h1 := h w hw hs
  by_cases hg : goodWord w = true
  · exact word_at hW (good_of_word hg) h1
  · unfold stb at hs
    rcases (Bool.or_eq_true _ _).mp hs with q | q
    · exact absurd q hg
    · exact stn_go q hW h1
theorem Wd.at {s : State} (h : Wd s) {w : Cond} (hw : w ∈ lw_tbl) (hg : goodWord w = true) (args : Array Value) : w.before args s = true := word_at (State.WarmedH.refl s) (good_of_word hg) (h w hw (by unfold stb; rw [hg]; rfl))
def WG : List Cond := lw_tbl.filter goodWord
theorem Wd.hts {s : State} (h : Wd s) (args : Array Value) : ∀ w ∈ WG, w.before args s = true := fun w hw => by
  obtain ⟨h1, h2⟩ := List.mem_filter.mp hw
  exact h.at h1 h2 args
theorem wg_t (n : Nat) {w : Cond} (h : tables_1[n]? = some w) (hg : goodWord w = true) : w ∈ WG := List.mem_filter.mpr ⟨List.mem_append_right _ (List.mem_of_getElem? h), hg⟩
theorem wg_s (n : Nat) {w : Cond} (h : (k2_sels lw_privs)[n]? = some w) (hg : goodWord w = true) : w ∈ WG := List.mem_filter.mpr ⟨List.mem_append_left _ (List.mem_of_getElem? h), hg⟩
theorem wn_t (n : Nat) {w : Cond} (h : tables_1[n]? = some w) (hg : stb w = true) {s : State} (hW : Wd s) : va_Nw w s := hW w (List.mem_append_right _ (List.mem_of_getElem? h)) hg
theorem wg_good {w : Cond} (h : w ∈ WG) : (w.onTables && w.keeps) = true ∨ ∃ ty, w = .arrayClass ty := good_of_word (List.mem_filter.mp h).2
/-- a class's words, by the places of each -/
theorem wg_ps {ws : List Cond} (ps : List Nat) (hp : ps.map (fun i => tables_1[i]?) = ws.map some) (hg : ws.all goodWord = true) : ∀ w ∈ ws, w ∈ WG := by
  intro w hw
  have h1 : some w ∈ ps.map (fun i => tables_1[i]?) := by rw [hp]; exact List.mem_map.mpr ⟨w, hw, rfl⟩
  obtain ⟨i, -, hi⟩ := List.mem_map.mp h1
  exact wg_t i hi (List.all_eq_true.mp hg w hw)
/-! calls: their words -/
def KV (own : String) (idx : Nat) (C : String) (y : MethodName) (b : ByteArray) (n : Nat) (ret : Option FieldType) (np : Nat) : Prop :=
  GoodIn WG (wsV own idx C y [.code y b n ret]) ∧ (y.cls = C ∧ y.cls ≠ "java/lang/invoke/MethodHandle" ∧ y.cls ≠ "java/lang/invoke/VarHandle" ∧ (parseMethodDescriptor y.desc).map (fun d => d.parameters.length) = some np)
def KS (own : String) (idx : Nat) (y : MethodName) (b : ByteArray) (n : Nat) (ret : Option FieldType) (np : Nat) : Prop :=
  GoodIn WG (va_wsS own idx y [.code y b n ret]) ∧ (y.cls ≠ "java/lang/invoke/MethodHandle" ∧ y.cls ≠ "java/lang/invoke/VarHandle" ∧ (parseMethodDescriptor y.desc).map (fun d => d.parameters.length) = some np)
def KI (own : String) (idx : Nat) (y : MethodName) (b : ByteArray) (n : Nat) (np : Nat) : Prop :=
  GoodIn WG [.code y b n none] ∧ .initialized y.cls ∈ WG ∧ .methodLink own idx y ∈ WG ∧ .instanceMethod y ∈ WG ∧ y.name = "<init>" ∧ (y.cls ≠ "java/lang/invoke/MethodHandle" ∧ y.cls ≠ "java/lang/invoke/VarHandle" ∧ (parseMethodDescriptor y.desc).map (fun d => d.parameters.length) = some np)
theorem KV.of {own : String} {idx : Nat} {C : String} {y : MethodName} {b : ByteArray} {n : Nat} {ret : Option FieldType} {np : Nat} (h1 : .methodLink own idx y ∈ WG) (h2 : .instanceMethod y ∈ WG) (h3 : .selects C y y ∈ WG) (h4 : .initialized C ∈ WG) (h5 : .code y b n ret ∈ WG) (hd : y.cls = C ∧ y.cls ≠ "java/lang/invoke/MethodHandle" ∧ y.cls ≠ "java/lang/invoke/VarHandle" ∧ (parseMethodDescriptor y.desc).map (fun d => d.parameters.length) = some np) : KV own idx C y b n ret np := by
  refine ⟨fun w hw => ?_, hd⟩
  have h : w ∈ WG := by
    simp only [wsV, List.mem_append, List.mem_cons, List.not_mem_nil, or_false] at hw
    rcases hw with (rfl | rfl | rfl | rfl) | rfl <;> assumption
  exact ⟨h, wg_good h⟩
theorem KS.of {own : String} {idx : Nat} {y : MethodName} {b : ByteArray} {n : Nat} {ret : Option FieldType} {np : Nat} (h1 : .methodLink own idx y ∈ WG) (h2 : .static y ∈ WG) (h4 : .initialized y.cls ∈ WG) (h5 : .code y b n ret ∈ WG) (hd : y.cls ≠ "java/lang/invoke/MethodHandle" ∧ y.cls ≠ "java/lang/invoke/VarHandle" ∧ (parseMethodDescriptor y.desc).map (fun d => d.parameters.length) = some np) : KS own idx y b n ret np := by
  refine ⟨fun w hw => ?_, hd⟩
  have h : w ∈ WG := by
    simp only [va_wsS, List.mem_append, List.mem_cons, List.not_mem_nil, or_false] at hw
    rcases hw with (rfl | rfl | rfl) | rfl <;> assumption
  exact ⟨h, wg_good h⟩
theorem KI.of {own : String} {idx : Nat} {y : MethodName} {b : ByteArray} {n np : Nat} (h1 : .methodLink own idx y ∈ WG) (h2 : .instanceMethod y ∈ WG) (h4 : .initialized y.cls ∈ WG) (h5 : .code y b n none ∈ WG) (hn : y.name = "<init>") (hd : y.cls ≠ "java/lang/invoke/MethodHandle" ∧ y.cls ≠ "java/lang/invoke/VarHandle" ∧ (parseMethodDescriptor y.desc).map (fun d => d.parameters.length) = some np) : KI own idx y b n np := by
  refine ⟨fun w hw => ?_, h4, h1, h2, hn, hd⟩
  rw [List.mem_singleton.mp hw]
  exact ⟨h5, wg_good h5⟩
/-! the environment: E.1: classes and slots; E.2: 0 where the run's own cells begin; 1 .. 4 the classes of int[], Layer[], Object[], long[]; 5 .. 8 the tables; 9 the empty elementData; 10 the mirror; 20 + j the j-th text -/
abbrev En : Type := va_G × (Nat → Nat)
def tyl (E : En) : List (ClassId × FieldType) := [(E.2 1, .int), (E.2 2, .object "Wallcode$Layer"), (E.2 3, .object "java/lang/Object"), (E.2 4, .long)]
def bA (E : En) : Nat → Prop := fun q => E.2 0 ≤ q
def wtf (j : Nat) : Int32 := if j = 0 then 1 else if j = 1 then 2 else if j = 2 then 4 else 7
def tkf (j : Nat) : Int32 := if j = 0 then 6 else if j = 1 then 20 else if j = 2 then 60 else 90
def Gt (E : En) (C n : String) (k : Nat) (f : Nat → Int32) (U : State) (H : Heap) : Prop := va_Z C n "[I" (.ref (E.2 k)) (bA E) U H ∧ va_T .int (E.2 k) 4 (fun j => .int (f j)) (bA E) U H
def Ge (E : En) (U : State) (H : Heap) : Prop := va_Z "java/util/ArrayList" "DEFAULTCAPACITY_EMPTY_ELEMENTDATA" "[Ljava/lang/Object;" (.ref (E.2 9)) (bA E) U H ∧ va_T (.object "java/lang/Object") (E.2 9) 0 (fun _ => .null) (bA E) U H
def Gx (E : En) (U : State) (H : Heap) : Prop := vx_Zq Bundle.tN "UNASSIGNED_STACK" Bundle.steD (bA E) U H ∧ vx_Zq Bundle.tN "SUPPRESSED_SENTINEL" Bundle.listD (bA E) U H
def Gs (E : En) (U : State) (H : Heap) : Prop := Gt E "Wallcode" "WEIGHTS" 5 wtf U H ∧ Gt E "Wallcode" "CELL_MINUTES" 6 tkf U H ∧ Gt E "WallcodeModel" "WEIGHTS" 7 wtf U H ∧ Gt E "WallcodeModel" "TAKES" 8 tkf U H ∧ Ge E U H ∧ Gx E U H
theorem Gt.go {E : En} {C n : String} {k : Nat} {f : Nat → Int32} {u U : State} {H H1 : Heap} (hvm : u.vm.Alike U.vm) (hq : ∀ a : Nat, a < H.size → ¬ bA E a → H1[a]? = H[a]?) (h : Gt E C n k f u H) : Gt E C n k f U H1 := ⟨(h.1.moved hvm).kept hq, (h.2.moved hvm).kept hq⟩
theorem Gs.go {E : En} {u U : State} {H H1 : Heap} (hvm : u.vm.Alike U.vm) (hq : ∀ a : Nat, a < H.size → ¬ bA E a → H1[a]? = H[a]?) (h : Gs E u H) : Gs E U H1 :=
  ⟨h.1.go hvm hq, h.2.1.go hvm hq, h.2.2.1.go hvm hq, h.2.2.2.1.go hvm hq, ⟨(h.2.2.2.2.1.1.moved hvm).kept hq, (h.2.2.2.2.1.2.moved hvm).kept hq⟩, ⟨(h.2.2.2.2.2.1.moved hvm).kept hq, (h.2.2.2.2.2.2.moved hvm).kept hq⟩⟩
def strl : List (String × Nat × String) := [("Wallcode", 322, "what is not 0 to 11"), ("Wallcode", 386, "there is no such wall"), ("Wallcode", 233, "what is not 0 to 6"), ("Wallcode", 237, "there is no such cell"), ("Wallcode", 388, "there is no such hand"), ("Wallcode", 268, "what is not 0 to 10"), ("Wallcode", 337, "nights are not 0 to 30"), ("Wallcode", 390, "there is no such layer"), ("Wallcode", 293, "what is not 0 to 13"), ("Wallcode", 104, "nothing is painted so"), ("Wallcode", 38, "a wall is not so"), ("Wallcode", 49, "there are 6 walls"), ("Wallcode", 61, "a hand is not so"), ("Wallcode", 63, "there are 8 hands"), ("Wallcode", 72, "a permit is not so"), ("Wallcode", 84, "a watch is not so"), ("Wallcode", 112, "too few minutes are left, or there are 60 layers"), ("Wallcode", 152, "there are not coins enough"), ("Wallcode", 189, "the layer is not seen"), ("Wallcode", 211, "nights are not 1 to 30"), ("Wallcode", 213, "the night would be above 400")]
def Cs (E : En) (U : State) : Prop := va_K E.1 vwCl (tyl E) U ∧ Wd U ∧ Gs E U U.heap ∧ E.2 0 ≤ U.heap.size ∧ (∀ (j : Nat) (q : String × Nat × String), strl[j]? = some q → vk_R q.1 q.2.1 q.2.2 (E.2 (20 + j)) U) ∧ va_Mi "[Ljava/lang/Object;" (E.2 10) U ∧ va_AO "Wallcode$Layer" U ∧ va_AO "java/lang/Object" U
theorem Cs.go {E : En} {s U : State} {A : Nat → Prop} {H : Heap} {locs : List Loc} (h : Cs E s) (hW : s.WarmedH U.vm) (hU : U.heap = H) (hS : va_S A s.heap H locs) (hA : ∀ q, A q → bA E q) : Cs E U := by
  obtain ⟨h1, h2, h3, h4, h5, h6, h7, h8⟩ := h
  refine ⟨h1.moved hW.alike, h2.go hW, ?_, ?_, fun j q hj => (h5 j q hj).warm hW, h6.moved hW.alike, h7.moved hW.alike, h8.moved hW.alike⟩
  · refine h3.go hW.alike fun a ha hb => ?_
    rw [hU]
    exact hS.2.1 a ha fun q => hb (hA a q)
  · rw [hU]
    exact Nat.le_trans h4 hS.1
theorem Cs.calling {E : En} {U : State} (h : Cs E U) (g : JFrame) (mk : MethodId) (a : Array Value) : Cs E (U.calling g mk a) := by
  have hW : U.WarmedH (U.calling g mk a).vm := State.WarmedH.refl U
  exact h.go (A := fun _ => False) (H := U.heap) (locs := []) hW rfl va_S.rf (fun _ q => q.elim)
/-! a picture: cells by kind and number, at addresses L; ct says what each holds, ad where it lies -/
def PI (D : va_G) (L : List Nat) (ct : Nat → Nat → Option va_E) (ad : Nat → Nat → Nat) (H : Heap) : Prop :=
  ∃ f : Nat → va_E, va_P D vwCl (va_pl L f) H ∧ va_D (fun q => q ∈ L) (va_pl L f) ∧ (∀ k i e, ct k i = some e → ad k i ∈ L ∧ f (ad k i) = e) ∧ (∀ k i k' i' e e', ct k i = some e → ct k' i' = some e' → ad k i = ad k' i' → k = k' ∧ i = i')
def ctu (ct : Nat → Nat → Option va_E) (k i : Nat) (e : va_E) : Nat → Nat → Option va_E := fun k' i' => if k' = k ∧ i' = i then some e else ct k' i'
section PIS
variable {D : va_G} {L : List Nat} {ct : Nat → Nat → Option va_E} {ad : Nat → Nat → Nat} {H H1 : Heap}
theorem PI.one (h : PI D L ct ad H) {k i : Nat} {e : va_E} (hc : ct k i = some e) : va_P D vwCl [(ad k i, e)] H := by
  obtain ⟨f, hP, hD, hm, hi⟩ := h
  obtain ⟨h1, h2⟩ := hm k i e hc
  obtain ⟨n, hn⟩ := va_pl_get (X := []) (f := f) h1
  intro j q hj
  match j, hj with
  | 0, hj =>
    have e1 : (ad k i, e) = q := Option.some.inj hj
    rw [← e1, ← h2]
    exact hP n _ hn
  | j + 1, hj => simp at hj
theorem PI.lt (h : PI D L ct ad H) {q : Nat} (hq : q ∈ L) : q < H.size := by
  obtain ⟨f, hP, -⟩ := h
  obtain ⟨n, hn⟩ := va_pl_get (X := []) (f := f) hq
  exact (hP n _ hn).lt
theorem PI.own (h : PI D L ct ad H) {k i : Nat} {e : va_E} (hc : ct k i = some e) : ad k i ∈ L := by
  obtain ⟨f, hP, hD, hm, hi⟩ := h
  exact (hm k i e hc).1
theorem PI.kept (h : PI D L ct ad H) (hk : ∀ q, q < H.size → q ∈ L → H1[q]? = H[q]?) : PI D L ct ad H1 := by
  have hlt := fun q hq => h.lt (q := q) hq
  obtain ⟨f, hP, hD, hm, hi⟩ := h
  exact ⟨f, hP.kept fun k q hq => hk q.1 (hlt _ (hD.2 k q hq)) (hD.2 k q hq), hD, hm, hi⟩
theorem PI.ext {ct2 : Nat → Nat → Option va_E} (h : PI D L ct ad H) (e : ∀ k i, ct2 k i = ct k i) : PI D L ct2 ad H := by
  have : ct2 = ct := funext fun k => funext fun i => e k i
  rw [this]; exact h
/-- fewer cells, or other addresses of the same: what is still said is true -/
theorem PI.sub {ct2 : Nat → Nat → Option va_E} {ad2 : Nat → Nat → Nat} (h : PI D L ct ad H) (e : ∀ k i x, ct2 k i = some x → ct k i = some x ∧ ad2 k i = ad k i) : PI D L ct2 ad2 H := by
  obtain ⟨f, hP, hD, hm, hi⟩ := h
  refine ⟨f, hP, hD, fun k i x hx => ?_, fun k i k' i' x x' hx hx' hq => ?_⟩
  · obtain ⟨e1, e2⟩ := e k i x hx
    rw [e2]; exact hm k i x e1
  · obtain ⟨e1, e2⟩ := e k i x hx
    obtain ⟨e3, e4⟩ := e k' i' x' hx'
    exact hi k i k' i' x x' e1 e3 (by rw [← e2, ← e4]; exact hq)
theorem PI.setAt {f : Nat → va_E} {k i : Nat} {e0 e : va_E} {n : Nat} (hD : va_D (fun q => q ∈ L) (va_pl L f)) (hm : ∀ k i e, ct k i = some e → ad k i ∈ L ∧ f (ad k i) = e) (hi : ∀ k i k' i' e e', ct k i = some e → ct k' i' = some e' → ad k i = ad k' i' → k = k' ∧ i = i') (hc : ct k i = some e0) (hn : (va_pl L f)[n]? = some (ad k i, f (ad k i))) (hP : va_P D vwCl ((va_pl L f).set n (ad k i, e)) H1) : PI D L (ctu ct k i e) ad H1 := by
  have e1 := va_pl_set (X := []) (e := e) hD (hm k i e0 hc).1 hn
  rw [List.nil_append, List.nil_append] at e1
  rw [e1] at hP
  refine ⟨va_up f (ad k i) e, hP, ?_, fun k' i' x hx => ?_, fun k1 i1 k2 i2 x1 x2 h1 h2 hq => ?_⟩
  · rw [← e1]; exact hD.set hn
  · unfold ctu at hx
    by_cases c : k' = k ∧ i' = i
    · rw [if_pos c] at hx
      rw [c.1, c.2, ← Option.some.inj hx]
      exact ⟨(hm k i e0 hc).1, va_up_self _ _ _⟩
    · rw [if_neg c] at hx
      refine ⟨(hm k' i' x hx).1, ?_⟩
      rw [va_up_ne _ _ (fun q => c (hi k' i' k i x e0 hx hc q))]
      exact (hm k' i' x hx).2
  · have key : ∀ k' i' x, ctu ct k i e k' i' = some x → ∃ x', ct k' i' = some x' := fun k' i' x hx => by
      unfold ctu at hx
      by_cases c : k' = k ∧ i' = i
      · rw [c.1, c.2]; exact ⟨e0, hc⟩
      · rw [if_neg c] at hx; exact ⟨x, hx⟩
    obtain ⟨y1, g1⟩ := key _ _ _ h1
    obtain ⟨y2, g2⟩ := key _ _ _ h2
    exact hi k1 i1 k2 i2 y1 y2 g1 g2 hq
end PIS
end
section
def bI (b : Bool) : Int32 := if b = true then 1 else 0
theorem bI0 {b : Bool} : bI b = 0 ↔ b = false := by cases b <;> decide
theorem bI1 {b : Bool} : ¬ bI b = 0 ↔ b = true := by cases b <;> decide
theorem bI_nar (b : Bool) : narrow .boolean (.int (bI b)) = .int (bI b) := by cases b <;> rfl
theorem bI_fit (b : Bool) : fits .boolean (.int (bI b)) = true := by cases b <;> rfl
abbrev rmk (f c s lo : Nat) : Room := { frames := f, cells := c, slots := s, locals := lo }
section RWA
variable {p : Program} {l : Launch} {e : Env} {R : Room} {s : State} {m : MethodId} {args : Array Value} {below : List Frame} {meth : Method} {c : Code} {H : Heap} {locs : List Loc} {cells slots : Nat} {Q : State → Prop}
variable {cc : ByteArray} {pc : Nat} {ls : Array Slot} {rest : List Value}
theorem lv_iaddN (hx : p.tables.exec = Jvm.exec) (hb : c.code = cc) {x y : Nat} (hdg : decode cc pc = .ok (.iadd, 1)) (k : W p l e R s m args below meth c H locs cells slots Q (F0 m (pc + 1) ls (.int (nI (x + y)) :: rest))) : W p l e R s m args below meth c H locs cells slots Q (F0 m pc ls (.int (nI y) :: .int (nI x) :: rest)) :=
  lv_iadd hx hb hdg (by rw [nI_add]; exact k)
theorem lv_isubN (hx : p.tables.exec = Jvm.exec) (hb : c.code = cc) {x y : Nat} (hdg : decode cc pc = .ok (.isub, 1)) (h : y ≤ x) (k : W p l e R s m args below meth c H locs cells slots Q (F0 m (pc + 1) ls (.int (nI (x - y)) :: rest))) : W p l e R s m args below meth c H locs cells slots Q (F0 m pc ls (.int (nI y) :: .int (nI x) :: rest)) :=
  lv_isub hx hb hdg (by rw [pk_sub h]; exact k)
theorem lv_imulN (hx : p.tables.exec = Jvm.exec) (hb : c.code = cc) {x y : Nat} (hdg : decode cc pc = .ok (.imul, 1)) (k : W p l e R s m args below meth c H locs cells slots Q (F0 m (pc + 1) ls (.int (nI (x * y)) :: rest))) : W p l e R s m args below meth c H locs cells slots Q (F0 m pc ls (.int (nI y) :: .int (nI x) :: rest)) :=
  lv_imul hx hb hdg (by rw [pk_mul]; exact k)
theorem lv_idivN (hx : p.tables.exec = Jvm.exec) (hb : c.code = cc) {x y : Nat} (hdg : decode cc pc = .ok (.idiv, 1)) (h1 : x < 2 ^ 31) (h2 : 0 < y) (h3 : y < 2 ^ 31) (k : W p l e R s m args below meth c H locs cells slots Q (F0 m (pc + 1) ls (.int (nI (x / y)) :: rest))) : W p l e R s m args below meth c H locs cells slots Q (F0 m pc ls (.int (nI y) :: .int (nI x) :: rest)) :=
  lv_idiv hx hb hdg (nI_ne0 h2 h3) (by rw [pk_div h1 h2 h3]; exact k)
theorem lv_iremN (hx : p.tables.exec = Jvm.exec) (hb : c.code = cc) {x y : Nat} (hdg : decode cc pc = .ok (.irem, 1)) (h1 : x < 2 ^ 31) (h2 : 0 < y) (h3 : y < 2 ^ 31) (k : W p l e R s m args below meth c H locs cells slots Q (F0 m (pc + 1) ls (.int (nI (x % y)) :: rest))) : W p l e R s m args below meth c H locs cells slots Q (F0 m pc ls (.int (nI y) :: .int (nI x) :: rest)) :=
  lv_irem hx hb hdg (nI_ne0 h2 h3) (by rw [pk_rem h1 h2 h3]; exact k)
theorem lv_iconstN (hx : p.tables.exec = Jvm.exec) (hb : c.code = cc) {n : Int} (v : Nat) (hdg : decode cc pc = .ok (.iconst n, 1)) (hv : Int32.ofInt n = nI v) (k : W p l e R s m args below meth c H locs cells slots Q (F0 m (pc + 1) ls (.int (nI v) :: rest))) : W p l e R s m args below meth c H locs cells slots Q (F0 m pc ls rest) := lv_iconst hx hb hdg hv k
theorem lv_bipushN (hx : p.tables.exec = Jvm.exec) (hb : c.code = cc) {n : Int} (v : Nat) (hdg : decode cc pc = .ok (.bipush n, 2)) (hv : (Int8.ofInt n).toInt32 = nI v) (k : W p l e R s m args below meth c H locs cells slots Q (F0 m (pc + 2) ls (.int (nI v) :: rest))) : W p l e R s m args below meth c H locs cells slots Q (F0 m pc ls rest) := lv_bipush hx hb hdg hv k
theorem lv_sipushN (hx : p.tables.exec = Jvm.exec) (hb : c.code = cc) {n : Int} (v : Nat) (hdg : decode cc pc = .ok (.sipush n, 3)) (hv : (Int16.ofInt n).toInt32 = nI v) (k : W p l e R s m args below meth c H locs cells slots Q (F0 m (pc + 3) ls (.int (nI v) :: rest))) : W p l e R s m args below meth c H locs cells slots Q (F0 m pc ls rest) := lv_sipush hx hb hdg hv k
theorem lv_iincN (hx : p.tables.exec = Jvm.exec) (hb : c.code = cc) {i nL k : Nat} {n : Int} {x v : Nat} {lv lv' : List (Nat × Value)} (hdg : decode cc pc = .ok (.iinc i n, 3)) (h : lv_has ls nL lv) (hk : lv[k]? = some (i, .int (nI x))) (hv : Int32.ofInt n = nI v) (hn : i < nL) (hl : (i, Value.int (nI (x + v))) :: lv.filter (fun q => !(q.1 == i) && !(q.1 + 1 == i && q.2.category == 2)) = lv')
    (kk : ∀ ls' : Array Slot, lv_has ls' nL lv' → W p l e R s m args below meth c H locs cells slots Q (F0 m (pc + 3) ls' rest)) : W p l e R s m args below meth c H locs cells slots Q (F0 m pc ls rest) :=
  lv_iinc hx hb hdg h hk (by rw [hv, nI_add]) hn hl kk
theorem lv_icmpN_ge (hx : p.tables.exec = Jvm.exec) (hb : c.code = cc) {x y : Nat} {off : Int} {tgt : Nat} (hdg : decode cc pc = .ok (.if_icmp .ge off, 3)) (ht : (pc : Int) + off = (tgt : Int)) (h1 : x < 2 ^ 31) (h2 : y < 2 ^ 31)
    (kt : y ≤ x → W p l e R s m args below meth c H locs cells slots Q (F0 m tgt ls rest)) (kf : x < y → W p l e R s m args below meth c H locs cells slots Q (F0 m (pc + 3) ls rest)) : W p l e R s m args below meth c H locs cells slots Q (F0 m pc ls (.int (nI y) :: .int (nI x) :: rest)) :=
  lv_icmp_ge hx hb hdg ht (fun q => kt ((nI_leI h2 h1).mp q)) (fun q => kf (Nat.not_le.mp fun z => q ((nI_leI h2 h1).mpr z)))
theorem lv_icmpN_gt (hx : p.tables.exec = Jvm.exec) (hb : c.code = cc) {x y : Nat} {off : Int} {tgt : Nat} (hdg : decode cc pc = .ok (.if_icmp .gt off, 3)) (ht : (pc : Int) + off = (tgt : Int)) (h1 : x < 2 ^ 31) (h2 : y < 2 ^ 31)
    (kt : y < x → W p l e R s m args below meth c H locs cells slots Q (F0 m tgt ls rest)) (kf : x ≤ y → W p l e R s m args below meth c H locs cells slots Q (F0 m (pc + 3) ls rest)) : W p l e R s m args below meth c H locs cells slots Q (F0 m pc ls (.int (nI y) :: .int (nI x) :: rest)) :=
  lv_icmp_gt hx hb hdg ht (fun q => kt ((nI_ltI h2 h1).mp q)) (fun q => kf (Nat.not_lt.mp fun z => q ((nI_ltI h2 h1).mpr z)))
theorem lv_icmpN_lt (hx : p.tables.exec = Jvm.exec) (hb : c.code = cc) {x y : Nat} {off : Int} {tgt : Nat} (hdg : decode cc pc = .ok (.if_icmp .lt off, 3)) (ht : (pc : Int) + off = (tgt : Int)) (h1 : x < 2 ^ 31) (h2 : y < 2 ^ 31)
    (kt : x < y → W p l e R s m args below meth c H locs cells slots Q (F0 m tgt ls rest)) (kf : y ≤ x → W p l e R s m args below meth c H locs cells slots Q (F0 m (pc + 3) ls rest)) : W p l e R s m args below meth c H locs cells slots Q (F0 m pc ls (.int (nI y) :: .int (nI x) :: rest)) :=
  lv_icmp_lt hx hb hdg ht (fun q => kt ((nI_ltI h1 h2).mp q)) (fun q => kf (Nat.not_lt.mp fun z => q ((nI_ltI h1 h2).mpr z)))
theorem lv_icmpN_le (hx : p.tables.exec = Jvm.exec) (hb : c.code = cc) {x y : Nat} {off : Int} {tgt : Nat} (hdg : decode cc pc = .ok (.if_icmp .le off, 3)) (ht : (pc : Int) + off = (tgt : Int)) (h1 : x < 2 ^ 31) (h2 : y < 2 ^ 31)
    (kt : x ≤ y → W p l e R s m args below meth c H locs cells slots Q (F0 m tgt ls rest)) (kf : y < x → W p l e R s m args below meth c H locs cells slots Q (F0 m (pc + 3) ls rest)) : W p l e R s m args below meth c H locs cells slots Q (F0 m pc ls (.int (nI y) :: .int (nI x) :: rest)) :=
  lv_icmp_le hx hb hdg ht (fun q => kt ((nI_leI h1 h2).mp q)) (fun q => kf (Nat.not_le.mp fun z => q ((nI_leI h1 h2).mpr z)))
theorem lv_icmpN_eq (hx : p.tables.exec = Jvm.exec) (hb : c.code = cc) {x y : Nat} {off : Int} {tgt : Nat} (hdg : decode cc pc = .ok (.if_icmp .eq off, 3)) (ht : (pc : Int) + off = (tgt : Int)) (h1 : x < 2 ^ 31) (h2 : y < 2 ^ 31)
    (kt : x = y → W p l e R s m args below meth c H locs cells slots Q (F0 m tgt ls rest)) (kf : x ≠ y → W p l e R s m args below meth c H locs cells slots Q (F0 m (pc + 3) ls rest)) : W p l e R s m args below meth c H locs cells slots Q (F0 m pc ls (.int (nI y) :: .int (nI x) :: rest)) :=
  lv_icmp_eq hx hb hdg ht (fun q => kt ((nI_eq h1 h2).mp q)) (fun q => kf (fun z => q ((nI_eq h1 h2).mpr z)))
theorem lv_icmpN_ne (hx : p.tables.exec = Jvm.exec) (hb : c.code = cc) {x y : Nat} {off : Int} {tgt : Nat} (hdg : decode cc pc = .ok (.if_icmp .ne off, 3)) (ht : (pc : Int) + off = (tgt : Int)) (h1 : x < 2 ^ 31) (h2 : y < 2 ^ 31)
    (kt : x ≠ y → W p l e R s m args below meth c H locs cells slots Q (F0 m tgt ls rest)) (kf : x = y → W p l e R s m args below meth c H locs cells slots Q (F0 m (pc + 3) ls rest)) : W p l e R s m args below meth c H locs cells slots Q (F0 m pc ls (.int (nI y) :: .int (nI x) :: rest)) :=
  lv_icmp_ne hx hb hdg ht (fun q => kt (fun z => q ((nI_eq h1 h2).mpr z))) (fun q => kf ((nI_eq h1 h2).mp q))
theorem lv_ifN_gt (hx : p.tables.exec = Jvm.exec) (hb : c.code = cc) {x : Nat} {off : Int} {tgt : Nat} (hdg : decode cc pc = .ok (.ifCond .gt off, 3)) (ht : (pc : Int) + off = (tgt : Int)) (h1 : x < 2 ^ 31)
    (kt : 0 < x → W p l e R s m args below meth c H locs cells slots Q (F0 m tgt ls rest)) (kf : x = 0 → W p l e R s m args below meth c H locs cells slots Q (F0 m (pc + 3) ls rest)) : W p l e R s m args below meth c H locs cells slots Q (F0 m pc ls (.int (nI x) :: rest)) :=
  lv_if_gt hx hb hdg ht (fun q => kt ((nI_ltI (a := 0) (by decide) h1).mp q)) (fun q => kf (Nat.eq_zero_of_not_pos fun z => q ((nI_ltI (a := 0) (by decide) h1).mpr z)))
theorem lv_ifN_le (hx : p.tables.exec = Jvm.exec) (hb : c.code = cc) {x : Nat} {off : Int} {tgt : Nat} (hdg : decode cc pc = .ok (.ifCond .le off, 3)) (ht : (pc : Int) + off = (tgt : Int)) (h1 : x < 2 ^ 31)
    (kt : x = 0 → W p l e R s m args below meth c H locs cells slots Q (F0 m tgt ls rest)) (kf : 0 < x → W p l e R s m args below meth c H locs cells slots Q (F0 m (pc + 3) ls rest)) : W p l e R s m args below meth c H locs cells slots Q (F0 m pc ls (.int (nI x) :: rest)) :=
  lv_if_le hx hb hdg ht (fun q => kt (Nat.le_zero.mp ((nI_leI (b := 0) h1 (by decide)).mp q))) (fun q => kf (Nat.pos_of_ne_zero fun z => q ((nI_leI (b := 0) h1 (by decide)).mpr (Nat.le_of_eq z))))
theorem lv_ifN_eq (hx : p.tables.exec = Jvm.exec) (hb : c.code = cc) {x : Nat} {off : Int} {tgt : Nat} (hdg : decode cc pc = .ok (.ifCond .eq off, 3)) (ht : (pc : Int) + off = (tgt : Int)) (h1 : x < 2 ^ 31)
    (kt : x = 0 → W p l e R s m args below meth c H locs cells slots Q (F0 m tgt ls rest)) (kf : 0 < x → W p l e R s m args below meth c H locs cells slots Q (F0 m (pc + 3) ls rest)) : W p l e R s m args below meth c H locs cells slots Q (F0 m pc ls (.int (nI x) :: rest)) :=
  lv_if_eq hx hb hdg ht (fun q => kt ((nI_eq (b := 0) h1 (by decide)).mp q)) (fun q => kf (Nat.pos_of_ne_zero fun z => q ((nI_eq (b := 0) h1 (by decide)).mpr z)))
theorem lv_ifN_ne (hx : p.tables.exec = Jvm.exec) (hb : c.code = cc) {x : Nat} {off : Int} {tgt : Nat} (hdg : decode cc pc = .ok (.ifCond .ne off, 3)) (ht : (pc : Int) + off = (tgt : Int)) (h1 : x < 2 ^ 31)
    (kt : 0 < x → W p l e R s m args below meth c H locs cells slots Q (F0 m tgt ls rest)) (kf : x = 0 → W p l e R s m args below meth c H locs cells slots Q (F0 m (pc + 3) ls rest)) : W p l e R s m args below meth c H locs cells slots Q (F0 m pc ls (.int (nI x) :: rest)) :=
  lv_if_ne hx hb hdg ht (fun q => kt (Nat.pos_of_ne_zero fun z => q ((nI_eq (b := 0) h1 (by decide)).mpr z))) (fun q => kf ((nI_eq (b := 0) h1 (by decide)).mp q))
theorem lv_bif_eq (hx : p.tables.exec = Jvm.exec) (hb : c.code = cc) {x : Bool} {off : Int} {tgt : Nat} (hdg : decode cc pc = .ok (.ifCond .eq off, 3)) (ht : (pc : Int) + off = (tgt : Int))
    (kt : x = false → W p l e R s m args below meth c H locs cells slots Q (F0 m tgt ls rest)) (kf : x = true → W p l e R s m args below meth c H locs cells slots Q (F0 m (pc + 3) ls rest)) : W p l e R s m args below meth c H locs cells slots Q (F0 m pc ls (.int (bI x) :: rest)) :=
  lv_if_eq hx hb hdg ht (fun q => kt (bI0.mp q)) (fun q => kf (bI1.mp q))
theorem lv_bif_ne (hx : p.tables.exec = Jvm.exec) (hb : c.code = cc) {x : Bool} {off : Int} {tgt : Nat} (hdg : decode cc pc = .ok (.ifCond .ne off, 3)) (ht : (pc : Int) + off = (tgt : Int))
    (kt : x = true → W p l e R s m args below meth c H locs cells slots Q (F0 m tgt ls rest)) (kf : x = false → W p l e R s m args below meth c H locs cells slots Q (F0 m (pc + 3) ls rest)) : W p l e R s m args below meth c H locs cells slots Q (F0 m pc ls (.int (bI x) :: rest)) :=
  lv_if_ne hx hb hdg ht (fun q => kt (bI1.mp q)) (fun q => kf (bI0.mp q))
end RWA
/-! fields of pictured cells -/
def FL (own ref : String) (index ci : Nat) (C : String) (T : u_T) (N n : Nat) : Prop := vwCl[ci]? = some (C, T, N) ∧ n < N ∧ (∀ w ∈ u_ws C T N, w ∈ WG) ∧ .fieldLink own index ref (T n).2.1 (T n).2.2.1 ∈ WG ∧ (T n).1 = ref
def FP (own ref : String) (index ci : Nat) (C : String) (T : u_T) (N n : Nat) (ty : FieldType) : Prop := FL own ref index ci C T N n ∧ (∃ ty0 : Nat → FieldType, ∀ k, k < N → parseFieldDescriptor (T k).2.2.1 = some (ty0 k)) ∧ (∀ a, a < N → ∀ b, b < N → a ≠ b → (T a).2.1 ≠ (T b).2.1) ∧ (T n).2.2.2 = false ∧ parseFieldDescriptor (T n).2.2.1 = some ty
def FF (own ref : String) (index ci : Nat) (C : String) (T : u_T) (N n : Nat) (ty : FieldType) : Prop := FL own ref index ci C T N n ∧ (∃ ty0 : Nat → FieldType, ∀ k, k < N → parseFieldDescriptor (T k).2.2.1 = some (ty0 k)) ∧ (∀ a, a < N → ∀ b, b < N → a ≠ b → (T a).2.1 ≠ (T b).2.1) ∧ (T n).2.2.2 = true ∧ (T n).1 = own ∧ parseFieldDescriptor (T n).2.2.1 = some ty
theorem not_vp {i n : Nat} (h : i < n) (hn : n < 2 ^ 31) : vp_in (nI i) n := vp_in_nI h hn
section RWB
variable {p : Program} {l : Launch} {e : Env} {R : Room} {s : State} {m : MethodId} {args : Array Value} {below : List Frame} {meth : Method} {c : Code} {H H0 : Heap} {locs : List Loc} {cells slots : Nat} {Q : State → Prop}
variable {cc : ByteArray} {pc : Nat} {ls : Array Slot} {rest : List Value} {E : En} {L : List Nat} {ct : Nat → Nat → Option va_E} {ad : Nat → Nat → Nat} {A : Nat → Prop}
theorem pi_get (hx : p.tables.exec = Jvm.exec) (hb : c.code = cc) {own ref : String} {index ci n N : Nat} {C : String} {T : u_T} (hC : Cs E s) (hown : s.vm.findClass own = some m.cls) (hX : PI E.1 L ct ad H) (hf : FL own ref index ci C T N n) (k i : Nat) {fs : List Value} (he : ct k i = some (.inr (ci, fs))) {v : Value} (hv : fs[n]? = some v) (hdg : decode cc pc = .ok (.getfield index, 3))
    (kk : W p l e R s m args below meth c H locs cells slots Q (F0 m (pc + 3) ls (v :: rest))) : W p l e R s m args below meth c H locs cells slots Q (F0 m pc ls (.ref (ad k i) :: rest)) := by
  obtain ⟨h1, h2, h3, h4, h5⟩ := hf
  exact va_get (D := E.1) (cl := vwCl) hx hb (hC.2.1.hts args) h3 hown hC.1 (hX.one he) 0 rfl h1 n h2 (hC.2.1.hts args _ h4) (fun x h9 => by rw [← h5]; exact h9) hv hdg kk
theorem pi_put (hx : p.tables.exec = Jvm.exec) (hb : c.code = cc) {own ref : String} {index ci n N : Nat} {C : String} {T : u_T} {ty : FieldType} (hC : Cs E s) (hown : s.vm.findClass own = some m.cls) (hX : PI E.1 L ct ad H) (hS : va_S A H0 H locs) (hA : ∀ q, q ∈ L → A q) (hf : FP own ref index ci C T N n ty) (k i : Nat) {fs : List Value} (he : ct k i = some (.inr (ci, fs))) {v : Value} (hn : narrow ty v = v) (hfit : fits ty v = true) (hl : n < fs.length) (hdg : decode cc pc = .ok (.putfield index, 3))
    (kk : ∀ (H1 : Heap) (locs1 : List Loc), PI E.1 L (ctu ct k i (.inr (ci, fs.set n v))) ad H1 → va_S A H0 H1 locs1 → W p l e R s m args below meth c H1 locs1 cells slots Q (F0 m (pc + 3) ls rest)) : W p l e R s m args below meth c H locs cells slots Q (F0 m pc ls (v :: .ref (ad k i) :: rest)) := by
  obtain ⟨⟨h1, h2, h3, h4, h5⟩, ⟨ty0, h6⟩, h7, h8, h9⟩ := hf
  obtain ⟨f, hP, hD, hm, hi⟩ := hX
  obtain ⟨g1, g2⟩ := hm k i _ he
  obtain ⟨j, hj⟩ := va_pl_get (X := []) (f := f) g1
  rw [List.nil_append] at hj
  refine va_put (D := E.1) (cl := vwCl) (A := A) hx hb (hC.2.1.hts args) h3 ty0 h6 h7 hown hC.1 hP (hD.weaken fun _ q _ h => hA q.1 h) hS j (fs := fs) (by rw [hj, g2]) h1 n h2 (hC.2.1.hts args _ h4) (fun x q => by rw [← h5]; exact q) h8 h9 hn hfit hl hdg fun H1 locs1 hP1 _ hS1 => ?_
  exact kk H1 locs1 (PI.setAt hD hm hi he hj hP1) hS1
/-- int arrays -/
theorem pi_iald (hx : p.tables.exec = Jvm.exec) (hb : c.code = cc) (hC : Cs E s) (hX : PI E.1 L ct ad H) (k i : Nat) {n : Nat} {f : Nat → Int32} (he : ct k i = some (.inl (E.2 1, n, .inl f))) {j : Nat} (hj : j < n) (hn : n < 2 ^ 31) (hdg : decode cc pc = .ok (.iaload, 1))
    (kk : W p l e R s m args below meth c H locs cells slots Q (F0 m (pc + 1) ls (.int (f j) :: rest))) : W p l e R s m args below meth c H locs cells slots Q (F0 m pc ls (.int (nI j) :: .ref (ad k i) :: rest)) :=
  va_iald (D := E.1) (cl := vwCl) hx hb hC.1 (hX.one he) 0 0 rfl rfl (vp_in_nI hj hn) hdg (by rw [nI_clamp (Nat.lt_trans hj hn)]; exact kk)
theorem pi_iast (hx : p.tables.exec = Jvm.exec) (hb : c.code = cc) (hC : Cs E s) (hX : PI E.1 L ct ad H) (hS : va_S A H0 H locs) (hA : ∀ q, q ∈ L → A q) (k i : Nat) {n : Nat} {f : Nat → Int32} (he : ct k i = some (.inl (E.2 1, n, .inl f))) {j : Nat} (hj : j < n) (hn : n < 2 ^ 31) {x : Int32} (hdg : decode cc pc = .ok (.iastore, 1))
    (kk : ∀ (H1 : Heap) (locs1 : List Loc), PI E.1 L (ctu ct k i (.inl (E.2 1, n, .inl (upd f j x)))) ad H1 → va_S A H0 H1 locs1 → W p l e R s m args below meth c H1 locs1 cells slots Q (F0 m (pc + 1) ls rest)) : W p l e R s m args below meth c H locs cells slots Q (F0 m pc ls (.int x :: .int (nI j) :: .ref (ad k i) :: rest)) := by
  obtain ⟨f1, hP, hD, hm, hi⟩ := hX
  obtain ⟨g1, g2⟩ := hm k i _ he
  obtain ⟨q, hq⟩ := va_pl_get (X := []) (f := f1) g1
  rw [List.nil_append] at hq
  refine va_iast (D := E.1) (cl := vwCl) (A := A) hx hb hC.1 hP (hD.weaken fun _ q _ h => hA q.1 h) hS q 0 (cA := E.2 1) (n := n) (f := f) (by rw [hq, g2]) rfl (vp_in_nI hj hn) hdg fun H1 locs1 hP1 _ hS1 => ?_
  rw [nI_clamp (Nat.lt_trans hj hn)] at hP1
  exact kk H1 locs1 (PI.setAt hD hm hi he hq hP1) hS1
/-- arrays of references -/
theorem pi_rald (hx : p.tables.exec = Jvm.exec) (hb : c.code = cc) (hC : Cs E s) (hX : PI E.1 L ct ad H) (k i t : Nat) {cA : ClassId} {Cn : String} {n : Nat} {f : Nat → Option Nat} (ht : (tyl E)[t]? = some (cA, .object Cn)) (he : ct k i = some (.inl (cA, n, .inr (.inr (.inr (.inr f)))))) {j : Nat} (hj : j < n) (hn : n < 2 ^ 31) (hdg : decode cc pc = .ok (.aaload, 1))
    (kn : f j = none → W p l e R s m args below meth c H locs cells slots Q (F0 m (pc + 1) ls (.null :: rest)))
    (ks : ∀ y, f j = some y → W p l e R s m args below meth c H locs cells slots Q (F0 m (pc + 1) ls (.ref y :: rest))) : W p l e R s m args below meth c H locs cells slots Q (F0 m pc ls (.int (nI j) :: .ref (ad k i) :: rest)) := by
  refine va_aldq (D := E.1) (cl := vwCl) (C := Cn) hx hb hC.1 (hX.one he) 0 t rfl ht (vp_in_nI hj hn) hdg ?_
  rw [nI_clamp (Nat.lt_trans hj hn)]
  cases h : f j with
  | none => exact kn h
  | some y => exact ks y h
theorem pi_rast (hx : p.tables.exec = Jvm.exec) (hb : c.code = cc) (hC : Cs E s) (hX : PI E.1 L ct ad H) (hS : va_S A H0 H locs) (hA : ∀ q, q ∈ L → A q) (k i t : Nat) {cA : ClassId} {r : vw_C} {n : Nat} {f : Nat → Option Nat} (ht : (tyl E)[t]? = some (cA, .object r.1)) (he : ct k i = some (.inl (cA, n, .inr (.inr (.inr (.inr f)))))) (k2 i2 : Nat) {ci : Nat} {vs : List Value} (he2 : ct k2 i2 = some (.inr (ci, vs))) (hc : vwCl[ci]? = some r) {j : Nat} (hj : j < n) (hn : n < 2 ^ 31) (hdg : decode cc pc = .ok (.aastore, 1))
    (kk : ∀ (H1 : Heap) (locs1 : List Loc), PI E.1 L (ctu ct k i (.inl (cA, n, .inr (.inr (.inr (.inr (va_up f j (some (ad k2 i2))))))))) ad H1 → va_S A H0 H1 locs1 → W p l e R s m args below meth c H1 locs1 cells slots Q (F0 m (pc + 1) ls rest)) : W p l e R s m args below meth c H locs cells slots Q (F0 m pc ls (.ref (ad k2 i2) :: .int (nI j) :: .ref (ad k i) :: rest)) := by
  obtain ⟨f1, hP, hD, hm, hi⟩ := hX
  obtain ⟨g1, g2⟩ := hm k i _ he
  obtain ⟨g3, g4⟩ := hm k2 i2 _ he2
  obtain ⟨q, hq⟩ := va_pl_get (X := []) (f := f1) g1
  obtain ⟨q2, hq2⟩ := va_pl_get (X := []) (f := f1) g3
  rw [List.nil_append] at hq hq2
  refine va_astq (D := E.1) (cl := vwCl) (A := A) hx hb hC.1 hP (hD.weaken fun _ q _ h => hA q.1 h) hS q t q2 ci (cA := cA) (r := r) (n := n) (v := ad k2 i2) (vs := vs) (f := f) (by rw [hq, g2]) ht (by rw [hq2, g4]) hc (vp_in_nI hj hn) hdg fun H1 locs1 hP1 _ hS1 => ?_
  rw [nI_clamp (Nat.lt_trans hj hn)] at hP1
  exact kk H1 locs1 (PI.setAt hD hm hi he hq hP1) hS1
theorem pi_rastN (hx : p.tables.exec = Jvm.exec) (hb : c.code = cc) (hC : Cs E s) (hX : PI E.1 L ct ad H) (hS : va_S A H0 H locs) (hA : ∀ q, q ∈ L → A q) (k i t : Nat) {cA : ClassId} {Cn : String} {n : Nat} {f : Nat → Option Nat} (ht : (tyl E)[t]? = some (cA, .object Cn)) (he : ct k i = some (.inl (cA, n, .inr (.inr (.inr (.inr f)))))) {j : Nat} (hj : j < n) (hn : n < 2 ^ 31) (hdg : decode cc pc = .ok (.aastore, 1))
    (kk : ∀ (H1 : Heap) (locs1 : List Loc), PI E.1 L (ctu ct k i (.inl (cA, n, .inr (.inr (.inr (.inr (va_up f j none))))))) ad H1 → va_S A H0 H1 locs1 → W p l e R s m args below meth c H1 locs1 cells slots Q (F0 m (pc + 1) ls rest)) : W p l e R s m args below meth c H locs cells slots Q (F0 m pc ls (.null :: .int (nI j) :: .ref (ad k i) :: rest)) := by
  obtain ⟨f1, hP, hD, hm, hi⟩ := hX
  obtain ⟨g1, g2⟩ := hm k i _ he
  obtain ⟨q, hq⟩ := va_pl_get (X := []) (f := f1) g1
  rw [List.nil_append] at hq
  refine va_astqN (D := E.1) (cl := vwCl) (A := A) hx hb hC.1 hP (hD.weaken fun _ q _ h => hA q.1 h) hS q t (cA := cA) (C := Cn) (n := n) (f := f) (by rw [hq, g2]) ht (vp_in_nI hj hn) hdg fun H1 locs1 hP1 _ hS1 => ?_
  rw [nI_clamp (Nat.lt_trans hj hn)] at hP1
  exact kk H1 locs1 (PI.setAt hD hm hi he hq hP1) hS1
theorem pi_alen (hx : p.tables.exec = Jvm.exec) (hb : c.code = cc) (hC : Cs E s) (hX : PI E.1 L ct ad H) (k i t : Nat) {cA : ClassId} {ty : FieldType} {n : Nat} {z : _} (ht : (tyl E)[t]? = some (cA, ty)) (he : ct k i = some (.inl (cA, (n, z)))) (hdg : decode cc pc = .ok (.arraylength, 1))
    (kk : W p l e R s m args below meth c H locs cells slots Q (F0 m (pc + 1) ls (.int (nI n) :: rest))) : W p l e R s m args below meth c H locs cells slots Q (F0 m pc ls (.ref (ad k i) :: rest)) :=
  va_alen (D := E.1) (cl := vwCl) hx hb hC.1 (hX.one he) 0 t rfl ht rfl hdg kk
/-- two cells of one kind, compared -/
theorem pi_acmp_ne (hx : p.tables.exec = Jvm.exec) (hb : c.code = cc) (hX : PI E.1 L ct ad H) (k i k2 i2 : Nat) {e1 e2 : va_E} (he : ct k i = some e1) (he2 : ct k2 i2 = some e2) {off : Int} {tgt : Nat} (hdg : decode cc pc = .ok (.if_acmp .ne off, 3)) (ht : (pc : Int) + off = (tgt : Int))
    (kt : ¬ (k = k2 ∧ i = i2) → W p l e R s m args below meth c H locs cells slots Q (F0 m tgt ls rest)) (kf : (k = k2 ∧ i = i2) → W p l e R s m args below meth c H locs cells slots Q (F0 m (pc + 3) ls rest)) : W p l e R s m args below meth c H locs cells slots Q (F0 m pc ls (.ref (ad k2 i2) :: .ref (ad k i) :: rest)) := by
  refine lv_acmp_ne (rx := some (ad k i)) (ry := some (ad k2 i2)) hx hb hdg ht (fun q => kt fun z => ?_) (fun q => kf ?_)
  · exact q (by rw [z.1, z.2])
  · obtain ⟨f, hP, hD, hm, hi⟩ := hX
    exact hi k i k2 i2 e1 e2 he he2 (Option.some.inj q)
theorem pi_acmp_eq (hx : p.tables.exec = Jvm.exec) (hb : c.code = cc) (hX : PI E.1 L ct ad H) (k i k2 i2 : Nat) {e1 e2 : va_E} (he : ct k i = some e1) (he2 : ct k2 i2 = some e2) {off : Int} {tgt : Nat} (hdg : decode cc pc = .ok (.if_acmp .eq off, 3)) (ht : (pc : Int) + off = (tgt : Int))
    (kt : (k = k2 ∧ i = i2) → W p l e R s m args below meth c H locs cells slots Q (F0 m tgt ls rest)) (kf : ¬ (k = k2 ∧ i = i2) → W p l e R s m args below meth c H locs cells slots Q (F0 m (pc + 3) ls rest)) : W p l e R s m args below meth c H locs cells slots Q (F0 m pc ls (.ref (ad k2 i2) :: .ref (ad k i) :: rest)) := by
  refine lv_acmp_eq (rx := some (ad k i)) (ry := some (ad k2 i2)) hx hb hdg ht (fun q => kt ?_) (fun q => kf fun z => ?_)
  · obtain ⟨f, hP, hD, hm, hi⟩ := hX
    exact hi k i k2 i2 e1 e2 he he2 (Option.some.inj q)
  · exact q (by rw [z.1, z.2])
/-- the tables -/
theorem gt_get (hx : p.tables.exec = Jvm.exec) (hb : c.code = cc) {own C n : String} {k index : Nat} {f : Nat → Int32} (hG : Gt E C n k f s s.heap) (hS : va_S A s.heap H locs) (hAb : ∀ q, A q → bA E q) (hown : s.vm.findClass own = some m.cls) (hlink : (Cond.fieldLink own index C n "[I").before args s = true) (hdg : decode cc pc = .ok (.getstatic index, 3))
    (kk : W p l e R s m args below meth c H locs cells slots Q (F0 m (pc + 3) ls (.ref (E.2 k) :: rest))) : W p l e R s m args below meth c H locs cells slots Q (F0 m pc ls rest) :=
  va_gets hx hb (hG.1.narrow hAb) hS hown hlink (fun _ h => h) hdg kk
theorem gt_getN (hx : p.tables.exec = Jvm.exec) (hb : c.code = cc) {own C n host : String} {k index : Nat} {f : Nat → Int32} (hG : Gt E C n k f s s.heap) (hS : va_S A s.heap H locs) (hAb : ∀ q, A q → bA E q) (hown : s.vm.findClass own = some m.cls) (hlink : (Cond.fieldLinkNest own index C n "[I" host).before args s = true) (hdg : decode cc pc = .ok (.getstatic index, 3))
    (kk : W p l e R s m args below meth c H locs cells slots Q (F0 m (pc + 3) ls (.ref (E.2 k) :: rest))) : W p l e R s m args below meth c H locs cells slots Q (F0 m pc ls rest) :=
  va_getsN hx hb (hG.1.narrow hAb) hS hown hlink (fun _ h => h) hdg kk
theorem gt_ld (hx : p.tables.exec = Jvm.exec) (hb : c.code = cc) {C n : String} {k : Nat} {f : Nat → Int32} (hG : Gt E C n k f s s.heap) (hS : va_S A s.heap H locs) (hAb : ∀ q, A q → bA E q) {j : Nat} (hj : j < 4) (hdg : decode cc pc = .ok (.iaload, 1))
    (kk : W p l e R s m args below meth c H locs cells slots Q (F0 m (pc + 1) ls (.int (f j) :: rest))) : W p l e R s m args below meth c H locs cells slots Q (F0 m pc ls (.int (nI j) :: .ref (E.2 k) :: rest)) :=
  va_ti hx hb (hG.2.narrow hAb) hS (vp_in_nI hj (by decide)) (v := .int (f j)) (by rw [nI_clamp (by omega)]) hdg kk
/-- a cast that holds -/
theorem pi_cast (hx : p.tables.exec = Jvm.exec) (hb : c.code = cc) {own : String} {index ci N : Nat} {C nm : String} {T : u_T} (hC : Cs E s) (hown : s.vm.findClass own = some m.cls) (hX : PI E.1 L ct ad H) (k i : Nat) {fs : List Value} (he : ct k i = some (.inr (ci, fs))) (hc : vwCl[ci]? = some (C, T, N)) (hcl : .classLink own index C ∈ WG) (hdg : decode cc pc = .ok (.checkcast index, 3))
    (kk : W p l e R s m args below meth c H locs cells slots Q (F0 m (pc + 3) ls (.ref (ad k i) :: rest))) : W p l e R s m args below meth c H locs cells slots Q (F0 m pc ls (.ref (ad k i) :: rest)) :=
  va_castS (cC := E.1.1 ci) hx hb hown (hC.2.1.hts args _ hcl) (hC.1.1 ci _ hc).2 (va_recv hC.1 (hX.one he) (ci := ci) (q0 := 0) hc rfl) hdg kk
end RWB
end
section
/-! contracts of methods that only read: the heap is H before and behind -/
abbrev PcR (av : List Value) (E : En) (H : Heap) : Array Value → State → Prop := va_Pc av (fun U => U.heap = H ∧ Cs E U)
abbrev noA : Nat → Prop := fun _ => False
abbrev QiR (v : Int32) (H : Heap) : Array Value → State → Outcome → State → Prop := va_Qi (fun (r : Int32) (_ : Unit) => r = v) (fun _ t => t.heap = H) noA
abbrev QlR (v : Int64) (H : Heap) : Array Value → State → Outcome → State → Prop := va_Ql (fun (r : Int64) (_ : Unit) => r = v) (fun _ t => t.heap = H) noA
/-- a reference or null -/
abbrev QrR (v : Option Nat) (H : Heap) : Array Value → State → Outcome → State → Prop := fun _ st oc t => oc = .returned (some (va_rf v)) ∧ t.heap = H ∧ va_F noA st t
abbrev RoI (l : Launch) (y : MethodName) (b : ByteArray) (n : Nat) (ret : FieldType) (rm : Room) (av : List Value) (E : En) (H : Heap) (v : Int32) : Prop := Met l y [.code y b n (some ret)] rm (PcR av E H) (QiR v H) 0 0 noA
abbrev RoL (l : Launch) (y : MethodName) (b : ByteArray) (n : Nat) (rm : Room) (av : List Value) (E : En) (H : Heap) (v : Int64) : Prop := Met l y [.code y b n (some .long)] rm (PcR av E H) (QlR v H) 0 0 noA
abbrev RoR (l : Launch) (y : MethodName) (b : ByteArray) (n : Nat) (ret : FieldType) (rm : Room) (av : List Value) (E : En) (H : Heap) (v : Option Nat) : Prop := Met l y [.code y b n (some ret)] rm (PcR av E H) (QrR v H) 0 0 noA
theorem PcR.blind {av : List Value} {E : En} {H : Heap} : FrameBlind (PcR av E H) := fun a U g mk q => by
  obtain ⟨q0, q1, q2⟩ := q
  exact ⟨q0, q1, q2.calling g mk a⟩
section ROA
variable {l : Launch} {E : En} {y : MethodName} {rm : Room} {Qc : Array Value → State → Outcome → State → Prop} {free : Addr → Prop} {cc : ByteArray} {maxL : Nat} {ret : Option FieldType} {av : List Value} {H : Heap} {mc ms : Nat}
/-- the way into a body -/
theorem ro_of (hy : plainName y.cls = true) (hlen : (lg_sl av).length ≤ maxL)
    (body : ∀ (p : Program) (e : Env) (s : State) (m : MethodId) (below : List Frame) (meth : Method) (c : Code) (ls : Array Slot), p.tables.exec = Jvm.exec → c.code = cc → meth.sig.returnType = ret → c.maxLocals = maxL → s.vm.findClass y.cls = some m.cls → meth.locks = false → meth.name = y.name → Cs E s → s.heap = H → lv_has ls maxL (lv_args 0 av) →
      W p l e rm s m av.toArray below meth c H [] 0 0 (MQ below Qc av.toArray s mc ms free) (F0 m 0 ls [])) : Met l y [.code y cc maxL ret] rm (PcR av E H) Qc mc ms free := by
  refine Met.ofW (cc := cc) (maxL := maxL) (ret := ret) hy rfl ?_
  intro p e s m args below meth c s₁ B hml hv
  obtain ⟨rfl, hU, hC⟩ := hv
  have hl := lv_entry av (n := maxL) hlen
  rw [lg_entry_eq]
  have h := body p e s m below meth c _ B.exec B.bytes B.returns hml (findClass_of_methodNamed B.named) B.notSynchronized (name_of_methodNamed B.named B.method).1 hC hU hl
  rw [hU]
  exact h
end ROA
section ROB
variable {p : Program} {l : Launch} {e : Env} {R : Room} {s : State} {m : MethodId} {args : Array Value} {below : List Frame} {meth : Method} {c : Code} {H : Heap} {locs : List Loc} {cells slots : Nat} {Q : State → Prop}
variable {cc : ByteArray} {pc nL : Nat} {ls : Array Slot} {rest : List Value} {E : En} {L : List Nat} {ct : Nat → Nat → Option va_E} {ad : Nat → Nat → Nat} {A : Nat → Prop}
variable {y : MethodName} {b : ByteArray} {maxL n index : Nat} {rt : FieldType} {rm : Room} {own C : String}
theorem run_ro {a : Array Value} {g : JFrame} {mc ms : Nat} {Qa : State → Outcome → State → Prop} (hr : va_Run p l e R s m args below meth c H locs cells slots 0 0 g rest Qa noA) (kk : ∀ (v : Option Value) (st₀ t : State), st₀.heap = H → s.vm.Alike t.vm → Qa st₀ (.returned v) t → t.heap = H ∧ W p l e R s m args below meth c H locs cells slots Q { g with pc := g.pc + 3, stack := v.toList ++ rest }) : W p l e R s m args below meth c H locs cells slots Q g := by
  intro T hT X
  obtain ⟨v, st₀, t, T', L, h0, X', hL, e1, e2, hq, st⟩ := hr T hT X
  have hL0 : L = [] := List.eq_nil_iff_forall_not_mem.mpr fun q hq => hL q hq
  subst hL0
  rw [List.append_nil] at X'
  obtain ⟨k1, k2⟩ := kk v st₀ t h0 (by rw [← e2]; exact X'.warmed.alike) hq
  obtain ⟨t2, a1, b1⟩ := k2 T' (e1.trans k1) X'
  exact ⟨t2, st t2 a1, b1⟩
/-- an instance method that only reads and answers an int -/
theorem ro_V {As : List Value} {h0 : Nat} {v : Int32} {nn : Nat} (hx : p.tables.exec = Jvm.exec) (hb : c.code = cc) (hml : c.maxLocals = nL) (hown : s.vm.findClass own = some m.cls) (hC : Cs E s) (hS : va_S A s.heap H locs) (hAb : ∀ q, A q → bA E q)
    (hM : RoI l y b maxL rt rm (.ref h0 :: As) E H v) (hK : KV own index C y b maxL (some rt) nn) (hrm : rm.cells = 0 ∧ rm.slots = 0) (hR : rm.frames + 1 ≤ R.frames ∧ 8 + (maxL + 11) + rm.locals ≤ R.locals) (hrecv : ∃ cellB : Cell, H[h0]? = some cellB ∧ cellB.vm.isStatics = false ∧ s.vm.findClass C = some cellB.cls) (hn : As.length = nn) {lv : List (Nat × Value)} (hl : lv_has ls nL lv) (hr8 : (rest.map fun v => v.category).sum ≤ 8) (hc0 : cells ≤ R.cells ∧ slots ≤ R.slots) (hdg : decode cc pc = .ok (.invokevirtual index, 3))
    (kk : W p l e R s m args below meth c H locs cells slots Q (F0 m (pc + 3) ls (.int v :: rest))) : W p l e R s m args below meth c H locs cells slots Q (F0 m pc ls (As.reverse ++ .ref h0 :: rest)) := by
  have hts := hC.2.1.hts args
  refine run_ro (mc := 0) (ms := 0) (a := (Value.ref h0 :: As).toArray) (va_runV (As := As) (rest := rest) ⟨hx, hb, hml, hown, hts⟩ hM (cwV nn hts hK.1 rfl hrm.1 hrm.2 hK.2 hR) ⟨PcR.blind, hrecv, fun U hU hW => ⟨rfl, hU, hC.go hW hU hS hAb⟩⟩ rfl hn hl.1 rfl (lv_room hr8) hdg hc0) ?_
  intro w st₀ t h1 _ hq
  obtain ⟨⟨r, u, h2, h3, h4⟩, -⟩ := hq
  cases h2
  subst h3
  exact ⟨h4, kk⟩
theorem ro_S {As : List Value} {v : Int32} {nn : Nat} (hx : p.tables.exec = Jvm.exec) (hb : c.code = cc) (hml : c.maxLocals = nL) (hown : s.vm.findClass own = some m.cls) (hC : Cs E s) (hS : va_S A s.heap H locs) (hAb : ∀ q, A q → bA E q)
    (hM : RoI l y b maxL rt rm As E H v) (hK : KS own index y b maxL (some rt) nn) (hrm : rm.cells = 0 ∧ rm.slots = 0) (hR : rm.frames + 1 ≤ R.frames ∧ 8 + (maxL + 11) + rm.locals ≤ R.locals) (hn : As.length = nn) {lv : List (Nat × Value)} (hl : lv_has ls nL lv) (hr8 : (rest.map fun v => v.category).sum ≤ 8) (hc0 : cells ≤ R.cells ∧ slots ≤ R.slots) (hdg : decode cc pc = .ok (.invokestatic index, 3))
    (kk : W p l e R s m args below meth c H locs cells slots Q (F0 m (pc + 3) ls (.int v :: rest))) : W p l e R s m args below meth c H locs cells slots Q (F0 m pc ls (As.reverse ++ rest)) := by
  have hts := hC.2.1.hts args
  refine run_ro (mc := 0) (ms := 0) (a := As.toArray) (va_runS (As := As) (rest := rest) ⟨hx, hb, hml, hown, hts⟩ hM (va_cwS nn hts hK.1 rfl hrm.1 hrm.2 hK.2 hR) ⟨PcR.blind, fun U hU hW => ⟨rfl, hU, hC.go hW hU hS hAb⟩⟩ rfl hn hl.1 rfl (lv_room hr8) hdg hc0) ?_
  intro w st₀ t h1 _ hq
  obtain ⟨⟨r, u, h2, h3, h4⟩, -⟩ := hq
  cases h2
  subst h3
  exact ⟨h4, kk⟩
theorem ro_VL {As : List Value} {h0 : Nat} {v : Int64} {nn : Nat} (hx : p.tables.exec = Jvm.exec) (hb : c.code = cc) (hml : c.maxLocals = nL) (hown : s.vm.findClass own = some m.cls) (hC : Cs E s) (hS : va_S A s.heap H locs) (hAb : ∀ q, A q → bA E q)
    (hM : RoL l y b maxL rm (.ref h0 :: As) E H v) (hK : KV own index C y b maxL (some .long) nn) (hrm : rm.cells = 0 ∧ rm.slots = 0) (hR : rm.frames + 1 ≤ R.frames ∧ 8 + (maxL + 11) + rm.locals ≤ R.locals) (hrecv : ∃ cellB : Cell, H[h0]? = some cellB ∧ cellB.vm.isStatics = false ∧ s.vm.findClass C = some cellB.cls) (hn : As.length = nn) {lv : List (Nat × Value)} (hl : lv_has ls nL lv) (hr8 : (rest.map fun v => v.category).sum ≤ 8) (hc0 : cells ≤ R.cells ∧ slots ≤ R.slots) (hdg : decode cc pc = .ok (.invokevirtual index, 3))
    (kk : W p l e R s m args below meth c H locs cells slots Q (F0 m (pc + 3) ls (.long v :: rest))) : W p l e R s m args below meth c H locs cells slots Q (F0 m pc ls (As.reverse ++ .ref h0 :: rest)) := by
  have hts := hC.2.1.hts args
  refine run_ro (mc := 0) (ms := 0) (a := (Value.ref h0 :: As).toArray) (va_runV (As := As) (rest := rest) ⟨hx, hb, hml, hown, hts⟩ hM (cwV nn hts hK.1 rfl hrm.1 hrm.2 hK.2 hR) ⟨PcR.blind, hrecv, fun U hU hW => ⟨rfl, hU, hC.go hW hU hS hAb⟩⟩ rfl hn hl.1 rfl (lv_room hr8) hdg hc0) ?_
  intro w st₀ t h1 _ hq
  obtain ⟨⟨r, u, h2, h3, h4⟩, -⟩ := hq
  cases h2
  subst h3
  exact ⟨h4, kk⟩
theorem ro_SL {As : List Value} {v : Int64} {nn : Nat} (hx : p.tables.exec = Jvm.exec) (hb : c.code = cc) (hml : c.maxLocals = nL) (hown : s.vm.findClass own = some m.cls) (hC : Cs E s) (hS : va_S A s.heap H locs) (hAb : ∀ q, A q → bA E q)
    (hM : RoL l y b maxL rm As E H v) (hK : KS own index y b maxL (some .long) nn) (hrm : rm.cells = 0 ∧ rm.slots = 0) (hR : rm.frames + 1 ≤ R.frames ∧ 8 + (maxL + 11) + rm.locals ≤ R.locals) (hn : As.length = nn) {lv : List (Nat × Value)} (hl : lv_has ls nL lv) (hr8 : (rest.map fun v => v.category).sum ≤ 8) (hc0 : cells ≤ R.cells ∧ slots ≤ R.slots) (hdg : decode cc pc = .ok (.invokestatic index, 3))
    (kk : W p l e R s m args below meth c H locs cells slots Q (F0 m (pc + 3) ls (.long v :: rest))) : W p l e R s m args below meth c H locs cells slots Q (F0 m pc ls (As.reverse ++ rest)) := by
  have hts := hC.2.1.hts args
  refine run_ro (mc := 0) (ms := 0) (a := As.toArray) (va_runS (As := As) (rest := rest) ⟨hx, hb, hml, hown, hts⟩ hM (va_cwS nn hts hK.1 rfl hrm.1 hrm.2 hK.2 hR) ⟨PcR.blind, fun U hU hW => ⟨rfl, hU, hC.go hW hU hS hAb⟩⟩ rfl hn hl.1 rfl (lv_room hr8) hdg hc0) ?_
  intro w st₀ t h1 _ hq
  obtain ⟨⟨r, u, h2, h3, h4⟩, -⟩ := hq
  cases h2
  subst h3
  exact ⟨h4, kk⟩
theorem ro_VR {As : List Value} {h0 : Nat} {v : Option Nat} {nn : Nat} (hx : p.tables.exec = Jvm.exec) (hb : c.code = cc) (hml : c.maxLocals = nL) (hown : s.vm.findClass own = some m.cls) (hC : Cs E s) (hS : va_S A s.heap H locs) (hAb : ∀ q, A q → bA E q)
    (hM : RoR l y b maxL rt rm (.ref h0 :: As) E H v) (hK : KV own index C y b maxL (some rt) nn) (hrm : rm.cells = 0 ∧ rm.slots = 0) (hR : rm.frames + 1 ≤ R.frames ∧ 8 + (maxL + 11) + rm.locals ≤ R.locals) (hrecv : ∃ cellB : Cell, H[h0]? = some cellB ∧ cellB.vm.isStatics = false ∧ s.vm.findClass C = some cellB.cls) (hn : As.length = nn) {lv : List (Nat × Value)} (hl : lv_has ls nL lv) (hr8 : (rest.map fun v => v.category).sum ≤ 8) (hc0 : cells ≤ R.cells ∧ slots ≤ R.slots) (hdg : decode cc pc = .ok (.invokevirtual index, 3))
    (kk : W p l e R s m args below meth c H locs cells slots Q (F0 m (pc + 3) ls (va_rf v :: rest))) : W p l e R s m args below meth c H locs cells slots Q (F0 m pc ls (As.reverse ++ .ref h0 :: rest)) := by
  have hts := hC.2.1.hts args
  refine run_ro (mc := 0) (ms := 0) (a := (Value.ref h0 :: As).toArray) (va_runV (As := As) (rest := rest) ⟨hx, hb, hml, hown, hts⟩ hM (cwV nn hts hK.1 rfl hrm.1 hrm.2 hK.2 hR) ⟨PcR.blind, hrecv, fun U hU hW => ⟨rfl, hU, hC.go hW hU hS hAb⟩⟩ rfl hn hl.1 rfl (lv_room hr8) hdg hc0) ?_
  intro w st₀ t h1 _ hq
  obtain ⟨h2, h4, -⟩ := hq
  cases h2
  exact ⟨h4, kk⟩
/-- a receiver that is pictured -/
theorem PI.recv (h : PI E.1 L ct ad H) (hC : Cs E s) {k i ci N : Nat} {T : u_T} {fs : List Value} (he : ct k i = some (.inr (ci, fs))) (hc : vwCl[ci]? = some (C, T, N)) : ∃ cellB : Cell, H[ad k i]? = some cellB ∧ cellB.vm.isStatics = false ∧ s.vm.findClass C = some cellB.cls :=
  va_recv hC.1 (h.one he) (ci := ci) (q0 := 0) hc rfl
theorem ro_iret {v x : Int32} (hx : p.tables.exec = Jvm.exec) (hb : c.code = cc) (hr : meth.sig.returnType = some .int) (hlocks : meth.locks = false) (hH : s.heap = H) (hv : x = v) (hdg : decode cc pc = .ok (.ireturn, 1)) : W p l e R s m args below meth c H [] 0 0 (MQ below (QiR v H) args s 0 0 noA) (F0 m pc ls [.int x]) := by
  subst hv
  exact W.iret hx hb hr (fun t ht hW => ⟨⟨x, (), rfl, rfl, ht⟩, (va_S.rf (A := noA) (H0 := s.heap)).F (ht.trans hH.symm)⟩) (fun q hq => absurd hq List.not_mem_nil) hdg
theorem ro_zret {v x : Int32} (hx : p.tables.exec = Jvm.exec) (hb : c.code = cc) (hr : meth.sig.returnType = some .boolean) (hlocks : meth.locks = false) (hH : s.heap = H) {bv : Bool} (hv : x = bI bv) (hdg : decode cc pc = .ok (.ireturn, 1)) : W p l e R s m args below meth c H [] 0 0 (MQ below (QiR (bI bv) H) args s 0 0 noA) (F0 m pc ls [.int x]) := by
  subst hv
  exact W.zret hx hb hr (bI_nar bv) (fun t ht hW => ⟨⟨_, (), rfl, rfl, ht⟩, (va_S.rf (A := noA) (H0 := s.heap)).F (ht.trans hH.symm)⟩) (fun q hq => absurd hq List.not_mem_nil) hdg
theorem ro_lret {v x : Int64} (hx : p.tables.exec = Jvm.exec) (hb : c.code = cc) (hr : meth.sig.returnType = some .long) (hlocks : meth.locks = false) (hH : s.heap = H) (hv : x = v) (hdg : decode cc pc = .ok (.lreturn, 1)) : W p l e R s m args below meth c H [] 0 0 (MQ below (QlR v H) args s 0 0 noA) (F0 m pc ls [.long x]) := by
  subst hv
  exact W.lret hx hb hr (fun t ht hW => ⟨⟨x, (), rfl, rfl, ht⟩, (va_S.rf (A := noA) (H0 := s.heap)).F (ht.trans hH.symm)⟩) (fun q hq => absurd hq List.not_mem_nil) hdg
theorem ro_aret {v x : Option Nat} {nm : String} (hx : p.tables.exec = Jvm.exec) (hb : c.code = cc) (hr : meth.sig.returnType = some (.object nm)) (hlocks : meth.locks = false) (hH : s.heap = H) (hv : x = v) (hdg : decode cc pc = .ok (.areturn, 1)) : W p l e R s m args below meth c H [] 0 0 (MQ below (QrR v H) args s 0 0 noA) (F0 m pc ls [va_rf x]) := by
  subst hv
  refine W.aret hx hb hr (Or.inl ⟨_, rfl⟩) ?_ (fun t ht hW => ⟨rfl, ht, (va_S.rf (A := noA) (H0 := s.heap)).F (ht.trans hH.symm)⟩) (fun q hq => absurd hq List.not_mem_nil) hdg
  cases x with
  | none => exact Or.inl rfl
  | some y => exact Or.inr ⟨y, rfl⟩
end ROB
end
section
theorem wU_X0 : ∀ w ∈ u_ws RX0 TX0 11, w ∈ WG := wg_ps [596, 598, 600, 602, 604, 606, 608, 610, 612, 614, 616] (by decide +kernel) (by decide +kernel)
theorem wU_X1 : ∀ w ∈ u_ws RX1 TX1 11, w ∈ WG := wg_ps [688, 690, 692, 694, 696, 698, 700, 702, 704, 706, 708] (by decide +kernel) (by decide +kernel)
theorem wU_X2 : ∀ w ∈ u_ws RX2 TX2 10, w ∈ WG := wg_ps [478, 480, 482, 484, 486, 488, 490, 492, 494, 496] (by decide +kernel) (by decide +kernel)
theorem wU_X3 : ∀ w ∈ u_ws RX3 TX3 6, w ∈ WG := wg_ps [68, 70, 72, 74, 76, 78] (by decide +kernel) (by decide +kernel)
theorem wU_X4 : ∀ w ∈ u_ws RX4 TX4 10, w ∈ WG := wg_ps [952, 954, 956, 958, 960, 962, 964, 966, 968, 970] (by decide +kernel) (by decide +kernel)
theorem wU_X5 : ∀ w ∈ u_ws RX5 TX5 11, w ∈ WG := wg_ps [1049, 1051, 1053, 1055, 1057, 1059, 1061, 1063, 1065, 1067, 1069] (by decide +kernel) (by decide +kernel)
theorem wU_X6 : ∀ w ∈ u_ws RX6 TX6 8, w ∈ WG := wg_ps [910, 912, 914, 916, 918, 920, 922, 924] (by decide +kernel) (by decide +kernel)
theorem wU_X7 : ∀ w ∈ u_ws RX7 TX7 7, w ∈ WG := wg_ps [853, 855, 857, 859, 861, 863, 865] (by decide +kernel) (by decide +kernel)
theorem wU_Jx4a65c : ∀ w ∈ u_ws RJx4a65c TJx4a65c 3, w ∈ WG := wg_ps [59, 55, 57] (by decide +kernel) (by decide +kernel)
theorem wU_Jx35411 : ∀ w ∈ u_ws RJx35411 TJx35411 4, w ∈ WG := wg_ps [1137, 1139, 1141, 1143] (by decide +kernel) (by decide +kernel)
theorem wFl_X3_10 : .fieldLink RX3 10 "Wallcode" "walls" "Ljava/util/ArrayList;" ∈ WG := wg_t 62 (by decide +kernel) (by decide +kernel)
theorem fL_X3_10 : FL RX3 "Wallcode" 10 5 RX3 TX3 6 0 := ⟨rfl, by decide, wU_X3, wFl_X3_10, rfl⟩
theorem fF_X3_10 : FF RX3 "Wallcode" 10 5 RX3 TX3 6 0 (.object "java/util/ArrayList") := ⟨fL_X3_10, ⟨tyX3, tyX3_ok⟩, nmX3, rfl, rfl, tyX3_ok 0 (by decide)⟩
theorem wFl_X3_16 : .fieldLink RX3 16 "Wallcode" "hands" "Ljava/util/ArrayList;" ∈ WG := wg_t 63 (by decide +kernel) (by decide +kernel)
theorem fL_X3_16 : FL RX3 "Wallcode" 16 5 RX3 TX3 6 1 := ⟨rfl, by decide, wU_X3, wFl_X3_16, rfl⟩
theorem fF_X3_16 : FF RX3 "Wallcode" 16 5 RX3 TX3 6 1 (.object "java/util/ArrayList") := ⟨fL_X3_16, ⟨tyX3, tyX3_ok⟩, nmX3, rfl, rfl, tyX3_ok 1 (by decide)⟩
theorem wFl_X3_19 : .fieldLink RX3 19 "Wallcode" "layers" "Ljava/util/ArrayList;" ∈ WG := wg_t 64 (by decide +kernel) (by decide +kernel)
theorem fL_X3_19 : FL RX3 "Wallcode" 19 5 RX3 TX3 6 2 := ⟨rfl, by decide, wU_X3, wFl_X3_19, rfl⟩
theorem fF_X3_19 : FF RX3 "Wallcode" 19 5 RX3 TX3 6 2 (.object "java/util/ArrayList") := ⟨fL_X3_19, ⟨tyX3, tyX3_ok⟩, nmX3, rfl, rfl, tyX3_ok 2 (by decide)⟩
theorem wFl_X3_22 : .fieldLink RX3 22 "Wallcode" "tonight" "I" ∈ WG := wg_t 65 (by decide +kernel) (by decide +kernel)
theorem fL_X3_22 : FL RX3 "Wallcode" 22 5 RX3 TX3 6 3 := ⟨rfl, by decide, wU_X3, wFl_X3_22, rfl⟩
theorem fP_X3_22 : FP RX3 "Wallcode" 22 5 RX3 TX3 6 3 .int := ⟨fL_X3_22, ⟨tyX3, tyX3_ok⟩, nmX3, rfl, tyX3_ok 3 (by decide)⟩
theorem wFl_X3_26 : .fieldLink RX3 26 "Wallcode" "coins" "I" ∈ WG := wg_t 66 (by decide +kernel) (by decide +kernel)
theorem fL_X3_26 : FL RX3 "Wallcode" 26 5 RX3 TX3 6 4 := ⟨rfl, by decide, wU_X3, wFl_X3_26, rfl⟩
theorem fP_X3_26 : FP RX3 "Wallcode" 26 5 RX3 TX3 6 4 .int := ⟨fL_X3_26, ⟨tyX3, tyX3_ok⟩, nmX3, rfl, tyX3_ok 4 (by decide)⟩
theorem wFl_X3_29 : .fieldLink RX3 29 "Wallcode" "soldFor" "I" ∈ WG := wg_t 67 (by decide +kernel) (by decide +kernel)
theorem fL_X3_29 : FL RX3 "Wallcode" 29 5 RX3 TX3 6 5 := ⟨rfl, by decide, wU_X3, wFl_X3_29, rfl⟩
theorem fP_X3_29 : FP RX3 "Wallcode" 29 5 RX3 TX3 6 5 .int := ⟨fL_X3_29, ⟨tyX3, tyX3_ok⟩, nmX3, rfl, tyX3_ok 5 (by decide)⟩
theorem wFl_X3_78 : .fieldLink RX3 78 "Wallcode$Wall" "permitCrew" "I" ∈ WG := wg_t 471 (by decide +kernel) (by decide +kernel)
theorem fL_X3_78 : FL RX3 "Wallcode$Wall" 78 4 RX2 TX2 10 6 := ⟨rfl, by decide, wU_X2, wFl_X3_78, rfl⟩
theorem fP_X3_78 : FP RX3 "Wallcode$Wall" 78 4 RX2 TX2 10 6 .int := ⟨fL_X3_78, ⟨tyX2, tyX2_ok⟩, nmX2, rfl, tyX2_ok 6 (by decide)⟩
theorem wFl_X3_81 : .fieldLink RX3 81 "Wallcode$Wall" "permitUpTo" "I" ∈ WG := wg_t 473 (by decide +kernel) (by decide +kernel)
theorem fL_X3_81 : FL RX3 "Wallcode$Wall" 81 4 RX2 TX2 10 7 := ⟨rfl, by decide, wU_X2, wFl_X3_81, rfl⟩
theorem fP_X3_81 : FP RX3 "Wallcode$Wall" 81 4 RX2 TX2 10 7 .int := ⟨fL_X3_81, ⟨tyX2, tyX2_ok⟩, nmX2, rfl, tyX2_ok 7 (by decide)⟩
theorem wFl_X3_86 : .fieldLink RX3 86 "Wallcode$Wall" "watchFrom" "I" ∈ WG := wg_t 475 (by decide +kernel) (by decide +kernel)
theorem fL_X3_86 : FL RX3 "Wallcode$Wall" 86 4 RX2 TX2 10 8 := ⟨rfl, by decide, wU_X2, wFl_X3_86, rfl⟩
theorem fP_X3_86 : FP RX3 "Wallcode$Wall" 86 4 RX2 TX2 10 8 .int := ⟨fL_X3_86, ⟨tyX2, tyX2_ok⟩, nmX2, rfl, tyX2_ok 8 (by decide)⟩
theorem wFl_X3_89 : .fieldLink RX3 89 "Wallcode$Wall" "watchTo" "I" ∈ WG := wg_t 477 (by decide +kernel) (by decide +kernel)
theorem fL_X3_89 : FL RX3 "Wallcode$Wall" 89 4 RX2 TX2 10 9 := ⟨rfl, by decide, wU_X2, wFl_X3_89, rfl⟩
theorem fP_X3_89 : FP RX3 "Wallcode$Wall" 89 4 RX2 TX2 10 9 .int := ⟨fL_X3_89, ⟨tyX2, tyX2_ok⟩, nmX2, rfl, tyX2_ok 9 (by decide)⟩
theorem wFl_X3_123 : .fieldLink RX3 123 "Wallcode$Layer" "night" "I" ∈ WG := wg_t 681 (by decide +kernel) (by decide +kernel)
theorem fL_X3_123 : FL RX3 "Wallcode$Layer" 123 3 RX1 TX1 11 7 := ⟨rfl, by decide, wU_X1, wFl_X3_123, rfl⟩
theorem fP_X3_123 : FP RX3 "Wallcode$Layer" 123 3 RX1 TX1 11 7 .int := ⟨fL_X3_123, ⟨tyX1, tyX1_ok⟩, nmX1, rfl, tyX1_ok 7 (by decide)⟩
theorem wFl_X3_130 : .fieldLink RX3 130 "Wallcode$Layer" "legal" "Z" ∈ WG := wg_t 683 (by decide +kernel) (by decide +kernel)
theorem fL_X3_130 : FL RX3 "Wallcode$Layer" 130 3 RX1 TX1 11 8 := ⟨rfl, by decide, wU_X1, wFl_X3_130, rfl⟩
theorem fP_X3_130 : FP RX3 "Wallcode$Layer" 130 3 RX1 TX1 11 8 .boolean := ⟨fL_X3_130, ⟨tyX1, tyX1_ok⟩, nmX1, rfl, tyX1_ok 8 (by decide)⟩
theorem wFl_X3_134 : .fieldLink RX3 134 "Wallcode$Hand" "minutesUsed" "I" ∈ WG := wg_t 587 (by decide +kernel) (by decide +kernel)
theorem fL_X3_134 : FL RX3 "Wallcode$Hand" 134 2 RX0 TX0 11 6 := ⟨rfl, by decide, wU_X0, wFl_X3_134, rfl⟩
theorem fP_X3_134 : FP RX3 "Wallcode$Hand" 134 2 RX0 TX0 11 6 .int := ⟨fL_X3_134, ⟨tyX0, tyX0_ok⟩, nmX0, rfl, tyX0_ok 6 (by decide)⟩
theorem wFl_X3_154 : .fieldLink RX3 154 "Wallcode$Wall" "width" "I" ∈ WG := wg_t 462 (by decide +kernel) (by decide +kernel)
theorem fL_X3_154 : FL RX3 "Wallcode$Wall" 154 4 RX2 TX2 10 1 := ⟨rfl, by decide, wU_X2, wFl_X3_154, rfl⟩
theorem wFl_X3_161 : .fieldLink RX3 161 "Wallcode$Wall" "shown" "[LWallcode$Layer;" ∈ WG := wg_t 469 (by decide +kernel) (by decide +kernel)
theorem fL_X3_161 : FL RX3 "Wallcode$Wall" 161 4 RX2 TX2 10 5 := ⟨rfl, by decide, wU_X2, wFl_X3_161, rfl⟩
theorem wFl_X3_172 : .fieldLink RX3 172 "Wallcode$Layer" "hand" "LWallcode$Hand;" ∈ WG := wg_t 667 (by decide +kernel) (by decide +kernel)
theorem fL_X3_172 : FL RX3 "Wallcode$Layer" 172 3 RX1 TX1 11 1 := ⟨rfl, by decide, wU_X1, wFl_X3_172, rfl⟩
theorem wFl_X3_176 : .fieldLink RX3 176 "Wallcode$Hand" "owed" "I" ∈ WG := wg_t 595 (by decide +kernel) (by decide +kernel)
theorem fL_X3_176 : FL RX3 "Wallcode$Hand" 176 2 RX0 TX0 11 10 := ⟨rfl, by decide, wU_X0, wFl_X3_176, rfl⟩
theorem fP_X3_176 : FP RX3 "Wallcode$Hand" 176 2 RX0 TX0 11 10 .int := ⟨fL_X3_176, ⟨tyX0, tyX0_ok⟩, nmX0, rfl, tyX0_ok 10 (by decide)⟩
theorem wFl_X3_195 : .fieldLink RX3 195 "Wallcode$Layer" "wall" "LWallcode$Wall;" ∈ WG := wg_t 670 (by decide +kernel) (by decide +kernel)
theorem fL_X3_195 : FL RX3 "Wallcode$Layer" 195 3 RX1 TX1 11 2 := ⟨rfl, by decide, wU_X1, wFl_X3_195, rfl⟩
theorem wFl_X3_202 : .fieldLink RX3 202 "Wallcode$Layer" "waived" "Z" ∈ WG := wg_t 685 (by decide +kernel) (by decide +kernel)
theorem fL_X3_202 : FL RX3 "Wallcode$Layer" 202 3 RX1 TX1 11 9 := ⟨rfl, by decide, wU_X1, wFl_X3_202, rfl⟩
theorem fP_X3_202 : FP RX3 "Wallcode$Layer" 202 3 RX1 TX1 11 9 .boolean := ⟨fL_X3_202, ⟨tyX1, tyX1_ok⟩, nmX1, rfl, tyX1_ok 9 (by decide)⟩
theorem wFl_X3_205 : .fieldLink RX3 205 "Wallcode$Layer" "memorial" "Z" ∈ WG := wg_t 687 (by decide +kernel) (by decide +kernel)
theorem fL_X3_205 : FL RX3 "Wallcode$Layer" 205 3 RX1 TX1 11 10 := ⟨rfl, by decide, wU_X1, wFl_X3_205, rfl⟩
theorem fP_X3_205 : FP RX3 "Wallcode$Layer" 205 3 RX1 TX1 11 10 .boolean := ⟨fL_X3_205, ⟨tyX1, tyX1_ok⟩, nmX1, rfl, tyX1_ok 10 (by decide)⟩
theorem wFl_X3_208 : .fieldLink RX3 208 "Wallcode$Hand" "fines" "I" ∈ WG := wg_t 589 (by decide +kernel) (by decide +kernel)
theorem fL_X3_208 : FL RX3 "Wallcode$Hand" 208 2 RX0 TX0 11 7 := ⟨rfl, by decide, wU_X0, wFl_X3_208, rfl⟩
theorem fP_X3_208 : FP RX3 "Wallcode$Hand" 208 2 RX0 TX0 11 7 .int := ⟨fL_X3_208, ⟨tyX0, tyX0_ok⟩, nmX0, rfl, tyX0_ok 7 (by decide)⟩
theorem wFl_X3_218 : .fieldLink RX3 218 "Wallcode$Wall" "sight" "I" ∈ WG := wg_t 464 (by decide +kernel) (by decide +kernel)
theorem fL_X3_218 : FL RX3 "Wallcode$Wall" 218 4 RX2 TX2 10 2 := ⟨rfl, by decide, wU_X2, wFl_X3_218, rfl⟩
theorem wFl_X3_221 : .fieldLink RX3 221 "Wallcode$Wall" "owner" "I" ∈ WG := wg_t 466 (by decide +kernel) (by decide +kernel)
theorem fL_X3_221 : FL RX3 "Wallcode$Wall" 221 4 RX2 TX2 10 3 := ⟨rfl, by decide, wU_X2, wFl_X3_221, rfl⟩
theorem wFl_X3_240 : .fieldLink RX3 240 "Wallcode$Layer" "number" "I" ∈ WG := wg_t 665 (by decide +kernel) (by decide +kernel)
theorem fL_X3_240 : FL RX3 "Wallcode$Layer" 240 3 RX1 TX1 11 0 := ⟨rfl, by decide, wU_X1, wFl_X3_240, rfl⟩
theorem wFl_X3_243 : .fieldLink RX3 243 "Wallcode$Hand" "crew" "I" ∈ WG := wg_t 576 (by decide +kernel) (by decide +kernel)
theorem fL_X3_243 : FL RX3 "Wallcode$Hand" 243 2 RX0 TX0 11 1 := ⟨rfl, by decide, wU_X0, wFl_X3_243, rfl⟩
theorem wFl_X3_246 : .fieldLink RX3 246 "Wallcode$Hand" "known" "Z" ∈ WG := wg_t 591 (by decide +kernel) (by decide +kernel)
theorem fL_X3_246 : FL RX3 "Wallcode$Hand" 246 2 RX0 TX0 11 8 := ⟨rfl, by decide, wU_X0, wFl_X3_246, rfl⟩
theorem fP_X3_246 : FP RX3 "Wallcode$Hand" 246 2 RX0 TX0 11 8 .boolean := ⟨fL_X3_246, ⟨tyX0, tyX0_ok⟩, nmX0, rfl, tyX0_ok 8 (by decide)⟩
theorem wFl_X3_265 : .fieldLink RX3 265 "Wallcode$Hand" "timesCaught" "I" ∈ WG := wg_t 593 (by decide +kernel) (by decide +kernel)
theorem fL_X3_265 : FL RX3 "Wallcode$Hand" 265 2 RX0 TX0 11 9 := ⟨rfl, by decide, wU_X0, wFl_X3_265, rfl⟩
theorem fP_X3_265 : FP RX3 "Wallcode$Hand" 265 2 RX0 TX0 11 9 .int := ⟨fL_X3_265, ⟨tyX0, tyX0_ok⟩, nmX0, rfl, tyX0_ok 9 (by decide)⟩
theorem wFl_X3_270 : .fieldLink RX3 270 "Wallcode$Hand" "number" "I" ∈ WG := wg_t 574 (by decide +kernel) (by decide +kernel)
theorem fL_X3_270 : FL RX3 "Wallcode$Hand" 270 2 RX0 TX0 11 0 := ⟨rfl, by decide, wU_X0, wFl_X3_270, rfl⟩
theorem wFl_X3_271 : .fieldLink RX3 271 "Wallcode$Wall" "number" "I" ∈ WG := wg_t 460 (by decide +kernel) (by decide +kernel)
theorem fL_X3_271 : FL RX3 "Wallcode$Wall" 271 4 RX2 TX2 10 0 := ⟨rfl, by decide, wU_X2, wFl_X3_271, rfl⟩
theorem wFl_X3_272 : .fieldLink RX3 272 "Wallcode$Layer" "from" "I" ∈ WG := wg_t 673 (by decide +kernel) (by decide +kernel)
theorem fL_X3_272 : FL RX3 "Wallcode$Layer" 272 3 RX1 TX1 11 3 := ⟨rfl, by decide, wU_X1, wFl_X3_272, rfl⟩
theorem wFl_X3_275 : .fieldLink RX3 275 "Wallcode$Layer" "wide" "I" ∈ WG := wg_t 676 (by decide +kernel) (by decide +kernel)
theorem fL_X3_275 : FL RX3 "Wallcode$Layer" 275 3 RX1 TX1 11 4 := ⟨rfl, by decide, wU_X1, wFl_X3_275, rfl⟩
theorem wFl_X3_278 : .fieldLink RX3 278 "Wallcode$Layer" "kind" "I" ∈ WG := wg_t 678 (by decide +kernel) (by decide +kernel)
theorem fL_X3_278 : FL RX3 "Wallcode$Layer" 278 3 RX1 TX1 11 5 := ⟨rfl, by decide, wU_X1, wFl_X3_278, rfl⟩
theorem wFl_X3_295 : .fieldLink RX3 295 "Wallcode$Hand" "wrongsTo" "[I" ∈ WG := wg_t 585 (by decide +kernel) (by decide +kernel)
theorem fL_X3_295 : FL RX3 "Wallcode$Hand" 295 2 RX0 TX0 11 5 := ⟨rfl, by decide, wU_X0, wFl_X3_295, rfl⟩
theorem wFl_X3_411 : .fieldLink RX3 411 "Wallcode$Hand" "slant" "I" ∈ WG := wg_t 580 (by decide +kernel) (by decide +kernel)
theorem fL_X3_411 : FL RX3 "Wallcode$Hand" 411 2 RX0 TX0 11 3 := ⟨rfl, by decide, wU_X0, wFl_X3_411, rfl⟩
theorem wFl_X3_414 : .fieldLink RX3 414 "Wallcode$Hand" "round" "I" ∈ WG := wg_t 583 (by decide +kernel) (by decide +kernel)
theorem fL_X3_414 : FL RX3 "Wallcode$Hand" 414 2 RX0 TX0 11 4 := ⟨rfl, by decide, wU_X0, wFl_X3_414, rfl⟩
theorem wFl_X0_9 : .fieldLink RX0 9 "Wallcode$Hand" "number" "I" ∈ WG := wg_t 573 (by decide +kernel) (by decide +kernel)
theorem fL_X0_9 : FL RX0 "Wallcode$Hand" 9 2 RX0 TX0 11 0 := ⟨rfl, by decide, wU_X0, wFl_X0_9, rfl⟩
theorem fF_X0_9 : FF RX0 "Wallcode$Hand" 9 2 RX0 TX0 11 0 .int := ⟨fL_X0_9, ⟨tyX0, tyX0_ok⟩, nmX0, rfl, rfl, tyX0_ok 0 (by decide)⟩
theorem wFl_X0_15 : .fieldLink RX0 15 "Wallcode$Hand" "crew" "I" ∈ WG := wg_t 575 (by decide +kernel) (by decide +kernel)
theorem fL_X0_15 : FL RX0 "Wallcode$Hand" 15 2 RX0 TX0 11 1 := ⟨rfl, by decide, wU_X0, wFl_X0_15, rfl⟩
theorem fF_X0_15 : FF RX0 "Wallcode$Hand" 15 2 RX0 TX0 11 1 .int := ⟨fL_X0_15, ⟨tyX0, tyX0_ok⟩, nmX0, rfl, rfl, tyX0_ok 1 (by decide)⟩
theorem wFl_X0_18 : .fieldLink RX0 18 "Wallcode$Hand" "speed" "I" ∈ WG := wg_t 577 (by decide +kernel) (by decide +kernel)
theorem fL_X0_18 : FL RX0 "Wallcode$Hand" 18 2 RX0 TX0 11 2 := ⟨rfl, by decide, wU_X0, wFl_X0_18, rfl⟩
theorem fF_X0_18 : FF RX0 "Wallcode$Hand" 18 2 RX0 TX0 11 2 .int := ⟨fL_X0_18, ⟨tyX0, tyX0_ok⟩, nmX0, rfl, rfl, tyX0_ok 2 (by decide)⟩
theorem wFl_X0_21 : .fieldLink RX0 21 "Wallcode$Hand" "slant" "I" ∈ WG := wg_t 578 (by decide +kernel) (by decide +kernel)
theorem fL_X0_21 : FL RX0 "Wallcode$Hand" 21 2 RX0 TX0 11 3 := ⟨rfl, by decide, wU_X0, wFl_X0_21, rfl⟩
theorem fF_X0_21 : FF RX0 "Wallcode$Hand" 21 2 RX0 TX0 11 3 .int := ⟨fL_X0_21, ⟨tyX0, tyX0_ok⟩, nmX0, rfl, rfl, tyX0_ok 3 (by decide)⟩
theorem wFl_X0_24 : .fieldLink RX0 24 "Wallcode$Hand" "round" "I" ∈ WG := wg_t 581 (by decide +kernel) (by decide +kernel)
theorem fL_X0_24 : FL RX0 "Wallcode$Hand" 24 2 RX0 TX0 11 4 := ⟨rfl, by decide, wU_X0, wFl_X0_24, rfl⟩
theorem fF_X0_24 : FF RX0 "Wallcode$Hand" 24 2 RX0 TX0 11 4 .int := ⟨fL_X0_24, ⟨tyX0, tyX0_ok⟩, nmX0, rfl, rfl, tyX0_ok 4 (by decide)⟩
theorem wFl_X0_27 : .fieldLink RX0 27 "Wallcode$Hand" "wrongsTo" "[I" ∈ WG := wg_t 584 (by decide +kernel) (by decide +kernel)
theorem fL_X0_27 : FL RX0 "Wallcode$Hand" 27 2 RX0 TX0 11 5 := ⟨rfl, by decide, wU_X0, wFl_X0_27, rfl⟩
theorem fF_X0_27 : FF RX0 "Wallcode$Hand" 27 2 RX0 TX0 11 5 (.array .int) := ⟨fL_X0_27, ⟨tyX0, tyX0_ok⟩, nmX0, rfl, rfl, tyX0_ok 5 (by decide)⟩
theorem wFl_X0_31 : .fieldLink RX0 31 "Wallcode$Hand" "minutesUsed" "I" ∈ WG := wg_t 586 (by decide +kernel) (by decide +kernel)
theorem fL_X0_31 : FL RX0 "Wallcode$Hand" 31 2 RX0 TX0 11 6 := ⟨rfl, by decide, wU_X0, wFl_X0_31, rfl⟩
theorem fP_X0_31 : FP RX0 "Wallcode$Hand" 31 2 RX0 TX0 11 6 .int := ⟨fL_X0_31, ⟨tyX0, tyX0_ok⟩, nmX0, rfl, tyX0_ok 6 (by decide)⟩
theorem wFl_X0_34 : .fieldLink RX0 34 "Wallcode$Hand" "fines" "I" ∈ WG := wg_t 588 (by decide +kernel) (by decide +kernel)
theorem fL_X0_34 : FL RX0 "Wallcode$Hand" 34 2 RX0 TX0 11 7 := ⟨rfl, by decide, wU_X0, wFl_X0_34, rfl⟩
theorem fP_X0_34 : FP RX0 "Wallcode$Hand" 34 2 RX0 TX0 11 7 .int := ⟨fL_X0_34, ⟨tyX0, tyX0_ok⟩, nmX0, rfl, tyX0_ok 7 (by decide)⟩
theorem wFl_X0_37 : .fieldLink RX0 37 "Wallcode$Hand" "known" "Z" ∈ WG := wg_t 590 (by decide +kernel) (by decide +kernel)
theorem fL_X0_37 : FL RX0 "Wallcode$Hand" 37 2 RX0 TX0 11 8 := ⟨rfl, by decide, wU_X0, wFl_X0_37, rfl⟩
theorem fP_X0_37 : FP RX0 "Wallcode$Hand" 37 2 RX0 TX0 11 8 .boolean := ⟨fL_X0_37, ⟨tyX0, tyX0_ok⟩, nmX0, rfl, tyX0_ok 8 (by decide)⟩
theorem wFl_X0_41 : .fieldLink RX0 41 "Wallcode$Hand" "timesCaught" "I" ∈ WG := wg_t 592 (by decide +kernel) (by decide +kernel)
theorem fL_X0_41 : FL RX0 "Wallcode$Hand" 41 2 RX0 TX0 11 9 := ⟨rfl, by decide, wU_X0, wFl_X0_41, rfl⟩
theorem fP_X0_41 : FP RX0 "Wallcode$Hand" 41 2 RX0 TX0 11 9 .int := ⟨fL_X0_41, ⟨tyX0, tyX0_ok⟩, nmX0, rfl, tyX0_ok 9 (by decide)⟩
theorem wFl_X0_44 : .fieldLink RX0 44 "Wallcode$Hand" "owed" "I" ∈ WG := wg_t 594 (by decide +kernel) (by decide +kernel)
theorem fL_X0_44 : FL RX0 "Wallcode$Hand" 44 2 RX0 TX0 11 10 := ⟨rfl, by decide, wU_X0, wFl_X0_44, rfl⟩
theorem fP_X0_44 : FP RX0 "Wallcode$Hand" 44 2 RX0 TX0 11 10 .int := ⟨fL_X0_44, ⟨tyX0, tyX0_ok⟩, nmX0, rfl, tyX0_ok 10 (by decide)⟩
theorem wFl_X1_9 : .fieldLink RX1 9 "Wallcode$Layer" "number" "I" ∈ WG := wg_t 664 (by decide +kernel) (by decide +kernel)
theorem fL_X1_9 : FL RX1 "Wallcode$Layer" 9 3 RX1 TX1 11 0 := ⟨rfl, by decide, wU_X1, wFl_X1_9, rfl⟩
theorem fF_X1_9 : FF RX1 "Wallcode$Layer" 9 3 RX1 TX1 11 0 .int := ⟨fL_X1_9, ⟨tyX1, tyX1_ok⟩, nmX1, rfl, rfl, tyX1_ok 0 (by decide)⟩
theorem wFl_X1_15 : .fieldLink RX1 15 "Wallcode$Layer" "hand" "LWallcode$Hand;" ∈ WG := wg_t 666 (by decide +kernel) (by decide +kernel)
theorem fL_X1_15 : FL RX1 "Wallcode$Layer" 15 3 RX1 TX1 11 1 := ⟨rfl, by decide, wU_X1, wFl_X1_15, rfl⟩
theorem fF_X1_15 : FF RX1 "Wallcode$Layer" 15 3 RX1 TX1 11 1 (.object "Wallcode$Hand") := ⟨fL_X1_15, ⟨tyX1, tyX1_ok⟩, nmX1, rfl, rfl, tyX1_ok 1 (by decide)⟩
theorem wFl_X1_19 : .fieldLink RX1 19 "Wallcode$Layer" "wall" "LWallcode$Wall;" ∈ WG := wg_t 669 (by decide +kernel) (by decide +kernel)
theorem fL_X1_19 : FL RX1 "Wallcode$Layer" 19 3 RX1 TX1 11 2 := ⟨rfl, by decide, wU_X1, wFl_X1_19, rfl⟩
theorem fF_X1_19 : FF RX1 "Wallcode$Layer" 19 3 RX1 TX1 11 2 (.object "Wallcode$Wall") := ⟨fL_X1_19, ⟨tyX1, tyX1_ok⟩, nmX1, rfl, rfl, tyX1_ok 2 (by decide)⟩
theorem wFl_X1_23 : .fieldLink RX1 23 "Wallcode$Layer" "from" "I" ∈ WG := wg_t 671 (by decide +kernel) (by decide +kernel)
theorem fL_X1_23 : FL RX1 "Wallcode$Layer" 23 3 RX1 TX1 11 3 := ⟨rfl, by decide, wU_X1, wFl_X1_23, rfl⟩
theorem fF_X1_23 : FF RX1 "Wallcode$Layer" 23 3 RX1 TX1 11 3 .int := ⟨fL_X1_23, ⟨tyX1, tyX1_ok⟩, nmX1, rfl, rfl, tyX1_ok 3 (by decide)⟩
theorem wFl_X1_26 : .fieldLink RX1 26 "Wallcode$Layer" "wide" "I" ∈ WG := wg_t 674 (by decide +kernel) (by decide +kernel)
theorem fL_X1_26 : FL RX1 "Wallcode$Layer" 26 3 RX1 TX1 11 4 := ⟨rfl, by decide, wU_X1, wFl_X1_26, rfl⟩
theorem fF_X1_26 : FF RX1 "Wallcode$Layer" 26 3 RX1 TX1 11 4 .int := ⟨fL_X1_26, ⟨tyX1, tyX1_ok⟩, nmX1, rfl, rfl, tyX1_ok 4 (by decide)⟩
theorem wFl_X1_29 : .fieldLink RX1 29 "Wallcode$Layer" "kind" "I" ∈ WG := wg_t 677 (by decide +kernel) (by decide +kernel)
theorem fL_X1_29 : FL RX1 "Wallcode$Layer" 29 3 RX1 TX1 11 5 := ⟨rfl, by decide, wU_X1, wFl_X1_29, rfl⟩
theorem fF_X1_29 : FF RX1 "Wallcode$Layer" 29 3 RX1 TX1 11 5 .int := ⟨fL_X1_29, ⟨tyX1, tyX1_ok⟩, nmX1, rfl, rfl, tyX1_ok 5 (by decide)⟩
theorem wFl_X1_32 : .fieldLink RX1 32 "Wallcode$Layer" "wobble" "I" ∈ WG := wg_t 679 (by decide +kernel) (by decide +kernel)
theorem fL_X1_32 : FL RX1 "Wallcode$Layer" 32 3 RX1 TX1 11 6 := ⟨rfl, by decide, wU_X1, wFl_X1_32, rfl⟩
theorem fF_X1_32 : FF RX1 "Wallcode$Layer" 32 3 RX1 TX1 11 6 .int := ⟨fL_X1_32, ⟨tyX1, tyX1_ok⟩, nmX1, rfl, rfl, tyX1_ok 6 (by decide)⟩
theorem wFl_X1_35 : .fieldLink RX1 35 "Wallcode$Layer" "night" "I" ∈ WG := wg_t 680 (by decide +kernel) (by decide +kernel)
theorem fL_X1_35 : FL RX1 "Wallcode$Layer" 35 3 RX1 TX1 11 7 := ⟨rfl, by decide, wU_X1, wFl_X1_35, rfl⟩
theorem fP_X1_35 : FP RX1 "Wallcode$Layer" 35 3 RX1 TX1 11 7 .int := ⟨fL_X1_35, ⟨tyX1, tyX1_ok⟩, nmX1, rfl, tyX1_ok 7 (by decide)⟩
theorem wFl_X1_38 : .fieldLink RX1 38 "Wallcode$Layer" "legal" "Z" ∈ WG := wg_t 682 (by decide +kernel) (by decide +kernel)
theorem fL_X1_38 : FL RX1 "Wallcode$Layer" 38 3 RX1 TX1 11 8 := ⟨rfl, by decide, wU_X1, wFl_X1_38, rfl⟩
theorem fP_X1_38 : FP RX1 "Wallcode$Layer" 38 3 RX1 TX1 11 8 .boolean := ⟨fL_X1_38, ⟨tyX1, tyX1_ok⟩, nmX1, rfl, tyX1_ok 8 (by decide)⟩
theorem wFl_X1_42 : .fieldLink RX1 42 "Wallcode$Layer" "waived" "Z" ∈ WG := wg_t 684 (by decide +kernel) (by decide +kernel)
theorem fL_X1_42 : FL RX1 "Wallcode$Layer" 42 3 RX1 TX1 11 9 := ⟨rfl, by decide, wU_X1, wFl_X1_42, rfl⟩
theorem fP_X1_42 : FP RX1 "Wallcode$Layer" 42 3 RX1 TX1 11 9 .boolean := ⟨fL_X1_42, ⟨tyX1, tyX1_ok⟩, nmX1, rfl, tyX1_ok 9 (by decide)⟩
theorem wFl_X1_45 : .fieldLink RX1 45 "Wallcode$Layer" "memorial" "Z" ∈ WG := wg_t 686 (by decide +kernel) (by decide +kernel)
theorem fL_X1_45 : FL RX1 "Wallcode$Layer" 45 3 RX1 TX1 11 10 := ⟨rfl, by decide, wU_X1, wFl_X1_45, rfl⟩
theorem fP_X1_45 : FP RX1 "Wallcode$Layer" 45 3 RX1 TX1 11 10 .boolean := ⟨fL_X1_45, ⟨tyX1, tyX1_ok⟩, nmX1, rfl, tyX1_ok 10 (by decide)⟩
theorem wFl_X1_62 : .fieldLink RX1 62 "Wallcode$Hand" "slant" "I" ∈ WG := wg_t 579 (by decide +kernel) (by decide +kernel)
theorem fL_X1_62 : FL RX1 "Wallcode$Hand" 62 2 RX0 TX0 11 3 := ⟨rfl, by decide, wU_X0, wFl_X1_62, rfl⟩
theorem wFl_X1_67 : .fieldLink RX1 67 "Wallcode$Hand" "round" "I" ∈ WG := wg_t 582 (by decide +kernel) (by decide +kernel)
theorem fL_X1_67 : FL RX1 "Wallcode$Hand" 67 2 RX0 TX0 11 4 := ⟨rfl, by decide, wU_X0, wFl_X1_67, rfl⟩
theorem wFl_X2_9 : .fieldLink RX2 9 "Wallcode$Wall" "number" "I" ∈ WG := wg_t 459 (by decide +kernel) (by decide +kernel)
theorem fL_X2_9 : FL RX2 "Wallcode$Wall" 9 4 RX2 TX2 10 0 := ⟨rfl, by decide, wU_X2, wFl_X2_9, rfl⟩
theorem fF_X2_9 : FF RX2 "Wallcode$Wall" 9 4 RX2 TX2 10 0 .int := ⟨fL_X2_9, ⟨tyX2, tyX2_ok⟩, nmX2, rfl, rfl, tyX2_ok 0 (by decide)⟩
theorem wFl_X2_15 : .fieldLink RX2 15 "Wallcode$Wall" "width" "I" ∈ WG := wg_t 461 (by decide +kernel) (by decide +kernel)
theorem fL_X2_15 : FL RX2 "Wallcode$Wall" 15 4 RX2 TX2 10 1 := ⟨rfl, by decide, wU_X2, wFl_X2_15, rfl⟩
theorem fF_X2_15 : FF RX2 "Wallcode$Wall" 15 4 RX2 TX2 10 1 .int := ⟨fL_X2_15, ⟨tyX2, tyX2_ok⟩, nmX2, rfl, rfl, tyX2_ok 1 (by decide)⟩
theorem wFl_X2_18 : .fieldLink RX2 18 "Wallcode$Wall" "sight" "I" ∈ WG := wg_t 463 (by decide +kernel) (by decide +kernel)
theorem fL_X2_18 : FL RX2 "Wallcode$Wall" 18 4 RX2 TX2 10 2 := ⟨rfl, by decide, wU_X2, wFl_X2_18, rfl⟩
theorem fF_X2_18 : FF RX2 "Wallcode$Wall" 18 4 RX2 TX2 10 2 .int := ⟨fL_X2_18, ⟨tyX2, tyX2_ok⟩, nmX2, rfl, rfl, tyX2_ok 2 (by decide)⟩
theorem wFl_X2_21 : .fieldLink RX2 21 "Wallcode$Wall" "owner" "I" ∈ WG := wg_t 465 (by decide +kernel) (by decide +kernel)
theorem fL_X2_21 : FL RX2 "Wallcode$Wall" 21 4 RX2 TX2 10 3 := ⟨rfl, by decide, wU_X2, wFl_X2_21, rfl⟩
theorem fF_X2_21 : FF RX2 "Wallcode$Wall" 21 4 RX2 TX2 10 3 .int := ⟨fL_X2_21, ⟨tyX2, tyX2_ok⟩, nmX2, rfl, rfl, tyX2_ok 3 (by decide)⟩
theorem wFl_X2_24 : .fieldLink RX2 24 "Wallcode$Wall" "cleaning" "I" ∈ WG := wg_t 467 (by decide +kernel) (by decide +kernel)
theorem fL_X2_24 : FL RX2 "Wallcode$Wall" 24 4 RX2 TX2 10 4 := ⟨rfl, by decide, wU_X2, wFl_X2_24, rfl⟩
theorem fF_X2_24 : FF RX2 "Wallcode$Wall" 24 4 RX2 TX2 10 4 .int := ⟨fL_X2_24, ⟨tyX2, tyX2_ok⟩, nmX2, rfl, rfl, tyX2_ok 4 (by decide)⟩
theorem wFl_X2_29 : .fieldLink RX2 29 "Wallcode$Wall" "shown" "[LWallcode$Layer;" ∈ WG := wg_t 468 (by decide +kernel) (by decide +kernel)
theorem fL_X2_29 : FL RX2 "Wallcode$Wall" 29 4 RX2 TX2 10 5 := ⟨rfl, by decide, wU_X2, wFl_X2_29, rfl⟩
theorem fF_X2_29 : FF RX2 "Wallcode$Wall" 29 4 RX2 TX2 10 5 (.array (.object "Wallcode$Layer")) := ⟨fL_X2_29, ⟨tyX2, tyX2_ok⟩, nmX2, rfl, rfl, tyX2_ok 5 (by decide)⟩
theorem wFl_X2_33 : .fieldLink RX2 33 "Wallcode$Wall" "permitCrew" "I" ∈ WG := wg_t 470 (by decide +kernel) (by decide +kernel)
theorem fL_X2_33 : FL RX2 "Wallcode$Wall" 33 4 RX2 TX2 10 6 := ⟨rfl, by decide, wU_X2, wFl_X2_33, rfl⟩
theorem fP_X2_33 : FP RX2 "Wallcode$Wall" 33 4 RX2 TX2 10 6 .int := ⟨fL_X2_33, ⟨tyX2, tyX2_ok⟩, nmX2, rfl, tyX2_ok 6 (by decide)⟩
theorem wFl_X2_36 : .fieldLink RX2 36 "Wallcode$Wall" "permitUpTo" "I" ∈ WG := wg_t 472 (by decide +kernel) (by decide +kernel)
theorem fL_X2_36 : FL RX2 "Wallcode$Wall" 36 4 RX2 TX2 10 7 := ⟨rfl, by decide, wU_X2, wFl_X2_36, rfl⟩
theorem fP_X2_36 : FP RX2 "Wallcode$Wall" 36 4 RX2 TX2 10 7 .int := ⟨fL_X2_36, ⟨tyX2, tyX2_ok⟩, nmX2, rfl, tyX2_ok 7 (by decide)⟩
theorem wFl_X2_39 : .fieldLink RX2 39 "Wallcode$Wall" "watchFrom" "I" ∈ WG := wg_t 474 (by decide +kernel) (by decide +kernel)
theorem fL_X2_39 : FL RX2 "Wallcode$Wall" 39 4 RX2 TX2 10 8 := ⟨rfl, by decide, wU_X2, wFl_X2_39, rfl⟩
theorem fP_X2_39 : FP RX2 "Wallcode$Wall" 39 4 RX2 TX2 10 8 .int := ⟨fL_X2_39, ⟨tyX2, tyX2_ok⟩, nmX2, rfl, tyX2_ok 8 (by decide)⟩
theorem wFl_X2_42 : .fieldLink RX2 42 "Wallcode$Wall" "watchTo" "I" ∈ WG := wg_t 476 (by decide +kernel) (by decide +kernel)
theorem fL_X2_42 : FL RX2 "Wallcode$Wall" 42 4 RX2 TX2 10 9 := ⟨rfl, by decide, wU_X2, wFl_X2_42, rfl⟩
theorem fP_X2_42 : FP RX2 "Wallcode$Wall" 42 4 RX2 TX2 10 9 .int := ⟨fL_X2_42, ⟨tyX2, tyX2_ok⟩, nmX2, rfl, tyX2_ok 9 (by decide)⟩
theorem wFl_X2_49 : .fieldLink RX2 49 "Wallcode$Layer" "hand" "LWallcode$Hand;" ∈ WG := wg_t 668 (by decide +kernel) (by decide +kernel)
theorem fL_X2_49 : FL RX2 "Wallcode$Layer" 49 3 RX1 TX1 11 1 := ⟨rfl, by decide, wU_X1, wFl_X2_49, rfl⟩
theorem wFl_X2_57 : .fieldLink RX2 57 "Wallcode$Layer" "from" "I" ∈ WG := wg_t 672 (by decide +kernel) (by decide +kernel)
theorem fL_X2_57 : FL RX2 "Wallcode$Layer" 57 3 RX1 TX1 11 3 := ⟨rfl, by decide, wU_X1, wFl_X2_57, rfl⟩
theorem wFl_X2_60 : .fieldLink RX2 60 "Wallcode$Layer" "wide" "I" ∈ WG := wg_t 675 (by decide +kernel) (by decide +kernel)
theorem fL_X2_60 : FL RX2 "Wallcode$Layer" 60 3 RX1 TX1 11 4 := ⟨rfl, by decide, wU_X1, wFl_X2_60, rfl⟩
theorem wFl_X7_9 : .fieldLink RX7 9 "WallcodeModel" "coins" "I" ∈ WG := wg_t 848 (by decide +kernel) (by decide +kernel)
theorem fL_X7_9 : FL RX7 "WallcodeModel" 9 9 RX7 TX7 7 2 := ⟨rfl, by decide, wU_X7, wFl_X7_9, rfl⟩
theorem fP_X7_9 : FP RX7 "WallcodeModel" 9 9 RX7 TX7 7 2 .int := ⟨fL_X7_9, ⟨tyX7, tyX7_ok⟩, nmX7, rfl, tyX7_ok 2 (by decide)⟩
theorem wFl_X7_16 : .fieldLink RX7 16 "WallcodeModel" "walls" "Ljava/util/ArrayList;" ∈ WG := wg_t 850 (by decide +kernel) (by decide +kernel)
theorem fL_X7_16 : FL RX7 "WallcodeModel" 16 9 RX7 TX7 7 4 := ⟨rfl, by decide, wU_X7, wFl_X7_16, rfl⟩
theorem fF_X7_16 : FF RX7 "WallcodeModel" 16 9 RX7 TX7 7 4 (.object "java/util/ArrayList") := ⟨fL_X7_16, ⟨tyX7, tyX7_ok⟩, nmX7, rfl, rfl, tyX7_ok 4 (by decide)⟩
theorem wFl_X7_20 : .fieldLink RX7 20 "WallcodeModel" "hands" "Ljava/util/ArrayList;" ∈ WG := wg_t 851 (by decide +kernel) (by decide +kernel)
theorem fL_X7_20 : FL RX7 "WallcodeModel" 20 9 RX7 TX7 7 5 := ⟨rfl, by decide, wU_X7, wFl_X7_20, rfl⟩
theorem fF_X7_20 : FF RX7 "WallcodeModel" 20 9 RX7 TX7 7 5 (.object "java/util/ArrayList") := ⟨fL_X7_20, ⟨tyX7, tyX7_ok⟩, nmX7, rfl, rfl, tyX7_ok 5 (by decide)⟩
theorem wFl_X7_23 : .fieldLink RX7 23 "WallcodeModel" "layers" "Ljava/util/ArrayList;" ∈ WG := wg_t 852 (by decide +kernel) (by decide +kernel)
theorem fL_X7_23 : FL RX7 "WallcodeModel" 23 9 RX7 TX7 7 6 := ⟨rfl, by decide, wU_X7, wFl_X7_23, rfl⟩
theorem fF_X7_23 : FF RX7 "WallcodeModel" 23 9 RX7 TX7 7 6 (.object "java/util/ArrayList") := ⟨fL_X7_23, ⟨tyX7, tyX7_ok⟩, nmX7, rfl, rfl, tyX7_ok 6 (by decide)⟩
theorem wFl_X7_26 : .fieldLink RX7 26 "WallcodeModel" "thrown" "I" ∈ WG := wg_t 846 (by decide +kernel) (by decide +kernel)
theorem fL_X7_26 : FL RX7 "WallcodeModel" 26 9 RX7 TX7 7 0 := ⟨rfl, by decide, wU_X7, wFl_X7_26, rfl⟩
theorem fP_X7_26 : FP RX7 "WallcodeModel" 26 9 RX7 TX7 7 0 .int := ⟨fL_X7_26, ⟨tyX7, tyX7_ok⟩, nmX7, rfl, tyX7_ok 0 (by decide)⟩
theorem wFl_X7_60 : .fieldLink RX7 60 "WallcodeModel" "night" "I" ∈ WG := wg_t 847 (by decide +kernel) (by decide +kernel)
theorem fL_X7_60 : FL RX7 "WallcodeModel" 60 9 RX7 TX7 7 1 := ⟨rfl, by decide, wU_X7, wFl_X7_60, rfl⟩
theorem fP_X7_60 : FP RX7 "WallcodeModel" 60 9 RX7 TX7 7 1 .int := ⟨fL_X7_60, ⟨tyX7, tyX7_ok⟩, nmX7, rfl, tyX7_ok 1 (by decide)⟩
theorem wFl_X7_71 : .fieldLink RX7 71 "WallcodeModel$Wall" "crew" "I" ∈ WG := wg_t 903 (by decide +kernel) (by decide +kernel)
theorem fL_X7_71 : FL RX7 "WallcodeModel$Wall" 71 8 RX6 TX6 8 4 := ⟨rfl, by decide, wU_X6, wFl_X7_71, rfl⟩
theorem fP_X7_71 : FP RX7 "WallcodeModel$Wall" 71 8 RX6 TX6 8 4 .int := ⟨fL_X7_71, ⟨tyX6, tyX6_ok⟩, nmX6, rfl, tyX6_ok 4 (by decide)⟩
theorem wFl_X7_74 : .fieldLink RX7 74 "WallcodeModel$Wall" "until" "I" ∈ WG := wg_t 905 (by decide +kernel) (by decide +kernel)
theorem fL_X7_74 : FL RX7 "WallcodeModel$Wall" 74 8 RX6 TX6 8 5 := ⟨rfl, by decide, wU_X6, wFl_X7_74, rfl⟩
theorem fP_X7_74 : FP RX7 "WallcodeModel$Wall" 74 8 RX6 TX6 8 5 .int := ⟨fL_X7_74, ⟨tyX6, tyX6_ok⟩, nmX6, rfl, tyX6_ok 5 (by decide)⟩
theorem wFl_X7_77 : .fieldLink RX7 77 "WallcodeModel$Wall" "from" "I" ∈ WG := wg_t 907 (by decide +kernel) (by decide +kernel)
theorem fL_X7_77 : FL RX7 "WallcodeModel$Wall" 77 8 RX6 TX6 8 6 := ⟨rfl, by decide, wU_X6, wFl_X7_77, rfl⟩
theorem fP_X7_77 : FP RX7 "WallcodeModel$Wall" 77 8 RX6 TX6 8 6 .int := ⟨fL_X7_77, ⟨tyX6, tyX6_ok⟩, nmX6, rfl, tyX6_ok 6 (by decide)⟩
theorem wFl_X7_80 : .fieldLink RX7 80 "WallcodeModel$Wall" "to" "I" ∈ WG := wg_t 909 (by decide +kernel) (by decide +kernel)
theorem fL_X7_80 : FL RX7 "WallcodeModel$Wall" 80 8 RX6 TX6 8 7 := ⟨rfl, by decide, wU_X6, wFl_X7_80, rfl⟩
theorem fP_X7_80 : FP RX7 "WallcodeModel$Wall" 80 8 RX6 TX6 8 7 .int := ⟨fL_X7_80, ⟨tyX6, tyX6_ok⟩, nmX6, rfl, tyX6_ok 7 (by decide)⟩
theorem wFl_X7_83 : .fieldLink RX7 83 "WallcodeModel$Hand" "crew" "I" ∈ WG := wg_t 939 (by decide +kernel) (by decide +kernel)
theorem fL_X7_83 : FL RX7 "WallcodeModel$Hand" 83 6 RX4 TX4 10 0 := ⟨rfl, by decide, wU_X4, wFl_X7_83, rfl⟩
theorem wFl_X7_84 : .fieldLink RX7 84 "WallcodeModel$Layer" "hand" "I" ∈ WG := wg_t 1030 (by decide +kernel) (by decide +kernel)
theorem fL_X7_84 : FL RX7 "WallcodeModel$Layer" 84 7 RX5 TX5 11 0 := ⟨rfl, by decide, wU_X5, wFl_X7_84, rfl⟩
theorem wFl_X7_89 : .fieldLink RX7 89 "WallcodeModel$Layer" "isMemorial" "Z" ∈ WG := wg_t 1048 (by decide +kernel) (by decide +kernel)
theorem fL_X7_89 : FL RX7 "WallcodeModel$Layer" 89 7 RX5 TX5 11 10 := ⟨rfl, by decide, wU_X5, wFl_X7_89, rfl⟩
theorem fP_X7_89 : FP RX7 "WallcodeModel$Layer" 89 7 RX5 TX5 11 10 .boolean := ⟨fL_X7_89, ⟨tyX5, tyX5_ok⟩, nmX5, rfl, tyX5_ok 10 (by decide)⟩
theorem wFl_X7_93 : .fieldLink RX7 93 "WallcodeModel$Layer" "kind" "I" ∈ WG := wg_t 1038 (by decide +kernel) (by decide +kernel)
theorem fL_X7_93 : FL RX7 "WallcodeModel$Layer" 93 7 RX5 TX5 11 4 := ⟨rfl, by decide, wU_X5, wFl_X7_93, rfl⟩
theorem wFl_X7_96 : .fieldLink RX7 96 "WallcodeModel$Layer" "night" "I" ∈ WG := wg_t 1044 (by decide +kernel) (by decide +kernel)
theorem fL_X7_96 : FL RX7 "WallcodeModel$Layer" 96 7 RX5 TX5 11 7 := ⟨rfl, by decide, wU_X5, wFl_X7_96, rfl⟩
theorem wFl_X7_97 : .fieldLink RX7 97 "WallcodeModel$Wall" "shows" "[I" ∈ WG := wg_t 901 (by decide +kernel) (by decide +kernel)
theorem fL_X7_97 : FL RX7 "WallcodeModel$Wall" 97 8 RX6 TX6 8 3 := ⟨rfl, by decide, wU_X6, wFl_X7_97, rfl⟩
theorem wFl_X7_123 : .fieldLink RX7 123 "WallcodeModel$Hand" "used" "I" ∈ WG := wg_t 945 (by decide +kernel) (by decide +kernel)
theorem fL_X7_123 : FL RX7 "WallcodeModel$Hand" 123 6 RX4 TX4 10 4 := ⟨rfl, by decide, wU_X4, wFl_X7_123, rfl⟩
theorem fP_X7_123 : FP RX7 "WallcodeModel$Hand" 123 6 RX4 TX4 10 4 .int := ⟨fL_X7_123, ⟨tyX4, tyX4_ok⟩, nmX4, rfl, tyX4_ok 4 (by decide)⟩
theorem wFl_X7_130 : .fieldLink RX7 130 "WallcodeModel$Hand" "wrongs" "[I" ∈ WG := wg_t 951 (by decide +kernel) (by decide +kernel)
theorem fL_X7_130 : FL RX7 "WallcodeModel$Hand" 130 6 RX4 TX4 10 9 := ⟨rfl, by decide, wU_X4, wFl_X7_130, rfl⟩
theorem wFl_X7_133 : .fieldLink RX7 133 "WallcodeModel$Hand" "slant" "I" ∈ WG := wg_t 942 (by decide +kernel) (by decide +kernel)
theorem fL_X7_133 : FL RX7 "WallcodeModel$Hand" 133 6 RX4 TX4 10 2 := ⟨rfl, by decide, wU_X4, wFl_X7_133, rfl⟩
theorem wFl_X7_136 : .fieldLink RX7 136 "WallcodeModel$Hand" "round" "I" ∈ WG := wg_t 944 (by decide +kernel) (by decide +kernel)
theorem fL_X7_136 : FL RX7 "WallcodeModel$Hand" 136 6 RX4 TX4 10 3 := ⟨rfl, by decide, wU_X4, wFl_X7_136, rfl⟩
theorem wFl_X7_145 : .fieldLink RX7 145 "WallcodeModel$Hand" "caught" "I" ∈ WG := wg_t 948 (by decide +kernel) (by decide +kernel)
theorem fL_X7_145 : FL RX7 "WallcodeModel$Hand" 145 6 RX4 TX4 10 7 := ⟨rfl, by decide, wU_X4, wFl_X7_145, rfl⟩
theorem fP_X7_145 : FP RX7 "WallcodeModel$Hand" 145 6 RX4 TX4 10 7 .int := ⟨fL_X7_145, ⟨tyX4, tyX4_ok⟩, nmX4, rfl, tyX4_ok 7 (by decide)⟩
theorem wFl_X7_148 : .fieldLink RX7 148 "WallcodeModel$Hand" "fines" "I" ∈ WG := wg_t 946 (by decide +kernel) (by decide +kernel)
theorem fL_X7_148 : FL RX7 "WallcodeModel$Hand" 148 6 RX4 TX4 10 5 := ⟨rfl, by decide, wU_X4, wFl_X7_148, rfl⟩
theorem fP_X7_148 : FP RX7 "WallcodeModel$Hand" 148 6 RX4 TX4 10 5 .int := ⟨fL_X7_148, ⟨tyX4, tyX4_ok⟩, nmX4, rfl, tyX4_ok 5 (by decide)⟩
theorem wFl_X7_151 : .fieldLink RX7 151 "WallcodeModel$Hand" "isKnown" "Z" ∈ WG := wg_t 947 (by decide +kernel) (by decide +kernel)
theorem fL_X7_151 : FL RX7 "WallcodeModel$Hand" 151 6 RX4 TX4 10 6 := ⟨rfl, by decide, wU_X4, wFl_X7_151, rfl⟩
theorem fP_X7_151 : FP RX7 "WallcodeModel$Hand" 151 6 RX4 TX4 10 6 .boolean := ⟨fL_X7_151, ⟨tyX4, tyX4_ok⟩, nmX4, rfl, tyX4_ok 6 (by decide)⟩
theorem wFl_X7_154 : .fieldLink RX7 154 "WallcodeModel$Layer" "isLegal" "Z" ∈ WG := wg_t 1046 (by decide +kernel) (by decide +kernel)
theorem fL_X7_154 : FL RX7 "WallcodeModel$Layer" 154 7 RX5 TX5 11 8 := ⟨rfl, by decide, wU_X5, wFl_X7_154, rfl⟩
theorem wFl_X7_162 : .fieldLink RX7 162 "WallcodeModel$Layer" "isWaived" "Z" ∈ WG := wg_t 1047 (by decide +kernel) (by decide +kernel)
theorem fL_X7_162 : FL RX7 "WallcodeModel$Layer" 162 7 RX5 TX5 11 9 := ⟨rfl, by decide, wU_X5, wFl_X7_162, rfl⟩
theorem fP_X7_162 : FP RX7 "WallcodeModel$Layer" 162 7 RX5 TX5 11 9 .boolean := ⟨fL_X7_162, ⟨tyX5, tyX5_ok⟩, nmX5, rfl, tyX5_ok 9 (by decide)⟩
theorem wFl_X7_168 : .fieldLink RX7 168 "WallcodeModel$Hand" "owed" "I" ∈ WG := wg_t 949 (by decide +kernel) (by decide +kernel)
theorem fL_X7_168 : FL RX7 "WallcodeModel$Hand" 168 6 RX4 TX4 10 8 := ⟨rfl, by decide, wU_X4, wFl_X7_168, rfl⟩
theorem fP_X7_168 : FP RX7 "WallcodeModel$Hand" 168 6 RX4 TX4 10 8 .int := ⟨fL_X7_168, ⟨tyX4, tyX4_ok⟩, nmX4, rfl, tyX4_ok 8 (by decide)⟩
theorem wFl_X7_174 : .fieldLink RX7 174 "WallcodeModel$Layer" "wall" "I" ∈ WG := wg_t 1032 (by decide +kernel) (by decide +kernel)
theorem fL_X7_174 : FL RX7 "WallcodeModel$Layer" 174 7 RX5 TX5 11 1 := ⟨rfl, by decide, wU_X5, wFl_X7_174, rfl⟩
theorem wFl_X7_194 : .fieldLink RX7 194 "WallcodeModel$Wall" "sight" "I" ∈ WG := wg_t 895 (by decide +kernel) (by decide +kernel)
theorem fL_X7_194 : FL RX7 "WallcodeModel$Wall" 194 8 RX6 TX6 8 0 := ⟨rfl, by decide, wU_X6, wFl_X7_194, rfl⟩
theorem wFl_X7_209 : .fieldLink RX7 209 "WallcodeModel" "sold" "I" ∈ WG := wg_t 849 (by decide +kernel) (by decide +kernel)
theorem fL_X7_209 : FL RX7 "WallcodeModel" 209 9 RX7 TX7 7 3 := ⟨rfl, by decide, wU_X7, wFl_X7_209, rfl⟩
theorem fP_X7_209 : FP RX7 "WallcodeModel" 209 9 RX7 TX7 7 3 .int := ⟨fL_X7_209, ⟨tyX7, tyX7_ok⟩, nmX7, rfl, tyX7_ok 3 (by decide)⟩
theorem wFl_X7_212 : .fieldLink RX7 212 "WallcodeModel$Wall" "cleaning" "I" ∈ WG := wg_t 899 (by decide +kernel) (by decide +kernel)
theorem fL_X7_212 : FL RX7 "WallcodeModel$Wall" 212 8 RX6 TX6 8 2 := ⟨rfl, by decide, wU_X6, wFl_X7_212, rfl⟩
theorem wFl_X7_215 : .fieldLink RX7 215 "WallcodeModel$Wall" "owner" "I" ∈ WG := wg_t 897 (by decide +kernel) (by decide +kernel)
theorem fL_X7_215 : FL RX7 "WallcodeModel$Wall" 215 8 RX6 TX6 8 1 := ⟨rfl, by decide, wU_X6, wFl_X7_215, rfl⟩
theorem wFl_X7_233 : .fieldLink RX7 233 "WallcodeModel$Layer" "slant" "I" ∈ WG := wg_t 1040 (by decide +kernel) (by decide +kernel)
theorem fL_X7_233 : FL RX7 "WallcodeModel$Layer" 233 7 RX5 TX5 11 5 := ⟨rfl, by decide, wU_X5, wFl_X7_233, rfl⟩
theorem wFl_X7_239 : .fieldLink RX7 239 "WallcodeModel$Layer" "round" "I" ∈ WG := wg_t 1042 (by decide +kernel) (by decide +kernel)
theorem fL_X7_239 : FL RX7 "WallcodeModel$Layer" 239 7 RX5 TX5 11 6 := ⟨rfl, by decide, wU_X5, wFl_X7_239, rfl⟩
theorem wFl_X7_240 : .fieldLink RX7 240 "WallcodeModel$Layer" "from" "I" ∈ WG := wg_t 1034 (by decide +kernel) (by decide +kernel)
theorem fL_X7_240 : FL RX7 "WallcodeModel$Layer" 240 7 RX5 TX5 11 2 := ⟨rfl, by decide, wU_X5, wFl_X7_240, rfl⟩
theorem wFl_X7_241 : .fieldLink RX7 241 "WallcodeModel$Layer" "wide" "I" ∈ WG := wg_t 1036 (by decide +kernel) (by decide +kernel)
theorem fL_X7_241 : FL RX7 "WallcodeModel$Layer" 241 7 RX5 TX5 11 3 := ⟨rfl, by decide, wU_X5, wFl_X7_241, rfl⟩
theorem wFl_X4_9 : .fieldLink RX4 9 "WallcodeModel$Hand" "wrongs" "[I" ∈ WG := wg_t 950 (by decide +kernel) (by decide +kernel)
theorem fL_X4_9 : FL RX4 "WallcodeModel$Hand" 9 6 RX4 TX4 10 9 := ⟨rfl, by decide, wU_X4, wFl_X4_9, rfl⟩
theorem fF_X4_9 : FF RX4 "WallcodeModel$Hand" 9 6 RX4 TX4 10 9 (.array .int) := ⟨fL_X4_9, ⟨tyX4, tyX4_ok⟩, nmX4, rfl, rfl, tyX4_ok 9 (by decide)⟩
theorem wFl_X4_15 : .fieldLink RX4 15 "WallcodeModel$Hand" "crew" "I" ∈ WG := wg_t 938 (by decide +kernel) (by decide +kernel)
theorem fL_X4_15 : FL RX4 "WallcodeModel$Hand" 15 6 RX4 TX4 10 0 := ⟨rfl, by decide, wU_X4, wFl_X4_15, rfl⟩
theorem fF_X4_15 : FF RX4 "WallcodeModel$Hand" 15 6 RX4 TX4 10 0 .int := ⟨fL_X4_15, ⟨tyX4, tyX4_ok⟩, nmX4, rfl, rfl, tyX4_ok 0 (by decide)⟩
theorem wFl_X4_19 : .fieldLink RX4 19 "WallcodeModel$Hand" "speed" "I" ∈ WG := wg_t 940 (by decide +kernel) (by decide +kernel)
theorem fL_X4_19 : FL RX4 "WallcodeModel$Hand" 19 6 RX4 TX4 10 1 := ⟨rfl, by decide, wU_X4, wFl_X4_19, rfl⟩
theorem fF_X4_19 : FF RX4 "WallcodeModel$Hand" 19 6 RX4 TX4 10 1 .int := ⟨fL_X4_19, ⟨tyX4, tyX4_ok⟩, nmX4, rfl, rfl, tyX4_ok 1 (by decide)⟩
theorem wFl_X4_22 : .fieldLink RX4 22 "WallcodeModel$Hand" "slant" "I" ∈ WG := wg_t 941 (by decide +kernel) (by decide +kernel)
theorem fL_X4_22 : FL RX4 "WallcodeModel$Hand" 22 6 RX4 TX4 10 2 := ⟨rfl, by decide, wU_X4, wFl_X4_22, rfl⟩
theorem fF_X4_22 : FF RX4 "WallcodeModel$Hand" 22 6 RX4 TX4 10 2 .int := ⟨fL_X4_22, ⟨tyX4, tyX4_ok⟩, nmX4, rfl, rfl, tyX4_ok 2 (by decide)⟩
theorem wFl_X4_25 : .fieldLink RX4 25 "WallcodeModel$Hand" "round" "I" ∈ WG := wg_t 943 (by decide +kernel) (by decide +kernel)
theorem fL_X4_25 : FL RX4 "WallcodeModel$Hand" 25 6 RX4 TX4 10 3 := ⟨rfl, by decide, wU_X4, wFl_X4_25, rfl⟩
theorem fF_X4_25 : FF RX4 "WallcodeModel$Hand" 25 6 RX4 TX4 10 3 .int := ⟨fL_X4_25, ⟨tyX4, tyX4_ok⟩, nmX4, rfl, rfl, tyX4_ok 3 (by decide)⟩
theorem wFl_X5_7 : .fieldLink RX5 7 "WallcodeModel$Layer" "hand" "I" ∈ WG := wg_t 1029 (by decide +kernel) (by decide +kernel)
theorem fL_X5_7 : FL RX5 "WallcodeModel$Layer" 7 7 RX5 TX5 11 0 := ⟨rfl, by decide, wU_X5, wFl_X5_7, rfl⟩
theorem fF_X5_7 : FF RX5 "WallcodeModel$Layer" 7 7 RX5 TX5 11 0 .int := ⟨fL_X5_7, ⟨tyX5, tyX5_ok⟩, nmX5, rfl, rfl, tyX5_ok 0 (by decide)⟩
theorem wFl_X5_13 : .fieldLink RX5 13 "WallcodeModel$Layer" "wall" "I" ∈ WG := wg_t 1031 (by decide +kernel) (by decide +kernel)
theorem fL_X5_13 : FL RX5 "WallcodeModel$Layer" 13 7 RX5 TX5 11 1 := ⟨rfl, by decide, wU_X5, wFl_X5_13, rfl⟩
theorem fF_X5_13 : FF RX5 "WallcodeModel$Layer" 13 7 RX5 TX5 11 1 .int := ⟨fL_X5_13, ⟨tyX5, tyX5_ok⟩, nmX5, rfl, rfl, tyX5_ok 1 (by decide)⟩
theorem wFl_X5_16 : .fieldLink RX5 16 "WallcodeModel$Layer" "from" "I" ∈ WG := wg_t 1033 (by decide +kernel) (by decide +kernel)
theorem fL_X5_16 : FL RX5 "WallcodeModel$Layer" 16 7 RX5 TX5 11 2 := ⟨rfl, by decide, wU_X5, wFl_X5_16, rfl⟩
theorem fF_X5_16 : FF RX5 "WallcodeModel$Layer" 16 7 RX5 TX5 11 2 .int := ⟨fL_X5_16, ⟨tyX5, tyX5_ok⟩, nmX5, rfl, rfl, tyX5_ok 2 (by decide)⟩
theorem wFl_X5_19 : .fieldLink RX5 19 "WallcodeModel$Layer" "wide" "I" ∈ WG := wg_t 1035 (by decide +kernel) (by decide +kernel)
theorem fL_X5_19 : FL RX5 "WallcodeModel$Layer" 19 7 RX5 TX5 11 3 := ⟨rfl, by decide, wU_X5, wFl_X5_19, rfl⟩
theorem fF_X5_19 : FF RX5 "WallcodeModel$Layer" 19 7 RX5 TX5 11 3 .int := ⟨fL_X5_19, ⟨tyX5, tyX5_ok⟩, nmX5, rfl, rfl, tyX5_ok 3 (by decide)⟩
theorem wFl_X5_22 : .fieldLink RX5 22 "WallcodeModel$Layer" "kind" "I" ∈ WG := wg_t 1037 (by decide +kernel) (by decide +kernel)
theorem fL_X5_22 : FL RX5 "WallcodeModel$Layer" 22 7 RX5 TX5 11 4 := ⟨rfl, by decide, wU_X5, wFl_X5_22, rfl⟩
theorem fF_X5_22 : FF RX5 "WallcodeModel$Layer" 22 7 RX5 TX5 11 4 .int := ⟨fL_X5_22, ⟨tyX5, tyX5_ok⟩, nmX5, rfl, rfl, tyX5_ok 4 (by decide)⟩
theorem wFl_X5_25 : .fieldLink RX5 25 "WallcodeModel$Layer" "slant" "I" ∈ WG := wg_t 1039 (by decide +kernel) (by decide +kernel)
theorem fL_X5_25 : FL RX5 "WallcodeModel$Layer" 25 7 RX5 TX5 11 5 := ⟨rfl, by decide, wU_X5, wFl_X5_25, rfl⟩
theorem fF_X5_25 : FF RX5 "WallcodeModel$Layer" 25 7 RX5 TX5 11 5 .int := ⟨fL_X5_25, ⟨tyX5, tyX5_ok⟩, nmX5, rfl, rfl, tyX5_ok 5 (by decide)⟩
theorem wFl_X5_28 : .fieldLink RX5 28 "WallcodeModel$Layer" "round" "I" ∈ WG := wg_t 1041 (by decide +kernel) (by decide +kernel)
theorem fL_X5_28 : FL RX5 "WallcodeModel$Layer" 28 7 RX5 TX5 11 6 := ⟨rfl, by decide, wU_X5, wFl_X5_28, rfl⟩
theorem fF_X5_28 : FF RX5 "WallcodeModel$Layer" 28 7 RX5 TX5 11 6 .int := ⟨fL_X5_28, ⟨tyX5, tyX5_ok⟩, nmX5, rfl, rfl, tyX5_ok 6 (by decide)⟩
theorem wFl_X5_31 : .fieldLink RX5 31 "WallcodeModel$Layer" "night" "I" ∈ WG := wg_t 1043 (by decide +kernel) (by decide +kernel)
theorem fL_X5_31 : FL RX5 "WallcodeModel$Layer" 31 7 RX5 TX5 11 7 := ⟨rfl, by decide, wU_X5, wFl_X5_31, rfl⟩
theorem fF_X5_31 : FF RX5 "WallcodeModel$Layer" 31 7 RX5 TX5 11 7 .int := ⟨fL_X5_31, ⟨tyX5, tyX5_ok⟩, nmX5, rfl, rfl, tyX5_ok 7 (by decide)⟩
theorem wFl_X5_34 : .fieldLink RX5 34 "WallcodeModel$Layer" "isLegal" "Z" ∈ WG := wg_t 1045 (by decide +kernel) (by decide +kernel)
theorem fL_X5_34 : FL RX5 "WallcodeModel$Layer" 34 7 RX5 TX5 11 8 := ⟨rfl, by decide, wU_X5, wFl_X5_34, rfl⟩
theorem fF_X5_34 : FF RX5 "WallcodeModel$Layer" 34 7 RX5 TX5 11 8 .boolean := ⟨fL_X5_34, ⟨tyX5, tyX5_ok⟩, nmX5, rfl, rfl, tyX5_ok 8 (by decide)⟩
theorem wFl_X6_9 : .fieldLink RX6 9 "WallcodeModel$Wall" "crew" "I" ∈ WG := wg_t 902 (by decide +kernel) (by decide +kernel)
theorem fL_X6_9 : FL RX6 "WallcodeModel$Wall" 9 8 RX6 TX6 8 4 := ⟨rfl, by decide, wU_X6, wFl_X6_9, rfl⟩
theorem fP_X6_9 : FP RX6 "WallcodeModel$Wall" 9 8 RX6 TX6 8 4 .int := ⟨fL_X6_9, ⟨tyX6, tyX6_ok⟩, nmX6, rfl, tyX6_ok 4 (by decide)⟩
theorem wFl_X6_15 : .fieldLink RX6 15 "WallcodeModel$Wall" "until" "I" ∈ WG := wg_t 904 (by decide +kernel) (by decide +kernel)
theorem fL_X6_15 : FL RX6 "WallcodeModel$Wall" 15 8 RX6 TX6 8 5 := ⟨rfl, by decide, wU_X6, wFl_X6_15, rfl⟩
theorem fP_X6_15 : FP RX6 "WallcodeModel$Wall" 15 8 RX6 TX6 8 5 .int := ⟨fL_X6_15, ⟨tyX6, tyX6_ok⟩, nmX6, rfl, tyX6_ok 5 (by decide)⟩
theorem wFl_X6_18 : .fieldLink RX6 18 "WallcodeModel$Wall" "from" "I" ∈ WG := wg_t 906 (by decide +kernel) (by decide +kernel)
theorem fL_X6_18 : FL RX6 "WallcodeModel$Wall" 18 8 RX6 TX6 8 6 := ⟨rfl, by decide, wU_X6, wFl_X6_18, rfl⟩
theorem fP_X6_18 : FP RX6 "WallcodeModel$Wall" 18 8 RX6 TX6 8 6 .int := ⟨fL_X6_18, ⟨tyX6, tyX6_ok⟩, nmX6, rfl, tyX6_ok 6 (by decide)⟩
theorem wFl_X6_21 : .fieldLink RX6 21 "WallcodeModel$Wall" "to" "I" ∈ WG := wg_t 908 (by decide +kernel) (by decide +kernel)
theorem fL_X6_21 : FL RX6 "WallcodeModel$Wall" 21 8 RX6 TX6 8 7 := ⟨rfl, by decide, wU_X6, wFl_X6_21, rfl⟩
theorem fP_X6_21 : FP RX6 "WallcodeModel$Wall" 21 8 RX6 TX6 8 7 .int := ⟨fL_X6_21, ⟨tyX6, tyX6_ok⟩, nmX6, rfl, tyX6_ok 7 (by decide)⟩
theorem wFl_X6_24 : .fieldLink RX6 24 "WallcodeModel$Wall" "sight" "I" ∈ WG := wg_t 894 (by decide +kernel) (by decide +kernel)
theorem fL_X6_24 : FL RX6 "WallcodeModel$Wall" 24 8 RX6 TX6 8 0 := ⟨rfl, by decide, wU_X6, wFl_X6_24, rfl⟩
theorem fF_X6_24 : FF RX6 "WallcodeModel$Wall" 24 8 RX6 TX6 8 0 .int := ⟨fL_X6_24, ⟨tyX6, tyX6_ok⟩, nmX6, rfl, rfl, tyX6_ok 0 (by decide)⟩
theorem wFl_X6_27 : .fieldLink RX6 27 "WallcodeModel$Wall" "owner" "I" ∈ WG := wg_t 896 (by decide +kernel) (by decide +kernel)
theorem fL_X6_27 : FL RX6 "WallcodeModel$Wall" 27 8 RX6 TX6 8 1 := ⟨rfl, by decide, wU_X6, wFl_X6_27, rfl⟩
theorem fF_X6_27 : FF RX6 "WallcodeModel$Wall" 27 8 RX6 TX6 8 1 .int := ⟨fL_X6_27, ⟨tyX6, tyX6_ok⟩, nmX6, rfl, rfl, tyX6_ok 1 (by decide)⟩
theorem wFl_X6_30 : .fieldLink RX6 30 "WallcodeModel$Wall" "cleaning" "I" ∈ WG := wg_t 898 (by decide +kernel) (by decide +kernel)
theorem fL_X6_30 : FL RX6 "WallcodeModel$Wall" 30 8 RX6 TX6 8 2 := ⟨rfl, by decide, wU_X6, wFl_X6_30, rfl⟩
theorem fF_X6_30 : FF RX6 "WallcodeModel$Wall" 30 8 RX6 TX6 8 2 .int := ⟨fL_X6_30, ⟨tyX6, tyX6_ok⟩, nmX6, rfl, rfl, tyX6_ok 2 (by decide)⟩
theorem wFl_X6_33 : .fieldLink RX6 33 "WallcodeModel$Wall" "shows" "[I" ∈ WG := wg_t 900 (by decide +kernel) (by decide +kernel)
theorem fL_X6_33 : FL RX6 "WallcodeModel$Wall" 33 8 RX6 TX6 8 3 := ⟨rfl, by decide, wU_X6, wFl_X6_33, rfl⟩
theorem fF_X6_33 : FF RX6 "WallcodeModel$Wall" 33 8 RX6 TX6 8 3 (.array .int) := ⟨fL_X6_33, ⟨tyX6, tyX6_ok⟩, nmX6, rfl, rfl, tyX6_ok 3 (by decide)⟩
theorem wFl_Jx4a65c_9 : .fieldLink RJx4a65c 9 "java/util/ArrayList" "elementData" "[Ljava/lang/Object;" ∈ WG := wg_t 47 (by decide +kernel) (by decide +kernel)
theorem fL_Jx4a65c_9 : FL RJx4a65c "java/util/ArrayList" 9 1 RJx4a65c TJx4a65c 3 1 := ⟨rfl, by decide, wU_Jx4a65c, wFl_Jx4a65c_9, rfl⟩
theorem fP_Jx4a65c_9 : FP RJx4a65c "java/util/ArrayList" 9 1 RJx4a65c TJx4a65c 3 1 (.array (.object "java/lang/Object")) := ⟨fL_Jx4a65c_9, ⟨tyJx4a65c, tyJx4a65c_ok⟩, nmJx4a65c, rfl, tyJx4a65c_ok 1 (by decide)⟩
theorem wFl_Jx4a65c_48 : .fieldLink RJx4a65c 48 "java/util/ArrayList" "size" "I" ∈ WG := wg_t 50 (by decide +kernel) (by decide +kernel)
theorem fL_Jx4a65c_48 : FL RJx4a65c "java/util/ArrayList" 48 1 RJx4a65c TJx4a65c 3 2 := ⟨rfl, by decide, wU_Jx4a65c, wFl_Jx4a65c_48, rfl⟩
theorem fP_Jx4a65c_48 : FP RJx4a65c "java/util/ArrayList" 48 1 RJx4a65c TJx4a65c 3 2 .int := ⟨fL_Jx4a65c_48, ⟨tyJx4a65c, tyJx4a65c_ok⟩, nmJx4a65c, rfl, tyJx4a65c_ok 2 (by decide)⟩
theorem wFl_Jx35411_1 : .fieldLink RJx35411 1 "java/util/ArrayList$Itr" "this$0" "Ljava/util/ArrayList;" ∈ WG := wg_t 1136 (by decide +kernel) (by decide +kernel)
theorem fL_Jx35411_1 : FL RJx35411 "java/util/ArrayList$Itr" 1 0 RJx35411 TJx35411 4 3 := ⟨rfl, by decide, wU_Jx35411, wFl_Jx35411_1, rfl⟩
theorem fF_Jx35411_1 : FF RJx35411 "java/util/ArrayList$Itr" 1 0 RJx35411 TJx35411 4 3 (.object "java/util/ArrayList") := ⟨fL_Jx35411_1, ⟨tyJx35411, tyJx35411_ok⟩, nmJx35411, rfl, rfl, tyJx35411_ok 3 (by decide)⟩
theorem wFl_Jx35411_13 : .fieldLink RJx35411 13 "java/util/ArrayList$Itr" "lastRet" "I" ∈ WG := wg_t 1134 (by decide +kernel) (by decide +kernel)
theorem fL_Jx35411_13 : FL RJx35411 "java/util/ArrayList$Itr" 13 0 RJx35411 TJx35411 4 1 := ⟨rfl, by decide, wU_Jx35411, wFl_Jx35411_13, rfl⟩
theorem fP_Jx35411_13 : FP RJx35411 "java/util/ArrayList$Itr" 13 0 RJx35411 TJx35411 4 1 .int := ⟨fL_Jx35411_13, ⟨tyJx35411, tyJx35411_ok⟩, nmJx35411, rfl, tyJx35411_ok 1 (by decide)⟩
theorem wFl_Jx35411_22 : .fieldLink RJx35411 22 "java/util/ArrayList$Itr" "expectedModCount" "I" ∈ WG := wg_t 1135 (by decide +kernel) (by decide +kernel)
theorem fL_Jx35411_22 : FL RJx35411 "java/util/ArrayList$Itr" 22 0 RJx35411 TJx35411 4 2 := ⟨rfl, by decide, wU_Jx35411, wFl_Jx35411_22, rfl⟩
theorem fP_Jx35411_22 : FP RJx35411 "java/util/ArrayList$Itr" 22 0 RJx35411 TJx35411 4 2 .int := ⟨fL_Jx35411_22, ⟨tyJx35411, tyJx35411_ok⟩, nmJx35411, rfl, tyJx35411_ok 2 (by decide)⟩
theorem wFl_Jx35411_25 : .fieldLink RJx35411 25 "java/util/ArrayList$Itr" "cursor" "I" ∈ WG := wg_t 1133 (by decide +kernel) (by decide +kernel)
theorem fL_Jx35411_25 : FL RJx35411 "java/util/ArrayList$Itr" 25 0 RJx35411 TJx35411 4 0 := ⟨rfl, by decide, wU_Jx35411, wFl_Jx35411_25, rfl⟩
theorem fP_Jx35411_25 : FP RJx35411 "java/util/ArrayList$Itr" 25 0 RJx35411 TJx35411 4 0 .int := ⟨fL_Jx35411_25, ⟨tyJx35411, tyJx35411_ok⟩, nmJx35411, rfl, tyJx35411_ok 0 (by decide)⟩
theorem wFl_Jx35411_37 : .fieldLink RJx35411 37 "java/util/ArrayList" "elementData" "[Ljava/lang/Object;" ∈ WG := wg_t 48 (by decide +kernel) (by decide +kernel)
theorem fL_Jx35411_37 : FL RJx35411 "java/util/ArrayList" 37 1 RJx4a65c TJx4a65c 3 1 := ⟨rfl, by decide, wU_Jx4a65c, wFl_Jx35411_37, rfl⟩
theorem fP_Jx35411_37 : FP RJx35411 "java/util/ArrayList" 37 1 RJx4a65c TJx4a65c 3 1 (.array (.object "java/lang/Object")) := ⟨fL_Jx35411_37, ⟨tyJx4a65c, tyJx4a65c_ok⟩, nmJx4a65c, rfl, tyJx4a65c_ok 1 (by decide)⟩
theorem wCl_X3_7 : .classLink RX3 7 "java/util/ArrayList" ∈ WG := wg_t 33 (by decide +kernel) (by decide +kernel)
theorem wCl_X3_36 : .classLink RX3 36 "java/lang/IllegalArgumentException" ∈ WG := wg_t 216 (by decide +kernel) (by decide +kernel)
theorem wCl_X3_47 : .classLink RX3 47 "java/lang/IllegalStateException" ∈ WG := wg_t 436 (by decide +kernel) (by decide +kernel)
theorem wCl_X3_52 : .classLink RX3 52 "Wallcode$Wall" ∈ WG := wg_t 112 (by decide +kernel) (by decide +kernel)
theorem wCl_X3_65 : .classLink RX3 65 "Wallcode$Hand" ∈ WG := wg_t 107 (by decide +kernel) (by decide +kernel)
theorem wCl_X3_118 : .classLink RX3 118 "Wallcode$Layer" ∈ WG := wg_t 164 (by decide +kernel) (by decide +kernel)
theorem wCl_X3_235 : .classLink RX3 235 "java/lang/IndexOutOfBoundsException" ∈ WG := wg_t 303 (by decide +kernel) (by decide +kernel)
theorem wCl_X2_27 : .classLink RX2 27 "Wallcode$Layer" ∈ WG := wg_t 457 (by decide +kernel) (by decide +kernel)
theorem wCl_L_8 : .classLink RL 8 "Wallcode" ∈ WG := wg_t 25 (by decide +kernel) (by decide +kernel)
theorem wCl_L_13 : .classLink RL 13 "java/lang/IllegalArgumentException" ∈ WG := wg_t 429 (by decide +kernel) (by decide +kernel)
theorem wCl_L_15 : .classLink RL 15 "java/lang/IllegalStateException" ∈ WG := wg_t 430 (by decide +kernel) (by decide +kernel)
theorem wCl_L_24 : .classLink RL 24 "java/lang/IndexOutOfBoundsException" ∈ WG := wg_t 623 (by decide +kernel) (by decide +kernel)
theorem wCl_L_89 : .classLink RL 89 "WallcodeModel" ∈ WG := wg_t 838 (by decide +kernel) (by decide +kernel)
theorem wCl_X7_13 : .classLink RX7 13 "java/util/ArrayList" ∈ WG := wg_t 844 (by decide +kernel) (by decide +kernel)
theorem wCl_X7_44 : .classLink RX7 44 "WallcodeModel$Wall" ∈ WG := wg_t 888 (by decide +kernel) (by decide +kernel)
theorem wCl_X7_53 : .classLink RX7 53 "WallcodeModel$Hand" ∈ WG := wg_t 932 (by decide +kernel) (by decide +kernel)
theorem wCl_X7_85 : .classLink RX7 85 "WallcodeModel$Layer" ∈ WG := wg_t 1019 (by decide +kernel) (by decide +kernel)
theorem wCl_Jx4a65c_7 : .classLink RJx4a65c 7 "java/lang/Object" ∈ WG := wg_t 558 (by decide +kernel) (by decide +kernel)
theorem wCl_Jx4a65c_267 : .classLink RJx4a65c 267 "java/util/ArrayList$Itr" ∈ WG := wg_t 1127 (by decide +kernel) (by decide +kernel)
theorem wCl_J7_2 : .classLink RJ7 2 "java/lang/Object" ∈ WG := wg_t 550 (by decide +kernel) (by decide +kernel)
theorem wCl_J7_110 : .classLink RJ7 110 "[Ljava/lang/Object;" ∈ WG := wg_t 548 (by decide +kernel) (by decide +kernel)
theorem wMl_X3_1 : .methodLink RX3 1 objectInit ∈ WG := wg_t 30 (by decide +kernel) (by decide +kernel)
theorem wMl_X3_9 : .methodLink RX3 9 yJx4a65c_init_da8c8 ∈ WG := wg_t 35 (by decide +kernel) (by decide +kernel)
theorem wCo_Jx4a65c_init_da8c8 : .code yJx4a65c_init_da8c8 cJx4a65c_init_da8c8 1 none ∈ WG := wg_t 37 (by decide +kernel) (by decide +kernel)
theorem wIn_Jx4a65c : .initialized RJx4a65c ∈ WG := wg_t 4 (by decide +kernel) (by decide +kernel)
theorem wIm_Jx4a65c_init_da8c8 : .instanceMethod yJx4a65c_init_da8c8 ∈ WG := wg_t 36 (by decide +kernel) (by decide +kernel)
theorem kI_X3_9 : KI RX3 9 yJx4a65c_init_da8c8 cJx4a65c_init_da8c8 1 0 := KI.of wMl_X3_9 wIm_Jx4a65c_init_da8c8 wIn_Jx4a65c wCo_Jx4a65c_init_da8c8 rfl (by decide +kernel)
theorem wMl_X3_32 : .methodLink RX3 32 yX3_isWithin ∈ WG := wg_t 300 (by decide +kernel) (by decide +kernel)
theorem wCo_X3_isWithin : .code yX3_isWithin cX3_isWithin 3 (some .boolean) ∈ WG := wg_t 302 (by decide +kernel) (by decide +kernel)
theorem wIn_X3 : .initialized RX3 ∈ WG := wg_t 1 (by decide +kernel) (by decide +kernel)
theorem wSt_X3_isWithin : .static yX3_isWithin ∈ WG := wg_t 301 (by decide +kernel) (by decide +kernel)
theorem kS_X3_32 : KS RX3 32 yX3_isWithin cX3_isWithin 3 (some .boolean) 3 := KS.of wMl_X3_32 wSt_X3_isWithin wIn_X3 wCo_X3_isWithin (by decide +kernel)
theorem wMl_X3_43 : .methodLink RX3 43 yJx4a65c_size_8abf5 ∈ WG := wg_t 89 (by decide +kernel) (by decide +kernel)
theorem wCo_Jx4a65c_size_8abf5 : .code yJx4a65c_size_8abf5 cJx4a65c_size_8abf5 1 (some .int) ∈ WG := wg_t 92 (by decide +kernel) (by decide +kernel)
theorem wIm_Jx4a65c_size_8abf5 : .instanceMethod yJx4a65c_size_8abf5 ∈ WG := wg_t 90 (by decide +kernel) (by decide +kernel)
theorem wSe_Jx4a65c_size_8abf5 : .selects RJx4a65c yJx4a65c_size_8abf5 yJx4a65c_size_8abf5 ∈ WG := wg_t 91 (by decide +kernel) (by decide +kernel)
theorem kV_X3_43 : KV RX3 43 RJx4a65c yJx4a65c_size_8abf5 cJx4a65c_size_8abf5 1 (some .int) 0 := KV.of wMl_X3_43 wIm_Jx4a65c_size_8abf5 wSe_Jx4a65c_size_8abf5 wIn_Jx4a65c wCo_Jx4a65c_size_8abf5 (by decide +kernel)
theorem wMl_X3_54 : .methodLink RX3 54 yX2_init ∈ WG := wg_t 453 (by decide +kernel) (by decide +kernel)
theorem wCo_X2_init : .code yX2_init cX2_init 6 none ∈ WG := wg_t 455 (by decide +kernel) (by decide +kernel)
theorem wIn_X2 : .initialized RX2 ∈ WG := wg_t 11 (by decide +kernel) (by decide +kernel)
theorem wIm_X2_init : .instanceMethod yX2_init ∈ WG := wg_t 454 (by decide +kernel) (by decide +kernel)
theorem kI_X3_54 : KI RX3 54 yX2_init cX2_init 6 5 := KI.of wMl_X3_54 wIm_X2_init wIn_X2 wCo_X2_init rfl (by decide +kernel)
theorem wMl_X3_57 : .methodLink RX3 57 yJx4a65c_add_9ea2d ∈ WG := wg_t 499 (by decide +kernel) (by decide +kernel)
theorem wCo_Jx4a65c_add_9ea2d : .code yJx4a65c_add_9ea2d cJx4a65c_add_9ea2d 2 (some .boolean) ∈ WG := wg_t 502 (by decide +kernel) (by decide +kernel)
theorem wIm_Jx4a65c_add_9ea2d : .instanceMethod yJx4a65c_add_9ea2d ∈ WG := wg_t 500 (by decide +kernel) (by decide +kernel)
theorem wSe_Jx4a65c_add_9ea2d : .selects RJx4a65c yJx4a65c_add_9ea2d yJx4a65c_add_9ea2d ∈ WG := wg_t 501 (by decide +kernel) (by decide +kernel)
theorem kV_X3_57 : KV RX3 57 RJx4a65c yJx4a65c_add_9ea2d cJx4a65c_add_9ea2d 2 (some .boolean) 1 := KV.of wMl_X3_57 wIm_Jx4a65c_add_9ea2d wSe_Jx4a65c_add_9ea2d wIn_Jx4a65c wCo_Jx4a65c_add_9ea2d (by decide +kernel)
theorem wMl_X3_67 : .methodLink RX3 67 yX0_init ∈ WG := wg_t 569 (by decide +kernel) (by decide +kernel)
theorem wCo_X0_init : .code yX0_init cX0_init 6 none ∈ WG := wg_t 571 (by decide +kernel) (by decide +kernel)
theorem wIn_X0 : .initialized RX0 ∈ WG := wg_t 17 (by decide +kernel) (by decide +kernel)
theorem wIm_X0_init : .instanceMethod yX0_init ∈ WG := wg_t 570 (by decide +kernel) (by decide +kernel)
theorem kI_X3_67 : KI RX3 67 yX0_init cX0_init 6 5 := KI.of wMl_X3_67 wIm_X0_init wIn_X0 wCo_X0_init rfl (by decide +kernel)
theorem wMl_X3_68 : .methodLink RX3 68 yX3_wallAt ∈ WG := wg_t 296 (by decide +kernel) (by decide +kernel)
theorem wCo_X3_wallAt : .code yX3_wallAt cX3_wallAt 2 (some (.object "Wallcode$Wall")) ∈ WG := wg_t 299 (by decide +kernel) (by decide +kernel)
theorem wIm_X3_wallAt : .instanceMethod yX3_wallAt ∈ WG := wg_t 298 (by decide +kernel) (by decide +kernel)
theorem wSe_X3_wallAt : .selects RX3 yX3_wallAt yX3_wallAt ∈ WG := wg_s 14 (by decide +kernel) (by decide +kernel)
theorem kV_X3_68 : KV RX3 68 RX3 yX3_wallAt cX3_wallAt 2 (some (.object "Wallcode$Wall")) 1 := KV.of wMl_X3_68 wIm_X3_wallAt wSe_X3_wallAt wIn_X3 wCo_X3_wallAt (by decide +kernel)
theorem wMl_X3_74 : .methodLink RX3 74 yX2_permittedCrew ∈ WG := wg_t 147 (by decide +kernel) (by decide +kernel)
theorem wCo_X2_permittedCrew : .code yX2_permittedCrew cX2_permittedCrew 2 (some .int) ∈ WG := wg_t 150 (by decide +kernel) (by decide +kernel)
theorem wIm_X2_permittedCrew : .instanceMethod yX2_permittedCrew ∈ WG := wg_t 148 (by decide +kernel) (by decide +kernel)
theorem wSe_X2_permittedCrew : .selects RX2 yX2_permittedCrew yX2_permittedCrew ∈ WG := wg_t 149 (by decide +kernel) (by decide +kernel)
theorem kV_X3_74 : KV RX3 74 RX2 yX2_permittedCrew cX2_permittedCrew 2 (some .int) 1 := KV.of wMl_X3_74 wIm_X2_permittedCrew wSe_X2_permittedCrew wIn_X2 wCo_X2_permittedCrew (by decide +kernel)
theorem wMl_X3_92 : .methodLink RX3 92 yX3_handAt ∈ WG := wg_t 341 (by decide +kernel) (by decide +kernel)
theorem wCo_X3_handAt : .code yX3_handAt cX3_handAt 2 (some (.object "Wallcode$Hand")) ∈ WG := wg_t 344 (by decide +kernel) (by decide +kernel)
theorem wIm_X3_handAt : .instanceMethod yX3_handAt ∈ WG := wg_t 343 (by decide +kernel) (by decide +kernel)
theorem wSe_X3_handAt : .selects RX3 yX3_handAt yX3_handAt ∈ WG := wg_s 17 (by decide +kernel) (by decide +kernel)
theorem kV_X3_92 : KV RX3 92 RX3 yX3_handAt cX3_handAt 2 (some (.object "Wallcode$Hand")) 1 := KV.of wMl_X3_92 wIm_X3_handAt wSe_X3_handAt wIn_X3 wCo_X3_handAt (by decide +kernel)
theorem wMl_X3_96 : .methodLink RX3 96 yX2_hasCells ∈ WG := wg_t 644 (by decide +kernel) (by decide +kernel)
theorem wCo_X2_hasCells : .code yX2_hasCells cX2_hasCells 3 (some .boolean) ∈ WG := wg_t 647 (by decide +kernel) (by decide +kernel)
theorem wIm_X2_hasCells : .instanceMethod yX2_hasCells ∈ WG := wg_t 645 (by decide +kernel) (by decide +kernel)
theorem wSe_X2_hasCells : .selects RX2 yX2_hasCells yX2_hasCells ∈ WG := wg_t 646 (by decide +kernel) (by decide +kernel)
theorem kV_X3_96 : KV RX3 96 RX2 yX2_hasCells cX2_hasCells 3 (some .boolean) 2 := KV.of wMl_X3_96 wIm_X2_hasCells wSe_X2_hasCells wIn_X2 wCo_X2_hasCells (by decide +kernel)
theorem wMl_X3_100 : .methodLink RX3 100 yX3_isKind ∈ WG := wg_t 401 (by decide +kernel) (by decide +kernel)
theorem wCo_X3_isKind : .code yX3_isKind cX3_isKind 1 (some .boolean) ∈ WG := wg_t 403 (by decide +kernel) (by decide +kernel)
theorem wSt_X3_isKind : .static yX3_isKind ∈ WG := wg_t 402 (by decide +kernel) (by decide +kernel)
theorem kS_X3_100 : KS RX3 100 yX3_isKind cX3_isKind 1 (some .boolean) 1 := KS.of wMl_X3_100 wSt_X3_isKind wIn_X3 wCo_X3_isKind (by decide +kernel)
theorem wMl_X3_106 : .methodLink RX3 106 yX0_minutesOfCell ∈ WG := wg_t 648 (by decide +kernel) (by decide +kernel)
theorem wCo_X0_minutesOfCell : .code yX0_minutesOfCell cX0_minutesOfCell 2 (some .int) ∈ WG := wg_t 651 (by decide +kernel) (by decide +kernel)
theorem wIm_X0_minutesOfCell : .instanceMethod yX0_minutesOfCell ∈ WG := wg_t 649 (by decide +kernel) (by decide +kernel)
theorem wSe_X0_minutesOfCell : .selects RX0 yX0_minutesOfCell yX0_minutesOfCell ∈ WG := wg_t 650 (by decide +kernel) (by decide +kernel)
theorem kV_X3_106 : KV RX3 106 RX0 yX0_minutesOfCell cX0_minutesOfCell 2 (some .int) 1 := KV.of wMl_X3_106 wIm_X0_minutesOfCell wSe_X0_minutesOfCell wIn_X0 wCo_X0_minutesOfCell (by decide +kernel)
theorem wMl_X3_109 : .methodLink RX3 109 yX0_minutesLeft ∈ WG := wg_t 346 (by decide +kernel) (by decide +kernel)
theorem wCo_X0_minutesLeft : .code yX0_minutesLeft cX0_minutesLeft 1 (some .int) ∈ WG := wg_t 349 (by decide +kernel) (by decide +kernel)
theorem wIm_X0_minutesLeft : .instanceMethod yX0_minutesLeft ∈ WG := wg_t 347 (by decide +kernel) (by decide +kernel)
theorem wSe_X0_minutesLeft : .selects RX0 yX0_minutesLeft yX0_minutesLeft ∈ WG := wg_t 348 (by decide +kernel) (by decide +kernel)
theorem kV_X3_109 : KV RX3 109 RX0 yX0_minutesLeft cX0_minutesLeft 1 (some .int) 0 := KV.of wMl_X3_109 wIm_X0_minutesLeft wSe_X0_minutesLeft wIn_X0 wCo_X0_minutesLeft (by decide +kernel)
theorem wMl_X3_114 : .methodLink RX3 114 yX3_doWrongs ∈ WG := wg_t 655 (by decide +kernel) (by decide +kernel)
theorem wCo_X3_doWrongs : .code yX3_doWrongs cX3_doWrongs 9 (some .int) ∈ WG := wg_t 658 (by decide +kernel) (by decide +kernel)
theorem wIm_X3_doWrongs : .instanceMethod yX3_doWrongs ∈ WG := wg_t 657 (by decide +kernel) (by decide +kernel)
theorem wSe_X3_doWrongs : .selects RX3 yX3_doWrongs yX3_doWrongs ∈ WG := wg_s 30 (by decide +kernel) (by decide +kernel)
theorem kV_X3_114 : KV RX3 114 RX3 yX3_doWrongs cX3_doWrongs 9 (some .int) 5 := KV.of wMl_X3_114 wIm_X3_doWrongs wSe_X3_doWrongs wIn_X3 wCo_X3_doWrongs (by decide +kernel)
theorem wMl_X3_120 : .methodLink RX3 120 yX1_init ∈ WG := wg_t 660 (by decide +kernel) (by decide +kernel)
theorem wCo_X1_init : .code yX1_init cX1_init 8 none ∈ WG := wg_t 662 (by decide +kernel) (by decide +kernel)
theorem wIn_X1 : .initialized RX1 ∈ WG := wg_t 22 (by decide +kernel) (by decide +kernel)
theorem wIm_X1_init : .instanceMethod yX1_init ∈ WG := wg_t 661 (by decide +kernel) (by decide +kernel)
theorem kI_X3_120 : KI RX3 120 yX1_init cX1_init 8 7 := KI.of wMl_X3_120 wIm_X1_init wIn_X1 wCo_X1_init rfl (by decide +kernel)
theorem wMl_X3_126 : .methodLink RX3 126 yX3_isPermitted ∈ WG := wg_t 143 (by decide +kernel) (by decide +kernel)
theorem wCo_X3_isPermitted : .code yX3_isPermitted cX3_isPermitted 3 (some .boolean) ∈ WG := wg_t 146 (by decide +kernel) (by decide +kernel)
theorem wIm_X3_isPermitted : .instanceMethod yX3_isPermitted ∈ WG := wg_t 145 (by decide +kernel) (by decide +kernel)
theorem wSe_X3_isPermitted : .selects RX3 yX3_isPermitted yX3_isPermitted ∈ WG := wg_s 4 (by decide +kernel) (by decide +kernel)
theorem kV_X3_126 : KV RX3 126 RX3 yX3_isPermitted cX3_isPermitted 3 (some .boolean) 2 := KV.of wMl_X3_126 wIm_X3_isPermitted wSe_X3_isPermitted wIn_X3 wCo_X3_isPermitted (by decide +kernel)
theorem wMl_X3_137 : .methodLink RX3 137 yX2_isWatchedWithin ∈ WG := wg_t 711 (by decide +kernel) (by decide +kernel)
theorem wCo_X2_isWatchedWithin : .code yX2_isWatchedWithin cX2_isWatchedWithin 3 (some .boolean) ∈ WG := wg_t 714 (by decide +kernel) (by decide +kernel)
theorem wIm_X2_isWatchedWithin : .instanceMethod yX2_isWatchedWithin ∈ WG := wg_t 712 (by decide +kernel) (by decide +kernel)
theorem wSe_X2_isWatchedWithin : .selects RX2 yX2_isWatchedWithin yX2_isWatchedWithin ∈ WG := wg_t 713 (by decide +kernel) (by decide +kernel)
theorem kV_X3_137 : KV RX3 137 RX2 yX2_isWatchedWithin cX2_isWatchedWithin 3 (some .boolean) 2 := KV.of wMl_X3_137 wIm_X2_isWatchedWithin wSe_X2_isWatchedWithin wIn_X2 wCo_X2_isWatchedWithin (by decide +kernel)
theorem wMl_X3_140 : .methodLink RX3 140 yX0_beCaught ∈ WG := wg_t 715 (by decide +kernel) (by decide +kernel)
theorem wCo_X0_beCaught : .code yX0_beCaught cX0_beCaught 2 none ∈ WG := wg_t 718 (by decide +kernel) (by decide +kernel)
theorem wIm_X0_beCaught : .instanceMethod yX0_beCaught ∈ WG := wg_t 716 (by decide +kernel) (by decide +kernel)
theorem wSe_X0_beCaught : .selects RX0 yX0_beCaught yX0_beCaught ∈ WG := wg_t 717 (by decide +kernel) (by decide +kernel)
theorem kV_X3_140 : KV RX3 140 RX0 yX0_beCaught cX0_beCaught 2 none 1 := KV.of wMl_X3_140 wIm_X0_beCaught wSe_X0_beCaught wIn_X0 wCo_X0_beCaught (by decide +kernel)
theorem wMl_X3_144 : .methodLink RX3 144 yX2_cover ∈ WG := wg_t 719 (by decide +kernel) (by decide +kernel)
theorem wCo_X2_cover : .code yX2_cover cX2_cover 3 none ∈ WG := wg_t 722 (by decide +kernel) (by decide +kernel)
theorem wIm_X2_cover : .instanceMethod yX2_cover ∈ WG := wg_t 720 (by decide +kernel) (by decide +kernel)
theorem wSe_X2_cover : .selects RX2 yX2_cover yX2_cover ∈ WG := wg_t 721 (by decide +kernel) (by decide +kernel)
theorem kV_X3_144 : KV RX3 144 RX2 yX2_cover cX2_cover 3 none 1 := KV.of wMl_X3_144 wIm_X2_cover wSe_X2_cover wIn_X2 wCo_X2_cover (by decide +kernel)
theorem wMl_X3_148 : .methodLink RX3 148 yX3_cellsToBuff ∈ WG := wg_t 135 (by decide +kernel) (by decide +kernel)
theorem wCo_X3_cellsToBuff : .code yX3_cellsToBuff cX3_cellsToBuff 4 (some .int) ∈ WG := wg_t 138 (by decide +kernel) (by decide +kernel)
theorem wIm_X3_cellsToBuff : .instanceMethod yX3_cellsToBuff ∈ WG := wg_t 137 (by decide +kernel) (by decide +kernel)
theorem wSe_X3_cellsToBuff : .selects RX3 yX3_cellsToBuff yX3_cellsToBuff ∈ WG := wg_s 2 (by decide +kernel) (by decide +kernel)
theorem kV_X3_148 : KV RX3 148 RX3 yX3_cellsToBuff cX3_cellsToBuff 4 (some .int) 1 := KV.of wMl_X3_148 wIm_X3_cellsToBuff wSe_X3_cellsToBuff wIn_X3 wCo_X3_cellsToBuff (by decide +kernel)
theorem wMl_X3_157 : .methodLink RX3 157 yX3_isToBuff ∈ WG := wg_t 139 (by decide +kernel) (by decide +kernel)
theorem wCo_X3_isToBuff : .code yX3_isToBuff cX3_isToBuff 4 (some .boolean) ∈ WG := wg_t 142 (by decide +kernel) (by decide +kernel)
theorem wIm_X3_isToBuff : .instanceMethod yX3_isToBuff ∈ WG := wg_t 141 (by decide +kernel) (by decide +kernel)
theorem wSe_X3_isToBuff : .selects RX3 yX3_isToBuff yX3_isToBuff ∈ WG := wg_s 3 (by decide +kernel) (by decide +kernel)
theorem kV_X3_157 : KV RX3 157 RX3 yX3_isToBuff cX3_isToBuff 4 (some .boolean) 2 := KV.of wMl_X3_157 wIm_X3_isToBuff wSe_X3_isToBuff wIn_X3 wCo_X3_isToBuff (by decide +kernel)
theorem wMl_X3_165 : .methodLink RX3 165 yX1_hasRights ∈ WG := wg_t 738 (by decide +kernel) (by decide +kernel)
theorem wCo_X1_hasRights : .code yX1_hasRights cX1_hasRights 1 (some .boolean) ∈ WG := wg_t 741 (by decide +kernel) (by decide +kernel)
theorem wIm_X1_hasRights : .instanceMethod yX1_hasRights ∈ WG := wg_t 739 (by decide +kernel) (by decide +kernel)
theorem wSe_X1_hasRights : .selects RX1 yX1_hasRights yX1_hasRights ∈ WG := wg_t 740 (by decide +kernel) (by decide +kernel)
theorem kV_X3_165 : KV RX3 165 RX1 yX1_hasRights cX1_hasRights 1 (some .boolean) 0 := KV.of wMl_X3_165 wIm_X1_hasRights wSe_X1_hasRights wIn_X1 wCo_X1_hasRights (by decide +kernel)
theorem wMl_X3_169 : .methodLink RX3 169 yX1_weight ∈ WG := wg_t 394 (by decide +kernel) (by decide +kernel)
theorem wCo_X1_weight : .code yX1_weight cX1_weight 1 (some .int) ∈ WG := wg_t 124 (by decide +kernel) (by decide +kernel)
theorem wIm_X1_weight : .instanceMethod yX1_weight ∈ WG := wg_t 122 (by decide +kernel) (by decide +kernel)
theorem wSe_X1_weight : .selects RX1 yX1_weight yX1_weight ∈ WG := wg_t 123 (by decide +kernel) (by decide +kernel)
theorem kV_X3_169 : KV RX3 169 RX1 yX1_weight cX1_weight 1 (some .int) 0 := KV.of wMl_X3_169 wIm_X1_weight wSe_X1_weight wIn_X1 wCo_X1_weight (by decide +kernel)
theorem wMl_X3_179 : .methodLink RX3 179 yX2_bareAll ∈ WG := wg_t 742 (by decide +kernel) (by decide +kernel)
theorem wCo_X2_bareAll : .code yX2_bareAll cX2_bareAll 2 none ∈ WG := wg_t 745 (by decide +kernel) (by decide +kernel)
theorem wIm_X2_bareAll : .instanceMethod yX2_bareAll ∈ WG := wg_t 743 (by decide +kernel) (by decide +kernel)
theorem wSe_X2_bareAll : .selects RX2 yX2_bareAll yX2_bareAll ∈ WG := wg_t 744 (by decide +kernel) (by decide +kernel)
theorem kV_X3_179 : KV RX3 179 RX2 yX2_bareAll cX2_bareAll 2 none 0 := KV.of wMl_X3_179 wIm_X2_bareAll wSe_X2_bareAll wIn_X2 wCo_X2_bareAll (by decide +kernel)
theorem wMl_X3_182 : .methodLink RX3 182 yX3_layerAt ∈ WG := wg_t 384 (by decide +kernel) (by decide +kernel)
theorem wCo_X3_layerAt : .code yX3_layerAt cX3_layerAt 2 (some (.object "Wallcode$Layer")) ∈ WG := wg_t 387 (by decide +kernel) (by decide +kernel)
theorem wIm_X3_layerAt : .instanceMethod yX3_layerAt ∈ WG := wg_t 386 (by decide +kernel) (by decide +kernel)
theorem wSe_X3_layerAt : .selects RX3 yX3_layerAt yX3_layerAt ∈ WG := wg_s 22 (by decide +kernel) (by decide +kernel)
theorem kV_X3_182 : KV RX3 182 RX3 yX3_layerAt cX3_layerAt 2 (some (.object "Wallcode$Layer")) 1 := KV.of wMl_X3_182 wIm_X3_layerAt wSe_X3_layerAt wIn_X3 wCo_X3_layerAt (by decide +kernel)
theorem wMl_X3_186 : .methodLink RX3 186 yX1_isSeen ∈ WG := wg_t 165 (by decide +kernel) (by decide +kernel)
theorem wCo_X1_isSeen : .code yX1_isSeen cX1_isSeen 1 (some .boolean) ∈ WG := wg_t 168 (by decide +kernel) (by decide +kernel)
theorem wIm_X1_isSeen : .instanceMethod yX1_isSeen ∈ WG := wg_t 166 (by decide +kernel) (by decide +kernel)
theorem wSe_X1_isSeen : .selects RX1 yX1_isSeen yX1_isSeen ∈ WG := wg_t 167 (by decide +kernel) (by decide +kernel)
theorem kV_X3_186 : KV RX3 186 RX1 yX1_isSeen cX1_isSeen 1 (some .boolean) 0 := KV.of wMl_X3_186 wIm_X1_isSeen wSe_X1_isSeen wIn_X1 wCo_X1_isSeen (by decide +kernel)
theorem wMl_X3_191 : .methodLink RX3 191 yX3_priceOf ∈ WG := wg_t 390 (by decide +kernel) (by decide +kernel)
theorem wCo_X3_priceOf : .code yX3_priceOf cX3_priceOf 2 (some .int) ∈ WG := wg_t 393 (by decide +kernel) (by decide +kernel)
theorem wIm_X3_priceOf : .instanceMethod yX3_priceOf ∈ WG := wg_t 392 (by decide +kernel) (by decide +kernel)
theorem wSe_X3_priceOf : .selects RX3 yX3_priceOf yX3_priceOf ∈ WG := wg_s 23 (by decide +kernel) (by decide +kernel)
theorem kV_X3_191 : KV RX3 191 RX3 yX3_priceOf cX3_priceOf 2 (some .int) 1 := KV.of wMl_X3_191 wIm_X3_priceOf wSe_X3_priceOf wIn_X3 wCo_X3_priceOf (by decide +kernel)
theorem wMl_X3_199 : .methodLink RX3 199 yX2_cutOut ∈ WG := wg_t 754 (by decide +kernel) (by decide +kernel)
theorem wCo_X2_cutOut : .code yX2_cutOut cX2_cutOut 3 none ∈ WG := wg_t 757 (by decide +kernel) (by decide +kernel)
theorem wIm_X2_cutOut : .instanceMethod yX2_cutOut ∈ WG := wg_t 755 (by decide +kernel) (by decide +kernel)
theorem wSe_X2_cutOut : .selects RX2 yX2_cutOut yX2_cutOut ∈ WG := wg_t 756 (by decide +kernel) (by decide +kernel)
theorem kV_X3_199 : KV RX3 199 RX2 yX2_cutOut cX2_cutOut 3 none 1 := KV.of wMl_X3_199 wIm_X2_cutOut wSe_X2_cutOut wIn_X2 wCo_X2_cutOut (by decide +kernel)
theorem wMl_X3_215 : .methodLink RX3 215 yX3_goOneNightOn ∈ WG := wg_t 788 (by decide +kernel) (by decide +kernel)
theorem wCo_X3_goOneNightOn : .code yX3_goOneNightOn cX3_goOneNightOn 4 (some .int) ∈ WG := wg_t 791 (by decide +kernel) (by decide +kernel)
theorem wIm_X3_goOneNightOn : .instanceMethod yX3_goOneNightOn ∈ WG := wg_t 790 (by decide +kernel) (by decide +kernel)
theorem wSe_X3_goOneNightOn : .selects RX3 yX3_goOneNightOn yX3_goOneNightOn ∈ WG := wg_s 31 (by decide +kernel) (by decide +kernel)
theorem kV_X3_215 : KV RX3 215 RX3 yX3_goOneNightOn cX3_goOneNightOn 4 (some .int) 0 := KV.of wMl_X3_215 wIm_X3_goOneNightOn wSe_X3_goOneNightOn wIn_X3 wCo_X3_goOneNightOn (by decide +kernel)
theorem wMl_X3_224 : .methodLink RX3 224 yX2_paintedCells ∈ WG := wg_t 319 (by decide +kernel) (by decide +kernel)
theorem wCo_X2_paintedCells : .code yX2_paintedCells cX2_paintedCells 3 (some .int) ∈ WG := wg_t 322 (by decide +kernel) (by decide +kernel)
theorem wIm_X2_paintedCells : .instanceMethod yX2_paintedCells ∈ WG := wg_t 320 (by decide +kernel) (by decide +kernel)
theorem wSe_X2_paintedCells : .selects RX2 yX2_paintedCells yX2_paintedCells ∈ WG := wg_t 321 (by decide +kernel) (by decide +kernel)
theorem kV_X3_224 : KV RX3 224 RX2 yX2_paintedCells cX2_paintedCells 3 (some .int) 0 := KV.of wMl_X3_224 wIm_X2_paintedCells wSe_X2_paintedCells wIn_X2 wCo_X2_paintedCells (by decide +kernel)
theorem wMl_X3_227 : .methodLink RX3 227 yX3_eyesoreOf ∈ WG := wg_t 131 (by decide +kernel) (by decide +kernel)
theorem wCo_X3_eyesoreOf : .code yX3_eyesoreOf cX3_eyesoreOf 2 (some .int) ∈ WG := wg_t 134 (by decide +kernel) (by decide +kernel)
theorem wIm_X3_eyesoreOf : .instanceMethod yX3_eyesoreOf ∈ WG := wg_t 133 (by decide +kernel) (by decide +kernel)
theorem wSe_X3_eyesoreOf : .selects RX3 yX3_eyesoreOf yX3_eyesoreOf ∈ WG := wg_s 1 (by decide +kernel) (by decide +kernel)
theorem kV_X3_227 : KV RX3 227 RX3 yX3_eyesoreOf cX3_eyesoreOf 2 (some .int) 1 := KV.of wMl_X3_227 wIm_X3_eyesoreOf wSe_X3_eyesoreOf wIn_X3 wCo_X3_eyesoreOf (by decide +kernel)
theorem wMl_X3_230 : .methodLink RX3 230 yX3_layersSeenOn ∈ WG := wg_t 323 (by decide +kernel) (by decide +kernel)
theorem wCo_X3_layersSeenOn : .code yX3_layersSeenOn cX3_layersSeenOn 5 (some .int) ∈ WG := wg_t 326 (by decide +kernel) (by decide +kernel)
theorem wIm_X3_layersSeenOn : .instanceMethod yX3_layersSeenOn ∈ WG := wg_t 325 (by decide +kernel) (by decide +kernel)
theorem wSe_X3_layersSeenOn : .selects RX3 yX3_layersSeenOn yX3_layersSeenOn ∈ WG := wg_s 15 (by decide +kernel) (by decide +kernel)
theorem kV_X3_230 : KV RX3 230 RX3 yX3_layersSeenOn cX3_layersSeenOn 5 (some .int) 1 := KV.of wMl_X3_230 wIm_X3_layersSeenOn wSe_X3_layersSeenOn wIn_X3 wCo_X3_layersSeenOn (by decide +kernel)
theorem wMl_X3_249 : .methodLink RX3 249 yX3_fameOf ∈ WG := wg_t 108 (by decide +kernel) (by decide +kernel)
theorem wCo_X3_fameOf : .code yX3_fameOf cX3_fameOf 4 (some .int) ∈ WG := wg_t 111 (by decide +kernel) (by decide +kernel)
theorem wIm_X3_fameOf : .instanceMethod yX3_fameOf ∈ WG := wg_t 110 (by decide +kernel) (by decide +kernel)
theorem wSe_X3_fameOf : .selects RX3 yX3_fameOf yX3_fameOf ∈ WG := wg_s 0 (by decide +kernel) (by decide +kernel)
theorem kV_X3_249 : KV RX3 249 RX3 yX3_fameOf cX3_fameOf 4 (some .int) 1 := KV.of wMl_X3_249 wIm_X3_fameOf wSe_X3_fameOf wIn_X3 wCo_X3_fameOf (by decide +kernel)
theorem wMl_X3_253 : .methodLink RX3 253 yX3_layersOf ∈ WG := wg_t 350 (by decide +kernel) (by decide +kernel)
theorem wCo_X3_layersOf : .code yX3_layersOf cX3_layersOf 4 (some .int) ∈ WG := wg_t 353 (by decide +kernel) (by decide +kernel)
theorem wIm_X3_layersOf : .instanceMethod yX3_layersOf ∈ WG := wg_t 352 (by decide +kernel) (by decide +kernel)
theorem wSe_X3_layersOf : .selects RX3 yX3_layersOf yX3_layersOf ∈ WG := wg_s 18 (by decide +kernel) (by decide +kernel)
theorem kV_X3_253 : KV RX3 253 RX3 yX3_layersOf cX3_layersOf 4 (some .int) 1 := KV.of wMl_X3_253 wIm_X3_layersOf wSe_X3_layersOf wIn_X3 wCo_X3_layersOf (by decide +kernel)
theorem wMl_X3_256 : .methodLink RX3 256 yX3_layersSeenOf ∈ WG := wg_t 354 (by decide +kernel) (by decide +kernel)
theorem wCo_X3_layersSeenOf : .code yX3_layersSeenOf cX3_layersSeenOf 5 (some .int) ∈ WG := wg_t 357 (by decide +kernel) (by decide +kernel)
theorem wIm_X3_layersSeenOf : .instanceMethod yX3_layersSeenOf ∈ WG := wg_t 356 (by decide +kernel) (by decide +kernel)
theorem wSe_X3_layersSeenOf : .selects RX3 yX3_layersSeenOf yX3_layersSeenOf ∈ WG := wg_s 19 (by decide +kernel) (by decide +kernel)
theorem kV_X3_256 : KV RX3 256 RX3 yX3_layersSeenOf cX3_layersSeenOf 5 (some .int) 1 := KV.of wMl_X3_256 wIm_X3_layersSeenOf wSe_X3_layersSeenOf wIn_X3 wCo_X3_layersSeenOf (by decide +kernel)
theorem wMl_X3_259 : .methodLink RX3 259 yX0_wrongsDone ∈ WG := wg_t 181 (by decide +kernel) (by decide +kernel)
theorem wCo_X0_wrongsDone : .code yX0_wrongsDone cX0_wrongsDone 3 (some .int) ∈ WG := wg_t 184 (by decide +kernel) (by decide +kernel)
theorem wIm_X0_wrongsDone : .instanceMethod yX0_wrongsDone ∈ WG := wg_t 182 (by decide +kernel) (by decide +kernel)
theorem wSe_X0_wrongsDone : .selects RX0 yX0_wrongsDone yX0_wrongsDone ∈ WG := wg_t 183 (by decide +kernel) (by decide +kernel)
theorem kV_X3_259 : KV RX3 259 RX0 yX0_wrongsDone cX0_wrongsDone 3 (some .int) 0 := KV.of wMl_X3_259 wIm_X0_wrongsDone wSe_X0_wrongsDone wIn_X0 wCo_X0_wrongsDone (by decide +kernel)
theorem wMl_X3_262 : .methodLink RX3 262 yX3_wrongsSufferedBy ∈ WG := wg_t 358 (by decide +kernel) (by decide +kernel)
theorem wCo_X3_wrongsSufferedBy : .code yX3_wrongsSufferedBy cX3_wrongsSufferedBy 4 (some .int) ∈ WG := wg_t 361 (by decide +kernel) (by decide +kernel)
theorem wIm_X3_wrongsSufferedBy : .instanceMethod yX3_wrongsSufferedBy ∈ WG := wg_t 360 (by decide +kernel) (by decide +kernel)
theorem wSe_X3_wrongsSufferedBy : .selects RX3 yX3_wrongsSufferedBy yX3_wrongsSufferedBy ∈ WG := wg_s 20 (by decide +kernel) (by decide +kernel)
theorem kV_X3_262 : KV RX3 262 RX3 yX3_wrongsSufferedBy cX3_wrongsSufferedBy 4 (some .int) 1 := KV.of wMl_X3_262 wIm_X3_wrongsSufferedBy wSe_X3_wrongsSufferedBy wIn_X3 wCo_X3_wrongsSufferedBy (by decide +kernel)
theorem wMl_X3_281 : .methodLink RX3 281 yX1_cellsSeen ∈ WG := wg_t 389 (by decide +kernel) (by decide +kernel)
theorem wCo_X1_cellsSeen : .code yX1_cellsSeen cX1_cellsSeen 1 (some .int) ∈ WG := wg_t 172 (by decide +kernel) (by decide +kernel)
theorem wIm_X1_cellsSeen : .instanceMethod yX1_cellsSeen ∈ WG := wg_t 170 (by decide +kernel) (by decide +kernel)
theorem wSe_X1_cellsSeen : .selects RX1 yX1_cellsSeen yX1_cellsSeen ∈ WG := wg_t 171 (by decide +kernel) (by decide +kernel)
theorem kV_X3_281 : KV RX3 281 RX1 yX1_cellsSeen cX1_cellsSeen 1 (some .int) 0 := KV.of wMl_X3_281 wIm_X1_cellsSeen wSe_X1_cellsSeen wIn_X1 wCo_X1_cellsSeen (by decide +kernel)
theorem wMl_X3_284 : .methodLink RX3 284 yX1_slantShown ∈ WG := wg_t 205 (by decide +kernel) (by decide +kernel)
theorem wCo_X1_slantShown : .code yX1_slantShown cX1_slantShown 1 (some .int) ∈ WG := wg_t 208 (by decide +kernel) (by decide +kernel)
theorem wIm_X1_slantShown : .instanceMethod yX1_slantShown ∈ WG := wg_t 206 (by decide +kernel) (by decide +kernel)
theorem wSe_X1_slantShown : .selects RX1 yX1_slantShown yX1_slantShown ∈ WG := wg_t 207 (by decide +kernel) (by decide +kernel)
theorem kV_X3_284 : KV RX3 284 RX1 yX1_slantShown cX1_slantShown 1 (some .int) 0 := KV.of wMl_X3_284 wIm_X1_slantShown wSe_X1_slantShown wIn_X1 wCo_X1_slantShown (by decide +kernel)
theorem wMl_X3_287 : .methodLink RX3 287 yX1_roundShown ∈ WG := wg_t 212 (by decide +kernel) (by decide +kernel)
theorem wCo_X1_roundShown : .code yX1_roundShown cX1_roundShown 1 (some .int) ∈ WG := wg_t 215 (by decide +kernel) (by decide +kernel)
theorem wIm_X1_roundShown : .instanceMethod yX1_roundShown ∈ WG := wg_t 213 (by decide +kernel) (by decide +kernel)
theorem wSe_X1_roundShown : .selects RX1 yX1_roundShown yX1_roundShown ∈ WG := wg_t 214 (by decide +kernel) (by decide +kernel)
theorem kV_X3_287 : KV RX3 287 RX1 yX1_roundShown cX1_roundShown 1 (some .int) 0 := KV.of wMl_X3_287 wIm_X1_roundShown wSe_X1_roundShown wIn_X1 wCo_X1_roundShown (by decide +kernel)
theorem wMl_X3_290 : .methodLink RX3 290 yX3_suspectOf ∈ WG := wg_t 201 (by decide +kernel) (by decide +kernel)
theorem wCo_X3_suspectOf : .code yX3_suspectOf cX3_suspectOf 7 (some .int) ∈ WG := wg_t 204 (by decide +kernel) (by decide +kernel)
theorem wIm_X3_suspectOf : .instanceMethod yX3_suspectOf ∈ WG := wg_t 203 (by decide +kernel) (by decide +kernel)
theorem wSe_X3_suspectOf : .selects RX3 yX3_suspectOf yX3_suspectOf ∈ WG := wg_s 11 (by decide +kernel) (by decide +kernel)
theorem kV_X3_290 : KV RX3 290 RX3 yX3_suspectOf cX3_suspectOf 7 (some .int) 1 := KV.of wMl_X3_290 wIm_X3_suspectOf wSe_X3_suspectOf wIn_X3 wCo_X3_suspectOf (by decide +kernel)
theorem wMl_X3_299 : .methodLink RX3 299 yJ9_abs_0f7a4 ∈ WG := wg_t 209 (by decide +kernel) (by decide +kernel)
theorem wCo_J9_abs_0f7a4 : .code yJ9_abs_0f7a4 cJ9_abs_0f7a4 1 (some .int) ∈ WG := wg_t 211 (by decide +kernel) (by decide +kernel)
theorem wIn_J9 : .initialized RJ9 ∈ WG := wg_t 13 (by decide +kernel) (by decide +kernel)
theorem wSt_J9_abs_0f7a4 : .static yJ9_abs_0f7a4 ∈ WG := wg_t 210 (by decide +kernel) (by decide +kernel)
theorem kS_X3_299 : KS RX3 299 yJ9_abs_0f7a4 cJ9_abs_0f7a4 1 (some .int) 1 := KS.of wMl_X3_299 wSt_J9_abs_0f7a4 wIn_J9 wCo_J9_abs_0f7a4 (by decide +kernel)
theorem wMl_X3_304 : .methodLink RX3 304 yX3_layersSeen ∈ WG := wg_t 160 (by decide +kernel) (by decide +kernel)
theorem wCo_X3_layersSeen : .code yX3_layersSeen cX3_layersSeen 3 (some .int) ∈ WG := wg_t 163 (by decide +kernel) (by decide +kernel)
theorem wIm_X3_layersSeen : .instanceMethod yX3_layersSeen ∈ WG := wg_t 162 (by decide +kernel) (by decide +kernel)
theorem wSe_X3_layersSeen : .selects RX3 yX3_layersSeen yX3_layersSeen ∈ WG := wg_s 5 (by decide +kernel) (by decide +kernel)
theorem kV_X3_304 : KV RX3 304 RX3 yX3_layersSeen cX3_layersSeen 3 (some .int) 0 := KV.of wMl_X3_304 wIm_X3_layersSeen wSe_X3_layersSeen wIn_X3 wCo_X3_layersSeen (by decide +kernel)
theorem wMl_X3_307 : .methodLink RX3 307 yX3_allWrongs ∈ WG := wg_t 177 (by decide +kernel) (by decide +kernel)
theorem wCo_X3_allWrongs : .code yX3_allWrongs cX3_allWrongs 3 (some .int) ∈ WG := wg_t 180 (by decide +kernel) (by decide +kernel)
theorem wIm_X3_allWrongs : .instanceMethod yX3_allWrongs ∈ WG := wg_t 179 (by decide +kernel) (by decide +kernel)
theorem wSe_X3_allWrongs : .selects RX3 yX3_allWrongs yX3_allWrongs ∈ WG := wg_s 6 (by decide +kernel) (by decide +kernel)
theorem kV_X3_307 : KV RX3 307 RX3 yX3_allWrongs cX3_allWrongs 3 (some .int) 0 := KV.of wMl_X3_307 wIm_X3_allWrongs wSe_X3_allWrongs wIn_X3 wCo_X3_allWrongs (by decide +kernel)
theorem wMl_X3_310 : .methodLink RX3 310 yX3_knownHands ∈ WG := wg_t 185 (by decide +kernel) (by decide +kernel)
theorem wCo_X3_knownHands : .code yX3_knownHands cX3_knownHands 3 (some .int) ∈ WG := wg_t 188 (by decide +kernel) (by decide +kernel)
theorem wIm_X3_knownHands : .instanceMethod yX3_knownHands ∈ WG := wg_t 187 (by decide +kernel) (by decide +kernel)
theorem wSe_X3_knownHands : .selects RX3 yX3_knownHands yX3_knownHands ∈ WG := wg_s 7 (by decide +kernel) (by decide +kernel)
theorem kV_X3_310 : KV RX3 310 RX3 yX3_knownHands cX3_knownHands 3 (some .int) 0 := KV.of wMl_X3_310 wIm_X3_knownHands wSe_X3_knownHands wIn_X3 wCo_X3_knownHands (by decide +kernel)
theorem wMl_X3_313 : .methodLink RX3 313 yX3_allFines ∈ WG := wg_t 189 (by decide +kernel) (by decide +kernel)
theorem wCo_X3_allFines : .code yX3_allFines cX3_allFines 3 (some .int) ∈ WG := wg_t 192 (by decide +kernel) (by decide +kernel)
theorem wIm_X3_allFines : .instanceMethod yX3_allFines ∈ WG := wg_t 191 (by decide +kernel) (by decide +kernel)
theorem wSe_X3_allFines : .selects RX3 yX3_allFines yX3_allFines ∈ WG := wg_s 8 (by decide +kernel) (by decide +kernel)
theorem kV_X3_313 : KV RX3 313 RX3 yX3_allFines cX3_allFines 3 (some .int) 0 := KV.of wMl_X3_313 wIm_X3_allFines wSe_X3_allFines wIn_X3 wCo_X3_allFines (by decide +kernel)
theorem wMl_X3_316 : .methodLink RX3 316 yX3_allOwed ∈ WG := wg_t 193 (by decide +kernel) (by decide +kernel)
theorem wCo_X3_allOwed : .code yX3_allOwed cX3_allOwed 3 (some .int) ∈ WG := wg_t 196 (by decide +kernel) (by decide +kernel)
theorem wIm_X3_allOwed : .instanceMethod yX3_allOwed ∈ WG := wg_t 195 (by decide +kernel) (by decide +kernel)
theorem wSe_X3_allOwed : .selects RX3 yX3_allOwed yX3_allOwed ∈ WG := wg_s 9 (by decide +kernel) (by decide +kernel)
theorem kV_X3_316 : KV RX3 316 RX3 yX3_allOwed cX3_allOwed 3 (some .int) 0 := KV.of wMl_X3_316 wIm_X3_allOwed wSe_X3_allOwed wIn_X3 wCo_X3_allOwed (by decide +kernel)
theorem wMl_X3_319 : .methodLink RX3 319 yX3_layersWithWrongSuspect ∈ WG := wg_t 197 (by decide +kernel) (by decide +kernel)
theorem wCo_X3_layersWithWrongSuspect : .code yX3_layersWithWrongSuspect cX3_layersWithWrongSuspect 5 (some .int) ∈ WG := wg_t 200 (by decide +kernel) (by decide +kernel)
theorem wIm_X3_layersWithWrongSuspect : .instanceMethod yX3_layersWithWrongSuspect ∈ WG := wg_t 199 (by decide +kernel) (by decide +kernel)
theorem wSe_X3_layersWithWrongSuspect : .selects RX3 yX3_layersWithWrongSuspect yX3_layersWithWrongSuspect ∈ WG := wg_s 10 (by decide +kernel) (by decide +kernel)
theorem kV_X3_319 : KV RX3 319 RX3 yX3_layersWithWrongSuspect cX3_layersWithWrongSuspect 5 (some .int) 0 := KV.of wMl_X3_319 wIm_X3_layersWithWrongSuspect wSe_X3_layersWithWrongSuspect wIn_X3 wCo_X3_layersWithWrongSuspect (by decide +kernel)
theorem wMl_X3_324 : .methodLink RX3 324 yJx4a65c_isEmpty_aae02 ∈ WG := wg_t 85 (by decide +kernel) (by decide +kernel)
theorem wCo_Jx4a65c_isEmpty_aae02 : .code yJx4a65c_isEmpty_aae02 cJx4a65c_isEmpty_aae02 1 (some .boolean) ∈ WG := wg_t 88 (by decide +kernel) (by decide +kernel)
theorem wIm_Jx4a65c_isEmpty_aae02 : .instanceMethod yJx4a65c_isEmpty_aae02 ∈ WG := wg_t 86 (by decide +kernel) (by decide +kernel)
theorem wSe_Jx4a65c_isEmpty_aae02 : .selects RJx4a65c yJx4a65c_isEmpty_aae02 yJx4a65c_isEmpty_aae02 ∈ WG := wg_t 87 (by decide +kernel) (by decide +kernel)
theorem kV_X3_324 : KV RX3 324 RJx4a65c yJx4a65c_isEmpty_aae02 cJx4a65c_isEmpty_aae02 1 (some .boolean) 0 := KV.of wMl_X3_324 wIm_Jx4a65c_isEmpty_aae02 wSe_Jx4a65c_isEmpty_aae02 wIn_Jx4a65c wCo_Jx4a65c_isEmpty_aae02 (by decide +kernel)
theorem wMl_X3_327 : .methodLink RX3 327 yJx4a65c_get_915e3 ∈ WG := wg_t 93 (by decide +kernel) (by decide +kernel)
theorem wCo_Jx4a65c_get_915e3 : .code yJx4a65c_get_915e3 cJx4a65c_get_915e3 2 (some (.object "java/lang/Object")) ∈ WG := wg_t 96 (by decide +kernel) (by decide +kernel)
theorem wIm_Jx4a65c_get_915e3 : .instanceMethod yJx4a65c_get_915e3 ∈ WG := wg_t 94 (by decide +kernel) (by decide +kernel)
theorem wSe_Jx4a65c_get_915e3 : .selects RJx4a65c yJx4a65c_get_915e3 yJx4a65c_get_915e3 ∈ WG := wg_t 95 (by decide +kernel) (by decide +kernel)
theorem kV_X3_327 : KV RX3 327 RJx4a65c yJx4a65c_get_915e3 cJx4a65c_get_915e3 2 (some (.object "java/lang/Object")) 1 := KV.of wMl_X3_327 wIm_Jx4a65c_get_915e3 wSe_Jx4a65c_get_915e3 wIn_Jx4a65c wCo_Jx4a65c_get_915e3 (by decide +kernel)
theorem wMl_X3_331 : .methodLink RX3 331 yX3_countWrongs ∈ WG := wg_t 405 (by decide +kernel) (by decide +kernel)
theorem wCo_X3_countWrongs : .code yX3_countWrongs cX3_countWrongs 8 (some .int) ∈ WG := wg_t 408 (by decide +kernel) (by decide +kernel)
theorem wIm_X3_countWrongs : .instanceMethod yX3_countWrongs ∈ WG := wg_t 407 (by decide +kernel) (by decide +kernel)
theorem wSe_X3_countWrongs : .selects RX3 yX3_countWrongs yX3_countWrongs ∈ WG := wg_s 24 (by decide +kernel) (by decide +kernel)
theorem kV_X3_331 : KV RX3 331 RX3 yX3_countWrongs cX3_countWrongs 8 (some .int) 5 := KV.of wMl_X3_331 wIm_X3_countWrongs wSe_X3_countWrongs wIn_X3 wCo_X3_countWrongs (by decide +kernel)
theorem wMl_X3_334 : .methodLink RX3 334 yX3_fameGain ∈ WG := wg_t 421 (by decide +kernel) (by decide +kernel)
theorem wCo_X3_fameGain : .code yX3_fameGain cX3_fameGain 7 (some .int) ∈ WG := wg_t 423 (by decide +kernel) (by decide +kernel)
theorem wSt_X3_fameGain : .static yX3_fameGain ∈ WG := wg_t 422 (by decide +kernel) (by decide +kernel)
theorem kS_X3_334 : KS RX3 334 yX3_fameGain cX3_fameGain 7 (some .int) 5 := KS.of wMl_X3_334 wSt_X3_fameGain wIn_X3 wCo_X3_fameGain (by decide +kernel)
theorem wMl_X3_339 : .methodLink RX3 339 yX3_willBeCleaned ∈ WG := wg_t 372 (by decide +kernel) (by decide +kernel)
theorem wCo_X3_willBeCleaned : .code yX3_willBeCleaned cX3_willBeCleaned 4 (some .boolean) ∈ WG := wg_t 375 (by decide +kernel) (by decide +kernel)
theorem wIm_X3_willBeCleaned : .instanceMethod yX3_willBeCleaned ∈ WG := wg_t 374 (by decide +kernel) (by decide +kernel)
theorem wSe_X3_willBeCleaned : .selects RX3 yX3_willBeCleaned yX3_willBeCleaned ∈ WG := wg_s 21 (by decide +kernel) (by decide +kernel)
theorem kV_X3_339 : KV RX3 339 RX3 yX3_willBeCleaned cX3_willBeCleaned 4 (some .boolean) 2 := KV.of wMl_X3_339 wIm_X3_willBeCleaned wSe_X3_willBeCleaned wIn_X3 wCo_X3_willBeCleaned (by decide +kernel)
theorem wMl_X3_342 : .methodLink RX3 342 yX2_fameOf ∈ WG := wg_t 113 (by decide +kernel) (by decide +kernel)
theorem wCo_X2_fameOf : .code yX2_fameOf cX2_fameOf 4 (some .int) ∈ WG := wg_t 116 (by decide +kernel) (by decide +kernel)
theorem wIm_X2_fameOf : .instanceMethod yX2_fameOf ∈ WG := wg_t 114 (by decide +kernel) (by decide +kernel)
theorem wSe_X2_fameOf : .selects RX2 yX2_fameOf yX2_fameOf ∈ WG := wg_t 115 (by decide +kernel) (by decide +kernel)
theorem kV_X3_342 : KV RX3 342 RX2 yX2_fameOf cX2_fameOf 4 (some .int) 1 := KV.of wMl_X3_342 wIm_X2_fameOf wSe_X2_fameOf wIn_X2 wCo_X2_fameOf (by decide +kernel)
theorem wMl_X3_345 : .methodLink RX3 345 yX3_many ∈ WG := wg_t 156 (by decide +kernel) (by decide +kernel)
theorem wCo_X3_many : .code yX3_many cX3_many 2 (some .int) ∈ WG := wg_t 159 (by decide +kernel) (by decide +kernel)
theorem wIm_X3_many : .instanceMethod yX3_many ∈ WG := wg_t 157 (by decide +kernel) (by decide +kernel)
theorem wSe_X3_many : .selects RX3 yX3_many yX3_many ∈ WG := wg_t 158 (by decide +kernel) (by decide +kernel)
theorem kV_X3_345 : KV RX3 345 RX3 yX3_many cX3_many 2 (some .int) 1 := KV.of wMl_X3_345 wIm_X3_many wSe_X3_many wIn_X3 wCo_X3_many (by decide +kernel)
theorem wMl_X3_348 : .methodLink RX3 348 yX3_mixed ∈ WG := wg_t 284 (by decide +kernel) (by decide +kernel)
theorem wCo_X3_mixed : .code yX3_mixed cX3_mixed 3 (some .long) ∈ WG := wg_t 286 (by decide +kernel) (by decide +kernel)
theorem wSt_X3_mixed : .static yX3_mixed ∈ WG := wg_t 285 (by decide +kernel) (by decide +kernel)
theorem kS_X3_348 : KS RX3 348 yX3_mixed cX3_mixed 3 (some .long) 2 := KS.of wMl_X3_348 wSt_X3_mixed wIn_X3 wCo_X3_mixed (by decide +kernel)
theorem wMl_X3_352 : .methodLink RX3 352 yX3_mixedWithWall ∈ WG := wg_t 288 (by decide +kernel) (by decide +kernel)
theorem wCo_X3_mixedWithWall : .code yX3_mixedWithWall cX3_mixedWithWall 8 (some .long) ∈ WG := wg_t 291 (by decide +kernel) (by decide +kernel)
theorem wIm_X3_mixedWithWall : .instanceMethod yX3_mixedWithWall ∈ WG := wg_t 290 (by decide +kernel) (by decide +kernel)
theorem wSe_X3_mixedWithWall : .selects RX3 yX3_mixedWithWall yX3_mixedWithWall ∈ WG := wg_s 13 (by decide +kernel) (by decide +kernel)
theorem kV_X3_352 : KV RX3 352 RX3 yX3_mixedWithWall cX3_mixedWithWall 8 (some .long) 2 := KV.of wMl_X3_352 wIm_X3_mixedWithWall wSe_X3_mixedWithWall wIn_X3 wCo_X3_mixedWithWall (by decide +kernel)
theorem wMl_X3_355 : .methodLink RX3 355 yX3_mixedWithHand ∈ WG := wg_t 333 (by decide +kernel) (by decide +kernel)
theorem wCo_X3_mixedWithHand : .code yX3_mixedWithHand cX3_mixedWithHand 7 (some .long) ∈ WG := wg_t 336 (by decide +kernel) (by decide +kernel)
theorem wIm_X3_mixedWithHand : .instanceMethod yX3_mixedWithHand ∈ WG := wg_t 335 (by decide +kernel) (by decide +kernel)
theorem wSe_X3_mixedWithHand : .selects RX3 yX3_mixedWithHand yX3_mixedWithHand ∈ WG := wg_s 16 (by decide +kernel) (by decide +kernel)
theorem kV_X3_355 : KV RX3 355 RX3 yX3_mixedWithHand cX3_mixedWithHand 7 (some .long) 2 := KV.of wMl_X3_355 wIm_X3_mixedWithHand wSe_X3_mixedWithHand wIn_X3 wCo_X3_mixedWithHand (by decide +kernel)
theorem wMl_X3_358 : .methodLink RX3 358 yX3_ofLayer ∈ WG := wg_t 380 (by decide +kernel) (by decide +kernel)
theorem wCo_X3_ofLayer : .code yX3_ofLayer cX3_ofLayer 4 (some .int) ∈ WG := wg_t 383 (by decide +kernel) (by decide +kernel)
theorem wIm_X3_ofLayer : .instanceMethod yX3_ofLayer ∈ WG := wg_t 381 (by decide +kernel) (by decide +kernel)
theorem wSe_X3_ofLayer : .selects RX3 yX3_ofLayer yX3_ofLayer ∈ WG := wg_t 382 (by decide +kernel) (by decide +kernel)
theorem kV_X3_358 : KV RX3 358 RX3 yX3_ofLayer cX3_ofLayer 4 (some .int) 2 := KV.of wMl_X3_358 wIm_X3_ofLayer wSe_X3_ofLayer wIn_X3 wCo_X3_ofLayer (by decide +kernel)
theorem wMl_X3_362 : .methodLink RX3 362 yX3_nextBuff ∈ WG := wg_t 396 (by decide +kernel) (by decide +kernel)
theorem wCo_X3_nextBuff : .code yX3_nextBuff cX3_nextBuff 6 (some .int) ∈ WG := wg_t 130 (by decide +kernel) (by decide +kernel)
theorem wIm_X3_nextBuff : .instanceMethod yX3_nextBuff ∈ WG := wg_t 128 (by decide +kernel) (by decide +kernel)
theorem wSe_X3_nextBuff : .selects RX3 yX3_nextBuff yX3_nextBuff ∈ WG := wg_t 129 (by decide +kernel) (by decide +kernel)
theorem kV_X3_362 : KV RX3 362 RX3 yX3_nextBuff cX3_nextBuff 6 (some .int) 0 := KV.of wMl_X3_362 wIm_X3_nextBuff wSe_X3_nextBuff wIn_X3 wCo_X3_nextBuff (by decide +kernel)
theorem wMl_X3_365 : .methodLink RX3 365 yX3_bestFrom ∈ WG := wg_t 397 (by decide +kernel) (by decide +kernel)
theorem wCo_X3_bestFrom : .code yX3_bestFrom cX3_bestFrom 14 (some .int) ∈ WG := wg_t 400 (by decide +kernel) (by decide +kernel)
theorem wIm_X3_bestFrom : .instanceMethod yX3_bestFrom ∈ WG := wg_t 398 (by decide +kernel) (by decide +kernel)
theorem wSe_X3_bestFrom : .selects RX3 yX3_bestFrom yX3_bestFrom ∈ WG := wg_t 399 (by decide +kernel) (by decide +kernel)
theorem kV_X3_365 : KV RX3 365 RX3 yX3_bestFrom cX3_bestFrom 14 (some .int) 4 := KV.of wMl_X3_365 wIm_X3_bestFrom wSe_X3_bestFrom wIn_X3 wCo_X3_bestFrom (by decide +kernel)
theorem wMl_X3_369 : .methodLink RX3 369 yX3_ofWall ∈ WG := wg_t 292 (by decide +kernel) (by decide +kernel)
theorem wCo_X3_ofWall : .code yX3_ofWall cX3_ofWall 4 (some .int) ∈ WG := wg_t 295 (by decide +kernel) (by decide +kernel)
theorem wIm_X3_ofWall : .instanceMethod yX3_ofWall ∈ WG := wg_t 293 (by decide +kernel) (by decide +kernel)
theorem wSe_X3_ofWall : .selects RX3 yX3_ofWall yX3_ofWall ∈ WG := wg_t 294 (by decide +kernel) (by decide +kernel)
theorem kV_X3_369 : KV RX3 369 RX3 yX3_ofWall cX3_ofWall 4 (some .int) 2 := KV.of wMl_X3_369 wIm_X3_ofWall wSe_X3_ofWall wIn_X3 wCo_X3_ofWall (by decide +kernel)
theorem wMl_X3_372 : .methodLink RX3 372 yX3_shows ∈ WG := wg_t 328 (by decide +kernel) (by decide +kernel)
theorem wCo_X3_shows : .code yX3_shows cX3_shows 5 (some .int) ∈ WG := wg_t 331 (by decide +kernel) (by decide +kernel)
theorem wIm_X3_shows : .instanceMethod yX3_shows ∈ WG := wg_t 329 (by decide +kernel) (by decide +kernel)
theorem wSe_X3_shows : .selects RX3 yX3_shows yX3_shows ∈ WG := wg_t 330 (by decide +kernel) (by decide +kernel)
theorem kV_X3_372 : KV RX3 372 RX3 yX3_shows cX3_shows 5 (some .int) 2 := KV.of wMl_X3_372 wIm_X3_shows wSe_X3_shows wIn_X3 wCo_X3_shows (by decide +kernel)
theorem wMl_X3_375 : .methodLink RX3 375 yX3_ofHand ∈ WG := wg_t 337 (by decide +kernel) (by decide +kernel)
theorem wCo_X3_ofHand : .code yX3_ofHand cX3_ofHand 4 (some .int) ∈ WG := wg_t 340 (by decide +kernel) (by decide +kernel)
theorem wIm_X3_ofHand : .instanceMethod yX3_ofHand ∈ WG := wg_t 338 (by decide +kernel) (by decide +kernel)
theorem wSe_X3_ofHand : .selects RX3 yX3_ofHand yX3_ofHand ∈ WG := wg_t 339 (by decide +kernel) (by decide +kernel)
theorem kV_X3_375 : KV RX3 375 RX3 yX3_ofHand cX3_ofHand 4 (some .int) 2 := KV.of wMl_X3_375 wIm_X3_ofHand wSe_X3_ofHand wIn_X3 wCo_X3_ofHand (by decide +kernel)
theorem wMl_X3_378 : .methodLink RX3 378 yX3_wrongs ∈ WG := wg_t 363 (by decide +kernel) (by decide +kernel)
theorem wCo_X3_wrongs : .code yX3_wrongs cX3_wrongs 5 (some .int) ∈ WG := wg_t 366 (by decide +kernel) (by decide +kernel)
theorem wIm_X3_wrongs : .instanceMethod yX3_wrongs ∈ WG := wg_t 364 (by decide +kernel) (by decide +kernel)
theorem wSe_X3_wrongs : .selects RX3 yX3_wrongs yX3_wrongs ∈ WG := wg_t 365 (by decide +kernel) (by decide +kernel)
theorem kV_X3_378 : KV RX3 378 RX3 yX3_wrongs cX3_wrongs 5 (some .int) 2 := KV.of wMl_X3_378 wIm_X3_wrongs wSe_X3_wrongs wIn_X3 wCo_X3_wrongs (by decide +kernel)
theorem wMl_X3_381 : .methodLink RX3 381 yX3_wouldFame ∈ WG := wg_t 367 (by decide +kernel) (by decide +kernel)
theorem wCo_X3_wouldFame : .code yX3_wouldFame cX3_wouldFame 7 (some .int) ∈ WG := wg_t 370 (by decide +kernel) (by decide +kernel)
theorem wIm_X3_wouldFame : .instanceMethod yX3_wouldFame ∈ WG := wg_t 368 (by decide +kernel) (by decide +kernel)
theorem wSe_X3_wouldFame : .selects RX3 yX3_wouldFame yX3_wouldFame ∈ WG := wg_t 369 (by decide +kernel) (by decide +kernel)
theorem kV_X3_381 : KV RX3 381 RX3 yX3_wouldFame cX3_wouldFame 7 (some .int) 2 := KV.of wMl_X3_381 wIm_X3_wouldFame wSe_X3_wouldFame wIn_X3 wCo_X3_wouldFame (by decide +kernel)
theorem wMl_X3_392 : .methodLink RX3 392 yX3_wrongedAt ∈ WG := wg_t 409 (by decide +kernel) (by decide +kernel)
theorem wCo_X3_wrongedAt : .code yX3_wrongedAt cX3_wrongedAt 7 (some (.object "Wallcode$Hand")) ∈ WG := wg_t 412 (by decide +kernel) (by decide +kernel)
theorem wIm_X3_wrongedAt : .instanceMethod yX3_wrongedAt ∈ WG := wg_t 411 (by decide +kernel) (by decide +kernel)
theorem wSe_X3_wrongedAt : .selects RX3 yX3_wrongedAt yX3_wrongedAt ∈ WG := wg_s 25 (by decide +kernel) (by decide +kernel)
theorem kV_X3_392 : KV RX3 392 RX3 yX3_wrongedAt cX3_wrongedAt 7 (some (.object "Wallcode$Hand")) 5 := KV.of wMl_X3_392 wIm_X3_wrongedAt wSe_X3_wrongedAt wIn_X3 wCo_X3_wrongedAt (by decide +kernel)
theorem wMl_X3_396 : .methodLink RX3 396 yX2_showsWithin ∈ WG := wg_t 413 (by decide +kernel) (by decide +kernel)
theorem wCo_X2_showsWithin : .code yX2_showsWithin cX2_showsWithin 5 (some .boolean) ∈ WG := wg_t 416 (by decide +kernel) (by decide +kernel)
theorem wIm_X2_showsWithin : .instanceMethod yX2_showsWithin ∈ WG := wg_t 414 (by decide +kernel) (by decide +kernel)
theorem wSe_X2_showsWithin : .selects RX2 yX2_showsWithin yX2_showsWithin ∈ WG := wg_t 415 (by decide +kernel) (by decide +kernel)
theorem kV_X3_396 : KV RX3 396 RX2 yX2_showsWithin cX2_showsWithin 5 (some .boolean) 3 := KV.of wMl_X3_396 wIm_X2_showsWithin wSe_X2_showsWithin wIn_X2 wCo_X2_showsWithin (by decide +kernel)
theorem wMl_X3_400 : .methodLink RX3 400 yX3_isWronged ∈ WG := wg_t 417 (by decide +kernel) (by decide +kernel)
theorem wCo_X3_isWronged : .code yX3_isWronged cX3_isWronged 5 (some .boolean) ∈ WG := wg_t 420 (by decide +kernel) (by decide +kernel)
theorem wIm_X3_isWronged : .instanceMethod yX3_isWronged ∈ WG := wg_t 419 (by decide +kernel) (by decide +kernel)
theorem wSe_X3_isWronged : .selects RX3 yX3_isWronged yX3_isWronged ∈ WG := wg_s 26 (by decide +kernel) (by decide +kernel)
theorem kV_X3_400 : KV RX3 400 RX3 yX3_isWronged cX3_isWronged 5 (some .boolean) 4 := KV.of wMl_X3_400 wIm_X3_isWronged wSe_X3_isWronged wIn_X3 wCo_X3_isWronged (by decide +kernel)
theorem wMl_X3_407 : .methodLink RX3 407 yX2_fameAt ∈ WG := wg_t 425 (by decide +kernel) (by decide +kernel)
theorem wCo_X2_fameAt : .code yX2_fameAt cX2_fameAt 4 (some .int) ∈ WG := wg_t 120 (by decide +kernel) (by decide +kernel)
theorem wIm_X2_fameAt : .instanceMethod yX2_fameAt ∈ WG := wg_t 118 (by decide +kernel) (by decide +kernel)
theorem wSe_X2_fameAt : .selects RX2 yX2_fameAt yX2_fameAt ∈ WG := wg_t 119 (by decide +kernel) (by decide +kernel)
theorem kV_X3_407 : KV RX3 407 RX2 yX2_fameAt cX2_fameAt 4 (some .int) 2 := KV.of wMl_X3_407 wIm_X2_fameAt wSe_X2_fameAt wIn_X2 wCo_X2_fameAt (by decide +kernel)
theorem wMl_X3_417 : .methodLink RX3 417 yX2_isCleanedIn ∈ WG := wg_t 376 (by decide +kernel) (by decide +kernel)
theorem wCo_X2_isCleanedIn : .code yX2_isCleanedIn cX2_isCleanedIn 2 (some .boolean) ∈ WG := wg_t 379 (by decide +kernel) (by decide +kernel)
theorem wIm_X2_isCleanedIn : .instanceMethod yX2_isCleanedIn ∈ WG := wg_t 377 (by decide +kernel) (by decide +kernel)
theorem wSe_X2_isCleanedIn : .selects RX2 yX2_isCleanedIn yX2_isCleanedIn ∈ WG := wg_t 378 (by decide +kernel) (by decide +kernel)
theorem kV_X3_417 : KV RX3 417 RX2 yX2_isCleanedIn cX2_isCleanedIn 2 (some .boolean) 1 := KV.of wMl_X3_417 wIm_X2_isCleanedIn wSe_X2_isCleanedIn wIn_X2 wCo_X2_isCleanedIn (by decide +kernel)
theorem wMl_X0_3 : .methodLink RX0 3 objectInit ∈ WG := wg_t 572 (by decide +kernel) (by decide +kernel)
theorem wMl_X1_3 : .methodLink RX1 3 objectInit ∈ WG := wg_t 663 (by decide +kernel) (by decide +kernel)
theorem wMl_X1_52 : .methodLink RX1 52 yX2_cellsShowing ∈ WG := wg_t 173 (by decide +kernel) (by decide +kernel)
theorem wCo_X2_cellsShowing : .code yX2_cellsShowing cX2_cellsShowing 4 (some .int) ∈ WG := wg_t 176 (by decide +kernel) (by decide +kernel)
theorem wIm_X2_cellsShowing : .instanceMethod yX2_cellsShowing ∈ WG := wg_t 174 (by decide +kernel) (by decide +kernel)
theorem wSe_X2_cellsShowing : .selects RX2 yX2_cellsShowing yX2_cellsShowing ∈ WG := wg_t 175 (by decide +kernel) (by decide +kernel)
theorem kV_X1_52 : KV RX1 52 RX2 yX2_cellsShowing cX2_cellsShowing 4 (some .int) 1 := KV.of wMl_X1_52 wIm_X2_cellsShowing wSe_X2_cellsShowing wIn_X2 wCo_X2_cellsShowing (by decide +kernel)
theorem wMl_X1_58 : .methodLink RX1 58 yX1_cellsSeen ∈ WG := wg_t 169 (by decide +kernel) (by decide +kernel)
theorem kV_X1_58 : KV RX1 58 RX1 yX1_cellsSeen cX1_cellsSeen 1 (some .int) 0 := KV.of wMl_X1_58 wIm_X1_cellsSeen wSe_X1_cellsSeen wIn_X1 wCo_X1_cellsSeen (by decide +kernel)
theorem wMl_X2_3 : .methodLink RX2 3 objectInit ∈ WG := wg_t 456 (by decide +kernel) (by decide +kernel)
theorem wMl_X2_45 : .methodLink RX2 45 yX2_fameAt ∈ WG := wg_t 117 (by decide +kernel) (by decide +kernel)
theorem kV_X2_45 : KV RX2 45 RX2 yX2_fameAt cX2_fameAt 4 (some .int) 2 := KV.of wMl_X2_45 wIm_X2_fameAt wSe_X2_fameAt wIn_X2 wCo_X2_fameAt (by decide +kernel)
theorem wMl_X2_53 : .methodLink RX2 53 yX1_weight ∈ WG := wg_t 121 (by decide +kernel) (by decide +kernel)
theorem kV_X2_53 : KV RX2 53 RX1 yX1_weight cX1_weight 1 (some .int) 0 := KV.of wMl_X2_53 wIm_X1_weight wSe_X1_weight wIn_X1 wCo_X1_weight (by decide +kernel)
theorem wMl_L_7 : .methodLink RL 7 yX3_wall ∈ WG := wg_t 431 (by decide +kernel) (by decide +kernel)
theorem wCo_X3_wall : .code yX3_wall cX3_wall 7 (some .int) ∈ WG := wg_t 434 (by decide +kernel) (by decide +kernel)
theorem wIm_X3_wall : .instanceMethod yX3_wall ∈ WG := wg_t 432 (by decide +kernel) (by decide +kernel)
theorem wSe_X3_wall : .selects RX3 yX3_wall yX3_wall ∈ WG := wg_t 433 (by decide +kernel) (by decide +kernel)
theorem kV_L_7 : KV RL 7 RX3 yX3_wall cX3_wall 7 (some .int) 4 := KV.of wMl_L_7 wIm_X3_wall wSe_X3_wall wIn_X3 wCo_X3_wall (by decide +kernel)
theorem wMl_L_17 : .methodLink RL 17 yX3_hand ∈ WG := wg_t 562 (by decide +kernel) (by decide +kernel)
theorem wCo_X3_hand : .code yX3_hand cX3_hand 6 (some .int) ∈ WG := wg_t 565 (by decide +kernel) (by decide +kernel)
theorem wIm_X3_hand : .instanceMethod yX3_hand ∈ WG := wg_t 563 (by decide +kernel) (by decide +kernel)
theorem wSe_X3_hand : .selects RX3 yX3_hand yX3_hand ∈ WG := wg_t 564 (by decide +kernel) (by decide +kernel)
theorem kV_L_17 : KV RL 17 RX3 yX3_hand cX3_hand 6 (some .int) 4 := KV.of wMl_L_17 wIm_X3_hand wSe_X3_hand wIn_X3 wCo_X3_hand (by decide +kernel)
theorem wMl_L_20 : .methodLink RL 20 yX3_permit ∈ WG := wg_t 624 (by decide +kernel) (by decide +kernel)
theorem wCo_X3_permit : .code yX3_permit cX3_permit 6 (some .int) ∈ WG := wg_t 627 (by decide +kernel) (by decide +kernel)
theorem wIm_X3_permit : .instanceMethod yX3_permit ∈ WG := wg_t 625 (by decide +kernel) (by decide +kernel)
theorem wSe_X3_permit : .selects RX3 yX3_permit yX3_permit ∈ WG := wg_t 626 (by decide +kernel) (by decide +kernel)
theorem kV_L_20 : KV RL 20 RX3 yX3_permit cX3_permit 6 (some .int) 3 := KV.of wMl_L_20 wIm_X3_permit wSe_X3_permit wIn_X3 wCo_X3_permit (by decide +kernel)
theorem wMl_L_26 : .methodLink RL 26 yX3_watch ∈ WG := wg_t 632 (by decide +kernel) (by decide +kernel)
theorem wCo_X3_watch : .code yX3_watch cX3_watch 5 (some .int) ∈ WG := wg_t 635 (by decide +kernel) (by decide +kernel)
theorem wIm_X3_watch : .instanceMethod yX3_watch ∈ WG := wg_t 633 (by decide +kernel) (by decide +kernel)
theorem wSe_X3_watch : .selects RX3 yX3_watch yX3_watch ∈ WG := wg_t 634 (by decide +kernel) (by decide +kernel)
theorem kV_L_26 : KV RL 26 RX3 yX3_watch cX3_watch 5 (some .int) 3 := KV.of wMl_L_26 wIm_X3_watch wSe_X3_watch wIn_X3 wCo_X3_watch (by decide +kernel)
theorem wMl_L_29 : .methodLink RL 29 yX3_paint ∈ WG := wg_t 640 (by decide +kernel) (by decide +kernel)
theorem wCo_X3_paint : .code yX3_paint cX3_paint 12 (some .int) ∈ WG := wg_t 643 (by decide +kernel) (by decide +kernel)
theorem wIm_X3_paint : .instanceMethod yX3_paint ∈ WG := wg_t 641 (by decide +kernel) (by decide +kernel)
theorem wSe_X3_paint : .selects RX3 yX3_paint yX3_paint ∈ WG := wg_t 642 (by decide +kernel) (by decide +kernel)
theorem kV_L_29 : KV RL 29 RX3 yX3_paint cX3_paint 12 (some .int) 6 := KV.of wMl_L_29 wIm_X3_paint wSe_X3_paint wIn_X3 wCo_X3_paint (by decide +kernel)
theorem wMl_L_33 : .methodLink RL 33 yX3_buff ∈ WG := wg_t 726 (by decide +kernel) (by decide +kernel)
theorem wCo_X3_buff : .code yX3_buff cX3_buff 5 (some .int) ∈ WG := wg_t 729 (by decide +kernel) (by decide +kernel)
theorem wIm_X3_buff : .instanceMethod yX3_buff ∈ WG := wg_t 727 (by decide +kernel) (by decide +kernel)
theorem wSe_X3_buff : .selects RX3 yX3_buff yX3_buff ∈ WG := wg_t 728 (by decide +kernel) (by decide +kernel)
theorem kV_L_33 : KV RL 33 RX3 yX3_buff cX3_buff 5 (some .int) 1 := KV.of wMl_L_33 wIm_X3_buff wSe_X3_buff wIn_X3 wCo_X3_buff (by decide +kernel)
theorem wMl_L_37 : .methodLink RL 37 yX3_clear ∈ WG := wg_t 734 (by decide +kernel) (by decide +kernel)
theorem wCo_X3_clear : .code yX3_clear cX3_clear 7 (some .int) ∈ WG := wg_t 737 (by decide +kernel) (by decide +kernel)
theorem wIm_X3_clear : .instanceMethod yX3_clear ∈ WG := wg_t 735 (by decide +kernel) (by decide +kernel)
theorem wSe_X3_clear : .selects RX3 yX3_clear yX3_clear ∈ WG := wg_t 736 (by decide +kernel) (by decide +kernel)
theorem kV_L_37 : KV RL 37 RX3 yX3_clear cX3_clear 7 (some .int) 1 := KV.of wMl_L_37 wIm_X3_clear wSe_X3_clear wIn_X3 wCo_X3_clear (by decide +kernel)
theorem wMl_L_40 : .methodLink RL 40 yX3_sell ∈ WG := wg_t 749 (by decide +kernel) (by decide +kernel)
theorem wCo_X3_sell : .code yX3_sell cX3_sell 4 (some .int) ∈ WG := wg_t 752 (by decide +kernel) (by decide +kernel)
theorem wIm_X3_sell : .instanceMethod yX3_sell ∈ WG := wg_t 750 (by decide +kernel) (by decide +kernel)
theorem wSe_X3_sell : .selects RX3 yX3_sell yX3_sell ∈ WG := wg_t 751 (by decide +kernel) (by decide +kernel)
theorem kV_L_40 : KV RL 40 RX3 yX3_sell cX3_sell 4 (some .int) 1 := KV.of wMl_L_40 wIm_X3_sell wSe_X3_sell wIn_X3 wCo_X3_sell (by decide +kernel)
theorem wMl_L_43 : .methodLink RL 43 yX3_waive ∈ WG := wg_t 761 (by decide +kernel) (by decide +kernel)
theorem wCo_X3_waive : .code yX3_waive cX3_waive 4 (some .boolean) ∈ WG := wg_t 764 (by decide +kernel) (by decide +kernel)
theorem wIm_X3_waive : .instanceMethod yX3_waive ∈ WG := wg_t 762 (by decide +kernel) (by decide +kernel)
theorem wSe_X3_waive : .selects RX3 yX3_waive yX3_waive ∈ WG := wg_t 763 (by decide +kernel) (by decide +kernel)
theorem kV_L_43 : KV RL 43 RX3 yX3_waive cX3_waive 4 (some .boolean) 1 := KV.of wMl_L_43 wIm_X3_waive wSe_X3_waive wIn_X3 wCo_X3_waive (by decide +kernel)
theorem wMl_L_47 : .methodLink RL 47 yX3_remember ∈ WG := wg_t 768 (by decide +kernel) (by decide +kernel)
theorem wCo_X3_remember : .code yX3_remember cX3_remember 4 (some .boolean) ∈ WG := wg_t 771 (by decide +kernel) (by decide +kernel)
theorem wIm_X3_remember : .instanceMethod yX3_remember ∈ WG := wg_t 769 (by decide +kernel) (by decide +kernel)
theorem wSe_X3_remember : .selects RX3 yX3_remember yX3_remember ∈ WG := wg_t 770 (by decide +kernel) (by decide +kernel)
theorem kV_L_47 : KV RL 47 RX3 yX3_remember cX3_remember 4 (some .boolean) 1 := KV.of wMl_L_47 wIm_X3_remember wSe_X3_remember wIn_X3 wCo_X3_remember (by decide +kernel)
theorem wMl_L_50 : .methodLink RL 50 yX3_pay ∈ WG := wg_t 775 (by decide +kernel) (by decide +kernel)
theorem wCo_X3_pay : .code yX3_pay cX3_pay 4 (some .int) ∈ WG := wg_t 778 (by decide +kernel) (by decide +kernel)
theorem wIm_X3_pay : .instanceMethod yX3_pay ∈ WG := wg_t 776 (by decide +kernel) (by decide +kernel)
theorem wSe_X3_pay : .selects RX3 yX3_pay yX3_pay ∈ WG := wg_t 777 (by decide +kernel) (by decide +kernel)
theorem kV_L_50 : KV RL 50 RX3 yX3_pay cX3_pay 4 (some .int) 1 := KV.of wMl_L_50 wIm_X3_pay wSe_X3_pay wIn_X3 wCo_X3_pay (by decide +kernel)
theorem wMl_L_53 : .methodLink RL 53 yX3_pass ∈ WG := wg_t 782 (by decide +kernel) (by decide +kernel)
theorem wCo_X3_pass : .code yX3_pass cX3_pass 4 (some .int) ∈ WG := wg_t 785 (by decide +kernel) (by decide +kernel)
theorem wIm_X3_pass : .instanceMethod yX3_pass ∈ WG := wg_t 783 (by decide +kernel) (by decide +kernel)
theorem wSe_X3_pass : .selects RX3 yX3_pass yX3_pass ∈ WG := wg_t 784 (by decide +kernel) (by decide +kernel)
theorem kV_L_53 : KV RL 53 RX3 yX3_pass cX3_pass 4 (some .int) 1 := KV.of wMl_L_53 wIm_X3_pass wSe_X3_pass wIn_X3 wCo_X3_pass (by decide +kernel)
theorem wMl_L_56 : .methodLink RL 56 yX3_ofWall ∈ WG := wg_t 795 (by decide +kernel) (by decide +kernel)
theorem kV_L_56 : KV RL 56 RX3 yX3_ofWall cX3_ofWall 4 (some .int) 2 := KV.of wMl_L_56 wIm_X3_ofWall wSe_X3_ofWall wIn_X3 wCo_X3_ofWall (by decide +kernel)
theorem wMl_L_60 : .methodLink RL 60 yX3_shows ∈ WG := wg_t 799 (by decide +kernel) (by decide +kernel)
theorem kV_L_60 : KV RL 60 RX3 yX3_shows cX3_shows 5 (some .int) 2 := KV.of wMl_L_60 wIm_X3_shows wSe_X3_shows wIn_X3 wCo_X3_shows (by decide +kernel)
theorem wMl_L_63 : .methodLink RL 63 yX3_ofHand ∈ WG := wg_t 803 (by decide +kernel) (by decide +kernel)
theorem kV_L_63 : KV RL 63 RX3 yX3_ofHand cX3_ofHand 4 (some .int) 2 := KV.of wMl_L_63 wIm_X3_ofHand wSe_X3_ofHand wIn_X3 wCo_X3_ofHand (by decide +kernel)
theorem wMl_L_66 : .methodLink RL 66 yX3_ofLayer ∈ WG := wg_t 807 (by decide +kernel) (by decide +kernel)
theorem kV_L_66 : KV RL 66 RX3 yX3_ofLayer cX3_ofLayer 4 (some .int) 2 := KV.of wMl_L_66 wIm_X3_ofLayer wSe_X3_ofLayer wIn_X3 wCo_X3_ofLayer (by decide +kernel)
theorem wMl_L_69 : .methodLink RL 69 yX3_wrongs ∈ WG := wg_t 811 (by decide +kernel) (by decide +kernel)
theorem kV_L_69 : KV RL 69 RX3 yX3_wrongs cX3_wrongs 5 (some .int) 2 := KV.of wMl_L_69 wIm_X3_wrongs wSe_X3_wrongs wIn_X3 wCo_X3_wrongs (by decide +kernel)
theorem wMl_L_72 : .methodLink RL 72 yX3_likeness ∈ WG := wg_t 815 (by decide +kernel) (by decide +kernel)
theorem wCo_X3_likeness : .code yX3_likeness cX3_likeness 5 (some .int) ∈ WG := wg_t 818 (by decide +kernel) (by decide +kernel)
theorem wIm_X3_likeness : .instanceMethod yX3_likeness ∈ WG := wg_t 816 (by decide +kernel) (by decide +kernel)
theorem wSe_X3_likeness : .selects RX3 yX3_likeness yX3_likeness ∈ WG := wg_t 817 (by decide +kernel) (by decide +kernel)
theorem kV_L_72 : KV RL 72 RX3 yX3_likeness cX3_likeness 5 (some .int) 2 := KV.of wMl_L_72 wIm_X3_likeness wSe_X3_likeness wIn_X3 wCo_X3_likeness (by decide +kernel)
theorem wMl_L_75 : .methodLink RL 75 yX3_many ∈ WG := wg_t 822 (by decide +kernel) (by decide +kernel)
theorem kV_L_75 : KV RL 75 RX3 yX3_many cX3_many 2 (some .int) 1 := KV.of wMl_L_75 wIm_X3_many wSe_X3_many wIn_X3 wCo_X3_many (by decide +kernel)
theorem wMl_L_78 : .methodLink RL 78 yX3_bestFrom ∈ WG := wg_t 826 (by decide +kernel) (by decide +kernel)
theorem kV_L_78 : KV RL 78 RX3 yX3_bestFrom cX3_bestFrom 14 (some .int) 4 := KV.of wMl_L_78 wIm_X3_bestFrom wSe_X3_bestFrom wIn_X3 wCo_X3_bestFrom (by decide +kernel)
theorem wMl_L_81 : .methodLink RL 81 yX3_wouldWrong ∈ WG := wg_t 830 (by decide +kernel) (by decide +kernel)
theorem wCo_X3_wouldWrong : .code yX3_wouldWrong cX3_wouldWrong 8 (some .int) ∈ WG := wg_t 833 (by decide +kernel) (by decide +kernel)
theorem wIm_X3_wouldWrong : .instanceMethod yX3_wouldWrong ∈ WG := wg_t 831 (by decide +kernel) (by decide +kernel)
theorem wSe_X3_wouldWrong : .selects RX3 yX3_wouldWrong yX3_wouldWrong ∈ WG := wg_t 832 (by decide +kernel) (by decide +kernel)
theorem kV_L_81 : KV RL 81 RX3 yX3_wouldWrong cX3_wouldWrong 8 (some .int) 5 := KV.of wMl_L_81 wIm_X3_wouldWrong wSe_X3_wouldWrong wIn_X3 wCo_X3_wouldWrong (by decide +kernel)
theorem wMl_L_85 : .methodLink RL 85 yX3_wouldFame ∈ WG := wg_t 837 (by decide +kernel) (by decide +kernel)
theorem kV_L_85 : KV RL 85 RX3 yX3_wouldFame cX3_wouldFame 7 (some .int) 2 := KV.of wMl_L_85 wIm_X3_wouldFame wSe_X3_wouldFame wIn_X3 wCo_X3_wouldFame (by decide +kernel)
theorem wMl_L_88 : .methodLink RL 88 yX3_init ∈ WG := wg_t 27 (by decide +kernel) (by decide +kernel)
theorem wCo_X3_init : .code yX3_init cX3_init 1 none ∈ WG := wg_t 29 (by decide +kernel) (by decide +kernel)
theorem wIm_X3_init : .instanceMethod yX3_init ∈ WG := wg_t 28 (by decide +kernel) (by decide +kernel)
theorem kI_L_88 : KI RL 88 yX3_init cX3_init 1 0 := KI.of wMl_L_88 wIm_X3_init wIn_X3 wCo_X3_init rfl (by decide +kernel)
theorem wMl_L_91 : .methodLink RL 91 yX7_init ∈ WG := wg_t 840 (by decide +kernel) (by decide +kernel)
theorem wCo_X7_init : .code yX7_init cX7_init 1 none ∈ WG := wg_t 842 (by decide +kernel) (by decide +kernel)
theorem wIn_X7 : .initialized RX7 ∈ WG := wg_t 5 (by decide +kernel) (by decide +kernel)
theorem wIm_X7_init : .instanceMethod yX7_init ∈ WG := wg_t 841 (by decide +kernel) (by decide +kernel)
theorem kI_L_91 : KI RL 91 yX7_init cX7_init 1 0 := KI.of wMl_L_91 wIm_X7_init wIn_X7 wCo_X7_init rfl (by decide +kernel)
theorem wMl_L_92 : .methodLink RL 92 yL_wall ∈ WG := wg_t 426 (by decide +kernel) (by decide +kernel)
theorem wIn_L : .initialized RL ∈ WG := wg_t 0 (by decide +kernel) (by decide +kernel)
theorem wMl_L_97 : .methodLink RL 97 yX7_wall ∈ WG := wg_t 872 (by decide +kernel) (by decide +kernel)
theorem wCo_X7_wall : .code yX7_wall cX7_wall 6 (some .int) ∈ WG := wg_t 875 (by decide +kernel) (by decide +kernel)
theorem wIm_X7_wall : .instanceMethod yX7_wall ∈ WG := wg_t 873 (by decide +kernel) (by decide +kernel)
theorem wSe_X7_wall : .selects RX7 yX7_wall yX7_wall ∈ WG := wg_t 874 (by decide +kernel) (by decide +kernel)
theorem kV_L_97 : KV RL 97 RX7 yX7_wall cX7_wall 6 (some .int) 4 := KV.of wMl_L_97 wIm_X7_wall wSe_X7_wall wIn_X7 wCo_X7_wall (by decide +kernel)
theorem wMl_L_98 : .methodLink RL 98 yX7_thrown ∈ WG := wg_t 868 (by decide +kernel) (by decide +kernel)
theorem wCo_X7_thrown : .code yX7_thrown cX7_thrown 1 (some .int) ∈ WG := wg_t 871 (by decide +kernel) (by decide +kernel)
theorem wIm_X7_thrown : .instanceMethod yX7_thrown ∈ WG := wg_t 869 (by decide +kernel) (by decide +kernel)
theorem wSe_X7_thrown : .selects RX7 yX7_thrown yX7_thrown ∈ WG := wg_t 870 (by decide +kernel) (by decide +kernel)
theorem kV_L_98 : KV RL 98 RX7 yX7_thrown cX7_thrown 1 (some .int) 0 := KV.of wMl_L_98 wIm_X7_thrown wSe_X7_thrown wIn_X7 wCo_X7_thrown (by decide +kernel)
theorem wMl_L_102 : .methodLink RL 102 yL_hand ∈ WG := wg_t 559 (by decide +kernel) (by decide +kernel)
theorem wMl_L_104 : .methodLink RL 104 yX7_hand ∈ WG := wg_t 928 (by decide +kernel) (by decide +kernel)
theorem wCo_X7_hand : .code yX7_hand cX7_hand 6 (some .int) ∈ WG := wg_t 931 (by decide +kernel) (by decide +kernel)
theorem wIm_X7_hand : .instanceMethod yX7_hand ∈ WG := wg_t 929 (by decide +kernel) (by decide +kernel)
theorem wSe_X7_hand : .selects RX7 yX7_hand yX7_hand ∈ WG := wg_t 930 (by decide +kernel) (by decide +kernel)
theorem kV_L_104 : KV RL 104 RX7 yX7_hand cX7_hand 6 (some .int) 4 := KV.of wMl_L_104 wIm_X7_hand wSe_X7_hand wIn_X7 wCo_X7_hand (by decide +kernel)
theorem wMl_L_105 : .methodLink RL 105 yL_permit ∈ WG := wg_t 620 (by decide +kernel) (by decide +kernel)
theorem wMl_L_108 : .methodLink RL 108 yX7_permit ∈ WG := wg_t 973 (by decide +kernel) (by decide +kernel)
theorem wCo_X7_permit : .code yX7_permit cX7_permit 6 (some .int) ∈ WG := wg_t 976 (by decide +kernel) (by decide +kernel)
theorem wIm_X7_permit : .instanceMethod yX7_permit ∈ WG := wg_t 974 (by decide +kernel) (by decide +kernel)
theorem wSe_X7_permit : .selects RX7 yX7_permit yX7_permit ∈ WG := wg_t 975 (by decide +kernel) (by decide +kernel)
theorem kV_L_108 : KV RL 108 RX7 yX7_permit cX7_permit 6 (some .int) 3 := KV.of wMl_L_108 wIm_X7_permit wSe_X7_permit wIn_X7 wCo_X7_permit (by decide +kernel)
theorem wMl_L_109 : .methodLink RL 109 yL_watch ∈ WG := wg_t 629 (by decide +kernel) (by decide +kernel)
theorem wMl_L_111 : .methodLink RL 111 yX7_watch ∈ WG := wg_t 986 (by decide +kernel) (by decide +kernel)
theorem wCo_X7_watch : .code yX7_watch cX7_watch 4 (some .int) ∈ WG := wg_t 989 (by decide +kernel) (by decide +kernel)
theorem wIm_X7_watch : .instanceMethod yX7_watch ∈ WG := wg_t 987 (by decide +kernel) (by decide +kernel)
theorem wSe_X7_watch : .selects RX7 yX7_watch yX7_watch ∈ WG := wg_t 988 (by decide +kernel) (by decide +kernel)
theorem kV_L_111 : KV RL 111 RX7 yX7_watch cX7_watch 4 (some .int) 3 := KV.of wMl_L_111 wIm_X7_watch wSe_X7_watch wIn_X7 wCo_X7_watch (by decide +kernel)
theorem wMl_L_112 : .methodLink RL 112 yL_paint ∈ WG := wg_t 637 (by decide +kernel) (by decide +kernel)
theorem wMl_L_115 : .methodLink RL 115 yX7_paint ∈ WG := wg_t 990 (by decide +kernel) (by decide +kernel)
theorem wCo_X7_paint : .code yX7_paint cX7_paint 13 (some .int) ∈ WG := wg_t 993 (by decide +kernel) (by decide +kernel)
theorem wIm_X7_paint : .instanceMethod yX7_paint ∈ WG := wg_t 991 (by decide +kernel) (by decide +kernel)
theorem wSe_X7_paint : .selects RX7 yX7_paint yX7_paint ∈ WG := wg_t 992 (by decide +kernel) (by decide +kernel)
theorem kV_L_115 : KV RL 115 RX7 yX7_paint cX7_paint 13 (some .int) 6 := KV.of wMl_L_115 wIm_X7_paint wSe_X7_paint wIn_X7 wCo_X7_paint (by decide +kernel)
theorem wMl_L_116 : .methodLink RL 116 yL_buff ∈ WG := wg_t 723 (by decide +kernel) (by decide +kernel)
theorem wMl_L_119 : .methodLink RL 119 yX7_buff ∈ WG := wg_t 1076 (by decide +kernel) (by decide +kernel)
theorem wCo_X7_buff : .code yX7_buff cX7_buff 5 (some .int) ∈ WG := wg_t 1079 (by decide +kernel) (by decide +kernel)
theorem wIm_X7_buff : .instanceMethod yX7_buff ∈ WG := wg_t 1077 (by decide +kernel) (by decide +kernel)
theorem wSe_X7_buff : .selects RX7 yX7_buff yX7_buff ∈ WG := wg_t 1078 (by decide +kernel) (by decide +kernel)
theorem kV_L_119 : KV RL 119 RX7 yX7_buff cX7_buff 5 (some .int) 1 := KV.of wMl_L_119 wIm_X7_buff wSe_X7_buff wIn_X7 wCo_X7_buff (by decide +kernel)
theorem wMl_L_120 : .methodLink RL 120 yL_clear ∈ WG := wg_t 731 (by decide +kernel) (by decide +kernel)
theorem wMl_L_122 : .methodLink RL 122 yX7_clear ∈ WG := wg_t 1088 (by decide +kernel) (by decide +kernel)
theorem wCo_X7_clear : .code yX7_clear cX7_clear 8 (some .int) ∈ WG := wg_t 1091 (by decide +kernel) (by decide +kernel)
theorem wIm_X7_clear : .instanceMethod yX7_clear ∈ WG := wg_t 1089 (by decide +kernel) (by decide +kernel)
theorem wSe_X7_clear : .selects RX7 yX7_clear yX7_clear ∈ WG := wg_t 1090 (by decide +kernel) (by decide +kernel)
theorem kV_L_122 : KV RL 122 RX7 yX7_clear cX7_clear 8 (some .int) 1 := KV.of wMl_L_122 wIm_X7_clear wSe_X7_clear wIn_X7 wCo_X7_clear (by decide +kernel)
theorem wMl_L_123 : .methodLink RL 123 yL_sell ∈ WG := wg_t 746 (by decide +kernel) (by decide +kernel)
theorem wMl_L_125 : .methodLink RL 125 yX7_sell ∈ WG := wg_t 1102 (by decide +kernel) (by decide +kernel)
theorem wCo_X7_sell : .code yX7_sell cX7_sell 5 (some .int) ∈ WG := wg_t 1105 (by decide +kernel) (by decide +kernel)
theorem wIm_X7_sell : .instanceMethod yX7_sell ∈ WG := wg_t 1103 (by decide +kernel) (by decide +kernel)
theorem wSe_X7_sell : .selects RX7 yX7_sell yX7_sell ∈ WG := wg_t 1104 (by decide +kernel) (by decide +kernel)
theorem kV_L_125 : KV RL 125 RX7 yX7_sell cX7_sell 5 (some .int) 1 := KV.of wMl_L_125 wIm_X7_sell wSe_X7_sell wIn_X7 wCo_X7_sell (by decide +kernel)
theorem wMl_L_126 : .methodLink RL 126 yL_waive ∈ WG := wg_t 758 (by decide +kernel) (by decide +kernel)
theorem wMl_L_128 : .methodLink RL 128 yX7_waive ∈ WG := wg_t 1169 (by decide +kernel) (by decide +kernel)
theorem wCo_X7_waive : .code yX7_waive cX7_waive 3 (some .boolean) ∈ WG := wg_t 1172 (by decide +kernel) (by decide +kernel)
theorem wIm_X7_waive : .instanceMethod yX7_waive ∈ WG := wg_t 1170 (by decide +kernel) (by decide +kernel)
theorem wSe_X7_waive : .selects RX7 yX7_waive yX7_waive ∈ WG := wg_t 1171 (by decide +kernel) (by decide +kernel)
theorem kV_L_128 : KV RL 128 RX7 yX7_waive cX7_waive 3 (some .boolean) 1 := KV.of wMl_L_128 wIm_X7_waive wSe_X7_waive wIn_X7 wCo_X7_waive (by decide +kernel)
theorem wMl_L_129 : .methodLink RL 129 yL_remember ∈ WG := wg_t 765 (by decide +kernel) (by decide +kernel)
theorem wMl_L_131 : .methodLink RL 131 yX7_remember ∈ WG := wg_t 1173 (by decide +kernel) (by decide +kernel)
theorem wCo_X7_remember : .code yX7_remember cX7_remember 3 (some .boolean) ∈ WG := wg_t 1176 (by decide +kernel) (by decide +kernel)
theorem wIm_X7_remember : .instanceMethod yX7_remember ∈ WG := wg_t 1174 (by decide +kernel) (by decide +kernel)
theorem wSe_X7_remember : .selects RX7 yX7_remember yX7_remember ∈ WG := wg_t 1175 (by decide +kernel) (by decide +kernel)
theorem kV_L_131 : KV RL 131 RX7 yX7_remember cX7_remember 3 (some .boolean) 1 := KV.of wMl_L_131 wIm_X7_remember wSe_X7_remember wIn_X7 wCo_X7_remember (by decide +kernel)
theorem wMl_L_132 : .methodLink RL 132 yL_pay ∈ WG := wg_t 772 (by decide +kernel) (by decide +kernel)
theorem wMl_L_134 : .methodLink RL 134 yX7_pay ∈ WG := wg_t 1177 (by decide +kernel) (by decide +kernel)
theorem wCo_X7_pay : .code yX7_pay cX7_pay 3 (some .int) ∈ WG := wg_t 1180 (by decide +kernel) (by decide +kernel)
theorem wIm_X7_pay : .instanceMethod yX7_pay ∈ WG := wg_t 1178 (by decide +kernel) (by decide +kernel)
theorem wSe_X7_pay : .selects RX7 yX7_pay yX7_pay ∈ WG := wg_t 1179 (by decide +kernel) (by decide +kernel)
theorem kV_L_134 : KV RL 134 RX7 yX7_pay cX7_pay 3 (some .int) 1 := KV.of wMl_L_134 wIm_X7_pay wSe_X7_pay wIn_X7 wCo_X7_pay (by decide +kernel)
theorem wMl_L_135 : .methodLink RL 135 yL_pass ∈ WG := wg_t 779 (by decide +kernel) (by decide +kernel)
theorem wMl_L_137 : .methodLink RL 137 yX7_pass ∈ WG := wg_t 1181 (by decide +kernel) (by decide +kernel)
theorem wCo_X7_pass : .code yX7_pass cX7_pass 6 (some .int) ∈ WG := wg_t 1184 (by decide +kernel) (by decide +kernel)
theorem wIm_X7_pass : .instanceMethod yX7_pass ∈ WG := wg_t 1182 (by decide +kernel) (by decide +kernel)
theorem wSe_X7_pass : .selects RX7 yX7_pass yX7_pass ∈ WG := wg_t 1183 (by decide +kernel) (by decide +kernel)
theorem kV_L_137 : KV RL 137 RX7 yX7_pass cX7_pass 6 (some .int) 1 := KV.of wMl_L_137 wIm_X7_pass wSe_X7_pass wIn_X7 wCo_X7_pass (by decide +kernel)
theorem wMl_L_138 : .methodLink RL 138 yL_ofWall ∈ WG := wg_t 792 (by decide +kernel) (by decide +kernel)
theorem wMl_L_141 : .methodLink RL 141 yX7_ofWall ∈ WG := wg_t 1185 (by decide +kernel) (by decide +kernel)
theorem wCo_X7_ofWall : .code yX7_ofWall cX7_ofWall 3 (some .int) ∈ WG := wg_t 1188 (by decide +kernel) (by decide +kernel)
theorem wIm_X7_ofWall : .instanceMethod yX7_ofWall ∈ WG := wg_t 1186 (by decide +kernel) (by decide +kernel)
theorem wSe_X7_ofWall : .selects RX7 yX7_ofWall yX7_ofWall ∈ WG := wg_t 1187 (by decide +kernel) (by decide +kernel)
theorem kV_L_141 : KV RL 141 RX7 yX7_ofWall cX7_ofWall 3 (some .int) 2 := KV.of wMl_L_141 wIm_X7_ofWall wSe_X7_ofWall wIn_X7 wCo_X7_ofWall (by decide +kernel)
theorem wMl_L_142 : .methodLink RL 142 yL_shows ∈ WG := wg_t 796 (by decide +kernel) (by decide +kernel)
theorem wMl_L_144 : .methodLink RL 144 yX7_shows ∈ WG := wg_t 1197 (by decide +kernel) (by decide +kernel)
theorem wCo_X7_shows : .code yX7_shows cX7_shows 3 (some .int) ∈ WG := wg_t 1200 (by decide +kernel) (by decide +kernel)
theorem wIm_X7_shows : .instanceMethod yX7_shows ∈ WG := wg_t 1198 (by decide +kernel) (by decide +kernel)
theorem wSe_X7_shows : .selects RX7 yX7_shows yX7_shows ∈ WG := wg_t 1199 (by decide +kernel) (by decide +kernel)
theorem kV_L_144 : KV RL 144 RX7 yX7_shows cX7_shows 3 (some .int) 2 := KV.of wMl_L_144 wIm_X7_shows wSe_X7_shows wIn_X7 wCo_X7_shows (by decide +kernel)
theorem wMl_L_145 : .methodLink RL 145 yL_ofHand ∈ WG := wg_t 800 (by decide +kernel) (by decide +kernel)
theorem wMl_L_147 : .methodLink RL 147 yX7_ofHand ∈ WG := wg_t 1201 (by decide +kernel) (by decide +kernel)
theorem wCo_X7_ofHand : .code yX7_ofHand cX7_ofHand 3 (some .int) ∈ WG := wg_t 1204 (by decide +kernel) (by decide +kernel)
theorem wIm_X7_ofHand : .instanceMethod yX7_ofHand ∈ WG := wg_t 1202 (by decide +kernel) (by decide +kernel)
theorem wSe_X7_ofHand : .selects RX7 yX7_ofHand yX7_ofHand ∈ WG := wg_t 1203 (by decide +kernel) (by decide +kernel)
theorem kV_L_147 : KV RL 147 RX7 yX7_ofHand cX7_ofHand 3 (some .int) 2 := KV.of wMl_L_147 wIm_X7_ofHand wSe_X7_ofHand wIn_X7 wCo_X7_ofHand (by decide +kernel)
theorem wMl_L_148 : .methodLink RL 148 yL_ofLayer ∈ WG := wg_t 804 (by decide +kernel) (by decide +kernel)
theorem wMl_L_150 : .methodLink RL 150 yX7_ofLayer ∈ WG := wg_t 1217 (by decide +kernel) (by decide +kernel)
theorem wCo_X7_ofLayer : .code yX7_ofLayer cX7_ofLayer 3 (some .int) ∈ WG := wg_t 1220 (by decide +kernel) (by decide +kernel)
theorem wIm_X7_ofLayer : .instanceMethod yX7_ofLayer ∈ WG := wg_t 1218 (by decide +kernel) (by decide +kernel)
theorem wSe_X7_ofLayer : .selects RX7 yX7_ofLayer yX7_ofLayer ∈ WG := wg_t 1219 (by decide +kernel) (by decide +kernel)
theorem kV_L_150 : KV RL 150 RX7 yX7_ofLayer cX7_ofLayer 3 (some .int) 2 := KV.of wMl_L_150 wIm_X7_ofLayer wSe_X7_ofLayer wIn_X7 wCo_X7_ofLayer (by decide +kernel)
theorem wMl_L_151 : .methodLink RL 151 yL_wrongs ∈ WG := wg_t 808 (by decide +kernel) (by decide +kernel)
theorem wMl_L_153 : .methodLink RL 153 yX7_wrongs ∈ WG := wg_t 1230 (by decide +kernel) (by decide +kernel)
theorem wCo_X7_wrongs : .code yX7_wrongs cX7_wrongs 3 (some .int) ∈ WG := wg_t 1233 (by decide +kernel) (by decide +kernel)
theorem wIm_X7_wrongs : .instanceMethod yX7_wrongs ∈ WG := wg_t 1231 (by decide +kernel) (by decide +kernel)
theorem wSe_X7_wrongs : .selects RX7 yX7_wrongs yX7_wrongs ∈ WG := wg_t 1232 (by decide +kernel) (by decide +kernel)
theorem kV_L_153 : KV RL 153 RX7 yX7_wrongs cX7_wrongs 3 (some .int) 2 := KV.of wMl_L_153 wIm_X7_wrongs wSe_X7_wrongs wIn_X7 wCo_X7_wrongs (by decide +kernel)
theorem wMl_L_154 : .methodLink RL 154 yL_likeness ∈ WG := wg_t 812 (by decide +kernel) (by decide +kernel)
theorem wMl_L_156 : .methodLink RL 156 yX7_likeness ∈ WG := wg_t 1234 (by decide +kernel) (by decide +kernel)
theorem wCo_X7_likeness : .code yX7_likeness cX7_likeness 3 (some .int) ∈ WG := wg_t 1237 (by decide +kernel) (by decide +kernel)
theorem wIm_X7_likeness : .instanceMethod yX7_likeness ∈ WG := wg_t 1235 (by decide +kernel) (by decide +kernel)
theorem wSe_X7_likeness : .selects RX7 yX7_likeness yX7_likeness ∈ WG := wg_t 1236 (by decide +kernel) (by decide +kernel)
theorem kV_L_156 : KV RL 156 RX7 yX7_likeness cX7_likeness 3 (some .int) 2 := KV.of wMl_L_156 wIm_X7_likeness wSe_X7_likeness wIn_X7 wCo_X7_likeness (by decide +kernel)
theorem wMl_L_157 : .methodLink RL 157 yL_many ∈ WG := wg_t 819 (by decide +kernel) (by decide +kernel)
theorem wMl_L_159 : .methodLink RL 159 yX7_many ∈ WG := wg_t 1238 (by decide +kernel) (by decide +kernel)
theorem wCo_X7_many : .code yX7_many cX7_many 2 (some .int) ∈ WG := wg_t 1241 (by decide +kernel) (by decide +kernel)
theorem wIm_X7_many : .instanceMethod yX7_many ∈ WG := wg_t 1239 (by decide +kernel) (by decide +kernel)
theorem wSe_X7_many : .selects RX7 yX7_many yX7_many ∈ WG := wg_t 1240 (by decide +kernel) (by decide +kernel)
theorem kV_L_159 : KV RL 159 RX7 yX7_many cX7_many 2 (some .int) 1 := KV.of wMl_L_159 wIm_X7_many wSe_X7_many wIn_X7 wCo_X7_many (by decide +kernel)
theorem wMl_L_160 : .methodLink RL 160 yX3_meanFame ∈ WG := wg_t 81 (by decide +kernel) (by decide +kernel)
theorem wCo_X3_meanFame : .code yX3_meanFame cX3_meanFame 3 (some .double) ∈ WG := wg_t 84 (by decide +kernel) (by decide +kernel)
theorem wIm_X3_meanFame : .instanceMethod yX3_meanFame ∈ WG := wg_t 82 (by decide +kernel) (by decide +kernel)
theorem wSe_X3_meanFame : .selects RX3 yX3_meanFame yX3_meanFame ∈ WG := wg_t 83 (by decide +kernel) (by decide +kernel)
theorem kV_L_160 : KV RL 160 RX3 yX3_meanFame cX3_meanFame 3 (some .double) 0 := KV.of wMl_L_160 wIm_X3_meanFame wSe_X3_meanFame wIn_X3 wCo_X3_meanFame (by decide +kernel)
theorem wMl_L_164 : .methodLink RL 164 yX7_meanFame ∈ WG := wg_t 1254 (by decide +kernel) (by decide +kernel)
theorem wCo_X7_meanFame : .code yX7_meanFame cX7_meanFame 1 (some .double) ∈ WG := wg_t 1257 (by decide +kernel) (by decide +kernel)
theorem wIm_X7_meanFame : .instanceMethod yX7_meanFame ∈ WG := wg_t 1255 (by decide +kernel) (by decide +kernel)
theorem wSe_X7_meanFame : .selects RX7 yX7_meanFame yX7_meanFame ∈ WG := wg_t 1256 (by decide +kernel) (by decide +kernel)
theorem kV_L_164 : KV RL 164 RX7 yX7_meanFame cX7_meanFame 1 (some .double) 0 := KV.of wMl_L_164 wIm_X7_meanFame wSe_X7_meanFame wIn_X7 wCo_X7_meanFame (by decide +kernel)
theorem wMl_L_165 : .methodLink RL 165 yL_bestFrom ∈ WG := wg_t 823 (by decide +kernel) (by decide +kernel)
theorem wMl_L_167 : .methodLink RL 167 yX7_bestFrom ∈ WG := wg_t 1259 (by decide +kernel) (by decide +kernel)
theorem wCo_X7_bestFrom : .code yX7_bestFrom cX7_bestFrom 5 (some .int) ∈ WG := wg_t 1262 (by decide +kernel) (by decide +kernel)
theorem wIm_X7_bestFrom : .instanceMethod yX7_bestFrom ∈ WG := wg_t 1260 (by decide +kernel) (by decide +kernel)
theorem wSe_X7_bestFrom : .selects RX7 yX7_bestFrom yX7_bestFrom ∈ WG := wg_t 1261 (by decide +kernel) (by decide +kernel)
theorem kV_L_167 : KV RL 167 RX7 yX7_bestFrom cX7_bestFrom 5 (some .int) 4 := KV.of wMl_L_167 wIm_X7_bestFrom wSe_X7_bestFrom wIn_X7 wCo_X7_bestFrom (by decide +kernel)
theorem wMl_L_168 : .methodLink RL 168 yL_wouldWrong ∈ WG := wg_t 827 (by decide +kernel) (by decide +kernel)
theorem wMl_L_171 : .methodLink RL 171 yX7_wouldWrong ∈ WG := wg_t 1271 (by decide +kernel) (by decide +kernel)
theorem wCo_X7_wouldWrong : .code yX7_wouldWrong cX7_wouldWrong 6 (some .int) ∈ WG := wg_t 1274 (by decide +kernel) (by decide +kernel)
theorem wIm_X7_wouldWrong : .instanceMethod yX7_wouldWrong ∈ WG := wg_t 1272 (by decide +kernel) (by decide +kernel)
theorem wSe_X7_wouldWrong : .selects RX7 yX7_wouldWrong yX7_wouldWrong ∈ WG := wg_t 1273 (by decide +kernel) (by decide +kernel)
theorem kV_L_171 : KV RL 171 RX7 yX7_wouldWrong cX7_wouldWrong 6 (some .int) 5 := KV.of wMl_L_171 wIm_X7_wouldWrong wSe_X7_wouldWrong wIn_X7 wCo_X7_wouldWrong (by decide +kernel)
theorem wMl_L_172 : .methodLink RL 172 yX3_nextBuff ∈ WG := wg_t 127 (by decide +kernel) (by decide +kernel)
theorem kV_L_172 : KV RL 172 RX3 yX3_nextBuff cX3_nextBuff 6 (some .int) 0 := KV.of wMl_L_172 wIm_X3_nextBuff wSe_X3_nextBuff wIn_X3 wCo_X3_nextBuff (by decide +kernel)
theorem wMl_L_175 : .methodLink RL 175 yX7_nextBuff ∈ WG := wg_t 1275 (by decide +kernel) (by decide +kernel)
theorem wCo_X7_nextBuff : .code yX7_nextBuff cX7_nextBuff 1 (some .int) ∈ WG := wg_t 1278 (by decide +kernel) (by decide +kernel)
theorem wIm_X7_nextBuff : .instanceMethod yX7_nextBuff ∈ WG := wg_t 1276 (by decide +kernel) (by decide +kernel)
theorem wSe_X7_nextBuff : .selects RX7 yX7_nextBuff yX7_nextBuff ∈ WG := wg_t 1277 (by decide +kernel) (by decide +kernel)
theorem kV_L_175 : KV RL 175 RX7 yX7_nextBuff cX7_nextBuff 1 (some .int) 0 := KV.of wMl_L_175 wIm_X7_nextBuff wSe_X7_nextBuff wIn_X7 wCo_X7_nextBuff (by decide +kernel)
theorem wMl_L_176 : .methodLink RL 176 yL_wouldFame ∈ WG := wg_t 834 (by decide +kernel) (by decide +kernel)
theorem wMl_L_178 : .methodLink RL 178 yX7_wouldFame ∈ WG := wg_t 1283 (by decide +kernel) (by decide +kernel)
theorem wCo_X7_wouldFame : .code yX7_wouldFame cX7_wouldFame 3 (some .int) ∈ WG := wg_t 1286 (by decide +kernel) (by decide +kernel)
theorem wIm_X7_wouldFame : .instanceMethod yX7_wouldFame ∈ WG := wg_t 1284 (by decide +kernel) (by decide +kernel)
theorem wSe_X7_wouldFame : .selects RX7 yX7_wouldFame yX7_wouldFame ∈ WG := wg_t 1285 (by decide +kernel) (by decide +kernel)
theorem kV_L_178 : KV RL 178 RX7 yX7_wouldFame cX7_wouldFame 3 (some .int) 2 := KV.of wMl_L_178 wIm_X7_wouldFame wSe_X7_wouldFame wIn_X7 wCo_X7_wouldFame (by decide +kernel)
theorem wMl_L_179 : .methodLink RL 179 yX3_digest ∈ WG := wg_t 151 (by decide +kernel) (by decide +kernel)
theorem wCo_X3_digest : .code yX3_digest cX3_digest 5 (some .long) ∈ WG := wg_t 154 (by decide +kernel) (by decide +kernel)
theorem wIm_X3_digest : .instanceMethod yX3_digest ∈ WG := wg_t 152 (by decide +kernel) (by decide +kernel)
theorem wSe_X3_digest : .selects RX3 yX3_digest yX3_digest ∈ WG := wg_t 153 (by decide +kernel) (by decide +kernel)
theorem kV_L_179 : KV RL 179 RX3 yX3_digest cX3_digest 5 (some .long) 0 := KV.of wMl_L_179 wIm_X3_digest wSe_X3_digest wIn_X3 wCo_X3_digest (by decide +kernel)
theorem wMl_L_183 : .methodLink RL 183 yX7_digest ∈ WG := wg_t 1295 (by decide +kernel) (by decide +kernel)
theorem wCo_X7_digest : .code yX7_digest cX7_digest 8 (some .long) ∈ WG := wg_t 1298 (by decide +kernel) (by decide +kernel)
theorem wIm_X7_digest : .instanceMethod yX7_digest ∈ WG := wg_t 1296 (by decide +kernel) (by decide +kernel)
theorem wSe_X7_digest : .selects RX7 yX7_digest yX7_digest ∈ WG := wg_t 1297 (by decide +kernel) (by decide +kernel)
theorem kV_L_183 : KV RL 183 RX7 yX7_digest cX7_digest 8 (some .long) 0 := KV.of wMl_L_183 wIm_X7_digest wSe_X7_digest wIn_X7 wCo_X7_digest (by decide +kernel)
theorem wMl_X7_1 : .methodLink RX7 1 objectInit ∈ WG := wg_t 843 (by decide +kernel) (by decide +kernel)
theorem wMl_X7_15 : .methodLink RX7 15 yJx4a65c_init_da8c8 ∈ WG := wg_t 845 (by decide +kernel) (by decide +kernel)
theorem kI_X7_15 : KI RX7 15 yJx4a65c_init_da8c8 cJx4a65c_init_da8c8 1 0 := KI.of wMl_X7_15 wIm_Jx4a65c_init_da8c8 wIn_Jx4a65c wCo_Jx4a65c_init_da8c8 rfl (by decide +kernel)
theorem wMl_X7_29 : .methodLink RX7 29 yX7_refuse ∈ WG := wg_t 883 (by decide +kernel) (by decide +kernel)
theorem wCo_X7_refuse : .code yX7_refuse cX7_refuse 3 (some .boolean) ∈ WG := wg_t 886 (by decide +kernel) (by decide +kernel)
theorem wIm_X7_refuse : .instanceMethod yX7_refuse ∈ WG := wg_t 885 (by decide +kernel) (by decide +kernel)
theorem wSe_X7_refuse : .selects RX7 yX7_refuse yX7_refuse ∈ WG := wg_s 33 (by decide +kernel) (by decide +kernel)
theorem kV_X7_29 : KV RX7 29 RX7 yX7_refuse cX7_refuse 3 (some .boolean) 2 := KV.of wMl_X7_29 wIm_X7_refuse wSe_X7_refuse wIn_X7 wCo_X7_refuse (by decide +kernel)
theorem wMl_X7_33 : .methodLink RX7 33 yJx4a65c_size_8abf5 ∈ WG := wg_t 887 (by decide +kernel) (by decide +kernel)
theorem kV_X7_33 : KV RX7 33 RJx4a65c yJx4a65c_size_8abf5 cJx4a65c_size_8abf5 1 (some .int) 0 := KV.of wMl_X7_33 wIm_Jx4a65c_size_8abf5 wSe_Jx4a65c_size_8abf5 wIn_Jx4a65c wCo_Jx4a65c_size_8abf5 (by decide +kernel)
theorem wMl_X7_37 : .methodLink RX7 37 yX7_isIn ∈ WG := wg_t 876 (by decide +kernel) (by decide +kernel)
theorem wCo_X7_isIn : .code yX7_isIn cX7_isIn 3 (some .boolean) ∈ WG := wg_t 878 (by decide +kernel) (by decide +kernel)
theorem wSt_X7_isIn : .static yX7_isIn ∈ WG := wg_t 877 (by decide +kernel) (by decide +kernel)
theorem kS_X7_37 : KS RX7 37 yX7_isIn cX7_isIn 3 (some .boolean) 3 := KS.of wMl_X7_37 wSt_X7_isIn wIn_X7 wCo_X7_isIn (by decide +kernel)
theorem wMl_X7_41 : .methodLink RX7 41 yX7_start ∈ WG := wg_t 879 (by decide +kernel) (by decide +kernel)
theorem wCo_X7_start : .code yX7_start cX7_start 3 (some .boolean) ∈ WG := wg_t 882 (by decide +kernel) (by decide +kernel)
theorem wIm_X7_start : .instanceMethod yX7_start ∈ WG := wg_t 881 (by decide +kernel) (by decide +kernel)
theorem wSe_X7_start : .selects RX7 yX7_start yX7_start ∈ WG := wg_s 32 (by decide +kernel) (by decide +kernel)
theorem kV_X7_41 : KV RX7 41 RX7 yX7_start cX7_start 3 (some .boolean) 2 := KV.of wMl_X7_41 wIm_X7_start wSe_X7_start wIn_X7 wCo_X7_start (by decide +kernel)
theorem wMl_X7_46 : .methodLink RX7 46 yX6_init ∈ WG := wg_t 890 (by decide +kernel) (by decide +kernel)
theorem wCo_X6_init : .code yX6_init cX6_init 6 none ∈ WG := wg_t 892 (by decide +kernel) (by decide +kernel)
theorem wIn_X6 : .initialized RX6 ∈ WG := wg_t 16 (by decide +kernel) (by decide +kernel)
theorem wIm_X6_init : .instanceMethod yX6_init ∈ WG := wg_t 891 (by decide +kernel) (by decide +kernel)
theorem kI_X7_46 : KI RX7 46 yX6_init cX6_init 6 4 := KI.of wMl_X7_46 wIm_X6_init wIn_X6 wCo_X6_init rfl (by decide +kernel)
theorem wMl_X7_49 : .methodLink RX7 49 yJx4a65c_add_9ea2d ∈ WG := wg_t 927 (by decide +kernel) (by decide +kernel)
theorem kV_X7_49 : KV RX7 49 RJx4a65c yJx4a65c_add_9ea2d cJx4a65c_add_9ea2d 2 (some .boolean) 1 := KV.of wMl_X7_49 wIm_Jx4a65c_add_9ea2d wSe_Jx4a65c_add_9ea2d wIn_Jx4a65c wCo_Jx4a65c_add_9ea2d (by decide +kernel)
theorem wMl_X7_55 : .methodLink RX7 55 yX4_init ∈ WG := wg_t 934 (by decide +kernel) (by decide +kernel)
theorem wCo_X4_init : .code yX4_init cX4_init 5 none ∈ WG := wg_t 936 (by decide +kernel) (by decide +kernel)
theorem wIn_X4 : .initialized RX4 ∈ WG := wg_t 18 (by decide +kernel) (by decide +kernel)
theorem wIm_X4_init : .instanceMethod yX4_init ∈ WG := wg_t 935 (by decide +kernel) (by decide +kernel)
theorem kI_X7_55 : KI RX7 55 yX4_init cX4_init 5 4 := KI.of wMl_X7_55 wIm_X4_init wIn_X4 wCo_X4_init rfl (by decide +kernel)
theorem wMl_X7_56 : .methodLink RX7 56 yX7_isNoWall ∈ WG := wg_t 977 (by decide +kernel) (by decide +kernel)
theorem wCo_X7_isNoWall : .code yX7_isNoWall cX7_isNoWall 2 (some .boolean) ∈ WG := wg_t 980 (by decide +kernel) (by decide +kernel)
theorem wIm_X7_isNoWall : .instanceMethod yX7_isNoWall ∈ WG := wg_t 979 (by decide +kernel) (by decide +kernel)
theorem wSe_X7_isNoWall : .selects RX7 yX7_isNoWall yX7_isNoWall ∈ WG := wg_s 34 (by decide +kernel) (by decide +kernel)
theorem kV_X7_56 : KV RX7 56 RX7 yX7_isNoWall cX7_isNoWall 2 (some .boolean) 1 := KV.of wMl_X7_56 wIm_X7_isNoWall wSe_X7_isNoWall wIn_X7 wCo_X7_isNoWall (by decide +kernel)
theorem wMl_X7_63 : .methodLink RX7 63 yJx4a65c_get_915e3 ∈ WG := wg_t 981 (by decide +kernel) (by decide +kernel)
theorem kV_X7_63 : KV RX7 63 RJx4a65c yJx4a65c_get_915e3 cJx4a65c_get_915e3 2 (some (.object "java/lang/Object")) 1 := KV.of wMl_X7_63 wIm_Jx4a65c_get_915e3 wSe_Jx4a65c_get_915e3 wIn_Jx4a65c wCo_Jx4a65c_get_915e3 (by decide +kernel)
theorem wMl_X7_67 : .methodLink RX7 67 yX6_permitted ∈ WG := wg_t 982 (by decide +kernel) (by decide +kernel)
theorem wCo_X6_permitted : .code yX6_permitted cX6_permitted 2 (some .int) ∈ WG := wg_t 985 (by decide +kernel) (by decide +kernel)
theorem wIm_X6_permitted : .instanceMethod yX6_permitted ∈ WG := wg_t 983 (by decide +kernel) (by decide +kernel)
theorem wSe_X6_permitted : .selects RX6 yX6_permitted yX6_permitted ∈ WG := wg_t 984 (by decide +kernel) (by decide +kernel)
theorem kV_X7_67 : KV RX7 67 RX6 yX6_permitted cX6_permitted 2 (some .int) 1 := KV.of wMl_X7_67 wIm_X6_permitted wSe_X6_permitted wIn_X6 wCo_X6_permitted (by decide +kernel)
theorem wMl_X7_101 : .methodLink RX7 101 yX7_isLegal ∈ WG := wg_t 1008 (by decide +kernel) (by decide +kernel)
theorem wCo_X7_isLegal : .code yX7_isLegal cX7_isLegal 3 (some .boolean) ∈ WG := wg_t 1011 (by decide +kernel) (by decide +kernel)
theorem wIm_X7_isLegal : .instanceMethod yX7_isLegal ∈ WG := wg_t 1010 (by decide +kernel) (by decide +kernel)
theorem wSe_X7_isLegal : .selects RX7 yX7_isLegal yX7_isLegal ∈ WG := wg_s 37 (by decide +kernel) (by decide +kernel)
theorem kV_X7_101 : KV RX7 101 RX7 yX7_isLegal cX7_isLegal 3 (some .boolean) 2 := KV.of wMl_X7_101 wIm_X7_isLegal wSe_X7_isLegal wIn_X7 wCo_X7_isLegal (by decide +kernel)
theorem wMl_X7_105 : .methodLink RX7 105 yX7_isNew ∈ WG := wg_t 1016 (by decide +kernel) (by decide +kernel)
theorem wCo_X7_isNew : .code yX7_isNew cX7_isNew 4 (some .boolean) ∈ WG := wg_t 1018 (by decide +kernel) (by decide +kernel)
theorem wSt_X7_isNew : .static yX7_isNew ∈ WG := wg_t 1017 (by decide +kernel) (by decide +kernel)
theorem kS_X7_105 : KS RX7 105 yX7_isNew cX7_isNew 4 (some .boolean) 3 := KS.of wMl_X7_105 wSt_X7_isNew wIn_X7 wCo_X7_isNew (by decide +kernel)
theorem wMl_X7_109 : .methodLink RX7 109 yX7_isWrong ∈ WG := wg_t 1020 (by decide +kernel) (by decide +kernel)
theorem wCo_X7_isWrong : .code yX7_isWrong cX7_isWrong 5 (some .boolean) ∈ WG := wg_t 1023 (by decide +kernel) (by decide +kernel)
theorem wIm_X7_isWrong : .instanceMethod yX7_isWrong ∈ WG := wg_t 1022 (by decide +kernel) (by decide +kernel)
theorem wSe_X7_isWrong : .selects RX7 yX7_isWrong yX7_isWrong ∈ WG := wg_s 39 (by decide +kernel) (by decide +kernel)
theorem kV_X7_109 : KV RX7 109 RX7 yX7_isWrong cX7_isWrong 5 (some .boolean) 4 := KV.of wMl_X7_109 wIm_X7_isWrong wSe_X7_isWrong wIn_X7 wCo_X7_isWrong (by decide +kernel)
theorem wMl_X7_113 : .methodLink RX7 113 yX7_isNoHand ∈ WG := wg_t 994 (by decide +kernel) (by decide +kernel)
theorem wCo_X7_isNoHand : .code yX7_isNoHand cX7_isNoHand 2 (some .boolean) ∈ WG := wg_t 997 (by decide +kernel) (by decide +kernel)
theorem wIm_X7_isNoHand : .instanceMethod yX7_isNoHand ∈ WG := wg_t 996 (by decide +kernel) (by decide +kernel)
theorem wSe_X7_isNoHand : .selects RX7 yX7_isNoHand yX7_isNoHand ∈ WG := wg_s 35 (by decide +kernel) (by decide +kernel)
theorem kV_X7_113 : KV RX7 113 RX7 yX7_isNoHand cX7_isNoHand 2 (some .boolean) 1 := KV.of wMl_X7_113 wIm_X7_isNoHand wSe_X7_isNoHand wIn_X7 wCo_X7_isNoHand (by decide +kernel)
theorem wMl_X7_116 : .methodLink RX7 116 yX7_isNoPlace ∈ WG := wg_t 998 (by decide +kernel) (by decide +kernel)
theorem wCo_X7_isNoPlace : .code yX7_isNoPlace cX7_isNoPlace 4 (some .boolean) ∈ WG := wg_t 1001 (by decide +kernel) (by decide +kernel)
theorem wIm_X7_isNoPlace : .instanceMethod yX7_isNoPlace ∈ WG := wg_t 1000 (by decide +kernel) (by decide +kernel)
theorem wSe_X7_isNoPlace : .selects RX7 yX7_isNoPlace yX7_isNoPlace ∈ WG := wg_s 36 (by decide +kernel) (by decide +kernel)
theorem kV_X7_116 : KV RX7 116 RX7 yX7_isNoPlace cX7_isNoPlace 4 (some .boolean) 3 := KV.of wMl_X7_116 wIm_X7_isNoPlace wSe_X7_isNoPlace wIn_X7 wCo_X7_isNoPlace (by decide +kernel)
theorem wMl_X7_119 : .methodLink RX7 119 yX4_minutes ∈ WG := wg_t 1002 (by decide +kernel) (by decide +kernel)
theorem wCo_X4_minutes : .code yX4_minutes cX4_minutes 3 (some .int) ∈ WG := wg_t 1005 (by decide +kernel) (by decide +kernel)
theorem wIm_X4_minutes : .instanceMethod yX4_minutes ∈ WG := wg_t 1003 (by decide +kernel) (by decide +kernel)
theorem wSe_X4_minutes : .selects RX4 yX4_minutes yX4_minutes ∈ WG := wg_t 1004 (by decide +kernel) (by decide +kernel)
theorem kV_X7_119 : KV RX7 119 RX4 yX4_minutes cX4_minutes 3 (some .int) 2 := KV.of wMl_X7_119 wIm_X4_minutes wSe_X4_minutes wIn_X4 wCo_X4_minutes (by decide +kernel)
theorem wMl_X7_126 : .methodLink RX7 126 yX7_wrongsOf ∈ WG := wg_t 1012 (by decide +kernel) (by decide +kernel)
theorem wCo_X7_wrongsOf : .code yX7_wrongsOf cX7_wrongsOf 10 (some .int) ∈ WG := wg_t 1015 (by decide +kernel) (by decide +kernel)
theorem wIm_X7_wrongsOf : .instanceMethod yX7_wrongsOf ∈ WG := wg_t 1014 (by decide +kernel) (by decide +kernel)
theorem wSe_X7_wrongsOf : .selects RX7 yX7_wrongsOf yX7_wrongsOf ∈ WG := wg_s 38 (by decide +kernel) (by decide +kernel)
theorem kV_X7_126 : KV RX7 126 RX7 yX7_wrongsOf cX7_wrongsOf 10 (some .int) 5 := KV.of wMl_X7_126 wIm_X7_wrongsOf wSe_X7_wrongsOf wIn_X7 wCo_X7_wrongsOf (by decide +kernel)
theorem wMl_X7_139 : .methodLink RX7 139 yX5_init ∈ WG := wg_t 1025 (by decide +kernel) (by decide +kernel)
theorem wCo_X5_init : .code yX5_init cX5_init 10 none ∈ WG := wg_t 1027 (by decide +kernel) (by decide +kernel)
theorem wIn_X5 : .initialized RX5 ∈ WG := wg_t 23 (by decide +kernel) (by decide +kernel)
theorem wIm_X5_init : .instanceMethod yX5_init ∈ WG := wg_t 1026 (by decide +kernel) (by decide +kernel)
theorem kI_X7_139 : KI RX7 139 yX5_init cX5_init 10 9 := KI.of wMl_X7_139 wIm_X5_init wIn_X5 wCo_X5_init rfl (by decide +kernel)
theorem wMl_X7_142 : .methodLink RX7 142 yX6_isWatched ∈ WG := wg_t 1072 (by decide +kernel) (by decide +kernel)
theorem wCo_X6_isWatched : .code yX6_isWatched cX6_isWatched 3 (some .boolean) ∈ WG := wg_t 1075 (by decide +kernel) (by decide +kernel)
theorem wIm_X6_isWatched : .instanceMethod yX6_isWatched ∈ WG := wg_t 1073 (by decide +kernel) (by decide +kernel)
theorem wSe_X6_isWatched : .selects RX6 yX6_isWatched yX6_isWatched ∈ WG := wg_t 1074 (by decide +kernel) (by decide +kernel)
theorem kV_X7_142 : KV RX7 142 RX6 yX6_isWatched cX6_isWatched 3 (some .boolean) 2 := KV.of wMl_X7_142 wIm_X6_isWatched wSe_X6_isWatched wIn_X6 wCo_X6_isWatched (by decide +kernel)
theorem wMl_X7_156 : .methodLink RX7 156 yX7_isBuffed ∈ WG := wg_t 1084 (by decide +kernel) (by decide +kernel)
theorem wCo_X7_isBuffed : .code yX7_isBuffed cX7_isBuffed 3 (some .boolean) ∈ WG := wg_t 1087 (by decide +kernel) (by decide +kernel)
theorem wIm_X7_isBuffed : .instanceMethod yX7_isBuffed ∈ WG := wg_t 1086 (by decide +kernel) (by decide +kernel)
theorem wSe_X7_isBuffed : .selects RX7 yX7_isBuffed yX7_isBuffed ∈ WG := wg_s 41 (by decide +kernel) (by decide +kernel)
theorem kV_X7_156 : KV RX7 156 RX7 yX7_isBuffed cX7_isBuffed 3 (some .boolean) 2 := KV.of wMl_X7_156 wIm_X7_isBuffed wSe_X7_isBuffed wIn_X7 wCo_X7_isBuffed (by decide +kernel)
theorem wMl_X7_159 : .methodLink RX7 159 yX7_buffs ∈ WG := wg_t 1080 (by decide +kernel) (by decide +kernel)
theorem wCo_X7_buffs : .code yX7_buffs cX7_buffs 7 (some .int) ∈ WG := wg_t 1083 (by decide +kernel) (by decide +kernel)
theorem wIm_X7_buffs : .instanceMethod yX7_buffs ∈ WG := wg_t 1082 (by decide +kernel) (by decide +kernel)
theorem wSe_X7_buffs : .selects RX7 yX7_buffs yX7_buffs ∈ WG := wg_s 40 (by decide +kernel) (by decide +kernel)
theorem kV_X7_159 : KV RX7 159 RX7 yX7_buffs cX7_buffs 7 (some .int) 1 := KV.of wMl_X7_159 wIm_X7_buffs wSe_X7_buffs wIn_X7 wCo_X7_buffs (by decide +kernel)
theorem wMl_X7_171 : .methodLink RX7 171 yX6_bare ∈ WG := wg_t 1094 (by decide +kernel) (by decide +kernel)
theorem wCo_X6_bare : .code yX6_bare cX6_bare 3 (some .int) ∈ WG := wg_t 1097 (by decide +kernel) (by decide +kernel)
theorem wIm_X6_bare : .instanceMethod yX6_bare ∈ WG := wg_t 1095 (by decide +kernel) (by decide +kernel)
theorem wSe_X6_bare : .selects RX6 yX6_bare yX6_bare ∈ WG := wg_t 1096 (by decide +kernel) (by decide +kernel)
theorem kV_X7_171 : KV RX7 171 RX6 yX6_bare cX6_bare 3 (some .int) 0 := KV.of wMl_X7_171 wIm_X6_bare wSe_X6_bare wIn_X6 wCo_X6_bare (by decide +kernel)
theorem wMl_X7_177 : .methodLink RX7 177 yX6_many ∈ WG := wg_t 1114 (by decide +kernel) (by decide +kernel)
theorem wCo_X6_many : .code yX6_many cX6_many 7 (some .int) ∈ WG := wg_t 1101 (by decide +kernel) (by decide +kernel)
theorem wIm_X6_many : .instanceMethod yX6_many ∈ WG := wg_t 1099 (by decide +kernel) (by decide +kernel)
theorem wSe_X6_many : .selects RX6 yX6_many yX6_many ∈ WG := wg_t 1100 (by decide +kernel) (by decide +kernel)
theorem kV_X7_177 : KV RX7 177 RX6 yX6_many cX6_many 7 (some .int) 1 := KV.of wMl_X7_177 wIm_X6_many wSe_X6_many wIn_X6 wCo_X6_many (by decide +kernel)
theorem wMl_X7_180 : .methodLink RX7 180 yJx4a65c_iterator_32c93 ∈ WG := wg_t 1123 (by decide +kernel) (by decide +kernel)
theorem wCo_Jx4a65c_iterator_32c93 : .code yJx4a65c_iterator_32c93 cJx4a65c_iterator_32c93 1 (some (.object "java/util/Iterator")) ∈ WG := wg_t 1126 (by decide +kernel) (by decide +kernel)
theorem wIm_Jx4a65c_iterator_32c93 : .instanceMethod yJx4a65c_iterator_32c93 ∈ WG := wg_t 1124 (by decide +kernel) (by decide +kernel)
theorem wSe_Jx4a65c_iterator_32c93 : .selects RJx4a65c yJx4a65c_iterator_32c93 yJx4a65c_iterator_32c93 ∈ WG := wg_t 1125 (by decide +kernel) (by decide +kernel)
theorem kV_X7_180 : KV RX7 180 RJx4a65c yJx4a65c_iterator_32c93 cJx4a65c_iterator_32c93 1 (some (.object "java/util/Iterator")) 0 := KV.of wMl_X7_180 wIm_Jx4a65c_iterator_32c93 wSe_Jx4a65c_iterator_32c93 wIn_Jx4a65c wCo_Jx4a65c_iterator_32c93 (by decide +kernel)
theorem wMl_X7_197 : .methodLink RX7 197 yX7_seen ∈ WG := wg_t 1110 (by decide +kernel) (by decide +kernel)
theorem wCo_X7_seen : .code yX7_seen cX7_seen 2 (some .int) ∈ WG := wg_t 1113 (by decide +kernel) (by decide +kernel)
theorem wIm_X7_seen : .instanceMethod yX7_seen ∈ WG := wg_t 1112 (by decide +kernel) (by decide +kernel)
theorem wSe_X7_seen : .selects RX7 yX7_seen yX7_seen ∈ WG := wg_s 43 (by decide +kernel) (by decide +kernel)
theorem kV_X7_197 : KV RX7 197 RX7 yX7_seen cX7_seen 2 (some .int) 1 := KV.of wMl_X7_197 wIm_X7_seen wSe_X7_seen wIn_X7 wCo_X7_seen (by decide +kernel)
theorem wMl_X7_200 : .methodLink RX7 200 yX7_fame ∈ WG := wg_t 1119 (by decide +kernel) (by decide +kernel)
theorem wCo_X7_fame : .code yX7_fame cX7_fame 9 (some .int) ∈ WG := wg_t 1122 (by decide +kernel) (by decide +kernel)
theorem wIm_X7_fame : .instanceMethod yX7_fame ∈ WG := wg_t 1121 (by decide +kernel) (by decide +kernel)
theorem wSe_X7_fame : .selects RX7 yX7_fame yX7_fame ∈ WG := wg_s 45 (by decide +kernel) (by decide +kernel)
theorem kV_X7_200 : KV RX7 200 RX7 yX7_fame cX7_fame 9 (some .int) 1 := KV.of wMl_X7_200 wIm_X7_fame wSe_X7_fame wIn_X7 wCo_X7_fame (by decide +kernel)
theorem wMl_X7_203 : .methodLink RX7 203 yX7_isNoLayer ∈ WG := wg_t 1106 (by decide +kernel) (by decide +kernel)
theorem wCo_X7_isNoLayer : .code yX7_isNoLayer cX7_isNoLayer 2 (some .boolean) ∈ WG := wg_t 1109 (by decide +kernel) (by decide +kernel)
theorem wIm_X7_isNoLayer : .instanceMethod yX7_isNoLayer ∈ WG := wg_t 1108 (by decide +kernel) (by decide +kernel)
theorem wSe_X7_isNoLayer : .selects RX7 yX7_isNoLayer yX7_isNoLayer ∈ WG := wg_s 42 (by decide +kernel) (by decide +kernel)
theorem kV_X7_203 : KV RX7 203 RX7 yX7_isNoLayer cX7_isNoLayer 2 (some .boolean) 1 := KV.of wMl_X7_203 wIm_X7_isNoLayer wSe_X7_isNoLayer wIn_X7 wCo_X7_isNoLayer (by decide +kernel)
theorem wMl_X7_206 : .methodLink RX7 206 yX7_price ∈ WG := wg_t 1115 (by decide +kernel) (by decide +kernel)
theorem wCo_X7_price : .code yX7_price cX7_price 2 (some .int) ∈ WG := wg_t 1118 (by decide +kernel) (by decide +kernel)
theorem wIm_X7_price : .instanceMethod yX7_price ∈ WG := wg_t 1117 (by decide +kernel) (by decide +kernel)
theorem wSe_X7_price : .selects RX7 yX7_price yX7_price ∈ WG := wg_s 44 (by decide +kernel) (by decide +kernel)
theorem kV_X7_206 : KV RX7 206 RX7 yX7_price cX7_price 2 (some .int) 1 := KV.of wMl_X7_206 wIm_X7_price wSe_X7_price wIn_X7 wCo_X7_price (by decide +kernel)
theorem wMl_X7_218 : .methodLink RX7 218 yX7_layersOn ∈ WG := wg_t 1193 (by decide +kernel) (by decide +kernel)
theorem wCo_X7_layersOn : .code yX7_layersOn cX7_layersOn 4 (some .int) ∈ WG := wg_t 1196 (by decide +kernel) (by decide +kernel)
theorem wIm_X7_layersOn : .instanceMethod yX7_layersOn ∈ WG := wg_t 1195 (by decide +kernel) (by decide +kernel)
theorem wSe_X7_layersOn : .selects RX7 yX7_layersOn yX7_layersOn ∈ WG := wg_s 47 (by decide +kernel) (by decide +kernel)
theorem kV_X7_218 : KV RX7 218 RX7 yX7_layersOn cX7_layersOn 4 (some .int) 1 := KV.of wMl_X7_218 wIm_X7_layersOn wSe_X7_layersOn wIn_X7 wCo_X7_layersOn (by decide +kernel)
theorem wMl_X7_221 : .methodLink RX7 221 yX7_ofWallNow ∈ WG := wg_t 1189 (by decide +kernel) (by decide +kernel)
theorem wCo_X7_ofWallNow : .code yX7_ofWallNow cX7_ofWallNow 4 (some .int) ∈ WG := wg_t 1192 (by decide +kernel) (by decide +kernel)
theorem wIm_X7_ofWallNow : .instanceMethod yX7_ofWallNow ∈ WG := wg_t 1191 (by decide +kernel) (by decide +kernel)
theorem wSe_X7_ofWallNow : .selects RX7 yX7_ofWallNow yX7_ofWallNow ∈ WG := wg_s 46 (by decide +kernel) (by decide +kernel)
theorem kV_X7_221 : KV RX7 221 RX7 yX7_ofWallNow cX7_ofWallNow 4 (some .int) 2 := KV.of wMl_X7_221 wIm_X7_ofWallNow wSe_X7_ofWallNow wIn_X7 wCo_X7_ofWallNow (by decide +kernel)
theorem wMl_X7_224 : .methodLink RX7 224 yX7_layersOf ∈ WG := wg_t 1209 (by decide +kernel) (by decide +kernel)
theorem wCo_X7_layersOf : .code yX7_layersOf cX7_layersOf 5 (some .int) ∈ WG := wg_t 1212 (by decide +kernel) (by decide +kernel)
theorem wIm_X7_layersOf : .instanceMethod yX7_layersOf ∈ WG := wg_t 1211 (by decide +kernel) (by decide +kernel)
theorem wSe_X7_layersOf : .selects RX7 yX7_layersOf yX7_layersOf ∈ WG := wg_s 49 (by decide +kernel) (by decide +kernel)
theorem kV_X7_224 : KV RX7 224 RX7 yX7_layersOf cX7_layersOf 5 (some .int) 2 := KV.of wMl_X7_224 wIm_X7_layersOf wSe_X7_layersOf wIn_X7 wCo_X7_layersOf (by decide +kernel)
theorem wMl_X7_228 : .methodLink RX7 228 yX7_wrongsOf_ ∈ WG := wg_t 1213 (by decide +kernel) (by decide +kernel)
theorem wCo_X7_wrongsOf_ : .code yX7_wrongsOf_ cX7_wrongsOf_ 5 (some .int) ∈ WG := wg_t 1216 (by decide +kernel) (by decide +kernel)
theorem wIm_X7_wrongsOf_ : .instanceMethod yX7_wrongsOf_ ∈ WG := wg_t 1215 (by decide +kernel) (by decide +kernel)
theorem wSe_X7_wrongsOf_ : .selects RX7 yX7_wrongsOf_ yX7_wrongsOf_ ∈ WG := wg_s 50 (by decide +kernel) (by decide +kernel)
theorem kV_X7_228 : KV RX7 228 RX7 yX7_wrongsOf_ cX7_wrongsOf_ 5 (some .int) 2 := KV.of wMl_X7_228 wIm_X7_wrongsOf_ wSe_X7_wrongsOf_ wIn_X7 wCo_X7_wrongsOf_ (by decide +kernel)
theorem wMl_X7_230 : .methodLink RX7 230 yX7_ofHandNow ∈ WG := wg_t 1205 (by decide +kernel) (by decide +kernel)
theorem wCo_X7_ofHandNow : .code yX7_ofHandNow cX7_ofHandNow 4 (some .int) ∈ WG := wg_t 1208 (by decide +kernel) (by decide +kernel)
theorem wIm_X7_ofHandNow : .instanceMethod yX7_ofHandNow ∈ WG := wg_t 1207 (by decide +kernel) (by decide +kernel)
theorem wSe_X7_ofHandNow : .selects RX7 yX7_ofHandNow yX7_ofHandNow ∈ WG := wg_s 48 (by decide +kernel) (by decide +kernel)
theorem kV_X7_230 : KV RX7 230 RX7 yX7_ofHandNow cX7_ofHandNow 4 (some .int) 2 := KV.of wMl_X7_230 wIm_X7_ofHandNow wSe_X7_ofHandNow wIn_X7 wCo_X7_ofHandNow (by decide +kernel)
theorem wMl_X7_234 : .methodLink RX7 234 yJ9_abs_0f7a4 ∈ WG := wg_t 1229 (by decide +kernel) (by decide +kernel)
theorem kS_X7_234 : KS RX7 234 yJ9_abs_0f7a4 cJ9_abs_0f7a4 1 (some .int) 1 := KS.of wMl_X7_234 wSt_J9_abs_0f7a4 wIn_J9 wCo_J9_abs_0f7a4 (by decide +kernel)
theorem wMl_X7_244 : .methodLink RX7 244 yX7_suspect ∈ WG := wg_t 1225 (by decide +kernel) (by decide +kernel)
theorem wCo_X7_suspect : .code yX7_suspect cX7_suspect 7 (some .int) ∈ WG := wg_t 1228 (by decide +kernel) (by decide +kernel)
theorem wIm_X7_suspect : .instanceMethod yX7_suspect ∈ WG := wg_t 1227 (by decide +kernel) (by decide +kernel)
theorem wSe_X7_suspect : .selects RX7 yX7_suspect yX7_suspect ∈ WG := wg_s 52 (by decide +kernel) (by decide +kernel)
theorem kV_X7_244 : KV RX7 244 RX7 yX7_suspect cX7_suspect 7 (some .int) 1 := KV.of wMl_X7_244 wIm_X7_suspect wSe_X7_suspect wIn_X7 wCo_X7_suspect (by decide +kernel)
theorem wMl_X7_248 : .methodLink RX7 248 yX7_ofLayerNow ∈ WG := wg_t 1221 (by decide +kernel) (by decide +kernel)
theorem wCo_X7_ofLayerNow : .code yX7_ofLayerNow cX7_ofLayerNow 4 (some .int) ∈ WG := wg_t 1224 (by decide +kernel) (by decide +kernel)
theorem wIm_X7_ofLayerNow : .instanceMethod yX7_ofLayerNow ∈ WG := wg_t 1223 (by decide +kernel) (by decide +kernel)
theorem wSe_X7_ofLayerNow : .selects RX7 yX7_ofLayerNow yX7_ofLayerNow ∈ WG := wg_s 51 (by decide +kernel) (by decide +kernel)
theorem kV_X7_248 : KV RX7 248 RX7 yX7_ofLayerNow cX7_ofLayerNow 4 (some .int) 2 := KV.of wMl_X7_248 wIm_X7_ofLayerNow wSe_X7_ofLayerNow wIn_X7 wCo_X7_ofLayerNow (by decide +kernel)
theorem wMl_X7_251 : .methodLink RX7 251 yX7_seenLayers ∈ WG := wg_t 1246 (by decide +kernel) (by decide +kernel)
theorem wCo_X7_seenLayers : .code yX7_seenLayers cX7_seenLayers 5 (some .int) ∈ WG := wg_t 1249 (by decide +kernel) (by decide +kernel)
theorem wIm_X7_seenLayers : .instanceMethod yX7_seenLayers ∈ WG := wg_t 1248 (by decide +kernel) (by decide +kernel)
theorem wSe_X7_seenLayers : .selects RX7 yX7_seenLayers yX7_seenLayers ∈ WG := wg_s 54 (by decide +kernel) (by decide +kernel)
theorem kV_X7_251 : KV RX7 251 RX7 yX7_seenLayers cX7_seenLayers 5 (some .int) 1 := KV.of wMl_X7_251 wIm_X7_seenLayers wSe_X7_seenLayers wIn_X7 wCo_X7_seenLayers (by decide +kernel)
theorem wMl_X7_255 : .methodLink RX7 255 yX7_ofHands ∈ WG := wg_t 1250 (by decide +kernel) (by decide +kernel)
theorem wCo_X7_ofHands : .code yX7_ofHands cX7_ofHands 4 (some .int) ∈ WG := wg_t 1253 (by decide +kernel) (by decide +kernel)
theorem wIm_X7_ofHands : .instanceMethod yX7_ofHands ∈ WG := wg_t 1252 (by decide +kernel) (by decide +kernel)
theorem wSe_X7_ofHands : .selects RX7 yX7_ofHands yX7_ofHands ∈ WG := wg_s 55 (by decide +kernel) (by decide +kernel)
theorem kV_X7_255 : KV RX7 255 RX7 yX7_ofHands cX7_ofHands 4 (some .int) 1 := KV.of wMl_X7_255 wIm_X7_ofHands wSe_X7_ofHands wIn_X7 wCo_X7_ofHands (by decide +kernel)
theorem wMl_X7_258 : .methodLink RX7 258 yX7_manyNow ∈ WG := wg_t 1242 (by decide +kernel) (by decide +kernel)
theorem wCo_X7_manyNow : .code yX7_manyNow cX7_manyNow 2 (some .int) ∈ WG := wg_t 1245 (by decide +kernel) (by decide +kernel)
theorem wIm_X7_manyNow : .instanceMethod yX7_manyNow ∈ WG := wg_t 1244 (by decide +kernel) (by decide +kernel)
theorem wSe_X7_manyNow : .selects RX7 yX7_manyNow yX7_manyNow ∈ WG := wg_s 53 (by decide +kernel) (by decide +kernel)
theorem kV_X7_258 : KV RX7 258 RX7 yX7_manyNow cX7_manyNow 2 (some .int) 1 := KV.of wMl_X7_258 wIm_X7_manyNow wSe_X7_manyNow wIn_X7 wCo_X7_manyNow (by decide +kernel)
theorem wMl_X7_261 : .methodLink RX7 261 yJx4a65c_isEmpty_aae02 ∈ WG := wg_t 1258 (by decide +kernel) (by decide +kernel)
theorem kV_X7_261 : KV RX7 261 RJx4a65c yJx4a65c_isEmpty_aae02 cJx4a65c_isEmpty_aae02 1 (some .boolean) 0 := KV.of wMl_X7_261 wIm_Jx4a65c_isEmpty_aae02 wSe_Jx4a65c_isEmpty_aae02 wIn_Jx4a65c wCo_Jx4a65c_isEmpty_aae02 (by decide +kernel)
theorem wMl_X7_264 : .methodLink RX7 264 yX7_gains ∈ WG := wg_t 1267 (by decide +kernel) (by decide +kernel)
theorem wCo_X7_gains : .code yX7_gains cX7_gains 9 (some .int) ∈ WG := wg_t 1270 (by decide +kernel) (by decide +kernel)
theorem wIm_X7_gains : .instanceMethod yX7_gains ∈ WG := wg_t 1269 (by decide +kernel) (by decide +kernel)
theorem wSe_X7_gains : .selects RX7 yX7_gains yX7_gains ∈ WG := wg_s 57 (by decide +kernel) (by decide +kernel)
theorem kV_X7_264 : KV RX7 264 RX7 yX7_gains cX7_gains 9 (some .int) 5 := KV.of wMl_X7_264 wIm_X7_gains wSe_X7_gains wIn_X7 wCo_X7_gains (by decide +kernel)
theorem wMl_X7_267 : .methodLink RX7 267 yX7_bestFromNow ∈ WG := wg_t 1263 (by decide +kernel) (by decide +kernel)
theorem wCo_X7_bestFromNow : .code yX7_bestFromNow cX7_bestFromNow 8 (some .int) ∈ WG := wg_t 1266 (by decide +kernel) (by decide +kernel)
theorem wIm_X7_bestFromNow : .instanceMethod yX7_bestFromNow ∈ WG := wg_t 1265 (by decide +kernel) (by decide +kernel)
theorem wSe_X7_bestFromNow : .selects RX7 yX7_bestFromNow yX7_bestFromNow ∈ WG := wg_s 56 (by decide +kernel) (by decide +kernel)
theorem kV_X7_267 : KV RX7 267 RX7 yX7_bestFromNow cX7_bestFromNow 8 (some .int) 4 := KV.of wMl_X7_267 wIm_X7_bestFromNow wSe_X7_bestFromNow wIn_X7 wCo_X7_bestFromNow (by decide +kernel)
theorem wMl_X7_271 : .methodLink RX7 271 yX7_nextBuffNow ∈ WG := wg_t 1279 (by decide +kernel) (by decide +kernel)
theorem wCo_X7_nextBuffNow : .code yX7_nextBuffNow cX7_nextBuffNow 5 (some .int) ∈ WG := wg_t 1282 (by decide +kernel) (by decide +kernel)
theorem wIm_X7_nextBuffNow : .instanceMethod yX7_nextBuffNow ∈ WG := wg_t 1281 (by decide +kernel) (by decide +kernel)
theorem wSe_X7_nextBuffNow : .selects RX7 yX7_nextBuffNow yX7_nextBuffNow ∈ WG := wg_s 58 (by decide +kernel) (by decide +kernel)
theorem kV_X7_271 : KV RX7 271 RX7 yX7_nextBuffNow cX7_nextBuffNow 5 (some .int) 0 := KV.of wMl_X7_271 wIm_X7_nextBuffNow wSe_X7_nextBuffNow wIn_X7 wCo_X7_nextBuffNow (by decide +kernel)
theorem wMl_X7_274 : .methodLink RX7 274 yX7_isCleaned ∈ WG := wg_t 1291 (by decide +kernel) (by decide +kernel)
theorem wCo_X7_isCleaned : .code yX7_isCleaned cX7_isCleaned 3 (some .boolean) ∈ WG := wg_t 1294 (by decide +kernel) (by decide +kernel)
theorem wIm_X7_isCleaned : .instanceMethod yX7_isCleaned ∈ WG := wg_t 1293 (by decide +kernel) (by decide +kernel)
theorem wSe_X7_isCleaned : .selects RX7 yX7_isCleaned yX7_isCleaned ∈ WG := wg_s 60 (by decide +kernel) (by decide +kernel)
theorem kV_X7_274 : KV RX7 274 RX7 yX7_isCleaned cX7_isCleaned 3 (some .boolean) 2 := KV.of wMl_X7_274 wIm_X7_isCleaned wSe_X7_isCleaned wIn_X7 wCo_X7_isCleaned (by decide +kernel)
theorem wMl_X7_278 : .methodLink RX7 278 yX7_wouldFameNow ∈ WG := wg_t 1287 (by decide +kernel) (by decide +kernel)
theorem wCo_X7_wouldFameNow : .code yX7_wouldFameNow cX7_wouldFameNow 10 (some .int) ∈ WG := wg_t 1290 (by decide +kernel) (by decide +kernel)
theorem wIm_X7_wouldFameNow : .instanceMethod yX7_wouldFameNow ∈ WG := wg_t 1289 (by decide +kernel) (by decide +kernel)
theorem wSe_X7_wouldFameNow : .selects RX7 yX7_wouldFameNow yX7_wouldFameNow ∈ WG := wg_s 59 (by decide +kernel) (by decide +kernel)
theorem kV_X7_278 : KV RX7 278 RX7 yX7_wouldFameNow cX7_wouldFameNow 10 (some .int) 2 := KV.of wMl_X7_278 wIm_X7_wouldFameNow wSe_X7_wouldFameNow wIn_X7 wCo_X7_wouldFameNow (by decide +kernel)
theorem wMl_X7_285 : .methodLink RX7 285 yX7_add ∈ WG := wg_t 1300 (by decide +kernel) (by decide +kernel)
theorem wCo_X7_add : .code yX7_add cX7_add 4 (some .long) ∈ WG := wg_t 1302 (by decide +kernel) (by decide +kernel)
theorem wSt_X7_add : .static yX7_add ∈ WG := wg_t 1301 (by decide +kernel) (by decide +kernel)
theorem kS_X7_285 : KS RX7 285 yX7_add cX7_add 4 (some .long) 2 := KS.of wMl_X7_285 wSt_X7_add wIn_X7 wCo_X7_add (by decide +kernel)
theorem wMl_X4_3 : .methodLink RX4 3 objectInit ∈ WG := wg_t 937 (by decide +kernel) (by decide +kernel)
theorem wMl_X5_1 : .methodLink RX5 1 objectInit ∈ WG := wg_t 1028 (by decide +kernel) (by decide +kernel)
theorem wMl_X6_3 : .methodLink RX6 3 objectInit ∈ WG := wg_t 893 (by decide +kernel) (by decide +kernel)
theorem wMl_X6_37 : .methodLink RX6 37 yX6_many ∈ WG := wg_t 1098 (by decide +kernel) (by decide +kernel)
theorem kV_X6_37 : KV RX6 37 RX6 yX6_many cX6_many 7 (some .int) 1 := KV.of wMl_X6_37 wIm_X6_many wSe_X6_many wIn_X6 wCo_X6_many (by decide +kernel)
theorem wMl_Jxa1e45_1 : .methodLink RJxa1e45 1 objectInit ∈ WG := wg_t 44 (by decide +kernel) (by decide +kernel)
theorem wMl_Jxc12de_1 : .methodLink RJxc12de 1 yJxa1e45_init_da8c8 ∈ WG := wg_t 41 (by decide +kernel) (by decide +kernel)
theorem wCo_Jxa1e45_init_da8c8 : .code yJxa1e45_init_da8c8 cJxa1e45_init_da8c8 1 none ∈ WG := wg_t 43 (by decide +kernel) (by decide +kernel)
theorem wIn_Jxa1e45 : .initialized RJxa1e45 ∈ WG := wg_t 2 (by decide +kernel) (by decide +kernel)
theorem wIm_Jxa1e45_init_da8c8 : .instanceMethod yJxa1e45_init_da8c8 ∈ WG := wg_t 42 (by decide +kernel) (by decide +kernel)
theorem kI_Jxc12de_1 : KI RJxc12de 1 yJxa1e45_init_da8c8 cJxa1e45_init_da8c8 1 0 := KI.of wMl_Jxc12de_1 wIm_Jxa1e45_init_da8c8 wIn_Jxa1e45 wCo_Jxa1e45_init_da8c8 rfl (by decide +kernel)
theorem wMl_Jx4a65c_1 : .methodLink RJx4a65c 1 yJxc12de_init_da8c8 ∈ WG := wg_t 38 (by decide +kernel) (by decide +kernel)
theorem wCo_Jxc12de_init_da8c8 : .code yJxc12de_init_da8c8 cJxc12de_init_da8c8 1 none ∈ WG := wg_t 40 (by decide +kernel) (by decide +kernel)
theorem wIn_Jxc12de : .initialized RJxc12de ∈ WG := wg_t 3 (by decide +kernel) (by decide +kernel)
theorem wIm_Jxc12de_init_da8c8 : .instanceMethod yJxc12de_init_da8c8 ∈ WG := wg_t 39 (by decide +kernel) (by decide +kernel)
theorem kI_Jx4a65c_1 : KI RJx4a65c 1 yJxc12de_init_da8c8 cJxc12de_init_da8c8 1 0 := KI.of wMl_Jx4a65c_1 wIm_Jxc12de_init_da8c8 wIn_Jxc12de wCo_Jxc12de_init_da8c8 rfl (by decide +kernel)
theorem wMl_Jx4a65c_66 : .methodLink RJx4a65c 66 yJ7_copyOf_1904c ∈ WG := wg_t 525 (by decide +kernel) (by decide +kernel)
theorem wCo_J7_copyOf_1904c : .code yJ7_copyOf_1904c cJ7_copyOf_1904c 2 (some (.array (.object "java/lang/Object"))) ∈ WG := wg_t 527 (by decide +kernel) (by decide +kernel)
theorem wIn_J7 : .initialized RJ7 ∈ WG := wg_t 14 (by decide +kernel) (by decide +kernel)
theorem wSt_J7_copyOf_1904c : .static yJ7_copyOf_1904c ∈ WG := wg_t 526 (by decide +kernel) (by decide +kernel)
theorem kS_Jx4a65c_66 : KS RJx4a65c 66 yJ7_copyOf_1904c cJ7_copyOf_1904c 2 (some (.array (.object "java/lang/Object"))) 2 := KS.of wMl_Jx4a65c_66 wSt_J7_copyOf_1904c wIn_J7 wCo_J7_copyOf_1904c (by decide +kernel)
theorem wMl_Jx4a65c_69 : .methodLink RJx4a65c 69 yJx4a65c_grow_92f84 ∈ WG := wg_t 511 (by decide +kernel) (by decide +kernel)
theorem wCo_Jx4a65c_grow_92f84 : .code yJx4a65c_grow_92f84 cJx4a65c_grow_92f84 4 (some (.array (.object "java/lang/Object"))) ∈ WG := wg_t 514 (by decide +kernel) (by decide +kernel)
theorem wIm_Jx4a65c_grow_92f84 : .instanceMethod yJx4a65c_grow_92f84 ∈ WG := wg_t 513 (by decide +kernel) (by decide +kernel)
theorem wSe_Jx4a65c_grow_92f84 : .selects RJx4a65c yJx4a65c_grow_92f84 yJx4a65c_grow_92f84 ∈ WG := wg_s 29 (by decide +kernel) (by decide +kernel)
theorem kV_Jx4a65c_69 : KV RJx4a65c 69 RJx4a65c yJx4a65c_grow_92f84 cJx4a65c_grow_92f84 4 (some (.array (.object "java/lang/Object"))) 1 := KV.of wMl_Jx4a65c_69 wIm_Jx4a65c_grow_92f84 wSe_Jx4a65c_grow_92f84 wIn_Jx4a65c wCo_Jx4a65c_grow_92f84 (by decide +kernel)
theorem wMl_Jx4a65c_73 : .methodLink RJx4a65c 73 yJ8_newLength_cabcc ∈ WG := wg_t 515 (by decide +kernel) (by decide +kernel)
theorem wCo_J8_newLength_cabcc : .code yJ8_newLength_cabcc cJ8_newLength_cabcc 4 (some .int) ∈ WG := wg_t 517 (by decide +kernel) (by decide +kernel)
theorem wIn_J8 : .initialized RJ8 ∈ WG := wg_t 12 (by decide +kernel) (by decide +kernel)
theorem wSt_J8_newLength_cabcc : .static yJ8_newLength_cabcc ∈ WG := wg_t 516 (by decide +kernel) (by decide +kernel)
theorem kS_Jx4a65c_73 : KS RJx4a65c 73 yJ8_newLength_cabcc cJ8_newLength_cabcc 4 (some .int) 3 := KS.of wMl_Jx4a65c_73 wSt_J8_newLength_cabcc wIn_J8 wCo_J8_newLength_cabcc (by decide +kernel)
theorem wMl_Jx4a65c_79 : .methodLink RJx4a65c 79 yJ9_max_7cf53 ∈ WG := wg_t 557 (by decide +kernel) (by decide +kernel)
theorem wCo_J9_max_7cf53 : .code yJ9_max_7cf53 cJ9_max_7cf53 2 (some .int) ∈ WG := wg_t 520 (by decide +kernel) (by decide +kernel)
theorem wSt_J9_max_7cf53 : .static yJ9_max_7cf53 ∈ WG := wg_t 519 (by decide +kernel) (by decide +kernel)
theorem kS_Jx4a65c_79 : KS RJx4a65c 79 yJ9_max_7cf53 cJ9_max_7cf53 2 (some .int) 2 := KS.of wMl_Jx4a65c_79 wSt_J9_max_7cf53 wIn_J9 wCo_J9_max_7cf53 (by decide +kernel)
theorem wMl_Jx4a65c_118 : .methodLink RJx4a65c 118 yJ15_checkIndex_7cf53 ∈ WG := wg_t 97 (by decide +kernel) (by decide +kernel)
theorem wCo_J15_checkIndex_7cf53 : .code yJ15_checkIndex_7cf53 cJ15_checkIndex_7cf53 2 (some .int) ∈ WG := wg_t 99 (by decide +kernel) (by decide +kernel)
theorem wIn_J15 : .initialized RJ15 ∈ WG := wg_t 20 (by decide +kernel) (by decide +kernel)
theorem wSt_J15_checkIndex_7cf53 : .static yJ15_checkIndex_7cf53 ∈ WG := wg_t 98 (by decide +kernel) (by decide +kernel)
theorem kS_Jx4a65c_118 : KS RJx4a65c 118 yJ15_checkIndex_7cf53 cJ15_checkIndex_7cf53 2 (some .int) 2 := KS.of wMl_Jx4a65c_118 wSt_J15_checkIndex_7cf53 wIn_J15 wCo_J15_checkIndex_7cf53 (by decide +kernel)
theorem wMl_Jx4a65c_123 : .methodLink RJx4a65c 123 yJx4a65c_elementData_915e3 ∈ WG := wg_t 103 (by decide +kernel) (by decide +kernel)
theorem wCo_Jx4a65c_elementData_915e3 : .code yJx4a65c_elementData_915e3 cJx4a65c_elementData_915e3 2 (some (.object "java/lang/Object")) ∈ WG := wg_t 106 (by decide +kernel) (by decide +kernel)
theorem wIm_Jx4a65c_elementData_915e3 : .instanceMethod yJx4a65c_elementData_915e3 ∈ WG := wg_t 104 (by decide +kernel) (by decide +kernel)
theorem wSe_Jx4a65c_elementData_915e3 : .selects RJx4a65c yJx4a65c_elementData_915e3 yJx4a65c_elementData_915e3 ∈ WG := wg_t 105 (by decide +kernel) (by decide +kernel)
theorem kV_Jx4a65c_123 : KV RJx4a65c 123 RJx4a65c yJx4a65c_elementData_915e3 cJx4a65c_elementData_915e3 2 (some (.object "java/lang/Object")) 1 := KV.of wMl_Jx4a65c_123 wIm_Jx4a65c_elementData_915e3 wSe_Jx4a65c_elementData_915e3 wIn_Jx4a65c wCo_Jx4a65c_elementData_915e3 (by decide +kernel)
theorem wMl_Jx4a65c_129 : .methodLink RJx4a65c 129 yJx4a65c_grow_d5877 ∈ WG := wg_t 507 (by decide +kernel) (by decide +kernel)
theorem wCo_Jx4a65c_grow_d5877 : .code yJx4a65c_grow_d5877 cJx4a65c_grow_d5877 1 (some (.array (.object "java/lang/Object"))) ∈ WG := wg_t 510 (by decide +kernel) (by decide +kernel)
theorem wIm_Jx4a65c_grow_d5877 : .instanceMethod yJx4a65c_grow_d5877 ∈ WG := wg_t 509 (by decide +kernel) (by decide +kernel)
theorem wSe_Jx4a65c_grow_d5877 : .selects RJx4a65c yJx4a65c_grow_d5877 yJx4a65c_grow_d5877 ∈ WG := wg_s 28 (by decide +kernel) (by decide +kernel)
theorem kV_Jx4a65c_129 : KV RJx4a65c 129 RJx4a65c yJx4a65c_grow_d5877 cJx4a65c_grow_d5877 1 (some (.array (.object "java/lang/Object"))) 0 := KV.of wMl_Jx4a65c_129 wIm_Jx4a65c_grow_d5877 wSe_Jx4a65c_grow_d5877 wIn_Jx4a65c wCo_Jx4a65c_grow_d5877 (by decide +kernel)
theorem wMl_Jx4a65c_131 : .methodLink RJx4a65c 131 yJx4a65c_add_72be8 ∈ WG := wg_t 503 (by decide +kernel) (by decide +kernel)
theorem wCo_Jx4a65c_add_72be8 : .code yJx4a65c_add_72be8 cJx4a65c_add_72be8 4 none ∈ WG := wg_t 506 (by decide +kernel) (by decide +kernel)
theorem wIm_Jx4a65c_add_72be8 : .instanceMethod yJx4a65c_add_72be8 ∈ WG := wg_t 505 (by decide +kernel) (by decide +kernel)
theorem wSe_Jx4a65c_add_72be8 : .selects RJx4a65c yJx4a65c_add_72be8 yJx4a65c_add_72be8 ∈ WG := wg_s 27 (by decide +kernel) (by decide +kernel)
theorem kV_Jx4a65c_131 : KV RJx4a65c 131 RJx4a65c yJx4a65c_add_72be8 cJx4a65c_add_72be8 4 none 3 := KV.of wMl_Jx4a65c_131 wIm_Jx4a65c_add_72be8 wSe_Jx4a65c_add_72be8 wIn_Jx4a65c wCo_Jx4a65c_add_72be8 (by decide +kernel)
theorem wMl_Jx4a65c_269 : .methodLink RJx4a65c 269 yJx35411_init_45d68 ∈ WG := wg_t 1129 (by decide +kernel) (by decide +kernel)
theorem wCo_Jx35411_init_45d68 : .code yJx35411_init_45d68 cJx35411_init_45d68 2 none ∈ WG := wg_t 1131 (by decide +kernel) (by decide +kernel)
theorem wIn_Jx35411 : .initialized RJx35411 ∈ WG := wg_t 24 (by decide +kernel) (by decide +kernel)
theorem wIm_Jx35411_init_45d68 : .instanceMethod yJx35411_init_45d68 ∈ WG := wg_t 1130 (by decide +kernel) (by decide +kernel)
theorem kI_Jx4a65c_269 : KI RJx4a65c 269 yJx35411_init_45d68 cJx35411_init_45d68 2 1 := KI.of wMl_Jx4a65c_269 wIm_Jx35411_init_45d68 wIn_Jx35411 wCo_Jx35411_init_45d68 rfl (by decide +kernel)
theorem wMl_Jx35411_7 : .methodLink RJx35411 7 objectInit ∈ WG := wg_t 1132 (by decide +kernel) (by decide +kernel)
theorem wMl_Jx35411_31 : .methodLink RJx35411 31 yJx35411_checkForComodification_da8c8 ∈ WG := wg_t 1165 (by decide +kernel) (by decide +kernel)
theorem wCo_Jx35411_checkForComodification_da8c8 : .code yJx35411_checkForComodification_da8c8 cJx35411_checkForComodification_da8c8 1 none ∈ WG := wg_t 1168 (by decide +kernel) (by decide +kernel)
theorem wIm_Jx35411_checkForComodification_da8c8 : .instanceMethod yJx35411_checkForComodification_da8c8 ∈ WG := wg_t 1166 (by decide +kernel) (by decide +kernel)
theorem wSe_Jx35411_checkForComodification_da8c8 : .selects RJx35411 yJx35411_checkForComodification_da8c8 yJx35411_checkForComodification_da8c8 ∈ WG := wg_t 1167 (by decide +kernel) (by decide +kernel)
theorem kV_Jx35411_31 : KV RJx35411 31 RJx35411 yJx35411_checkForComodification_da8c8 cJx35411_checkForComodification_da8c8 1 none 0 := KV.of wMl_Jx35411_31 wIm_Jx35411_checkForComodification_da8c8 wSe_Jx35411_checkForComodification_da8c8 wIn_Jx35411 wCo_Jx35411_checkForComodification_da8c8 (by decide +kernel)
theorem wMl_J7_300 : .methodLink RJ7 300 yJ7_copyOf_6403c ∈ WG := wg_t 545 (by decide +kernel) (by decide +kernel)
theorem wCo_J7_copyOf_6403c : .code yJ7_copyOf_6403c cJ7_copyOf_6403c 4 (some (.array (.object "java/lang/Object"))) ∈ WG := wg_t 547 (by decide +kernel) (by decide +kernel)
theorem wSt_J7_copyOf_6403c : .static yJ7_copyOf_6403c ∈ WG := wg_t 546 (by decide +kernel) (by decide +kernel)
theorem kS_J7_300 : KS RJ7 300 yJ7_copyOf_6403c cJ7_copyOf_6403c 4 (some (.array (.object "java/lang/Object"))) 3 := KS.of wMl_J7_300 wSt_J7_copyOf_6403c wIn_J7 wCo_J7_copyOf_6403c (by decide +kernel)
theorem wMl_J7_304 : .methodLink RJ7 304 yJ9_min_7cf53 ∈ WG := wg_t 551 (by decide +kernel) (by decide +kernel)
theorem wCo_J9_min_7cf53 : .code yJ9_min_7cf53 cJ9_min_7cf53 2 (some .int) ∈ WG := wg_t 553 (by decide +kernel) (by decide +kernel)
theorem wSt_J9_min_7cf53 : .static yJ9_min_7cf53 ∈ WG := wg_t 552 (by decide +kernel) (by decide +kernel)
theorem kS_J7_304 : KS RJ7 304 yJ9_min_7cf53 cJ9_min_7cf53 2 (some .int) 2 := KS.of wMl_J7_304 wSt_J9_min_7cf53 wIn_J9 wCo_J9_min_7cf53 (by decide +kernel)
theorem wMl_J15_105 : .methodLink RJ15 105 yJ3_checkIndex_8e157 ∈ WG := wg_t 100 (by decide +kernel) (by decide +kernel)
theorem wCo_J3_checkIndex_8e157 : .code yJ3_checkIndex_8e157 cJ3_checkIndex_8e157 3 (some .int) ∈ WG := wg_t 102 (by decide +kernel) (by decide +kernel)
theorem wIn_J3 : .initialized RJ3 ∈ WG := wg_t 21 (by decide +kernel) (by decide +kernel)
theorem wSt_J3_checkIndex_8e157 : .static yJ3_checkIndex_8e157 ∈ WG := wg_t 101 (by decide +kernel) (by decide +kernel)
theorem kS_J15_105 : KS RJ15 105 yJ3_checkIndex_8e157 cJ3_checkIndex_8e157 3 (some .int) 3 := KS.of wMl_J15_105 wSt_J3_checkIndex_8e157 wIn_J3 wCo_J3_checkIndex_8e157 (by decide +kernel)
theorem wMl_J8_194 : .methodLink RJ8 194 yJ9_max_7cf53 ∈ WG := wg_t 518 (by decide +kernel) (by decide +kernel)
theorem kS_J8_194 : KS RJ8 194 yJ9_max_7cf53 cJ9_max_7cf53 2 (some .int) 2 := KS.of wMl_J8_194 wSt_J9_max_7cf53 wIn_J9 wCo_J9_max_7cf53 (by decide +kernel)
theorem wMl_J8_201 : .methodLink RJ8 201 yJ8_hugeLength_7cf53 ∈ WG := wg_t 522 (by decide +kernel) (by decide +kernel)
theorem wCo_J8_hugeLength_7cf53 : .code yJ8_hugeLength_7cf53 cJ8_hugeLength_7cf53 3 (some .int) ∈ WG := wg_t 524 (by decide +kernel) (by decide +kernel)
theorem wSt_J8_hugeLength_7cf53 : .static yJ8_hugeLength_7cf53 ∈ WG := wg_t 523 (by decide +kernel) (by decide +kernel)
theorem kS_J8_201 : KS RJ8 201 yJ8_hugeLength_7cf53 cJ8_hugeLength_7cf53 3 (some .int) 2 := KS.of wMl_J8_201 wSt_J8_hugeLength_7cf53 wIn_J8 wCo_J8_hugeLength_7cf53 (by decide +kernel)
theorem wIa_X3 : .instantiable RX3 6 ∈ WG := wg_t 26 (by decide +kernel) (by decide +kernel)
theorem wIa_Jx4a65c : .instantiable RJx4a65c 3 ∈ WG := wg_t 34 (by decide +kernel) (by decide +kernel)
theorem wIa_X2 : .instantiable RX2 10 ∈ WG := wg_t 452 (by decide +kernel) (by decide +kernel)
theorem wIa_X0 : .instantiable RX0 11 ∈ WG := wg_t 568 (by decide +kernel) (by decide +kernel)
theorem wIa_X1 : .instantiable RX1 11 ∈ WG := wg_t 659 (by decide +kernel) (by decide +kernel)
theorem wIa_X7 : .instantiable RX7 7 ∈ WG := wg_t 839 (by decide +kernel) (by decide +kernel)
theorem wIa_X6 : .instantiable RX6 8 ∈ WG := wg_t 889 (by decide +kernel) (by decide +kernel)
theorem wIa_X4 : .instantiable RX4 10 ∈ WG := wg_t 933 (by decide +kernel) (by decide +kernel)
theorem wIa_X5 : .instantiable RX5 11 ∈ WG := wg_t 1024 (by decide +kernel) (by decide +kernel)
theorem wIa_Jx35411 : .instantiable RJx35411 4 ∈ WG := wg_t 1128 (by decide +kernel) (by decide +kernel)
end
section
theorem zz_last : True := trivial
end
