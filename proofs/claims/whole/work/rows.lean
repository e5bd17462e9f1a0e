section
-- ===== PART A: goes FIRST, ahead of the names: the tables' words, and 'selects' of the private methods out of them =====
/-- a private method of a class that the tables say can be made, by its rows of tables_1 -/
def lw_okq (q : MethodName × Nat) : Prop := (q.1.cls ≠ "java/lang/invoke/MethodHandle" ∧ q.1.cls ≠ "java/lang/invoke/VarHandle") ∧ Cond.instantiable q.1.cls q.2 ∈ tables_1 ∧ Cond.privateMethod q.1 ∈ tables_1 ∧ Cond.instanceMethod q.1 ∈ tables_1
theorem lw_p0 : lw_okq (⟨"MovingHills", "opened", "(LMovingHills$Shelf;III)I"⟩, 11) := ⟨⟨by decide +kernel, by decide +kernel⟩, List.mem_of_getElem? (i := 12) (by decide +kernel), List.mem_of_getElem? (i := 248) (by decide +kernel), List.mem_of_getElem? (i := 249) (by decide +kernel)⟩
theorem lw_p1 : lw_okq (⟨"MovingHills", "find", "(I)I"⟩, 11) := ⟨⟨by decide +kernel, by decide +kernel⟩, List.mem_of_getElem? (i := 12) (by decide +kernel), List.mem_of_getElem? (i := 256) (by decide +kernel), List.mem_of_getElem? (i := 257) (by decide +kernel)⟩
theorem lw_p2 : lw_okq (⟨"MovingHills", "placeRefusal", "(LMovingHills$Shelf;II)I"⟩, 11) := ⟨⟨by decide +kernel, by decide +kernel⟩, List.mem_of_getElem? (i := 12) (by decide +kernel), List.mem_of_getElem? (i := 269) (by decide +kernel), List.mem_of_getElem? (i := 270) (by decide +kernel)⟩
theorem lw_p3 : lw_okq (⟨"MovingHills", "tell", "(II)I"⟩, 11) := ⟨⟨by decide +kernel, by decide +kernel⟩, List.mem_of_getElem? (i := 12) (by decide +kernel), List.mem_of_getElem? (i := 294) (by decide +kernel), List.mem_of_getElem? (i := 295) (by decide +kernel)⟩
theorem lw_p4 : lw_okq (⟨"MovingHills$Reading", "behindBlanks", "(LMovingHills$Shelf;II)I"⟩, 6) := ⟨⟨by decide +kernel, by decide +kernel⟩, List.mem_of_getElem? (i := 40) (by decide +kernel), List.mem_of_getElem? (i := 352) (by decide +kernel), List.mem_of_getElem? (i := 353) (by decide +kernel)⟩
theorem lw_p5 : lw_okq (⟨"MovingHills$Reading", "behindHeights", "(LMovingHills$Shelf;II)I"⟩, 6) := ⟨⟨by decide +kernel, by decide +kernel⟩, List.mem_of_getElem? (i := 40) (by decide +kernel), List.mem_of_getElem? (i := 357) (by decide +kernel), List.mem_of_getElem? (i := 358) (by decide +kernel)⟩
theorem lw_p6 : lw_okq (⟨"MovingHills$Reading", "bandFault", "(LMovingHills$Shelf;II)I"⟩, 6) := ⟨⟨by decide +kernel, by decide +kernel⟩, List.mem_of_getElem? (i := 40) (by decide +kernel), List.mem_of_getElem? (i := 365) (by decide +kernel), List.mem_of_getElem? (i := 366) (by decide +kernel)⟩
theorem lw_p7 : lw_okq (⟨"MovingHills$Aside", "startFromNow", "()V"⟩, 8) := ⟨⟨by decide +kernel, by decide +kernel⟩, List.mem_of_getElem? (i := 127) (by decide +kernel), List.mem_of_getElem? (i := 437) (by decide +kernel), List.mem_of_getElem? (i := 438) (by decide +kernel)⟩
theorem lw_p8 : lw_okq (⟨"MovingHills$Land", "shift", "([IIII)I"⟩, 12) := ⟨⟨by decide +kernel, by decide +kernel⟩, List.mem_of_getElem? (i := 71) (by decide +kernel), List.mem_of_getElem? (i := 449) (by decide +kernel), List.mem_of_getElem? (i := 450) (by decide +kernel)⟩
theorem lw_p9 : lw_okq (⟨"MovingHills$Aside", "isSame", "([I[I)Z"⟩, 8) := ⟨⟨by decide +kernel, by decide +kernel⟩, List.mem_of_getElem? (i := 127) (by decide +kernel), List.mem_of_getElem? (i := 556) (by decide +kernel), List.mem_of_getElem? (i := 557) (by decide +kernel)⟩
theorem lw_p10 : lw_okq (⟨"MovingHills", "extreme", "(II)I"⟩, 11) := ⟨⟨by decide +kernel, by decide +kernel⟩, List.mem_of_getElem? (i := 12) (by decide +kernel), List.mem_of_getElem? (i := 580) (by decide +kernel), List.mem_of_getElem? (i := 581) (by decide +kernel)⟩
theorem lw_p11 : lw_okq (⟨"MovingHills$Plan", "mostTakenFrom", "(I)I"⟩, 12) := ⟨⟨by decide +kernel, by decide +kernel⟩, List.mem_of_getElem? (i := 162) (by decide +kernel), List.mem_of_getElem? (i := 597) (by decide +kernel), List.mem_of_getElem? (i := 598) (by decide +kernel)⟩
theorem lw_p12 : lw_okq (⟨"MovingHills$Plan", "mostTakenBy", "(II)I"⟩, 12) := ⟨⟨by decide +kernel, by decide +kernel⟩, List.mem_of_getElem? (i := 162) (by decide +kernel), List.mem_of_getElem? (i := 601) (by decide +kernel), List.mem_of_getElem? (i := 602) (by decide +kernel)⟩
theorem lw_p13 : lw_okq (⟨"MovingHills$Plan", "seek", "(III)V"⟩, 12) := ⟨⟨by decide +kernel, by decide +kernel⟩, List.mem_of_getElem? (i := 162) (by decide +kernel), List.mem_of_getElem? (i := 615) (by decide +kernel), List.mem_of_getElem? (i := 616) (by decide +kernel)⟩
theorem lw_p14 : lw_okq (⟨"MovingHills$Plan", "isWithinReach", "([II)Z"⟩, 12) := ⟨⟨by decide +kernel, by decide +kernel⟩, List.mem_of_getElem? (i := 162) (by decide +kernel), List.mem_of_getElem? (i := 619) (by decide +kernel), List.mem_of_getElem? (i := 620) (by decide +kernel)⟩
theorem lw_p15 : lw_okq (⟨"MovingHills$Plan", "isPlayedForUse", "([II)Z"⟩, 12) := ⟨⟨by decide +kernel, by decide +kernel⟩, List.mem_of_getElem? (i := 162) (by decide +kernel), List.mem_of_getElem? (i := 623) (by decide +kernel), List.mem_of_getElem? (i := 624) (by decide +kernel)⟩
def lw_privs_1 : List (MethodName × Nat) := [(⟨"MovingHills", "opened", "(LMovingHills$Shelf;III)I"⟩, 11), (⟨"MovingHills", "find", "(I)I"⟩, 11), (⟨"MovingHills", "placeRefusal", "(LMovingHills$Shelf;II)I"⟩, 11), (⟨"MovingHills", "tell", "(II)I"⟩, 11), (⟨"MovingHills$Reading", "behindBlanks", "(LMovingHills$Shelf;II)I"⟩, 6), (⟨"MovingHills$Reading", "behindHeights", "(LMovingHills$Shelf;II)I"⟩, 6), (⟨"MovingHills$Reading", "bandFault", "(LMovingHills$Shelf;II)I"⟩, 6), (⟨"MovingHills$Aside", "startFromNow", "()V"⟩, 8), (⟨"MovingHills$Land", "shift", "([IIII)I"⟩, 12), (⟨"MovingHills$Aside", "isSame", "([I[I)Z"⟩, 8), (⟨"MovingHills", "extreme", "(II)I"⟩, 11), (⟨"MovingHills$Plan", "mostTakenFrom", "(I)I"⟩, 12), (⟨"MovingHills$Plan", "mostTakenBy", "(II)I"⟩, 12), (⟨"MovingHills$Plan", "seek", "(III)V"⟩, 12), (⟨"MovingHills$Plan", "isWithinReach", "([II)Z"⟩, 12), (⟨"MovingHills$Plan", "isPlayedForUse", "([II)Z"⟩, 12)]
theorem lw_r1 : ∀ q ∈ lw_privs_1, lw_okq q := List.forall_mem_cons.mpr ⟨lw_p0, List.forall_mem_cons.mpr ⟨lw_p1, List.forall_mem_cons.mpr ⟨lw_p2, List.forall_mem_cons.mpr ⟨lw_p3, List.forall_mem_cons.mpr ⟨lw_p4, List.forall_mem_cons.mpr ⟨lw_p5, List.forall_mem_cons.mpr ⟨lw_p6, List.forall_mem_cons.mpr ⟨lw_p7, List.forall_mem_cons.mpr ⟨lw_p8, List.forall_mem_cons.mpr ⟨lw_p9, List.forall_mem_cons.mpr ⟨lw_p10, List.forall_mem_cons.mpr ⟨lw_p11, List.forall_mem_cons.mpr ⟨lw_p12, List.forall_mem_cons.mpr ⟨lw_p13, List.forall_mem_cons.mpr ⟨lw_p14, List.forall_mem_cons.mpr ⟨lw_p15, fun _ h => absurd h List.not_mem_nil⟩⟩⟩⟩⟩⟩⟩⟩⟩⟩⟩⟩⟩⟩⟩⟩
theorem lw_p16 : lw_okq (⟨"MovingHills", "layPlan", "(II)V"⟩, 11) := ⟨⟨by decide +kernel, by decide +kernel⟩, List.mem_of_getElem? (i := 12) (by decide +kernel), List.mem_of_getElem? (i := 628) (by decide +kernel), List.mem_of_getElem? (i := 629) (by decide +kernel)⟩
theorem lw_p17 : lw_okq (⟨"MovingHills$Plan", "mostGainedBy", "(I)I"⟩, 12) := ⟨⟨by decide +kernel, by decide +kernel⟩, List.mem_of_getElem? (i := 162) (by decide +kernel), List.mem_of_getElem? (i := 640) (by decide +kernel), List.mem_of_getElem? (i := 641) (by decide +kernel)⟩
theorem lw_p18 : lw_okq (⟨"MovingHills$Aside", "bestTurn", "(II)I"⟩, 8) := ⟨⟨by decide +kernel, by decide +kernel⟩, List.mem_of_getElem? (i := 127) (by decide +kernel), List.mem_of_getElem? (i := 666) (by decide +kernel), List.mem_of_getElem? (i := 667) (by decide +kernel)⟩
theorem lw_p19 : lw_okq (⟨"MovingHills", "groundRefusal", "(I)I"⟩, 11) := ⟨⟨by decide +kernel, by decide +kernel⟩, List.mem_of_getElem? (i := 12) (by decide +kernel), List.mem_of_getElem? (i := 674) (by decide +kernel), List.mem_of_getElem? (i := 675) (by decide +kernel)⟩
theorem lw_p20 : lw_okq (⟨"MovingHills", "fitRefusal", "(I)I"⟩, 11) := ⟨⟨by decide +kernel, by decide +kernel⟩, List.mem_of_getElem? (i := 12) (by decide +kernel), List.mem_of_getElem? (i := 678) (by decide +kernel), List.mem_of_getElem? (i := 679) (by decide +kernel)⟩
theorem lw_p21 : lw_okq (⟨"MovingHills", "isGroundOf", "(I[I)Z"⟩, 11) := ⟨⟨by decide +kernel, by decide +kernel⟩, List.mem_of_getElem? (i := 12) (by decide +kernel), List.mem_of_getElem? (i := 682) (by decide +kernel), List.mem_of_getElem? (i := 683) (by decide +kernel)⟩
theorem lw_p22 : lw_okq (⟨"MovingHills", "isStretch", "(II)Z"⟩, 11) := ⟨⟨by decide +kernel, by decide +kernel⟩, List.mem_of_getElem? (i := 12) (by decide +kernel), List.mem_of_getElem? (i := 710) (by decide +kernel), List.mem_of_getElem? (i := 711) (by decide +kernel)⟩
theorem lw_p23 : lw_okq (⟨"MovingHills", "frostByLot", "(J)I"⟩, 11) := ⟨⟨by decide +kernel, by decide +kernel⟩, List.mem_of_getElem? (i := 12) (by decide +kernel), List.mem_of_getElem? (i := 730) (by decide +kernel), List.mem_of_getElem? (i := 731) (by decide +kernel)⟩
theorem lw_p24 : lw_okq (⟨"MovingHills", "keptNow", "()I"⟩, 11) := ⟨⟨by decide +kernel, by decide +kernel⟩, List.mem_of_getElem? (i := 12) (by decide +kernel), List.mem_of_getElem? (i := 771) (by decide +kernel), List.mem_of_getElem? (i := 772) (by decide +kernel)⟩
theorem lw_p25 : lw_okq (⟨"MovingHills", "keptEvenings", "(I)I"⟩, 11) := ⟨⟨by decide +kernel, by decide +kernel⟩, List.mem_of_getElem? (i := 12) (by decide +kernel), List.mem_of_getElem? (i := 797) (by decide +kernel), List.mem_of_getElem? (i := 798) (by decide +kernel)⟩
theorem lw_p26 : lw_okq (⟨"MovingHillsModel", "meet", "(I)I"⟩, 42) := ⟨⟨by decide +kernel, by decide +kernel⟩, List.mem_of_getElem? (i := 806) (by decide +kernel), List.mem_of_getElem? (i := 949) (by decide +kernel), List.mem_of_getElem? (i := 950) (by decide +kernel)⟩
theorem lw_p27 : lw_okq (⟨"MovingHillsModel", "setRow", "(III)V"⟩, 42) := ⟨⟨by decide +kernel, by decide +kernel⟩, List.mem_of_getElem? (i := 806) (by decide +kernel), List.mem_of_getElem? (i := 953) (by decide +kernel), List.mem_of_getElem? (i := 954) (by decide +kernel)⟩
theorem lw_p28 : lw_okq (⟨"MovingHillsModel", "askedRow", "(I)I"⟩, 42) := ⟨⟨by decide +kernel, by decide +kernel⟩, List.mem_of_getElem? (i := 806) (by decide +kernel), List.mem_of_getElem? (i := 961) (by decide +kernel), List.mem_of_getElem? (i := 962) (by decide +kernel)⟩
theorem lw_p29 : lw_okq (⟨"MovingHillsModel", "rowAt", "(II)I"⟩, 42) := ⟨⟨by decide +kernel, by decide +kernel⟩, List.mem_of_getElem? (i := 806) (by decide +kernel), List.mem_of_getElem? (i := 965) (by decide +kernel), List.mem_of_getElem? (i := 966) (by decide +kernel)⟩
theorem lw_p30 : lw_okq (⟨"MovingHillsModel", "ask", "(II)I"⟩, 42) := ⟨⟨by decide +kernel, by decide +kernel⟩, List.mem_of_getElem? (i := 806) (by decide +kernel), List.mem_of_getElem? (i := 969) (by decide +kernel), List.mem_of_getElem? (i := 970) (by decide +kernel)⟩
theorem lw_p31 : lw_okq (⟨"MovingHillsModel", "askedText", "(I)I"⟩, 42) := ⟨⟨by decide +kernel, by decide +kernel⟩, List.mem_of_getElem? (i := 806) (by decide +kernel), List.mem_of_getElem? (i := 1001) (by decide +kernel), List.mem_of_getElem? (i := 1002) (by decide +kernel)⟩
def lw_privs_2 : List (MethodName × Nat) := [(⟨"MovingHills", "layPlan", "(II)V"⟩, 11), (⟨"MovingHills$Plan", "mostGainedBy", "(I)I"⟩, 12), (⟨"MovingHills$Aside", "bestTurn", "(II)I"⟩, 8), (⟨"MovingHills", "groundRefusal", "(I)I"⟩, 11), (⟨"MovingHills", "fitRefusal", "(I)I"⟩, 11), (⟨"MovingHills", "isGroundOf", "(I[I)Z"⟩, 11), (⟨"MovingHills", "isStretch", "(II)Z"⟩, 11), (⟨"MovingHills", "frostByLot", "(J)I"⟩, 11), (⟨"MovingHills", "keptNow", "()I"⟩, 11), (⟨"MovingHills", "keptEvenings", "(I)I"⟩, 11), (⟨"MovingHillsModel", "meet", "(I)I"⟩, 42), (⟨"MovingHillsModel", "setRow", "(III)V"⟩, 42), (⟨"MovingHillsModel", "askedRow", "(I)I"⟩, 42), (⟨"MovingHillsModel", "rowAt", "(II)I"⟩, 42), (⟨"MovingHillsModel", "ask", "(II)I"⟩, 42), (⟨"MovingHillsModel", "askedText", "(I)I"⟩, 42)]
theorem lw_r2 : ∀ q ∈ lw_privs_2, lw_okq q := List.forall_mem_cons.mpr ⟨lw_p16, List.forall_mem_cons.mpr ⟨lw_p17, List.forall_mem_cons.mpr ⟨lw_p18, List.forall_mem_cons.mpr ⟨lw_p19, List.forall_mem_cons.mpr ⟨lw_p20, List.forall_mem_cons.mpr ⟨lw_p21, List.forall_mem_cons.mpr ⟨lw_p22, List.forall_mem_cons.mpr ⟨lw_p23, List.forall_mem_cons.mpr ⟨lw_p24, List.forall_mem_cons.mpr ⟨lw_p25, List.forall_mem_cons.mpr ⟨lw_p26, List.forall_mem_cons.mpr ⟨lw_p27, List.forall_mem_cons.mpr ⟨lw_p28, List.forall_mem_cons.mpr ⟨lw_p29, List.forall_mem_cons.mpr ⟨lw_p30, List.forall_mem_cons.mpr ⟨lw_p31, fun _ h => absurd h List.not_mem_nil⟩⟩⟩⟩⟩⟩⟩⟩⟩⟩⟩⟩⟩⟩⟩⟩
theorem lw_p32 : lw_okq (⟨"MovingHillsModel", "goesOn", "(I)I"⟩, 42) := ⟨⟨by decide +kernel, by decide +kernel⟩, List.mem_of_getElem? (i := 806) (by decide +kernel), List.mem_of_getElem? (i := 1009) (by decide +kernel), List.mem_of_getElem? (i := 1010) (by decide +kernel)⟩
theorem lw_p33 : lw_okq (⟨"MovingHillsModel", "here", "(I)I"⟩, 42) := ⟨⟨by decide +kernel, by decide +kernel⟩, List.mem_of_getElem? (i := 806) (by decide +kernel), List.mem_of_getElem? (i := 1013) (by decide +kernel), List.mem_of_getElem? (i := 1014) (by decide +kernel)⟩
theorem lw_p34 : lw_okq (⟨"MovingHillsModel", "readsGround", "(I)Z"⟩, 42) := ⟨⟨by decide +kernel, by decide +kernel⟩, List.mem_of_getElem? (i := 806) (by decide +kernel), List.mem_of_getElem? (i := 1017) (by decide +kernel), List.mem_of_getElem? (i := 1018) (by decide +kernel)⟩
theorem lw_p35 : lw_okq (⟨"MovingHillsModel", "readsBand", "(I)Z"⟩, 42) := ⟨⟨by decide +kernel, by decide +kernel⟩, List.mem_of_getElem? (i := 806) (by decide +kernel), List.mem_of_getElem? (i := 1021) (by decide +kernel), List.mem_of_getElem? (i := 1022) (by decide +kernel)⟩
theorem lw_p36 : lw_okq (⟨"MovingHillsModel", "isSpot", "(I)Z"⟩, 42) := ⟨⟨by decide +kernel, by decide +kernel⟩, List.mem_of_getElem? (i := 806) (by decide +kernel), List.mem_of_getElem? (i := 1036) (by decide +kernel), List.mem_of_getElem? (i := 1037) (by decide +kernel)⟩
theorem lw_p37 : lw_okq (⟨"MovingHillsModel", "isBand", "(I)Z"⟩, 42) := ⟨⟨by decide +kernel, by decide +kernel⟩, List.mem_of_getElem? (i := 806) (by decide +kernel), List.mem_of_getElem? (i := 1044) (by decide +kernel), List.mem_of_getElem? (i := 1045) (by decide +kernel)⟩
theorem lw_p38 : lw_okq (⟨"MovingHillsModel", "bandOf", "(II)I"⟩, 42) := ⟨⟨by decide +kernel, by decide +kernel⟩, List.mem_of_getElem? (i := 806) (by decide +kernel), List.mem_of_getElem? (i := 1048) (by decide +kernel), List.mem_of_getElem? (i := 1049) (by decide +kernel)⟩
theorem lw_p39 : lw_okq (⟨"MovingHillsModel", "heardOf", "(I)I"⟩, 42) := ⟨⟨by decide +kernel, by decide +kernel⟩, List.mem_of_getElem? (i := 806) (by decide +kernel), List.mem_of_getElem? (i := 1052) (by decide +kernel), List.mem_of_getElem? (i := 1053) (by decide +kernel)⟩
theorem lw_p40 : lw_okq (⟨"MovingHillsModel", "isHeard", "(II)Z"⟩, 42) := ⟨⟨by decide +kernel, by decide +kernel⟩, List.mem_of_getElem? (i := 806) (by decide +kernel), List.mem_of_getElem? (i := 1056) (by decide +kernel), List.mem_of_getElem? (i := 1057) (by decide +kernel)⟩
theorem lw_p41 : lw_okq (⟨"MovingHillsModel", "reachOf", "(I)I"⟩, 42) := ⟨⟨by decide +kernel, by decide +kernel⟩, List.mem_of_getElem? (i := 806) (by decide +kernel), List.mem_of_getElem? (i := 1063) (by decide +kernel), List.mem_of_getElem? (i := 1064) (by decide +kernel)⟩
theorem lw_p42 : lw_okq (⟨"MovingHillsModel", "isA", "(II)Z"⟩, 42) := ⟨⟨by decide +kernel, by decide +kernel⟩, List.mem_of_getElem? (i := 806) (by decide +kernel), List.mem_of_getElem? (i := 1071) (by decide +kernel), List.mem_of_getElem? (i := 1072) (by decide +kernel)⟩
theorem lw_p43 : lw_okq (⟨"MovingHillsModel", "wouldMove", "(II)I"⟩, 42) := ⟨⟨by decide +kernel, by decide +kernel⟩, List.mem_of_getElem? (i := 806) (by decide +kernel), List.mem_of_getElem? (i := 1075) (by decide +kernel), List.mem_of_getElem? (i := 1076) (by decide +kernel)⟩
theorem lw_p44 : lw_okq (⟨"MovingHillsModel", "write", "([II)V"⟩, 42) := ⟨⟨by decide +kernel, by decide +kernel⟩, List.mem_of_getElem? (i := 806) (by decide +kernel), List.mem_of_getElem? (i := 1079) (by decide +kernel), List.mem_of_getElem? (i := 1080) (by decide +kernel)⟩
theorem lw_p45 : lw_okq (⟨"MovingHillsModel", "play", "(II)I"⟩, 42) := ⟨⟨by decide +kernel, by decide +kernel⟩, List.mem_of_getElem? (i := 806) (by decide +kernel), List.mem_of_getElem? (i := 1083) (by decide +kernel), List.mem_of_getElem? (i := 1084) (by decide +kernel)⟩
theorem lw_p46 : lw_okq (⟨"MovingHillsModel", "goSpot", "(IIZ)I"⟩, 42) := ⟨⟨by decide +kernel, by decide +kernel⟩, List.mem_of_getElem? (i := 806) (by decide +kernel), List.mem_of_getElem? (i := 1087) (by decide +kernel), List.mem_of_getElem? (i := 1088) (by decide +kernel)⟩
theorem lw_p47 : lw_okq (⟨"MovingHillsModel", "inchesOf", "(II)I"⟩, 42) := ⟨⟨by decide +kernel, by decide +kernel⟩, List.mem_of_getElem? (i := 806) (by decide +kernel), List.mem_of_getElem? (i := 1091) (by decide +kernel), List.mem_of_getElem? (i := 1092) (by decide +kernel)⟩
def lw_privs_3 : List (MethodName × Nat) := [(⟨"MovingHillsModel", "goesOn", "(I)I"⟩, 42), (⟨"MovingHillsModel", "here", "(I)I"⟩, 42), (⟨"MovingHillsModel", "readsGround", "(I)Z"⟩, 42), (⟨"MovingHillsModel", "readsBand", "(I)Z"⟩, 42), (⟨"MovingHillsModel", "isSpot", "(I)Z"⟩, 42), (⟨"MovingHillsModel", "isBand", "(I)Z"⟩, 42), (⟨"MovingHillsModel", "bandOf", "(II)I"⟩, 42), (⟨"MovingHillsModel", "heardOf", "(I)I"⟩, 42), (⟨"MovingHillsModel", "isHeard", "(II)Z"⟩, 42), (⟨"MovingHillsModel", "reachOf", "(I)I"⟩, 42), (⟨"MovingHillsModel", "isA", "(II)Z"⟩, 42), (⟨"MovingHillsModel", "wouldMove", "(II)I"⟩, 42), (⟨"MovingHillsModel", "write", "([II)V"⟩, 42), (⟨"MovingHillsModel", "play", "(II)I"⟩, 42), (⟨"MovingHillsModel", "goSpot", "(IIZ)I"⟩, 42), (⟨"MovingHillsModel", "inchesOf", "(II)I"⟩, 42)]
theorem lw_r3 : ∀ q ∈ lw_privs_3, lw_okq q := List.forall_mem_cons.mpr ⟨lw_p32, List.forall_mem_cons.mpr ⟨lw_p33, List.forall_mem_cons.mpr ⟨lw_p34, List.forall_mem_cons.mpr ⟨lw_p35, List.forall_mem_cons.mpr ⟨lw_p36, List.forall_mem_cons.mpr ⟨lw_p37, List.forall_mem_cons.mpr ⟨lw_p38, List.forall_mem_cons.mpr ⟨lw_p39, List.forall_mem_cons.mpr ⟨lw_p40, List.forall_mem_cons.mpr ⟨lw_p41, List.forall_mem_cons.mpr ⟨lw_p42, List.forall_mem_cons.mpr ⟨lw_p43, List.forall_mem_cons.mpr ⟨lw_p44, List.forall_mem_cons.mpr ⟨lw_p45, List.forall_mem_cons.mpr ⟨lw_p46, List.forall_mem_cons.mpr ⟨lw_p47, fun _ h => absurd h List.not_mem_nil⟩⟩⟩⟩⟩⟩⟩⟩⟩⟩⟩⟩⟩⟩⟩⟩
theorem lw_p48 : lw_okq (⟨"MovingHillsModel", "read", "([II)V"⟩, 42) := ⟨⟨by decide +kernel, by decide +kernel⟩, List.mem_of_getElem? (i := 806) (by decide +kernel), List.mem_of_getElem? (i := 1098) (by decide +kernel), List.mem_of_getElem? (i := 1099) (by decide +kernel)⟩
theorem lw_p49 : lw_okq (⟨"MovingHillsModel", "isSet", "(I)Z"⟩, 42) := ⟨⟨by decide +kernel, by decide +kernel⟩, List.mem_of_getElem? (i := 806) (by decide +kernel), List.mem_of_getElem? (i := 1106) (by decide +kernel), List.mem_of_getElem? (i := 1107) (by decide +kernel)⟩
theorem lw_p50 : lw_okq (⟨"MovingHillsModel", "isProgram", "(I)Z"⟩, 42) := ⟨⟨by decide +kernel, by decide +kernel⟩, List.mem_of_getElem? (i := 806) (by decide +kernel), List.mem_of_getElem? (i := 1118) (by decide +kernel), List.mem_of_getElem? (i := 1119) (by decide +kernel)⟩
theorem lw_p51 : lw_okq (⟨"MovingHillsModel", "programs", "()I"⟩, 42) := ⟨⟨by decide +kernel, by decide +kernel⟩, List.mem_of_getElem? (i := 806) (by decide +kernel), List.mem_of_getElem? (i := 1122) (by decide +kernel), List.mem_of_getElem? (i := 1123) (by decide +kernel)⟩
theorem lw_p52 : lw_okq (⟨"MovingHillsModel", "goEvening", "(I)I"⟩, 42) := ⟨⟨by decide +kernel, by decide +kernel⟩, List.mem_of_getElem? (i := 806) (by decide +kernel), List.mem_of_getElem? (i := 1126) (by decide +kernel), List.mem_of_getElem? (i := 1127) (by decide +kernel)⟩
theorem lw_p53 : lw_okq (⟨"MovingHillsModel", "passEvening", "(I)I"⟩, 42) := ⟨⟨by decide +kernel, by decide +kernel⟩, List.mem_of_getElem? (i := 806) (by decide +kernel), List.mem_of_getElem? (i := 1130) (by decide +kernel), List.mem_of_getElem? (i := 1131) (by decide +kernel)⟩
theorem lw_p54 : lw_okq (⟨"MovingHillsModel", "breathOf", "(I)I"⟩, 42) := ⟨⟨by decide +kernel, by decide +kernel⟩, List.mem_of_getElem? (i := 806) (by decide +kernel), List.mem_of_getElem? (i := 1137) (by decide +kernel), List.mem_of_getElem? (i := 1138) (by decide +kernel)⟩
theorem lw_p55 : lw_okq (⟨"MovingHillsModel", "allHigh", "()I"⟩, 42) := ⟨⟨by decide +kernel, by decide +kernel⟩, List.mem_of_getElem? (i := 806) (by decide +kernel), List.mem_of_getElem? (i := 1150) (by decide +kernel), List.mem_of_getElem? (i := 1151) (by decide +kernel)⟩
theorem lw_p56 : lw_okq (⟨"MovingHillsModel", "putAhead", "()V"⟩, 42) := ⟨⟨by decide +kernel, by decide +kernel⟩, List.mem_of_getElem? (i := 806) (by decide +kernel), List.mem_of_getElem? (i := 1166) (by decide +kernel), List.mem_of_getElem? (i := 1167) (by decide +kernel)⟩
theorem lw_p57 : lw_okq (⟨"MovingHillsModel", "comeBack", "()V"⟩, 42) := ⟨⟨by decide +kernel, by decide +kernel⟩, List.mem_of_getElem? (i := 806) (by decide +kernel), List.mem_of_getElem? (i := 1170) (by decide +kernel), List.mem_of_getElem? (i := 1171) (by decide +kernel)⟩
theorem lw_p58 : lw_okq (⟨"MovingHillsModel", "highestNow", "()I"⟩, 42) := ⟨⟨by decide +kernel, by decide +kernel⟩, List.mem_of_getElem? (i := 806) (by decide +kernel), List.mem_of_getElem? (i := 1178) (by decide +kernel), List.mem_of_getElem? (i := 1179) (by decide +kernel)⟩
theorem lw_p59 : lw_okq (⟨"MovingHillsModel", "topOf", "(II)I"⟩, 42) := ⟨⟨by decide +kernel, by decide +kernel⟩, List.mem_of_getElem? (i := 806) (by decide +kernel), List.mem_of_getElem? (i := 1182) (by decide +kernel), List.mem_of_getElem? (i := 1183) (by decide +kernel)⟩
theorem lw_p60 : lw_okq (⟨"MovingHillsModel", "setWas", "()V"⟩, 42) := ⟨⟨by decide +kernel, by decide +kernel⟩, List.mem_of_getElem? (i := 806) (by decide +kernel), List.mem_of_getElem? (i := 1186) (by decide +kernel), List.mem_of_getElem? (i := 1187) (by decide +kernel)⟩
theorem lw_p61 : lw_okq (⟨"MovingHillsModel", "isWas", "()Z"⟩, 42) := ⟨⟨by decide +kernel, by decide +kernel⟩, List.mem_of_getElem? (i := 806) (by decide +kernel), List.mem_of_getElem? (i := 1190) (by decide +kernel), List.mem_of_getElem? (i := 1191) (by decide +kernel)⟩
theorem lw_p62 : lw_okq (⟨"MovingHillsModel", "bestOf", "(II)I"⟩, 42) := ⟨⟨by decide +kernel, by decide +kernel⟩, List.mem_of_getElem? (i := 806) (by decide +kernel), List.mem_of_getElem? (i := 1202) (by decide +kernel), List.mem_of_getElem? (i := 1203) (by decide +kernel)⟩
theorem lw_p63 : lw_okq (⟨"MovingHillsModel", "playOn", "(III)V"⟩, 42) := ⟨⟨by decide +kernel, by decide +kernel⟩, List.mem_of_getElem? (i := 806) (by decide +kernel), List.mem_of_getElem? (i := 1215) (by decide +kernel), List.mem_of_getElem? (i := 1216) (by decide +kernel)⟩
def lw_privs_4 : List (MethodName × Nat) := [(⟨"MovingHillsModel", "read", "([II)V"⟩, 42), (⟨"MovingHillsModel", "isSet", "(I)Z"⟩, 42), (⟨"MovingHillsModel", "isProgram", "(I)Z"⟩, 42), (⟨"MovingHillsModel", "programs", "()I"⟩, 42), (⟨"MovingHillsModel", "goEvening", "(I)I"⟩, 42), (⟨"MovingHillsModel", "passEvening", "(I)I"⟩, 42), (⟨"MovingHillsModel", "breathOf", "(I)I"⟩, 42), (⟨"MovingHillsModel", "allHigh", "()I"⟩, 42), (⟨"MovingHillsModel", "putAhead", "()V"⟩, 42), (⟨"MovingHillsModel", "comeBack", "()V"⟩, 42), (⟨"MovingHillsModel", "highestNow", "()I"⟩, 42), (⟨"MovingHillsModel", "topOf", "(II)I"⟩, 42), (⟨"MovingHillsModel", "setWas", "()V"⟩, 42), (⟨"MovingHillsModel", "isWas", "()Z"⟩, 42), (⟨"MovingHillsModel", "bestOf", "(II)I"⟩, 42), (⟨"MovingHillsModel", "playOn", "(III)V"⟩, 42)]
theorem lw_r4 : ∀ q ∈ lw_privs_4, lw_okq q := List.forall_mem_cons.mpr ⟨lw_p48, List.forall_mem_cons.mpr ⟨lw_p49, List.forall_mem_cons.mpr ⟨lw_p50, List.forall_mem_cons.mpr ⟨lw_p51, List.forall_mem_cons.mpr ⟨lw_p52, List.forall_mem_cons.mpr ⟨lw_p53, List.forall_mem_cons.mpr ⟨lw_p54, List.forall_mem_cons.mpr ⟨lw_p55, List.forall_mem_cons.mpr ⟨lw_p56, List.forall_mem_cons.mpr ⟨lw_p57, List.forall_mem_cons.mpr ⟨lw_p58, List.forall_mem_cons.mpr ⟨lw_p59, List.forall_mem_cons.mpr ⟨lw_p60, List.forall_mem_cons.mpr ⟨lw_p61, List.forall_mem_cons.mpr ⟨lw_p62, List.forall_mem_cons.mpr ⟨lw_p63, fun _ h => absurd h List.not_mem_nil⟩⟩⟩⟩⟩⟩⟩⟩⟩⟩⟩⟩⟩⟩⟩⟩
theorem lw_p64 : lw_okq (⟨"MovingHillsModel", "isGoal", "()Z"⟩, 42) := ⟨⟨by decide +kernel, by decide +kernel⟩, List.mem_of_getElem? (i := 806) (by decide +kernel), List.mem_of_getElem? (i := 1219) (by decide +kernel), List.mem_of_getElem? (i := 1220) (by decide +kernel)⟩
theorem lw_p65 : lw_okq (⟨"MovingHillsModel", "layBest", "(II)V"⟩, 42) := ⟨⟨by decide +kernel, by decide +kernel⟩, List.mem_of_getElem? (i := 806) (by decide +kernel), List.mem_of_getElem? (i := 1223) (by decide +kernel), List.mem_of_getElem? (i := 1224) (by decide +kernel)⟩
theorem lw_p66 : lw_okq (⟨"MovingHillsModel", "rivalOn", "(IIIII)I"⟩, 42) := ⟨⟨by decide +kernel, by decide +kernel⟩, List.mem_of_getElem? (i := 806) (by decide +kernel), List.mem_of_getElem? (i := 1239) (by decide +kernel), List.mem_of_getElem? (i := 1240) (by decide +kernel)⟩
theorem lw_p67 : lw_okq (⟨"MovingHillsModel", "askedPlayed", "(I)I"⟩, 42) := ⟨⟨by decide +kernel, by decide +kernel⟩, List.mem_of_getElem? (i := 806) (by decide +kernel), List.mem_of_getElem? (i := 1247) (by decide +kernel), List.mem_of_getElem? (i := 1248) (by decide +kernel)⟩
theorem lw_p68 : lw_okq (⟨"MovingHillsModel", "askedHeights", "(I)I"⟩, 42) := ⟨⟨by decide +kernel, by decide +kernel⟩, List.mem_of_getElem? (i := 806) (by decide +kernel), List.mem_of_getElem? (i := 1251) (by decide +kernel), List.mem_of_getElem? (i := 1252) (by decide +kernel)⟩
theorem lw_p69 : lw_okq (⟨"MovingHillsModel", "setPlayed", "(I)V"⟩, 42) := ⟨⟨by decide +kernel, by decide +kernel⟩, List.mem_of_getElem? (i := 806) (by decide +kernel), List.mem_of_getElem? (i := 1255) (by decide +kernel), List.mem_of_getElem? (i := 1256) (by decide +kernel)⟩
theorem lw_p70 : lw_okq (⟨"MovingHillsModel", "isRowNow", "(I)Z"⟩, 42) := ⟨⟨by decide +kernel, by decide +kernel⟩, List.mem_of_getElem? (i := 806) (by decide +kernel), List.mem_of_getElem? (i := 1259) (by decide +kernel), List.mem_of_getElem? (i := 1260) (by decide +kernel)⟩
theorem lw_p71 : lw_okq (⟨"MovingHillsModel", "isSpan", "(II)Z"⟩, 42) := ⟨⟨by decide +kernel, by decide +kernel⟩, List.mem_of_getElem? (i := 806) (by decide +kernel), List.mem_of_getElem? (i := 1283) (by decide +kernel), List.mem_of_getElem? (i := 1284) (by decide +kernel)⟩
theorem lw_p72 : lw_okq (⟨"MovingHillsModel", "tells", "(I)I"⟩, 42) := ⟨⟨by decide +kernel, by decide +kernel⟩, List.mem_of_getElem? (i := 806) (by decide +kernel), List.mem_of_getElem? (i := 1324) (by decide +kernel), List.mem_of_getElem? (i := 1325) (by decide +kernel)⟩
theorem lw_p73 : lw_okq (⟨"MovingHillsModel", "mix", "(I)V"⟩, 42) := ⟨⟨by decide +kernel, by decide +kernel⟩, List.mem_of_getElem? (i := 806) (by decide +kernel), List.mem_of_getElem? (i := 1344) (by decide +kernel), List.mem_of_getElem? (i := 1345) (by decide +kernel)⟩
theorem lw_p74 : lw_okq (⟨"MovingHillsModel", "mixLand", "()V"⟩, 42) := ⟨⟨by decide +kernel, by decide +kernel⟩, List.mem_of_getElem? (i := 806) (by decide +kernel), List.mem_of_getElem? (i := 1349) (by decide +kernel), List.mem_of_getElem? (i := 1350) (by decide +kernel)⟩
def lw_privs_5 : List (MethodName × Nat) := [(⟨"MovingHillsModel", "isGoal", "()Z"⟩, 42), (⟨"MovingHillsModel", "layBest", "(II)V"⟩, 42), (⟨"MovingHillsModel", "rivalOn", "(IIIII)I"⟩, 42), (⟨"MovingHillsModel", "askedPlayed", "(I)I"⟩, 42), (⟨"MovingHillsModel", "askedHeights", "(I)I"⟩, 42), (⟨"MovingHillsModel", "setPlayed", "(I)V"⟩, 42), (⟨"MovingHillsModel", "isRowNow", "(I)Z"⟩, 42), (⟨"MovingHillsModel", "isSpan", "(II)Z"⟩, 42), (⟨"MovingHillsModel", "tells", "(I)I"⟩, 42), (⟨"MovingHillsModel", "mix", "(I)V"⟩, 42), (⟨"MovingHillsModel", "mixLand", "()V"⟩, 42)]
theorem lw_r5 : ∀ q ∈ lw_privs_5, lw_okq q := List.forall_mem_cons.mpr ⟨lw_p64, List.forall_mem_cons.mpr ⟨lw_p65, List.forall_mem_cons.mpr ⟨lw_p66, List.forall_mem_cons.mpr ⟨lw_p67, List.forall_mem_cons.mpr ⟨lw_p68, List.forall_mem_cons.mpr ⟨lw_p69, List.forall_mem_cons.mpr ⟨lw_p70, List.forall_mem_cons.mpr ⟨lw_p71, List.forall_mem_cons.mpr ⟨lw_p72, List.forall_mem_cons.mpr ⟨lw_p73, List.forall_mem_cons.mpr ⟨lw_p74, fun _ h => absurd h List.not_mem_nil⟩⟩⟩⟩⟩⟩⟩⟩⟩⟩⟩
def lw_privs : List (MethodName × Nat) := lw_privs_1 ++ (lw_privs_2 ++ (lw_privs_3 ++ (lw_privs_4 ++ (lw_privs_5))))
def lw_tbl : List Cond := k2_sels lw_privs ++ tables_1
theorem lw_privs_ok : ∀ q ∈ lw_privs, lw_okq q := by
  show ∀ q ∈ lw_privs_1 ++ (lw_privs_2 ++ (lw_privs_3 ++ (lw_privs_4 ++ (lw_privs_5)))), lw_okq q
  exact List.forall_mem_append.mpr ⟨lw_r1, List.forall_mem_append.mpr ⟨lw_r2, List.forall_mem_append.mpr ⟨lw_r3, List.forall_mem_append.mpr ⟨lw_r4, lw_r5⟩⟩⟩⟩

/-! THE CLAIM OUT OF ONE WALK OF THE LAW'S BODY. Your part is whole_start (and what it stands on); all else here is the same for every law, but numbers. -/
def R_law : String := "MovingHillsLaw"
def lw_P (b : Addr) (xs : List Int32) (args : Array Value) (s : State) : Prop := args = #[.ref b] ∧ s.IntsAt b xs ∧ xs.length ≤ 384 ∧ (Jvm.Cond.and given_1 narrow_1).before args s = true
def lw_Q (_ : Array Value) (s : State) (o : Outcome) (t : State) : Prop := o = .returned (some (.int 1)) ∧ Framed s o t [] 600000 7302250
def lw_Z (below : List Frame) (a : Array Value) (s : State) : State → Prop := fun t => ∃ o, t.status = .running ∧ Ended t below o ∧ lw_Q a s o t
/-- the law's own end, with 1 on the stack, nothing written that was there before, its room as the claim has it -/
theorem lw_ret {p : Program} {l : Launch} {e : Env} {s : State} {m : MethodId} {below : List Frame} {meth : Method} {c : Code} {b : Nat} (hx : p.tables.exec = Jvm.exec) (hb : c.code = code) (hr : meth.sig.returnType = ret) (hlocks : meth.locks = false) {pc : Nat} {H : Heap} {ls : Array Slot} (hdg : decode code pc = .ok (.ireturn, 1)) : W p l e room_1 s m #[Value.ref b] below meth c H [] 600000 7302250 (lw_Z below #[Value.ref b] s) (F0 m pc ls [.int 1]) := by
  intro T hT X
  obtain ⟨fs, hret, hrun, hended, hW, hframe⟩ := X.leave (v := some (.int 1)) (hlocks := hlocks) (fun h => by rw [hr] at h; cases h)
  have hmeth' : T.vm.method? m = some meth := X.method'
  refine ⟨T.setFrames fs, ?_, .returned (some (.int 1)), hrun, hended, rfl, ⟨_, rfl⟩, hW, hframe⟩
  jvm_step X.here [X.here.top, hx, hb, hdg, hmeth', hr, ret, narrow_b1]
  (try refine ⟨rfl, ?_⟩); (try refine ⟨rfl, ?_⟩)
  first | (intro acts; rw [hret _ acts rfl rfl rfl]) | rw [hret _ _ rfl rfl rfl]
  exact Steps.refl _
/-- what holds at the law's entry: the machine, the code, the tables' words (any of lw_tbl by 'hts w (by decide +kernel)'), the script of L ints xs at the cell b, what the Statement gives of the start (any of its parts by flat_of_before) -/
def lw_At (p : Program) (s : State) (m : MethodId) (meth : Method) (c : Code) (b L : Nat) (xs : Nat → Int32) : Prop :=
  p.tables.exec = Jvm.exec ∧ c.code = code ∧ meth.sig.returnType = ret ∧ c.maxLocals = 4 ∧ s.vm.findClass R_law = some m.cls ∧ (∀ w ∈ lw_tbl, w.before #[Value.ref b] s = true) ∧ va_X b L xs s s.heap ∧ b < s.heap.size ∧ meth.locks = false ∧ (Jvm.Cond.and given_1 narrow_1).before #[Value.ref b] s = true
end
section
/-! ===== BEGIN words of one list among another's, by their places ===== -/
theorem goodIn_r {big : List Cond} (ws : List Cond) (ps : List Nat) (hp : ws = ps.filterMap (fun i => big[i]?)) (h : ws.all goodWord = true) : GoodIn big ws := by
  intro w hw
  have h1 := List.all_eq_true.mp h w hw
  rw [hp] at hw
  obtain ⟨i, -, hi⟩ := List.mem_filterMap.mp hw
  have hm : w ∈ big := by first | exact List.mem_of_getElem? hi | exact List.getElem?_mem hi
  exact ⟨hm, good_of_word h1⟩
theorem goodIn_app {big a b : List Cond} (ha : GoodIn big a) (hb : GoodIn big b) : GoodIn big (a ++ b) := fun w h => (List.mem_append.mp h).elim (ha w) (hb w)
theorem goodIn_ca {big a b : List Cond} {c : Cond} (ha : GoodIn big (c :: a)) (hb : GoodIn big b) : GoodIn big (c :: (a ++ b)) := fun w h => (List.mem_cons.mp h).elim (fun e => ha w (List.mem_cons.mpr (Or.inl e))) (fun h => (List.mem_append.mp h).elim (fun h => ha w (List.mem_cons.mpr (Or.inr h))) (hb w))
theorem goodIn_sub {big ws : List Cond} (hm : ∀ w ∈ ws, w ∈ big) (h : ws.all goodWord = true) : GoodIn big ws := fun w hw => ⟨hm w hw, good_of_word (List.all_eq_true.mp h w hw)⟩
/-! ===== END ===== -/


/-! ===== BEGIN printed: names, fields, word lists, decode rows ===== -/
def RX0 : String := "MovingHills$Aside"
def TX0 : u_T := fun k => match k with
  | 0 => ("MovingHills$Aside", "land", "LMovingHills$Land;", true)
  | 1 => ("MovingHills$Aside", "ground", "[I", true)
  | 2 => ("MovingHills$Aside", "later", "[I", true)
  | 3 => ("MovingHills$Aside", "turns", "[[I", true)
  | 4 => ("MovingHills$Aside", "wantsHigh", "I", false)
  | 5 => ("MovingHills$Aside", "wantsLow", "I", false)
  | 6 => ("MovingHills$Aside", "wantedSpot", "I", false)
  | _ => ("MovingHills$Aside", "firstTune", "I", false)
def tyX0 : Nat → FieldType := fun k => match k with
  | 0 => .object "MovingHills$Land"
  | 1 => .array .int
  | 2 => .array .int
  | 3 => .array (.array .int)
  | 4 => .int
  | 5 => .int
  | 6 => .int
  | _ => .int
abbrev wsX00 : List Cond := u_ws RX0 TX0 8
theorem nmX0 : ∀ a, a < 8 → ∀ b, b < 8 → a ≠ b → (TX0 a).2.1 ≠ (TX0 b).2.1 := by decide +kernel
theorem tyX0_ok : ∀ k, k < 8 → parseFieldDescriptor (TX0 k).2.2.1 = some (tyX0 k) := by decide +kernel
abbrev cX0_init : ByteArray := prog_2_method_1_code
def yX0_init : MethodName := ⟨RX0, "<init>", "(LMovingHills$Land;)V"⟩
abbrev cX0_startFromNow : ByteArray := prog_2_method_2_code
def yX0_startFromNow : MethodName := ⟨RX0, "startFromNow", "()V"⟩
abbrev cX0_inchesByTune : ByteArray := prog_2_method_3_code
def yX0_inchesByTune : MethodName := ⟨RX0, "inchesByTune", "(II)I"⟩
abbrev cX0_repeat : ByteArray := prog_2_method_4_code
def yX0_repeat : MethodName := ⟨RX0, "repeat", "(II)I"⟩
abbrev cX0_playBehind : ByteArray := prog_2_method_5_code
def yX0_playBehind : MethodName := ⟨RX0, "playBehind", "(I)V"⟩
abbrev cX0_restsBehind : ByteArray := prog_2_method_6_code
def yX0_restsBehind : MethodName := ⟨RX0, "restsBehind", "(I)I"⟩
abbrev cX0_comesRound : ByteArray := prog_2_method_7_code
def yX0_comesRound : MethodName := ⟨RX0, "comesRound", "(I)I"⟩
abbrev cX0_isSame : ByteArray := prog_2_method_8_code
def yX0_isSame : MethodName := ⟨RX0, "isSame", "([I[I)Z"⟩
abbrev cX0_loudestKeeping : ByteArray := prog_2_method_9_code
def yX0_loudestKeeping : MethodName := ⟨RX0, "loudestKeeping", "(I)I"⟩
abbrev cX0_duel : ByteArray := prog_2_method_10_code
def yX0_duel : MethodName := ⟨RX0, "duel", "(IIII)I"⟩
abbrev cX0_bestTurn : ByteArray := prog_2_method_11_code
def yX0_bestTurn : MethodName := ⟨RX0, "bestTurn", "(II)I"⟩
def RX1 : String := "MovingHills$Land"
def TX1 : u_T := fun k => match k with
  | 0 => ("MovingHills$Land", "spots", "I", false)
  | 1 => ("MovingHills$Land", "bands", "I", false)
  | 2 => ("MovingHills$Land", "frozen", "I", false)
  | 3 => ("MovingHills$Land", "evenings", "I", false)
  | 4 => ("MovingHills$Land", "height", "[I", true)
  | 5 => ("MovingHills$Land", "place", "[I", true)
  | 6 => ("MovingHills$Land", "loudness", "[I", true)
  | 7 => ("MovingHills$Land", "kind", "[I", true)
  | 8 => ("MovingHills$Land", "moved", "[I", true)
  | 9 => ("MovingHills$Land", "playedProgram", "[I", true)
  | 10 => ("MovingHills$Land", "heightAhead", "[I", true)
  | _ => ("MovingHills$Land", "movedAhead", "[I", true)
def tyX1 : Nat → FieldType := fun k => match k with
  | 0 => .int
  | 1 => .int
  | 2 => .int
  | 3 => .int
  | 4 => .array .int
  | 5 => .array .int
  | 6 => .array .int
  | 7 => .array .int
  | 8 => .array .int
  | 9 => .array .int
  | 10 => .array .int
  | _ => .array .int
abbrev wsX10 : List Cond := u_ws RX1 TX1 12
theorem nmX1 : ∀ a, a < 12 → ∀ b, b < 12 → a ≠ b → (TX1 a).2.1 ≠ (TX1 b).2.1 := by decide +kernel
theorem tyX1_ok : ∀ k, k < 12 → parseFieldDescriptor (TX1 k).2.2.1 = some (tyX1 k) := by decide +kernel
abbrev cX1_init : ByteArray := prog_3_method_1_code
def yX1_init : MethodName := ⟨RX1, "<init>", "()V"⟩
abbrev cX1_begin : ByteArray := prog_3_method_2_code
def yX1_begin : MethodName := ⟨RX1, "begin", "(LMovingHills$Reading;)V"⟩
abbrev cX1_becomeLike : ByteArray := prog_3_method_3_code
def yX1_becomeLike : MethodName := ⟨RX1, "becomeLike", "(LMovingHills$Land;)V"⟩
abbrev cX1_isSpot : ByteArray := prog_3_method_4_code
def yX1_isSpot : MethodName := ⟨RX1, "isSpot", "(I)Z"⟩
abbrev cX1_isBand : ByteArray := prog_3_method_5_code
def yX1_isBand : MethodName := ⟨RX1, "isBand", "(I)Z"⟩
abbrev cX1_isProgram : ByteArray := prog_3_method_6_code
def yX1_isProgram : MethodName := ⟨RX1, "isProgram", "(I)Z"⟩
abbrev cX1_isSpotSet : ByteArray := prog_3_method_7_code
def yX1_isSpotSet : MethodName := ⟨RX1, "isSpotSet", "(I)Z"⟩
abbrev cX1_isFrozen : ByteArray := prog_3_method_8_code
def yX1_isFrozen : MethodName := ⟨RX1, "isFrozen", "(I)Z"⟩
abbrev cX1_isOf : ByteArray := prog_3_method_9_code
def yX1_isOf : MethodName := ⟨RX1, "isOf", "(II)Z"⟩
abbrev cX1_programs : ByteArray := prog_3_method_10_code
def yX1_programs : MethodName := ⟨RX1, "programs", "()I"⟩
abbrev cX1_tuneOf : ByteArray := prog_3_method_11_code
def yX1_tuneOf : MethodName := ⟨RX1, "tuneOf", "(II)I"⟩
abbrev cX1_breathOf : ByteArray := prog_3_method_12_code
def yX1_breathOf : MethodName := ⟨RX1, "breathOf", "(I)I"⟩
abbrev cX1_drums : ByteArray := prog_3_method_13_code
def yX1_drums : MethodName := ⟨RX1, "drums", "()I"⟩
abbrev cX1_reach : ByteArray := prog_3_method_14_code
def yX1_reach : MethodName := ⟨RX1, "reach", "(I)I"⟩
abbrev cX1_isHeard : ByteArray := prog_3_method_15_code
def yX1_isHeard : MethodName := ⟨RX1, "isHeard", "(II)Z"⟩
abbrev cX1_heardOn : ByteArray := prog_3_method_16_code
def yX1_heardOn : MethodName := ⟨RX1, "heardOn", "(I)I"⟩
abbrev cX1_lowHeard : ByteArray := prog_3_method_17_code
def yX1_lowHeard : MethodName := ⟨RX1, "lowHeard", "(I)I"⟩
abbrev cX1_bandTells : ByteArray := prog_3_method_18_code
def yX1_bandTells : MethodName := ⟨RX1, "bandTells", "(II)I"⟩
abbrev cX1_allInches : ByteArray := prog_3_method_19_code
def yX1_allInches : MethodName := ⟨RX1, "allInches", "()I"⟩
abbrev cX1_firstHighest : ByteArray := prog_3_method_20_code
def yX1_firstHighest : MethodName := ⟨RX1, "firstHighest", "([III)I"⟩
abbrev cX1_highestOf : ByteArray := prog_3_method_21_code
def yX1_highestOf : MethodName := ⟨RX1, "highestOf", "([I)I"⟩
abbrev cX1_inchesFrom : ByteArray := prog_3_method_22_code
def yX1_inchesFrom : MethodName := ⟨RX1, "inchesFrom", "(III)I"⟩
abbrev cX1_shift : ByteArray := prog_3_method_23_code
def yX1_shift : MethodName := ⟨RX1, "shift", "([IIII)I"⟩
abbrev cX1_playTune : ByteArray := prog_3_method_24_code
def yX1_playTune : MethodName := ⟨RX1, "playTune", "([III)I"⟩
abbrev cX1_playAside : ByteArray := prog_3_method_25_code
def yX1_playAside : MethodName := ⟨RX1, "playAside", "([II)I"⟩
abbrev cX1_playTruly : ByteArray := prog_3_method_26_code
def yX1_playTruly : MethodName := ⟨RX1, "playTruly", "(I)I"⟩
abbrev cX1_takeBack : ByteArray := prog_3_method_27_code
def yX1_takeBack : MethodName := ⟨RX1, "takeBack", "(I)I"⟩
abbrev cX1_mixedInto : ByteArray := prog_3_method_28_code
def yX1_mixedInto : MethodName := ⟨RX1, "mixedInto", "(J)J"⟩
def RX2 : String := "MovingHills$Plan"
def TX2 : u_T := fun k => match k with
  | 0 => ("MovingHills$Plan", "land", "LMovingHills$Land;", true)
  | 1 => ("MovingHills$Plan", "stages", "[[I", true)
  | 2 => ("MovingHills$Plan", "breaths", "[I", true)
  | 3 => ("MovingHills$Plan", "tried", "[I", true)
  | 4 => ("MovingHills$Plan", "mostTaken", "[I", true)
  | 5 => ("MovingHills$Plan", "best", "[I", true)
  | 6 => ("MovingHills$Plan", "bestBreath", "I", false)
  | 7 => ("MovingHills$Plan", "flattening", "Z", false)
  | 8 => ("MovingHills$Plan", "goalSet", "I", false)
  | 9 => ("MovingHills$Plan", "goalSpot", "I", false)
  | 10 => ("MovingHills$Plan", "goalHeight", "I", false)
  | _ => ("MovingHills$Plan", "mostGained", "I", false)
def tyX2 : Nat → FieldType := fun k => match k with
  | 0 => .object "MovingHills$Land"
  | 1 => .array (.array .int)
  | 2 => .array .int
  | 3 => .array .int
  | 4 => .array .int
  | 5 => .array .int
  | 6 => .int
  | 7 => .boolean
  | 8 => .int
  | 9 => .int
  | 10 => .int
  | _ => .int
abbrev wsX20 : List Cond := u_ws RX2 TX2 12
theorem nmX2 : ∀ a, a < 12 → ∀ b, b < 12 → a ≠ b → (TX2 a).2.1 ≠ (TX2 b).2.1 := by decide +kernel
theorem tyX2_ok : ∀ k, k < 12 → parseFieldDescriptor (TX2 k).2.2.1 = some (tyX2 k) := by decide +kernel
abbrev cX2_init : ByteArray := prog_4_method_1_code
def yX2_init : MethodName := ⟨RX2, "<init>", "(LMovingHills$Land;)V"⟩
abbrev cX2_aimFlat : ByteArray := prog_4_method_2_code
def yX2_aimFlat : MethodName := ⟨RX2, "aimFlat", "(I)V"⟩
abbrev cX2_aimHigh : ByteArray := prog_4_method_3_code
def yX2_aimHigh : MethodName := ⟨RX2, "aimHigh", "(II)V"⟩
abbrev cX2_isFound : ByteArray := prog_4_method_4_code
def yX2_isFound : MethodName := ⟨RX2, "isFound", "(I)Z"⟩
abbrev cX2_seek : ByteArray := prog_4_method_5_code
def yX2_seek : MethodName := ⟨RX2, "seek", "(III)V"⟩
abbrev cX2_isPlayedForUse : ByteArray := prog_4_method_6_code
def yX2_isPlayedForUse : MethodName := ⟨RX2, "isPlayedForUse", "([II)Z"⟩
abbrev cX2_isWithinReach : ByteArray := prog_4_method_7_code
def yX2_isWithinReach : MethodName := ⟨RX2, "isWithinReach", "([II)Z"⟩
abbrev cX2_mostTakenFrom : ByteArray := prog_4_method_8_code
def yX2_mostTakenFrom : MethodName := ⟨RX2, "mostTakenFrom", "(I)I"⟩
abbrev cX2_mostTakenBy : ByteArray := prog_4_method_9_code
def yX2_mostTakenBy : MethodName := ⟨RX2, "mostTakenBy", "(II)I"⟩
abbrev cX2_mostGainedBy : ByteArray := prog_4_method_10_code
def yX2_mostGainedBy : MethodName := ⟨RX2, "mostGainedBy", "(I)I"⟩
def RX3 : String := "MovingHills$Reading"
def TX3 : u_T := fun k => match k with
  | 0 => ("MovingHills$Reading", "height", "[I", true)
  | 1 => ("MovingHills$Reading", "kind", "[I", true)
  | 2 => ("MovingHills$Reading", "place", "[I", true)
  | 3 => ("MovingHills$Reading", "loudness", "[I", true)
  | 4 => ("MovingHills$Reading", "spots", "I", false)
  | _ => ("MovingHills$Reading", "bands", "I", false)
def tyX3 : Nat → FieldType := fun k => match k with
  | 0 => .array .int
  | 1 => .array .int
  | 2 => .array .int
  | 3 => .array .int
  | 4 => .int
  | _ => .int
abbrev wsX30 : List Cond := u_ws RX3 TX3 6
theorem nmX3 : ∀ a, a < 6 → ∀ b, b < 6 → a ≠ b → (TX3 a).2.1 ≠ (TX3 b).2.1 := by decide +kernel
theorem tyX3_ok : ∀ k, k < 6 → parseFieldDescriptor (TX3 k).2.2.1 = some (tyX3 k) := by decide +kernel
abbrev cX3_init : ByteArray := prog_5_method_1_code
def yX3_init : MethodName := ⟨RX3, "<init>", "()V"⟩
abbrev cX3_read : ByteArray := prog_5_method_2_code
def yX3_read : MethodName := ⟨RX3, "read", "(LMovingHills$Shelf;I)I"⟩
abbrev cX3_behindBlanks : ByteArray := prog_5_method_3_code
def yX3_behindBlanks : MethodName := ⟨RX3, "behindBlanks", "(LMovingHills$Shelf;II)I"⟩
abbrev cX3_behindHeights : ByteArray := prog_5_method_4_code
def yX3_behindHeights : MethodName := ⟨RX3, "behindHeights", "(LMovingHills$Shelf;II)I"⟩
abbrev cX3_bandFault : ByteArray := prog_5_method_5_code
def yX3_bandFault : MethodName := ⟨RX3, "bandFault", "(LMovingHills$Shelf;II)I"⟩
abbrev cX3_figureAt : ByteArray := prog_5_method_6_code
def yX3_figureAt : MethodName := ⟨RX3, "figureAt", "(LMovingHills$Shelf;II)I"⟩
abbrev cX3_kindOf : ByteArray := prog_5_method_7_code
def yX3_kindOf : MethodName := ⟨RX3, "kindOf", "(I)I"⟩
def RX4 : String := "MovingHills$Shelf"
def TX4 : u_T := fun k => match k with
  | 0 => ("MovingHills$Shelf", "most", "I", true)
  | 1 => ("MovingHills$Shelf", "cells", "[[I", true)
  | _ => ("MovingHills$Shelf", "sizes", "[I", true)
def tyX4 : Nat → FieldType := fun k => match k with
  | 0 => .int
  | 1 => .array (.array .int)
  | _ => .array .int
abbrev wsX40 : List Cond := u_ws RX4 TX4 3
theorem nmX4 : ∀ a, a < 3 → ∀ b, b < 3 → a ≠ b → (TX4 a).2.1 ≠ (TX4 b).2.1 := by decide +kernel
theorem tyX4_ok : ∀ k, k < 3 → parseFieldDescriptor (TX4 k).2.2.1 = some (tyX4 k) := by decide +kernel
abbrev cX4_init : ByteArray := prog_6_method_1_code
def yX4_init : MethodName := ⟨RX4, "<init>", "(II)V"⟩
abbrev cX4_names : ByteArray := prog_6_method_2_code
def yX4_names : MethodName := ⟨RX4, "names", "(I)Z"⟩
abbrev cX4_holds : ByteArray := prog_6_method_3_code
def yX4_holds : MethodName := ⟨RX4, "holds", "(I)Z"⟩
abbrev cX4_sizeOf : ByteArray := prog_6_method_4_code
def yX4_sizeOf : MethodName := ⟨RX4, "sizeOf", "(I)I"⟩
abbrev cX4_reaches : ByteArray := prog_6_method_5_code
def yX4_reaches : MethodName := ⟨RX4, "reaches", "(II)Z"⟩
abbrev cX4_spans : ByteArray := prog_6_method_6_code
def yX4_spans : MethodName := ⟨RX4, "spans", "(III)Z"⟩
abbrev cX4_get : ByteArray := prog_6_method_7_code
def yX4_get : MethodName := ⟨RX4, "get", "(II)I"⟩
abbrev cX4_set : ByteArray := prog_6_method_8_code
def yX4_set : MethodName := ⟨RX4, "set", "(III)V"⟩
abbrev cX4_open : ByteArray := prog_6_method_9_code
def yX4_open : MethodName := ⟨RX4, "open", "(III)V"⟩
abbrev cX4_close : ByteArray := prog_6_method_10_code
def yX4_close : MethodName := ⟨RX4, "close", "(I)V"⟩
abbrev cX4_transfer : ByteArray := prog_6_method_11_code
def yX4_transfer : MethodName := ⟨RX4, "transfer", "(IIIII)V"⟩
abbrev cX4_sumOf : ByteArray := prog_6_method_12_code
def yX4_sumOf : MethodName := ⟨RX4, "sumOf", "(I)J"⟩
abbrev cX4_held : ByteArray := prog_6_method_13_code
def yX4_held : MethodName := ⟨RX4, "held", "()I"⟩
abbrev cX4_mixedInto : ByteArray := prog_6_method_14_code
def yX4_mixedInto : MethodName := ⟨RX4, "mixedInto", "(J)J"⟩
def RX5 : String := "MovingHills"
def TX5 : u_T := fun k => match k with
  | 0 => ("MovingHills", "rows", "LMovingHills$Shelf;", true)
  | 1 => ("MovingHills", "texts", "LMovingHills$Shelf;", true)
  | 2 => ("MovingHills", "reading", "LMovingHills$Reading;", true)
  | 3 => ("MovingHills", "here", "LMovingHills$Land;", true)
  | 4 => ("MovingHills", "aside", "LMovingHills$Aside;", true)
  | 5 => ("MovingHills", "plan", "LMovingHills$Plan;", true)
  | 6 => ("MovingHills", "keptLands", "[LMovingHills$Land;", true)
  | 7 => ("MovingHills", "isKept", "[Z", true)
  | 8 => ("MovingHills", "answered", "[I", true)
  | 9 => ("MovingHills", "latest", "I", false)
  | _ => ("MovingHills", "told", "I", false)
def tyX5 : Nat → FieldType := fun k => match k with
  | 0 => .object "MovingHills$Shelf"
  | 1 => .object "MovingHills$Shelf"
  | 2 => .object "MovingHills$Reading"
  | 3 => .object "MovingHills$Land"
  | 4 => .object "MovingHills$Aside"
  | 5 => .object "MovingHills$Plan"
  | 6 => .array (.object "MovingHills$Land")
  | 7 => .array .boolean
  | 8 => .array .int
  | 9 => .int
  | _ => .int
abbrev wsX50 : List Cond := u_ws RX5 TX5 11
theorem nmX5 : ∀ a, a < 11 → ∀ b, b < 11 → a ≠ b → (TX5 a).2.1 ≠ (TX5 b).2.1 := by decide +kernel
theorem tyX5_ok : ∀ k, k < 11 → parseFieldDescriptor (TX5 k).2.2.1 = some (tyX5 k) := by decide +kernel
abbrev cX5_init : ByteArray := prog_1_method_1_code
def yX5_init : MethodName := ⟨RX5, "<init>", "()V"⟩
abbrev cX5_row : ByteArray := prog_1_method_2_code
def yX5_row : MethodName := ⟨RX5, "row", "(II)I"⟩
abbrev cX5_lay : ByteArray := prog_1_method_3_code
def yX5_lay : MethodName := ⟨RX5, "lay", "(III)I"⟩
abbrev cX5_at : ByteArray := prog_1_method_4_code
def yX5_at : MethodName := ⟨RX5, "at", "(II)I"⟩
abbrev cX5_tear : ByteArray := prog_1_method_5_code
def yX5_tear : MethodName := ⟨RX5, "tear", "(I)I"⟩
abbrev cX5_copy : ByteArray := prog_1_method_6_code
def yX5_copy : MethodName := ⟨RX5, "copy", "(IIIII)I"⟩
abbrev cX5_mean : ByteArray := prog_1_method_7_code
def yX5_mean : MethodName := ⟨RX5, "mean", "(I)I"⟩
abbrev cX5_text : ByteArray := prog_1_method_8_code
def yX5_text : MethodName := ⟨RX5, "text", "(II)I"⟩
abbrev cX5_put : ByteArray := prog_1_method_9_code
def yX5_put : MethodName := ⟨RX5, "put", "(III)I"⟩
abbrev cX5_fault : ByteArray := prog_1_method_10_code
def yX5_fault : MethodName := ⟨RX5, "fault", "(I)I"⟩
abbrev cX5_land : ByteArray := prog_1_method_11_code
def yX5_land : MethodName := ⟨RX5, "land", "(I)I"⟩
abbrev cX5_spot : ByteArray := prog_1_method_12_code
def yX5_spot : MethodName := ⟨RX5, "spot", "(I)I"⟩
abbrev cX5_band : ByteArray := prog_1_method_13_code
def yX5_band : MethodName := ⟨RX5, "band", "(II)I"⟩
abbrev cX5_mark : ByteArray := prog_1_method_14_code
def yX5_mark : MethodName := ⟨RX5, "mark", "(II)I"⟩
abbrev cX5_frost : ByteArray := prog_1_method_15_code
def yX5_frost : MethodName := ⟨RX5, "frost", "(I)I"⟩
abbrev cX5_move : ByteArray := prog_1_method_16_code
def yX5_move : MethodName := ⟨RX5, "move", "(II)I"⟩
abbrev cX5_evening : ByteArray := prog_1_method_17_code
def yX5_evening : MethodName := ⟨RX5, "evening", "(I)I"⟩
abbrev cX5_undo : ByteArray := prog_1_method_18_code
def yX5_undo : MethodName := ⟨RX5, "undo", "(I)I"⟩
abbrev cX5_heights : ByteArray := prog_1_method_19_code
def yX5_heights : MethodName := ⟨RX5, "heights", "(I)I"⟩
abbrev cX5_keep : ByteArray := prog_1_method_20_code
def yX5_keep : MethodName := ⟨RX5, "keep", "(I)I"⟩
abbrev cX5_on : ByteArray := prog_1_method_21_code
def yX5_on : MethodName := ⟨RX5, "on", "(I)I"⟩
abbrev cX5_behind : ByteArray := prog_1_method_22_code
def yX5_behind : MethodName := ⟨RX5, "behind", "(III)I"⟩
abbrev cX5_rest : ByteArray := prog_1_method_23_code
def yX5_rest : MethodName := ⟨RX5, "rest", "(I)I"⟩
abbrev cX5_round : ByteArray := prog_1_method_24_code
def yX5_round : MethodName := ⟨RX5, "round", "(I)I"⟩
abbrev cX5_highest : ByteArray := prog_1_method_25_code
def yX5_highest : MethodName := ⟨RX5, "highest", "(I)I"⟩
abbrev cX5_lowest : ByteArray := prog_1_method_26_code
def yX5_lowest : MethodName := ⟨RX5, "lowest", "(I)I"⟩
abbrev cX5_flat : ByteArray := prog_1_method_27_code
def yX5_flat : MethodName := ⟨RX5, "flat", "(II)I"⟩
abbrev cX5_raise : ByteArray := prog_1_method_28_code
def yX5_raise : MethodName := ⟨RX5, "raise", "(IIII)I"⟩
abbrev cX5_keeps : ByteArray := prog_1_method_29_code
def yX5_keeps : MethodName := ⟨RX5, "keeps", "(I)I"⟩
abbrev cX5_rivals : ByteArray := prog_1_method_30_code
def yX5_rivals : MethodName := ⟨RX5, "rivals", "(IIII)I"⟩
abbrev cX5_played : ByteArray := prog_1_method_31_code
def yX5_played : MethodName := ⟨RX5, "played", "(I)I"⟩
abbrev cX5_could : ByteArray := prog_1_method_32_code
def yX5_could : MethodName := ⟨RX5, "could", "(II)I"⟩
abbrev cX5_twice : ByteArray := prog_1_method_33_code
def yX5_twice : MethodName := ⟨RX5, "twice", "(I)I"⟩
abbrev cX5_valleys : ByteArray := prog_1_method_34_code
def yX5_valleys : MethodName := ⟨RX5, "valleys", "()I"⟩
abbrev cX5_top : ByteArray := prog_1_method_35_code
def yX5_top : MethodName := ⟨RX5, "top", "()I"⟩
abbrev cX5_border : ByteArray := prog_1_method_36_code
def yX5_border : MethodName := ⟨RX5, "border", "(II)I"⟩
abbrev cX5_shifts : ByteArray := prog_1_method_37_code
def yX5_shifts : MethodName := ⟨RX5, "shifts", "(II)I"⟩
abbrev cX5_far : ByteArray := prog_1_method_38_code
def yX5_far : MethodName := ⟨RX5, "far", "(I)I"⟩
abbrev cX5_season : ByteArray := prog_1_method_39_code
def yX5_season : MethodName := ⟨RX5, "season", "(II)I"⟩
abbrev cX5_asked : ByteArray := prog_1_method_40_code
def yX5_asked : MethodName := ⟨RX5, "asked", "()I"⟩
abbrev cX5_upper : ByteArray := prog_1_method_41_code
def yX5_upper : MethodName := ⟨RX5, "upper", "()J"⟩
abbrev cX5_lower : ByteArray := prog_1_method_42_code
def yX5_lower : MethodName := ⟨RX5, "lower", "()J"⟩
abbrev cX5_count : ByteArray := prog_1_method_43_code
def yX5_count : MethodName := ⟨RX5, "count", "(I)I"⟩
abbrev cX5_finding : ByteArray := prog_1_method_44_code
def yX5_finding : MethodName := ⟨RX5, "finding", "()I"⟩
abbrev cX5_findings : ByteArray := prog_1_method_45_code
def yX5_findings : MethodName := ⟨RX5, "findings", "(I)I"⟩
abbrev cX5_digest : ByteArray := prog_1_method_46_code
def yX5_digest : MethodName := ⟨RX5, "digest", "()J"⟩
abbrev cX5_tell : ByteArray := prog_1_method_47_code
def yX5_tell : MethodName := ⟨RX5, "tell", "(II)I"⟩
abbrev cX5_find : ByteArray := prog_1_method_48_code
def yX5_find : MethodName := ⟨RX5, "find", "(I)I"⟩
abbrev cX5_opened : ByteArray := prog_1_method_49_code
def yX5_opened : MethodName := ⟨RX5, "opened", "(LMovingHills$Shelf;III)I"⟩
abbrev cX5_placeRefusal : ByteArray := prog_1_method_50_code
def yX5_placeRefusal : MethodName := ⟨RX5, "placeRefusal", "(LMovingHills$Shelf;II)I"⟩
abbrev cX5_groundRefusal : ByteArray := prog_1_method_51_code
def yX5_groundRefusal : MethodName := ⟨RX5, "groundRefusal", "(I)I"⟩
abbrev cX5_fitRefusal : ByteArray := prog_1_method_52_code
def yX5_fitRefusal : MethodName := ⟨RX5, "fitRefusal", "(I)I"⟩
abbrev cX5_isGroundOf : ByteArray := prog_1_method_53_code
def yX5_isGroundOf : MethodName := ⟨RX5, "isGroundOf", "(I[I)Z"⟩
abbrev cX5_isStretch : ByteArray := prog_1_method_54_code
def yX5_isStretch : MethodName := ⟨RX5, "isStretch", "(II)Z"⟩
abbrev cX5_extreme : ByteArray := prog_1_method_55_code
def yX5_extreme : MethodName := ⟨RX5, "extreme", "(II)I"⟩
abbrev cX5_layPlan : ByteArray := prog_1_method_56_code
def yX5_layPlan : MethodName := ⟨RX5, "layPlan", "(II)V"⟩
abbrev cX5_frostByLot : ByteArray := prog_1_method_57_code
def yX5_frostByLot : MethodName := ⟨RX5, "frostByLot", "(J)I"⟩
abbrev cX5_keptNow : ByteArray := prog_1_method_58_code
def yX5_keptNow : MethodName := ⟨RX5, "keptNow", "()I"⟩
abbrev cX5_keptEvenings : ByteArray := prog_1_method_59_code
def yX5_keptEvenings : MethodName := ⟨RX5, "keptEvenings", "(I)I"⟩
abbrev cX5_commonDivisor : ByteArray := prog_1_method_60_code
def yX5_commonDivisor : MethodName := ⟨RX5, "commonDivisor", "(II)I"⟩
def RX6 : String := "MovingHillsModel"
def TX6 : u_T := fun k => match k with
  | 0 => ("MovingHillsModel", "finding", "I", false)
  | 1 => ("MovingHillsModel", "findings", "[I", true)
  | 2 => ("MovingHillsModel", "asked", "I", false)
  | 3 => ("MovingHillsModel", "sizes", "[I", true)
  | 4 => ("MovingHillsModel", "rows", "[I", true)
  | 5 => ("MovingHillsModel", "moving", "[I", true)
  | 6 => ("MovingHillsModel", "lengths", "[I", true)
  | 7 => ("MovingHillsModel", "texts", "[I", true)
  | 8 => ("MovingHillsModel", "many", "I", false)
  | 9 => ("MovingHillsModel", "bandMany", "I", false)
  | 10 => ("MovingHillsModel", "high", "[I", true)
  | 11 => ("MovingHillsModel", "kinds", "[I", true)
  | 12 => ("MovingHillsModel", "seats", "[I", true)
  | 13 => ("MovingHillsModel", "loud", "[I", true)
  | 14 => ("MovingHillsModel", "moved", "[I", true)
  | 15 => ("MovingHillsModel", "frosts", "I", false)
  | 16 => ("MovingHillsModel", "readAt", "I", false)
  | 17 => ("MovingHillsModel", "readMany", "I", false)
  | 18 => ("MovingHillsModel", "readBands", "I", false)
  | 19 => ("MovingHillsModel", "readHigh", "[I", true)
  | 20 => ("MovingHillsModel", "readKinds", "[I", true)
  | 21 => ("MovingHillsModel", "readSeats", "[I", true)
  | 22 => ("MovingHillsModel", "readLoud", "[I", true)
  | 23 => ("MovingHillsModel", "aside", "[I", true)
  | 24 => ("MovingHillsModel", "eveningMany", "I", false)
  | 25 => ("MovingHillsModel", "evenings", "[I", true)
  | 26 => ("MovingHillsModel", "notes", "[I", true)
  | 27 => ("MovingHillsModel", "kept", "[I", true)
  | 28 => ("MovingHillsModel", "ahead", "[I", true)
  | 29 => ("MovingHillsModel", "was", "[I", true)
  | 30 => ("MovingHillsModel", "depth", "[I", true)
  | 31 => ("MovingHillsModel", "laid", "[I", true)
  | 32 => ("MovingHillsModel", "bestLaid", "[I", true)
  | 33 => ("MovingHillsModel", "bestBreath", "I", false)
  | 34 => ("MovingHillsModel", "goalSet", "I", false)
  | 35 => ("MovingHillsModel", "goalSpot", "I", false)
  | 36 => ("MovingHillsModel", "goalHigh", "I", false)
  | 37 => ("MovingHillsModel", "rivalFirst", "I", false)
  | 38 => ("MovingHillsModel", "playedMany", "I", false)
  | 39 => ("MovingHillsModel", "playedFirst", "I", false)
  | 40 => ("MovingHillsModel", "playedTunes", "[I", true)
  | _ => ("MovingHillsModel", "h0", "J", false)
def tyX6 : Nat → FieldType := fun k => match k with
  | 0 => .int
  | 1 => .array .int
  | 2 => .int
  | 3 => .array .int
  | 4 => .array .int
  | 5 => .array .int
  | 6 => .array .int
  | 7 => .array .int
  | 8 => .int
  | 9 => .int
  | 10 => .array .int
  | 11 => .array .int
  | 12 => .array .int
  | 13 => .array .int
  | 14 => .array .int
  | 15 => .int
  | 16 => .int
  | 17 => .int
  | 18 => .int
  | 19 => .array .int
  | 20 => .array .int
  | 21 => .array .int
  | 22 => .array .int
  | 23 => .array .int
  | 24 => .int
  | 25 => .array .int
  | 26 => .array .int
  | 27 => .array .int
  | 28 => .array .int
  | 29 => .array .int
  | 30 => .array .int
  | 31 => .array .int
  | 32 => .array .int
  | 33 => .int
  | 34 => .int
  | 35 => .int
  | 36 => .int
  | 37 => .int
  | 38 => .int
  | 39 => .int
  | 40 => .array .int
  | _ => .long
abbrev wsX60 : List Cond := u_ws RX6 TX6 42
theorem nmX6 : ∀ a, a < 42 → ∀ b, b < 42 → a ≠ b → (TX6 a).2.1 ≠ (TX6 b).2.1 := by decide +kernel
theorem tyX6_ok : ∀ k, k < 42 → parseFieldDescriptor (TX6 k).2.2.1 = some (tyX6 k) := by decide +kernel
abbrev cX6_init : ByteArray := prog_8_method_1_code
def yX6_init : MethodName := ⟨RX6, "<init>", "()V"⟩
abbrev cX6_in : ByteArray := prog_8_method_3_code
def yX6_in : MethodName := ⟨RX6, "in", "(III)Z"⟩
abbrev cX6_meet : ByteArray := prog_8_method_4_code
def yX6_meet : MethodName := ⟨RX6, "meet", "(I)I"⟩
abbrev cX6_ask : ByteArray := prog_8_method_5_code
def yX6_ask : MethodName := ⟨RX6, "ask", "(II)I"⟩
abbrev cX6_has : ByteArray := prog_8_method_6_code
def yX6_has : MethodName := ⟨RX6, "has", "(II)Z"⟩
abbrev cX6_sizeOf : ByteArray := prog_8_method_7_code
def yX6_sizeOf : MethodName := ⟨RX6, "sizeOf", "(I)I"⟩
abbrev cX6_isRow : ByteArray := prog_8_method_8_code
def yX6_isRow : MethodName := ⟨RX6, "isRow", "(I)Z"⟩
abbrev cX6_isText : ByteArray := prog_8_method_9_code
def yX6_isText : MethodName := ⟨RX6, "isText", "(I)Z"⟩
abbrev cX6_askedRow : ByteArray := prog_8_method_10_code
def yX6_askedRow : MethodName := ⟨RX6, "askedRow", "(I)I"⟩
abbrev cX6_askedText : ByteArray := prog_8_method_11_code
def yX6_askedText : MethodName := ⟨RX6, "askedText", "(I)I"⟩
abbrev cX6_rowAt : ByteArray := prog_8_method_12_code
def yX6_rowAt : MethodName := ⟨RX6, "rowAt", "(II)I"⟩
abbrev cX6_setRow : ByteArray := prog_8_method_13_code
def yX6_setRow : MethodName := ⟨RX6, "setRow", "(III)V"⟩
abbrev cX6_row : ByteArray := prog_8_method_14_code
def yX6_row : MethodName := ⟨RX6, "row", "(II)I"⟩
abbrev cX6_at : ByteArray := prog_8_method_15_code
def yX6_at : MethodName := ⟨RX6, "at", "(II)I"⟩
abbrev cX6_lay : ByteArray := prog_8_method_16_code
def yX6_lay : MethodName := ⟨RX6, "lay", "(III)I"⟩
abbrev cX6_tear : ByteArray := prog_8_method_17_code
def yX6_tear : MethodName := ⟨RX6, "tear", "(I)I"⟩
abbrev cX6_copy : ByteArray := prog_8_method_18_code
def yX6_copy : MethodName := ⟨RX6, "copy", "(IIIII)I"⟩
abbrev cX6_mean : ByteArray := prog_8_method_19_code
def yX6_mean : MethodName := ⟨RX6, "mean", "(I)I"⟩
abbrev cX6_text : ByteArray := prog_8_method_20_code
def yX6_text : MethodName := ⟨RX6, "text", "(II)I"⟩
abbrev cX6_put : ByteArray := prog_8_method_21_code
def yX6_put : MethodName := ⟨RX6, "put", "(III)I"⟩
abbrev cX6_here : ByteArray := prog_8_method_22_code
def yX6_here : MethodName := ⟨RX6, "here", "(I)I"⟩
abbrev cX6_kindOf : ByteArray := prog_8_method_23_code
def yX6_kindOf : MethodName := ⟨RX6, "kindOf", "(I)I"⟩
abbrev cX6_readsGround : ByteArray := prog_8_method_24_code
def yX6_readsGround : MethodName := ⟨RX6, "readsGround", "(I)Z"⟩
abbrev cX6_readsBand : ByteArray := prog_8_method_25_code
def yX6_readsBand : MethodName := ⟨RX6, "readsBand", "(I)Z"⟩
abbrev cX6_goesOn : ByteArray := prog_8_method_26_code
def yX6_goesOn : MethodName := ⟨RX6, "goesOn", "(I)I"⟩
abbrev cX6_fault : ByteArray := prog_8_method_27_code
def yX6_fault : MethodName := ⟨RX6, "fault", "(I)I"⟩
abbrev cX6_land : ByteArray := prog_8_method_28_code
def yX6_land : MethodName := ⟨RX6, "land", "(I)I"⟩
abbrev cX6_isSpot : ByteArray := prog_8_method_29_code
def yX6_isSpot : MethodName := ⟨RX6, "isSpot", "(I)Z"⟩
abbrev cX6_isBand : ByteArray := prog_8_method_30_code
def yX6_isBand : MethodName := ⟨RX6, "isBand", "(I)Z"⟩
abbrev cX6_isA : ByteArray := prog_8_method_31_code
def yX6_isA : MethodName := ⟨RX6, "isA", "(II)Z"⟩
abbrev cX6_spot : ByteArray := prog_8_method_32_code
def yX6_spot : MethodName := ⟨RX6, "spot", "(I)I"⟩
abbrev cX6_reachOf : ByteArray := prog_8_method_33_code
def yX6_reachOf : MethodName := ⟨RX6, "reachOf", "(I)I"⟩
abbrev cX6_size : ByteArray := prog_8_method_34_code
def yX6_size : MethodName := ⟨RX6, "size", "(I)I"⟩
abbrev cX6_isHeard : ByteArray := prog_8_method_35_code
def yX6_isHeard : MethodName := ⟨RX6, "isHeard", "(II)Z"⟩
abbrev cX6_heardOf : ByteArray := prog_8_method_36_code
def yX6_heardOf : MethodName := ⟨RX6, "heardOf", "(I)I"⟩
abbrev cX6_bandOf : ByteArray := prog_8_method_37_code
def yX6_bandOf : MethodName := ⟨RX6, "bandOf", "(II)I"⟩
abbrev cX6_band : ByteArray := prog_8_method_38_code
def yX6_band : MethodName := ⟨RX6, "band", "(II)I"⟩
abbrev cX6_inchesOf : ByteArray := prog_8_method_39_code
def yX6_inchesOf : MethodName := ⟨RX6, "inchesOf", "(II)I"⟩
abbrev cX6_goSpot : ByteArray := prog_8_method_40_code
def yX6_goSpot : MethodName := ⟨RX6, "goSpot", "(IIZ)I"⟩
abbrev cX6_play : ByteArray := prog_8_method_41_code
def yX6_play : MethodName := ⟨RX6, "play", "(II)I"⟩
abbrev cX6_programs : ByteArray := prog_8_method_42_code
def yX6_programs : MethodName := ⟨RX6, "programs", "()I"⟩
abbrev cX6_tuneOf : ByteArray := prog_8_method_43_code
def yX6_tuneOf : MethodName := ⟨RX6, "tuneOf", "(II)I"⟩
abbrev cX6_breathOf : ByteArray := prog_8_method_44_code
def yX6_breathOf : MethodName := ⟨RX6, "breathOf", "(I)I"⟩
abbrev cX6_passEvening : ByteArray := prog_8_method_45_code
def yX6_passEvening : MethodName := ⟨RX6, "passEvening", "(I)I"⟩
abbrev cX6_write : ByteArray := prog_8_method_46_code
def yX6_write : MethodName := ⟨RX6, "write", "([II)V"⟩
abbrev cX6_read : ByteArray := prog_8_method_47_code
def yX6_read : MethodName := ⟨RX6, "read", "([II)V"⟩
abbrev cX6_wouldMove : ByteArray := prog_8_method_48_code
def yX6_wouldMove : MethodName := ⟨RX6, "wouldMove", "(II)I"⟩
abbrev cX6_mark : ByteArray := prog_8_method_49_code
def yX6_mark : MethodName := ⟨RX6, "mark", "(II)I"⟩
abbrev cX6_isSet : ByteArray := prog_8_method_50_code
def yX6_isSet : MethodName := ⟨RX6, "isSet", "(I)Z"⟩
abbrev cX6_frost : ByteArray := prog_8_method_51_code
def yX6_frost : MethodName := ⟨RX6, "frost", "(I)I"⟩
abbrev cX6_move : ByteArray := prog_8_method_52_code
def yX6_move : MethodName := ⟨RX6, "move", "(II)I"⟩
abbrev cX6_isProgram : ByteArray := prog_8_method_53_code
def yX6_isProgram : MethodName := ⟨RX6, "isProgram", "(I)Z"⟩
abbrev cX6_goEvening : ByteArray := prog_8_method_54_code
def yX6_goEvening : MethodName := ⟨RX6, "goEvening", "(I)I"⟩
abbrev cX6_evening : ByteArray := prog_8_method_55_code
def yX6_evening : MethodName := ⟨RX6, "evening", "(I)I"⟩
abbrev cX6_undo : ByteArray := prog_8_method_56_code
def yX6_undo : MethodName := ⟨RX6, "undo", "(I)I"⟩
abbrev cX6_allHigh : ByteArray := prog_8_method_57_code
def yX6_allHigh : MethodName := ⟨RX6, "allHigh", "()I"⟩
abbrev cX6_heights : ByteArray := prog_8_method_58_code
def yX6_heights : MethodName := ⟨RX6, "heights", "(I)I"⟩
abbrev cX6_keep : ByteArray := prog_8_method_59_code
def yX6_keep : MethodName := ⟨RX6, "keep", "(I)I"⟩
abbrev cX6_on : ByteArray := prog_8_method_60_code
def yX6_on : MethodName := ⟨RX6, "on", "(I)I"⟩
abbrev cX6_putAhead : ByteArray := prog_8_method_61_code
def yX6_putAhead : MethodName := ⟨RX6, "putAhead", "()V"⟩
abbrev cX6_comeBack : ByteArray := prog_8_method_62_code
def yX6_comeBack : MethodName := ⟨RX6, "comeBack", "()V"⟩
abbrev cX6_behind : ByteArray := prog_8_method_63_code
def yX6_behind : MethodName := ⟨RX6, "behind", "(III)I"⟩
abbrev cX6_setWas : ByteArray := prog_8_method_64_code
def yX6_setWas : MethodName := ⟨RX6, "setWas", "()V"⟩
abbrev cX6_isWas : ByteArray := prog_8_method_65_code
def yX6_isWas : MethodName := ⟨RX6, "isWas", "()Z"⟩
abbrev cX6_topOf : ByteArray := prog_8_method_66_code
def yX6_topOf : MethodName := ⟨RX6, "topOf", "(II)I"⟩
abbrev cX6_highestNow : ByteArray := prog_8_method_67_code
def yX6_highestNow : MethodName := ⟨RX6, "highestNow", "()I"⟩
abbrev cX6_rest : ByteArray := prog_8_method_68_code
def yX6_rest : MethodName := ⟨RX6, "rest", "(I)I"⟩
abbrev cX6_round : ByteArray := prog_8_method_69_code
def yX6_round : MethodName := ⟨RX6, "round", "(I)I"⟩
abbrev cX6_bestOf : ByteArray := prog_8_method_70_code
def yX6_bestOf : MethodName := ⟨RX6, "bestOf", "(II)I"⟩
abbrev cX6_highest : ByteArray := prog_8_method_71_code
def yX6_highest : MethodName := ⟨RX6, "highest", "(I)I"⟩
abbrev cX6_lowest : ByteArray := prog_8_method_72_code
def yX6_lowest : MethodName := ⟨RX6, "lowest", "(I)I"⟩
abbrev cX6_isGoal : ByteArray := prog_8_method_73_code
def yX6_isGoal : MethodName := ⟨RX6, "isGoal", "()Z"⟩
abbrev cX6_playOn : ByteArray := prog_8_method_74_code
def yX6_playOn : MethodName := ⟨RX6, "playOn", "(III)V"⟩
abbrev cX6_layBest : ByteArray := prog_8_method_75_code
def yX6_layBest : MethodName := ⟨RX6, "layBest", "(II)V"⟩
abbrev cX6_flat : ByteArray := prog_8_method_76_code
def yX6_flat : MethodName := ⟨RX6, "flat", "(II)I"⟩
abbrev cX6_raise : ByteArray := prog_8_method_77_code
def yX6_raise : MethodName := ⟨RX6, "raise", "(IIII)I"⟩
abbrev cX6_keeps : ByteArray := prog_8_method_78_code
def yX6_keeps : MethodName := ⟨RX6, "keeps", "(I)I"⟩
abbrev cX6_rivalOn : ByteArray := prog_8_method_79_code
def yX6_rivalOn : MethodName := ⟨RX6, "rivalOn", "(IIIII)I"⟩
abbrev cX6_rivals : ByteArray := prog_8_method_80_code
def yX6_rivals : MethodName := ⟨RX6, "rivals", "(IIII)I"⟩
abbrev cX6_isRowNow : ByteArray := prog_8_method_81_code
def yX6_isRowNow : MethodName := ⟨RX6, "isRowNow", "(I)Z"⟩
abbrev cX6_askedHeights : ByteArray := prog_8_method_82_code
def yX6_askedHeights : MethodName := ⟨RX6, "askedHeights", "(I)I"⟩
abbrev cX6_setPlayed : ByteArray := prog_8_method_83_code
def yX6_setPlayed : MethodName := ⟨RX6, "setPlayed", "(I)V"⟩
abbrev cX6_askedPlayed : ByteArray := prog_8_method_84_code
def yX6_askedPlayed : MethodName := ⟨RX6, "askedPlayed", "(I)I"⟩
abbrev cX6_played : ByteArray := prog_8_method_85_code
def yX6_played : MethodName := ⟨RX6, "played", "(I)I"⟩
abbrev cX6_could : ByteArray := prog_8_method_86_code
def yX6_could : MethodName := ⟨RX6, "could", "(II)I"⟩
abbrev cX6_twice : ByteArray := prog_8_method_87_code
def yX6_twice : MethodName := ⟨RX6, "twice", "(I)I"⟩
abbrev cX6_valleys : ByteArray := prog_8_method_88_code
def yX6_valleys : MethodName := ⟨RX6, "valleys", "()I"⟩
abbrev cX6_top : ByteArray := prog_8_method_89_code
def yX6_top : MethodName := ⟨RX6, "top", "()I"⟩
abbrev cX6_isSpan : ByteArray := prog_8_method_90_code
def yX6_isSpan : MethodName := ⟨RX6, "isSpan", "(II)Z"⟩
abbrev cX6_border : ByteArray := prog_8_method_91_code
def yX6_border : MethodName := ⟨RX6, "border", "(II)I"⟩
abbrev cX6_shifts : ByteArray := prog_8_method_92_code
def yX6_shifts : MethodName := ⟨RX6, "shifts", "(II)I"⟩
abbrev cX6_far : ByteArray := prog_8_method_93_code
def yX6_far : MethodName := ⟨RX6, "far", "(I)I"⟩
abbrev cX6_season : ByteArray := prog_8_method_94_code
def yX6_season : MethodName := ⟨RX6, "season", "(II)I"⟩
abbrev cX6_asked : ByteArray := prog_8_method_95_code
def yX6_asked : MethodName := ⟨RX6, "asked", "()I"⟩
abbrev cX6_divisor : ByteArray := prog_8_method_96_code
def yX6_divisor : MethodName := ⟨RX6, "divisor", "(II)I"⟩
abbrev cX6_upper : ByteArray := prog_8_method_97_code
def yX6_upper : MethodName := ⟨RX6, "upper", "()J"⟩
abbrev cX6_lower : ByteArray := prog_8_method_98_code
def yX6_lower : MethodName := ⟨RX6, "lower", "()J"⟩
abbrev cX6_tells : ByteArray := prog_8_method_99_code
def yX6_tells : MethodName := ⟨RX6, "tells", "(I)I"⟩
abbrev cX6_count : ByteArray := prog_8_method_100_code
def yX6_count : MethodName := ⟨RX6, "count", "(I)I"⟩
abbrev cX6_finding : ByteArray := prog_8_method_101_code
def yX6_finding : MethodName := ⟨RX6, "finding", "()I"⟩
abbrev cX6_findings : ByteArray := prog_8_method_102_code
def yX6_findings : MethodName := ⟨RX6, "findings", "(I)I"⟩
abbrev cX6_mix : ByteArray := prog_8_method_103_code
def yX6_mix : MethodName := ⟨RX6, "mix", "(I)V"⟩
abbrev cX6_mixLand : ByteArray := prog_8_method_104_code
def yX6_mixLand : MethodName := ⟨RX6, "mixLand", "()V"⟩
abbrev cX6_digest : ByteArray := prog_8_method_105_code
def yX6_digest : MethodName := ⟨RX6, "digest", "()J"⟩
def RJ6 : String := "java/lang/Integer"
def TJ6 : u_T := fun k => match k with
  | _ => ("", "", "", false)
def tyJ6 : Nat → FieldType := fun k => match k with
  | _ => .int
abbrev wsJ60 : List Cond := u_ws RJ6 TJ6 0
theorem nmJ6 : ∀ a, a < 0 → ∀ b, b < 0 → a ≠ b → (TJ6 a).2.1 ≠ (TJ6 b).2.1 := by decide +kernel
theorem tyJ6_ok : ∀ k, k < 0 → parseFieldDescriptor (TJ6 k).2.2.1 = some (tyJ6 k) := by decide +kernel
abbrev cJ6_bitCount_0f7a4 : ByteArray := prog_9_method_49_code
def yJ6_bitCount_0f7a4 : MethodName := ⟨RJ6, "bitCount", "(I)I"⟩
def RJ9 : String := "java/lang/Math"
def TJ9 : u_T := fun k => match k with
  | _ => ("", "", "", false)
def tyJ9 : Nat → FieldType := fun k => match k with
  | _ => .int
abbrev wsJ90 : List Cond := u_ws RJ9 TJ9 0
theorem nmJ9 : ∀ a, a < 0 → ∀ b, b < 0 → a ≠ b → (TJ9 a).2.1 ≠ (TJ9 b).2.1 := by decide +kernel
theorem tyJ9_ok : ∀ k, k < 0 → parseFieldDescriptor (TJ9 k).2.2.1 = some (tyJ9 k) := by decide +kernel
abbrev cJ9_abs_0f7a4 : ByteArray := prog_10_method_59_code
def yJ9_abs_0f7a4 : MethodName := ⟨RJ9, "abs", "(I)I"⟩
abbrev cJ9_max_7cf53 : ByteArray := prog_10_method_65_code
def yJ9_max_7cf53 : MethodName := ⟨RJ9, "max", "(II)I"⟩
abbrev cJ9_min_7cf53 : ByteArray := prog_10_method_69_code
def yJ9_min_7cf53 : MethodName := ⟨RJ9, "min", "(II)I"⟩
def RJ10 : String := "java/lang/System"
def TJ10 : u_T := fun k => match k with
  | _ => ("", "", "", false)
def tyJ10 : Nat → FieldType := fun k => match k with
  | _ => .int
abbrev wsJ100 : List Cond := u_ws RJ10 TJ10 0
theorem nmJ10 : ∀ a, a < 0 → ∀ b, b < 0 → a ≠ b → (TJ10 a).2.1 ≠ (TJ10 b).2.1 := by decide +kernel
theorem tyJ10_ok : ∀ k, k < 0 → parseFieldDescriptor (TJ10 k).2.2.1 = some (tyJ10 k) := by decide +kernel
def RL : String := "MovingHillsLaw"
abbrev cL_law : ByteArray := code
def yL_law : MethodName := ⟨RL, "law", "([I)Z"⟩
abbrev vwCl : List vw_C := [(RX0, TX0, 8), (RX1, TX1, 12), (RX2, TX2, 12), (RX3, TX3, 6), (RX4, TX4, 3), (RX5, TX5, 11), (RX6, TX6, 42)]
end
section
theorem dX4_init_0 : decode cX4_init 0 = .ok (.aload_n 0, 1) := by decide +kernel
theorem dX4_init_1 : decode cX4_init 1 = .ok (.invokespecial 3, 3) := by decide +kernel
theorem dX4_init_4 : decode cX4_init 4 = .ok (.aload_n 0, 1) := by decide +kernel
theorem dX4_init_5 : decode cX4_init 5 = .ok (.iload_n 2, 1) := by decide +kernel
theorem dX4_init_6 : decode cX4_init 6 = .ok (.putfield 9, 3) := by decide +kernel
theorem dX4_init_9 : decode cX4_init 9 = .ok (.aload_n 0, 1) := by decide +kernel
theorem dX4_init_10 : decode cX4_init 10 = .ok (.iload_n 1, 1) := by decide +kernel
theorem dX4_init_11 : decode cX4_init 11 = .ok (.iload_n 2, 1) := by decide +kernel
theorem dX4_init_12 : decode cX4_init 12 = .ok (.multianewarray 15 2, 4) := by decide +kernel
theorem dX4_init_16 : decode cX4_init 16 = .ok (.putfield 17, 3) := by decide +kernel
theorem dX4_init_19 : decode cX4_init 19 = .ok (.aload_n 0, 1) := by decide +kernel
theorem dX4_init_20 : decode cX4_init 20 = .ok (.iload_n 1, 1) := by decide +kernel
theorem dX4_init_21 : decode cX4_init 21 = .ok (.newarray .int, 2) := by decide +kernel
theorem dX4_init_23 : decode cX4_init 23 = .ok (.putfield 20, 3) := by decide +kernel
theorem dX4_init_26 : decode cX4_init 26 = .ok (.iconst 0, 1) := by decide +kernel
theorem dX4_init_27 : decode cX4_init 27 = .ok (.istore_n 3, 1) := by decide +kernel
theorem dX4_init_28 : decode cX4_init 28 = .ok (.iload_n 3, 1) := by decide +kernel
theorem dX4_init_29 : decode cX4_init 29 = .ok (.iload_n 1, 1) := by decide +kernel
theorem dX4_init_30 : decode cX4_init 30 = .ok (.if_icmp .ge 16, 3) := by decide +kernel
theorem dX4_init_33 : decode cX4_init 33 = .ok (.aload_n 0, 1) := by decide +kernel
theorem dX4_init_34 : decode cX4_init 34 = .ok (.getfield 20, 3) := by decide +kernel
theorem dX4_init_37 : decode cX4_init 37 = .ok (.iload_n 3, 1) := by decide +kernel
theorem dX4_init_38 : decode cX4_init 38 = .ok (.iconst (-1), 1) := by decide +kernel
theorem dX4_init_39 : decode cX4_init 39 = .ok (.iastore, 1) := by decide +kernel
theorem dX4_init_40 : decode cX4_init 40 = .ok (.iinc 3 1, 3) := by decide +kernel
theorem dX4_init_43 : decode cX4_init 43 = .ok (.goto (-15), 3) := by decide +kernel
theorem dX4_init_46 : decode cX4_init 46 = .ok (.return_, 1) := by decide +kernel
theorem dX4_names_0 : decode cX4_names 0 = .ok (.iload_n 1, 1) := by decide +kernel
theorem dX4_names_1 : decode cX4_names 1 = .ok (.ifCond .lt 16, 3) := by decide +kernel
theorem dX4_names_4 : decode cX4_names 4 = .ok (.iload_n 1, 1) := by decide +kernel
theorem dX4_names_5 : decode cX4_names 5 = .ok (.aload_n 0, 1) := by decide +kernel
theorem dX4_names_6 : decode cX4_names 6 = .ok (.getfield 20, 3) := by decide +kernel
theorem dX4_names_9 : decode cX4_names 9 = .ok (.arraylength, 1) := by decide +kernel
theorem dX4_names_10 : decode cX4_names 10 = .ok (.if_icmp .ge 7, 3) := by decide +kernel
theorem dX4_names_13 : decode cX4_names 13 = .ok (.iconst 1, 1) := by decide +kernel
theorem dX4_names_14 : decode cX4_names 14 = .ok (.goto 4, 3) := by decide +kernel
theorem dX4_names_17 : decode cX4_names 17 = .ok (.iconst 0, 1) := by decide +kernel
theorem dX4_names_18 : decode cX4_names 18 = .ok (.ireturn, 1) := by decide +kernel
theorem dX4_holds_0 : decode cX4_holds 0 = .ok (.aload_n 0, 1) := by decide +kernel
theorem dX4_holds_1 : decode cX4_holds 1 = .ok (.iload_n 1, 1) := by decide +kernel
theorem dX4_holds_2 : decode cX4_holds 2 = .ok (.invokevirtual 24, 3) := by decide +kernel
theorem dX4_holds_5 : decode cX4_holds 5 = .ok (.ifCond .lt 7, 3) := by decide +kernel
theorem dX4_holds_8 : decode cX4_holds 8 = .ok (.iconst 1, 1) := by decide +kernel
theorem dX4_holds_9 : decode cX4_holds 9 = .ok (.goto 4, 3) := by decide +kernel
theorem dX4_holds_12 : decode cX4_holds 12 = .ok (.iconst 0, 1) := by decide +kernel
theorem dX4_holds_13 : decode cX4_holds 13 = .ok (.ireturn, 1) := by decide +kernel
theorem dX4_sizeOf_0 : decode cX4_sizeOf 0 = .ok (.iload_n 1, 1) := by decide +kernel
theorem dX4_sizeOf_1 : decode cX4_sizeOf 1 = .ok (.ifCond .lt 21, 3) := by decide +kernel
theorem dX4_sizeOf_4 : decode cX4_sizeOf 4 = .ok (.iload_n 1, 1) := by decide +kernel
theorem dX4_sizeOf_5 : decode cX4_sizeOf 5 = .ok (.aload_n 0, 1) := by decide +kernel
theorem dX4_sizeOf_6 : decode cX4_sizeOf 6 = .ok (.getfield 20, 3) := by decide +kernel
theorem dX4_sizeOf_9 : decode cX4_sizeOf 9 = .ok (.arraylength, 1) := by decide +kernel
theorem dX4_sizeOf_10 : decode cX4_sizeOf 10 = .ok (.if_icmp .ge 12, 3) := by decide +kernel
theorem dX4_sizeOf_13 : decode cX4_sizeOf 13 = .ok (.aload_n 0, 1) := by decide +kernel
theorem dX4_sizeOf_14 : decode cX4_sizeOf 14 = .ok (.getfield 20, 3) := by decide +kernel
theorem dX4_sizeOf_17 : decode cX4_sizeOf 17 = .ok (.iload_n 1, 1) := by decide +kernel
theorem dX4_sizeOf_18 : decode cX4_sizeOf 18 = .ok (.iaload, 1) := by decide +kernel
theorem dX4_sizeOf_19 : decode cX4_sizeOf 19 = .ok (.goto 4, 3) := by decide +kernel
theorem dX4_sizeOf_22 : decode cX4_sizeOf 22 = .ok (.iconst (-1), 1) := by decide +kernel
theorem dX4_sizeOf_23 : decode cX4_sizeOf 23 = .ok (.ireturn, 1) := by decide +kernel
theorem dX4_reaches_0 : decode cX4_reaches 0 = .ok (.iload_n 2, 1) := by decide +kernel
theorem dX4_reaches_1 : decode cX4_reaches 1 = .ok (.ifCond .lt 16, 3) := by decide +kernel
theorem dX4_reaches_4 : decode cX4_reaches 4 = .ok (.iload_n 2, 1) := by decide +kernel
theorem dX4_reaches_5 : decode cX4_reaches 5 = .ok (.aload_n 0, 1) := by decide +kernel
theorem dX4_reaches_6 : decode cX4_reaches 6 = .ok (.iload_n 1, 1) := by decide +kernel
theorem dX4_reaches_7 : decode cX4_reaches 7 = .ok (.invokevirtual 24, 3) := by decide +kernel
theorem dX4_reaches_10 : decode cX4_reaches 10 = .ok (.if_icmp .ge 7, 3) := by decide +kernel
theorem dX4_reaches_13 : decode cX4_reaches 13 = .ok (.iconst 1, 1) := by decide +kernel
theorem dX4_reaches_14 : decode cX4_reaches 14 = .ok (.goto 4, 3) := by decide +kernel
theorem dX4_reaches_17 : decode cX4_reaches 17 = .ok (.iconst 0, 1) := by decide +kernel
theorem dX4_reaches_18 : decode cX4_reaches 18 = .ok (.ireturn, 1) := by decide +kernel
theorem dX4_spans_0 : decode cX4_spans 0 = .ok (.aload_n 0, 1) := by decide +kernel
theorem dX4_spans_1 : decode cX4_spans 1 = .ok (.iload_n 1, 1) := by decide +kernel
theorem dX4_spans_2 : decode cX4_spans 2 = .ok (.invokevirtual 24, 3) := by decide +kernel
theorem dX4_spans_5 : decode cX4_spans 5 = .ok (.istore 4, 2) := by decide +kernel
theorem dX4_spans_7 : decode cX4_spans 7 = .ok (.iload_n 2, 1) := by decide +kernel
theorem dX4_spans_8 : decode cX4_spans 8 = .ok (.ifCond .lt 25, 3) := by decide +kernel
theorem dX4_spans_11 : decode cX4_spans 11 = .ok (.iload_n 3, 1) := by decide +kernel
theorem dX4_spans_12 : decode cX4_spans 12 = .ok (.ifCond .lt 21, 3) := by decide +kernel
theorem dX4_spans_15 : decode cX4_spans 15 = .ok (.iload_n 3, 1) := by decide +kernel
theorem dX4_spans_16 : decode cX4_spans 16 = .ok (.iload 4, 2) := by decide +kernel
theorem dX4_spans_18 : decode cX4_spans 18 = .ok (.if_icmp .gt 15, 3) := by decide +kernel
theorem dX4_spans_21 : decode cX4_spans 21 = .ok (.iload_n 2, 1) := by decide +kernel
theorem dX4_spans_22 : decode cX4_spans 22 = .ok (.iload 4, 2) := by decide +kernel
theorem dX4_spans_24 : decode cX4_spans 24 = .ok (.iload_n 3, 1) := by decide +kernel
theorem dX4_spans_25 : decode cX4_spans 25 = .ok (.isub, 1) := by decide +kernel
theorem dX4_spans_26 : decode cX4_spans 26 = .ok (.if_icmp .gt 7, 3) := by decide +kernel
theorem dX4_spans_29 : decode cX4_spans 29 = .ok (.iconst 1, 1) := by decide +kernel
theorem dX4_spans_30 : decode cX4_spans 30 = .ok (.goto 4, 3) := by decide +kernel
theorem dX4_spans_33 : decode cX4_spans 33 = .ok (.iconst 0, 1) := by decide +kernel
theorem dX4_spans_34 : decode cX4_spans 34 = .ok (.ireturn, 1) := by decide +kernel
theorem dX4_get_0 : decode cX4_get 0 = .ok (.aload_n 0, 1) := by decide +kernel
theorem dX4_get_1 : decode cX4_get 1 = .ok (.iload_n 1, 1) := by decide +kernel
theorem dX4_get_2 : decode cX4_get 2 = .ok (.iload_n 2, 1) := by decide +kernel
theorem dX4_get_3 : decode cX4_get 3 = .ok (.invokevirtual 28, 3) := by decide +kernel
theorem dX4_get_6 : decode cX4_get 6 = .ok (.ifCond .eq 14, 3) := by decide +kernel
theorem dX4_get_9 : decode cX4_get 9 = .ok (.aload_n 0, 1) := by decide +kernel
theorem dX4_get_10 : decode cX4_get 10 = .ok (.getfield 17, 3) := by decide +kernel
theorem dX4_get_13 : decode cX4_get 13 = .ok (.iload_n 1, 1) := by decide +kernel
theorem dX4_get_14 : decode cX4_get 14 = .ok (.aaload, 1) := by decide +kernel
theorem dX4_get_15 : decode cX4_get 15 = .ok (.iload_n 2, 1) := by decide +kernel
theorem dX4_get_16 : decode cX4_get 16 = .ok (.iaload, 1) := by decide +kernel
theorem dX4_get_17 : decode cX4_get 17 = .ok (.goto 4, 3) := by decide +kernel
theorem dX4_get_20 : decode cX4_get 20 = .ok (.iconst 0, 1) := by decide +kernel
theorem dX4_get_21 : decode cX4_get 21 = .ok (.ireturn, 1) := by decide +kernel
theorem dX4_set_0 : decode cX4_set 0 = .ok (.aload_n 0, 1) := by decide +kernel
theorem dX4_set_1 : decode cX4_set 1 = .ok (.iload_n 1, 1) := by decide +kernel
theorem dX4_set_2 : decode cX4_set 2 = .ok (.iload_n 2, 1) := by decide +kernel
theorem dX4_set_3 : decode cX4_set 3 = .ok (.invokevirtual 28, 3) := by decide +kernel
theorem dX4_set_6 : decode cX4_set 6 = .ok (.ifCond .eq 12, 3) := by decide +kernel
theorem dX4_set_9 : decode cX4_set 9 = .ok (.aload_n 0, 1) := by decide +kernel
theorem dX4_set_10 : decode cX4_set 10 = .ok (.getfield 17, 3) := by decide +kernel
theorem dX4_set_13 : decode cX4_set 13 = .ok (.iload_n 1, 1) := by decide +kernel
theorem dX4_set_14 : decode cX4_set 14 = .ok (.aaload, 1) := by decide +kernel
theorem dX4_set_15 : decode cX4_set 15 = .ok (.iload_n 2, 1) := by decide +kernel
theorem dX4_set_16 : decode cX4_set 16 = .ok (.iload_n 3, 1) := by decide +kernel
theorem dX4_set_17 : decode cX4_set 17 = .ok (.iastore, 1) := by decide +kernel
theorem dX4_set_18 : decode cX4_set 18 = .ok (.return_, 1) := by decide +kernel
theorem dX4_open_0 : decode cX4_open 0 = .ok (.aload_n 0, 1) := by decide +kernel
theorem dX4_open_1 : decode cX4_open 1 = .ok (.iload_n 1, 1) := by decide +kernel
theorem dX4_open_2 : decode cX4_open 2 = .ok (.invokevirtual 32, 3) := by decide +kernel
theorem dX4_open_5 : decode cX4_open 5 = .ok (.ifCond .eq 15, 3) := by decide +kernel
theorem dX4_open_8 : decode cX4_open 8 = .ok (.iload_n 2, 1) := by decide +kernel
theorem dX4_open_9 : decode cX4_open 9 = .ok (.ifCond .lt 11, 3) := by decide +kernel
theorem dX4_open_12 : decode cX4_open 12 = .ok (.iload_n 2, 1) := by decide +kernel
theorem dX4_open_13 : decode cX4_open 13 = .ok (.aload_n 0, 1) := by decide +kernel
theorem dX4_open_14 : decode cX4_open 14 = .ok (.getfield 9, 3) := by decide +kernel
theorem dX4_open_17 : decode cX4_open 17 = .ok (.if_icmp .le 4, 3) := by decide +kernel
theorem dX4_open_20 : decode cX4_open 20 = .ok (.return_, 1) := by decide +kernel
theorem dX4_open_21 : decode cX4_open 21 = .ok (.aload_n 0, 1) := by decide +kernel
theorem dX4_open_22 : decode cX4_open 22 = .ok (.getfield 20, 3) := by decide +kernel
theorem dX4_open_25 : decode cX4_open 25 = .ok (.iload_n 1, 1) := by decide +kernel
theorem dX4_open_26 : decode cX4_open 26 = .ok (.iload_n 2, 1) := by decide +kernel
theorem dX4_open_27 : decode cX4_open 27 = .ok (.iastore, 1) := by decide +kernel
theorem dX4_open_28 : decode cX4_open 28 = .ok (.iconst 0, 1) := by decide +kernel
theorem dX4_open_29 : decode cX4_open 29 = .ok (.istore 4, 2) := by decide +kernel
theorem dX4_open_31 : decode cX4_open 31 = .ok (.iload 4, 2) := by decide +kernel
theorem dX4_open_33 : decode cX4_open 33 = .ok (.iload_n 2, 1) := by decide +kernel
theorem dX4_open_34 : decode cX4_open 34 = .ok (.if_icmp .ge 19, 3) := by decide +kernel
theorem dX4_open_37 : decode cX4_open 37 = .ok (.aload_n 0, 1) := by decide +kernel
theorem dX4_open_38 : decode cX4_open 38 = .ok (.getfield 17, 3) := by decide +kernel
theorem dX4_open_41 : decode cX4_open 41 = .ok (.iload_n 1, 1) := by decide +kernel
theorem dX4_open_42 : decode cX4_open 42 = .ok (.aaload, 1) := by decide +kernel
theorem dX4_open_43 : decode cX4_open 43 = .ok (.iload 4, 2) := by decide +kernel
theorem dX4_open_45 : decode cX4_open 45 = .ok (.iload_n 3, 1) := by decide +kernel
theorem dX4_open_46 : decode cX4_open 46 = .ok (.iastore, 1) := by decide +kernel
theorem dX4_open_47 : decode cX4_open 47 = .ok (.iinc 4 1, 3) := by decide +kernel
theorem dX4_open_50 : decode cX4_open 50 = .ok (.goto (-19), 3) := by decide +kernel
theorem dX4_open_53 : decode cX4_open 53 = .ok (.return_, 1) := by decide +kernel
theorem dX4_close_0 : decode cX4_close 0 = .ok (.aload_n 0, 1) := by decide +kernel
theorem dX4_close_1 : decode cX4_close 1 = .ok (.iload_n 1, 1) := by decide +kernel
theorem dX4_close_2 : decode cX4_close 2 = .ok (.invokevirtual 32, 3) := by decide +kernel
theorem dX4_close_5 : decode cX4_close 5 = .ok (.ifCond .eq 10, 3) := by decide +kernel
theorem dX4_close_8 : decode cX4_close 8 = .ok (.aload_n 0, 1) := by decide +kernel
theorem dX4_close_9 : decode cX4_close 9 = .ok (.getfield 20, 3) := by decide +kernel
theorem dX4_close_12 : decode cX4_close 12 = .ok (.iload_n 1, 1) := by decide +kernel
theorem dX4_close_13 : decode cX4_close 13 = .ok (.iconst (-1), 1) := by decide +kernel
theorem dX4_close_14 : decode cX4_close 14 = .ok (.iastore, 1) := by decide +kernel
theorem dX4_close_15 : decode cX4_close 15 = .ok (.return_, 1) := by decide +kernel
theorem dX4_transfer_0 : decode cX4_transfer 0 = .ok (.aload_n 0, 1) := by decide +kernel
theorem dX4_transfer_1 : decode cX4_transfer 1 = .ok (.iload_n 1, 1) := by decide +kernel
theorem dX4_transfer_2 : decode cX4_transfer 2 = .ok (.iload_n 2, 1) := by decide +kernel
theorem dX4_transfer_3 : decode cX4_transfer 3 = .ok (.iload 5, 2) := by decide +kernel
theorem dX4_transfer_5 : decode cX4_transfer 5 = .ok (.invokevirtual 36, 3) := by decide +kernel
theorem dX4_transfer_8 : decode cX4_transfer 8 = .ok (.ifCond .eq 35, 3) := by decide +kernel
theorem dX4_transfer_11 : decode cX4_transfer 11 = .ok (.aload_n 0, 1) := by decide +kernel
theorem dX4_transfer_12 : decode cX4_transfer 12 = .ok (.iload_n 3, 1) := by decide +kernel
theorem dX4_transfer_13 : decode cX4_transfer 13 = .ok (.iload 4, 2) := by decide +kernel
theorem dX4_transfer_15 : decode cX4_transfer 15 = .ok (.iload 5, 2) := by decide +kernel
theorem dX4_transfer_17 : decode cX4_transfer 17 = .ok (.invokevirtual 36, 3) := by decide +kernel
theorem dX4_transfer_20 : decode cX4_transfer 20 = .ok (.ifCond .eq 23, 3) := by decide +kernel
theorem dX4_transfer_23 : decode cX4_transfer 23 = .ok (.aload_n 0, 1) := by decide +kernel
theorem dX4_transfer_24 : decode cX4_transfer 24 = .ok (.getfield 17, 3) := by decide +kernel
theorem dX4_transfer_27 : decode cX4_transfer 27 = .ok (.iload_n 1, 1) := by decide +kernel
theorem dX4_transfer_28 : decode cX4_transfer 28 = .ok (.aaload, 1) := by decide +kernel
theorem dX4_transfer_29 : decode cX4_transfer 29 = .ok (.iload_n 2, 1) := by decide +kernel
theorem dX4_transfer_30 : decode cX4_transfer 30 = .ok (.aload_n 0, 1) := by decide +kernel
theorem dX4_transfer_31 : decode cX4_transfer 31 = .ok (.getfield 17, 3) := by decide +kernel
theorem dX4_transfer_34 : decode cX4_transfer 34 = .ok (.iload_n 3, 1) := by decide +kernel
theorem dX4_transfer_35 : decode cX4_transfer 35 = .ok (.aaload, 1) := by decide +kernel
theorem dX4_transfer_36 : decode cX4_transfer 36 = .ok (.iload 4, 2) := by decide +kernel
theorem dX4_transfer_38 : decode cX4_transfer 38 = .ok (.iload 5, 2) := by decide +kernel
theorem dX4_transfer_40 : decode cX4_transfer 40 = .ok (.invokestatic 40, 3) := by decide +kernel
theorem dX4_transfer_43 : decode cX4_transfer 43 = .ok (.return_, 1) := by decide +kernel
theorem dX4_sumOf_0 : decode cX4_sumOf 0 = .ok (.lconst 0, 1) := by decide +kernel
theorem dX4_sumOf_1 : decode cX4_sumOf 1 = .ok (.lstore_n 2, 1) := by decide +kernel
theorem dX4_sumOf_2 : decode cX4_sumOf 2 = .ok (.aload_n 0, 1) := by decide +kernel
theorem dX4_sumOf_3 : decode cX4_sumOf 3 = .ok (.iload_n 1, 1) := by decide +kernel
theorem dX4_sumOf_4 : decode cX4_sumOf 4 = .ok (.invokevirtual 24, 3) := by decide +kernel
theorem dX4_sumOf_7 : decode cX4_sumOf 7 = .ok (.istore 4, 2) := by decide +kernel
theorem dX4_sumOf_9 : decode cX4_sumOf 9 = .ok (.iconst 0, 1) := by decide +kernel
theorem dX4_sumOf_10 : decode cX4_sumOf 10 = .ok (.istore 5, 2) := by decide +kernel
theorem dX4_sumOf_12 : decode cX4_sumOf 12 = .ok (.iload 5, 2) := by decide +kernel
theorem dX4_sumOf_14 : decode cX4_sumOf 14 = .ok (.iload 4, 2) := by decide +kernel
theorem dX4_sumOf_16 : decode cX4_sumOf 16 = .ok (.if_icmp .ge 22, 3) := by decide +kernel
theorem dX4_sumOf_19 : decode cX4_sumOf 19 = .ok (.lload_n 2, 1) := by decide +kernel
theorem dX4_sumOf_20 : decode cX4_sumOf 20 = .ok (.aload_n 0, 1) := by decide +kernel
theorem dX4_sumOf_21 : decode cX4_sumOf 21 = .ok (.getfield 17, 3) := by decide +kernel
theorem dX4_sumOf_24 : decode cX4_sumOf 24 = .ok (.iload_n 1, 1) := by decide +kernel
theorem dX4_sumOf_25 : decode cX4_sumOf 25 = .ok (.aaload, 1) := by decide +kernel
theorem dX4_sumOf_26 : decode cX4_sumOf 26 = .ok (.iload 5, 2) := by decide +kernel
theorem dX4_sumOf_28 : decode cX4_sumOf 28 = .ok (.iaload, 1) := by decide +kernel
theorem dX4_sumOf_29 : decode cX4_sumOf 29 = .ok (.i2l, 1) := by decide +kernel
theorem dX4_sumOf_30 : decode cX4_sumOf 30 = .ok (.ladd, 1) := by decide +kernel
theorem dX4_sumOf_31 : decode cX4_sumOf 31 = .ok (.lstore_n 2, 1) := by decide +kernel
theorem dX4_sumOf_32 : decode cX4_sumOf 32 = .ok (.iinc 5 1, 3) := by decide +kernel
theorem dX4_sumOf_35 : decode cX4_sumOf 35 = .ok (.goto (-23), 3) := by decide +kernel
theorem dX4_sumOf_38 : decode cX4_sumOf 38 = .ok (.lload_n 2, 1) := by decide +kernel
theorem dX4_sumOf_39 : decode cX4_sumOf 39 = .ok (.lreturn, 1) := by decide +kernel
theorem dX4_held_0 : decode cX4_held 0 = .ok (.iconst 0, 1) := by decide +kernel
theorem dX4_held_1 : decode cX4_held 1 = .ok (.istore_n 1, 1) := by decide +kernel
theorem dX4_held_2 : decode cX4_held 2 = .ok (.iconst 0, 1) := by decide +kernel
theorem dX4_held_3 : decode cX4_held 3 = .ok (.istore_n 2, 1) := by decide +kernel
theorem dX4_held_4 : decode cX4_held 4 = .ok (.iload_n 2, 1) := by decide +kernel
theorem dX4_held_5 : decode cX4_held 5 = .ok (.aload_n 0, 1) := by decide +kernel
theorem dX4_held_6 : decode cX4_held 6 = .ok (.getfield 20, 3) := by decide +kernel
theorem dX4_held_9 : decode cX4_held 9 = .ok (.arraylength, 1) := by decide +kernel
theorem dX4_held_10 : decode cX4_held 10 = .ok (.if_icmp .ge 21, 3) := by decide +kernel
theorem dX4_held_13 : decode cX4_held 13 = .ok (.aload_n 0, 1) := by decide +kernel
theorem dX4_held_14 : decode cX4_held 14 = .ok (.getfield 20, 3) := by decide +kernel
theorem dX4_held_17 : decode cX4_held 17 = .ok (.iload_n 2, 1) := by decide +kernel
theorem dX4_held_18 : decode cX4_held 18 = .ok (.iaload, 1) := by decide +kernel
theorem dX4_held_19 : decode cX4_held 19 = .ok (.ifCond .lt 6, 3) := by decide +kernel
theorem dX4_held_22 : decode cX4_held 22 = .ok (.iinc 1 1, 3) := by decide +kernel
theorem dX4_held_25 : decode cX4_held 25 = .ok (.iinc 2 1, 3) := by decide +kernel
theorem dX4_held_28 : decode cX4_held 28 = .ok (.goto (-24), 3) := by decide +kernel
theorem dX4_held_31 : decode cX4_held 31 = .ok (.iload_n 1, 1) := by decide +kernel
theorem dX4_held_32 : decode cX4_held 32 = .ok (.ireturn, 1) := by decide +kernel
theorem dX4_mixedInto_0 : decode cX4_mixedInto 0 = .ok (.lload_n 1, 1) := by decide +kernel
theorem dX4_mixedInto_1 : decode cX4_mixedInto 1 = .ok (.lstore_n 3, 1) := by decide +kernel
theorem dX4_mixedInto_2 : decode cX4_mixedInto 2 = .ok (.iconst 0, 1) := by decide +kernel
theorem dX4_mixedInto_3 : decode cX4_mixedInto 3 = .ok (.istore 5, 2) := by decide +kernel
theorem dX4_mixedInto_5 : decode cX4_mixedInto 5 = .ok (.iload 5, 2) := by decide +kernel
theorem dX4_mixedInto_7 : decode cX4_mixedInto 7 = .ok (.aload_n 0, 1) := by decide +kernel
theorem dX4_mixedInto_8 : decode cX4_mixedInto 8 = .ok (.getfield 20, 3) := by decide +kernel
theorem dX4_mixedInto_11 : decode cX4_mixedInto 11 = .ok (.arraylength, 1) := by decide +kernel
theorem dX4_mixedInto_12 : decode cX4_mixedInto 12 = .ok (.if_icmp .ge 63, 3) := by decide +kernel
theorem dX4_mixedInto_15 : decode cX4_mixedInto 15 = .ok (.ldc2_w 46, 3) := by decide +kernel
theorem dX4_mixedInto_18 : decode cX4_mixedInto 18 = .ok (.lload_n 3, 1) := by decide +kernel
theorem dX4_mixedInto_19 : decode cX4_mixedInto 19 = .ok (.lmul, 1) := by decide +kernel
theorem dX4_mixedInto_20 : decode cX4_mixedInto 20 = .ok (.aload_n 0, 1) := by decide +kernel
theorem dX4_mixedInto_21 : decode cX4_mixedInto 21 = .ok (.getfield 20, 3) := by decide +kernel
theorem dX4_mixedInto_24 : decode cX4_mixedInto 24 = .ok (.iload 5, 2) := by decide +kernel
theorem dX4_mixedInto_26 : decode cX4_mixedInto 26 = .ok (.iaload, 1) := by decide +kernel
theorem dX4_mixedInto_27 : decode cX4_mixedInto 27 = .ok (.i2l, 1) := by decide +kernel
theorem dX4_mixedInto_28 : decode cX4_mixedInto 28 = .ok (.ladd, 1) := by decide +kernel
theorem dX4_mixedInto_29 : decode cX4_mixedInto 29 = .ok (.lstore_n 3, 1) := by decide +kernel
theorem dX4_mixedInto_30 : decode cX4_mixedInto 30 = .ok (.iconst 0, 1) := by decide +kernel
theorem dX4_mixedInto_31 : decode cX4_mixedInto 31 = .ok (.istore 6, 2) := by decide +kernel
theorem dX4_mixedInto_33 : decode cX4_mixedInto 33 = .ok (.iload 6, 2) := by decide +kernel
theorem dX4_mixedInto_35 : decode cX4_mixedInto 35 = .ok (.aload_n 0, 1) := by decide +kernel
theorem dX4_mixedInto_36 : decode cX4_mixedInto 36 = .ok (.getfield 20, 3) := by decide +kernel
theorem dX4_mixedInto_39 : decode cX4_mixedInto 39 = .ok (.iload 5, 2) := by decide +kernel
theorem dX4_mixedInto_41 : decode cX4_mixedInto 41 = .ok (.iaload, 1) := by decide +kernel
theorem dX4_mixedInto_42 : decode cX4_mixedInto 42 = .ok (.if_icmp .ge 27, 3) := by decide +kernel
theorem dX4_mixedInto_45 : decode cX4_mixedInto 45 = .ok (.ldc2_w 46, 3) := by decide +kernel
theorem dX4_mixedInto_48 : decode cX4_mixedInto 48 = .ok (.lload_n 3, 1) := by decide +kernel
theorem dX4_mixedInto_49 : decode cX4_mixedInto 49 = .ok (.lmul, 1) := by decide +kernel
theorem dX4_mixedInto_50 : decode cX4_mixedInto 50 = .ok (.aload_n 0, 1) := by decide +kernel
theorem dX4_mixedInto_51 : decode cX4_mixedInto 51 = .ok (.getfield 17, 3) := by decide +kernel
theorem dX4_mixedInto_54 : decode cX4_mixedInto 54 = .ok (.iload 5, 2) := by decide +kernel
theorem dX4_mixedInto_56 : decode cX4_mixedInto 56 = .ok (.aaload, 1) := by decide +kernel
theorem dX4_mixedInto_57 : decode cX4_mixedInto 57 = .ok (.iload 6, 2) := by decide +kernel
theorem dX4_mixedInto_59 : decode cX4_mixedInto 59 = .ok (.iaload, 1) := by decide +kernel
theorem dX4_mixedInto_60 : decode cX4_mixedInto 60 = .ok (.i2l, 1) := by decide +kernel
theorem dX4_mixedInto_61 : decode cX4_mixedInto 61 = .ok (.ladd, 1) := by decide +kernel
theorem dX4_mixedInto_62 : decode cX4_mixedInto 62 = .ok (.lstore_n 3, 1) := by decide +kernel
theorem dX4_mixedInto_63 : decode cX4_mixedInto 63 = .ok (.iinc 6 1, 3) := by decide +kernel
theorem dX4_mixedInto_66 : decode cX4_mixedInto 66 = .ok (.goto (-33), 3) := by decide +kernel
theorem dX4_mixedInto_69 : decode cX4_mixedInto 69 = .ok (.iinc 5 1, 3) := by decide +kernel
theorem dX4_mixedInto_72 : decode cX4_mixedInto 72 = .ok (.goto (-67), 3) := by decide +kernel
theorem dX4_mixedInto_75 : decode cX4_mixedInto 75 = .ok (.lload_n 3, 1) := by decide +kernel
theorem dX4_mixedInto_76 : decode cX4_mixedInto 76 = .ok (.lreturn, 1) := by decide +kernel
theorem dX3_init_0 : decode cX3_init 0 = .ok (.aload_n 0, 1) := by decide +kernel
theorem dX3_init_1 : decode cX3_init 1 = .ok (.invokespecial 3, 3) := by decide +kernel
theorem dX3_init_4 : decode cX3_init 4 = .ok (.aload_n 0, 1) := by decide +kernel
theorem dX3_init_5 : decode cX3_init 5 = .ok (.bipush 10, 2) := by decide +kernel
theorem dX3_init_7 : decode cX3_init 7 = .ok (.newarray .int, 2) := by decide +kernel
theorem dX3_init_9 : decode cX3_init 9 = .ok (.putfield 9, 3) := by decide +kernel
theorem dX3_init_12 : decode cX3_init 12 = .ok (.aload_n 0, 1) := by decide +kernel
theorem dX3_init_13 : decode cX3_init 13 = .ok (.iconst 3, 1) := by decide +kernel
theorem dX3_init_14 : decode cX3_init 14 = .ok (.newarray .int, 2) := by decide +kernel
theorem dX3_init_16 : decode cX3_init 16 = .ok (.putfield 15, 3) := by decide +kernel
theorem dX3_init_19 : decode cX3_init 19 = .ok (.aload_n 0, 1) := by decide +kernel
theorem dX3_init_20 : decode cX3_init 20 = .ok (.iconst 3, 1) := by decide +kernel
theorem dX3_init_21 : decode cX3_init 21 = .ok (.newarray .int, 2) := by decide +kernel
theorem dX3_init_23 : decode cX3_init 23 = .ok (.putfield 18, 3) := by decide +kernel
theorem dX3_init_26 : decode cX3_init 26 = .ok (.aload_n 0, 1) := by decide +kernel
theorem dX3_init_27 : decode cX3_init 27 = .ok (.iconst 3, 1) := by decide +kernel
theorem dX3_init_28 : decode cX3_init 28 = .ok (.newarray .int, 2) := by decide +kernel
theorem dX3_init_30 : decode cX3_init 30 = .ok (.putfield 21, 3) := by decide +kernel
theorem dX3_init_33 : decode cX3_init 33 = .ok (.aload_n 0, 1) := by decide +kernel
theorem dX3_init_34 : decode cX3_init 34 = .ok (.iconst 0, 1) := by decide +kernel
theorem dX3_init_35 : decode cX3_init 35 = .ok (.putfield 24, 3) := by decide +kernel
theorem dX3_init_38 : decode cX3_init 38 = .ok (.aload_n 0, 1) := by decide +kernel
theorem dX3_init_39 : decode cX3_init 39 = .ok (.iconst 0, 1) := by decide +kernel
theorem dX3_init_40 : decode cX3_init 40 = .ok (.putfield 28, 3) := by decide +kernel
theorem dX3_init_43 : decode cX3_init 43 = .ok (.return_, 1) := by decide +kernel
theorem dX3_read_0 : decode cX3_read 0 = .ok (.aload_n 0, 1) := by decide +kernel
theorem dX3_read_1 : decode cX3_read 1 = .ok (.iconst 0, 1) := by decide +kernel
theorem dX3_read_2 : decode cX3_read 2 = .ok (.putfield 24, 3) := by decide +kernel
theorem dX3_read_5 : decode cX3_read 5 = .ok (.aload_n 0, 1) := by decide +kernel
theorem dX3_read_6 : decode cX3_read 6 = .ok (.iconst 0, 1) := by decide +kernel
theorem dX3_read_7 : decode cX3_read 7 = .ok (.putfield 28, 3) := by decide +kernel
theorem dX3_read_10 : decode cX3_read 10 = .ok (.aload_n 1, 1) := by decide +kernel
theorem dX3_read_11 : decode cX3_read 11 = .ok (.iload_n 2, 1) := by decide +kernel
theorem dX3_read_12 : decode cX3_read 12 = .ok (.invokevirtual 31, 3) := by decide +kernel
theorem dX3_read_15 : decode cX3_read 15 = .ok (.istore_n 3, 1) := by decide +kernel
theorem dX3_read_16 : decode cX3_read 16 = .ok (.aload_n 0, 1) := by decide +kernel
theorem dX3_read_17 : decode cX3_read 17 = .ok (.aload_n 1, 1) := by decide +kernel
theorem dX3_read_18 : decode cX3_read 18 = .ok (.iload_n 2, 1) := by decide +kernel
theorem dX3_read_19 : decode cX3_read 19 = .ok (.iconst 0, 1) := by decide +kernel
theorem dX3_read_20 : decode cX3_read 20 = .ok (.invokevirtual 37, 3) := by decide +kernel
theorem dX3_read_23 : decode cX3_read 23 = .ok (.istore 4, 2) := by decide +kernel
theorem dX3_read_25 : decode cX3_read 25 = .ok (.iload 4, 2) := by decide +kernel
theorem dX3_read_27 : decode cX3_read 27 = .ok (.iload_n 3, 1) := by decide +kernel
theorem dX3_read_28 : decode cX3_read 28 = .ok (.if_icmp .ge 15, 3) := by decide +kernel
theorem dX3_read_31 : decode cX3_read 31 = .ok (.aload_n 1, 1) := by decide +kernel
theorem dX3_read_32 : decode cX3_read 32 = .ok (.iload_n 2, 1) := by decide +kernel
theorem dX3_read_33 : decode cX3_read 33 = .ok (.iload 4, 2) := by decide +kernel
theorem dX3_read_35 : decode cX3_read 35 = .ok (.invokevirtual 41, 3) := by decide +kernel
theorem dX3_read_38 : decode cX3_read 38 = .ok (.bipush 103, 2) := by decide +kernel
theorem dX3_read_40 : decode cX3_read 40 = .ok (.if_icmp .eq 6, 3) := by decide +kernel
theorem dX3_read_43 : decode cX3_read 43 = .ok (.iload 4, 2) := by decide +kernel
theorem dX3_read_45 : decode cX3_read 45 = .ok (.ireturn, 1) := by decide +kernel
theorem dX3_read_46 : decode cX3_read 46 = .ok (.aload_n 0, 1) := by decide +kernel
theorem dX3_read_47 : decode cX3_read 47 = .ok (.aload_n 1, 1) := by decide +kernel
theorem dX3_read_48 : decode cX3_read 48 = .ok (.iload_n 2, 1) := by decide +kernel
theorem dX3_read_49 : decode cX3_read 49 = .ok (.iload 4, 2) := by decide +kernel
theorem dX3_read_51 : decode cX3_read 51 = .ok (.iconst 1, 1) := by decide +kernel
theorem dX3_read_52 : decode cX3_read 52 = .ok (.iadd, 1) := by decide +kernel
theorem dX3_read_53 : decode cX3_read 53 = .ok (.invokevirtual 45, 3) := by decide +kernel
theorem dX3_read_56 : decode cX3_read 56 = .ok (.istore 4, 2) := by decide +kernel
theorem dX3_read_58 : decode cX3_read 58 = .ok (.aload_n 0, 1) := by decide +kernel
theorem dX3_read_59 : decode cX3_read 59 = .ok (.getfield 24, 3) := by decide +kernel
theorem dX3_read_62 : decode cX3_read 62 = .ok (.iconst 2, 1) := by decide +kernel
theorem dX3_read_63 : decode cX3_read 63 = .ok (.if_icmp .ge 6, 3) := by decide +kernel
theorem dX3_read_66 : decode cX3_read 66 = .ok (.iload 4, 2) := by decide +kernel
theorem dX3_read_68 : decode cX3_read 68 = .ok (.ireturn, 1) := by decide +kernel
theorem dX3_read_69 : decode cX3_read 69 = .ok (.iconst 0, 1) := by decide +kernel
theorem dX3_read_70 : decode cX3_read 70 = .ok (.istore 5, 2) := by decide +kernel
theorem dX3_read_72 : decode cX3_read 72 = .ok (.iload 5, 2) := by decide +kernel
theorem dX3_read_74 : decode cX3_read 74 = .ok (.iconst 3, 1) := by decide +kernel
theorem dX3_read_75 : decode cX3_read 75 = .ok (.if_icmp .gt 51, 3) := by decide +kernel
theorem dX3_read_78 : decode cX3_read 78 = .ok (.aload_n 0, 1) := by decide +kernel
theorem dX3_read_79 : decode cX3_read 79 = .ok (.aload_n 1, 1) := by decide +kernel
theorem dX3_read_80 : decode cX3_read 80 = .ok (.iload_n 2, 1) := by decide +kernel
theorem dX3_read_81 : decode cX3_read 81 = .ok (.iload 4, 2) := by decide +kernel
theorem dX3_read_83 : decode cX3_read 83 = .ok (.invokevirtual 37, 3) := by decide +kernel
theorem dX3_read_86 : decode cX3_read 86 = .ok (.istore 4, 2) := by decide +kernel
theorem dX3_read_88 : decode cX3_read 88 = .ok (.iload 4, 2) := by decide +kernel
theorem dX3_read_90 : decode cX3_read 90 = .ok (.iload_n 3, 1) := by decide +kernel
theorem dX3_read_91 : decode cX3_read 91 = .ok (.if_icmp .lt 6, 3) := by decide +kernel
theorem dX3_read_94 : decode cX3_read 94 = .ok (.bipush (-9), 2) := by decide +kernel
theorem dX3_read_96 : decode cX3_read 96 = .ok (.ireturn, 1) := by decide +kernel
theorem dX3_read_97 : decode cX3_read 97 = .ok (.aload_n 0, 1) := by decide +kernel
theorem dX3_read_98 : decode cX3_read 98 = .ok (.aload_n 1, 1) := by decide +kernel
theorem dX3_read_99 : decode cX3_read 99 = .ok (.iload_n 2, 1) := by decide +kernel
theorem dX3_read_100 : decode cX3_read 100 = .ok (.iload 4, 2) := by decide +kernel
theorem dX3_read_102 : decode cX3_read 102 = .ok (.invokevirtual 48, 3) := by decide +kernel
theorem dX3_read_105 : decode cX3_read 105 = .ok (.istore 6, 2) := by decide +kernel
theorem dX3_read_107 : decode cX3_read 107 = .ok (.iload 6, 2) := by decide +kernel
theorem dX3_read_109 : decode cX3_read 109 = .ok (.bipush (-9), 2) := by decide +kernel
theorem dX3_read_111 : decode cX3_read 111 = .ok (.if_icmp .eq 6, 3) := by decide +kernel
theorem dX3_read_114 : decode cX3_read 114 = .ok (.iload 6, 2) := by decide +kernel
theorem dX3_read_116 : decode cX3_read 116 = .ok (.ireturn, 1) := by decide +kernel
theorem dX3_read_117 : decode cX3_read 117 = .ok (.iinc 4 3, 3) := by decide +kernel
theorem dX3_read_120 : decode cX3_read 120 = .ok (.iinc 5 1, 3) := by decide +kernel
theorem dX3_read_123 : decode cX3_read 123 = .ok (.goto (-51), 3) := by decide +kernel
theorem dX3_read_126 : decode cX3_read 126 = .ok (.iload 4, 2) := by decide +kernel
theorem dX3_read_128 : decode cX3_read 128 = .ok (.ireturn, 1) := by decide +kernel
theorem dX3_behindBlanks_0 : decode cX3_behindBlanks 0 = .ok (.iload_n 3, 1) := by decide +kernel
theorem dX3_behindBlanks_1 : decode cX3_behindBlanks 1 = .ok (.istore 4, 2) := by decide +kernel
theorem dX3_behindBlanks_3 : decode cX3_behindBlanks 3 = .ok (.iload 4, 2) := by decide +kernel
theorem dX3_behindBlanks_5 : decode cX3_behindBlanks 5 = .ok (.aload_n 1, 1) := by decide +kernel
theorem dX3_behindBlanks_6 : decode cX3_behindBlanks 6 = .ok (.iload_n 2, 1) := by decide +kernel
theorem dX3_behindBlanks_7 : decode cX3_behindBlanks 7 = .ok (.invokevirtual 31, 3) := by decide +kernel
theorem dX3_behindBlanks_10 : decode cX3_behindBlanks 10 = .ok (.if_icmp .ge 21, 3) := by decide +kernel
theorem dX3_behindBlanks_13 : decode cX3_behindBlanks 13 = .ok (.aload_n 1, 1) := by decide +kernel
theorem dX3_behindBlanks_14 : decode cX3_behindBlanks 14 = .ok (.iload_n 2, 1) := by decide +kernel
theorem dX3_behindBlanks_15 : decode cX3_behindBlanks 15 = .ok (.iload 4, 2) := by decide +kernel
theorem dX3_behindBlanks_17 : decode cX3_behindBlanks 17 = .ok (.invokevirtual 41, 3) := by decide +kernel
theorem dX3_behindBlanks_20 : decode cX3_behindBlanks 20 = .ok (.bipush 32, 2) := by decide +kernel
theorem dX3_behindBlanks_22 : decode cX3_behindBlanks 22 = .ok (.if_icmp .ne 9, 3) := by decide +kernel
theorem dX3_behindBlanks_25 : decode cX3_behindBlanks 25 = .ok (.iinc 4 1, 3) := by decide +kernel
theorem dX3_behindBlanks_28 : decode cX3_behindBlanks 28 = .ok (.goto (-25), 3) := by decide +kernel
theorem dX3_behindBlanks_31 : decode cX3_behindBlanks 31 = .ok (.iload 4, 2) := by decide +kernel
theorem dX3_behindBlanks_33 : decode cX3_behindBlanks 33 = .ok (.ireturn, 1) := by decide +kernel
theorem dX3_behindHeights_0 : decode cX3_behindHeights 0 = .ok (.iload_n 3, 1) := by decide +kernel
theorem dX3_behindHeights_1 : decode cX3_behindHeights 1 = .ok (.istore 4, 2) := by decide +kernel
theorem dX3_behindHeights_3 : decode cX3_behindHeights 3 = .ok (.aload_n 0, 1) := by decide +kernel
theorem dX3_behindHeights_4 : decode cX3_behindHeights 4 = .ok (.getfield 24, 3) := by decide +kernel
theorem dX3_behindHeights_7 : decode cX3_behindHeights 7 = .ok (.bipush 10, 2) := by decide +kernel
theorem dX3_behindHeights_9 : decode cX3_behindHeights 9 = .ok (.if_icmp .ge 45, 3) := by decide +kernel
theorem dX3_behindHeights_12 : decode cX3_behindHeights 12 = .ok (.aload_n 1, 1) := by decide +kernel
theorem dX3_behindHeights_13 : decode cX3_behindHeights 13 = .ok (.iload_n 2, 1) := by decide +kernel
theorem dX3_behindHeights_14 : decode cX3_behindHeights 14 = .ok (.iload 4, 2) := by decide +kernel
theorem dX3_behindHeights_16 : decode cX3_behindHeights 16 = .ok (.invokestatic 51, 3) := by decide +kernel
theorem dX3_behindHeights_19 : decode cX3_behindHeights 19 = .ok (.ifCond .lt 35, 3) := by decide +kernel
theorem dX3_behindHeights_22 : decode cX3_behindHeights 22 = .ok (.aload_n 0, 1) := by decide +kernel
theorem dX3_behindHeights_23 : decode cX3_behindHeights 23 = .ok (.getfield 9, 3) := by decide +kernel
theorem dX3_behindHeights_26 : decode cX3_behindHeights 26 = .ok (.aload_n 0, 1) := by decide +kernel
theorem dX3_behindHeights_27 : decode cX3_behindHeights 27 = .ok (.getfield 24, 3) := by decide +kernel
theorem dX3_behindHeights_30 : decode cX3_behindHeights 30 = .ok (.aload_n 1, 1) := by decide +kernel
theorem dX3_behindHeights_31 : decode cX3_behindHeights 31 = .ok (.iload_n 2, 1) := by decide +kernel
theorem dX3_behindHeights_32 : decode cX3_behindHeights 32 = .ok (.iload 4, 2) := by decide +kernel
theorem dX3_behindHeights_34 : decode cX3_behindHeights 34 = .ok (.invokestatic 51, 3) := by decide +kernel
theorem dX3_behindHeights_37 : decode cX3_behindHeights 37 = .ok (.iastore, 1) := by decide +kernel
theorem dX3_behindHeights_38 : decode cX3_behindHeights 38 = .ok (.aload_n 0, 1) := by decide +kernel
theorem dX3_behindHeights_39 : decode cX3_behindHeights 39 = .ok (.dup, 1) := by decide +kernel
theorem dX3_behindHeights_40 : decode cX3_behindHeights 40 = .ok (.getfield 24, 3) := by decide +kernel
theorem dX3_behindHeights_43 : decode cX3_behindHeights 43 = .ok (.iconst 1, 1) := by decide +kernel
theorem dX3_behindHeights_44 : decode cX3_behindHeights 44 = .ok (.iadd, 1) := by decide +kernel
theorem dX3_behindHeights_45 : decode cX3_behindHeights 45 = .ok (.putfield 24, 3) := by decide +kernel
theorem dX3_behindHeights_48 : decode cX3_behindHeights 48 = .ok (.iinc 4 1, 3) := by decide +kernel
theorem dX3_behindHeights_51 : decode cX3_behindHeights 51 = .ok (.goto (-48), 3) := by decide +kernel
theorem dX3_behindHeights_54 : decode cX3_behindHeights 54 = .ok (.iload 4, 2) := by decide +kernel
theorem dX3_behindHeights_56 : decode cX3_behindHeights 56 = .ok (.ireturn, 1) := by decide +kernel
theorem dX3_bandFault_0 : decode cX3_bandFault 0 = .ok (.aload_n 1, 1) := by decide +kernel
theorem dX3_bandFault_1 : decode cX3_bandFault 1 = .ok (.iload_n 2, 1) := by decide +kernel
theorem dX3_bandFault_2 : decode cX3_bandFault 2 = .ok (.iload_n 3, 1) := by decide +kernel
theorem dX3_bandFault_3 : decode cX3_bandFault 3 = .ok (.invokevirtual 41, 3) := by decide +kernel
theorem dX3_bandFault_6 : decode cX3_bandFault 6 = .ok (.invokestatic 54, 3) := by decide +kernel
theorem dX3_bandFault_9 : decode cX3_bandFault 9 = .ok (.istore 4, 2) := by decide +kernel
theorem dX3_bandFault_11 : decode cX3_bandFault 11 = .ok (.iload 4, 2) := by decide +kernel
theorem dX3_bandFault_13 : decode cX3_bandFault 13 = .ok (.ifCond .lt 11, 3) := by decide +kernel
theorem dX3_bandFault_16 : decode cX3_bandFault 16 = .ok (.aload_n 0, 1) := by decide +kernel
theorem dX3_bandFault_17 : decode cX3_bandFault 17 = .ok (.getfield 28, 3) := by decide +kernel
theorem dX3_bandFault_20 : decode cX3_bandFault 20 = .ok (.iconst 3, 1) := by decide +kernel
theorem dX3_bandFault_21 : decode cX3_bandFault 21 = .ok (.if_icmp .lt 5, 3) := by decide +kernel
theorem dX3_bandFault_24 : decode cX3_bandFault 24 = .ok (.iload_n 3, 1) := by decide +kernel
theorem dX3_bandFault_25 : decode cX3_bandFault 25 = .ok (.ireturn, 1) := by decide +kernel
theorem dX3_bandFault_26 : decode cX3_bandFault 26 = .ok (.aload_n 1, 1) := by decide +kernel
theorem dX3_bandFault_27 : decode cX3_bandFault 27 = .ok (.iload_n 2, 1) := by decide +kernel
theorem dX3_bandFault_28 : decode cX3_bandFault 28 = .ok (.iload_n 3, 1) := by decide +kernel
theorem dX3_bandFault_29 : decode cX3_bandFault 29 = .ok (.iconst 1, 1) := by decide +kernel
theorem dX3_bandFault_30 : decode cX3_bandFault 30 = .ok (.iadd, 1) := by decide +kernel
theorem dX3_bandFault_31 : decode cX3_bandFault 31 = .ok (.invokestatic 51, 3) := by decide +kernel
theorem dX3_bandFault_34 : decode cX3_bandFault 34 = .ok (.istore 5, 2) := by decide +kernel
theorem dX3_bandFault_36 : decode cX3_bandFault 36 = .ok (.iload 5, 2) := by decide +kernel
theorem dX3_bandFault_38 : decode cX3_bandFault 38 = .ok (.ifCond .lt 12, 3) := by decide +kernel
theorem dX3_bandFault_41 : decode cX3_bandFault 41 = .ok (.iload 5, 2) := by decide +kernel
theorem dX3_bandFault_43 : decode cX3_bandFault 43 = .ok (.aload_n 0, 1) := by decide +kernel
theorem dX3_bandFault_44 : decode cX3_bandFault 44 = .ok (.getfield 24, 3) := by decide +kernel
theorem dX3_bandFault_47 : decode cX3_bandFault 47 = .ok (.if_icmp .lt 7, 3) := by decide +kernel
theorem dX3_bandFault_50 : decode cX3_bandFault 50 = .ok (.iload_n 3, 1) := by decide +kernel
theorem dX3_bandFault_51 : decode cX3_bandFault 51 = .ok (.iconst 1, 1) := by decide +kernel
theorem dX3_bandFault_52 : decode cX3_bandFault 52 = .ok (.iadd, 1) := by decide +kernel
theorem dX3_bandFault_53 : decode cX3_bandFault 53 = .ok (.ireturn, 1) := by decide +kernel
theorem dX3_bandFault_54 : decode cX3_bandFault 54 = .ok (.aload_n 1, 1) := by decide +kernel
theorem dX3_bandFault_55 : decode cX3_bandFault 55 = .ok (.iload_n 2, 1) := by decide +kernel
theorem dX3_bandFault_56 : decode cX3_bandFault 56 = .ok (.iload_n 3, 1) := by decide +kernel
theorem dX3_bandFault_57 : decode cX3_bandFault 57 = .ok (.iconst 2, 1) := by decide +kernel
theorem dX3_bandFault_58 : decode cX3_bandFault 58 = .ok (.iadd, 1) := by decide +kernel
theorem dX3_bandFault_59 : decode cX3_bandFault 59 = .ok (.invokestatic 51, 3) := by decide +kernel
theorem dX3_bandFault_62 : decode cX3_bandFault 62 = .ok (.istore 6, 2) := by decide +kernel
theorem dX3_bandFault_64 : decode cX3_bandFault 64 = .ok (.iload 6, 2) := by decide +kernel
theorem dX3_bandFault_66 : decode cX3_bandFault 66 = .ok (.iconst 1, 1) := by decide +kernel
theorem dX3_bandFault_67 : decode cX3_bandFault 67 = .ok (.if_icmp .ge 7, 3) := by decide +kernel
theorem dX3_bandFault_70 : decode cX3_bandFault 70 = .ok (.iload_n 3, 1) := by decide +kernel
theorem dX3_bandFault_71 : decode cX3_bandFault 71 = .ok (.iconst 2, 1) := by decide +kernel
theorem dX3_bandFault_72 : decode cX3_bandFault 72 = .ok (.iadd, 1) := by decide +kernel
theorem dX3_bandFault_73 : decode cX3_bandFault 73 = .ok (.ireturn, 1) := by decide +kernel
theorem dX3_bandFault_74 : decode cX3_bandFault 74 = .ok (.aload_n 0, 1) := by decide +kernel
theorem dX3_bandFault_75 : decode cX3_bandFault 75 = .ok (.getfield 15, 3) := by decide +kernel
theorem dX3_bandFault_78 : decode cX3_bandFault 78 = .ok (.aload_n 0, 1) := by decide +kernel
theorem dX3_bandFault_79 : decode cX3_bandFault 79 = .ok (.getfield 28, 3) := by decide +kernel
theorem dX3_bandFault_82 : decode cX3_bandFault 82 = .ok (.iload 4, 2) := by decide +kernel
theorem dX3_bandFault_84 : decode cX3_bandFault 84 = .ok (.iastore, 1) := by decide +kernel
theorem dX3_bandFault_85 : decode cX3_bandFault 85 = .ok (.aload_n 0, 1) := by decide +kernel
theorem dX3_bandFault_86 : decode cX3_bandFault 86 = .ok (.getfield 18, 3) := by decide +kernel
theorem dX3_bandFault_89 : decode cX3_bandFault 89 = .ok (.aload_n 0, 1) := by decide +kernel
theorem dX3_bandFault_90 : decode cX3_bandFault 90 = .ok (.getfield 28, 3) := by decide +kernel
theorem dX3_bandFault_93 : decode cX3_bandFault 93 = .ok (.iload 5, 2) := by decide +kernel
theorem dX3_bandFault_95 : decode cX3_bandFault 95 = .ok (.iastore, 1) := by decide +kernel
theorem dX3_bandFault_96 : decode cX3_bandFault 96 = .ok (.aload_n 0, 1) := by decide +kernel
theorem dX3_bandFault_97 : decode cX3_bandFault 97 = .ok (.getfield 21, 3) := by decide +kernel
theorem dX3_bandFault_100 : decode cX3_bandFault 100 = .ok (.aload_n 0, 1) := by decide +kernel
theorem dX3_bandFault_101 : decode cX3_bandFault 101 = .ok (.getfield 28, 3) := by decide +kernel
theorem dX3_bandFault_104 : decode cX3_bandFault 104 = .ok (.iload 6, 2) := by decide +kernel
theorem dX3_bandFault_106 : decode cX3_bandFault 106 = .ok (.iastore, 1) := by decide +kernel
theorem dX3_bandFault_107 : decode cX3_bandFault 107 = .ok (.aload_n 0, 1) := by decide +kernel
theorem dX3_bandFault_108 : decode cX3_bandFault 108 = .ok (.dup, 1) := by decide +kernel
theorem dX3_bandFault_109 : decode cX3_bandFault 109 = .ok (.getfield 28, 3) := by decide +kernel
theorem dX3_bandFault_112 : decode cX3_bandFault 112 = .ok (.iconst 1, 1) := by decide +kernel
theorem dX3_bandFault_113 : decode cX3_bandFault 113 = .ok (.iadd, 1) := by decide +kernel
theorem dX3_bandFault_114 : decode cX3_bandFault 114 = .ok (.putfield 28, 3) := by decide +kernel
theorem dX3_bandFault_117 : decode cX3_bandFault 117 = .ok (.bipush (-9), 2) := by decide +kernel
theorem dX3_bandFault_119 : decode cX3_bandFault 119 = .ok (.ireturn, 1) := by decide +kernel
theorem dX3_figureAt_0 : decode cX3_figureAt 0 = .ok (.aload_n 0, 1) := by decide +kernel
theorem dX3_figureAt_1 : decode cX3_figureAt 1 = .ok (.iload_n 1, 1) := by decide +kernel
theorem dX3_figureAt_2 : decode cX3_figureAt 2 = .ok (.iload_n 2, 1) := by decide +kernel
theorem dX3_figureAt_3 : decode cX3_figureAt 3 = .ok (.invokevirtual 57, 3) := by decide +kernel
theorem dX3_figureAt_6 : decode cX3_figureAt 6 = .ok (.ifCond .eq 15, 3) := by decide +kernel
theorem dX3_figureAt_9 : decode cX3_figureAt 9 = .ok (.aload_n 0, 1) := by decide +kernel
theorem dX3_figureAt_10 : decode cX3_figureAt 10 = .ok (.iload_n 1, 1) := by decide +kernel
theorem dX3_figureAt_11 : decode cX3_figureAt 11 = .ok (.iload_n 2, 1) := by decide +kernel
theorem dX3_figureAt_12 : decode cX3_figureAt 12 = .ok (.invokevirtual 41, 3) := by decide +kernel
theorem dX3_figureAt_15 : decode cX3_figureAt 15 = .ok (.bipush 48, 2) := by decide +kernel
theorem dX3_figureAt_17 : decode cX3_figureAt 17 = .ok (.isub, 1) := by decide +kernel
theorem dX3_figureAt_18 : decode cX3_figureAt 18 = .ok (.goto 4, 3) := by decide +kernel
theorem dX3_figureAt_21 : decode cX3_figureAt 21 = .ok (.iconst (-1), 1) := by decide +kernel
theorem dX3_figureAt_22 : decode cX3_figureAt 22 = .ok (.istore_n 3, 1) := by decide +kernel
theorem dX3_figureAt_23 : decode cX3_figureAt 23 = .ok (.iload_n 3, 1) := by decide +kernel
theorem dX3_figureAt_24 : decode cX3_figureAt 24 = .ok (.ifCond .lt 13, 3) := by decide +kernel
theorem dX3_figureAt_27 : decode cX3_figureAt 27 = .ok (.iload_n 3, 1) := by decide +kernel
theorem dX3_figureAt_28 : decode cX3_figureAt 28 = .ok (.bipush 9, 2) := by decide +kernel
theorem dX3_figureAt_30 : decode cX3_figureAt 30 = .ok (.if_icmp .gt 7, 3) := by decide +kernel
theorem dX3_figureAt_33 : decode cX3_figureAt 33 = .ok (.iload_n 3, 1) := by decide +kernel
theorem dX3_figureAt_34 : decode cX3_figureAt 34 = .ok (.goto 4, 3) := by decide +kernel
theorem dX3_figureAt_37 : decode cX3_figureAt 37 = .ok (.iconst (-1), 1) := by decide +kernel
theorem dX3_figureAt_38 : decode cX3_figureAt 38 = .ok (.ireturn, 1) := by decide +kernel
theorem dX3_kindOf_0 : decode cX3_kindOf 0 = .ok (.iconst 0, 1) := by decide +kernel
theorem dX3_kindOf_1 : decode cX3_kindOf 1 = .ok (.istore_n 1, 1) := by decide +kernel
theorem dX3_kindOf_2 : decode cX3_kindOf 2 = .ok (.iload_n 1, 1) := by decide +kernel
theorem dX3_kindOf_3 : decode cX3_kindOf 3 = .ok (.bipush 6, 2) := by decide +kernel
theorem dX3_kindOf_5 : decode cX3_kindOf 5 = .ok (.if_icmp .ge 20, 3) := by decide +kernel
theorem dX3_kindOf_8 : decode cX3_kindOf 8 = .ok (.getstatic 61, 3) := by decide +kernel
theorem dX3_kindOf_11 : decode cX3_kindOf 11 = .ok (.iload_n 1, 1) := by decide +kernel
theorem dX3_kindOf_12 : decode cX3_kindOf 12 = .ok (.iaload, 1) := by decide +kernel
theorem dX3_kindOf_13 : decode cX3_kindOf 13 = .ok (.iload_n 0, 1) := by decide +kernel
theorem dX3_kindOf_14 : decode cX3_kindOf 14 = .ok (.if_icmp .ne 5, 3) := by decide +kernel
theorem dX3_kindOf_17 : decode cX3_kindOf 17 = .ok (.iload_n 1, 1) := by decide +kernel
theorem dX3_kindOf_18 : decode cX3_kindOf 18 = .ok (.ireturn, 1) := by decide +kernel
theorem dX3_kindOf_19 : decode cX3_kindOf 19 = .ok (.iinc 1 1, 3) := by decide +kernel
theorem dX3_kindOf_22 : decode cX3_kindOf 22 = .ok (.goto (-20), 3) := by decide +kernel
theorem dX3_kindOf_25 : decode cX3_kindOf 25 = .ok (.iconst (-1), 1) := by decide +kernel
theorem dX3_kindOf_26 : decode cX3_kindOf 26 = .ok (.ireturn, 1) := by decide +kernel
theorem dX1_init_0 : decode cX1_init 0 = .ok (.aload_n 0, 1) := by decide +kernel
theorem dX1_init_1 : decode cX1_init 1 = .ok (.invokespecial 3, 3) := by decide +kernel
theorem dX1_init_4 : decode cX1_init 4 = .ok (.aload_n 0, 1) := by decide +kernel
theorem dX1_init_5 : decode cX1_init 5 = .ok (.iconst 0, 1) := by decide +kernel
theorem dX1_init_6 : decode cX1_init 6 = .ok (.putfield 9, 3) := by decide +kernel
theorem dX1_init_9 : decode cX1_init 9 = .ok (.aload_n 0, 1) := by decide +kernel
theorem dX1_init_10 : decode cX1_init 10 = .ok (.iconst 0, 1) := by decide +kernel
theorem dX1_init_11 : decode cX1_init 11 = .ok (.putfield 15, 3) := by decide +kernel
theorem dX1_init_14 : decode cX1_init 14 = .ok (.aload_n 0, 1) := by decide +kernel
theorem dX1_init_15 : decode cX1_init 15 = .ok (.iconst 0, 1) := by decide +kernel
theorem dX1_init_16 : decode cX1_init 16 = .ok (.putfield 18, 3) := by decide +kernel
theorem dX1_init_19 : decode cX1_init 19 = .ok (.aload_n 0, 1) := by decide +kernel
theorem dX1_init_20 : decode cX1_init 20 = .ok (.iconst 0, 1) := by decide +kernel
theorem dX1_init_21 : decode cX1_init 21 = .ok (.putfield 21, 3) := by decide +kernel
theorem dX1_init_24 : decode cX1_init 24 = .ok (.aload_n 0, 1) := by decide +kernel
theorem dX1_init_25 : decode cX1_init 25 = .ok (.bipush 10, 2) := by decide +kernel
theorem dX1_init_27 : decode cX1_init 27 = .ok (.newarray .int, 2) := by decide +kernel
theorem dX1_init_29 : decode cX1_init 29 = .ok (.putfield 24, 3) := by decide +kernel
theorem dX1_init_32 : decode cX1_init 32 = .ok (.aload_n 0, 1) := by decide +kernel
theorem dX1_init_33 : decode cX1_init 33 = .ok (.iconst 3, 1) := by decide +kernel
theorem dX1_init_34 : decode cX1_init 34 = .ok (.newarray .int, 2) := by decide +kernel
theorem dX1_init_36 : decode cX1_init 36 = .ok (.putfield 28, 3) := by decide +kernel
theorem dX1_init_39 : decode cX1_init 39 = .ok (.aload_n 0, 1) := by decide +kernel
theorem dX1_init_40 : decode cX1_init 40 = .ok (.iconst 3, 1) := by decide +kernel
theorem dX1_init_41 : decode cX1_init 41 = .ok (.newarray .int, 2) := by decide +kernel
theorem dX1_init_43 : decode cX1_init 43 = .ok (.putfield 31, 3) := by decide +kernel
theorem dX1_init_46 : decode cX1_init 46 = .ok (.aload_n 0, 1) := by decide +kernel
theorem dX1_init_47 : decode cX1_init 47 = .ok (.iconst 3, 1) := by decide +kernel
theorem dX1_init_48 : decode cX1_init 48 = .ok (.newarray .int, 2) := by decide +kernel
theorem dX1_init_50 : decode cX1_init 50 = .ok (.putfield 34, 3) := by decide +kernel
theorem dX1_init_53 : decode cX1_init 53 = .ok (.aload_n 0, 1) := by decide +kernel
theorem dX1_init_54 : decode cX1_init 54 = .ok (.iconst 3, 1) := by decide +kernel
theorem dX1_init_55 : decode cX1_init 55 = .ok (.newarray .int, 2) := by decide +kernel
theorem dX1_init_57 : decode cX1_init 57 = .ok (.putfield 37, 3) := by decide +kernel
theorem dX1_init_60 : decode cX1_init 60 = .ok (.aload_n 0, 1) := by decide +kernel
theorem dX1_init_61 : decode cX1_init 61 = .ok (.bipush 60, 2) := by decide +kernel
theorem dX1_init_63 : decode cX1_init 63 = .ok (.newarray .int, 2) := by decide +kernel
theorem dX1_init_65 : decode cX1_init 65 = .ok (.putfield 40, 3) := by decide +kernel
theorem dX1_init_68 : decode cX1_init 68 = .ok (.aload_n 0, 1) := by decide +kernel
theorem dX1_init_69 : decode cX1_init 69 = .ok (.sipush 600, 3) := by decide +kernel
theorem dX1_init_72 : decode cX1_init 72 = .ok (.newarray .int, 2) := by decide +kernel
theorem dX1_init_74 : decode cX1_init 74 = .ok (.putfield 43, 3) := by decide +kernel
theorem dX1_init_77 : decode cX1_init 77 = .ok (.aload_n 0, 1) := by decide +kernel
theorem dX1_init_78 : decode cX1_init 78 = .ok (.sipush 180, 3) := by decide +kernel
theorem dX1_init_81 : decode cX1_init 81 = .ok (.newarray .int, 2) := by decide +kernel
theorem dX1_init_83 : decode cX1_init 83 = .ok (.putfield 46, 3) := by decide +kernel
theorem dX1_init_86 : decode cX1_init 86 = .ok (.return_, 1) := by decide +kernel
theorem dX1_begin_0 : decode cX1_begin 0 = .ok (.aload_n 0, 1) := by decide +kernel
theorem dX1_begin_1 : decode cX1_begin 1 = .ok (.aload_n 1, 1) := by decide +kernel
theorem dX1_begin_2 : decode cX1_begin 2 = .ok (.getfield 49, 3) := by decide +kernel
theorem dX1_begin_5 : decode cX1_begin 5 = .ok (.putfield 9, 3) := by decide +kernel
theorem dX1_begin_8 : decode cX1_begin 8 = .ok (.aload_n 0, 1) := by decide +kernel
theorem dX1_begin_9 : decode cX1_begin 9 = .ok (.aload_n 1, 1) := by decide +kernel
theorem dX1_begin_10 : decode cX1_begin 10 = .ok (.getfield 52, 3) := by decide +kernel
theorem dX1_begin_13 : decode cX1_begin 13 = .ok (.putfield 15, 3) := by decide +kernel
theorem dX1_begin_16 : decode cX1_begin 16 = .ok (.aload_n 0, 1) := by decide +kernel
theorem dX1_begin_17 : decode cX1_begin 17 = .ok (.iconst 0, 1) := by decide +kernel
theorem dX1_begin_18 : decode cX1_begin 18 = .ok (.putfield 18, 3) := by decide +kernel
theorem dX1_begin_21 : decode cX1_begin 21 = .ok (.aload_n 0, 1) := by decide +kernel
theorem dX1_begin_22 : decode cX1_begin 22 = .ok (.iconst 0, 1) := by decide +kernel
theorem dX1_begin_23 : decode cX1_begin 23 = .ok (.putfield 21, 3) := by decide +kernel
theorem dX1_begin_26 : decode cX1_begin 26 = .ok (.aload_n 1, 1) := by decide +kernel
theorem dX1_begin_27 : decode cX1_begin 27 = .ok (.getfield 53, 3) := by decide +kernel
theorem dX1_begin_30 : decode cX1_begin 30 = .ok (.iconst 0, 1) := by decide +kernel
theorem dX1_begin_31 : decode cX1_begin 31 = .ok (.aload_n 0, 1) := by decide +kernel
theorem dX1_begin_32 : decode cX1_begin 32 = .ok (.getfield 24, 3) := by decide +kernel
theorem dX1_begin_35 : decode cX1_begin 35 = .ok (.iconst 0, 1) := by decide +kernel
theorem dX1_begin_36 : decode cX1_begin 36 = .ok (.bipush 10, 2) := by decide +kernel
theorem dX1_begin_38 : decode cX1_begin 38 = .ok (.invokestatic 54, 3) := by decide +kernel
theorem dX1_begin_41 : decode cX1_begin 41 = .ok (.aload_n 1, 1) := by decide +kernel
theorem dX1_begin_42 : decode cX1_begin 42 = .ok (.getfield 60, 3) := by decide +kernel
theorem dX1_begin_45 : decode cX1_begin 45 = .ok (.iconst 0, 1) := by decide +kernel
theorem dX1_begin_46 : decode cX1_begin 46 = .ok (.aload_n 0, 1) := by decide +kernel
theorem dX1_begin_47 : decode cX1_begin 47 = .ok (.getfield 34, 3) := by decide +kernel
theorem dX1_begin_50 : decode cX1_begin 50 = .ok (.iconst 0, 1) := by decide +kernel
theorem dX1_begin_51 : decode cX1_begin 51 = .ok (.iconst 3, 1) := by decide +kernel
theorem dX1_begin_52 : decode cX1_begin 52 = .ok (.invokestatic 54, 3) := by decide +kernel
theorem dX1_begin_55 : decode cX1_begin 55 = .ok (.aload_n 1, 1) := by decide +kernel
theorem dX1_begin_56 : decode cX1_begin 56 = .ok (.getfield 61, 3) := by decide +kernel
theorem dX1_begin_59 : decode cX1_begin 59 = .ok (.iconst 0, 1) := by decide +kernel
theorem dX1_begin_60 : decode cX1_begin 60 = .ok (.aload_n 0, 1) := by decide +kernel
theorem dX1_begin_61 : decode cX1_begin 61 = .ok (.getfield 28, 3) := by decide +kernel
theorem dX1_begin_64 : decode cX1_begin 64 = .ok (.iconst 0, 1) := by decide +kernel
theorem dX1_begin_65 : decode cX1_begin 65 = .ok (.iconst 3, 1) := by decide +kernel
theorem dX1_begin_66 : decode cX1_begin 66 = .ok (.invokestatic 54, 3) := by decide +kernel
theorem dX1_begin_69 : decode cX1_begin 69 = .ok (.aload_n 1, 1) := by decide +kernel
theorem dX1_begin_70 : decode cX1_begin 70 = .ok (.getfield 62, 3) := by decide +kernel
theorem dX1_begin_73 : decode cX1_begin 73 = .ok (.iconst 0, 1) := by decide +kernel
theorem dX1_begin_74 : decode cX1_begin 74 = .ok (.aload_n 0, 1) := by decide +kernel
theorem dX1_begin_75 : decode cX1_begin 75 = .ok (.getfield 31, 3) := by decide +kernel
theorem dX1_begin_78 : decode cX1_begin 78 = .ok (.iconst 0, 1) := by decide +kernel
theorem dX1_begin_79 : decode cX1_begin 79 = .ok (.iconst 3, 1) := by decide +kernel
theorem dX1_begin_80 : decode cX1_begin 80 = .ok (.invokestatic 54, 3) := by decide +kernel
theorem dX1_begin_83 : decode cX1_begin 83 = .ok (.iconst 0, 1) := by decide +kernel
theorem dX1_begin_84 : decode cX1_begin 84 = .ok (.istore_n 2, 1) := by decide +kernel
theorem dX1_begin_85 : decode cX1_begin 85 = .ok (.iload_n 2, 1) := by decide +kernel
theorem dX1_begin_86 : decode cX1_begin 86 = .ok (.iconst 3, 1) := by decide +kernel
theorem dX1_begin_87 : decode cX1_begin 87 = .ok (.if_icmp .ge 16, 3) := by decide +kernel
theorem dX1_begin_90 : decode cX1_begin 90 = .ok (.aload_n 0, 1) := by decide +kernel
theorem dX1_begin_91 : decode cX1_begin 91 = .ok (.getfield 37, 3) := by decide +kernel
theorem dX1_begin_94 : decode cX1_begin 94 = .ok (.iload_n 2, 1) := by decide +kernel
theorem dX1_begin_95 : decode cX1_begin 95 = .ok (.iconst 0, 1) := by decide +kernel
theorem dX1_begin_96 : decode cX1_begin 96 = .ok (.iastore, 1) := by decide +kernel
theorem dX1_begin_97 : decode cX1_begin 97 = .ok (.iinc 2 1, 3) := by decide +kernel
theorem dX1_begin_100 : decode cX1_begin 100 = .ok (.goto (-15), 3) := by decide +kernel
theorem dX1_begin_103 : decode cX1_begin 103 = .ok (.return_, 1) := by decide +kernel
theorem dX1_becomeLike_0 : decode cX1_becomeLike 0 = .ok (.aload_n 0, 1) := by decide +kernel
theorem dX1_becomeLike_1 : decode cX1_becomeLike 1 = .ok (.aload_n 1, 1) := by decide +kernel
theorem dX1_becomeLike_2 : decode cX1_becomeLike 2 = .ok (.getfield 9, 3) := by decide +kernel
theorem dX1_becomeLike_5 : decode cX1_becomeLike 5 = .ok (.putfield 9, 3) := by decide +kernel
theorem dX1_becomeLike_8 : decode cX1_becomeLike 8 = .ok (.aload_n 0, 1) := by decide +kernel
theorem dX1_becomeLike_9 : decode cX1_becomeLike 9 = .ok (.aload_n 1, 1) := by decide +kernel
theorem dX1_becomeLike_10 : decode cX1_becomeLike 10 = .ok (.getfield 15, 3) := by decide +kernel
theorem dX1_becomeLike_13 : decode cX1_becomeLike 13 = .ok (.putfield 15, 3) := by decide +kernel
theorem dX1_becomeLike_16 : decode cX1_becomeLike 16 = .ok (.aload_n 0, 1) := by decide +kernel
theorem dX1_becomeLike_17 : decode cX1_becomeLike 17 = .ok (.aload_n 1, 1) := by decide +kernel
theorem dX1_becomeLike_18 : decode cX1_becomeLike 18 = .ok (.getfield 18, 3) := by decide +kernel
theorem dX1_becomeLike_21 : decode cX1_becomeLike 21 = .ok (.putfield 18, 3) := by decide +kernel
theorem dX1_becomeLike_24 : decode cX1_becomeLike 24 = .ok (.aload_n 0, 1) := by decide +kernel
theorem dX1_becomeLike_25 : decode cX1_becomeLike 25 = .ok (.aload_n 1, 1) := by decide +kernel
theorem dX1_becomeLike_26 : decode cX1_becomeLike 26 = .ok (.getfield 21, 3) := by decide +kernel
theorem dX1_becomeLike_29 : decode cX1_becomeLike 29 = .ok (.putfield 21, 3) := by decide +kernel
theorem dX1_becomeLike_32 : decode cX1_becomeLike 32 = .ok (.aload_n 1, 1) := by decide +kernel
theorem dX1_becomeLike_33 : decode cX1_becomeLike 33 = .ok (.getfield 24, 3) := by decide +kernel
theorem dX1_becomeLike_36 : decode cX1_becomeLike 36 = .ok (.iconst 0, 1) := by decide +kernel
theorem dX1_becomeLike_37 : decode cX1_becomeLike 37 = .ok (.aload_n 0, 1) := by decide +kernel
theorem dX1_becomeLike_38 : decode cX1_becomeLike 38 = .ok (.getfield 24, 3) := by decide +kernel
theorem dX1_becomeLike_41 : decode cX1_becomeLike 41 = .ok (.iconst 0, 1) := by decide +kernel
theorem dX1_becomeLike_42 : decode cX1_becomeLike 42 = .ok (.bipush 10, 2) := by decide +kernel
theorem dX1_becomeLike_44 : decode cX1_becomeLike 44 = .ok (.invokestatic 54, 3) := by decide +kernel
theorem dX1_becomeLike_47 : decode cX1_becomeLike 47 = .ok (.aload_n 1, 1) := by decide +kernel
theorem dX1_becomeLike_48 : decode cX1_becomeLike 48 = .ok (.getfield 34, 3) := by decide +kernel
theorem dX1_becomeLike_51 : decode cX1_becomeLike 51 = .ok (.iconst 0, 1) := by decide +kernel
theorem dX1_becomeLike_52 : decode cX1_becomeLike 52 = .ok (.aload_n 0, 1) := by decide +kernel
theorem dX1_becomeLike_53 : decode cX1_becomeLike 53 = .ok (.getfield 34, 3) := by decide +kernel
theorem dX1_becomeLike_56 : decode cX1_becomeLike 56 = .ok (.iconst 0, 1) := by decide +kernel
theorem dX1_becomeLike_57 : decode cX1_becomeLike 57 = .ok (.iconst 3, 1) := by decide +kernel
theorem dX1_becomeLike_58 : decode cX1_becomeLike 58 = .ok (.invokestatic 54, 3) := by decide +kernel
theorem dX1_becomeLike_61 : decode cX1_becomeLike 61 = .ok (.aload_n 1, 1) := by decide +kernel
theorem dX1_becomeLike_62 : decode cX1_becomeLike 62 = .ok (.getfield 28, 3) := by decide +kernel
theorem dX1_becomeLike_65 : decode cX1_becomeLike 65 = .ok (.iconst 0, 1) := by decide +kernel
theorem dX1_becomeLike_66 : decode cX1_becomeLike 66 = .ok (.aload_n 0, 1) := by decide +kernel
theorem dX1_becomeLike_67 : decode cX1_becomeLike 67 = .ok (.getfield 28, 3) := by decide +kernel
theorem dX1_becomeLike_70 : decode cX1_becomeLike 70 = .ok (.iconst 0, 1) := by decide +kernel
theorem dX1_becomeLike_71 : decode cX1_becomeLike 71 = .ok (.iconst 3, 1) := by decide +kernel
theorem dX1_becomeLike_72 : decode cX1_becomeLike 72 = .ok (.invokestatic 54, 3) := by decide +kernel
theorem dX1_becomeLike_75 : decode cX1_becomeLike 75 = .ok (.aload_n 1, 1) := by decide +kernel
theorem dX1_becomeLike_76 : decode cX1_becomeLike 76 = .ok (.getfield 31, 3) := by decide +kernel
theorem dX1_becomeLike_79 : decode cX1_becomeLike 79 = .ok (.iconst 0, 1) := by decide +kernel
theorem dX1_becomeLike_80 : decode cX1_becomeLike 80 = .ok (.aload_n 0, 1) := by decide +kernel
theorem dX1_becomeLike_81 : decode cX1_becomeLike 81 = .ok (.getfield 31, 3) := by decide +kernel
theorem dX1_becomeLike_84 : decode cX1_becomeLike 84 = .ok (.iconst 0, 1) := by decide +kernel
theorem dX1_becomeLike_85 : decode cX1_becomeLike 85 = .ok (.iconst 3, 1) := by decide +kernel
theorem dX1_becomeLike_86 : decode cX1_becomeLike 86 = .ok (.invokestatic 54, 3) := by decide +kernel
theorem dX1_becomeLike_89 : decode cX1_becomeLike 89 = .ok (.aload_n 1, 1) := by decide +kernel
theorem dX1_becomeLike_90 : decode cX1_becomeLike 90 = .ok (.getfield 37, 3) := by decide +kernel
theorem dX1_becomeLike_93 : decode cX1_becomeLike 93 = .ok (.iconst 0, 1) := by decide +kernel
theorem dX1_becomeLike_94 : decode cX1_becomeLike 94 = .ok (.aload_n 0, 1) := by decide +kernel
theorem dX1_becomeLike_95 : decode cX1_becomeLike 95 = .ok (.getfield 37, 3) := by decide +kernel
theorem dX1_becomeLike_98 : decode cX1_becomeLike 98 = .ok (.iconst 0, 1) := by decide +kernel
theorem dX1_becomeLike_99 : decode cX1_becomeLike 99 = .ok (.iconst 3, 1) := by decide +kernel
theorem dX1_becomeLike_100 : decode cX1_becomeLike 100 = .ok (.invokestatic 54, 3) := by decide +kernel
theorem dX1_becomeLike_103 : decode cX1_becomeLike 103 = .ok (.aload_n 1, 1) := by decide +kernel
theorem dX1_becomeLike_104 : decode cX1_becomeLike 104 = .ok (.getfield 40, 3) := by decide +kernel
theorem dX1_becomeLike_107 : decode cX1_becomeLike 107 = .ok (.iconst 0, 1) := by decide +kernel
theorem dX1_becomeLike_108 : decode cX1_becomeLike 108 = .ok (.aload_n 0, 1) := by decide +kernel
theorem dX1_becomeLike_109 : decode cX1_becomeLike 109 = .ok (.getfield 40, 3) := by decide +kernel
theorem dX1_becomeLike_112 : decode cX1_becomeLike 112 = .ok (.iconst 0, 1) := by decide +kernel
theorem dX1_becomeLike_113 : decode cX1_becomeLike 113 = .ok (.bipush 60, 2) := by decide +kernel
theorem dX1_becomeLike_115 : decode cX1_becomeLike 115 = .ok (.invokestatic 54, 3) := by decide +kernel
theorem dX1_becomeLike_118 : decode cX1_becomeLike 118 = .ok (.aload_n 1, 1) := by decide +kernel
theorem dX1_becomeLike_119 : decode cX1_becomeLike 119 = .ok (.getfield 43, 3) := by decide +kernel
theorem dX1_becomeLike_122 : decode cX1_becomeLike 122 = .ok (.iconst 0, 1) := by decide +kernel
theorem dX1_becomeLike_123 : decode cX1_becomeLike 123 = .ok (.aload_n 0, 1) := by decide +kernel
theorem dX1_becomeLike_124 : decode cX1_becomeLike 124 = .ok (.getfield 43, 3) := by decide +kernel
theorem dX1_becomeLike_127 : decode cX1_becomeLike 127 = .ok (.iconst 0, 1) := by decide +kernel
theorem dX1_becomeLike_128 : decode cX1_becomeLike 128 = .ok (.sipush 600, 3) := by decide +kernel
theorem dX1_becomeLike_131 : decode cX1_becomeLike 131 = .ok (.invokestatic 54, 3) := by decide +kernel
theorem dX1_becomeLike_134 : decode cX1_becomeLike 134 = .ok (.aload_n 1, 1) := by decide +kernel
theorem dX1_becomeLike_135 : decode cX1_becomeLike 135 = .ok (.getfield 46, 3) := by decide +kernel
theorem dX1_becomeLike_138 : decode cX1_becomeLike 138 = .ok (.iconst 0, 1) := by decide +kernel
theorem dX1_becomeLike_139 : decode cX1_becomeLike 139 = .ok (.aload_n 0, 1) := by decide +kernel
theorem dX1_becomeLike_140 : decode cX1_becomeLike 140 = .ok (.getfield 46, 3) := by decide +kernel
theorem dX1_becomeLike_143 : decode cX1_becomeLike 143 = .ok (.iconst 0, 1) := by decide +kernel
theorem dX1_becomeLike_144 : decode cX1_becomeLike 144 = .ok (.sipush 180, 3) := by decide +kernel
theorem dX1_becomeLike_147 : decode cX1_becomeLike 147 = .ok (.invokestatic 54, 3) := by decide +kernel
theorem dX1_becomeLike_150 : decode cX1_becomeLike 150 = .ok (.return_, 1) := by decide +kernel
theorem dX1_isSpot_0 : decode cX1_isSpot 0 = .ok (.iload_n 1, 1) := by decide +kernel
theorem dX1_isSpot_1 : decode cX1_isSpot 1 = .ok (.ifCond .lt 15, 3) := by decide +kernel
theorem dX1_isSpot_4 : decode cX1_isSpot 4 = .ok (.iload_n 1, 1) := by decide +kernel
theorem dX1_isSpot_5 : decode cX1_isSpot 5 = .ok (.aload_n 0, 1) := by decide +kernel
theorem dX1_isSpot_6 : decode cX1_isSpot 6 = .ok (.getfield 9, 3) := by decide +kernel
theorem dX1_isSpot_9 : decode cX1_isSpot 9 = .ok (.if_icmp .ge 7, 3) := by decide +kernel
theorem dX1_isSpot_12 : decode cX1_isSpot 12 = .ok (.iconst 1, 1) := by decide +kernel
theorem dX1_isSpot_13 : decode cX1_isSpot 13 = .ok (.goto 4, 3) := by decide +kernel
theorem dX1_isSpot_16 : decode cX1_isSpot 16 = .ok (.iconst 0, 1) := by decide +kernel
theorem dX1_isSpot_17 : decode cX1_isSpot 17 = .ok (.ireturn, 1) := by decide +kernel
theorem dX1_isBand_0 : decode cX1_isBand 0 = .ok (.iload_n 1, 1) := by decide +kernel
theorem dX1_isBand_1 : decode cX1_isBand 1 = .ok (.ifCond .lt 15, 3) := by decide +kernel
theorem dX1_isBand_4 : decode cX1_isBand 4 = .ok (.iload_n 1, 1) := by decide +kernel
theorem dX1_isBand_5 : decode cX1_isBand 5 = .ok (.aload_n 0, 1) := by decide +kernel
theorem dX1_isBand_6 : decode cX1_isBand 6 = .ok (.getfield 15, 3) := by decide +kernel
theorem dX1_isBand_9 : decode cX1_isBand 9 = .ok (.if_icmp .ge 7, 3) := by decide +kernel
theorem dX1_isBand_12 : decode cX1_isBand 12 = .ok (.iconst 1, 1) := by decide +kernel
theorem dX1_isBand_13 : decode cX1_isBand 13 = .ok (.goto 4, 3) := by decide +kernel
theorem dX1_isBand_16 : decode cX1_isBand 16 = .ok (.iconst 0, 1) := by decide +kernel
theorem dX1_isBand_17 : decode cX1_isBand 17 = .ok (.ireturn, 1) := by decide +kernel
theorem dX1_isProgram_0 : decode cX1_isProgram 0 = .ok (.iload_n 1, 1) := by decide +kernel
theorem dX1_isProgram_1 : decode cX1_isProgram 1 = .ok (.ifCond .lt 15, 3) := by decide +kernel
theorem dX1_isProgram_4 : decode cX1_isProgram 4 = .ok (.iload_n 1, 1) := by decide +kernel
theorem dX1_isProgram_5 : decode cX1_isProgram 5 = .ok (.aload_n 0, 1) := by decide +kernel
theorem dX1_isProgram_6 : decode cX1_isProgram 6 = .ok (.invokevirtual 63, 3) := by decide +kernel
theorem dX1_isProgram_9 : decode cX1_isProgram 9 = .ok (.if_icmp .ge 7, 3) := by decide +kernel
theorem dX1_isProgram_12 : decode cX1_isProgram 12 = .ok (.iconst 1, 1) := by decide +kernel
theorem dX1_isProgram_13 : decode cX1_isProgram 13 = .ok (.goto 4, 3) := by decide +kernel
theorem dX1_isProgram_16 : decode cX1_isProgram 16 = .ok (.iconst 0, 1) := by decide +kernel
theorem dX1_isProgram_17 : decode cX1_isProgram 17 = .ok (.ireturn, 1) := by decide +kernel
theorem dX1_isSpotSet_0 : decode cX1_isSpotSet 0 = .ok (.iload_n 1, 1) := by decide +kernel
theorem dX1_isSpotSet_1 : decode cX1_isSpotSet 1 = .ok (.ifCond .lt 17, 3) := by decide +kernel
theorem dX1_isSpotSet_4 : decode cX1_isSpotSet 4 = .ok (.iload_n 1, 1) := by decide +kernel
theorem dX1_isSpotSet_5 : decode cX1_isSpotSet 5 = .ok (.iconst 1, 1) := by decide +kernel
theorem dX1_isSpotSet_6 : decode cX1_isSpotSet 6 = .ok (.aload_n 0, 1) := by decide +kernel
theorem dX1_isSpotSet_7 : decode cX1_isSpotSet 7 = .ok (.getfield 9, 3) := by decide +kernel
theorem dX1_isSpotSet_10 : decode cX1_isSpotSet 10 = .ok (.ishl, 1) := by decide +kernel
theorem dX1_isSpotSet_11 : decode cX1_isSpotSet 11 = .ok (.if_icmp .ge 7, 3) := by decide +kernel
theorem dX1_isSpotSet_14 : decode cX1_isSpotSet 14 = .ok (.iconst 1, 1) := by decide +kernel
theorem dX1_isSpotSet_15 : decode cX1_isSpotSet 15 = .ok (.goto 4, 3) := by decide +kernel
theorem dX1_isSpotSet_18 : decode cX1_isSpotSet 18 = .ok (.iconst 0, 1) := by decide +kernel
theorem dX1_isSpotSet_19 : decode cX1_isSpotSet 19 = .ok (.ireturn, 1) := by decide +kernel
theorem dX1_isFrozen_0 : decode cX1_isFrozen 0 = .ok (.aload_n 0, 1) := by decide +kernel
theorem dX1_isFrozen_1 : decode cX1_isFrozen 1 = .ok (.getfield 18, 3) := by decide +kernel
theorem dX1_isFrozen_4 : decode cX1_isFrozen 4 = .ok (.iload_n 1, 1) := by decide +kernel
theorem dX1_isFrozen_5 : decode cX1_isFrozen 5 = .ok (.ishr, 1) := by decide +kernel
theorem dX1_isFrozen_6 : decode cX1_isFrozen 6 = .ok (.iconst 1, 1) := by decide +kernel
theorem dX1_isFrozen_7 : decode cX1_isFrozen 7 = .ok (.iand, 1) := by decide +kernel
theorem dX1_isFrozen_8 : decode cX1_isFrozen 8 = .ok (.iconst 1, 1) := by decide +kernel
theorem dX1_isFrozen_9 : decode cX1_isFrozen 9 = .ok (.if_icmp .ne 7, 3) := by decide +kernel
theorem dX1_isFrozen_12 : decode cX1_isFrozen 12 = .ok (.iconst 1, 1) := by decide +kernel
theorem dX1_isFrozen_13 : decode cX1_isFrozen 13 = .ok (.goto 4, 3) := by decide +kernel
theorem dX1_isFrozen_16 : decode cX1_isFrozen 16 = .ok (.iconst 0, 1) := by decide +kernel
theorem dX1_isFrozen_17 : decode cX1_isFrozen 17 = .ok (.ireturn, 1) := by decide +kernel
theorem dX1_isOf_0 : decode cX1_isOf 0 = .ok (.aload_n 0, 1) := by decide +kernel
theorem dX1_isOf_1 : decode cX1_isOf 1 = .ok (.iload_n 1, 1) := by decide +kernel
theorem dX1_isOf_2 : decode cX1_isOf 2 = .ok (.invokevirtual 67, 3) := by decide +kernel
theorem dX1_isOf_5 : decode cX1_isOf 5 = .ok (.ifCond .eq 25, 3) := by decide +kernel
theorem dX1_isOf_8 : decode cX1_isOf 8 = .ok (.getstatic 71, 3) := by decide +kernel
theorem dX1_isOf_11 : decode cX1_isOf 11 = .ok (.aload_n 0, 1) := by decide +kernel
theorem dX1_isOf_12 : decode cX1_isOf 12 = .ok (.getfield 34, 3) := by decide +kernel
theorem dX1_isOf_15 : decode cX1_isOf 15 = .ok (.iload_n 1, 1) := by decide +kernel
theorem dX1_isOf_16 : decode cX1_isOf 16 = .ok (.iaload, 1) := by decide +kernel
theorem dX1_isOf_17 : decode cX1_isOf 17 = .ok (.iaload, 1) := by decide +kernel
theorem dX1_isOf_18 : decode cX1_isOf 18 = .ok (.iload_n 2, 1) := by decide +kernel
theorem dX1_isOf_19 : decode cX1_isOf 19 = .ok (.ishr, 1) := by decide +kernel
theorem dX1_isOf_20 : decode cX1_isOf 20 = .ok (.iconst 1, 1) := by decide +kernel
theorem dX1_isOf_21 : decode cX1_isOf 21 = .ok (.iand, 1) := by decide +kernel
theorem dX1_isOf_22 : decode cX1_isOf 22 = .ok (.iconst 1, 1) := by decide +kernel
theorem dX1_isOf_23 : decode cX1_isOf 23 = .ok (.if_icmp .ne 7, 3) := by decide +kernel
theorem dX1_isOf_26 : decode cX1_isOf 26 = .ok (.iconst 1, 1) := by decide +kernel
theorem dX1_isOf_27 : decode cX1_isOf 27 = .ok (.goto 4, 3) := by decide +kernel
theorem dX1_isOf_30 : decode cX1_isOf 30 = .ok (.iconst 0, 1) := by decide +kernel
theorem dX1_isOf_31 : decode cX1_isOf 31 = .ok (.ireturn, 1) := by decide +kernel
theorem dX1_programs_0 : decode cX1_programs 0 = .ok (.iconst 1, 1) := by decide +kernel
theorem dX1_programs_1 : decode cX1_programs 1 = .ok (.istore_n 1, 1) := by decide +kernel
theorem dX1_programs_2 : decode cX1_programs 2 = .ok (.iconst 0, 1) := by decide +kernel
theorem dX1_programs_3 : decode cX1_programs 3 = .ok (.istore_n 2, 1) := by decide +kernel
theorem dX1_programs_4 : decode cX1_programs 4 = .ok (.iload_n 2, 1) := by decide +kernel
theorem dX1_programs_5 : decode cX1_programs 5 = .ok (.aload_n 0, 1) := by decide +kernel
theorem dX1_programs_6 : decode cX1_programs 6 = .ok (.getfield 15, 3) := by decide +kernel
theorem dX1_programs_9 : decode cX1_programs 9 = .ok (.if_icmp .ge 13, 3) := by decide +kernel
theorem dX1_programs_12 : decode cX1_programs 12 = .ok (.iload_n 1, 1) := by decide +kernel
theorem dX1_programs_13 : decode cX1_programs 13 = .ok (.iconst 3, 1) := by decide +kernel
theorem dX1_programs_14 : decode cX1_programs 14 = .ok (.imul, 1) := by decide +kernel
theorem dX1_programs_15 : decode cX1_programs 15 = .ok (.istore_n 1, 1) := by decide +kernel
theorem dX1_programs_16 : decode cX1_programs 16 = .ok (.iinc 2 1, 3) := by decide +kernel
theorem dX1_programs_19 : decode cX1_programs 19 = .ok (.goto (-15), 3) := by decide +kernel
theorem dX1_programs_22 : decode cX1_programs 22 = .ok (.iload_n 1, 1) := by decide +kernel
theorem dX1_programs_23 : decode cX1_programs 23 = .ok (.ireturn, 1) := by decide +kernel
theorem dX1_tuneOf_0 : decode cX1_tuneOf 0 = .ok (.iload_n 1, 1) := by decide +kernel
theorem dX1_tuneOf_1 : decode cX1_tuneOf 1 = .ok (.istore_n 3, 1) := by decide +kernel
theorem dX1_tuneOf_2 : decode cX1_tuneOf 2 = .ok (.iconst 0, 1) := by decide +kernel
theorem dX1_tuneOf_3 : decode cX1_tuneOf 3 = .ok (.istore 4, 2) := by decide +kernel
theorem dX1_tuneOf_5 : decode cX1_tuneOf 5 = .ok (.iload 4, 2) := by decide +kernel
theorem dX1_tuneOf_7 : decode cX1_tuneOf 7 = .ok (.iload_n 2, 1) := by decide +kernel
theorem dX1_tuneOf_8 : decode cX1_tuneOf 8 = .ok (.if_icmp .ge 13, 3) := by decide +kernel
theorem dX1_tuneOf_11 : decode cX1_tuneOf 11 = .ok (.iload_n 3, 1) := by decide +kernel
theorem dX1_tuneOf_12 : decode cX1_tuneOf 12 = .ok (.iconst 3, 1) := by decide +kernel
theorem dX1_tuneOf_13 : decode cX1_tuneOf 13 = .ok (.idiv, 1) := by decide +kernel
theorem dX1_tuneOf_14 : decode cX1_tuneOf 14 = .ok (.istore_n 3, 1) := by decide +kernel
theorem dX1_tuneOf_15 : decode cX1_tuneOf 15 = .ok (.iinc 4 1, 3) := by decide +kernel
theorem dX1_tuneOf_18 : decode cX1_tuneOf 18 = .ok (.goto (-13), 3) := by decide +kernel
theorem dX1_tuneOf_21 : decode cX1_tuneOf 21 = .ok (.iload_n 3, 1) := by decide +kernel
theorem dX1_tuneOf_22 : decode cX1_tuneOf 22 = .ok (.iconst 3, 1) := by decide +kernel
theorem dX1_tuneOf_23 : decode cX1_tuneOf 23 = .ok (.irem, 1) := by decide +kernel
theorem dX1_tuneOf_24 : decode cX1_tuneOf 24 = .ok (.ireturn, 1) := by decide +kernel
theorem dX1_breathOf_0 : decode cX1_breathOf 0 = .ok (.iconst 0, 1) := by decide +kernel
theorem dX1_breathOf_1 : decode cX1_breathOf 1 = .ok (.istore_n 2, 1) := by decide +kernel
theorem dX1_breathOf_2 : decode cX1_breathOf 2 = .ok (.iconst 0, 1) := by decide +kernel
theorem dX1_breathOf_3 : decode cX1_breathOf 3 = .ok (.istore_n 3, 1) := by decide +kernel
theorem dX1_breathOf_4 : decode cX1_breathOf 4 = .ok (.iload_n 3, 1) := by decide +kernel
theorem dX1_breathOf_5 : decode cX1_breathOf 5 = .ok (.aload_n 0, 1) := by decide +kernel
theorem dX1_breathOf_6 : decode cX1_breathOf 6 = .ok (.getfield 15, 3) := by decide +kernel
theorem dX1_breathOf_9 : decode cX1_breathOf 9 = .ok (.if_icmp .ge 27, 3) := by decide +kernel
theorem dX1_breathOf_12 : decode cX1_breathOf 12 = .ok (.aload_n 0, 1) := by decide +kernel
theorem dX1_breathOf_13 : decode cX1_breathOf 13 = .ok (.iload_n 1, 1) := by decide +kernel
theorem dX1_breathOf_14 : decode cX1_breathOf 14 = .ok (.iload_n 3, 1) := by decide +kernel
theorem dX1_breathOf_15 : decode cX1_breathOf 15 = .ok (.invokevirtual 74, 3) := by decide +kernel
theorem dX1_breathOf_18 : decode cX1_breathOf 18 = .ok (.ifCond .eq 12, 3) := by decide +kernel
theorem dX1_breathOf_21 : decode cX1_breathOf 21 = .ok (.iload_n 2, 1) := by decide +kernel
theorem dX1_breathOf_22 : decode cX1_breathOf 22 = .ok (.aload_n 0, 1) := by decide +kernel
theorem dX1_breathOf_23 : decode cX1_breathOf 23 = .ok (.getfield 31, 3) := by decide +kernel
theorem dX1_breathOf_26 : decode cX1_breathOf 26 = .ok (.iload_n 3, 1) := by decide +kernel
theorem dX1_breathOf_27 : decode cX1_breathOf 27 = .ok (.iaload, 1) := by decide +kernel
theorem dX1_breathOf_28 : decode cX1_breathOf 28 = .ok (.iadd, 1) := by decide +kernel
theorem dX1_breathOf_29 : decode cX1_breathOf 29 = .ok (.istore_n 2, 1) := by decide +kernel
theorem dX1_breathOf_30 : decode cX1_breathOf 30 = .ok (.iinc 3 1, 3) := by decide +kernel
theorem dX1_breathOf_33 : decode cX1_breathOf 33 = .ok (.goto (-29), 3) := by decide +kernel
theorem dX1_breathOf_36 : decode cX1_breathOf 36 = .ok (.iload_n 2, 1) := by decide +kernel
theorem dX1_breathOf_37 : decode cX1_breathOf 37 = .ok (.ireturn, 1) := by decide +kernel
theorem dX1_drums_0 : decode cX1_drums 0 = .ok (.iconst 0, 1) := by decide +kernel
theorem dX1_drums_1 : decode cX1_drums 1 = .ok (.istore_n 1, 1) := by decide +kernel
theorem dX1_drums_2 : decode cX1_drums 2 = .ok (.iconst 0, 1) := by decide +kernel
theorem dX1_drums_3 : decode cX1_drums 3 = .ok (.istore_n 2, 1) := by decide +kernel
theorem dX1_drums_4 : decode cX1_drums 4 = .ok (.iload_n 2, 1) := by decide +kernel
theorem dX1_drums_5 : decode cX1_drums 5 = .ok (.aload_n 0, 1) := by decide +kernel
theorem dX1_drums_6 : decode cX1_drums 6 = .ok (.getfield 15, 3) := by decide +kernel
theorem dX1_drums_9 : decode cX1_drums 9 = .ok (.if_icmp .ge 21, 3) := by decide +kernel
theorem dX1_drums_12 : decode cX1_drums 12 = .ok (.aload_n 0, 1) := by decide +kernel
theorem dX1_drums_13 : decode cX1_drums 13 = .ok (.iload_n 2, 1) := by decide +kernel
theorem dX1_drums_14 : decode cX1_drums 14 = .ok (.iconst 1, 1) := by decide +kernel
theorem dX1_drums_15 : decode cX1_drums 15 = .ok (.invokevirtual 78, 3) := by decide +kernel
theorem dX1_drums_18 : decode cX1_drums 18 = .ok (.ifCond .eq 6, 3) := by decide +kernel
theorem dX1_drums_21 : decode cX1_drums 21 = .ok (.iinc 1 1, 3) := by decide +kernel
theorem dX1_drums_24 : decode cX1_drums 24 = .ok (.iinc 2 1, 3) := by decide +kernel
theorem dX1_drums_27 : decode cX1_drums 27 = .ok (.goto (-23), 3) := by decide +kernel
theorem dX1_drums_30 : decode cX1_drums 30 = .ok (.iload_n 1, 1) := by decide +kernel
theorem dX1_drums_31 : decode cX1_drums 31 = .ok (.ireturn, 1) := by decide +kernel
theorem dX1_reach_0 : decode cX1_reach 0 = .ok (.aload_n 0, 1) := by decide +kernel
theorem dX1_reach_1 : decode cX1_reach 1 = .ok (.iload_n 1, 1) := by decide +kernel
theorem dX1_reach_2 : decode cX1_reach 2 = .ok (.invokevirtual 67, 3) := by decide +kernel
theorem dX1_reach_5 : decode cX1_reach 5 = .ok (.ifCond .ne 5, 3) := by decide +kernel
theorem dX1_reach_8 : decode cX1_reach 8 = .ok (.iconst 0, 1) := by decide +kernel
theorem dX1_reach_9 : decode cX1_reach 9 = .ok (.ireturn, 1) := by decide +kernel
theorem dX1_reach_10 : decode cX1_reach 10 = .ok (.aload_n 0, 1) := by decide +kernel
theorem dX1_reach_11 : decode cX1_reach 11 = .ok (.getfield 34, 3) := by decide +kernel
theorem dX1_reach_14 : decode cX1_reach 14 = .ok (.iload_n 1, 1) := by decide +kernel
theorem dX1_reach_15 : decode cX1_reach 15 = .ok (.iaload, 1) := by decide +kernel
theorem dX1_reach_16 : decode cX1_reach 16 = .ok (.iconst 4, 1) := by decide +kernel
theorem dX1_reach_17 : decode cX1_reach 17 = .ok (.if_icmp .ne 14, 3) := by decide +kernel
theorem dX1_reach_20 : decode cX1_reach 20 = .ok (.iconst 2, 1) := by decide +kernel
theorem dX1_reach_21 : decode cX1_reach 21 = .ok (.aload_n 0, 1) := by decide +kernel
theorem dX1_reach_22 : decode cX1_reach 22 = .ok (.getfield 31, 3) := by decide +kernel
theorem dX1_reach_25 : decode cX1_reach 25 = .ok (.iload_n 1, 1) := by decide +kernel
theorem dX1_reach_26 : decode cX1_reach 26 = .ok (.iaload, 1) := by decide +kernel
theorem dX1_reach_27 : decode cX1_reach 27 = .ok (.imul, 1) := by decide +kernel
theorem dX1_reach_28 : decode cX1_reach 28 = .ok (.goto 9, 3) := by decide +kernel
theorem dX1_reach_31 : decode cX1_reach 31 = .ok (.aload_n 0, 1) := by decide +kernel
theorem dX1_reach_32 : decode cX1_reach 32 = .ok (.getfield 31, 3) := by decide +kernel
theorem dX1_reach_35 : decode cX1_reach 35 = .ok (.iload_n 1, 1) := by decide +kernel
theorem dX1_reach_36 : decode cX1_reach 36 = .ok (.iaload, 1) := by decide +kernel
theorem dX1_reach_37 : decode cX1_reach 37 = .ok (.ireturn, 1) := by decide +kernel
theorem dX1_isHeard_0 : decode cX1_isHeard 0 = .ok (.aload_n 0, 1) := by decide +kernel
theorem dX1_isHeard_1 : decode cX1_isHeard 1 = .ok (.iload_n 1, 1) := by decide +kernel
theorem dX1_isHeard_2 : decode cX1_isHeard 2 = .ok (.invokevirtual 67, 3) := by decide +kernel
theorem dX1_isHeard_5 : decode cX1_isHeard 5 = .ok (.ifCond .eq 36, 3) := by decide +kernel
theorem dX1_isHeard_8 : decode cX1_isHeard 8 = .ok (.iload_n 2, 1) := by decide +kernel
theorem dX1_isHeard_9 : decode cX1_isHeard 9 = .ok (.aload_n 0, 1) := by decide +kernel
theorem dX1_isHeard_10 : decode cX1_isHeard 10 = .ok (.getfield 28, 3) := by decide +kernel
theorem dX1_isHeard_13 : decode cX1_isHeard 13 = .ok (.iload_n 1, 1) := by decide +kernel
theorem dX1_isHeard_14 : decode cX1_isHeard 14 = .ok (.iaload, 1) := by decide +kernel
theorem dX1_isHeard_15 : decode cX1_isHeard 15 = .ok (.if_icmp .eq 26, 3) := by decide +kernel
theorem dX1_isHeard_18 : decode cX1_isHeard 18 = .ok (.iload_n 2, 1) := by decide +kernel
theorem dX1_isHeard_19 : decode cX1_isHeard 19 = .ok (.aload_n 0, 1) := by decide +kernel
theorem dX1_isHeard_20 : decode cX1_isHeard 20 = .ok (.getfield 28, 3) := by decide +kernel
theorem dX1_isHeard_23 : decode cX1_isHeard 23 = .ok (.iload_n 1, 1) := by decide +kernel
theorem dX1_isHeard_24 : decode cX1_isHeard 24 = .ok (.iaload, 1) := by decide +kernel
theorem dX1_isHeard_25 : decode cX1_isHeard 25 = .ok (.isub, 1) := by decide +kernel
theorem dX1_isHeard_26 : decode cX1_isHeard 26 = .ok (.invokestatic 82, 3) := by decide +kernel
theorem dX1_isHeard_29 : decode cX1_isHeard 29 = .ok (.aload_n 0, 1) := by decide +kernel
theorem dX1_isHeard_30 : decode cX1_isHeard 30 = .ok (.iload_n 1, 1) := by decide +kernel
theorem dX1_isHeard_31 : decode cX1_isHeard 31 = .ok (.invokevirtual 88, 3) := by decide +kernel
theorem dX1_isHeard_34 : decode cX1_isHeard 34 = .ok (.if_icmp .gt 7, 3) := by decide +kernel
theorem dX1_isHeard_37 : decode cX1_isHeard 37 = .ok (.iconst 1, 1) := by decide +kernel
theorem dX1_isHeard_38 : decode cX1_isHeard 38 = .ok (.goto 4, 3) := by decide +kernel
theorem dX1_isHeard_41 : decode cX1_isHeard 41 = .ok (.iconst 0, 1) := by decide +kernel
theorem dX1_isHeard_42 : decode cX1_isHeard 42 = .ok (.ireturn, 1) := by decide +kernel
theorem dX1_heardOn_0 : decode cX1_heardOn 0 = .ok (.iconst 0, 1) := by decide +kernel
theorem dX1_heardOn_1 : decode cX1_heardOn 1 = .ok (.istore_n 2, 1) := by decide +kernel
theorem dX1_heardOn_2 : decode cX1_heardOn 2 = .ok (.iconst 0, 1) := by decide +kernel
theorem dX1_heardOn_3 : decode cX1_heardOn 3 = .ok (.istore_n 3, 1) := by decide +kernel
theorem dX1_heardOn_4 : decode cX1_heardOn 4 = .ok (.iload_n 3, 1) := by decide +kernel
theorem dX1_heardOn_5 : decode cX1_heardOn 5 = .ok (.aload_n 0, 1) := by decide +kernel
theorem dX1_heardOn_6 : decode cX1_heardOn 6 = .ok (.getfield 9, 3) := by decide +kernel
theorem dX1_heardOn_9 : decode cX1_heardOn 9 = .ok (.if_icmp .ge 24, 3) := by decide +kernel
theorem dX1_heardOn_12 : decode cX1_heardOn 12 = .ok (.aload_n 0, 1) := by decide +kernel
theorem dX1_heardOn_13 : decode cX1_heardOn 13 = .ok (.iload_n 1, 1) := by decide +kernel
theorem dX1_heardOn_14 : decode cX1_heardOn 14 = .ok (.iload_n 3, 1) := by decide +kernel
theorem dX1_heardOn_15 : decode cX1_heardOn 15 = .ok (.invokevirtual 91, 3) := by decide +kernel
theorem dX1_heardOn_18 : decode cX1_heardOn 18 = .ok (.ifCond .eq 9, 3) := by decide +kernel
theorem dX1_heardOn_21 : decode cX1_heardOn 21 = .ok (.iload_n 2, 1) := by decide +kernel
theorem dX1_heardOn_22 : decode cX1_heardOn 22 = .ok (.iconst 1, 1) := by decide +kernel
theorem dX1_heardOn_23 : decode cX1_heardOn 23 = .ok (.iload_n 3, 1) := by decide +kernel
theorem dX1_heardOn_24 : decode cX1_heardOn 24 = .ok (.ishl, 1) := by decide +kernel
theorem dX1_heardOn_25 : decode cX1_heardOn 25 = .ok (.ior, 1) := by decide +kernel
theorem dX1_heardOn_26 : decode cX1_heardOn 26 = .ok (.istore_n 2, 1) := by decide +kernel
theorem dX1_heardOn_27 : decode cX1_heardOn 27 = .ok (.iinc 3 1, 3) := by decide +kernel
theorem dX1_heardOn_30 : decode cX1_heardOn 30 = .ok (.goto (-26), 3) := by decide +kernel
theorem dX1_heardOn_33 : decode cX1_heardOn 33 = .ok (.iload_n 2, 1) := by decide +kernel
theorem dX1_heardOn_34 : decode cX1_heardOn 34 = .ok (.ireturn, 1) := by decide +kernel
theorem dX1_lowHeard_0 : decode cX1_lowHeard 0 = .ok (.iconst 0, 1) := by decide +kernel
theorem dX1_lowHeard_1 : decode cX1_lowHeard 1 = .ok (.istore_n 2, 1) := by decide +kernel
theorem dX1_lowHeard_2 : decode cX1_lowHeard 2 = .ok (.iconst 0, 1) := by decide +kernel
theorem dX1_lowHeard_3 : decode cX1_lowHeard 3 = .ok (.istore_n 3, 1) := by decide +kernel
theorem dX1_lowHeard_4 : decode cX1_lowHeard 4 = .ok (.iload_n 3, 1) := by decide +kernel
theorem dX1_lowHeard_5 : decode cX1_lowHeard 5 = .ok (.aload_n 0, 1) := by decide +kernel
theorem dX1_lowHeard_6 : decode cX1_lowHeard 6 = .ok (.getfield 9, 3) := by decide +kernel
theorem dX1_lowHeard_9 : decode cX1_lowHeard 9 = .ok (.if_icmp .ge 35, 3) := by decide +kernel
theorem dX1_lowHeard_12 : decode cX1_lowHeard 12 = .ok (.aload_n 0, 1) := by decide +kernel
theorem dX1_lowHeard_13 : decode cX1_lowHeard 13 = .ok (.iload_n 1, 1) := by decide +kernel
theorem dX1_lowHeard_14 : decode cX1_lowHeard 14 = .ok (.iload_n 3, 1) := by decide +kernel
theorem dX1_lowHeard_15 : decode cX1_lowHeard 15 = .ok (.invokevirtual 91, 3) := by decide +kernel
theorem dX1_lowHeard_18 : decode cX1_lowHeard 18 = .ok (.ifCond .eq 20, 3) := by decide +kernel
theorem dX1_lowHeard_21 : decode cX1_lowHeard 21 = .ok (.aload_n 0, 1) := by decide +kernel
theorem dX1_lowHeard_22 : decode cX1_lowHeard 22 = .ok (.getfield 24, 3) := by decide +kernel
theorem dX1_lowHeard_25 : decode cX1_lowHeard 25 = .ok (.iload_n 3, 1) := by decide +kernel
theorem dX1_lowHeard_26 : decode cX1_lowHeard 26 = .ok (.iaload, 1) := by decide +kernel
theorem dX1_lowHeard_27 : decode cX1_lowHeard 27 = .ok (.getstatic 94, 3) := by decide +kernel
theorem dX1_lowHeard_30 : decode cX1_lowHeard 30 = .ok (.iconst 2, 1) := by decide +kernel
theorem dX1_lowHeard_31 : decode cX1_lowHeard 31 = .ok (.iaload, 1) := by decide +kernel
theorem dX1_lowHeard_32 : decode cX1_lowHeard 32 = .ok (.if_icmp .ge 6, 3) := by decide +kernel
theorem dX1_lowHeard_35 : decode cX1_lowHeard 35 = .ok (.iinc 2 1, 3) := by decide +kernel
theorem dX1_lowHeard_38 : decode cX1_lowHeard 38 = .ok (.iinc 3 1, 3) := by decide +kernel
theorem dX1_lowHeard_41 : decode cX1_lowHeard 41 = .ok (.goto (-37), 3) := by decide +kernel
theorem dX1_lowHeard_44 : decode cX1_lowHeard 44 = .ok (.iload_n 2, 1) := by decide +kernel
theorem dX1_lowHeard_45 : decode cX1_lowHeard 45 = .ok (.ireturn, 1) := by decide +kernel
theorem dX1_bandTells_0 : decode cX1_bandTells 0 = .ok (.aload_n 0, 1) := by decide +kernel
theorem dX1_bandTells_1 : decode cX1_bandTells 1 = .ok (.iload_n 1, 1) := by decide +kernel
theorem dX1_bandTells_2 : decode cX1_bandTells 2 = .ok (.invokevirtual 67, 3) := by decide +kernel
theorem dX1_bandTells_5 : decode cX1_bandTells 5 = .ok (.ifCond .ne 5, 3) := by decide +kernel
theorem dX1_bandTells_8 : decode cX1_bandTells 8 = .ok (.iconst 0, 1) := by decide +kernel
theorem dX1_bandTells_9 : decode cX1_bandTells 9 = .ok (.ireturn, 1) := by decide +kernel
theorem dX1_bandTells_10 : decode cX1_bandTells 10 = .ok (.iload_n 2, 1) := by decide +kernel
theorem dX1_bandTells_11 : decode cX1_bandTells 11 = .ok (.tableswitch 56 0 3 #[29, 36, 43, 50], 29) := by decide +kernel
theorem dX1_bandTells_40 : decode cX1_bandTells 40 = .ok (.aload_n 0, 1) := by decide +kernel
theorem dX1_bandTells_41 : decode cX1_bandTells 41 = .ok (.getfield 34, 3) := by decide +kernel
theorem dX1_bandTells_44 : decode cX1_bandTells 44 = .ok (.iload_n 1, 1) := by decide +kernel
theorem dX1_bandTells_45 : decode cX1_bandTells 45 = .ok (.iaload, 1) := by decide +kernel
theorem dX1_bandTells_46 : decode cX1_bandTells 46 = .ok (.ireturn, 1) := by decide +kernel
theorem dX1_bandTells_47 : decode cX1_bandTells 47 = .ok (.aload_n 0, 1) := by decide +kernel
theorem dX1_bandTells_48 : decode cX1_bandTells 48 = .ok (.getfield 28, 3) := by decide +kernel
theorem dX1_bandTells_51 : decode cX1_bandTells 51 = .ok (.iload_n 1, 1) := by decide +kernel
theorem dX1_bandTells_52 : decode cX1_bandTells 52 = .ok (.iaload, 1) := by decide +kernel
theorem dX1_bandTells_53 : decode cX1_bandTells 53 = .ok (.ireturn, 1) := by decide +kernel
theorem dX1_bandTells_54 : decode cX1_bandTells 54 = .ok (.aload_n 0, 1) := by decide +kernel
theorem dX1_bandTells_55 : decode cX1_bandTells 55 = .ok (.getfield 31, 3) := by decide +kernel
theorem dX1_bandTells_58 : decode cX1_bandTells 58 = .ok (.iload_n 1, 1) := by decide +kernel
theorem dX1_bandTells_59 : decode cX1_bandTells 59 = .ok (.iaload, 1) := by decide +kernel
theorem dX1_bandTells_60 : decode cX1_bandTells 60 = .ok (.ireturn, 1) := by decide +kernel
theorem dX1_bandTells_61 : decode cX1_bandTells 61 = .ok (.aload_n 0, 1) := by decide +kernel
theorem dX1_bandTells_62 : decode cX1_bandTells 62 = .ok (.iload_n 1, 1) := by decide +kernel
theorem dX1_bandTells_63 : decode cX1_bandTells 63 = .ok (.invokevirtual 97, 3) := by decide +kernel
theorem dX1_bandTells_66 : decode cX1_bandTells 66 = .ok (.ireturn, 1) := by decide +kernel
theorem dX1_bandTells_67 : decode cX1_bandTells 67 = .ok (.aload_n 0, 1) := by decide +kernel
theorem dX1_bandTells_68 : decode cX1_bandTells 68 = .ok (.getfield 37, 3) := by decide +kernel
theorem dX1_bandTells_71 : decode cX1_bandTells 71 = .ok (.iload_n 1, 1) := by decide +kernel
theorem dX1_bandTells_72 : decode cX1_bandTells 72 = .ok (.iaload, 1) := by decide +kernel
theorem dX1_bandTells_73 : decode cX1_bandTells 73 = .ok (.ireturn, 1) := by decide +kernel
theorem dX1_allInches_0 : decode cX1_allInches 0 = .ok (.iconst 0, 1) := by decide +kernel
theorem dX1_allInches_1 : decode cX1_allInches 1 = .ok (.istore_n 1, 1) := by decide +kernel
theorem dX1_allInches_2 : decode cX1_allInches 2 = .ok (.iconst 0, 1) := by decide +kernel
theorem dX1_allInches_3 : decode cX1_allInches 3 = .ok (.istore_n 2, 1) := by decide +kernel
theorem dX1_allInches_4 : decode cX1_allInches 4 = .ok (.iload_n 2, 1) := by decide +kernel
theorem dX1_allInches_5 : decode cX1_allInches 5 = .ok (.aload_n 0, 1) := by decide +kernel
theorem dX1_allInches_6 : decode cX1_allInches 6 = .ok (.getfield 9, 3) := by decide +kernel
theorem dX1_allInches_9 : decode cX1_allInches 9 = .ok (.if_icmp .ge 18, 3) := by decide +kernel
theorem dX1_allInches_12 : decode cX1_allInches 12 = .ok (.iload_n 1, 1) := by decide +kernel
theorem dX1_allInches_13 : decode cX1_allInches 13 = .ok (.aload_n 0, 1) := by decide +kernel
theorem dX1_allInches_14 : decode cX1_allInches 14 = .ok (.getfield 24, 3) := by decide +kernel
theorem dX1_allInches_17 : decode cX1_allInches 17 = .ok (.iload_n 2, 1) := by decide +kernel
theorem dX1_allInches_18 : decode cX1_allInches 18 = .ok (.iaload, 1) := by decide +kernel
theorem dX1_allInches_19 : decode cX1_allInches 19 = .ok (.iadd, 1) := by decide +kernel
theorem dX1_allInches_20 : decode cX1_allInches 20 = .ok (.istore_n 1, 1) := by decide +kernel
theorem dX1_allInches_21 : decode cX1_allInches 21 = .ok (.iinc 2 1, 3) := by decide +kernel
theorem dX1_allInches_24 : decode cX1_allInches 24 = .ok (.goto (-20), 3) := by decide +kernel
theorem dX1_allInches_27 : decode cX1_allInches 27 = .ok (.iload_n 1, 1) := by decide +kernel
theorem dX1_allInches_28 : decode cX1_allInches 28 = .ok (.ireturn, 1) := by decide +kernel
theorem dX1_firstHighest_0 : decode cX1_firstHighest 0 = .ok (.iload_n 2, 1) := by decide +kernel
theorem dX1_firstHighest_1 : decode cX1_firstHighest 1 = .ok (.istore 4, 2) := by decide +kernel
theorem dX1_firstHighest_3 : decode cX1_firstHighest 3 = .ok (.iload_n 2, 1) := by decide +kernel
theorem dX1_firstHighest_4 : decode cX1_firstHighest 4 = .ok (.iconst 1, 1) := by decide +kernel
theorem dX1_firstHighest_5 : decode cX1_firstHighest 5 = .ok (.iadd, 1) := by decide +kernel
theorem dX1_firstHighest_6 : decode cX1_firstHighest 6 = .ok (.istore 5, 2) := by decide +kernel
theorem dX1_firstHighest_8 : decode cX1_firstHighest 8 = .ok (.iload 5, 2) := by decide +kernel
theorem dX1_firstHighest_10 : decode cX1_firstHighest 10 = .ok (.iload_n 3, 1) := by decide +kernel
theorem dX1_firstHighest_11 : decode cX1_firstHighest 11 = .ok (.if_icmp .gt 33, 3) := by decide +kernel
theorem dX1_firstHighest_14 : decode cX1_firstHighest 14 = .ok (.aload_n 0, 1) := by decide +kernel
theorem dX1_firstHighest_15 : decode cX1_firstHighest 15 = .ok (.iload 5, 2) := by decide +kernel
theorem dX1_firstHighest_17 : decode cX1_firstHighest 17 = .ok (.invokevirtual 100, 3) := by decide +kernel
theorem dX1_firstHighest_20 : decode cX1_firstHighest 20 = .ok (.ifCond .eq 24, 3) := by decide +kernel
theorem dX1_firstHighest_23 : decode cX1_firstHighest 23 = .ok (.aload_n 1, 1) := by decide +kernel
theorem dX1_firstHighest_24 : decode cX1_firstHighest 24 = .ok (.iload 5, 2) := by decide +kernel
theorem dX1_firstHighest_26 : decode cX1_firstHighest 26 = .ok (.iaload, 1) := by decide +kernel
theorem dX1_firstHighest_27 : decode cX1_firstHighest 27 = .ok (.aload_n 1, 1) := by decide +kernel
theorem dX1_firstHighest_28 : decode cX1_firstHighest 28 = .ok (.iload 4, 2) := by decide +kernel
theorem dX1_firstHighest_30 : decode cX1_firstHighest 30 = .ok (.iaload, 1) := by decide +kernel
theorem dX1_firstHighest_31 : decode cX1_firstHighest 31 = .ok (.if_icmp .le 7, 3) := by decide +kernel
theorem dX1_firstHighest_34 : decode cX1_firstHighest 34 = .ok (.iload 5, 2) := by decide +kernel
theorem dX1_firstHighest_36 : decode cX1_firstHighest 36 = .ok (.istore 4, 2) := by decide +kernel
theorem dX1_firstHighest_38 : decode cX1_firstHighest 38 = .ok (.iinc 5 1, 3) := by decide +kernel
theorem dX1_firstHighest_41 : decode cX1_firstHighest 41 = .ok (.goto (-33), 3) := by decide +kernel
theorem dX1_firstHighest_44 : decode cX1_firstHighest 44 = .ok (.iload 4, 2) := by decide +kernel
theorem dX1_firstHighest_46 : decode cX1_firstHighest 46 = .ok (.ireturn, 1) := by decide +kernel
theorem dX1_highestOf_0 : decode cX1_highestOf 0 = .ok (.aload_n 0, 1) := by decide +kernel
theorem dX1_highestOf_1 : decode cX1_highestOf 1 = .ok (.getfield 9, 3) := by decide +kernel
theorem dX1_highestOf_4 : decode cX1_highestOf 4 = .ok (.ifCond .ne 7, 3) := by decide +kernel
theorem dX1_highestOf_7 : decode cX1_highestOf 7 = .ok (.iconst 0, 1) := by decide +kernel
theorem dX1_highestOf_8 : decode cX1_highestOf 8 = .ok (.goto 17, 3) := by decide +kernel
theorem dX1_highestOf_11 : decode cX1_highestOf 11 = .ok (.aload_n 1, 1) := by decide +kernel
theorem dX1_highestOf_12 : decode cX1_highestOf 12 = .ok (.aload_n 0, 1) := by decide +kernel
theorem dX1_highestOf_13 : decode cX1_highestOf 13 = .ok (.aload_n 1, 1) := by decide +kernel
theorem dX1_highestOf_14 : decode cX1_highestOf 14 = .ok (.iconst 0, 1) := by decide +kernel
theorem dX1_highestOf_15 : decode cX1_highestOf 15 = .ok (.aload_n 0, 1) := by decide +kernel
theorem dX1_highestOf_16 : decode cX1_highestOf 16 = .ok (.getfield 9, 3) := by decide +kernel
theorem dX1_highestOf_19 : decode cX1_highestOf 19 = .ok (.iconst 1, 1) := by decide +kernel
theorem dX1_highestOf_20 : decode cX1_highestOf 20 = .ok (.isub, 1) := by decide +kernel
theorem dX1_highestOf_21 : decode cX1_highestOf 21 = .ok (.invokevirtual 103, 3) := by decide +kernel
theorem dX1_highestOf_24 : decode cX1_highestOf 24 = .ok (.iaload, 1) := by decide +kernel
theorem dX1_highestOf_25 : decode cX1_highestOf 25 = .ok (.ireturn, 1) := by decide +kernel
theorem dX1_inchesFrom_0 : decode cX1_inchesFrom 0 = .ok (.aload_n 0, 1) := by decide +kernel
theorem dX1_inchesFrom_1 : decode cX1_inchesFrom 1 = .ok (.getfield 34, 3) := by decide +kernel
theorem dX1_inchesFrom_4 : decode cX1_inchesFrom 4 = .ok (.iload_n 1, 1) := by decide +kernel
theorem dX1_inchesFrom_5 : decode cX1_inchesFrom 5 = .ok (.iaload, 1) := by decide +kernel
theorem dX1_inchesFrom_6 : decode cX1_inchesFrom 6 = .ok (.istore 4, 2) := by decide +kernel
theorem dX1_inchesFrom_8 : decode cX1_inchesFrom 8 = .ok (.aload_n 0, 1) := by decide +kernel
theorem dX1_inchesFrom_9 : decode cX1_inchesFrom 9 = .ok (.getfield 18, 3) := by decide +kernel
theorem dX1_inchesFrom_12 : decode cX1_inchesFrom 12 = .ok (.iload_n 2, 1) := by decide +kernel
theorem dX1_inchesFrom_13 : decode cX1_inchesFrom 13 = .ok (.ishr, 1) := by decide +kernel
theorem dX1_inchesFrom_14 : decode cX1_inchesFrom 14 = .ok (.iconst 1, 1) := by decide +kernel
theorem dX1_inchesFrom_15 : decode cX1_inchesFrom 15 = .ok (.iand, 1) := by decide +kernel
theorem dX1_inchesFrom_16 : decode cX1_inchesFrom 16 = .ok (.iconst 1, 1) := by decide +kernel
theorem dX1_inchesFrom_17 : decode cX1_inchesFrom 17 = .ok (.if_icmp .eq 19, 3) := by decide +kernel
theorem dX1_inchesFrom_20 : decode cX1_inchesFrom 20 = .ok (.iload 4, 2) := by decide +kernel
theorem dX1_inchesFrom_22 : decode cX1_inchesFrom 22 = .ok (.iconst 3, 1) := by decide +kernel
theorem dX1_inchesFrom_23 : decode cX1_inchesFrom 23 = .ok (.if_icmp .ne 15, 3) := by decide +kernel
theorem dX1_inchesFrom_26 : decode cX1_inchesFrom 26 = .ok (.iload_n 2, 1) := by decide +kernel
theorem dX1_inchesFrom_27 : decode cX1_inchesFrom 27 = .ok (.aload_n 0, 1) := by decide +kernel
theorem dX1_inchesFrom_28 : decode cX1_inchesFrom 28 = .ok (.getfield 28, 3) := by decide +kernel
theorem dX1_inchesFrom_31 : decode cX1_inchesFrom 31 = .ok (.iload_n 1, 1) := by decide +kernel
theorem dX1_inchesFrom_32 : decode cX1_inchesFrom 32 = .ok (.iaload, 1) := by decide +kernel
theorem dX1_inchesFrom_33 : decode cX1_inchesFrom 33 = .ok (.if_icmp .ge 5, 3) := by decide +kernel
theorem dX1_inchesFrom_36 : decode cX1_inchesFrom 36 = .ok (.iconst 0, 1) := by decide +kernel
theorem dX1_inchesFrom_37 : decode cX1_inchesFrom 37 = .ok (.ireturn, 1) := by decide +kernel
theorem dX1_inchesFrom_38 : decode cX1_inchesFrom 38 = .ok (.iload_n 3, 1) := by decide +kernel
theorem dX1_inchesFrom_39 : decode cX1_inchesFrom 39 = .ok (.getstatic 94, 3) := by decide +kernel
theorem dX1_inchesFrom_42 : decode cX1_inchesFrom 42 = .ok (.iload 4, 2) := by decide +kernel
theorem dX1_inchesFrom_44 : decode cX1_inchesFrom 44 = .ok (.iaload, 1) := by decide +kernel
theorem dX1_inchesFrom_45 : decode cX1_inchesFrom 45 = .ok (.if_icmp .ge 5, 3) := by decide +kernel
theorem dX1_inchesFrom_48 : decode cX1_inchesFrom 48 = .ok (.iconst 0, 1) := by decide +kernel
theorem dX1_inchesFrom_49 : decode cX1_inchesFrom 49 = .ok (.ireturn, 1) := by decide +kernel
theorem dX1_inchesFrom_50 : decode cX1_inchesFrom 50 = .ok (.iload_n 3, 1) := by decide +kernel
theorem dX1_inchesFrom_51 : decode cX1_inchesFrom 51 = .ok (.getstatic 107, 3) := by decide +kernel
theorem dX1_inchesFrom_54 : decode cX1_inchesFrom 54 = .ok (.iload 4, 2) := by decide +kernel
theorem dX1_inchesFrom_56 : decode cX1_inchesFrom 56 = .ok (.iaload, 1) := by decide +kernel
theorem dX1_inchesFrom_57 : decode cX1_inchesFrom 57 = .ok (.if_icmp .ge 7, 3) := by decide +kernel
theorem dX1_inchesFrom_60 : decode cX1_inchesFrom 60 = .ok (.iload_n 3, 1) := by decide +kernel
theorem dX1_inchesFrom_61 : decode cX1_inchesFrom 61 = .ok (.goto 9, 3) := by decide +kernel
theorem dX1_inchesFrom_64 : decode cX1_inchesFrom 64 = .ok (.getstatic 107, 3) := by decide +kernel
theorem dX1_inchesFrom_67 : decode cX1_inchesFrom 67 = .ok (.iload 4, 2) := by decide +kernel
theorem dX1_inchesFrom_69 : decode cX1_inchesFrom 69 = .ok (.iaload, 1) := by decide +kernel
theorem dX1_inchesFrom_70 : decode cX1_inchesFrom 70 = .ok (.ireturn, 1) := by decide +kernel
theorem dX1_shift_0 : decode cX1_shift 0 = .ok (.iload_n 3, 1) := by decide +kernel
theorem dX1_shift_1 : decode cX1_shift 1 = .ok (.iload 4, 2) := by decide +kernel
theorem dX1_shift_3 : decode cX1_shift 3 = .ok (.iadd, 1) := by decide +kernel
theorem dX1_shift_4 : decode cX1_shift 4 = .ok (.istore 5, 2) := by decide +kernel
theorem dX1_shift_6 : decode cX1_shift 6 = .ok (.aload_n 0, 1) := by decide +kernel
theorem dX1_shift_7 : decode cX1_shift 7 = .ok (.iload_n 3, 1) := by decide +kernel
theorem dX1_shift_8 : decode cX1_shift 8 = .ok (.invokevirtual 100, 3) := by decide +kernel
theorem dX1_shift_11 : decode cX1_shift 11 = .ok (.ifCond .eq 12, 3) := by decide +kernel
theorem dX1_shift_14 : decode cX1_shift 14 = .ok (.aload_n 0, 1) := by decide +kernel
theorem dX1_shift_15 : decode cX1_shift 15 = .ok (.iload 5, 2) := by decide +kernel
theorem dX1_shift_17 : decode cX1_shift 17 = .ok (.invokevirtual 100, 3) := by decide +kernel
theorem dX1_shift_20 : decode cX1_shift 20 = .ok (.ifCond .ne 5, 3) := by decide +kernel
theorem dX1_shift_23 : decode cX1_shift 23 = .ok (.iconst 0, 1) := by decide +kernel
theorem dX1_shift_24 : decode cX1_shift 24 = .ok (.ireturn, 1) := by decide +kernel
theorem dX1_shift_25 : decode cX1_shift 25 = .ok (.aload_n 0, 1) := by decide +kernel
theorem dX1_shift_26 : decode cX1_shift 26 = .ok (.iload_n 2, 1) := by decide +kernel
theorem dX1_shift_27 : decode cX1_shift 27 = .ok (.iload_n 3, 1) := by decide +kernel
theorem dX1_shift_28 : decode cX1_shift 28 = .ok (.aload_n 1, 1) := by decide +kernel
theorem dX1_shift_29 : decode cX1_shift 29 = .ok (.iload_n 3, 1) := by decide +kernel
theorem dX1_shift_30 : decode cX1_shift 30 = .ok (.iaload, 1) := by decide +kernel
theorem dX1_shift_31 : decode cX1_shift 31 = .ok (.invokevirtual 110, 3) := by decide +kernel
theorem dX1_shift_34 : decode cX1_shift 34 = .ok (.istore 6, 2) := by decide +kernel
theorem dX1_shift_36 : decode cX1_shift 36 = .ok (.aload_n 1, 1) := by decide +kernel
theorem dX1_shift_37 : decode cX1_shift 37 = .ok (.iload_n 3, 1) := by decide +kernel
theorem dX1_shift_38 : decode cX1_shift 38 = .ok (.dup2, 1) := by decide +kernel
theorem dX1_shift_39 : decode cX1_shift 39 = .ok (.iaload, 1) := by decide +kernel
theorem dX1_shift_40 : decode cX1_shift 40 = .ok (.iload 6, 2) := by decide +kernel
theorem dX1_shift_42 : decode cX1_shift 42 = .ok (.isub, 1) := by decide +kernel
theorem dX1_shift_43 : decode cX1_shift 43 = .ok (.iastore, 1) := by decide +kernel
theorem dX1_shift_44 : decode cX1_shift 44 = .ok (.aload_n 1, 1) := by decide +kernel
theorem dX1_shift_45 : decode cX1_shift 45 = .ok (.iload 5, 2) := by decide +kernel
theorem dX1_shift_47 : decode cX1_shift 47 = .ok (.dup2, 1) := by decide +kernel
theorem dX1_shift_48 : decode cX1_shift 48 = .ok (.iaload, 1) := by decide +kernel
theorem dX1_shift_49 : decode cX1_shift 49 = .ok (.iload 6, 2) := by decide +kernel
theorem dX1_shift_51 : decode cX1_shift 51 = .ok (.iadd, 1) := by decide +kernel
theorem dX1_shift_52 : decode cX1_shift 52 = .ok (.iastore, 1) := by decide +kernel
theorem dX1_shift_53 : decode cX1_shift 53 = .ok (.iload 6, 2) := by decide +kernel
theorem dX1_shift_55 : decode cX1_shift 55 = .ok (.ireturn, 1) := by decide +kernel
theorem dX1_playTune_0 : decode cX1_playTune 0 = .ok (.aload_n 0, 1) := by decide +kernel
theorem dX1_playTune_1 : decode cX1_playTune 1 = .ok (.iload_n 2, 1) := by decide +kernel
theorem dX1_playTune_2 : decode cX1_playTune 2 = .ok (.invokevirtual 67, 3) := by decide +kernel
theorem dX1_playTune_5 : decode cX1_playTune 5 = .ok (.ifCond .eq 7, 3) := by decide +kernel
theorem dX1_playTune_8 : decode cX1_playTune 8 = .ok (.iload_n 3, 1) := by decide +kernel
theorem dX1_playTune_9 : decode cX1_playTune 9 = .ok (.ifCond .ne 5, 3) := by decide +kernel
theorem dX1_playTune_12 : decode cX1_playTune 12 = .ok (.iconst 0, 1) := by decide +kernel
theorem dX1_playTune_13 : decode cX1_playTune 13 = .ok (.ireturn, 1) := by decide +kernel
theorem dX1_playTune_14 : decode cX1_playTune 14 = .ok (.aload_n 0, 1) := by decide +kernel
theorem dX1_playTune_15 : decode cX1_playTune 15 = .ok (.iload_n 2, 1) := by decide +kernel
theorem dX1_playTune_16 : decode cX1_playTune 16 = .ok (.invokevirtual 88, 3) := by decide +kernel
theorem dX1_playTune_19 : decode cX1_playTune 19 = .ok (.aload_n 0, 1) := by decide +kernel
theorem dX1_playTune_20 : decode cX1_playTune 20 = .ok (.getfield 9, 3) := by decide +kernel
theorem dX1_playTune_23 : decode cX1_playTune 23 = .ok (.iconst 1, 1) := by decide +kernel
theorem dX1_playTune_24 : decode cX1_playTune 24 = .ok (.isub, 1) := by decide +kernel
theorem dX1_playTune_25 : decode cX1_playTune 25 = .ok (.invokestatic 114, 3) := by decide +kernel
theorem dX1_playTune_28 : decode cX1_playTune 28 = .ok (.istore 4, 2) := by decide +kernel
theorem dX1_playTune_30 : decode cX1_playTune 30 = .ok (.iconst 0, 1) := by decide +kernel
theorem dX1_playTune_31 : decode cX1_playTune 31 = .ok (.istore 5, 2) := by decide +kernel
theorem dX1_playTune_33 : decode cX1_playTune 33 = .ok (.iload_n 3, 1) := by decide +kernel
theorem dX1_playTune_34 : decode cX1_playTune 34 = .ok (.iconst 1, 1) := by decide +kernel
theorem dX1_playTune_35 : decode cX1_playTune 35 = .ok (.if_icmp .ne 7, 3) := by decide +kernel
theorem dX1_playTune_38 : decode cX1_playTune 38 = .ok (.iconst 1, 1) := by decide +kernel
theorem dX1_playTune_39 : decode cX1_playTune 39 = .ok (.goto 4, 3) := by decide +kernel
theorem dX1_playTune_42 : decode cX1_playTune 42 = .ok (.iconst 0, 1) := by decide +kernel
theorem dX1_playTune_43 : decode cX1_playTune 43 = .ok (.aload_n 0, 1) := by decide +kernel
theorem dX1_playTune_44 : decode cX1_playTune 44 = .ok (.getfield 34, 3) := by decide +kernel
theorem dX1_playTune_47 : decode cX1_playTune 47 = .ok (.iload_n 2, 1) := by decide +kernel
theorem dX1_playTune_48 : decode cX1_playTune 48 = .ok (.iaload, 1) := by decide +kernel
theorem dX1_playTune_49 : decode cX1_playTune 49 = .ok (.iconst 5, 1) := by decide +kernel
theorem dX1_playTune_50 : decode cX1_playTune 50 = .ok (.if_icmp .ne 7, 3) := by decide +kernel
theorem dX1_playTune_53 : decode cX1_playTune 53 = .ok (.iconst 1, 1) := by decide +kernel
theorem dX1_playTune_54 : decode cX1_playTune 54 = .ok (.goto 4, 3) := by decide +kernel
theorem dX1_playTune_57 : decode cX1_playTune 57 = .ok (.iconst 0, 1) := by decide +kernel
theorem dX1_playTune_58 : decode cX1_playTune 58 = .ok (.if_icmp .eq 60, 3) := by decide +kernel
theorem dX1_playTune_61 : decode cX1_playTune 61 = .ok (.iconst 1, 1) := by decide +kernel
theorem dX1_playTune_62 : decode cX1_playTune 62 = .ok (.istore 6, 2) := by decide +kernel
theorem dX1_playTune_64 : decode cX1_playTune 64 = .ok (.iload 6, 2) := by decide +kernel
theorem dX1_playTune_66 : decode cX1_playTune 66 = .ok (.iload 4, 2) := by decide +kernel
theorem dX1_playTune_68 : decode cX1_playTune 68 = .ok (.if_icmp .gt 47, 3) := by decide +kernel
theorem dX1_playTune_71 : decode cX1_playTune 71 = .ok (.iload 5, 2) := by decide +kernel
theorem dX1_playTune_73 : decode cX1_playTune 73 = .ok (.aload_n 0, 1) := by decide +kernel
theorem dX1_playTune_74 : decode cX1_playTune 74 = .ok (.aload_n 1, 1) := by decide +kernel
theorem dX1_playTune_75 : decode cX1_playTune 75 = .ok (.iload_n 2, 1) := by decide +kernel
theorem dX1_playTune_76 : decode cX1_playTune 76 = .ok (.aload_n 0, 1) := by decide +kernel
theorem dX1_playTune_77 : decode cX1_playTune 77 = .ok (.getfield 28, 3) := by decide +kernel
theorem dX1_playTune_80 : decode cX1_playTune 80 = .ok (.iload_n 2, 1) := by decide +kernel
theorem dX1_playTune_81 : decode cX1_playTune 81 = .ok (.iaload, 1) := by decide +kernel
theorem dX1_playTune_82 : decode cX1_playTune 82 = .ok (.iload 6, 2) := by decide +kernel
theorem dX1_playTune_84 : decode cX1_playTune 84 = .ok (.isub, 1) := by decide +kernel
theorem dX1_playTune_85 : decode cX1_playTune 85 = .ok (.iconst 1, 1) := by decide +kernel
theorem dX1_playTune_86 : decode cX1_playTune 86 = .ok (.invokevirtual 117, 3) := by decide +kernel
theorem dX1_playTune_89 : decode cX1_playTune 89 = .ok (.aload_n 0, 1) := by decide +kernel
theorem dX1_playTune_90 : decode cX1_playTune 90 = .ok (.aload_n 1, 1) := by decide +kernel
theorem dX1_playTune_91 : decode cX1_playTune 91 = .ok (.iload_n 2, 1) := by decide +kernel
theorem dX1_playTune_92 : decode cX1_playTune 92 = .ok (.aload_n 0, 1) := by decide +kernel
theorem dX1_playTune_93 : decode cX1_playTune 93 = .ok (.getfield 28, 3) := by decide +kernel
theorem dX1_playTune_96 : decode cX1_playTune 96 = .ok (.iload_n 2, 1) := by decide +kernel
theorem dX1_playTune_97 : decode cX1_playTune 97 = .ok (.iaload, 1) := by decide +kernel
theorem dX1_playTune_98 : decode cX1_playTune 98 = .ok (.iload 6, 2) := by decide +kernel
theorem dX1_playTune_100 : decode cX1_playTune 100 = .ok (.iadd, 1) := by decide +kernel
theorem dX1_playTune_101 : decode cX1_playTune 101 = .ok (.iconst (-1), 1) := by decide +kernel
theorem dX1_playTune_102 : decode cX1_playTune 102 = .ok (.invokevirtual 117, 3) := by decide +kernel
theorem dX1_playTune_105 : decode cX1_playTune 105 = .ok (.iadd, 1) := by decide +kernel
theorem dX1_playTune_106 : decode cX1_playTune 106 = .ok (.iadd, 1) := by decide +kernel
theorem dX1_playTune_107 : decode cX1_playTune 107 = .ok (.istore 5, 2) := by decide +kernel
theorem dX1_playTune_109 : decode cX1_playTune 109 = .ok (.iinc 6 1, 3) := by decide +kernel
theorem dX1_playTune_112 : decode cX1_playTune 112 = .ok (.goto (-48), 3) := by decide +kernel
theorem dX1_playTune_115 : decode cX1_playTune 115 = .ok (.goto 57, 3) := by decide +kernel
theorem dX1_playTune_118 : decode cX1_playTune 118 = .ok (.iload 4, 2) := by decide +kernel
theorem dX1_playTune_120 : decode cX1_playTune 120 = .ok (.istore 6, 2) := by decide +kernel
theorem dX1_playTune_122 : decode cX1_playTune 122 = .ok (.iload 6, 2) := by decide +kernel
theorem dX1_playTune_124 : decode cX1_playTune 124 = .ok (.iconst 1, 1) := by decide +kernel
theorem dX1_playTune_125 : decode cX1_playTune 125 = .ok (.if_icmp .lt 47, 3) := by decide +kernel
theorem dX1_playTune_128 : decode cX1_playTune 128 = .ok (.iload 5, 2) := by decide +kernel
theorem dX1_playTune_130 : decode cX1_playTune 130 = .ok (.aload_n 0, 1) := by decide +kernel
theorem dX1_playTune_131 : decode cX1_playTune 131 = .ok (.aload_n 1, 1) := by decide +kernel
theorem dX1_playTune_132 : decode cX1_playTune 132 = .ok (.iload_n 2, 1) := by decide +kernel
theorem dX1_playTune_133 : decode cX1_playTune 133 = .ok (.aload_n 0, 1) := by decide +kernel
theorem dX1_playTune_134 : decode cX1_playTune 134 = .ok (.getfield 28, 3) := by decide +kernel
theorem dX1_playTune_137 : decode cX1_playTune 137 = .ok (.iload_n 2, 1) := by decide +kernel
theorem dX1_playTune_138 : decode cX1_playTune 138 = .ok (.iaload, 1) := by decide +kernel
theorem dX1_playTune_139 : decode cX1_playTune 139 = .ok (.iload 6, 2) := by decide +kernel
theorem dX1_playTune_141 : decode cX1_playTune 141 = .ok (.isub, 1) := by decide +kernel
theorem dX1_playTune_142 : decode cX1_playTune 142 = .ok (.iconst (-1), 1) := by decide +kernel
theorem dX1_playTune_143 : decode cX1_playTune 143 = .ok (.invokevirtual 117, 3) := by decide +kernel
theorem dX1_playTune_146 : decode cX1_playTune 146 = .ok (.aload_n 0, 1) := by decide +kernel
theorem dX1_playTune_147 : decode cX1_playTune 147 = .ok (.aload_n 1, 1) := by decide +kernel
theorem dX1_playTune_148 : decode cX1_playTune 148 = .ok (.iload_n 2, 1) := by decide +kernel
theorem dX1_playTune_149 : decode cX1_playTune 149 = .ok (.aload_n 0, 1) := by decide +kernel
theorem dX1_playTune_150 : decode cX1_playTune 150 = .ok (.getfield 28, 3) := by decide +kernel
theorem dX1_playTune_153 : decode cX1_playTune 153 = .ok (.iload_n 2, 1) := by decide +kernel
theorem dX1_playTune_154 : decode cX1_playTune 154 = .ok (.iaload, 1) := by decide +kernel
theorem dX1_playTune_155 : decode cX1_playTune 155 = .ok (.iload 6, 2) := by decide +kernel
theorem dX1_playTune_157 : decode cX1_playTune 157 = .ok (.iadd, 1) := by decide +kernel
theorem dX1_playTune_158 : decode cX1_playTune 158 = .ok (.iconst 1, 1) := by decide +kernel
theorem dX1_playTune_159 : decode cX1_playTune 159 = .ok (.invokevirtual 117, 3) := by decide +kernel
theorem dX1_playTune_162 : decode cX1_playTune 162 = .ok (.iadd, 1) := by decide +kernel
theorem dX1_playTune_163 : decode cX1_playTune 163 = .ok (.iadd, 1) := by decide +kernel
theorem dX1_playTune_164 : decode cX1_playTune 164 = .ok (.istore 5, 2) := by decide +kernel
theorem dX1_playTune_166 : decode cX1_playTune 166 = .ok (.iinc 6 (-1), 3) := by decide +kernel
theorem dX1_playTune_169 : decode cX1_playTune 169 = .ok (.goto (-47), 3) := by decide +kernel
theorem dX1_playTune_172 : decode cX1_playTune 172 = .ok (.iload 5, 2) := by decide +kernel
theorem dX1_playTune_174 : decode cX1_playTune 174 = .ok (.ireturn, 1) := by decide +kernel
theorem dX1_playAside_0 : decode cX1_playAside 0 = .ok (.iconst 0, 1) := by decide +kernel
theorem dX1_playAside_1 : decode cX1_playAside 1 = .ok (.istore_n 3, 1) := by decide +kernel
theorem dX1_playAside_2 : decode cX1_playAside 2 = .ok (.iload_n 2, 1) := by decide +kernel
theorem dX1_playAside_3 : decode cX1_playAside 3 = .ok (.istore 4, 2) := by decide +kernel
theorem dX1_playAside_5 : decode cX1_playAside 5 = .ok (.iconst 0, 1) := by decide +kernel
theorem dX1_playAside_6 : decode cX1_playAside 6 = .ok (.istore 5, 2) := by decide +kernel
theorem dX1_playAside_8 : decode cX1_playAside 8 = .ok (.iload 5, 2) := by decide +kernel
theorem dX1_playAside_10 : decode cX1_playAside 10 = .ok (.aload_n 0, 1) := by decide +kernel
theorem dX1_playAside_11 : decode cX1_playAside 11 = .ok (.getfield 15, 3) := by decide +kernel
theorem dX1_playAside_14 : decode cX1_playAside 14 = .ok (.if_icmp .ge 29, 3) := by decide +kernel
theorem dX1_playAside_17 : decode cX1_playAside 17 = .ok (.iload_n 3, 1) := by decide +kernel
theorem dX1_playAside_18 : decode cX1_playAside 18 = .ok (.aload_n 0, 1) := by decide +kernel
theorem dX1_playAside_19 : decode cX1_playAside 19 = .ok (.aload_n 1, 1) := by decide +kernel
theorem dX1_playAside_20 : decode cX1_playAside 20 = .ok (.iload 5, 2) := by decide +kernel
theorem dX1_playAside_22 : decode cX1_playAside 22 = .ok (.iload 4, 2) := by decide +kernel
theorem dX1_playAside_24 : decode cX1_playAside 24 = .ok (.iconst 3, 1) := by decide +kernel
theorem dX1_playAside_25 : decode cX1_playAside 25 = .ok (.irem, 1) := by decide +kernel
theorem dX1_playAside_26 : decode cX1_playAside 26 = .ok (.invokevirtual 121, 3) := by decide +kernel
theorem dX1_playAside_29 : decode cX1_playAside 29 = .ok (.iadd, 1) := by decide +kernel
theorem dX1_playAside_30 : decode cX1_playAside 30 = .ok (.istore_n 3, 1) := by decide +kernel
theorem dX1_playAside_31 : decode cX1_playAside 31 = .ok (.iload 4, 2) := by decide +kernel
theorem dX1_playAside_33 : decode cX1_playAside 33 = .ok (.iconst 3, 1) := by decide +kernel
theorem dX1_playAside_34 : decode cX1_playAside 34 = .ok (.idiv, 1) := by decide +kernel
theorem dX1_playAside_35 : decode cX1_playAside 35 = .ok (.istore 4, 2) := by decide +kernel
theorem dX1_playAside_37 : decode cX1_playAside 37 = .ok (.iinc 5 1, 3) := by decide +kernel
theorem dX1_playAside_40 : decode cX1_playAside 40 = .ok (.goto (-32), 3) := by decide +kernel
theorem dX1_playAside_43 : decode cX1_playAside 43 = .ok (.iload_n 3, 1) := by decide +kernel
theorem dX1_playAside_44 : decode cX1_playAside 44 = .ok (.ireturn, 1) := by decide +kernel
theorem dX1_playTruly_0 : decode cX1_playTruly 0 = .ok (.aload_n 0, 1) := by decide +kernel
theorem dX1_playTruly_1 : decode cX1_playTruly 1 = .ok (.getfield 21, 3) := by decide +kernel
theorem dX1_playTruly_4 : decode cX1_playTruly 4 = .ok (.bipush 60, 2) := by decide +kernel
theorem dX1_playTruly_6 : decode cX1_playTruly 6 = .ok (.if_icmp .lt 5, 3) := by decide +kernel
theorem dX1_playTruly_9 : decode cX1_playTruly 9 = .ok (.iconst 0, 1) := by decide +kernel
theorem dX1_playTruly_10 : decode cX1_playTruly 10 = .ok (.ireturn, 1) := by decide +kernel
theorem dX1_playTruly_11 : decode cX1_playTruly 11 = .ok (.aload_n 0, 1) := by decide +kernel
theorem dX1_playTruly_12 : decode cX1_playTruly 12 = .ok (.getfield 24, 3) := by decide +kernel
theorem dX1_playTruly_15 : decode cX1_playTruly 15 = .ok (.iconst 0, 1) := by decide +kernel
theorem dX1_playTruly_16 : decode cX1_playTruly 16 = .ok (.aload_n 0, 1) := by decide +kernel
theorem dX1_playTruly_17 : decode cX1_playTruly 17 = .ok (.getfield 43, 3) := by decide +kernel
theorem dX1_playTruly_20 : decode cX1_playTruly 20 = .ok (.aload_n 0, 1) := by decide +kernel
theorem dX1_playTruly_21 : decode cX1_playTruly 21 = .ok (.getfield 21, 3) := by decide +kernel
theorem dX1_playTruly_24 : decode cX1_playTruly 24 = .ok (.bipush 10, 2) := by decide +kernel
theorem dX1_playTruly_26 : decode cX1_playTruly 26 = .ok (.imul, 1) := by decide +kernel
theorem dX1_playTruly_27 : decode cX1_playTruly 27 = .ok (.bipush 10, 2) := by decide +kernel
theorem dX1_playTruly_29 : decode cX1_playTruly 29 = .ok (.invokestatic 54, 3) := by decide +kernel
theorem dX1_playTruly_32 : decode cX1_playTruly 32 = .ok (.aload_n 0, 1) := by decide +kernel
theorem dX1_playTruly_33 : decode cX1_playTruly 33 = .ok (.getfield 37, 3) := by decide +kernel
theorem dX1_playTruly_36 : decode cX1_playTruly 36 = .ok (.iconst 0, 1) := by decide +kernel
theorem dX1_playTruly_37 : decode cX1_playTruly 37 = .ok (.aload_n 0, 1) := by decide +kernel
theorem dX1_playTruly_38 : decode cX1_playTruly 38 = .ok (.getfield 46, 3) := by decide +kernel
theorem dX1_playTruly_41 : decode cX1_playTruly 41 = .ok (.aload_n 0, 1) := by decide +kernel
theorem dX1_playTruly_42 : decode cX1_playTruly 42 = .ok (.getfield 21, 3) := by decide +kernel
theorem dX1_playTruly_45 : decode cX1_playTruly 45 = .ok (.iconst 3, 1) := by decide +kernel
theorem dX1_playTruly_46 : decode cX1_playTruly 46 = .ok (.imul, 1) := by decide +kernel
theorem dX1_playTruly_47 : decode cX1_playTruly 47 = .ok (.iconst 3, 1) := by decide +kernel
theorem dX1_playTruly_48 : decode cX1_playTruly 48 = .ok (.invokestatic 54, 3) := by decide +kernel
theorem dX1_playTruly_51 : decode cX1_playTruly 51 = .ok (.aload_n 0, 1) := by decide +kernel
theorem dX1_playTruly_52 : decode cX1_playTruly 52 = .ok (.getfield 40, 3) := by decide +kernel
theorem dX1_playTruly_55 : decode cX1_playTruly 55 = .ok (.aload_n 0, 1) := by decide +kernel
theorem dX1_playTruly_56 : decode cX1_playTruly 56 = .ok (.getfield 21, 3) := by decide +kernel
theorem dX1_playTruly_59 : decode cX1_playTruly 59 = .ok (.iload_n 1, 1) := by decide +kernel
theorem dX1_playTruly_60 : decode cX1_playTruly 60 = .ok (.iastore, 1) := by decide +kernel
theorem dX1_playTruly_61 : decode cX1_playTruly 61 = .ok (.aload_n 0, 1) := by decide +kernel
theorem dX1_playTruly_62 : decode cX1_playTruly 62 = .ok (.dup, 1) := by decide +kernel
theorem dX1_playTruly_63 : decode cX1_playTruly 63 = .ok (.getfield 21, 3) := by decide +kernel
theorem dX1_playTruly_66 : decode cX1_playTruly 66 = .ok (.iconst 1, 1) := by decide +kernel
theorem dX1_playTruly_67 : decode cX1_playTruly 67 = .ok (.iadd, 1) := by decide +kernel
theorem dX1_playTruly_68 : decode cX1_playTruly 68 = .ok (.putfield 21, 3) := by decide +kernel
theorem dX1_playTruly_71 : decode cX1_playTruly 71 = .ok (.iconst 0, 1) := by decide +kernel
theorem dX1_playTruly_72 : decode cX1_playTruly 72 = .ok (.istore_n 2, 1) := by decide +kernel
theorem dX1_playTruly_73 : decode cX1_playTruly 73 = .ok (.iconst 0, 1) := by decide +kernel
theorem dX1_playTruly_74 : decode cX1_playTruly 74 = .ok (.istore_n 3, 1) := by decide +kernel
theorem dX1_playTruly_75 : decode cX1_playTruly 75 = .ok (.iload_n 3, 1) := by decide +kernel
theorem dX1_playTruly_76 : decode cX1_playTruly 76 = .ok (.aload_n 0, 1) := by decide +kernel
theorem dX1_playTruly_77 : decode cX1_playTruly 77 = .ok (.getfield 15, 3) := by decide +kernel
theorem dX1_playTruly_80 : decode cX1_playTruly 80 = .ok (.if_icmp .ge 42, 3) := by decide +kernel
theorem dX1_playTruly_83 : decode cX1_playTruly 83 = .ok (.aload_n 0, 1) := by decide +kernel
theorem dX1_playTruly_84 : decode cX1_playTruly 84 = .ok (.aload_n 0, 1) := by decide +kernel
theorem dX1_playTruly_85 : decode cX1_playTruly 85 = .ok (.getfield 24, 3) := by decide +kernel
theorem dX1_playTruly_88 : decode cX1_playTruly 88 = .ok (.iload_n 3, 1) := by decide +kernel
theorem dX1_playTruly_89 : decode cX1_playTruly 89 = .ok (.aload_n 0, 1) := by decide +kernel
theorem dX1_playTruly_90 : decode cX1_playTruly 90 = .ok (.iload_n 1, 1) := by decide +kernel
theorem dX1_playTruly_91 : decode cX1_playTruly 91 = .ok (.iload_n 3, 1) := by decide +kernel
theorem dX1_playTruly_92 : decode cX1_playTruly 92 = .ok (.invokevirtual 74, 3) := by decide +kernel
theorem dX1_playTruly_95 : decode cX1_playTruly 95 = .ok (.invokevirtual 121, 3) := by decide +kernel
theorem dX1_playTruly_98 : decode cX1_playTruly 98 = .ok (.istore 4, 2) := by decide +kernel
theorem dX1_playTruly_100 : decode cX1_playTruly 100 = .ok (.aload_n 0, 1) := by decide +kernel
theorem dX1_playTruly_101 : decode cX1_playTruly 101 = .ok (.getfield 37, 3) := by decide +kernel
theorem dX1_playTruly_104 : decode cX1_playTruly 104 = .ok (.iload_n 3, 1) := by decide +kernel
theorem dX1_playTruly_105 : decode cX1_playTruly 105 = .ok (.dup2, 1) := by decide +kernel
theorem dX1_playTruly_106 : decode cX1_playTruly 106 = .ok (.iaload, 1) := by decide +kernel
theorem dX1_playTruly_107 : decode cX1_playTruly 107 = .ok (.iload 4, 2) := by decide +kernel
theorem dX1_playTruly_109 : decode cX1_playTruly 109 = .ok (.iadd, 1) := by decide +kernel
theorem dX1_playTruly_110 : decode cX1_playTruly 110 = .ok (.iastore, 1) := by decide +kernel
theorem dX1_playTruly_111 : decode cX1_playTruly 111 = .ok (.iload_n 2, 1) := by decide +kernel
theorem dX1_playTruly_112 : decode cX1_playTruly 112 = .ok (.iload 4, 2) := by decide +kernel
theorem dX1_playTruly_114 : decode cX1_playTruly 114 = .ok (.iadd, 1) := by decide +kernel
theorem dX1_playTruly_115 : decode cX1_playTruly 115 = .ok (.istore_n 2, 1) := by decide +kernel
theorem dX1_playTruly_116 : decode cX1_playTruly 116 = .ok (.iinc 3 1, 3) := by decide +kernel
theorem dX1_playTruly_119 : decode cX1_playTruly 119 = .ok (.goto (-44), 3) := by decide +kernel
theorem dX1_playTruly_122 : decode cX1_playTruly 122 = .ok (.iload_n 2, 1) := by decide +kernel
theorem dX1_playTruly_123 : decode cX1_playTruly 123 = .ok (.ireturn, 1) := by decide +kernel
theorem dX1_takeBack_0 : decode cX1_takeBack 0 = .ok (.iload_n 1, 1) := by decide +kernel
theorem dX1_takeBack_1 : decode cX1_takeBack 1 = .ok (.ifCond .lt 17, 3) := by decide +kernel
theorem dX1_takeBack_4 : decode cX1_takeBack 4 = .ok (.iload_n 1, 1) := by decide +kernel
theorem dX1_takeBack_5 : decode cX1_takeBack 5 = .ok (.aload_n 0, 1) := by decide +kernel
theorem dX1_takeBack_6 : decode cX1_takeBack 6 = .ok (.getfield 21, 3) := by decide +kernel
theorem dX1_takeBack_9 : decode cX1_takeBack 9 = .ok (.if_icmp .ge 9, 3) := by decide +kernel
theorem dX1_takeBack_12 : decode cX1_takeBack 12 = .ok (.iload_n 1, 1) := by decide +kernel
theorem dX1_takeBack_13 : decode cX1_takeBack 13 = .ok (.bipush 60, 2) := by decide +kernel
theorem dX1_takeBack_15 : decode cX1_takeBack 15 = .ok (.if_icmp .lt 5, 3) := by decide +kernel
theorem dX1_takeBack_18 : decode cX1_takeBack 18 = .ok (.iconst 0, 1) := by decide +kernel
theorem dX1_takeBack_19 : decode cX1_takeBack 19 = .ok (.ireturn, 1) := by decide +kernel
theorem dX1_takeBack_20 : decode cX1_takeBack 20 = .ok (.aload_n 0, 1) := by decide +kernel
theorem dX1_takeBack_21 : decode cX1_takeBack 21 = .ok (.getfield 43, 3) := by decide +kernel
theorem dX1_takeBack_24 : decode cX1_takeBack 24 = .ok (.iload_n 1, 1) := by decide +kernel
theorem dX1_takeBack_25 : decode cX1_takeBack 25 = .ok (.bipush 10, 2) := by decide +kernel
theorem dX1_takeBack_27 : decode cX1_takeBack 27 = .ok (.imul, 1) := by decide +kernel
theorem dX1_takeBack_28 : decode cX1_takeBack 28 = .ok (.aload_n 0, 1) := by decide +kernel
theorem dX1_takeBack_29 : decode cX1_takeBack 29 = .ok (.getfield 24, 3) := by decide +kernel
theorem dX1_takeBack_32 : decode cX1_takeBack 32 = .ok (.iconst 0, 1) := by decide +kernel
theorem dX1_takeBack_33 : decode cX1_takeBack 33 = .ok (.bipush 10, 2) := by decide +kernel
theorem dX1_takeBack_35 : decode cX1_takeBack 35 = .ok (.invokestatic 54, 3) := by decide +kernel
theorem dX1_takeBack_38 : decode cX1_takeBack 38 = .ok (.aload_n 0, 1) := by decide +kernel
theorem dX1_takeBack_39 : decode cX1_takeBack 39 = .ok (.getfield 46, 3) := by decide +kernel
theorem dX1_takeBack_42 : decode cX1_takeBack 42 = .ok (.iload_n 1, 1) := by decide +kernel
theorem dX1_takeBack_43 : decode cX1_takeBack 43 = .ok (.iconst 3, 1) := by decide +kernel
theorem dX1_takeBack_44 : decode cX1_takeBack 44 = .ok (.imul, 1) := by decide +kernel
theorem dX1_takeBack_45 : decode cX1_takeBack 45 = .ok (.aload_n 0, 1) := by decide +kernel
theorem dX1_takeBack_46 : decode cX1_takeBack 46 = .ok (.getfield 37, 3) := by decide +kernel
theorem dX1_takeBack_49 : decode cX1_takeBack 49 = .ok (.iconst 0, 1) := by decide +kernel
theorem dX1_takeBack_50 : decode cX1_takeBack 50 = .ok (.iconst 3, 1) := by decide +kernel
theorem dX1_takeBack_51 : decode cX1_takeBack 51 = .ok (.invokestatic 54, 3) := by decide +kernel
theorem dX1_takeBack_54 : decode cX1_takeBack 54 = .ok (.aload_n 0, 1) := by decide +kernel
theorem dX1_takeBack_55 : decode cX1_takeBack 55 = .ok (.getfield 21, 3) := by decide +kernel
theorem dX1_takeBack_58 : decode cX1_takeBack 58 = .ok (.iload_n 1, 1) := by decide +kernel
theorem dX1_takeBack_59 : decode cX1_takeBack 59 = .ok (.isub, 1) := by decide +kernel
theorem dX1_takeBack_60 : decode cX1_takeBack 60 = .ok (.istore_n 2, 1) := by decide +kernel
theorem dX1_takeBack_61 : decode cX1_takeBack 61 = .ok (.aload_n 0, 1) := by decide +kernel
theorem dX1_takeBack_62 : decode cX1_takeBack 62 = .ok (.iload_n 1, 1) := by decide +kernel
theorem dX1_takeBack_63 : decode cX1_takeBack 63 = .ok (.putfield 21, 3) := by decide +kernel
theorem dX1_takeBack_66 : decode cX1_takeBack 66 = .ok (.iload_n 2, 1) := by decide +kernel
theorem dX1_takeBack_67 : decode cX1_takeBack 67 = .ok (.ireturn, 1) := by decide +kernel
theorem dX1_mixedInto_0 : decode cX1_mixedInto 0 = .ok (.lload_n 1, 1) := by decide +kernel
theorem dX1_mixedInto_1 : decode cX1_mixedInto 1 = .ok (.lstore_n 3, 1) := by decide +kernel
theorem dX1_mixedInto_2 : decode cX1_mixedInto 2 = .ok (.iconst 0, 1) := by decide +kernel
theorem dX1_mixedInto_3 : decode cX1_mixedInto 3 = .ok (.istore 5, 2) := by decide +kernel
theorem dX1_mixedInto_5 : decode cX1_mixedInto 5 = .ok (.iload 5, 2) := by decide +kernel
theorem dX1_mixedInto_7 : decode cX1_mixedInto 7 = .ok (.aload_n 0, 1) := by decide +kernel
theorem dX1_mixedInto_8 : decode cX1_mixedInto 8 = .ok (.getfield 9, 3) := by decide +kernel
theorem dX1_mixedInto_11 : decode cX1_mixedInto 11 = .ok (.if_icmp .ge 46, 3) := by decide +kernel
theorem dX1_mixedInto_14 : decode cX1_mixedInto 14 = .ok (.ldc2_w 124, 3) := by decide +kernel
theorem dX1_mixedInto_17 : decode cX1_mixedInto 17 = .ok (.lload_n 3, 1) := by decide +kernel
theorem dX1_mixedInto_18 : decode cX1_mixedInto 18 = .ok (.lmul, 1) := by decide +kernel
theorem dX1_mixedInto_19 : decode cX1_mixedInto 19 = .ok (.aload_n 0, 1) := by decide +kernel
theorem dX1_mixedInto_20 : decode cX1_mixedInto 20 = .ok (.getfield 24, 3) := by decide +kernel
theorem dX1_mixedInto_23 : decode cX1_mixedInto 23 = .ok (.iload 5, 2) := by decide +kernel
theorem dX1_mixedInto_25 : decode cX1_mixedInto 25 = .ok (.iaload, 1) := by decide +kernel
theorem dX1_mixedInto_26 : decode cX1_mixedInto 26 = .ok (.i2l, 1) := by decide +kernel
theorem dX1_mixedInto_27 : decode cX1_mixedInto 27 = .ok (.ladd, 1) := by decide +kernel
theorem dX1_mixedInto_28 : decode cX1_mixedInto 28 = .ok (.lstore_n 3, 1) := by decide +kernel
theorem dX1_mixedInto_29 : decode cX1_mixedInto 29 = .ok (.ldc2_w 124, 3) := by decide +kernel
theorem dX1_mixedInto_32 : decode cX1_mixedInto 32 = .ok (.lload_n 3, 1) := by decide +kernel
theorem dX1_mixedInto_33 : decode cX1_mixedInto 33 = .ok (.lmul, 1) := by decide +kernel
theorem dX1_mixedInto_34 : decode cX1_mixedInto 34 = .ok (.aload_n 0, 1) := by decide +kernel
theorem dX1_mixedInto_35 : decode cX1_mixedInto 35 = .ok (.iload 5, 2) := by decide +kernel
theorem dX1_mixedInto_37 : decode cX1_mixedInto 37 = .ok (.invokevirtual 126, 3) := by decide +kernel
theorem dX1_mixedInto_40 : decode cX1_mixedInto 40 = .ok (.ifCond .eq 7, 3) := by decide +kernel
theorem dX1_mixedInto_43 : decode cX1_mixedInto 43 = .ok (.iconst 1, 1) := by decide +kernel
theorem dX1_mixedInto_44 : decode cX1_mixedInto 44 = .ok (.goto 4, 3) := by decide +kernel
theorem dX1_mixedInto_47 : decode cX1_mixedInto 47 = .ok (.iconst 0, 1) := by decide +kernel
theorem dX1_mixedInto_48 : decode cX1_mixedInto 48 = .ok (.i2l, 1) := by decide +kernel
theorem dX1_mixedInto_49 : decode cX1_mixedInto 49 = .ok (.ladd, 1) := by decide +kernel
theorem dX1_mixedInto_50 : decode cX1_mixedInto 50 = .ok (.lstore_n 3, 1) := by decide +kernel
theorem dX1_mixedInto_51 : decode cX1_mixedInto 51 = .ok (.iinc 5 1, 3) := by decide +kernel
theorem dX1_mixedInto_54 : decode cX1_mixedInto 54 = .ok (.goto (-49), 3) := by decide +kernel
theorem dX1_mixedInto_57 : decode cX1_mixedInto 57 = .ok (.iconst 0, 1) := by decide +kernel
theorem dX1_mixedInto_58 : decode cX1_mixedInto 58 = .ok (.istore 5, 2) := by decide +kernel
theorem dX1_mixedInto_60 : decode cX1_mixedInto 60 = .ok (.iload 5, 2) := by decide +kernel
theorem dX1_mixedInto_62 : decode cX1_mixedInto 62 = .ok (.aload_n 0, 1) := by decide +kernel
theorem dX1_mixedInto_63 : decode cX1_mixedInto 63 = .ok (.getfield 15, 3) := by decide +kernel
theorem dX1_mixedInto_66 : decode cX1_mixedInto 66 = .ok (.if_icmp .ge 40, 3) := by decide +kernel
theorem dX1_mixedInto_69 : decode cX1_mixedInto 69 = .ok (.iconst 0, 1) := by decide +kernel
theorem dX1_mixedInto_70 : decode cX1_mixedInto 70 = .ok (.istore 6, 2) := by decide +kernel
theorem dX1_mixedInto_72 : decode cX1_mixedInto 72 = .ok (.iload 6, 2) := by decide +kernel
theorem dX1_mixedInto_74 : decode cX1_mixedInto 74 = .ok (.iconst 5, 1) := by decide +kernel
theorem dX1_mixedInto_75 : decode cX1_mixedInto 75 = .ok (.if_icmp .ge 25, 3) := by decide +kernel
theorem dX1_mixedInto_78 : decode cX1_mixedInto 78 = .ok (.ldc2_w 124, 3) := by decide +kernel
theorem dX1_mixedInto_81 : decode cX1_mixedInto 81 = .ok (.lload_n 3, 1) := by decide +kernel
theorem dX1_mixedInto_82 : decode cX1_mixedInto 82 = .ok (.lmul, 1) := by decide +kernel
theorem dX1_mixedInto_83 : decode cX1_mixedInto 83 = .ok (.aload_n 0, 1) := by decide +kernel
theorem dX1_mixedInto_84 : decode cX1_mixedInto 84 = .ok (.iload 5, 2) := by decide +kernel
theorem dX1_mixedInto_86 : decode cX1_mixedInto 86 = .ok (.iload 6, 2) := by decide +kernel
theorem dX1_mixedInto_88 : decode cX1_mixedInto 88 = .ok (.invokevirtual 129, 3) := by decide +kernel
theorem dX1_mixedInto_91 : decode cX1_mixedInto 91 = .ok (.i2l, 1) := by decide +kernel
theorem dX1_mixedInto_92 : decode cX1_mixedInto 92 = .ok (.ladd, 1) := by decide +kernel
theorem dX1_mixedInto_93 : decode cX1_mixedInto 93 = .ok (.lstore_n 3, 1) := by decide +kernel
theorem dX1_mixedInto_94 : decode cX1_mixedInto 94 = .ok (.iinc 6 1, 3) := by decide +kernel
theorem dX1_mixedInto_97 : decode cX1_mixedInto 97 = .ok (.goto (-25), 3) := by decide +kernel
theorem dX1_mixedInto_100 : decode cX1_mixedInto 100 = .ok (.iinc 5 1, 3) := by decide +kernel
theorem dX1_mixedInto_103 : decode cX1_mixedInto 103 = .ok (.goto (-43), 3) := by decide +kernel
theorem dX1_mixedInto_106 : decode cX1_mixedInto 106 = .ok (.iconst 0, 1) := by decide +kernel
theorem dX1_mixedInto_107 : decode cX1_mixedInto 107 = .ok (.istore 5, 2) := by decide +kernel
theorem dX1_mixedInto_109 : decode cX1_mixedInto 109 = .ok (.iload 5, 2) := by decide +kernel
theorem dX1_mixedInto_111 : decode cX1_mixedInto 111 = .ok (.aload_n 0, 1) := by decide +kernel
theorem dX1_mixedInto_112 : decode cX1_mixedInto 112 = .ok (.getfield 21, 3) := by decide +kernel
theorem dX1_mixedInto_115 : decode cX1_mixedInto 115 = .ok (.if_icmp .ge 24, 3) := by decide +kernel
theorem dX1_mixedInto_118 : decode cX1_mixedInto 118 = .ok (.ldc2_w 124, 3) := by decide +kernel
theorem dX1_mixedInto_121 : decode cX1_mixedInto 121 = .ok (.lload_n 3, 1) := by decide +kernel
theorem dX1_mixedInto_122 : decode cX1_mixedInto 122 = .ok (.lmul, 1) := by decide +kernel
theorem dX1_mixedInto_123 : decode cX1_mixedInto 123 = .ok (.aload_n 0, 1) := by decide +kernel
theorem dX1_mixedInto_124 : decode cX1_mixedInto 124 = .ok (.getfield 40, 3) := by decide +kernel
theorem dX1_mixedInto_127 : decode cX1_mixedInto 127 = .ok (.iload 5, 2) := by decide +kernel
theorem dX1_mixedInto_129 : decode cX1_mixedInto 129 = .ok (.iaload, 1) := by decide +kernel
theorem dX1_mixedInto_130 : decode cX1_mixedInto 130 = .ok (.i2l, 1) := by decide +kernel
theorem dX1_mixedInto_131 : decode cX1_mixedInto 131 = .ok (.ladd, 1) := by decide +kernel
theorem dX1_mixedInto_132 : decode cX1_mixedInto 132 = .ok (.lstore_n 3, 1) := by decide +kernel
theorem dX1_mixedInto_133 : decode cX1_mixedInto 133 = .ok (.iinc 5 1, 3) := by decide +kernel
theorem dX1_mixedInto_136 : decode cX1_mixedInto 136 = .ok (.goto (-27), 3) := by decide +kernel
theorem dX1_mixedInto_139 : decode cX1_mixedInto 139 = .ok (.lload_n 3, 1) := by decide +kernel
theorem dX1_mixedInto_140 : decode cX1_mixedInto 140 = .ok (.lreturn, 1) := by decide +kernel
theorem dX0_init_0 : decode cX0_init 0 = .ok (.aload_n 0, 1) := by decide +kernel
theorem dX0_init_1 : decode cX0_init 1 = .ok (.invokespecial 3, 3) := by decide +kernel
theorem dX0_init_4 : decode cX0_init 4 = .ok (.aload_n 0, 1) := by decide +kernel
theorem dX0_init_5 : decode cX0_init 5 = .ok (.bipush 10, 2) := by decide +kernel
theorem dX0_init_7 : decode cX0_init 7 = .ok (.newarray .int, 2) := by decide +kernel
theorem dX0_init_9 : decode cX0_init 9 = .ok (.putfield 9, 3) := by decide +kernel
theorem dX0_init_12 : decode cX0_init 12 = .ok (.aload_n 0, 1) := by decide +kernel
theorem dX0_init_13 : decode cX0_init 13 = .ok (.bipush 10, 2) := by decide +kernel
theorem dX0_init_15 : decode cX0_init 15 = .ok (.newarray .int, 2) := by decide +kernel
theorem dX0_init_17 : decode cX0_init 17 = .ok (.putfield 15, 3) := by decide +kernel
theorem dX0_init_20 : decode cX0_init 20 = .ok (.aload_n 0, 1) := by decide +kernel
theorem dX0_init_21 : decode cX0_init 21 = .ok (.bipush 7, 2) := by decide +kernel
theorem dX0_init_23 : decode cX0_init 23 = .ok (.bipush 10, 2) := by decide +kernel
theorem dX0_init_25 : decode cX0_init 25 = .ok (.multianewarray 18 2, 4) := by decide +kernel
theorem dX0_init_29 : decode cX0_init 29 = .ok (.putfield 20, 3) := by decide +kernel
theorem dX0_init_32 : decode cX0_init 32 = .ok (.aload_n 0, 1) := by decide +kernel
theorem dX0_init_33 : decode cX0_init 33 = .ok (.iconst 0, 1) := by decide +kernel
theorem dX0_init_34 : decode cX0_init 34 = .ok (.putfield 23, 3) := by decide +kernel
theorem dX0_init_37 : decode cX0_init 37 = .ok (.aload_n 0, 1) := by decide +kernel
theorem dX0_init_38 : decode cX0_init 38 = .ok (.iconst 0, 1) := by decide +kernel
theorem dX0_init_39 : decode cX0_init 39 = .ok (.putfield 27, 3) := by decide +kernel
theorem dX0_init_42 : decode cX0_init 42 = .ok (.aload_n 0, 1) := by decide +kernel
theorem dX0_init_43 : decode cX0_init 43 = .ok (.iconst 0, 1) := by decide +kernel
theorem dX0_init_44 : decode cX0_init 44 = .ok (.putfield 30, 3) := by decide +kernel
theorem dX0_init_47 : decode cX0_init 47 = .ok (.aload_n 0, 1) := by decide +kernel
theorem dX0_init_48 : decode cX0_init 48 = .ok (.iconst 0, 1) := by decide +kernel
theorem dX0_init_49 : decode cX0_init 49 = .ok (.putfield 33, 3) := by decide +kernel
theorem dX0_init_52 : decode cX0_init 52 = .ok (.aload_n 0, 1) := by decide +kernel
theorem dX0_init_53 : decode cX0_init 53 = .ok (.aload_n 1, 1) := by decide +kernel
theorem dX0_init_54 : decode cX0_init 54 = .ok (.putfield 36, 3) := by decide +kernel
theorem dX0_init_57 : decode cX0_init 57 = .ok (.return_, 1) := by decide +kernel
theorem dX0_startFromNow_0 : decode cX0_startFromNow 0 = .ok (.aload_n 0, 1) := by decide +kernel
theorem dX0_startFromNow_1 : decode cX0_startFromNow 1 = .ok (.getfield 36, 3) := by decide +kernel
theorem dX0_startFromNow_4 : decode cX0_startFromNow 4 = .ok (.getfield 40, 3) := by decide +kernel
theorem dX0_startFromNow_7 : decode cX0_startFromNow 7 = .ok (.iconst 0, 1) := by decide +kernel
theorem dX0_startFromNow_8 : decode cX0_startFromNow 8 = .ok (.aload_n 0, 1) := by decide +kernel
theorem dX0_startFromNow_9 : decode cX0_startFromNow 9 = .ok (.getfield 9, 3) := by decide +kernel
theorem dX0_startFromNow_12 : decode cX0_startFromNow 12 = .ok (.iconst 0, 1) := by decide +kernel
theorem dX0_startFromNow_13 : decode cX0_startFromNow 13 = .ok (.bipush 10, 2) := by decide +kernel
theorem dX0_startFromNow_15 : decode cX0_startFromNow 15 = .ok (.invokestatic 45, 3) := by decide +kernel
theorem dX0_startFromNow_18 : decode cX0_startFromNow 18 = .ok (.return_, 1) := by decide +kernel
theorem dX0_inchesByTune_0 : decode cX0_inchesByTune 0 = .ok (.aload_n 0, 1) := by decide +kernel
theorem dX0_inchesByTune_1 : decode cX0_inchesByTune 1 = .ok (.invokevirtual 51, 3) := by decide +kernel
theorem dX0_inchesByTune_4 : decode cX0_inchesByTune 4 = .ok (.aload_n 0, 1) := by decide +kernel
theorem dX0_inchesByTune_5 : decode cX0_inchesByTune 5 = .ok (.getfield 36, 3) := by decide +kernel
theorem dX0_inchesByTune_8 : decode cX0_inchesByTune 8 = .ok (.aload_n 0, 1) := by decide +kernel
theorem dX0_inchesByTune_9 : decode cX0_inchesByTune 9 = .ok (.getfield 9, 3) := by decide +kernel
theorem dX0_inchesByTune_12 : decode cX0_inchesByTune 12 = .ok (.iload_n 1, 1) := by decide +kernel
theorem dX0_inchesByTune_13 : decode cX0_inchesByTune 13 = .ok (.iload_n 2, 1) := by decide +kernel
theorem dX0_inchesByTune_14 : decode cX0_inchesByTune 14 = .ok (.invokevirtual 54, 3) := by decide +kernel
theorem dX0_inchesByTune_17 : decode cX0_inchesByTune 17 = .ok (.ireturn, 1) := by decide +kernel
theorem dX0_repeat_0 : decode cX0_repeat 0 = .ok (.aload_n 0, 1) := by decide +kernel
theorem dX0_repeat_1 : decode cX0_repeat 1 = .ok (.invokevirtual 51, 3) := by decide +kernel
theorem dX0_repeat_4 : decode cX0_repeat 4 = .ok (.iconst 0, 1) := by decide +kernel
theorem dX0_repeat_5 : decode cX0_repeat 5 = .ok (.istore_n 3, 1) := by decide +kernel
theorem dX0_repeat_6 : decode cX0_repeat 6 = .ok (.iconst 0, 1) := by decide +kernel
theorem dX0_repeat_7 : decode cX0_repeat 7 = .ok (.istore 4, 2) := by decide +kernel
theorem dX0_repeat_9 : decode cX0_repeat 9 = .ok (.iload 4, 2) := by decide +kernel
theorem dX0_repeat_11 : decode cX0_repeat 11 = .ok (.iload_n 2, 1) := by decide +kernel
theorem dX0_repeat_12 : decode cX0_repeat 12 = .ok (.if_icmp .ge 24, 3) := by decide +kernel
theorem dX0_repeat_15 : decode cX0_repeat 15 = .ok (.iload_n 3, 1) := by decide +kernel
theorem dX0_repeat_16 : decode cX0_repeat 16 = .ok (.aload_n 0, 1) := by decide +kernel
theorem dX0_repeat_17 : decode cX0_repeat 17 = .ok (.getfield 36, 3) := by decide +kernel
theorem dX0_repeat_20 : decode cX0_repeat 20 = .ok (.aload_n 0, 1) := by decide +kernel
theorem dX0_repeat_21 : decode cX0_repeat 21 = .ok (.getfield 9, 3) := by decide +kernel
theorem dX0_repeat_24 : decode cX0_repeat 24 = .ok (.iload_n 1, 1) := by decide +kernel
theorem dX0_repeat_25 : decode cX0_repeat 25 = .ok (.invokevirtual 58, 3) := by decide +kernel
theorem dX0_repeat_28 : decode cX0_repeat 28 = .ok (.iadd, 1) := by decide +kernel
theorem dX0_repeat_29 : decode cX0_repeat 29 = .ok (.istore_n 3, 1) := by decide +kernel
theorem dX0_repeat_30 : decode cX0_repeat 30 = .ok (.iinc 4 1, 3) := by decide +kernel
theorem dX0_repeat_33 : decode cX0_repeat 33 = .ok (.goto (-24), 3) := by decide +kernel
theorem dX0_repeat_36 : decode cX0_repeat 36 = .ok (.iload_n 3, 1) := by decide +kernel
theorem dX0_repeat_37 : decode cX0_repeat 37 = .ok (.ireturn, 1) := by decide +kernel
theorem dX0_playBehind_0 : decode cX0_playBehind 0 = .ok (.aload_n 0, 1) := by decide +kernel
theorem dX0_playBehind_1 : decode cX0_playBehind 1 = .ok (.getfield 9, 3) := by decide +kernel
theorem dX0_playBehind_4 : decode cX0_playBehind 4 = .ok (.iconst 0, 1) := by decide +kernel
theorem dX0_playBehind_5 : decode cX0_playBehind 5 = .ok (.aload_n 0, 1) := by decide +kernel
theorem dX0_playBehind_6 : decode cX0_playBehind 6 = .ok (.getfield 15, 3) := by decide +kernel
theorem dX0_playBehind_9 : decode cX0_playBehind 9 = .ok (.iconst 0, 1) := by decide +kernel
theorem dX0_playBehind_10 : decode cX0_playBehind 10 = .ok (.bipush 10, 2) := by decide +kernel
theorem dX0_playBehind_12 : decode cX0_playBehind 12 = .ok (.invokestatic 45, 3) := by decide +kernel
theorem dX0_playBehind_15 : decode cX0_playBehind 15 = .ok (.aload_n 0, 1) := by decide +kernel
theorem dX0_playBehind_16 : decode cX0_playBehind 16 = .ok (.getfield 36, 3) := by decide +kernel
theorem dX0_playBehind_19 : decode cX0_playBehind 19 = .ok (.aload_n 0, 1) := by decide +kernel
theorem dX0_playBehind_20 : decode cX0_playBehind 20 = .ok (.getfield 15, 3) := by decide +kernel
theorem dX0_playBehind_23 : decode cX0_playBehind 23 = .ok (.iload_n 1, 1) := by decide +kernel
theorem dX0_playBehind_24 : decode cX0_playBehind 24 = .ok (.invokevirtual 58, 3) := by decide +kernel
theorem dX0_playBehind_27 : decode cX0_playBehind 27 = .ok (.pop, 1) := by decide +kernel
theorem dX0_playBehind_28 : decode cX0_playBehind 28 = .ok (.return_, 1) := by decide +kernel
theorem dX0_restsBehind_0 : decode cX0_restsBehind 0 = .ok (.aload_n 0, 1) := by decide +kernel
theorem dX0_restsBehind_1 : decode cX0_restsBehind 1 = .ok (.invokevirtual 51, 3) := by decide +kernel
theorem dX0_restsBehind_4 : decode cX0_restsBehind 4 = .ok (.iconst 0, 1) := by decide +kernel
theorem dX0_restsBehind_5 : decode cX0_restsBehind 5 = .ok (.istore_n 2, 1) := by decide +kernel
theorem dX0_restsBehind_6 : decode cX0_restsBehind 6 = .ok (.iload_n 2, 1) := by decide +kernel
theorem dX0_restsBehind_7 : decode cX0_restsBehind 7 = .ok (.bipush 100, 2) := by decide +kernel
theorem dX0_restsBehind_9 : decode cX0_restsBehind 9 = .ok (.if_icmp .gt 46, 3) := by decide +kernel
theorem dX0_restsBehind_12 : decode cX0_restsBehind 12 = .ok (.aload_n 0, 1) := by decide +kernel
theorem dX0_restsBehind_13 : decode cX0_restsBehind 13 = .ok (.iload_n 1, 1) := by decide +kernel
theorem dX0_restsBehind_14 : decode cX0_restsBehind 14 = .ok (.invokevirtual 62, 3) := by decide +kernel
theorem dX0_restsBehind_17 : decode cX0_restsBehind 17 = .ok (.aload_n 0, 1) := by decide +kernel
theorem dX0_restsBehind_18 : decode cX0_restsBehind 18 = .ok (.aload_n 0, 1) := by decide +kernel
theorem dX0_restsBehind_19 : decode cX0_restsBehind 19 = .ok (.getfield 9, 3) := by decide +kernel
theorem dX0_restsBehind_22 : decode cX0_restsBehind 22 = .ok (.aload_n 0, 1) := by decide +kernel
theorem dX0_restsBehind_23 : decode cX0_restsBehind 23 = .ok (.getfield 15, 3) := by decide +kernel
theorem dX0_restsBehind_26 : decode cX0_restsBehind 26 = .ok (.invokevirtual 66, 3) := by decide +kernel
theorem dX0_restsBehind_29 : decode cX0_restsBehind 29 = .ok (.ifCond .eq 5, 3) := by decide +kernel
theorem dX0_restsBehind_32 : decode cX0_restsBehind 32 = .ok (.iload_n 2, 1) := by decide +kernel
theorem dX0_restsBehind_33 : decode cX0_restsBehind 33 = .ok (.ireturn, 1) := by decide +kernel
theorem dX0_restsBehind_34 : decode cX0_restsBehind 34 = .ok (.aload_n 0, 1) := by decide +kernel
theorem dX0_restsBehind_35 : decode cX0_restsBehind 35 = .ok (.getfield 15, 3) := by decide +kernel
theorem dX0_restsBehind_38 : decode cX0_restsBehind 38 = .ok (.iconst 0, 1) := by decide +kernel
theorem dX0_restsBehind_39 : decode cX0_restsBehind 39 = .ok (.aload_n 0, 1) := by decide +kernel
theorem dX0_restsBehind_40 : decode cX0_restsBehind 40 = .ok (.getfield 9, 3) := by decide +kernel
theorem dX0_restsBehind_43 : decode cX0_restsBehind 43 = .ok (.iconst 0, 1) := by decide +kernel
theorem dX0_restsBehind_44 : decode cX0_restsBehind 44 = .ok (.bipush 10, 2) := by decide +kernel
theorem dX0_restsBehind_46 : decode cX0_restsBehind 46 = .ok (.invokestatic 45, 3) := by decide +kernel
theorem dX0_restsBehind_49 : decode cX0_restsBehind 49 = .ok (.iinc 2 1, 3) := by decide +kernel
theorem dX0_restsBehind_52 : decode cX0_restsBehind 52 = .ok (.goto (-46), 3) := by decide +kernel
theorem dX0_restsBehind_55 : decode cX0_restsBehind 55 = .ok (.bipush (-9), 2) := by decide +kernel
theorem dX0_restsBehind_57 : decode cX0_restsBehind 57 = .ok (.ireturn, 1) := by decide +kernel
theorem dX0_comesRound_0 : decode cX0_comesRound 0 = .ok (.aload_n 0, 1) := by decide +kernel
theorem dX0_comesRound_1 : decode cX0_comesRound 1 = .ok (.invokevirtual 51, 3) := by decide +kernel
theorem dX0_comesRound_4 : decode cX0_comesRound 4 = .ok (.iconst 1, 1) := by decide +kernel
theorem dX0_comesRound_5 : decode cX0_comesRound 5 = .ok (.istore_n 2, 1) := by decide +kernel
theorem dX0_comesRound_6 : decode cX0_comesRound 6 = .ok (.iload_n 2, 1) := by decide +kernel
theorem dX0_comesRound_7 : decode cX0_comesRound 7 = .ok (.bipush 100, 2) := by decide +kernel
theorem dX0_comesRound_9 : decode cX0_comesRound 9 = .ok (.if_icmp .gt 42, 3) := by decide +kernel
theorem dX0_comesRound_12 : decode cX0_comesRound 12 = .ok (.aload_n 0, 1) := by decide +kernel
theorem dX0_comesRound_13 : decode cX0_comesRound 13 = .ok (.getfield 36, 3) := by decide +kernel
theorem dX0_comesRound_16 : decode cX0_comesRound 16 = .ok (.aload_n 0, 1) := by decide +kernel
theorem dX0_comesRound_17 : decode cX0_comesRound 17 = .ok (.getfield 9, 3) := by decide +kernel
theorem dX0_comesRound_20 : decode cX0_comesRound 20 = .ok (.iload_n 1, 1) := by decide +kernel
theorem dX0_comesRound_21 : decode cX0_comesRound 21 = .ok (.invokevirtual 58, 3) := by decide +kernel
theorem dX0_comesRound_24 : decode cX0_comesRound 24 = .ok (.pop, 1) := by decide +kernel
theorem dX0_comesRound_25 : decode cX0_comesRound 25 = .ok (.aload_n 0, 1) := by decide +kernel
theorem dX0_comesRound_26 : decode cX0_comesRound 26 = .ok (.aload_n 0, 1) := by decide +kernel
theorem dX0_comesRound_27 : decode cX0_comesRound 27 = .ok (.getfield 9, 3) := by decide +kernel
theorem dX0_comesRound_30 : decode cX0_comesRound 30 = .ok (.aload_n 0, 1) := by decide +kernel
theorem dX0_comesRound_31 : decode cX0_comesRound 31 = .ok (.getfield 36, 3) := by decide +kernel
theorem dX0_comesRound_34 : decode cX0_comesRound 34 = .ok (.getfield 40, 3) := by decide +kernel
theorem dX0_comesRound_37 : decode cX0_comesRound 37 = .ok (.invokevirtual 66, 3) := by decide +kernel
theorem dX0_comesRound_40 : decode cX0_comesRound 40 = .ok (.ifCond .eq 5, 3) := by decide +kernel
theorem dX0_comesRound_43 : decode cX0_comesRound 43 = .ok (.iload_n 2, 1) := by decide +kernel
theorem dX0_comesRound_44 : decode cX0_comesRound 44 = .ok (.ireturn, 1) := by decide +kernel
theorem dX0_comesRound_45 : decode cX0_comesRound 45 = .ok (.iinc 2 1, 3) := by decide +kernel
theorem dX0_comesRound_48 : decode cX0_comesRound 48 = .ok (.goto (-42), 3) := by decide +kernel
theorem dX0_comesRound_51 : decode cX0_comesRound 51 = .ok (.bipush (-9), 2) := by decide +kernel
theorem dX0_comesRound_53 : decode cX0_comesRound 53 = .ok (.ireturn, 1) := by decide +kernel
theorem dX0_isSame_0 : decode cX0_isSame 0 = .ok (.iconst 0, 1) := by decide +kernel
theorem dX0_isSame_1 : decode cX0_isSame 1 = .ok (.istore_n 3, 1) := by decide +kernel
theorem dX0_isSame_2 : decode cX0_isSame 2 = .ok (.iload_n 3, 1) := by decide +kernel
theorem dX0_isSame_3 : decode cX0_isSame 3 = .ok (.aload_n 0, 1) := by decide +kernel
theorem dX0_isSame_4 : decode cX0_isSame 4 = .ok (.getfield 36, 3) := by decide +kernel
theorem dX0_isSame_7 : decode cX0_isSame 7 = .ok (.getfield 70, 3) := by decide +kernel
theorem dX0_isSame_10 : decode cX0_isSame 10 = .ok (.if_icmp .ge 20, 3) := by decide +kernel
theorem dX0_isSame_13 : decode cX0_isSame 13 = .ok (.aload_n 1, 1) := by decide +kernel
theorem dX0_isSame_14 : decode cX0_isSame 14 = .ok (.iload_n 3, 1) := by decide +kernel
theorem dX0_isSame_15 : decode cX0_isSame 15 = .ok (.iaload, 1) := by decide +kernel
theorem dX0_isSame_16 : decode cX0_isSame 16 = .ok (.aload_n 2, 1) := by decide +kernel
theorem dX0_isSame_17 : decode cX0_isSame 17 = .ok (.iload_n 3, 1) := by decide +kernel
theorem dX0_isSame_18 : decode cX0_isSame 18 = .ok (.iaload, 1) := by decide +kernel
theorem dX0_isSame_19 : decode cX0_isSame 19 = .ok (.if_icmp .eq 5, 3) := by decide +kernel
theorem dX0_isSame_22 : decode cX0_isSame 22 = .ok (.iconst 0, 1) := by decide +kernel
theorem dX0_isSame_23 : decode cX0_isSame 23 = .ok (.ireturn, 1) := by decide +kernel
theorem dX0_isSame_24 : decode cX0_isSame 24 = .ok (.iinc 3 1, 3) := by decide +kernel
theorem dX0_isSame_27 : decode cX0_isSame 27 = .ok (.goto (-25), 3) := by decide +kernel
theorem dX0_isSame_30 : decode cX0_isSame 30 = .ok (.iconst 1, 1) := by decide +kernel
theorem dX0_isSame_31 : decode cX0_isSame 31 = .ok (.ireturn, 1) := by decide +kernel
theorem dX0_loudestKeeping_0 : decode cX0_loudestKeeping 0 = .ok (.iconst 0, 1) := by decide +kernel
theorem dX0_loudestKeeping_1 : decode cX0_loudestKeeping 1 = .ok (.istore_n 2, 1) := by decide +kernel
theorem dX0_loudestKeeping_2 : decode cX0_loudestKeeping 2 = .ok (.aload_n 0, 1) := by decide +kernel
theorem dX0_loudestKeeping_3 : decode cX0_loudestKeeping 3 = .ok (.getfield 36, 3) := by decide +kernel
theorem dX0_loudestKeeping_6 : decode cX0_loudestKeeping 6 = .ok (.invokevirtual 73, 3) := by decide +kernel
theorem dX0_loudestKeeping_9 : decode cX0_loudestKeeping 9 = .ok (.istore_n 3, 1) := by decide +kernel
theorem dX0_loudestKeeping_10 : decode cX0_loudestKeeping 10 = .ok (.iconst 1, 1) := by decide +kernel
theorem dX0_loudestKeeping_11 : decode cX0_loudestKeeping 11 = .ok (.istore 4, 2) := by decide +kernel
theorem dX0_loudestKeeping_13 : decode cX0_loudestKeeping 13 = .ok (.iload 4, 2) := by decide +kernel
theorem dX0_loudestKeeping_15 : decode cX0_loudestKeeping 15 = .ok (.iload_n 3, 1) := by decide +kernel
theorem dX0_loudestKeeping_16 : decode cX0_loudestKeeping 16 = .ok (.if_icmp .ge 61, 3) := by decide +kernel
theorem dX0_loudestKeeping_19 : decode cX0_loudestKeeping 19 = .ok (.aload_n 0, 1) := by decide +kernel
theorem dX0_loudestKeeping_20 : decode cX0_loudestKeeping 20 = .ok (.getfield 36, 3) := by decide +kernel
theorem dX0_loudestKeeping_23 : decode cX0_loudestKeeping 23 = .ok (.iload 4, 2) := by decide +kernel
theorem dX0_loudestKeeping_25 : decode cX0_loudestKeeping 25 = .ok (.invokevirtual 77, 3) := by decide +kernel
theorem dX0_loudestKeeping_28 : decode cX0_loudestKeeping 28 = .ok (.aload_n 0, 1) := by decide +kernel
theorem dX0_loudestKeeping_29 : decode cX0_loudestKeeping 29 = .ok (.getfield 36, 3) := by decide +kernel
theorem dX0_loudestKeeping_32 : decode cX0_loudestKeeping 32 = .ok (.iload_n 2, 1) := by decide +kernel
theorem dX0_loudestKeeping_33 : decode cX0_loudestKeeping 33 = .ok (.invokevirtual 77, 3) := by decide +kernel
theorem dX0_loudestKeeping_36 : decode cX0_loudestKeeping 36 = .ok (.if_icmp .gt 6, 3) := by decide +kernel
theorem dX0_loudestKeeping_39 : decode cX0_loudestKeeping 39 = .ok (.goto 32, 3) := by decide +kernel
theorem dX0_loudestKeeping_42 : decode cX0_loudestKeeping 42 = .ok (.aload_n 0, 1) := by decide +kernel
theorem dX0_loudestKeeping_43 : decode cX0_loudestKeeping 43 = .ok (.iload 4, 2) := by decide +kernel
theorem dX0_loudestKeeping_45 : decode cX0_loudestKeeping 45 = .ok (.iconst 1, 1) := by decide +kernel
theorem dX0_loudestKeeping_46 : decode cX0_loudestKeeping 46 = .ok (.invokevirtual 81, 3) := by decide +kernel
theorem dX0_loudestKeeping_49 : decode cX0_loudestKeeping 49 = .ok (.pop, 1) := by decide +kernel
theorem dX0_loudestKeeping_50 : decode cX0_loudestKeeping 50 = .ok (.aload_n 0, 1) := by decide +kernel
theorem dX0_loudestKeeping_51 : decode cX0_loudestKeeping 51 = .ok (.getfield 9, 3) := by decide +kernel
theorem dX0_loudestKeeping_54 : decode cX0_loudestKeeping 54 = .ok (.iload_n 1, 1) := by decide +kernel
theorem dX0_loudestKeeping_55 : decode cX0_loudestKeeping 55 = .ok (.iaload, 1) := by decide +kernel
theorem dX0_loudestKeeping_56 : decode cX0_loudestKeeping 56 = .ok (.aload_n 0, 1) := by decide +kernel
theorem dX0_loudestKeeping_57 : decode cX0_loudestKeeping 57 = .ok (.getfield 36, 3) := by decide +kernel
theorem dX0_loudestKeeping_60 : decode cX0_loudestKeeping 60 = .ok (.getfield 40, 3) := by decide +kernel
theorem dX0_loudestKeeping_63 : decode cX0_loudestKeeping 63 = .ok (.iload_n 1, 1) := by decide +kernel
theorem dX0_loudestKeeping_64 : decode cX0_loudestKeeping 64 = .ok (.iaload, 1) := by decide +kernel
theorem dX0_loudestKeeping_65 : decode cX0_loudestKeeping 65 = .ok (.if_icmp .ne 6, 3) := by decide +kernel
theorem dX0_loudestKeeping_68 : decode cX0_loudestKeeping 68 = .ok (.iload 4, 2) := by decide +kernel
theorem dX0_loudestKeeping_70 : decode cX0_loudestKeeping 70 = .ok (.istore_n 2, 1) := by decide +kernel
theorem dX0_loudestKeeping_71 : decode cX0_loudestKeeping 71 = .ok (.iinc 4 1, 3) := by decide +kernel
theorem dX0_loudestKeeping_74 : decode cX0_loudestKeeping 74 = .ok (.goto (-61), 3) := by decide +kernel
theorem dX0_loudestKeeping_77 : decode cX0_loudestKeeping 77 = .ok (.iload_n 2, 1) := by decide +kernel
theorem dX0_loudestKeeping_78 : decode cX0_loudestKeeping 78 = .ok (.ireturn, 1) := by decide +kernel
theorem dX0_duel_0 : decode cX0_duel 0 = .ok (.aload_n 0, 1) := by decide +kernel
theorem dX0_duel_1 : decode cX0_duel 1 = .ok (.iload_n 1, 1) := by decide +kernel
theorem dX0_duel_2 : decode cX0_duel 2 = .ok (.putfield 23, 3) := by decide +kernel
theorem dX0_duel_5 : decode cX0_duel 5 = .ok (.aload_n 0, 1) := by decide +kernel
theorem dX0_duel_6 : decode cX0_duel 6 = .ok (.iload_n 2, 1) := by decide +kernel
theorem dX0_duel_7 : decode cX0_duel 7 = .ok (.putfield 27, 3) := by decide +kernel
theorem dX0_duel_10 : decode cX0_duel 10 = .ok (.aload_n 0, 1) := by decide +kernel
theorem dX0_duel_11 : decode cX0_duel 11 = .ok (.iload_n 3, 1) := by decide +kernel
theorem dX0_duel_12 : decode cX0_duel 12 = .ok (.putfield 30, 3) := by decide +kernel
theorem dX0_duel_15 : decode cX0_duel 15 = .ok (.aload_n 0, 1) := by decide +kernel
theorem dX0_duel_16 : decode cX0_duel 16 = .ok (.iconst 0, 1) := by decide +kernel
theorem dX0_duel_17 : decode cX0_duel 17 = .ok (.putfield 33, 3) := by decide +kernel
theorem dX0_duel_20 : decode cX0_duel 20 = .ok (.aload_n 0, 1) := by decide +kernel
theorem dX0_duel_21 : decode cX0_duel 21 = .ok (.getfield 36, 3) := by decide +kernel
theorem dX0_duel_24 : decode cX0_duel 24 = .ok (.getfield 40, 3) := by decide +kernel
theorem dX0_duel_27 : decode cX0_duel 27 = .ok (.iconst 0, 1) := by decide +kernel
theorem dX0_duel_28 : decode cX0_duel 28 = .ok (.aload_n 0, 1) := by decide +kernel
theorem dX0_duel_29 : decode cX0_duel 29 = .ok (.getfield 20, 3) := by decide +kernel
theorem dX0_duel_32 : decode cX0_duel 32 = .ok (.iconst 0, 1) := by decide +kernel
theorem dX0_duel_33 : decode cX0_duel 33 = .ok (.aaload, 1) := by decide +kernel
theorem dX0_duel_34 : decode cX0_duel 34 = .ok (.iconst 0, 1) := by decide +kernel
theorem dX0_duel_35 : decode cX0_duel 35 = .ok (.bipush 10, 2) := by decide +kernel
theorem dX0_duel_37 : decode cX0_duel 37 = .ok (.invokestatic 45, 3) := by decide +kernel
theorem dX0_duel_40 : decode cX0_duel 40 = .ok (.aload_n 0, 1) := by decide +kernel
theorem dX0_duel_41 : decode cX0_duel 41 = .ok (.iconst 0, 1) := by decide +kernel
theorem dX0_duel_42 : decode cX0_duel 42 = .ok (.iload 4, 2) := by decide +kernel
theorem dX0_duel_44 : decode cX0_duel 44 = .ok (.invokevirtual 85, 3) := by decide +kernel
theorem dX0_duel_47 : decode cX0_duel 47 = .ok (.ireturn, 1) := by decide +kernel
theorem dX0_bestTurn_0 : decode cX0_bestTurn 0 = .ok (.iload_n 1, 1) := by decide +kernel
theorem dX0_bestTurn_1 : decode cX0_bestTurn 1 = .ok (.iload_n 2, 1) := by decide +kernel
theorem dX0_bestTurn_2 : decode cX0_bestTurn 2 = .ok (.if_icmp .ge 9, 3) := by decide +kernel
theorem dX0_bestTurn_5 : decode cX0_bestTurn 5 = .ok (.iload_n 1, 1) := by decide +kernel
theorem dX0_bestTurn_6 : decode cX0_bestTurn 6 = .ok (.bipush 6, 2) := by decide +kernel
theorem dX0_bestTurn_8 : decode cX0_bestTurn 8 = .ok (.if_icmp .lt 15, 3) := by decide +kernel
theorem dX0_bestTurn_11 : decode cX0_bestTurn 11 = .ok (.aload_n 0, 1) := by decide +kernel
theorem dX0_bestTurn_12 : decode cX0_bestTurn 12 = .ok (.getfield 20, 3) := by decide +kernel
theorem dX0_bestTurn_15 : decode cX0_bestTurn 15 = .ok (.iload_n 1, 1) := by decide +kernel
theorem dX0_bestTurn_16 : decode cX0_bestTurn 16 = .ok (.aaload, 1) := by decide +kernel
theorem dX0_bestTurn_17 : decode cX0_bestTurn 17 = .ok (.aload_n 0, 1) := by decide +kernel
theorem dX0_bestTurn_18 : decode cX0_bestTurn 18 = .ok (.getfield 30, 3) := by decide +kernel
theorem dX0_bestTurn_21 : decode cX0_bestTurn 21 = .ok (.iaload, 1) := by decide +kernel
theorem dX0_bestTurn_22 : decode cX0_bestTurn 22 = .ok (.ireturn, 1) := by decide +kernel
theorem dX0_bestTurn_23 : decode cX0_bestTurn 23 = .ok (.iload_n 1, 1) := by decide +kernel
theorem dX0_bestTurn_24 : decode cX0_bestTurn 24 = .ok (.iconst 2, 1) := by decide +kernel
theorem dX0_bestTurn_25 : decode cX0_bestTurn 25 = .ok (.irem, 1) := by decide +kernel
theorem dX0_bestTurn_26 : decode cX0_bestTurn 26 = .ok (.ifCond .ne 7, 3) := by decide +kernel
theorem dX0_bestTurn_29 : decode cX0_bestTurn 29 = .ok (.iconst 1, 1) := by decide +kernel
theorem dX0_bestTurn_30 : decode cX0_bestTurn 30 = .ok (.goto 4, 3) := by decide +kernel
theorem dX0_bestTurn_33 : decode cX0_bestTurn 33 = .ok (.iconst 0, 1) := by decide +kernel
theorem dX0_bestTurn_34 : decode cX0_bestTurn 34 = .ok (.istore_n 3, 1) := by decide +kernel
theorem dX0_bestTurn_35 : decode cX0_bestTurn 35 = .ok (.iconst 0, 1) := by decide +kernel
theorem dX0_bestTurn_36 : decode cX0_bestTurn 36 = .ok (.istore 4, 2) := by decide +kernel
theorem dX0_bestTurn_38 : decode cX0_bestTurn 38 = .ok (.iconst 0, 1) := by decide +kernel
theorem dX0_bestTurn_39 : decode cX0_bestTurn 39 = .ok (.istore 5, 2) := by decide +kernel
theorem dX0_bestTurn_41 : decode cX0_bestTurn 41 = .ok (.iload 5, 2) := by decide +kernel
theorem dX0_bestTurn_43 : decode cX0_bestTurn 43 = .ok (.iconst 3, 1) := by decide +kernel
theorem dX0_bestTurn_44 : decode cX0_bestTurn 44 = .ok (.if_icmp .ge 113, 3) := by decide +kernel
theorem dX0_bestTurn_47 : decode cX0_bestTurn 47 = .ok (.aload_n 0, 1) := by decide +kernel
theorem dX0_bestTurn_48 : decode cX0_bestTurn 48 = .ok (.getfield 20, 3) := by decide +kernel
theorem dX0_bestTurn_51 : decode cX0_bestTurn 51 = .ok (.iload_n 1, 1) := by decide +kernel
theorem dX0_bestTurn_52 : decode cX0_bestTurn 52 = .ok (.aaload, 1) := by decide +kernel
theorem dX0_bestTurn_53 : decode cX0_bestTurn 53 = .ok (.iconst 0, 1) := by decide +kernel
theorem dX0_bestTurn_54 : decode cX0_bestTurn 54 = .ok (.aload_n 0, 1) := by decide +kernel
theorem dX0_bestTurn_55 : decode cX0_bestTurn 55 = .ok (.getfield 20, 3) := by decide +kernel
theorem dX0_bestTurn_58 : decode cX0_bestTurn 58 = .ok (.iload_n 1, 1) := by decide +kernel
theorem dX0_bestTurn_59 : decode cX0_bestTurn 59 = .ok (.iconst 1, 1) := by decide +kernel
theorem dX0_bestTurn_60 : decode cX0_bestTurn 60 = .ok (.iadd, 1) := by decide +kernel
theorem dX0_bestTurn_61 : decode cX0_bestTurn 61 = .ok (.aaload, 1) := by decide +kernel
theorem dX0_bestTurn_62 : decode cX0_bestTurn 62 = .ok (.iconst 0, 1) := by decide +kernel
theorem dX0_bestTurn_63 : decode cX0_bestTurn 63 = .ok (.bipush 10, 2) := by decide +kernel
theorem dX0_bestTurn_65 : decode cX0_bestTurn 65 = .ok (.invokestatic 45, 3) := by decide +kernel
theorem dX0_bestTurn_68 : decode cX0_bestTurn 68 = .ok (.aload_n 0, 1) := by decide +kernel
theorem dX0_bestTurn_69 : decode cX0_bestTurn 69 = .ok (.getfield 36, 3) := by decide +kernel
theorem dX0_bestTurn_72 : decode cX0_bestTurn 72 = .ok (.aload_n 0, 1) := by decide +kernel
theorem dX0_bestTurn_73 : decode cX0_bestTurn 73 = .ok (.getfield 20, 3) := by decide +kernel
theorem dX0_bestTurn_76 : decode cX0_bestTurn 76 = .ok (.iload_n 1, 1) := by decide +kernel
theorem dX0_bestTurn_77 : decode cX0_bestTurn 77 = .ok (.iconst 1, 1) := by decide +kernel
theorem dX0_bestTurn_78 : decode cX0_bestTurn 78 = .ok (.iadd, 1) := by decide +kernel
theorem dX0_bestTurn_79 : decode cX0_bestTurn 79 = .ok (.aaload, 1) := by decide +kernel
theorem dX0_bestTurn_80 : decode cX0_bestTurn 80 = .ok (.iload_n 3, 1) := by decide +kernel
theorem dX0_bestTurn_81 : decode cX0_bestTurn 81 = .ok (.ifCond .eq 10, 3) := by decide +kernel
theorem dX0_bestTurn_84 : decode cX0_bestTurn 84 = .ok (.aload_n 0, 1) := by decide +kernel
theorem dX0_bestTurn_85 : decode cX0_bestTurn 85 = .ok (.getfield 23, 3) := by decide +kernel
theorem dX0_bestTurn_88 : decode cX0_bestTurn 88 = .ok (.goto 7, 3) := by decide +kernel
theorem dX0_bestTurn_91 : decode cX0_bestTurn 91 = .ok (.aload_n 0, 1) := by decide +kernel
theorem dX0_bestTurn_92 : decode cX0_bestTurn 92 = .ok (.getfield 27, 3) := by decide +kernel
theorem dX0_bestTurn_95 : decode cX0_bestTurn 95 = .ok (.iload 5, 2) := by decide +kernel
theorem dX0_bestTurn_97 : decode cX0_bestTurn 97 = .ok (.invokevirtual 54, 3) := by decide +kernel
theorem dX0_bestTurn_100 : decode cX0_bestTurn 100 = .ok (.pop, 1) := by decide +kernel
theorem dX0_bestTurn_101 : decode cX0_bestTurn 101 = .ok (.aload_n 0, 1) := by decide +kernel
theorem dX0_bestTurn_102 : decode cX0_bestTurn 102 = .ok (.iload_n 1, 1) := by decide +kernel
theorem dX0_bestTurn_103 : decode cX0_bestTurn 103 = .ok (.iconst 1, 1) := by decide +kernel
theorem dX0_bestTurn_104 : decode cX0_bestTurn 104 = .ok (.iadd, 1) := by decide +kernel
theorem dX0_bestTurn_105 : decode cX0_bestTurn 105 = .ok (.iload_n 2, 1) := by decide +kernel
theorem dX0_bestTurn_106 : decode cX0_bestTurn 106 = .ok (.invokevirtual 85, 3) := by decide +kernel
theorem dX0_bestTurn_109 : decode cX0_bestTurn 109 = .ok (.istore 6, 2) := by decide +kernel
theorem dX0_bestTurn_111 : decode cX0_bestTurn 111 = .ok (.iload 5, 2) := by decide +kernel
theorem dX0_bestTurn_113 : decode cX0_bestTurn 113 = .ok (.ifCond .eq 24, 3) := by decide +kernel
theorem dX0_bestTurn_116 : decode cX0_bestTurn 116 = .ok (.iload_n 3, 1) := by decide +kernel
theorem dX0_bestTurn_117 : decode cX0_bestTurn 117 = .ok (.ifCond .eq 13, 3) := by decide +kernel
theorem dX0_bestTurn_120 : decode cX0_bestTurn 120 = .ok (.iload 6, 2) := by decide +kernel
theorem dX0_bestTurn_122 : decode cX0_bestTurn 122 = .ok (.iload 4, 2) := by decide +kernel
theorem dX0_bestTurn_124 : decode cX0_bestTurn 124 = .ok (.if_icmp .le 27, 3) := by decide +kernel
theorem dX0_bestTurn_127 : decode cX0_bestTurn 127 = .ok (.goto 10, 3) := by decide +kernel
theorem dX0_bestTurn_130 : decode cX0_bestTurn 130 = .ok (.iload 6, 2) := by decide +kernel
theorem dX0_bestTurn_132 : decode cX0_bestTurn 132 = .ok (.iload 4, 2) := by decide +kernel
theorem dX0_bestTurn_134 : decode cX0_bestTurn 134 = .ok (.if_icmp .ge 17, 3) := by decide +kernel
theorem dX0_bestTurn_137 : decode cX0_bestTurn 137 = .ok (.iload 6, 2) := by decide +kernel
theorem dX0_bestTurn_139 : decode cX0_bestTurn 139 = .ok (.istore 4, 2) := by decide +kernel
theorem dX0_bestTurn_141 : decode cX0_bestTurn 141 = .ok (.iload_n 1, 1) := by decide +kernel
theorem dX0_bestTurn_142 : decode cX0_bestTurn 142 = .ok (.ifCond .ne 9, 3) := by decide +kernel
theorem dX0_bestTurn_145 : decode cX0_bestTurn 145 = .ok (.aload_n 0, 1) := by decide +kernel
theorem dX0_bestTurn_146 : decode cX0_bestTurn 146 = .ok (.iload 5, 2) := by decide +kernel
theorem dX0_bestTurn_148 : decode cX0_bestTurn 148 = .ok (.putfield 33, 3) := by decide +kernel
theorem dX0_bestTurn_151 : decode cX0_bestTurn 151 = .ok (.iinc 5 1, 3) := by decide +kernel
theorem dX0_bestTurn_154 : decode cX0_bestTurn 154 = .ok (.goto (-113), 3) := by decide +kernel
theorem dX0_bestTurn_157 : decode cX0_bestTurn 157 = .ok (.iload 4, 2) := by decide +kernel
theorem dX0_bestTurn_159 : decode cX0_bestTurn 159 = .ok (.ireturn, 1) := by decide +kernel
theorem dX2_init_0 : decode cX2_init 0 = .ok (.aload_n 0, 1) := by decide +kernel
theorem dX2_init_1 : decode cX2_init 1 = .ok (.invokespecial 3, 3) := by decide +kernel
theorem dX2_init_4 : decode cX2_init 4 = .ok (.aload_n 0, 1) := by decide +kernel
theorem dX2_init_5 : decode cX2_init 5 = .ok (.iconst 4, 1) := by decide +kernel
theorem dX2_init_6 : decode cX2_init 6 = .ok (.bipush 10, 2) := by decide +kernel
theorem dX2_init_8 : decode cX2_init 8 = .ok (.multianewarray 9 2, 4) := by decide +kernel
theorem dX2_init_12 : decode cX2_init 12 = .ok (.putfield 11, 3) := by decide +kernel
theorem dX2_init_15 : decode cX2_init 15 = .ok (.aload_n 0, 1) := by decide +kernel
theorem dX2_init_16 : decode cX2_init 16 = .ok (.bipush 27, 2) := by decide +kernel
theorem dX2_init_18 : decode cX2_init 18 = .ok (.newarray .int, 2) := by decide +kernel
theorem dX2_init_20 : decode cX2_init 20 = .ok (.putfield 16, 3) := by decide +kernel
theorem dX2_init_23 : decode cX2_init 23 = .ok (.aload_n 0, 1) := by decide +kernel
theorem dX2_init_24 : decode cX2_init 24 = .ok (.iconst 3, 1) := by decide +kernel
theorem dX2_init_25 : decode cX2_init 25 = .ok (.newarray .int, 2) := by decide +kernel
theorem dX2_init_27 : decode cX2_init 27 = .ok (.putfield 20, 3) := by decide +kernel
theorem dX2_init_30 : decode cX2_init 30 = .ok (.aload_n 0, 1) := by decide +kernel
theorem dX2_init_31 : decode cX2_init 31 = .ok (.bipush 10, 2) := by decide +kernel
theorem dX2_init_33 : decode cX2_init 33 = .ok (.newarray .int, 2) := by decide +kernel
theorem dX2_init_35 : decode cX2_init 35 = .ok (.putfield 23, 3) := by decide +kernel
theorem dX2_init_38 : decode cX2_init 38 = .ok (.aload_n 0, 1) := by decide +kernel
theorem dX2_init_39 : decode cX2_init 39 = .ok (.iconst 3, 1) := by decide +kernel
theorem dX2_init_40 : decode cX2_init 40 = .ok (.newarray .int, 2) := by decide +kernel
theorem dX2_init_42 : decode cX2_init 42 = .ok (.putfield 26, 3) := by decide +kernel
theorem dX2_init_45 : decode cX2_init 45 = .ok (.aload_n 0, 1) := by decide +kernel
theorem dX2_init_46 : decode cX2_init 46 = .ok (.sipush 1000, 3) := by decide +kernel
theorem dX2_init_49 : decode cX2_init 49 = .ok (.putfield 29, 3) := by decide +kernel
theorem dX2_init_52 : decode cX2_init 52 = .ok (.aload_n 0, 1) := by decide +kernel
theorem dX2_init_53 : decode cX2_init 53 = .ok (.iconst 0, 1) := by decide +kernel
theorem dX2_init_54 : decode cX2_init 54 = .ok (.putfield 33, 3) := by decide +kernel
theorem dX2_init_57 : decode cX2_init 57 = .ok (.aload_n 0, 1) := by decide +kernel
theorem dX2_init_58 : decode cX2_init 58 = .ok (.iconst 0, 1) := by decide +kernel
theorem dX2_init_59 : decode cX2_init 59 = .ok (.putfield 37, 3) := by decide +kernel
theorem dX2_init_62 : decode cX2_init 62 = .ok (.aload_n 0, 1) := by decide +kernel
theorem dX2_init_63 : decode cX2_init 63 = .ok (.iconst 0, 1) := by decide +kernel
theorem dX2_init_64 : decode cX2_init 64 = .ok (.putfield 40, 3) := by decide +kernel
theorem dX2_init_67 : decode cX2_init 67 = .ok (.aload_n 0, 1) := by decide +kernel
theorem dX2_init_68 : decode cX2_init 68 = .ok (.iconst 0, 1) := by decide +kernel
theorem dX2_init_69 : decode cX2_init 69 = .ok (.putfield 43, 3) := by decide +kernel
theorem dX2_init_72 : decode cX2_init 72 = .ok (.aload_n 0, 1) := by decide +kernel
theorem dX2_init_73 : decode cX2_init 73 = .ok (.iconst 0, 1) := by decide +kernel
theorem dX2_init_74 : decode cX2_init 74 = .ok (.putfield 46, 3) := by decide +kernel
theorem dX2_init_77 : decode cX2_init 77 = .ok (.aload_n 0, 1) := by decide +kernel
theorem dX2_init_78 : decode cX2_init 78 = .ok (.aload_n 1, 1) := by decide +kernel
theorem dX2_init_79 : decode cX2_init 79 = .ok (.putfield 49, 3) := by decide +kernel
theorem dX2_init_82 : decode cX2_init 82 = .ok (.return_, 1) := by decide +kernel
theorem dX2_aimFlat_0 : decode cX2_aimFlat 0 = .ok (.aload_n 0, 1) := by decide +kernel
theorem dX2_aimFlat_1 : decode cX2_aimFlat 1 = .ok (.iconst 1, 1) := by decide +kernel
theorem dX2_aimFlat_2 : decode cX2_aimFlat 2 = .ok (.putfield 33, 3) := by decide +kernel
theorem dX2_aimFlat_5 : decode cX2_aimFlat 5 = .ok (.aload_n 0, 1) := by decide +kernel
theorem dX2_aimFlat_6 : decode cX2_aimFlat 6 = .ok (.iload_n 1, 1) := by decide +kernel
theorem dX2_aimFlat_7 : decode cX2_aimFlat 7 = .ok (.putfield 37, 3) := by decide +kernel
theorem dX2_aimFlat_10 : decode cX2_aimFlat 10 = .ok (.iconst 0, 1) := by decide +kernel
theorem dX2_aimFlat_11 : decode cX2_aimFlat 11 = .ok (.istore_n 2, 1) := by decide +kernel
theorem dX2_aimFlat_12 : decode cX2_aimFlat 12 = .ok (.iload_n 2, 1) := by decide +kernel
theorem dX2_aimFlat_13 : decode cX2_aimFlat 13 = .ok (.aload_n 0, 1) := by decide +kernel
theorem dX2_aimFlat_14 : decode cX2_aimFlat 14 = .ok (.getfield 49, 3) := by decide +kernel
theorem dX2_aimFlat_17 : decode cX2_aimFlat 17 = .ok (.getfield 53, 3) := by decide +kernel
theorem dX2_aimFlat_20 : decode cX2_aimFlat 20 = .ok (.if_icmp .ge 20, 3) := by decide +kernel
theorem dX2_aimFlat_23 : decode cX2_aimFlat 23 = .ok (.aload_n 0, 1) := by decide +kernel
theorem dX2_aimFlat_24 : decode cX2_aimFlat 24 = .ok (.getfield 23, 3) := by decide +kernel
theorem dX2_aimFlat_27 : decode cX2_aimFlat 27 = .ok (.iload_n 2, 1) := by decide +kernel
theorem dX2_aimFlat_28 : decode cX2_aimFlat 28 = .ok (.aload_n 0, 1) := by decide +kernel
theorem dX2_aimFlat_29 : decode cX2_aimFlat 29 = .ok (.iload_n 2, 1) := by decide +kernel
theorem dX2_aimFlat_30 : decode cX2_aimFlat 30 = .ok (.invokevirtual 58, 3) := by decide +kernel
theorem dX2_aimFlat_33 : decode cX2_aimFlat 33 = .ok (.iastore, 1) := by decide +kernel
theorem dX2_aimFlat_34 : decode cX2_aimFlat 34 = .ok (.iinc 2 1, 3) := by decide +kernel
theorem dX2_aimFlat_37 : decode cX2_aimFlat 37 = .ok (.goto (-25), 3) := by decide +kernel
theorem dX2_aimFlat_40 : decode cX2_aimFlat 40 = .ok (.return_, 1) := by decide +kernel
theorem dX2_aimHigh_0 : decode cX2_aimHigh 0 = .ok (.aload_n 0, 1) := by decide +kernel
theorem dX2_aimHigh_1 : decode cX2_aimHigh 1 = .ok (.iconst 0, 1) := by decide +kernel
theorem dX2_aimHigh_2 : decode cX2_aimHigh 2 = .ok (.putfield 33, 3) := by decide +kernel
theorem dX2_aimHigh_5 : decode cX2_aimHigh 5 = .ok (.aload_n 0, 1) := by decide +kernel
theorem dX2_aimHigh_6 : decode cX2_aimHigh 6 = .ok (.iload_n 1, 1) := by decide +kernel
theorem dX2_aimHigh_7 : decode cX2_aimHigh 7 = .ok (.putfield 40, 3) := by decide +kernel
theorem dX2_aimHigh_10 : decode cX2_aimHigh 10 = .ok (.aload_n 0, 1) := by decide +kernel
theorem dX2_aimHigh_11 : decode cX2_aimHigh 11 = .ok (.iload_n 2, 1) := by decide +kernel
theorem dX2_aimHigh_12 : decode cX2_aimHigh 12 = .ok (.putfield 43, 3) := by decide +kernel
theorem dX2_aimHigh_15 : decode cX2_aimHigh 15 = .ok (.aload_n 0, 1) := by decide +kernel
theorem dX2_aimHigh_16 : decode cX2_aimHigh 16 = .ok (.aload_n 0, 1) := by decide +kernel
theorem dX2_aimHigh_17 : decode cX2_aimHigh 17 = .ok (.iload_n 1, 1) := by decide +kernel
theorem dX2_aimHigh_18 : decode cX2_aimHigh 18 = .ok (.invokevirtual 62, 3) := by decide +kernel
theorem dX2_aimHigh_21 : decode cX2_aimHigh 21 = .ok (.putfield 46, 3) := by decide +kernel
theorem dX2_aimHigh_24 : decode cX2_aimHigh 24 = .ok (.return_, 1) := by decide +kernel
theorem dX2_isFound_0 : decode cX2_isFound 0 = .ok (.aload_n 0, 1) := by decide +kernel
theorem dX2_isFound_1 : decode cX2_isFound 1 = .ok (.sipush 1000, 3) := by decide +kernel
theorem dX2_isFound_4 : decode cX2_isFound 4 = .ok (.putfield 29, 3) := by decide +kernel
theorem dX2_isFound_7 : decode cX2_isFound 7 = .ok (.aload_n 0, 1) := by decide +kernel
theorem dX2_isFound_8 : decode cX2_isFound 8 = .ok (.getfield 49, 3) := by decide +kernel
theorem dX2_isFound_11 : decode cX2_isFound 11 = .ok (.invokevirtual 65, 3) := by decide +kernel
theorem dX2_isFound_14 : decode cX2_isFound 14 = .ok (.istore_n 2, 1) := by decide +kernel
theorem dX2_isFound_15 : decode cX2_isFound 15 = .ok (.iconst 0, 1) := by decide +kernel
theorem dX2_isFound_16 : decode cX2_isFound 16 = .ok (.istore_n 3, 1) := by decide +kernel
theorem dX2_isFound_17 : decode cX2_isFound 17 = .ok (.iload_n 3, 1) := by decide +kernel
theorem dX2_isFound_18 : decode cX2_isFound 18 = .ok (.iload_n 2, 1) := by decide +kernel
theorem dX2_isFound_19 : decode cX2_isFound 19 = .ok (.if_icmp .ge 29, 3) := by decide +kernel
theorem dX2_isFound_22 : decode cX2_isFound 22 = .ok (.iload_n 3, 1) := by decide +kernel
theorem dX2_isFound_23 : decode cX2_isFound 23 = .ok (.bipush 27, 2) := by decide +kernel
theorem dX2_isFound_25 : decode cX2_isFound 25 = .ok (.if_icmp .ge 23, 3) := by decide +kernel
theorem dX2_isFound_28 : decode cX2_isFound 28 = .ok (.aload_n 0, 1) := by decide +kernel
theorem dX2_isFound_29 : decode cX2_isFound 29 = .ok (.getfield 16, 3) := by decide +kernel
theorem dX2_isFound_32 : decode cX2_isFound 32 = .ok (.iload_n 3, 1) := by decide +kernel
theorem dX2_isFound_33 : decode cX2_isFound 33 = .ok (.aload_n 0, 1) := by decide +kernel
theorem dX2_isFound_34 : decode cX2_isFound 34 = .ok (.getfield 49, 3) := by decide +kernel
theorem dX2_isFound_37 : decode cX2_isFound 37 = .ok (.iload_n 3, 1) := by decide +kernel
theorem dX2_isFound_38 : decode cX2_isFound 38 = .ok (.invokevirtual 69, 3) := by decide +kernel
theorem dX2_isFound_41 : decode cX2_isFound 41 = .ok (.iastore, 1) := by decide +kernel
theorem dX2_isFound_42 : decode cX2_isFound 42 = .ok (.iinc 3 1, 3) := by decide +kernel
theorem dX2_isFound_45 : decode cX2_isFound 45 = .ok (.goto (-28), 3) := by decide +kernel
theorem dX2_isFound_48 : decode cX2_isFound 48 = .ok (.aload_n 0, 1) := by decide +kernel
theorem dX2_isFound_49 : decode cX2_isFound 49 = .ok (.getfield 49, 3) := by decide +kernel
theorem dX2_isFound_52 : decode cX2_isFound 52 = .ok (.getfield 72, 3) := by decide +kernel
theorem dX2_isFound_55 : decode cX2_isFound 55 = .ok (.iconst 0, 1) := by decide +kernel
theorem dX2_isFound_56 : decode cX2_isFound 56 = .ok (.aload_n 0, 1) := by decide +kernel
theorem dX2_isFound_57 : decode cX2_isFound 57 = .ok (.getfield 11, 3) := by decide +kernel
theorem dX2_isFound_60 : decode cX2_isFound 60 = .ok (.iconst 0, 1) := by decide +kernel
theorem dX2_isFound_61 : decode cX2_isFound 61 = .ok (.aaload, 1) := by decide +kernel
theorem dX2_isFound_62 : decode cX2_isFound 62 = .ok (.iconst 0, 1) := by decide +kernel
theorem dX2_isFound_63 : decode cX2_isFound 63 = .ok (.bipush 10, 2) := by decide +kernel
theorem dX2_isFound_65 : decode cX2_isFound 65 = .ok (.invokestatic 75, 3) := by decide +kernel
theorem dX2_isFound_68 : decode cX2_isFound 68 = .ok (.aload_n 0, 1) := by decide +kernel
theorem dX2_isFound_69 : decode cX2_isFound 69 = .ok (.iconst 0, 1) := by decide +kernel
theorem dX2_isFound_70 : decode cX2_isFound 70 = .ok (.iload_n 1, 1) := by decide +kernel
theorem dX2_isFound_71 : decode cX2_isFound 71 = .ok (.iconst 0, 1) := by decide +kernel
theorem dX2_isFound_72 : decode cX2_isFound 72 = .ok (.invokevirtual 81, 3) := by decide +kernel
theorem dX2_isFound_75 : decode cX2_isFound 75 = .ok (.aload_n 0, 1) := by decide +kernel
theorem dX2_isFound_76 : decode cX2_isFound 76 = .ok (.getfield 29, 3) := by decide +kernel
theorem dX2_isFound_79 : decode cX2_isFound 79 = .ok (.sipush 1000, 3) := by decide +kernel
theorem dX2_isFound_82 : decode cX2_isFound 82 = .ok (.if_icmp .eq 7, 3) := by decide +kernel
theorem dX2_isFound_85 : decode cX2_isFound 85 = .ok (.iconst 1, 1) := by decide +kernel
theorem dX2_isFound_86 : decode cX2_isFound 86 = .ok (.goto 4, 3) := by decide +kernel
theorem dX2_isFound_89 : decode cX2_isFound 89 = .ok (.iconst 0, 1) := by decide +kernel
theorem dX2_isFound_90 : decode cX2_isFound 90 = .ok (.ireturn, 1) := by decide +kernel
theorem dX2_seek_0 : decode cX2_seek 0 = .ok (.iload_n 1, 1) := by decide +kernel
theorem dX2_seek_1 : decode cX2_seek 1 = .ok (.iload_n 2, 1) := by decide +kernel
theorem dX2_seek_2 : decode cX2_seek 2 = .ok (.if_icmp .gt 8, 3) := by decide +kernel
theorem dX2_seek_5 : decode cX2_seek 5 = .ok (.iload_n 2, 1) := by decide +kernel
theorem dX2_seek_6 : decode cX2_seek 6 = .ok (.iconst 3, 1) := by decide +kernel
theorem dX2_seek_7 : decode cX2_seek 7 = .ok (.if_icmp .le 4, 3) := by decide +kernel
theorem dX2_seek_10 : decode cX2_seek 10 = .ok (.return_, 1) := by decide +kernel
theorem dX2_seek_11 : decode cX2_seek 11 = .ok (.iload_n 3, 1) := by decide +kernel
theorem dX2_seek_12 : decode cX2_seek 12 = .ok (.aload_n 0, 1) := by decide +kernel
theorem dX2_seek_13 : decode cX2_seek 13 = .ok (.getfield 29, 3) := by decide +kernel
theorem dX2_seek_16 : decode cX2_seek 16 = .ok (.if_icmp .ge 19, 3) := by decide +kernel
theorem dX2_seek_19 : decode cX2_seek 19 = .ok (.aload_n 0, 1) := by decide +kernel
theorem dX2_seek_20 : decode cX2_seek 20 = .ok (.aload_n 0, 1) := by decide +kernel
theorem dX2_seek_21 : decode cX2_seek 21 = .ok (.getfield 11, 3) := by decide +kernel
theorem dX2_seek_24 : decode cX2_seek 24 = .ok (.iload_n 1, 1) := by decide +kernel
theorem dX2_seek_25 : decode cX2_seek 25 = .ok (.aaload, 1) := by decide +kernel
theorem dX2_seek_26 : decode cX2_seek 26 = .ok (.iload_n 2, 1) := by decide +kernel
theorem dX2_seek_27 : decode cX2_seek 27 = .ok (.iload_n 1, 1) := by decide +kernel
theorem dX2_seek_28 : decode cX2_seek 28 = .ok (.isub, 1) := by decide +kernel
theorem dX2_seek_29 : decode cX2_seek 29 = .ok (.invokevirtual 85, 3) := by decide +kernel
theorem dX2_seek_32 : decode cX2_seek 32 = .ok (.ifCond .ne 4, 3) := by decide +kernel
theorem dX2_seek_35 : decode cX2_seek 35 = .ok (.return_, 1) := by decide +kernel
theorem dX2_seek_36 : decode cX2_seek 36 = .ok (.iload_n 1, 1) := by decide +kernel
theorem dX2_seek_37 : decode cX2_seek 37 = .ok (.iload_n 2, 1) := by decide +kernel
theorem dX2_seek_38 : decode cX2_seek 38 = .ok (.if_icmp .ne 23, 3) := by decide +kernel
theorem dX2_seek_41 : decode cX2_seek 41 = .ok (.aload_n 0, 1) := by decide +kernel
theorem dX2_seek_42 : decode cX2_seek 42 = .ok (.iload_n 3, 1) := by decide +kernel
theorem dX2_seek_43 : decode cX2_seek 43 = .ok (.putfield 29, 3) := by decide +kernel
theorem dX2_seek_46 : decode cX2_seek 46 = .ok (.aload_n 0, 1) := by decide +kernel
theorem dX2_seek_47 : decode cX2_seek 47 = .ok (.getfield 20, 3) := by decide +kernel
theorem dX2_seek_50 : decode cX2_seek 50 = .ok (.iconst 0, 1) := by decide +kernel
theorem dX2_seek_51 : decode cX2_seek 51 = .ok (.aload_n 0, 1) := by decide +kernel
theorem dX2_seek_52 : decode cX2_seek 52 = .ok (.getfield 26, 3) := by decide +kernel
theorem dX2_seek_55 : decode cX2_seek 55 = .ok (.iconst 0, 1) := by decide +kernel
theorem dX2_seek_56 : decode cX2_seek 56 = .ok (.iconst 3, 1) := by decide +kernel
theorem dX2_seek_57 : decode cX2_seek 57 = .ok (.invokestatic 75, 3) := by decide +kernel
theorem dX2_seek_60 : decode cX2_seek 60 = .ok (.return_, 1) := by decide +kernel
theorem dX2_seek_61 : decode cX2_seek 61 = .ok (.aload_n 0, 1) := by decide +kernel
theorem dX2_seek_62 : decode cX2_seek 62 = .ok (.getfield 49, 3) := by decide +kernel
theorem dX2_seek_65 : decode cX2_seek 65 = .ok (.invokevirtual 65, 3) := by decide +kernel
theorem dX2_seek_68 : decode cX2_seek 68 = .ok (.istore 4, 2) := by decide +kernel
theorem dX2_seek_70 : decode cX2_seek 70 = .ok (.iconst 0, 1) := by decide +kernel
theorem dX2_seek_71 : decode cX2_seek 71 = .ok (.istore 5, 2) := by decide +kernel
theorem dX2_seek_73 : decode cX2_seek 73 = .ok (.iload 5, 2) := by decide +kernel
theorem dX2_seek_75 : decode cX2_seek 75 = .ok (.iload 4, 2) := by decide +kernel
theorem dX2_seek_77 : decode cX2_seek 77 = .ok (.if_icmp .ge 98, 3) := by decide +kernel
theorem dX2_seek_80 : decode cX2_seek 80 = .ok (.iload 5, 2) := by decide +kernel
theorem dX2_seek_82 : decode cX2_seek 82 = .ok (.bipush 27, 2) := by decide +kernel
theorem dX2_seek_84 : decode cX2_seek 84 = .ok (.if_icmp .ge 91, 3) := by decide +kernel
theorem dX2_seek_87 : decode cX2_seek 87 = .ok (.iload_n 3, 1) := by decide +kernel
theorem dX2_seek_88 : decode cX2_seek 88 = .ok (.aload_n 0, 1) := by decide +kernel
theorem dX2_seek_89 : decode cX2_seek 89 = .ok (.getfield 16, 3) := by decide +kernel
theorem dX2_seek_92 : decode cX2_seek 92 = .ok (.iload 5, 2) := by decide +kernel
theorem dX2_seek_94 : decode cX2_seek 94 = .ok (.iaload, 1) := by decide +kernel
theorem dX2_seek_95 : decode cX2_seek 95 = .ok (.iadd, 1) := by decide +kernel
theorem dX2_seek_96 : decode cX2_seek 96 = .ok (.istore 6, 2) := by decide +kernel
theorem dX2_seek_98 : decode cX2_seek 98 = .ok (.iload 6, 2) := by decide +kernel
theorem dX2_seek_100 : decode cX2_seek 100 = .ok (.aload_n 0, 1) := by decide +kernel
theorem dX2_seek_101 : decode cX2_seek 101 = .ok (.getfield 29, 3) := by decide +kernel
theorem dX2_seek_104 : decode cX2_seek 104 = .ok (.if_icmp .lt 6, 3) := by decide +kernel
theorem dX2_seek_107 : decode cX2_seek 107 = .ok (.goto 62, 3) := by decide +kernel
theorem dX2_seek_110 : decode cX2_seek 110 = .ok (.aload_n 0, 1) := by decide +kernel
theorem dX2_seek_111 : decode cX2_seek 111 = .ok (.getfield 11, 3) := by decide +kernel
theorem dX2_seek_114 : decode cX2_seek 114 = .ok (.iload_n 1, 1) := by decide +kernel
theorem dX2_seek_115 : decode cX2_seek 115 = .ok (.aaload, 1) := by decide +kernel
theorem dX2_seek_116 : decode cX2_seek 116 = .ok (.iconst 0, 1) := by decide +kernel
theorem dX2_seek_117 : decode cX2_seek 117 = .ok (.aload_n 0, 1) := by decide +kernel
theorem dX2_seek_118 : decode cX2_seek 118 = .ok (.getfield 11, 3) := by decide +kernel
theorem dX2_seek_121 : decode cX2_seek 121 = .ok (.iload_n 1, 1) := by decide +kernel
theorem dX2_seek_122 : decode cX2_seek 122 = .ok (.iconst 1, 1) := by decide +kernel
theorem dX2_seek_123 : decode cX2_seek 123 = .ok (.iadd, 1) := by decide +kernel
theorem dX2_seek_124 : decode cX2_seek 124 = .ok (.aaload, 1) := by decide +kernel
theorem dX2_seek_125 : decode cX2_seek 125 = .ok (.iconst 0, 1) := by decide +kernel
theorem dX2_seek_126 : decode cX2_seek 126 = .ok (.bipush 10, 2) := by decide +kernel
theorem dX2_seek_128 : decode cX2_seek 128 = .ok (.invokestatic 75, 3) := by decide +kernel
theorem dX2_seek_131 : decode cX2_seek 131 = .ok (.aload_n 0, 1) := by decide +kernel
theorem dX2_seek_132 : decode cX2_seek 132 = .ok (.aload_n 0, 1) := by decide +kernel
theorem dX2_seek_133 : decode cX2_seek 133 = .ok (.getfield 11, 3) := by decide +kernel
theorem dX2_seek_136 : decode cX2_seek 136 = .ok (.iload_n 1, 1) := by decide +kernel
theorem dX2_seek_137 : decode cX2_seek 137 = .ok (.iconst 1, 1) := by decide +kernel
theorem dX2_seek_138 : decode cX2_seek 138 = .ok (.iadd, 1) := by decide +kernel
theorem dX2_seek_139 : decode cX2_seek 139 = .ok (.aaload, 1) := by decide +kernel
theorem dX2_seek_140 : decode cX2_seek 140 = .ok (.iload 5, 2) := by decide +kernel
theorem dX2_seek_142 : decode cX2_seek 142 = .ok (.invokevirtual 89, 3) := by decide +kernel
theorem dX2_seek_145 : decode cX2_seek 145 = .ok (.ifCond .ne 6, 3) := by decide +kernel
theorem dX2_seek_148 : decode cX2_seek 148 = .ok (.goto 21, 3) := by decide +kernel
theorem dX2_seek_151 : decode cX2_seek 151 = .ok (.aload_n 0, 1) := by decide +kernel
theorem dX2_seek_152 : decode cX2_seek 152 = .ok (.getfield 20, 3) := by decide +kernel
theorem dX2_seek_155 : decode cX2_seek 155 = .ok (.iload_n 1, 1) := by decide +kernel
theorem dX2_seek_156 : decode cX2_seek 156 = .ok (.iload 5, 2) := by decide +kernel
theorem dX2_seek_158 : decode cX2_seek 158 = .ok (.iastore, 1) := by decide +kernel
theorem dX2_seek_159 : decode cX2_seek 159 = .ok (.aload_n 0, 1) := by decide +kernel
theorem dX2_seek_160 : decode cX2_seek 160 = .ok (.iload_n 1, 1) := by decide +kernel
theorem dX2_seek_161 : decode cX2_seek 161 = .ok (.iconst 1, 1) := by decide +kernel
theorem dX2_seek_162 : decode cX2_seek 162 = .ok (.iadd, 1) := by decide +kernel
theorem dX2_seek_163 : decode cX2_seek 163 = .ok (.iload_n 2, 1) := by decide +kernel
theorem dX2_seek_164 : decode cX2_seek 164 = .ok (.iload 6, 2) := by decide +kernel
theorem dX2_seek_166 : decode cX2_seek 166 = .ok (.invokevirtual 81, 3) := by decide +kernel
theorem dX2_seek_169 : decode cX2_seek 169 = .ok (.iinc 5 1, 3) := by decide +kernel
theorem dX2_seek_172 : decode cX2_seek 172 = .ok (.goto (-99), 3) := by decide +kernel
theorem dX2_seek_175 : decode cX2_seek 175 = .ok (.return_, 1) := by decide +kernel
theorem dX2_isPlayedForUse_0 : decode cX2_isPlayedForUse 0 = .ok (.iload_n 2, 1) := by decide +kernel
theorem dX2_isPlayedForUse_1 : decode cX2_isPlayedForUse 1 = .ok (.istore_n 3, 1) := by decide +kernel
theorem dX2_isPlayedForUse_2 : decode cX2_isPlayedForUse 2 = .ok (.iconst 0, 1) := by decide +kernel
theorem dX2_isPlayedForUse_3 : decode cX2_isPlayedForUse 3 = .ok (.istore 4, 2) := by decide +kernel
theorem dX2_isPlayedForUse_5 : decode cX2_isPlayedForUse 5 = .ok (.iload 4, 2) := by decide +kernel
theorem dX2_isPlayedForUse_7 : decode cX2_isPlayedForUse 7 = .ok (.aload_n 0, 1) := by decide +kernel
theorem dX2_isPlayedForUse_8 : decode cX2_isPlayedForUse 8 = .ok (.getfield 49, 3) := by decide +kernel
theorem dX2_isPlayedForUse_11 : decode cX2_isPlayedForUse 11 = .ok (.getfield 92, 3) := by decide +kernel
theorem dX2_isPlayedForUse_14 : decode cX2_isPlayedForUse 14 = .ok (.if_icmp .ge 40, 3) := by decide +kernel
theorem dX2_isPlayedForUse_17 : decode cX2_isPlayedForUse 17 = .ok (.iload_n 3, 1) := by decide +kernel
theorem dX2_isPlayedForUse_18 : decode cX2_isPlayedForUse 18 = .ok (.iconst 3, 1) := by decide +kernel
theorem dX2_isPlayedForUse_19 : decode cX2_isPlayedForUse 19 = .ok (.irem, 1) := by decide +kernel
theorem dX2_isPlayedForUse_20 : decode cX2_isPlayedForUse 20 = .ok (.istore 5, 2) := by decide +kernel
theorem dX2_isPlayedForUse_22 : decode cX2_isPlayedForUse 22 = .ok (.iload 5, 2) := by decide +kernel
theorem dX2_isPlayedForUse_24 : decode cX2_isPlayedForUse 24 = .ok (.ifCond .eq 20, 3) := by decide +kernel
theorem dX2_isPlayedForUse_27 : decode cX2_isPlayedForUse 27 = .ok (.aload_n 0, 1) := by decide +kernel
theorem dX2_isPlayedForUse_28 : decode cX2_isPlayedForUse 28 = .ok (.getfield 49, 3) := by decide +kernel
theorem dX2_isPlayedForUse_31 : decode cX2_isPlayedForUse 31 = .ok (.aload_n 1, 1) := by decide +kernel
theorem dX2_isPlayedForUse_32 : decode cX2_isPlayedForUse 32 = .ok (.iload 4, 2) := by decide +kernel
theorem dX2_isPlayedForUse_34 : decode cX2_isPlayedForUse 34 = .ok (.iload 5, 2) := by decide +kernel
theorem dX2_isPlayedForUse_36 : decode cX2_isPlayedForUse 36 = .ok (.invokevirtual 95, 3) := by decide +kernel
theorem dX2_isPlayedForUse_39 : decode cX2_isPlayedForUse 39 = .ok (.ifCond .ne 5, 3) := by decide +kernel
theorem dX2_isPlayedForUse_42 : decode cX2_isPlayedForUse 42 = .ok (.iconst 0, 1) := by decide +kernel
theorem dX2_isPlayedForUse_43 : decode cX2_isPlayedForUse 43 = .ok (.ireturn, 1) := by decide +kernel
theorem dX2_isPlayedForUse_44 : decode cX2_isPlayedForUse 44 = .ok (.iload_n 3, 1) := by decide +kernel
theorem dX2_isPlayedForUse_45 : decode cX2_isPlayedForUse 45 = .ok (.iconst 3, 1) := by decide +kernel
theorem dX2_isPlayedForUse_46 : decode cX2_isPlayedForUse 46 = .ok (.idiv, 1) := by decide +kernel
theorem dX2_isPlayedForUse_47 : decode cX2_isPlayedForUse 47 = .ok (.istore_n 3, 1) := by decide +kernel
theorem dX2_isPlayedForUse_48 : decode cX2_isPlayedForUse 48 = .ok (.iinc 4 1, 3) := by decide +kernel
theorem dX2_isPlayedForUse_51 : decode cX2_isPlayedForUse 51 = .ok (.goto (-46), 3) := by decide +kernel
theorem dX2_isPlayedForUse_54 : decode cX2_isPlayedForUse 54 = .ok (.iconst 1, 1) := by decide +kernel
theorem dX2_isPlayedForUse_55 : decode cX2_isPlayedForUse 55 = .ok (.ireturn, 1) := by decide +kernel
theorem dX2_isWithinReach_0 : decode cX2_isWithinReach 0 = .ok (.aload_n 0, 1) := by decide +kernel
theorem dX2_isWithinReach_1 : decode cX2_isWithinReach 1 = .ok (.getfield 33, 3) := by decide +kernel
theorem dX2_isWithinReach_4 : decode cX2_isWithinReach 4 = .ok (.ifCond .ne 29, 3) := by decide +kernel
theorem dX2_isWithinReach_7 : decode cX2_isWithinReach 7 = .ok (.aload_n 1, 1) := by decide +kernel
theorem dX2_isWithinReach_8 : decode cX2_isWithinReach 8 = .ok (.aload_n 0, 1) := by decide +kernel
theorem dX2_isWithinReach_9 : decode cX2_isWithinReach 9 = .ok (.getfield 40, 3) := by decide +kernel
theorem dX2_isWithinReach_12 : decode cX2_isWithinReach 12 = .ok (.iaload, 1) := by decide +kernel
theorem dX2_isWithinReach_13 : decode cX2_isWithinReach 13 = .ok (.aload_n 0, 1) := by decide +kernel
theorem dX2_isWithinReach_14 : decode cX2_isWithinReach 14 = .ok (.getfield 46, 3) := by decide +kernel
theorem dX2_isWithinReach_17 : decode cX2_isWithinReach 17 = .ok (.iload_n 2, 1) := by decide +kernel
theorem dX2_isWithinReach_18 : decode cX2_isWithinReach 18 = .ok (.imul, 1) := by decide +kernel
theorem dX2_isWithinReach_19 : decode cX2_isWithinReach 19 = .ok (.iadd, 1) := by decide +kernel
theorem dX2_isWithinReach_20 : decode cX2_isWithinReach 20 = .ok (.aload_n 0, 1) := by decide +kernel
theorem dX2_isWithinReach_21 : decode cX2_isWithinReach 21 = .ok (.getfield 43, 3) := by decide +kernel
theorem dX2_isWithinReach_24 : decode cX2_isWithinReach 24 = .ok (.if_icmp .lt 7, 3) := by decide +kernel
theorem dX2_isWithinReach_27 : decode cX2_isWithinReach 27 = .ok (.iconst 1, 1) := by decide +kernel
theorem dX2_isWithinReach_28 : decode cX2_isWithinReach 28 = .ok (.goto 4, 3) := by decide +kernel
theorem dX2_isWithinReach_31 : decode cX2_isWithinReach 31 = .ok (.iconst 0, 1) := by decide +kernel
theorem dX2_isWithinReach_32 : decode cX2_isWithinReach 32 = .ok (.ireturn, 1) := by decide +kernel
theorem dX2_isWithinReach_33 : decode cX2_isWithinReach 33 = .ok (.iconst 0, 1) := by decide +kernel
theorem dX2_isWithinReach_34 : decode cX2_isWithinReach 34 = .ok (.istore_n 3, 1) := by decide +kernel
theorem dX2_isWithinReach_35 : decode cX2_isWithinReach 35 = .ok (.iload_n 3, 1) := by decide +kernel
theorem dX2_isWithinReach_36 : decode cX2_isWithinReach 36 = .ok (.aload_n 0, 1) := by decide +kernel
theorem dX2_isWithinReach_37 : decode cX2_isWithinReach 37 = .ok (.getfield 49, 3) := by decide +kernel
theorem dX2_isWithinReach_40 : decode cX2_isWithinReach 40 = .ok (.getfield 53, 3) := by decide +kernel
theorem dX2_isWithinReach_43 : decode cX2_isWithinReach 43 = .ok (.if_icmp .ge 37, 3) := by decide +kernel
theorem dX2_isWithinReach_46 : decode cX2_isWithinReach 46 = .ok (.aload_n 0, 1) := by decide +kernel
theorem dX2_isWithinReach_47 : decode cX2_isWithinReach 47 = .ok (.getfield 37, 3) := by decide +kernel
theorem dX2_isWithinReach_50 : decode cX2_isWithinReach 50 = .ok (.iload_n 3, 1) := by decide +kernel
theorem dX2_isWithinReach_51 : decode cX2_isWithinReach 51 = .ok (.ishr, 1) := by decide +kernel
theorem dX2_isWithinReach_52 : decode cX2_isWithinReach 52 = .ok (.iconst 1, 1) := by decide +kernel
theorem dX2_isWithinReach_53 : decode cX2_isWithinReach 53 = .ok (.iand, 1) := by decide +kernel
theorem dX2_isWithinReach_54 : decode cX2_isWithinReach 54 = .ok (.iconst 1, 1) := by decide +kernel
theorem dX2_isWithinReach_55 : decode cX2_isWithinReach 55 = .ok (.if_icmp .ne 19, 3) := by decide +kernel
theorem dX2_isWithinReach_58 : decode cX2_isWithinReach 58 = .ok (.aload_n 1, 1) := by decide +kernel
theorem dX2_isWithinReach_59 : decode cX2_isWithinReach 59 = .ok (.iload_n 3, 1) := by decide +kernel
theorem dX2_isWithinReach_60 : decode cX2_isWithinReach 60 = .ok (.iaload, 1) := by decide +kernel
theorem dX2_isWithinReach_61 : decode cX2_isWithinReach 61 = .ok (.aload_n 0, 1) := by decide +kernel
theorem dX2_isWithinReach_62 : decode cX2_isWithinReach 62 = .ok (.getfield 23, 3) := by decide +kernel
theorem dX2_isWithinReach_65 : decode cX2_isWithinReach 65 = .ok (.iload_n 3, 1) := by decide +kernel
theorem dX2_isWithinReach_66 : decode cX2_isWithinReach 66 = .ok (.iaload, 1) := by decide +kernel
theorem dX2_isWithinReach_67 : decode cX2_isWithinReach 67 = .ok (.iload_n 2, 1) := by decide +kernel
theorem dX2_isWithinReach_68 : decode cX2_isWithinReach 68 = .ok (.imul, 1) := by decide +kernel
theorem dX2_isWithinReach_69 : decode cX2_isWithinReach 69 = .ok (.if_icmp .le 5, 3) := by decide +kernel
theorem dX2_isWithinReach_72 : decode cX2_isWithinReach 72 = .ok (.iconst 0, 1) := by decide +kernel
theorem dX2_isWithinReach_73 : decode cX2_isWithinReach 73 = .ok (.ireturn, 1) := by decide +kernel
theorem dX2_isWithinReach_74 : decode cX2_isWithinReach 74 = .ok (.iinc 3 1, 3) := by decide +kernel
theorem dX2_isWithinReach_77 : decode cX2_isWithinReach 77 = .ok (.goto (-42), 3) := by decide +kernel
theorem dX2_isWithinReach_80 : decode cX2_isWithinReach 80 = .ok (.iconst 1, 1) := by decide +kernel
theorem dX2_isWithinReach_81 : decode cX2_isWithinReach 81 = .ok (.ireturn, 1) := by decide +kernel
theorem dX2_mostTakenFrom_0 : decode cX2_mostTakenFrom 0 = .ok (.iconst 0, 1) := by decide +kernel
theorem dX2_mostTakenFrom_1 : decode cX2_mostTakenFrom 1 = .ok (.istore_n 2, 1) := by decide +kernel
theorem dX2_mostTakenFrom_2 : decode cX2_mostTakenFrom 2 = .ok (.iconst 0, 1) := by decide +kernel
theorem dX2_mostTakenFrom_3 : decode cX2_mostTakenFrom 3 = .ok (.istore_n 3, 1) := by decide +kernel
theorem dX2_mostTakenFrom_4 : decode cX2_mostTakenFrom 4 = .ok (.iload_n 3, 1) := by decide +kernel
theorem dX2_mostTakenFrom_5 : decode cX2_mostTakenFrom 5 = .ok (.aload_n 0, 1) := by decide +kernel
theorem dX2_mostTakenFrom_6 : decode cX2_mostTakenFrom 6 = .ok (.getfield 49, 3) := by decide +kernel
theorem dX2_mostTakenFrom_9 : decode cX2_mostTakenFrom 9 = .ok (.getfield 92, 3) := by decide +kernel
theorem dX2_mostTakenFrom_12 : decode cX2_mostTakenFrom 12 = .ok (.if_icmp .ge 18, 3) := by decide +kernel
theorem dX2_mostTakenFrom_15 : decode cX2_mostTakenFrom 15 = .ok (.iload_n 2, 1) := by decide +kernel
theorem dX2_mostTakenFrom_16 : decode cX2_mostTakenFrom 16 = .ok (.aload_n 0, 1) := by decide +kernel
theorem dX2_mostTakenFrom_17 : decode cX2_mostTakenFrom 17 = .ok (.iload_n 3, 1) := by decide +kernel
theorem dX2_mostTakenFrom_18 : decode cX2_mostTakenFrom 18 = .ok (.iload_n 1, 1) := by decide +kernel
theorem dX2_mostTakenFrom_19 : decode cX2_mostTakenFrom 19 = .ok (.invokevirtual 99, 3) := by decide +kernel
theorem dX2_mostTakenFrom_22 : decode cX2_mostTakenFrom 22 = .ok (.iadd, 1) := by decide +kernel
theorem dX2_mostTakenFrom_23 : decode cX2_mostTakenFrom 23 = .ok (.istore_n 2, 1) := by decide +kernel
theorem dX2_mostTakenFrom_24 : decode cX2_mostTakenFrom 24 = .ok (.iinc 3 1, 3) := by decide +kernel
theorem dX2_mostTakenFrom_27 : decode cX2_mostTakenFrom 27 = .ok (.goto (-23), 3) := by decide +kernel
theorem dX2_mostTakenFrom_30 : decode cX2_mostTakenFrom 30 = .ok (.iload_n 2, 1) := by decide +kernel
theorem dX2_mostTakenFrom_31 : decode cX2_mostTakenFrom 31 = .ok (.ireturn, 1) := by decide +kernel
theorem dX2_mostTakenBy_0 : decode cX2_mostTakenBy 0 = .ok (.aload_n 0, 1) := by decide +kernel
theorem dX2_mostTakenBy_1 : decode cX2_mostTakenBy 1 = .ok (.getfield 49, 3) := by decide +kernel
theorem dX2_mostTakenBy_4 : decode cX2_mostTakenBy 4 = .ok (.iload_n 2, 1) := by decide +kernel
theorem dX2_mostTakenBy_5 : decode cX2_mostTakenBy 5 = .ok (.invokevirtual 103, 3) := by decide +kernel
theorem dX2_mostTakenBy_8 : decode cX2_mostTakenBy 8 = .ok (.ifCond .eq 28, 3) := by decide +kernel
theorem dX2_mostTakenBy_11 : decode cX2_mostTakenBy 11 = .ok (.aload_n 0, 1) := by decide +kernel
theorem dX2_mostTakenBy_12 : decode cX2_mostTakenBy 12 = .ok (.getfield 49, 3) := by decide +kernel
theorem dX2_mostTakenBy_15 : decode cX2_mostTakenBy 15 = .ok (.iload_n 1, 1) := by decide +kernel
theorem dX2_mostTakenBy_16 : decode cX2_mostTakenBy 16 = .ok (.iload_n 2, 1) := by decide +kernel
theorem dX2_mostTakenBy_17 : decode cX2_mostTakenBy 17 = .ok (.invokevirtual 107, 3) := by decide +kernel
theorem dX2_mostTakenBy_20 : decode cX2_mostTakenBy 20 = .ok (.ifCond .eq 16, 3) := by decide +kernel
theorem dX2_mostTakenBy_23 : decode cX2_mostTakenBy 23 = .ok (.aload_n 0, 1) := by decide +kernel
theorem dX2_mostTakenBy_24 : decode cX2_mostTakenBy 24 = .ok (.getfield 49, 3) := by decide +kernel
theorem dX2_mostTakenBy_27 : decode cX2_mostTakenBy 27 = .ok (.iload_n 1, 1) := by decide +kernel
theorem dX2_mostTakenBy_28 : decode cX2_mostTakenBy 28 = .ok (.iload_n 2, 1) := by decide +kernel
theorem dX2_mostTakenBy_29 : decode cX2_mostTakenBy 29 = .ok (.iconst 2, 1) := by decide +kernel
theorem dX2_mostTakenBy_30 : decode cX2_mostTakenBy 30 = .ok (.invokevirtual 111, 3) := by decide +kernel
theorem dX2_mostTakenBy_33 : decode cX2_mostTakenBy 33 = .ok (.goto 4, 3) := by decide +kernel
theorem dX2_mostTakenBy_36 : decode cX2_mostTakenBy 36 = .ok (.iconst 0, 1) := by decide +kernel
theorem dX2_mostTakenBy_37 : decode cX2_mostTakenBy 37 = .ok (.ireturn, 1) := by decide +kernel
theorem dX2_mostGainedBy_0 : decode cX2_mostGainedBy 0 = .ok (.iconst 0, 1) := by decide +kernel
theorem dX2_mostGainedBy_1 : decode cX2_mostGainedBy 1 = .ok (.istore_n 2, 1) := by decide +kernel
theorem dX2_mostGainedBy_2 : decode cX2_mostGainedBy 2 = .ok (.iconst 0, 1) := by decide +kernel
theorem dX2_mostGainedBy_3 : decode cX2_mostGainedBy 3 = .ok (.istore_n 3, 1) := by decide +kernel
theorem dX2_mostGainedBy_4 : decode cX2_mostGainedBy 4 = .ok (.iload_n 3, 1) := by decide +kernel
theorem dX2_mostGainedBy_5 : decode cX2_mostGainedBy 5 = .ok (.aload_n 0, 1) := by decide +kernel
theorem dX2_mostGainedBy_6 : decode cX2_mostGainedBy 6 = .ok (.getfield 49, 3) := by decide +kernel
theorem dX2_mostGainedBy_9 : decode cX2_mostGainedBy 9 = .ok (.getfield 92, 3) := by decide +kernel
theorem dX2_mostGainedBy_12 : decode cX2_mostGainedBy 12 = .ok (.if_icmp .ge 60, 3) := by decide +kernel
theorem dX2_mostGainedBy_15 : decode cX2_mostGainedBy 15 = .ok (.aload_n 0, 1) := by decide +kernel
theorem dX2_mostGainedBy_16 : decode cX2_mostGainedBy 16 = .ok (.iload_n 3, 1) := by decide +kernel
theorem dX2_mostGainedBy_17 : decode cX2_mostGainedBy 17 = .ok (.iload_n 1, 1) := by decide +kernel
theorem dX2_mostGainedBy_18 : decode cX2_mostGainedBy 18 = .ok (.iconst 1, 1) := by decide +kernel
theorem dX2_mostGainedBy_19 : decode cX2_mostGainedBy 19 = .ok (.isub, 1) := by decide +kernel
theorem dX2_mostGainedBy_20 : decode cX2_mostGainedBy 20 = .ok (.invokevirtual 99, 3) := by decide +kernel
theorem dX2_mostGainedBy_23 : decode cX2_mostGainedBy 23 = .ok (.istore 4, 2) := by decide +kernel
theorem dX2_mostGainedBy_25 : decode cX2_mostGainedBy 25 = .ok (.aload_n 0, 1) := by decide +kernel
theorem dX2_mostGainedBy_26 : decode cX2_mostGainedBy 26 = .ok (.iload_n 3, 1) := by decide +kernel
theorem dX2_mostGainedBy_27 : decode cX2_mostGainedBy 27 = .ok (.iload_n 1, 1) := by decide +kernel
theorem dX2_mostGainedBy_28 : decode cX2_mostGainedBy 28 = .ok (.iconst 1, 1) := by decide +kernel
theorem dX2_mostGainedBy_29 : decode cX2_mostGainedBy 29 = .ok (.iadd, 1) := by decide +kernel
theorem dX2_mostGainedBy_30 : decode cX2_mostGainedBy 30 = .ok (.invokevirtual 99, 3) := by decide +kernel
theorem dX2_mostGainedBy_33 : decode cX2_mostGainedBy 33 = .ok (.istore 5, 2) := by decide +kernel
theorem dX2_mostGainedBy_35 : decode cX2_mostGainedBy 35 = .ok (.iload_n 2, 1) := by decide +kernel
theorem dX2_mostGainedBy_36 : decode cX2_mostGainedBy 36 = .ok (.iload_n 1, 1) := by decide +kernel
theorem dX2_mostGainedBy_37 : decode cX2_mostGainedBy 37 = .ok (.aload_n 0, 1) := by decide +kernel
theorem dX2_mostGainedBy_38 : decode cX2_mostGainedBy 38 = .ok (.getfield 49, 3) := by decide +kernel
theorem dX2_mostGainedBy_41 : decode cX2_mostGainedBy 41 = .ok (.getfield 115, 3) := by decide +kernel
theorem dX2_mostGainedBy_44 : decode cX2_mostGainedBy 44 = .ok (.iload_n 3, 1) := by decide +kernel
theorem dX2_mostGainedBy_45 : decode cX2_mostGainedBy 45 = .ok (.iaload, 1) := by decide +kernel
theorem dX2_mostGainedBy_46 : decode cX2_mostGainedBy 46 = .ok (.if_icmp .ne 11, 3) := by decide +kernel
theorem dX2_mostGainedBy_49 : decode cX2_mostGainedBy 49 = .ok (.iload 4, 2) := by decide +kernel
theorem dX2_mostGainedBy_51 : decode cX2_mostGainedBy 51 = .ok (.iload 5, 2) := by decide +kernel
theorem dX2_mostGainedBy_53 : decode cX2_mostGainedBy 53 = .ok (.iadd, 1) := by decide +kernel
theorem dX2_mostGainedBy_54 : decode cX2_mostGainedBy 54 = .ok (.goto 10, 3) := by decide +kernel
theorem dX2_mostGainedBy_57 : decode cX2_mostGainedBy 57 = .ok (.iload 4, 2) := by decide +kernel
theorem dX2_mostGainedBy_59 : decode cX2_mostGainedBy 59 = .ok (.iload 5, 2) := by decide +kernel
theorem dX2_mostGainedBy_61 : decode cX2_mostGainedBy 61 = .ok (.invokestatic 118, 3) := by decide +kernel
theorem dX2_mostGainedBy_64 : decode cX2_mostGainedBy 64 = .ok (.iadd, 1) := by decide +kernel
theorem dX2_mostGainedBy_65 : decode cX2_mostGainedBy 65 = .ok (.istore_n 2, 1) := by decide +kernel
theorem dX2_mostGainedBy_66 : decode cX2_mostGainedBy 66 = .ok (.iinc 3 1, 3) := by decide +kernel
theorem dX2_mostGainedBy_69 : decode cX2_mostGainedBy 69 = .ok (.goto (-65), 3) := by decide +kernel
theorem dX2_mostGainedBy_72 : decode cX2_mostGainedBy 72 = .ok (.iload_n 2, 1) := by decide +kernel
theorem dX2_mostGainedBy_73 : decode cX2_mostGainedBy 73 = .ok (.ireturn, 1) := by decide +kernel
theorem dJ6_bitCount_0f7a4_0 : decode cJ6_bitCount_0f7a4 0 = .ok (.iload_n 0, 1) := by decide +kernel
theorem dJ6_bitCount_0f7a4_1 : decode cJ6_bitCount_0f7a4 1 = .ok (.iload_n 0, 1) := by decide +kernel
theorem dJ6_bitCount_0f7a4_2 : decode cJ6_bitCount_0f7a4 2 = .ok (.iconst 1, 1) := by decide +kernel
theorem dJ6_bitCount_0f7a4_3 : decode cJ6_bitCount_0f7a4 3 = .ok (.iushr, 1) := by decide +kernel
theorem dJ6_bitCount_0f7a4_4 : decode cJ6_bitCount_0f7a4 4 = .ok (.ldc_w 265, 3) := by decide +kernel
theorem dJ6_bitCount_0f7a4_7 : decode cJ6_bitCount_0f7a4 7 = .ok (.iand, 1) := by decide +kernel
theorem dJ6_bitCount_0f7a4_8 : decode cJ6_bitCount_0f7a4 8 = .ok (.isub, 1) := by decide +kernel
theorem dJ6_bitCount_0f7a4_9 : decode cJ6_bitCount_0f7a4 9 = .ok (.istore_n 0, 1) := by decide +kernel
theorem dJ6_bitCount_0f7a4_10 : decode cJ6_bitCount_0f7a4 10 = .ok (.iload_n 0, 1) := by decide +kernel
theorem dJ6_bitCount_0f7a4_11 : decode cJ6_bitCount_0f7a4 11 = .ok (.ldc_w 266, 3) := by decide +kernel
theorem dJ6_bitCount_0f7a4_14 : decode cJ6_bitCount_0f7a4 14 = .ok (.iand, 1) := by decide +kernel
theorem dJ6_bitCount_0f7a4_15 : decode cJ6_bitCount_0f7a4 15 = .ok (.iload_n 0, 1) := by decide +kernel
theorem dJ6_bitCount_0f7a4_16 : decode cJ6_bitCount_0f7a4 16 = .ok (.iconst 2, 1) := by decide +kernel
theorem dJ6_bitCount_0f7a4_17 : decode cJ6_bitCount_0f7a4 17 = .ok (.iushr, 1) := by decide +kernel
theorem dJ6_bitCount_0f7a4_18 : decode cJ6_bitCount_0f7a4 18 = .ok (.ldc_w 266, 3) := by decide +kernel
theorem dJ6_bitCount_0f7a4_21 : decode cJ6_bitCount_0f7a4 21 = .ok (.iand, 1) := by decide +kernel
theorem dJ6_bitCount_0f7a4_22 : decode cJ6_bitCount_0f7a4 22 = .ok (.iadd, 1) := by decide +kernel
theorem dJ6_bitCount_0f7a4_23 : decode cJ6_bitCount_0f7a4 23 = .ok (.istore_n 0, 1) := by decide +kernel
theorem dJ6_bitCount_0f7a4_24 : decode cJ6_bitCount_0f7a4 24 = .ok (.iload_n 0, 1) := by decide +kernel
theorem dJ6_bitCount_0f7a4_25 : decode cJ6_bitCount_0f7a4 25 = .ok (.iload_n 0, 1) := by decide +kernel
theorem dJ6_bitCount_0f7a4_26 : decode cJ6_bitCount_0f7a4 26 = .ok (.iconst 4, 1) := by decide +kernel
theorem dJ6_bitCount_0f7a4_27 : decode cJ6_bitCount_0f7a4 27 = .ok (.iushr, 1) := by decide +kernel
theorem dJ6_bitCount_0f7a4_28 : decode cJ6_bitCount_0f7a4 28 = .ok (.iadd, 1) := by decide +kernel
theorem dJ6_bitCount_0f7a4_29 : decode cJ6_bitCount_0f7a4 29 = .ok (.ldc_w 267, 3) := by decide +kernel
theorem dJ6_bitCount_0f7a4_32 : decode cJ6_bitCount_0f7a4 32 = .ok (.iand, 1) := by decide +kernel
theorem dJ6_bitCount_0f7a4_33 : decode cJ6_bitCount_0f7a4 33 = .ok (.istore_n 0, 1) := by decide +kernel
theorem dJ6_bitCount_0f7a4_34 : decode cJ6_bitCount_0f7a4 34 = .ok (.iload_n 0, 1) := by decide +kernel
theorem dJ6_bitCount_0f7a4_35 : decode cJ6_bitCount_0f7a4 35 = .ok (.iload_n 0, 1) := by decide +kernel
theorem dJ6_bitCount_0f7a4_36 : decode cJ6_bitCount_0f7a4 36 = .ok (.bipush 8, 2) := by decide +kernel
theorem dJ6_bitCount_0f7a4_38 : decode cJ6_bitCount_0f7a4 38 = .ok (.iushr, 1) := by decide +kernel
theorem dJ6_bitCount_0f7a4_39 : decode cJ6_bitCount_0f7a4 39 = .ok (.iadd, 1) := by decide +kernel
theorem dJ6_bitCount_0f7a4_40 : decode cJ6_bitCount_0f7a4 40 = .ok (.istore_n 0, 1) := by decide +kernel
theorem dJ6_bitCount_0f7a4_41 : decode cJ6_bitCount_0f7a4 41 = .ok (.iload_n 0, 1) := by decide +kernel
theorem dJ6_bitCount_0f7a4_42 : decode cJ6_bitCount_0f7a4 42 = .ok (.iload_n 0, 1) := by decide +kernel
theorem dJ6_bitCount_0f7a4_43 : decode cJ6_bitCount_0f7a4 43 = .ok (.bipush 16, 2) := by decide +kernel
theorem dJ6_bitCount_0f7a4_45 : decode cJ6_bitCount_0f7a4 45 = .ok (.iushr, 1) := by decide +kernel
theorem dJ6_bitCount_0f7a4_46 : decode cJ6_bitCount_0f7a4 46 = .ok (.iadd, 1) := by decide +kernel
theorem dJ6_bitCount_0f7a4_47 : decode cJ6_bitCount_0f7a4 47 = .ok (.istore_n 0, 1) := by decide +kernel
theorem dJ6_bitCount_0f7a4_48 : decode cJ6_bitCount_0f7a4 48 = .ok (.iload_n 0, 1) := by decide +kernel
theorem dJ6_bitCount_0f7a4_49 : decode cJ6_bitCount_0f7a4 49 = .ok (.bipush 63, 2) := by decide +kernel
theorem dJ6_bitCount_0f7a4_51 : decode cJ6_bitCount_0f7a4 51 = .ok (.iand, 1) := by decide +kernel
theorem dJ6_bitCount_0f7a4_52 : decode cJ6_bitCount_0f7a4 52 = .ok (.ireturn, 1) := by decide +kernel
theorem dJ9_abs_0f7a4_0 : decode cJ9_abs_0f7a4 0 = .ok (.iload_n 0, 1) := by decide +kernel
theorem dJ9_abs_0f7a4_1 : decode cJ9_abs_0f7a4 1 = .ok (.ifCond .ge 8, 3) := by decide +kernel
theorem dJ9_abs_0f7a4_4 : decode cJ9_abs_0f7a4 4 = .ok (.iload_n 0, 1) := by decide +kernel
theorem dJ9_abs_0f7a4_5 : decode cJ9_abs_0f7a4 5 = .ok (.ineg, 1) := by decide +kernel
theorem dJ9_abs_0f7a4_6 : decode cJ9_abs_0f7a4 6 = .ok (.goto 4, 3) := by decide +kernel
theorem dJ9_abs_0f7a4_9 : decode cJ9_abs_0f7a4 9 = .ok (.iload_n 0, 1) := by decide +kernel
theorem dJ9_abs_0f7a4_10 : decode cJ9_abs_0f7a4 10 = .ok (.ireturn, 1) := by decide +kernel
theorem dJ9_max_7cf53_0 : decode cJ9_max_7cf53 0 = .ok (.iload_n 0, 1) := by decide +kernel
theorem dJ9_max_7cf53_1 : decode cJ9_max_7cf53 1 = .ok (.iload_n 1, 1) := by decide +kernel
theorem dJ9_max_7cf53_2 : decode cJ9_max_7cf53 2 = .ok (.if_icmp .lt 7, 3) := by decide +kernel
theorem dJ9_max_7cf53_5 : decode cJ9_max_7cf53 5 = .ok (.iload_n 0, 1) := by decide +kernel
theorem dJ9_max_7cf53_6 : decode cJ9_max_7cf53 6 = .ok (.goto 4, 3) := by decide +kernel
theorem dJ9_max_7cf53_9 : decode cJ9_max_7cf53 9 = .ok (.iload_n 1, 1) := by decide +kernel
theorem dJ9_max_7cf53_10 : decode cJ9_max_7cf53 10 = .ok (.ireturn, 1) := by decide +kernel
theorem dJ9_min_7cf53_0 : decode cJ9_min_7cf53 0 = .ok (.iload_n 0, 1) := by decide +kernel
theorem dJ9_min_7cf53_1 : decode cJ9_min_7cf53 1 = .ok (.iload_n 1, 1) := by decide +kernel
theorem dJ9_min_7cf53_2 : decode cJ9_min_7cf53 2 = .ok (.if_icmp .gt 7, 3) := by decide +kernel
theorem dJ9_min_7cf53_5 : decode cJ9_min_7cf53 5 = .ok (.iload_n 0, 1) := by decide +kernel
theorem dJ9_min_7cf53_6 : decode cJ9_min_7cf53 6 = .ok (.goto 4, 3) := by decide +kernel
theorem dJ9_min_7cf53_9 : decode cJ9_min_7cf53 9 = .ok (.iload_n 1, 1) := by decide +kernel
theorem dJ9_min_7cf53_10 : decode cJ9_min_7cf53 10 = .ok (.ireturn, 1) := by decide +kernel
end
section
theorem dX5_init_0 : decode cX5_init 0 = .ok (.aload_n 0, 1) := by decide +kernel
theorem dX5_init_1 : decode cX5_init 1 = .ok (.invokespecial 1, 3) := by decide +kernel
theorem dX5_init_4 : decode cX5_init 4 = .ok (.aload_n 0, 1) := by decide +kernel
theorem dX5_init_5 : decode cX5_init 5 = .ok (.new 7, 3) := by decide +kernel
theorem dX5_init_8 : decode cX5_init 8 = .ok (.dup, 1) := by decide +kernel
theorem dX5_init_9 : decode cX5_init 9 = .ok (.bipush 6, 2) := by decide +kernel
theorem dX5_init_11 : decode cX5_init 11 = .ok (.bipush 40, 2) := by decide +kernel
theorem dX5_init_13 : decode cX5_init 13 = .ok (.invokespecial 11, 3) := by decide +kernel
theorem dX5_init_16 : decode cX5_init 16 = .ok (.putfield 14, 3) := by decide +kernel
theorem dX5_init_19 : decode cX5_init 19 = .ok (.aload_n 0, 1) := by decide +kernel
theorem dX5_init_20 : decode cX5_init 20 = .ok (.new 7, 3) := by decide +kernel
theorem dX5_init_23 : decode cX5_init 23 = .ok (.dup, 1) := by decide +kernel
theorem dX5_init_24 : decode cX5_init 24 = .ok (.iconst 4, 1) := by decide +kernel
theorem dX5_init_25 : decode cX5_init 25 = .ok (.bipush 80, 2) := by decide +kernel
theorem dX5_init_27 : decode cX5_init 27 = .ok (.invokespecial 11, 3) := by decide +kernel
theorem dX5_init_30 : decode cX5_init 30 = .ok (.putfield 18, 3) := by decide +kernel
theorem dX5_init_33 : decode cX5_init 33 = .ok (.aload_n 0, 1) := by decide +kernel
theorem dX5_init_34 : decode cX5_init 34 = .ok (.new 21, 3) := by decide +kernel
theorem dX5_init_37 : decode cX5_init 37 = .ok (.dup, 1) := by decide +kernel
theorem dX5_init_38 : decode cX5_init 38 = .ok (.invokespecial 23, 3) := by decide +kernel
theorem dX5_init_41 : decode cX5_init 41 = .ok (.putfield 24, 3) := by decide +kernel
theorem dX5_init_44 : decode cX5_init 44 = .ok (.aload_n 0, 1) := by decide +kernel
theorem dX5_init_45 : decode cX5_init 45 = .ok (.new 28, 3) := by decide +kernel
theorem dX5_init_48 : decode cX5_init 48 = .ok (.dup, 1) := by decide +kernel
theorem dX5_init_49 : decode cX5_init 49 = .ok (.invokespecial 30, 3) := by decide +kernel
theorem dX5_init_52 : decode cX5_init 52 = .ok (.putfield 31, 3) := by decide +kernel
theorem dX5_init_55 : decode cX5_init 55 = .ok (.aload_n 0, 1) := by decide +kernel
theorem dX5_init_56 : decode cX5_init 56 = .ok (.new 35, 3) := by decide +kernel
theorem dX5_init_59 : decode cX5_init 59 = .ok (.dup, 1) := by decide +kernel
theorem dX5_init_60 : decode cX5_init 60 = .ok (.aload_n 0, 1) := by decide +kernel
theorem dX5_init_61 : decode cX5_init 61 = .ok (.getfield 31, 3) := by decide +kernel
theorem dX5_init_64 : decode cX5_init 64 = .ok (.invokespecial 37, 3) := by decide +kernel
theorem dX5_init_67 : decode cX5_init 67 = .ok (.putfield 40, 3) := by decide +kernel
theorem dX5_init_70 : decode cX5_init 70 = .ok (.aload_n 0, 1) := by decide +kernel
theorem dX5_init_71 : decode cX5_init 71 = .ok (.new 44, 3) := by decide +kernel
theorem dX5_init_74 : decode cX5_init 74 = .ok (.dup, 1) := by decide +kernel
theorem dX5_init_75 : decode cX5_init 75 = .ok (.aload_n 0, 1) := by decide +kernel
theorem dX5_init_76 : decode cX5_init 76 = .ok (.getfield 31, 3) := by decide +kernel
theorem dX5_init_79 : decode cX5_init 79 = .ok (.invokespecial 46, 3) := by decide +kernel
theorem dX5_init_82 : decode cX5_init 82 = .ok (.putfield 47, 3) := by decide +kernel
theorem dX5_init_85 : decode cX5_init 85 = .ok (.aload_n 0, 1) := by decide +kernel
theorem dX5_init_86 : decode cX5_init 86 = .ok (.iconst 3, 1) := by decide +kernel
theorem dX5_init_87 : decode cX5_init 87 = .ok (.anewarray 28, 3) := by decide +kernel
theorem dX5_init_90 : decode cX5_init 90 = .ok (.putfield 51, 3) := by decide +kernel
theorem dX5_init_93 : decode cX5_init 93 = .ok (.aload_n 0, 1) := by decide +kernel
theorem dX5_init_94 : decode cX5_init 94 = .ok (.iconst 3, 1) := by decide +kernel
theorem dX5_init_95 : decode cX5_init 95 = .ok (.newarray .boolean, 2) := by decide +kernel
theorem dX5_init_97 : decode cX5_init 97 = .ok (.putfield 55, 3) := by decide +kernel
theorem dX5_init_100 : decode cX5_init 100 = .ok (.aload_n 0, 1) := by decide +kernel
theorem dX5_init_101 : decode cX5_init 101 = .ok (.bipush 6, 2) := by decide +kernel
theorem dX5_init_103 : decode cX5_init 103 = .ok (.newarray .int, 2) := by decide +kernel
theorem dX5_init_105 : decode cX5_init 105 = .ok (.putfield 59, 3) := by decide +kernel
theorem dX5_init_108 : decode cX5_init 108 = .ok (.aload_n 0, 1) := by decide +kernel
theorem dX5_init_109 : decode cX5_init 109 = .ok (.iconst 0, 1) := by decide +kernel
theorem dX5_init_110 : decode cX5_init 110 = .ok (.putfield 63, 3) := by decide +kernel
theorem dX5_init_113 : decode cX5_init 113 = .ok (.aload_n 0, 1) := by decide +kernel
theorem dX5_init_114 : decode cX5_init 114 = .ok (.iconst 0, 1) := by decide +kernel
theorem dX5_init_115 : decode cX5_init 115 = .ok (.putfield 67, 3) := by decide +kernel
theorem dX5_init_118 : decode cX5_init 118 = .ok (.return_, 1) := by decide +kernel
theorem dX5_row_0 : decode cX5_row 0 = .ok (.aload_n 0, 1) := by decide +kernel
theorem dX5_row_1 : decode cX5_row 1 = .ok (.aload_n 0, 1) := by decide +kernel
theorem dX5_row_2 : decode cX5_row 2 = .ok (.getfield 14, 3) := by decide +kernel
theorem dX5_row_5 : decode cX5_row 5 = .ok (.iload_n 1, 1) := by decide +kernel
theorem dX5_row_6 : decode cX5_row 6 = .ok (.iload_n 2, 1) := by decide +kernel
theorem dX5_row_7 : decode cX5_row 7 = .ok (.iconst 0, 1) := by decide +kernel
theorem dX5_row_8 : decode cX5_row 8 = .ok (.invokevirtual 70, 3) := by decide +kernel
theorem dX5_row_11 : decode cX5_row 11 = .ok (.ireturn, 1) := by decide +kernel
theorem dX5_lay_0 : decode cX5_lay 0 = .ok (.aload_n 0, 1) := by decide +kernel
theorem dX5_lay_1 : decode cX5_lay 1 = .ok (.getfield 14, 3) := by decide +kernel
theorem dX5_lay_4 : decode cX5_lay 4 = .ok (.iload_n 1, 1) := by decide +kernel
theorem dX5_lay_5 : decode cX5_lay 5 = .ok (.invokevirtual 74, 3) := by decide +kernel
theorem dX5_lay_8 : decode cX5_lay 8 = .ok (.ifCond .ne 5, 3) := by decide +kernel
theorem dX5_lay_11 : decode cX5_lay 11 = .ok (.iconst (-1), 1) := by decide +kernel
theorem dX5_lay_12 : decode cX5_lay 12 = .ok (.ireturn, 1) := by decide +kernel
theorem dX5_lay_13 : decode cX5_lay 13 = .ok (.aload_n 0, 1) := by decide +kernel
theorem dX5_lay_14 : decode cX5_lay 14 = .ok (.aload_n 0, 1) := by decide +kernel
theorem dX5_lay_15 : decode cX5_lay 15 = .ok (.getfield 14, 3) := by decide +kernel
theorem dX5_lay_18 : decode cX5_lay 18 = .ok (.iload_n 1, 1) := by decide +kernel
theorem dX5_lay_19 : decode cX5_lay 19 = .ok (.iload_n 2, 1) := by decide +kernel
theorem dX5_lay_20 : decode cX5_lay 20 = .ok (.invokevirtual 78, 3) := by decide +kernel
theorem dX5_lay_23 : decode cX5_lay 23 = .ok (.istore 4, 2) := by decide +kernel
theorem dX5_lay_25 : decode cX5_lay 25 = .ok (.iload 4, 2) := by decide +kernel
theorem dX5_lay_27 : decode cX5_lay 27 = .ok (.ifCond .eq 6, 3) := by decide +kernel
theorem dX5_lay_30 : decode cX5_lay 30 = .ok (.iload 4, 2) := by decide +kernel
theorem dX5_lay_32 : decode cX5_lay 32 = .ok (.ireturn, 1) := by decide +kernel
theorem dX5_lay_33 : decode cX5_lay 33 = .ok (.aload_n 0, 1) := by decide +kernel
theorem dX5_lay_34 : decode cX5_lay 34 = .ok (.getfield 14, 3) := by decide +kernel
theorem dX5_lay_37 : decode cX5_lay 37 = .ok (.iload_n 1, 1) := by decide +kernel
theorem dX5_lay_38 : decode cX5_lay 38 = .ok (.iload_n 2, 1) := by decide +kernel
theorem dX5_lay_39 : decode cX5_lay 39 = .ok (.invokevirtual 82, 3) := by decide +kernel
theorem dX5_lay_42 : decode cX5_lay 42 = .ok (.istore 5, 2) := by decide +kernel
theorem dX5_lay_44 : decode cX5_lay 44 = .ok (.aload_n 0, 1) := by decide +kernel
theorem dX5_lay_45 : decode cX5_lay 45 = .ok (.getfield 14, 3) := by decide +kernel
theorem dX5_lay_48 : decode cX5_lay 48 = .ok (.iload_n 1, 1) := by decide +kernel
theorem dX5_lay_49 : decode cX5_lay 49 = .ok (.iload_n 2, 1) := by decide +kernel
theorem dX5_lay_50 : decode cX5_lay 50 = .ok (.iload_n 3, 1) := by decide +kernel
theorem dX5_lay_51 : decode cX5_lay 51 = .ok (.invokevirtual 86, 3) := by decide +kernel
theorem dX5_lay_54 : decode cX5_lay 54 = .ok (.aload_n 0, 1) := by decide +kernel
theorem dX5_lay_55 : decode cX5_lay 55 = .ok (.iconst 1, 1) := by decide +kernel
theorem dX5_lay_56 : decode cX5_lay 56 = .ok (.iload 5, 2) := by decide +kernel
theorem dX5_lay_58 : decode cX5_lay 58 = .ok (.invokevirtual 90, 3) := by decide +kernel
theorem dX5_lay_61 : decode cX5_lay 61 = .ok (.ireturn, 1) := by decide +kernel
theorem dX5_at_0 : decode cX5_at 0 = .ok (.aload_n 0, 1) := by decide +kernel
theorem dX5_at_1 : decode cX5_at 1 = .ok (.getfield 14, 3) := by decide +kernel
theorem dX5_at_4 : decode cX5_at 4 = .ok (.iload_n 1, 1) := by decide +kernel
theorem dX5_at_5 : decode cX5_at 5 = .ok (.invokevirtual 74, 3) := by decide +kernel
theorem dX5_at_8 : decode cX5_at 8 = .ok (.ifCond .ne 5, 3) := by decide +kernel
theorem dX5_at_11 : decode cX5_at 11 = .ok (.iconst (-1), 1) := by decide +kernel
theorem dX5_at_12 : decode cX5_at 12 = .ok (.ireturn, 1) := by decide +kernel
theorem dX5_at_13 : decode cX5_at 13 = .ok (.aload_n 0, 1) := by decide +kernel
theorem dX5_at_14 : decode cX5_at 14 = .ok (.aload_n 0, 1) := by decide +kernel
theorem dX5_at_15 : decode cX5_at 15 = .ok (.getfield 14, 3) := by decide +kernel
theorem dX5_at_18 : decode cX5_at 18 = .ok (.iload_n 1, 1) := by decide +kernel
theorem dX5_at_19 : decode cX5_at 19 = .ok (.iload_n 2, 1) := by decide +kernel
theorem dX5_at_20 : decode cX5_at 20 = .ok (.invokevirtual 78, 3) := by decide +kernel
theorem dX5_at_23 : decode cX5_at 23 = .ok (.istore_n 3, 1) := by decide +kernel
theorem dX5_at_24 : decode cX5_at 24 = .ok (.iload_n 3, 1) := by decide +kernel
theorem dX5_at_25 : decode cX5_at 25 = .ok (.ifCond .eq 7, 3) := by decide +kernel
theorem dX5_at_28 : decode cX5_at 28 = .ok (.iload_n 3, 1) := by decide +kernel
theorem dX5_at_29 : decode cX5_at 29 = .ok (.goto 17, 3) := by decide +kernel
theorem dX5_at_32 : decode cX5_at 32 = .ok (.aload_n 0, 1) := by decide +kernel
theorem dX5_at_33 : decode cX5_at 33 = .ok (.iconst 1, 1) := by decide +kernel
theorem dX5_at_34 : decode cX5_at 34 = .ok (.aload_n 0, 1) := by decide +kernel
theorem dX5_at_35 : decode cX5_at 35 = .ok (.getfield 14, 3) := by decide +kernel
theorem dX5_at_38 : decode cX5_at 38 = .ok (.iload_n 1, 1) := by decide +kernel
theorem dX5_at_39 : decode cX5_at 39 = .ok (.iload_n 2, 1) := by decide +kernel
theorem dX5_at_40 : decode cX5_at 40 = .ok (.invokevirtual 82, 3) := by decide +kernel
theorem dX5_at_43 : decode cX5_at 43 = .ok (.invokevirtual 90, 3) := by decide +kernel
theorem dX5_at_46 : decode cX5_at 46 = .ok (.ireturn, 1) := by decide +kernel
theorem dX5_tear_0 : decode cX5_tear 0 = .ok (.aload_n 0, 1) := by decide +kernel
theorem dX5_tear_1 : decode cX5_tear 1 = .ok (.getfield 14, 3) := by decide +kernel
theorem dX5_tear_4 : decode cX5_tear 4 = .ok (.iload_n 1, 1) := by decide +kernel
theorem dX5_tear_5 : decode cX5_tear 5 = .ok (.invokevirtual 74, 3) := by decide +kernel
theorem dX5_tear_8 : decode cX5_tear 8 = .ok (.ifCond .ne 5, 3) := by decide +kernel
theorem dX5_tear_11 : decode cX5_tear 11 = .ok (.iconst (-1), 1) := by decide +kernel
theorem dX5_tear_12 : decode cX5_tear 12 = .ok (.ireturn, 1) := by decide +kernel
theorem dX5_tear_13 : decode cX5_tear 13 = .ok (.aload_n 0, 1) := by decide +kernel
theorem dX5_tear_14 : decode cX5_tear 14 = .ok (.getfield 14, 3) := by decide +kernel
theorem dX5_tear_17 : decode cX5_tear 17 = .ok (.iload_n 1, 1) := by decide +kernel
theorem dX5_tear_18 : decode cX5_tear 18 = .ok (.invokevirtual 93, 3) := by decide +kernel
theorem dX5_tear_21 : decode cX5_tear 21 = .ok (.ifCond .ne 9, 3) := by decide +kernel
theorem dX5_tear_24 : decode cX5_tear 24 = .ok (.aload_n 0, 1) := by decide +kernel
theorem dX5_tear_25 : decode cX5_tear 25 = .ok (.iconst 1, 1) := by decide +kernel
theorem dX5_tear_26 : decode cX5_tear 26 = .ok (.invokevirtual 96, 3) := by decide +kernel
theorem dX5_tear_29 : decode cX5_tear 29 = .ok (.ireturn, 1) := by decide +kernel
theorem dX5_tear_30 : decode cX5_tear 30 = .ok (.aload_n 0, 1) := by decide +kernel
theorem dX5_tear_31 : decode cX5_tear 31 = .ok (.getfield 14, 3) := by decide +kernel
theorem dX5_tear_34 : decode cX5_tear 34 = .ok (.iload_n 1, 1) := by decide +kernel
theorem dX5_tear_35 : decode cX5_tear 35 = .ok (.invokevirtual 100, 3) := by decide +kernel
theorem dX5_tear_38 : decode cX5_tear 38 = .ok (.iconst 1, 1) := by decide +kernel
theorem dX5_tear_39 : decode cX5_tear 39 = .ok (.ireturn, 1) := by decide +kernel
theorem dX5_copy_0 : decode cX5_copy 0 = .ok (.aload_n 0, 1) := by decide +kernel
theorem dX5_copy_1 : decode cX5_copy 1 = .ok (.getfield 14, 3) := by decide +kernel
theorem dX5_copy_4 : decode cX5_copy 4 = .ok (.iload_n 1, 1) := by decide +kernel
theorem dX5_copy_5 : decode cX5_copy 5 = .ok (.invokevirtual 74, 3) := by decide +kernel
theorem dX5_copy_8 : decode cX5_copy 8 = .ok (.ifCond .eq 14, 3) := by decide +kernel
theorem dX5_copy_11 : decode cX5_copy 11 = .ok (.aload_n 0, 1) := by decide +kernel
theorem dX5_copy_12 : decode cX5_copy 12 = .ok (.getfield 14, 3) := by decide +kernel
theorem dX5_copy_15 : decode cX5_copy 15 = .ok (.iload_n 3, 1) := by decide +kernel
theorem dX5_copy_16 : decode cX5_copy 16 = .ok (.invokevirtual 74, 3) := by decide +kernel
theorem dX5_copy_19 : decode cX5_copy 19 = .ok (.ifCond .ne 5, 3) := by decide +kernel
theorem dX5_copy_22 : decode cX5_copy 22 = .ok (.iconst (-1), 1) := by decide +kernel
theorem dX5_copy_23 : decode cX5_copy 23 = .ok (.ireturn, 1) := by decide +kernel
theorem dX5_copy_24 : decode cX5_copy 24 = .ok (.iload 5, 2) := by decide +kernel
theorem dX5_copy_26 : decode cX5_copy 26 = .ok (.ifCond .ge 9, 3) := by decide +kernel
theorem dX5_copy_29 : decode cX5_copy 29 = .ok (.aload_n 0, 1) := by decide +kernel
theorem dX5_copy_30 : decode cX5_copy 30 = .ok (.iconst 5, 1) := by decide +kernel
theorem dX5_copy_31 : decode cX5_copy 31 = .ok (.invokevirtual 96, 3) := by decide +kernel
theorem dX5_copy_34 : decode cX5_copy 34 = .ok (.ireturn, 1) := by decide +kernel
theorem dX5_copy_35 : decode cX5_copy 35 = .ok (.aload_n 0, 1) := by decide +kernel
theorem dX5_copy_36 : decode cX5_copy 36 = .ok (.getfield 14, 3) := by decide +kernel
theorem dX5_copy_39 : decode cX5_copy 39 = .ok (.iload_n 1, 1) := by decide +kernel
theorem dX5_copy_40 : decode cX5_copy 40 = .ok (.invokevirtual 93, 3) := by decide +kernel
theorem dX5_copy_43 : decode cX5_copy 43 = .ok (.ifCond .eq 14, 3) := by decide +kernel
theorem dX5_copy_46 : decode cX5_copy 46 = .ok (.aload_n 0, 1) := by decide +kernel
theorem dX5_copy_47 : decode cX5_copy 47 = .ok (.getfield 14, 3) := by decide +kernel
theorem dX5_copy_50 : decode cX5_copy 50 = .ok (.iload_n 3, 1) := by decide +kernel
theorem dX5_copy_51 : decode cX5_copy 51 = .ok (.invokevirtual 93, 3) := by decide +kernel
theorem dX5_copy_54 : decode cX5_copy 54 = .ok (.ifCond .ne 9, 3) := by decide +kernel
theorem dX5_copy_57 : decode cX5_copy 57 = .ok (.aload_n 0, 1) := by decide +kernel
theorem dX5_copy_58 : decode cX5_copy 58 = .ok (.iconst 1, 1) := by decide +kernel
theorem dX5_copy_59 : decode cX5_copy 59 = .ok (.invokevirtual 96, 3) := by decide +kernel
theorem dX5_copy_62 : decode cX5_copy 62 = .ok (.ireturn, 1) := by decide +kernel
theorem dX5_copy_63 : decode cX5_copy 63 = .ok (.aload_n 0, 1) := by decide +kernel
theorem dX5_copy_64 : decode cX5_copy 64 = .ok (.getfield 14, 3) := by decide +kernel
theorem dX5_copy_67 : decode cX5_copy 67 = .ok (.iload_n 1, 1) := by decide +kernel
theorem dX5_copy_68 : decode cX5_copy 68 = .ok (.iload_n 2, 1) := by decide +kernel
theorem dX5_copy_69 : decode cX5_copy 69 = .ok (.iload 5, 2) := by decide +kernel
theorem dX5_copy_71 : decode cX5_copy 71 = .ok (.invokevirtual 104, 3) := by decide +kernel
theorem dX5_copy_74 : decode cX5_copy 74 = .ok (.ifCond .eq 18, 3) := by decide +kernel
theorem dX5_copy_77 : decode cX5_copy 77 = .ok (.aload_n 0, 1) := by decide +kernel
theorem dX5_copy_78 : decode cX5_copy 78 = .ok (.getfield 14, 3) := by decide +kernel
theorem dX5_copy_81 : decode cX5_copy 81 = .ok (.iload_n 3, 1) := by decide +kernel
theorem dX5_copy_82 : decode cX5_copy 82 = .ok (.iload 4, 2) := by decide +kernel
theorem dX5_copy_84 : decode cX5_copy 84 = .ok (.iload 5, 2) := by decide +kernel
theorem dX5_copy_86 : decode cX5_copy 86 = .ok (.invokevirtual 104, 3) := by decide +kernel
theorem dX5_copy_89 : decode cX5_copy 89 = .ok (.ifCond .ne 9, 3) := by decide +kernel
theorem dX5_copy_92 : decode cX5_copy 92 = .ok (.aload_n 0, 1) := by decide +kernel
theorem dX5_copy_93 : decode cX5_copy 93 = .ok (.iconst 2, 1) := by decide +kernel
theorem dX5_copy_94 : decode cX5_copy 94 = .ok (.invokevirtual 96, 3) := by decide +kernel
theorem dX5_copy_97 : decode cX5_copy 97 = .ok (.ireturn, 1) := by decide +kernel
theorem dX5_copy_98 : decode cX5_copy 98 = .ok (.aload_n 0, 1) := by decide +kernel
theorem dX5_copy_99 : decode cX5_copy 99 = .ok (.getfield 14, 3) := by decide +kernel
theorem dX5_copy_102 : decode cX5_copy 102 = .ok (.iload_n 1, 1) := by decide +kernel
theorem dX5_copy_103 : decode cX5_copy 103 = .ok (.iload_n 2, 1) := by decide +kernel
theorem dX5_copy_104 : decode cX5_copy 104 = .ok (.iload_n 3, 1) := by decide +kernel
theorem dX5_copy_105 : decode cX5_copy 105 = .ok (.iload 4, 2) := by decide +kernel
theorem dX5_copy_107 : decode cX5_copy 107 = .ok (.iload 5, 2) := by decide +kernel
theorem dX5_copy_109 : decode cX5_copy 109 = .ok (.invokevirtual 108, 3) := by decide +kernel
theorem dX5_copy_112 : decode cX5_copy 112 = .ok (.iconst 1, 1) := by decide +kernel
theorem dX5_copy_113 : decode cX5_copy 113 = .ok (.ireturn, 1) := by decide +kernel
theorem dX5_mean_0 : decode cX5_mean 0 = .ok (.aload_n 0, 1) := by decide +kernel
theorem dX5_mean_1 : decode cX5_mean 1 = .ok (.getfield 14, 3) := by decide +kernel
theorem dX5_mean_4 : decode cX5_mean 4 = .ok (.iload_n 1, 1) := by decide +kernel
theorem dX5_mean_5 : decode cX5_mean 5 = .ok (.invokevirtual 74, 3) := by decide +kernel
theorem dX5_mean_8 : decode cX5_mean 8 = .ok (.ifCond .ne 5, 3) := by decide +kernel
theorem dX5_mean_11 : decode cX5_mean 11 = .ok (.iconst (-1), 1) := by decide +kernel
theorem dX5_mean_12 : decode cX5_mean 12 = .ok (.ireturn, 1) := by decide +kernel
theorem dX5_mean_13 : decode cX5_mean 13 = .ok (.aload_n 0, 1) := by decide +kernel
theorem dX5_mean_14 : decode cX5_mean 14 = .ok (.getfield 14, 3) := by decide +kernel
theorem dX5_mean_17 : decode cX5_mean 17 = .ok (.iload_n 1, 1) := by decide +kernel
theorem dX5_mean_18 : decode cX5_mean 18 = .ok (.invokevirtual 93, 3) := by decide +kernel
theorem dX5_mean_21 : decode cX5_mean 21 = .ok (.ifCond .ne 9, 3) := by decide +kernel
theorem dX5_mean_24 : decode cX5_mean 24 = .ok (.aload_n 0, 1) := by decide +kernel
theorem dX5_mean_25 : decode cX5_mean 25 = .ok (.iconst 1, 1) := by decide +kernel
theorem dX5_mean_26 : decode cX5_mean 26 = .ok (.invokevirtual 96, 3) := by decide +kernel
theorem dX5_mean_29 : decode cX5_mean 29 = .ok (.ireturn, 1) := by decide +kernel
theorem dX5_mean_30 : decode cX5_mean 30 = .ok (.aload_n 0, 1) := by decide +kernel
theorem dX5_mean_31 : decode cX5_mean 31 = .ok (.getfield 14, 3) := by decide +kernel
theorem dX5_mean_34 : decode cX5_mean 34 = .ok (.iload_n 1, 1) := by decide +kernel
theorem dX5_mean_35 : decode cX5_mean 35 = .ok (.invokevirtual 112, 3) := by decide +kernel
theorem dX5_mean_38 : decode cX5_mean 38 = .ok (.istore_n 2, 1) := by decide +kernel
theorem dX5_mean_39 : decode cX5_mean 39 = .ok (.iload_n 2, 1) := by decide +kernel
theorem dX5_mean_40 : decode cX5_mean 40 = .ok (.ifCond .gt 9, 3) := by decide +kernel
theorem dX5_mean_43 : decode cX5_mean 43 = .ok (.aload_n 0, 1) := by decide +kernel
theorem dX5_mean_44 : decode cX5_mean 44 = .ok (.iconst 4, 1) := by decide +kernel
theorem dX5_mean_45 : decode cX5_mean 45 = .ok (.invokevirtual 96, 3) := by decide +kernel
theorem dX5_mean_48 : decode cX5_mean 48 = .ok (.ireturn, 1) := by decide +kernel
theorem dX5_mean_49 : decode cX5_mean 49 = .ok (.aload_n 0, 1) := by decide +kernel
theorem dX5_mean_50 : decode cX5_mean 50 = .ok (.iconst 1, 1) := by decide +kernel
theorem dX5_mean_51 : decode cX5_mean 51 = .ok (.aload_n 0, 1) := by decide +kernel
theorem dX5_mean_52 : decode cX5_mean 52 = .ok (.getfield 14, 3) := by decide +kernel
theorem dX5_mean_55 : decode cX5_mean 55 = .ok (.iload_n 1, 1) := by decide +kernel
theorem dX5_mean_56 : decode cX5_mean 56 = .ok (.invokevirtual 115, 3) := by decide +kernel
theorem dX5_mean_59 : decode cX5_mean 59 = .ok (.iload_n 2, 1) := by decide +kernel
theorem dX5_mean_60 : decode cX5_mean 60 = .ok (.i2l, 1) := by decide +kernel
theorem dX5_mean_61 : decode cX5_mean 61 = .ok (.ldiv, 1) := by decide +kernel
theorem dX5_mean_62 : decode cX5_mean 62 = .ok (.l2i, 1) := by decide +kernel
theorem dX5_mean_63 : decode cX5_mean 63 = .ok (.invokevirtual 90, 3) := by decide +kernel
theorem dX5_mean_66 : decode cX5_mean 66 = .ok (.ireturn, 1) := by decide +kernel
theorem dX5_text_0 : decode cX5_text 0 = .ok (.aload_n 0, 1) := by decide +kernel
theorem dX5_text_1 : decode cX5_text 1 = .ok (.aload_n 0, 1) := by decide +kernel
theorem dX5_text_2 : decode cX5_text 2 = .ok (.getfield 18, 3) := by decide +kernel
theorem dX5_text_5 : decode cX5_text 5 = .ok (.iload_n 1, 1) := by decide +kernel
theorem dX5_text_6 : decode cX5_text 6 = .ok (.iload_n 2, 1) := by decide +kernel
theorem dX5_text_7 : decode cX5_text 7 = .ok (.bipush 32, 2) := by decide +kernel
theorem dX5_text_9 : decode cX5_text 9 = .ok (.invokevirtual 70, 3) := by decide +kernel
theorem dX5_text_12 : decode cX5_text 12 = .ok (.ireturn, 1) := by decide +kernel
theorem dX5_put_0 : decode cX5_put 0 = .ok (.aload_n 0, 1) := by decide +kernel
theorem dX5_put_1 : decode cX5_put 1 = .ok (.getfield 18, 3) := by decide +kernel
theorem dX5_put_4 : decode cX5_put 4 = .ok (.iload_n 1, 1) := by decide +kernel
theorem dX5_put_5 : decode cX5_put 5 = .ok (.invokevirtual 74, 3) := by decide +kernel
theorem dX5_put_8 : decode cX5_put 8 = .ok (.ifCond .ne 5, 3) := by decide +kernel
theorem dX5_put_11 : decode cX5_put 11 = .ok (.iconst (-1), 1) := by decide +kernel
theorem dX5_put_12 : decode cX5_put 12 = .ok (.ireturn, 1) := by decide +kernel
theorem dX5_put_13 : decode cX5_put 13 = .ok (.aload_n 0, 1) := by decide +kernel
theorem dX5_put_14 : decode cX5_put 14 = .ok (.aload_n 0, 1) := by decide +kernel
theorem dX5_put_15 : decode cX5_put 15 = .ok (.getfield 18, 3) := by decide +kernel
theorem dX5_put_18 : decode cX5_put 18 = .ok (.iload_n 1, 1) := by decide +kernel
theorem dX5_put_19 : decode cX5_put 19 = .ok (.iload_n 2, 1) := by decide +kernel
theorem dX5_put_20 : decode cX5_put 20 = .ok (.invokevirtual 78, 3) := by decide +kernel
theorem dX5_put_23 : decode cX5_put 23 = .ok (.istore 4, 2) := by decide +kernel
theorem dX5_put_25 : decode cX5_put 25 = .ok (.iload 4, 2) := by decide +kernel
theorem dX5_put_27 : decode cX5_put 27 = .ok (.ifCond .eq 6, 3) := by decide +kernel
theorem dX5_put_30 : decode cX5_put 30 = .ok (.iload 4, 2) := by decide +kernel
theorem dX5_put_32 : decode cX5_put 32 = .ok (.ireturn, 1) := by decide +kernel
theorem dX5_put_33 : decode cX5_put 33 = .ok (.aload_n 0, 1) := by decide +kernel
theorem dX5_put_34 : decode cX5_put 34 = .ok (.getfield 18, 3) := by decide +kernel
theorem dX5_put_37 : decode cX5_put 37 = .ok (.iload_n 1, 1) := by decide +kernel
theorem dX5_put_38 : decode cX5_put 38 = .ok (.iload_n 2, 1) := by decide +kernel
theorem dX5_put_39 : decode cX5_put 39 = .ok (.invokevirtual 82, 3) := by decide +kernel
theorem dX5_put_42 : decode cX5_put 42 = .ok (.istore 5, 2) := by decide +kernel
theorem dX5_put_44 : decode cX5_put 44 = .ok (.aload_n 0, 1) := by decide +kernel
theorem dX5_put_45 : decode cX5_put 45 = .ok (.getfield 18, 3) := by decide +kernel
theorem dX5_put_48 : decode cX5_put 48 = .ok (.iload_n 1, 1) := by decide +kernel
theorem dX5_put_49 : decode cX5_put 49 = .ok (.iload_n 2, 1) := by decide +kernel
theorem dX5_put_50 : decode cX5_put 50 = .ok (.iload_n 3, 1) := by decide +kernel
theorem dX5_put_51 : decode cX5_put 51 = .ok (.i2b, 1) := by decide +kernel
theorem dX5_put_52 : decode cX5_put 52 = .ok (.invokevirtual 86, 3) := by decide +kernel
theorem dX5_put_55 : decode cX5_put 55 = .ok (.iload 5, 2) := by decide +kernel
theorem dX5_put_57 : decode cX5_put 57 = .ok (.sipush 1000, 3) := by decide +kernel
theorem dX5_put_60 : decode cX5_put 60 = .ok (.iadd, 1) := by decide +kernel
theorem dX5_put_61 : decode cX5_put 61 = .ok (.ireturn, 1) := by decide +kernel
theorem dX5_fault_0 : decode cX5_fault 0 = .ok (.aload_n 0, 1) := by decide +kernel
theorem dX5_fault_1 : decode cX5_fault 1 = .ok (.getfield 18, 3) := by decide +kernel
theorem dX5_fault_4 : decode cX5_fault 4 = .ok (.iload_n 1, 1) := by decide +kernel
theorem dX5_fault_5 : decode cX5_fault 5 = .ok (.invokevirtual 74, 3) := by decide +kernel
theorem dX5_fault_8 : decode cX5_fault 8 = .ok (.ifCond .ne 5, 3) := by decide +kernel
theorem dX5_fault_11 : decode cX5_fault 11 = .ok (.iconst (-1), 1) := by decide +kernel
theorem dX5_fault_12 : decode cX5_fault 12 = .ok (.ireturn, 1) := by decide +kernel
theorem dX5_fault_13 : decode cX5_fault 13 = .ok (.aload_n 0, 1) := by decide +kernel
theorem dX5_fault_14 : decode cX5_fault 14 = .ok (.getfield 18, 3) := by decide +kernel
theorem dX5_fault_17 : decode cX5_fault 17 = .ok (.iload_n 1, 1) := by decide +kernel
theorem dX5_fault_18 : decode cX5_fault 18 = .ok (.invokevirtual 93, 3) := by decide +kernel
theorem dX5_fault_21 : decode cX5_fault 21 = .ok (.ifCond .ne 9, 3) := by decide +kernel
theorem dX5_fault_24 : decode cX5_fault 24 = .ok (.aload_n 0, 1) := by decide +kernel
theorem dX5_fault_25 : decode cX5_fault 25 = .ok (.iconst 1, 1) := by decide +kernel
theorem dX5_fault_26 : decode cX5_fault 26 = .ok (.invokevirtual 96, 3) := by decide +kernel
theorem dX5_fault_29 : decode cX5_fault 29 = .ok (.ireturn, 1) := by decide +kernel
theorem dX5_fault_30 : decode cX5_fault 30 = .ok (.aload_n 0, 1) := by decide +kernel
theorem dX5_fault_31 : decode cX5_fault 31 = .ok (.getfield 24, 3) := by decide +kernel
theorem dX5_fault_34 : decode cX5_fault 34 = .ok (.aload_n 0, 1) := by decide +kernel
theorem dX5_fault_35 : decode cX5_fault 35 = .ok (.getfield 18, 3) := by decide +kernel
theorem dX5_fault_38 : decode cX5_fault 38 = .ok (.iload_n 1, 1) := by decide +kernel
theorem dX5_fault_39 : decode cX5_fault 39 = .ok (.invokevirtual 119, 3) := by decide +kernel
theorem dX5_fault_42 : decode cX5_fault 42 = .ok (.ireturn, 1) := by decide +kernel
theorem dX5_land_0 : decode cX5_land 0 = .ok (.aload_n 0, 1) := by decide +kernel
theorem dX5_land_1 : decode cX5_land 1 = .ok (.getfield 18, 3) := by decide +kernel
theorem dX5_land_4 : decode cX5_land 4 = .ok (.iload_n 1, 1) := by decide +kernel
theorem dX5_land_5 : decode cX5_land 5 = .ok (.invokevirtual 74, 3) := by decide +kernel
theorem dX5_land_8 : decode cX5_land 8 = .ok (.ifCond .ne 5, 3) := by decide +kernel
theorem dX5_land_11 : decode cX5_land 11 = .ok (.iconst (-1), 1) := by decide +kernel
theorem dX5_land_12 : decode cX5_land 12 = .ok (.ireturn, 1) := by decide +kernel
theorem dX5_land_13 : decode cX5_land 13 = .ok (.aload_n 0, 1) := by decide +kernel
theorem dX5_land_14 : decode cX5_land 14 = .ok (.getfield 18, 3) := by decide +kernel
theorem dX5_land_17 : decode cX5_land 17 = .ok (.iload_n 1, 1) := by decide +kernel
theorem dX5_land_18 : decode cX5_land 18 = .ok (.invokevirtual 93, 3) := by decide +kernel
theorem dX5_land_21 : decode cX5_land 21 = .ok (.ifCond .ne 9, 3) := by decide +kernel
theorem dX5_land_24 : decode cX5_land 24 = .ok (.aload_n 0, 1) := by decide +kernel
theorem dX5_land_25 : decode cX5_land 25 = .ok (.iconst 1, 1) := by decide +kernel
theorem dX5_land_26 : decode cX5_land 26 = .ok (.invokevirtual 96, 3) := by decide +kernel
theorem dX5_land_29 : decode cX5_land 29 = .ok (.ireturn, 1) := by decide +kernel
theorem dX5_land_30 : decode cX5_land 30 = .ok (.aload_n 0, 1) := by decide +kernel
theorem dX5_land_31 : decode cX5_land 31 = .ok (.getfield 24, 3) := by decide +kernel
theorem dX5_land_34 : decode cX5_land 34 = .ok (.aload_n 0, 1) := by decide +kernel
theorem dX5_land_35 : decode cX5_land 35 = .ok (.getfield 18, 3) := by decide +kernel
theorem dX5_land_38 : decode cX5_land 38 = .ok (.iload_n 1, 1) := by decide +kernel
theorem dX5_land_39 : decode cX5_land 39 = .ok (.invokevirtual 119, 3) := by decide +kernel
theorem dX5_land_42 : decode cX5_land 42 = .ok (.bipush (-9), 2) := by decide +kernel
theorem dX5_land_44 : decode cX5_land 44 = .ok (.if_icmp .eq 6, 3) := by decide +kernel
theorem dX5_land_47 : decode cX5_land 47 = .ok (.bipush (-4), 2) := by decide +kernel
theorem dX5_land_49 : decode cX5_land 49 = .ok (.ireturn, 1) := by decide +kernel
theorem dX5_land_50 : decode cX5_land 50 = .ok (.aload_n 0, 1) := by decide +kernel
theorem dX5_land_51 : decode cX5_land 51 = .ok (.getfield 31, 3) := by decide +kernel
theorem dX5_land_54 : decode cX5_land 54 = .ok (.aload_n 0, 1) := by decide +kernel
theorem dX5_land_55 : decode cX5_land 55 = .ok (.getfield 24, 3) := by decide +kernel
theorem dX5_land_58 : decode cX5_land 58 = .ok (.invokevirtual 123, 3) := by decide +kernel
theorem dX5_land_61 : decode cX5_land 61 = .ok (.iconst 0, 1) := by decide +kernel
theorem dX5_land_62 : decode cX5_land 62 = .ok (.istore_n 2, 1) := by decide +kernel
theorem dX5_land_63 : decode cX5_land 63 = .ok (.iload_n 2, 1) := by decide +kernel
theorem dX5_land_64 : decode cX5_land 64 = .ok (.iconst 3, 1) := by decide +kernel
theorem dX5_land_65 : decode cX5_land 65 = .ok (.if_icmp .ge 16, 3) := by decide +kernel
theorem dX5_land_68 : decode cX5_land 68 = .ok (.aload_n 0, 1) := by decide +kernel
theorem dX5_land_69 : decode cX5_land 69 = .ok (.getfield 55, 3) := by decide +kernel
theorem dX5_land_72 : decode cX5_land 72 = .ok (.iload_n 2, 1) := by decide +kernel
theorem dX5_land_73 : decode cX5_land 73 = .ok (.iconst 0, 1) := by decide +kernel
theorem dX5_land_74 : decode cX5_land 74 = .ok (.bastore, 1) := by decide +kernel
theorem dX5_land_75 : decode cX5_land 75 = .ok (.iinc 2 1, 3) := by decide +kernel
theorem dX5_land_78 : decode cX5_land 78 = .ok (.goto (-15), 3) := by decide +kernel
theorem dX5_land_81 : decode cX5_land 81 = .ok (.aload_n 0, 1) := by decide +kernel
theorem dX5_land_82 : decode cX5_land 82 = .ok (.getfield 31, 3) := by decide +kernel
theorem dX5_land_85 : decode cX5_land 85 = .ok (.getfield 127, 3) := by decide +kernel
theorem dX5_land_88 : decode cX5_land 88 = .ok (.ireturn, 1) := by decide +kernel
theorem dX5_spot_0 : decode cX5_spot 0 = .ok (.aload_n 0, 1) := by decide +kernel
theorem dX5_spot_1 : decode cX5_spot 1 = .ok (.getfield 31, 3) := by decide +kernel
theorem dX5_spot_4 : decode cX5_spot 4 = .ok (.iload_n 1, 1) := by decide +kernel
theorem dX5_spot_5 : decode cX5_spot 5 = .ok (.invokevirtual 130, 3) := by decide +kernel
theorem dX5_spot_8 : decode cX5_spot 8 = .ok (.ifCond .ne 5, 3) := by decide +kernel
theorem dX5_spot_11 : decode cX5_spot 11 = .ok (.iconst (-1), 1) := by decide +kernel
theorem dX5_spot_12 : decode cX5_spot 12 = .ok (.ireturn, 1) := by decide +kernel
theorem dX5_spot_13 : decode cX5_spot 13 = .ok (.aload_n 0, 1) := by decide +kernel
theorem dX5_spot_14 : decode cX5_spot 14 = .ok (.aload_n 0, 1) := by decide +kernel
theorem dX5_spot_15 : decode cX5_spot 15 = .ok (.getfield 31, 3) := by decide +kernel
theorem dX5_spot_18 : decode cX5_spot 18 = .ok (.iload_n 1, 1) := by decide +kernel
theorem dX5_spot_19 : decode cX5_spot 19 = .ok (.invokevirtual 133, 3) := by decide +kernel
theorem dX5_spot_22 : decode cX5_spot 22 = .ok (.ifCond .eq 7, 3) := by decide +kernel
theorem dX5_spot_25 : decode cX5_spot 25 = .ok (.iconst 1, 1) := by decide +kernel
theorem dX5_spot_26 : decode cX5_spot 26 = .ok (.goto 4, 3) := by decide +kernel
theorem dX5_spot_29 : decode cX5_spot 29 = .ok (.iconst 0, 1) := by decide +kernel
theorem dX5_spot_30 : decode cX5_spot 30 = .ok (.aload_n 0, 1) := by decide +kernel
theorem dX5_spot_31 : decode cX5_spot 31 = .ok (.getfield 31, 3) := by decide +kernel
theorem dX5_spot_34 : decode cX5_spot 34 = .ok (.getfield 136, 3) := by decide +kernel
theorem dX5_spot_37 : decode cX5_spot 37 = .ok (.iload_n 1, 1) := by decide +kernel
theorem dX5_spot_38 : decode cX5_spot 38 = .ok (.iaload, 1) := by decide +kernel
theorem dX5_spot_39 : decode cX5_spot 39 = .ok (.invokevirtual 90, 3) := by decide +kernel
theorem dX5_spot_42 : decode cX5_spot 42 = .ok (.ireturn, 1) := by decide +kernel
theorem dX5_band_0 : decode cX5_band 0 = .ok (.aload_n 0, 1) := by decide +kernel
theorem dX5_band_1 : decode cX5_band 1 = .ok (.getfield 31, 3) := by decide +kernel
theorem dX5_band_4 : decode cX5_band 4 = .ok (.iload_n 1, 1) := by decide +kernel
theorem dX5_band_5 : decode cX5_band 5 = .ok (.invokevirtual 139, 3) := by decide +kernel
theorem dX5_band_8 : decode cX5_band 8 = .ok (.ifCond .eq 12, 3) := by decide +kernel
theorem dX5_band_11 : decode cX5_band 11 = .ok (.iload_n 2, 1) := by decide +kernel
theorem dX5_band_12 : decode cX5_band 12 = .ok (.ifCond .lt 8, 3) := by decide +kernel
theorem dX5_band_15 : decode cX5_band 15 = .ok (.iload_n 2, 1) := by decide +kernel
theorem dX5_band_16 : decode cX5_band 16 = .ok (.iconst 5, 1) := by decide +kernel
theorem dX5_band_17 : decode cX5_band 17 = .ok (.if_icmp .lt 5, 3) := by decide +kernel
theorem dX5_band_20 : decode cX5_band 20 = .ok (.iconst (-1), 1) := by decide +kernel
theorem dX5_band_21 : decode cX5_band 21 = .ok (.ireturn, 1) := by decide +kernel
theorem dX5_band_22 : decode cX5_band 22 = .ok (.aload_n 0, 1) := by decide +kernel
theorem dX5_band_23 : decode cX5_band 23 = .ok (.iconst 1, 1) := by decide +kernel
theorem dX5_band_24 : decode cX5_band 24 = .ok (.aload_n 0, 1) := by decide +kernel
theorem dX5_band_25 : decode cX5_band 25 = .ok (.getfield 31, 3) := by decide +kernel
theorem dX5_band_28 : decode cX5_band 28 = .ok (.iload_n 1, 1) := by decide +kernel
theorem dX5_band_29 : decode cX5_band 29 = .ok (.iload_n 2, 1) := by decide +kernel
theorem dX5_band_30 : decode cX5_band 30 = .ok (.invokevirtual 142, 3) := by decide +kernel
theorem dX5_band_33 : decode cX5_band 33 = .ok (.invokevirtual 90, 3) := by decide +kernel
theorem dX5_band_36 : decode cX5_band 36 = .ok (.ireturn, 1) := by decide +kernel
theorem dX5_mark_0 : decode cX5_mark 0 = .ok (.aload_n 0, 1) := by decide +kernel
theorem dX5_mark_1 : decode cX5_mark 1 = .ok (.getfield 31, 3) := by decide +kernel
theorem dX5_mark_4 : decode cX5_mark 4 = .ok (.iload_n 1, 1) := by decide +kernel
theorem dX5_mark_5 : decode cX5_mark 5 = .ok (.invokevirtual 139, 3) := by decide +kernel
theorem dX5_mark_8 : decode cX5_mark 8 = .ok (.ifCond .eq 13, 3) := by decide +kernel
theorem dX5_mark_11 : decode cX5_mark 11 = .ok (.iload_n 2, 1) := by decide +kernel
theorem dX5_mark_12 : decode cX5_mark 12 = .ok (.ifCond .le 9, 3) := by decide +kernel
theorem dX5_mark_15 : decode cX5_mark 15 = .ok (.iload_n 2, 1) := by decide +kernel
theorem dX5_mark_16 : decode cX5_mark 16 = .ok (.bipush 6, 2) := by decide +kernel
theorem dX5_mark_18 : decode cX5_mark 18 = .ok (.if_icmp .lt 5, 3) := by decide +kernel
theorem dX5_mark_21 : decode cX5_mark 21 = .ok (.iconst (-1), 1) := by decide +kernel
theorem dX5_mark_22 : decode cX5_mark 22 = .ok (.ireturn, 1) := by decide +kernel
theorem dX5_mark_23 : decode cX5_mark 23 = .ok (.aload_n 0, 1) := by decide +kernel
theorem dX5_mark_24 : decode cX5_mark 24 = .ok (.getfield 31, 3) := by decide +kernel
theorem dX5_mark_27 : decode cX5_mark 27 = .ok (.iload_n 1, 1) := by decide +kernel
theorem dX5_mark_28 : decode cX5_mark 28 = .ok (.iload_n 2, 1) := by decide +kernel
theorem dX5_mark_29 : decode cX5_mark 29 = .ok (.invokevirtual 145, 3) := by decide +kernel
theorem dX5_mark_32 : decode cX5_mark 32 = .ok (.ifCond .ne 9, 3) := by decide +kernel
theorem dX5_mark_35 : decode cX5_mark 35 = .ok (.aload_n 0, 1) := by decide +kernel
theorem dX5_mark_36 : decode cX5_mark 36 = .ok (.iconst 3, 1) := by decide +kernel
theorem dX5_mark_37 : decode cX5_mark 37 = .ok (.invokevirtual 96, 3) := by decide +kernel
theorem dX5_mark_40 : decode cX5_mark 40 = .ok (.ireturn, 1) := by decide +kernel
theorem dX5_mark_41 : decode cX5_mark 41 = .ok (.iload_n 2, 1) := by decide +kernel
theorem dX5_mark_42 : decode cX5_mark 42 = .ok (.tableswitch 88 1 4 #[30, 40, 49, 69], 30) := by decide +kernel
theorem dX5_mark_72 : decode cX5_mark 72 = .ok (.aload_n 0, 1) := by decide +kernel
theorem dX5_mark_73 : decode cX5_mark 73 = .ok (.getfield 40, 3) := by decide +kernel
theorem dX5_mark_76 : decode cX5_mark 76 = .ok (.iload_n 1, 1) := by decide +kernel
theorem dX5_mark_77 : decode cX5_mark 77 = .ok (.iconst 1, 1) := by decide +kernel
theorem dX5_mark_78 : decode cX5_mark 78 = .ok (.invokevirtual 149, 3) := by decide +kernel
theorem dX5_mark_81 : decode cX5_mark 81 = .ok (.ireturn, 1) := by decide +kernel
theorem dX5_mark_82 : decode cX5_mark 82 = .ok (.aload_n 0, 1) := by decide +kernel
theorem dX5_mark_83 : decode cX5_mark 83 = .ok (.getfield 31, 3) := by decide +kernel
theorem dX5_mark_86 : decode cX5_mark 86 = .ok (.iload_n 1, 1) := by decide +kernel
theorem dX5_mark_87 : decode cX5_mark 87 = .ok (.invokevirtual 152, 3) := by decide +kernel
theorem dX5_mark_90 : decode cX5_mark 90 = .ok (.ireturn, 1) := by decide +kernel
theorem dX5_mark_91 : decode cX5_mark 91 = .ok (.aload_n 0, 1) := by decide +kernel
theorem dX5_mark_92 : decode cX5_mark 92 = .ok (.getfield 31, 3) := by decide +kernel
theorem dX5_mark_95 : decode cX5_mark 95 = .ok (.getfield 127, 3) := by decide +kernel
theorem dX5_mark_98 : decode cX5_mark 98 = .ok (.iconst 1, 1) := by decide +kernel
theorem dX5_mark_99 : decode cX5_mark 99 = .ok (.isub, 1) := by decide +kernel
theorem dX5_mark_100 : decode cX5_mark 100 = .ok (.aload_n 0, 1) := by decide +kernel
theorem dX5_mark_101 : decode cX5_mark 101 = .ok (.getfield 31, 3) := by decide +kernel
theorem dX5_mark_104 : decode cX5_mark 104 = .ok (.getfield 155, 3) := by decide +kernel
theorem dX5_mark_107 : decode cX5_mark 107 = .ok (.iload_n 1, 1) := by decide +kernel
theorem dX5_mark_108 : decode cX5_mark 108 = .ok (.iaload, 1) := by decide +kernel
theorem dX5_mark_109 : decode cX5_mark 109 = .ok (.isub, 1) := by decide +kernel
theorem dX5_mark_110 : decode cX5_mark 110 = .ok (.ireturn, 1) := by decide +kernel
theorem dX5_mark_111 : decode cX5_mark 111 = .ok (.aload_n 0, 1) := by decide +kernel
theorem dX5_mark_112 : decode cX5_mark 112 = .ok (.getfield 31, 3) := by decide +kernel
theorem dX5_mark_115 : decode cX5_mark 115 = .ok (.iload_n 1, 1) := by decide +kernel
theorem dX5_mark_116 : decode cX5_mark 116 = .ok (.invokevirtual 158, 3) := by decide +kernel
theorem dX5_mark_119 : decode cX5_mark 119 = .ok (.aload_n 0, 1) := by decide +kernel
theorem dX5_mark_120 : decode cX5_mark 120 = .ok (.getfield 31, 3) := by decide +kernel
theorem dX5_mark_123 : decode cX5_mark 123 = .ok (.getfield 161, 3) := by decide +kernel
theorem dX5_mark_126 : decode cX5_mark 126 = .ok (.iload_n 1, 1) := by decide +kernel
theorem dX5_mark_127 : decode cX5_mark 127 = .ok (.iaload, 1) := by decide +kernel
theorem dX5_mark_128 : decode cX5_mark 128 = .ok (.isub, 1) := by decide +kernel
theorem dX5_mark_129 : decode cX5_mark 129 = .ok (.ireturn, 1) := by decide +kernel
theorem dX5_mark_130 : decode cX5_mark 130 = .ok (.aload_n 0, 1) := by decide +kernel
theorem dX5_mark_131 : decode cX5_mark 131 = .ok (.getfield 40, 3) := by decide +kernel
theorem dX5_mark_134 : decode cX5_mark 134 = .ok (.iload_n 1, 1) := by decide +kernel
theorem dX5_mark_135 : decode cX5_mark 135 = .ok (.iconst 2, 1) := by decide +kernel
theorem dX5_mark_136 : decode cX5_mark 136 = .ok (.invokevirtual 149, 3) := by decide +kernel
theorem dX5_mark_139 : decode cX5_mark 139 = .ok (.ireturn, 1) := by decide +kernel
theorem dX5_frost_0 : decode cX5_frost 0 = .ok (.aload_n 0, 1) := by decide +kernel
theorem dX5_frost_1 : decode cX5_frost 1 = .ok (.getfield 31, 3) := by decide +kernel
theorem dX5_frost_4 : decode cX5_frost 4 = .ok (.iload_n 1, 1) := by decide +kernel
theorem dX5_frost_5 : decode cX5_frost 5 = .ok (.invokevirtual 164, 3) := by decide +kernel
theorem dX5_frost_8 : decode cX5_frost 8 = .ok (.ifCond .ne 5, 3) := by decide +kernel
theorem dX5_frost_11 : decode cX5_frost 11 = .ok (.iconst (-1), 1) := by decide +kernel
theorem dX5_frost_12 : decode cX5_frost 12 = .ok (.ireturn, 1) := by decide +kernel
theorem dX5_frost_13 : decode cX5_frost 13 = .ok (.aload_n 0, 1) := by decide +kernel
theorem dX5_frost_14 : decode cX5_frost 14 = .ok (.getfield 31, 3) := by decide +kernel
theorem dX5_frost_17 : decode cX5_frost 17 = .ok (.getfield 167, 3) := by decide +kernel
theorem dX5_frost_20 : decode cX5_frost 20 = .ok (.istore_n 2, 1) := by decide +kernel
theorem dX5_frost_21 : decode cX5_frost 21 = .ok (.aload_n 0, 1) := by decide +kernel
theorem dX5_frost_22 : decode cX5_frost 22 = .ok (.getfield 31, 3) := by decide +kernel
theorem dX5_frost_25 : decode cX5_frost 25 = .ok (.iload_n 1, 1) := by decide +kernel
theorem dX5_frost_26 : decode cX5_frost 26 = .ok (.putfield 167, 3) := by decide +kernel
theorem dX5_frost_29 : decode cX5_frost 29 = .ok (.iload_n 2, 1) := by decide +kernel
theorem dX5_frost_30 : decode cX5_frost 30 = .ok (.ireturn, 1) := by decide +kernel
theorem dX5_move_0 : decode cX5_move 0 = .ok (.aload_n 0, 1) := by decide +kernel
theorem dX5_move_1 : decode cX5_move 1 = .ok (.getfield 31, 3) := by decide +kernel
theorem dX5_move_4 : decode cX5_move 4 = .ok (.iload_n 1, 1) := by decide +kernel
theorem dX5_move_5 : decode cX5_move 5 = .ok (.invokevirtual 139, 3) := by decide +kernel
theorem dX5_move_8 : decode cX5_move 8 = .ok (.ifCond .eq 14, 3) := by decide +kernel
theorem dX5_move_11 : decode cX5_move 11 = .ok (.aload_n 0, 1) := by decide +kernel
theorem dX5_move_12 : decode cX5_move 12 = .ok (.getfield 31, 3) := by decide +kernel
theorem dX5_move_15 : decode cX5_move 15 = .ok (.iload_n 2, 1) := by decide +kernel
theorem dX5_move_16 : decode cX5_move 16 = .ok (.invokevirtual 130, 3) := by decide +kernel
theorem dX5_move_19 : decode cX5_move 19 = .ok (.ifCond .ne 5, 3) := by decide +kernel
theorem dX5_move_22 : decode cX5_move 22 = .ok (.iconst (-1), 1) := by decide +kernel
theorem dX5_move_23 : decode cX5_move 23 = .ok (.ireturn, 1) := by decide +kernel
theorem dX5_move_24 : decode cX5_move 24 = .ok (.aload_n 0, 1) := by decide +kernel
theorem dX5_move_25 : decode cX5_move 25 = .ok (.getfield 31, 3) := by decide +kernel
theorem dX5_move_28 : decode cX5_move 28 = .ok (.getfield 155, 3) := by decide +kernel
theorem dX5_move_31 : decode cX5_move 31 = .ok (.iload_n 1, 1) := by decide +kernel
theorem dX5_move_32 : decode cX5_move 32 = .ok (.iaload, 1) := by decide +kernel
theorem dX5_move_33 : decode cX5_move 33 = .ok (.istore_n 3, 1) := by decide +kernel
theorem dX5_move_34 : decode cX5_move 34 = .ok (.aload_n 0, 1) := by decide +kernel
theorem dX5_move_35 : decode cX5_move 35 = .ok (.getfield 31, 3) := by decide +kernel
theorem dX5_move_38 : decode cX5_move 38 = .ok (.getfield 155, 3) := by decide +kernel
theorem dX5_move_41 : decode cX5_move 41 = .ok (.iload_n 1, 1) := by decide +kernel
theorem dX5_move_42 : decode cX5_move 42 = .ok (.iload_n 2, 1) := by decide +kernel
theorem dX5_move_43 : decode cX5_move 43 = .ok (.iastore, 1) := by decide +kernel
theorem dX5_move_44 : decode cX5_move 44 = .ok (.iload_n 3, 1) := by decide +kernel
theorem dX5_move_45 : decode cX5_move 45 = .ok (.ireturn, 1) := by decide +kernel
theorem dX5_evening_0 : decode cX5_evening 0 = .ok (.aload_n 0, 1) := by decide +kernel
theorem dX5_evening_1 : decode cX5_evening 1 = .ok (.getfield 31, 3) := by decide +kernel
theorem dX5_evening_4 : decode cX5_evening 4 = .ok (.iload_n 1, 1) := by decide +kernel
theorem dX5_evening_5 : decode cX5_evening 5 = .ok (.invokevirtual 170, 3) := by decide +kernel
theorem dX5_evening_8 : decode cX5_evening 8 = .ok (.ifCond .ne 5, 3) := by decide +kernel
theorem dX5_evening_11 : decode cX5_evening 11 = .ok (.iconst (-1), 1) := by decide +kernel
theorem dX5_evening_12 : decode cX5_evening 12 = .ok (.ireturn, 1) := by decide +kernel
theorem dX5_evening_13 : decode cX5_evening 13 = .ok (.aload_n 0, 1) := by decide +kernel
theorem dX5_evening_14 : decode cX5_evening 14 = .ok (.getfield 31, 3) := by decide +kernel
theorem dX5_evening_17 : decode cX5_evening 17 = .ok (.getfield 127, 3) := by decide +kernel
theorem dX5_evening_20 : decode cX5_evening 20 = .ok (.ifCond .ne 6, 3) := by decide +kernel
theorem dX5_evening_23 : decode cX5_evening 23 = .ok (.bipush (-4), 2) := by decide +kernel
theorem dX5_evening_25 : decode cX5_evening 25 = .ok (.ireturn, 1) := by decide +kernel
theorem dX5_evening_26 : decode cX5_evening 26 = .ok (.aload_n 0, 1) := by decide +kernel
theorem dX5_evening_27 : decode cX5_evening 27 = .ok (.getfield 31, 3) := by decide +kernel
theorem dX5_evening_30 : decode cX5_evening 30 = .ok (.getfield 173, 3) := by decide +kernel
theorem dX5_evening_33 : decode cX5_evening 33 = .ok (.bipush 60, 2) := by decide +kernel
theorem dX5_evening_35 : decode cX5_evening 35 = .ok (.if_icmp .lt 6, 3) := by decide +kernel
theorem dX5_evening_38 : decode cX5_evening 38 = .ok (.bipush (-2), 2) := by decide +kernel
theorem dX5_evening_40 : decode cX5_evening 40 = .ok (.ireturn, 1) := by decide +kernel
theorem dX5_evening_41 : decode cX5_evening 41 = .ok (.aload_n 0, 1) := by decide +kernel
theorem dX5_evening_42 : decode cX5_evening 42 = .ok (.aload_n 0, 1) := by decide +kernel
theorem dX5_evening_43 : decode cX5_evening 43 = .ok (.getfield 31, 3) := by decide +kernel
theorem dX5_evening_46 : decode cX5_evening 46 = .ok (.iload_n 1, 1) := by decide +kernel
theorem dX5_evening_47 : decode cX5_evening 47 = .ok (.invokevirtual 176, 3) := by decide +kernel
theorem dX5_evening_50 : decode cX5_evening 50 = .ok (.aload_n 0, 1) := by decide +kernel
theorem dX5_evening_51 : decode cX5_evening 51 = .ok (.getfield 31, 3) := by decide +kernel
theorem dX5_evening_54 : decode cX5_evening 54 = .ok (.iload_n 1, 1) := by decide +kernel
theorem dX5_evening_55 : decode cX5_evening 55 = .ok (.invokevirtual 179, 3) := by decide +kernel
theorem dX5_evening_58 : decode cX5_evening 58 = .ok (.invokevirtual 90, 3) := by decide +kernel
theorem dX5_evening_61 : decode cX5_evening 61 = .ok (.ireturn, 1) := by decide +kernel
theorem dX5_undo_0 : decode cX5_undo 0 = .ok (.iload_n 1, 1) := by decide +kernel
theorem dX5_undo_1 : decode cX5_undo 1 = .ok (.ifCond .lt 14, 3) := by decide +kernel
theorem dX5_undo_4 : decode cX5_undo 4 = .ok (.iload_n 1, 1) := by decide +kernel
theorem dX5_undo_5 : decode cX5_undo 5 = .ok (.aload_n 0, 1) := by decide +kernel
theorem dX5_undo_6 : decode cX5_undo 6 = .ok (.getfield 31, 3) := by decide +kernel
theorem dX5_undo_9 : decode cX5_undo 9 = .ok (.getfield 173, 3) := by decide +kernel
theorem dX5_undo_12 : decode cX5_undo 12 = .ok (.if_icmp .le 5, 3) := by decide +kernel
theorem dX5_undo_15 : decode cX5_undo 15 = .ok (.iconst (-1), 1) := by decide +kernel
theorem dX5_undo_16 : decode cX5_undo 16 = .ok (.ireturn, 1) := by decide +kernel
theorem dX5_undo_17 : decode cX5_undo 17 = .ok (.aload_n 0, 1) := by decide +kernel
theorem dX5_undo_18 : decode cX5_undo 18 = .ok (.getfield 31, 3) := by decide +kernel
theorem dX5_undo_21 : decode cX5_undo 21 = .ok (.iload_n 1, 1) := by decide +kernel
theorem dX5_undo_22 : decode cX5_undo 22 = .ok (.invokevirtual 182, 3) := by decide +kernel
theorem dX5_undo_25 : decode cX5_undo 25 = .ok (.ireturn, 1) := by decide +kernel
theorem dX5_heights_0 : decode cX5_heights 0 = .ok (.aload_n 0, 1) := by decide +kernel
theorem dX5_heights_1 : decode cX5_heights 1 = .ok (.getfield 14, 3) := by decide +kernel
theorem dX5_heights_4 : decode cX5_heights 4 = .ok (.iload_n 1, 1) := by decide +kernel
theorem dX5_heights_5 : decode cX5_heights 5 = .ok (.invokevirtual 74, 3) := by decide +kernel
theorem dX5_heights_8 : decode cX5_heights 8 = .ok (.ifCond .ne 5, 3) := by decide +kernel
theorem dX5_heights_11 : decode cX5_heights 11 = .ok (.iconst (-1), 1) := by decide +kernel
theorem dX5_heights_12 : decode cX5_heights 12 = .ok (.ireturn, 1) := by decide +kernel
theorem dX5_heights_13 : decode cX5_heights 13 = .ok (.aload_n 0, 1) := by decide +kernel
theorem dX5_heights_14 : decode cX5_heights 14 = .ok (.getfield 14, 3) := by decide +kernel
theorem dX5_heights_17 : decode cX5_heights 17 = .ok (.iload_n 1, 1) := by decide +kernel
theorem dX5_heights_18 : decode cX5_heights 18 = .ok (.aload_n 0, 1) := by decide +kernel
theorem dX5_heights_19 : decode cX5_heights 19 = .ok (.getfield 31, 3) := by decide +kernel
theorem dX5_heights_22 : decode cX5_heights 22 = .ok (.getfield 127, 3) := by decide +kernel
theorem dX5_heights_25 : decode cX5_heights 25 = .ok (.iconst 0, 1) := by decide +kernel
theorem dX5_heights_26 : decode cX5_heights 26 = .ok (.invokevirtual 185, 3) := by decide +kernel
theorem dX5_heights_29 : decode cX5_heights 29 = .ok (.iconst 0, 1) := by decide +kernel
theorem dX5_heights_30 : decode cX5_heights 30 = .ok (.istore_n 2, 1) := by decide +kernel
theorem dX5_heights_31 : decode cX5_heights 31 = .ok (.iload_n 2, 1) := by decide +kernel
theorem dX5_heights_32 : decode cX5_heights 32 = .ok (.aload_n 0, 1) := by decide +kernel
theorem dX5_heights_33 : decode cX5_heights 33 = .ok (.getfield 31, 3) := by decide +kernel
theorem dX5_heights_36 : decode cX5_heights 36 = .ok (.getfield 127, 3) := by decide +kernel
theorem dX5_heights_39 : decode cX5_heights 39 = .ok (.if_icmp .ge 27, 3) := by decide +kernel
theorem dX5_heights_42 : decode cX5_heights 42 = .ok (.aload_n 0, 1) := by decide +kernel
theorem dX5_heights_43 : decode cX5_heights 43 = .ok (.getfield 14, 3) := by decide +kernel
theorem dX5_heights_46 : decode cX5_heights 46 = .ok (.iload_n 1, 1) := by decide +kernel
theorem dX5_heights_47 : decode cX5_heights 47 = .ok (.iload_n 2, 1) := by decide +kernel
theorem dX5_heights_48 : decode cX5_heights 48 = .ok (.aload_n 0, 1) := by decide +kernel
theorem dX5_heights_49 : decode cX5_heights 49 = .ok (.getfield 31, 3) := by decide +kernel
theorem dX5_heights_52 : decode cX5_heights 52 = .ok (.getfield 136, 3) := by decide +kernel
theorem dX5_heights_55 : decode cX5_heights 55 = .ok (.iload_n 2, 1) := by decide +kernel
theorem dX5_heights_56 : decode cX5_heights 56 = .ok (.iaload, 1) := by decide +kernel
theorem dX5_heights_57 : decode cX5_heights 57 = .ok (.invokevirtual 86, 3) := by decide +kernel
theorem dX5_heights_60 : decode cX5_heights 60 = .ok (.iinc 2 1, 3) := by decide +kernel
theorem dX5_heights_63 : decode cX5_heights 63 = .ok (.goto (-32), 3) := by decide +kernel
theorem dX5_heights_66 : decode cX5_heights 66 = .ok (.aload_n 0, 1) := by decide +kernel
theorem dX5_heights_67 : decode cX5_heights 67 = .ok (.getfield 31, 3) := by decide +kernel
theorem dX5_heights_70 : decode cX5_heights 70 = .ok (.invokevirtual 188, 3) := by decide +kernel
theorem dX5_heights_73 : decode cX5_heights 73 = .ok (.ireturn, 1) := by decide +kernel
theorem dX5_keep_0 : decode cX5_keep 0 = .ok (.iload_n 1, 1) := by decide +kernel
theorem dX5_keep_1 : decode cX5_keep 1 = .ok (.ifCond .lt 8, 3) := by decide +kernel
theorem dX5_keep_4 : decode cX5_keep 4 = .ok (.iload_n 1, 1) := by decide +kernel
theorem dX5_keep_5 : decode cX5_keep 5 = .ok (.iconst 3, 1) := by decide +kernel
theorem dX5_keep_6 : decode cX5_keep 6 = .ok (.if_icmp .lt 5, 3) := by decide +kernel
theorem dX5_keep_9 : decode cX5_keep 9 = .ok (.iconst (-1), 1) := by decide +kernel
theorem dX5_keep_10 : decode cX5_keep 10 = .ok (.ireturn, 1) := by decide +kernel
theorem dX5_keep_11 : decode cX5_keep 11 = .ok (.aload_n 0, 1) := by decide +kernel
theorem dX5_keep_12 : decode cX5_keep 12 = .ok (.getfield 31, 3) := by decide +kernel
theorem dX5_keep_15 : decode cX5_keep 15 = .ok (.getfield 127, 3) := by decide +kernel
theorem dX5_keep_18 : decode cX5_keep 18 = .ok (.ifCond .ne 6, 3) := by decide +kernel
theorem dX5_keep_21 : decode cX5_keep 21 = .ok (.bipush (-4), 2) := by decide +kernel
theorem dX5_keep_23 : decode cX5_keep 23 = .ok (.ireturn, 1) := by decide +kernel
theorem dX5_keep_24 : decode cX5_keep 24 = .ok (.aload_n 0, 1) := by decide +kernel
theorem dX5_keep_25 : decode cX5_keep 25 = .ok (.getfield 51, 3) := by decide +kernel
theorem dX5_keep_28 : decode cX5_keep 28 = .ok (.iload_n 1, 1) := by decide +kernel
theorem dX5_keep_29 : decode cX5_keep 29 = .ok (.aaload, 1) := by decide +kernel
theorem dX5_keep_30 : decode cX5_keep 30 = .ok (.astore_n 2, 1) := by decide +kernel
theorem dX5_keep_31 : decode cX5_keep 31 = .ok (.aload_n 2, 1) := by decide +kernel
theorem dX5_keep_32 : decode cX5_keep 32 = .ok (.ifnonnull 18, 3) := by decide +kernel
theorem dX5_keep_35 : decode cX5_keep 35 = .ok (.new 28, 3) := by decide +kernel
theorem dX5_keep_38 : decode cX5_keep 38 = .ok (.dup, 1) := by decide +kernel
theorem dX5_keep_39 : decode cX5_keep 39 = .ok (.invokespecial 30, 3) := by decide +kernel
theorem dX5_keep_42 : decode cX5_keep 42 = .ok (.astore_n 2, 1) := by decide +kernel
theorem dX5_keep_43 : decode cX5_keep 43 = .ok (.aload_n 0, 1) := by decide +kernel
theorem dX5_keep_44 : decode cX5_keep 44 = .ok (.getfield 51, 3) := by decide +kernel
theorem dX5_keep_47 : decode cX5_keep 47 = .ok (.iload_n 1, 1) := by decide +kernel
theorem dX5_keep_48 : decode cX5_keep 48 = .ok (.aload_n 2, 1) := by decide +kernel
theorem dX5_keep_49 : decode cX5_keep 49 = .ok (.aastore, 1) := by decide +kernel
theorem dX5_keep_50 : decode cX5_keep 50 = .ok (.aload_n 2, 1) := by decide +kernel
theorem dX5_keep_51 : decode cX5_keep 51 = .ok (.aload_n 0, 1) := by decide +kernel
theorem dX5_keep_52 : decode cX5_keep 52 = .ok (.getfield 31, 3) := by decide +kernel
theorem dX5_keep_55 : decode cX5_keep 55 = .ok (.invokevirtual 192, 3) := by decide +kernel
theorem dX5_keep_58 : decode cX5_keep 58 = .ok (.aload_n 0, 1) := by decide +kernel
theorem dX5_keep_59 : decode cX5_keep 59 = .ok (.getfield 55, 3) := by decide +kernel
theorem dX5_keep_62 : decode cX5_keep 62 = .ok (.iload_n 1, 1) := by decide +kernel
theorem dX5_keep_63 : decode cX5_keep 63 = .ok (.iconst 1, 1) := by decide +kernel
theorem dX5_keep_64 : decode cX5_keep 64 = .ok (.bastore, 1) := by decide +kernel
theorem dX5_keep_65 : decode cX5_keep 65 = .ok (.aload_n 0, 1) := by decide +kernel
theorem dX5_keep_66 : decode cX5_keep 66 = .ok (.getfield 31, 3) := by decide +kernel
theorem dX5_keep_69 : decode cX5_keep 69 = .ok (.getfield 173, 3) := by decide +kernel
theorem dX5_keep_72 : decode cX5_keep 72 = .ok (.ireturn, 1) := by decide +kernel
theorem dX5_on_0 : decode cX5_on 0 = .ok (.iload_n 1, 1) := by decide +kernel
theorem dX5_on_1 : decode cX5_on 1 = .ok (.ifCond .lt 8, 3) := by decide +kernel
theorem dX5_on_4 : decode cX5_on 4 = .ok (.iload_n 1, 1) := by decide +kernel
theorem dX5_on_5 : decode cX5_on 5 = .ok (.iconst 3, 1) := by decide +kernel
theorem dX5_on_6 : decode cX5_on 6 = .ok (.if_icmp .lt 5, 3) := by decide +kernel
theorem dX5_on_9 : decode cX5_on 9 = .ok (.iconst (-1), 1) := by decide +kernel
theorem dX5_on_10 : decode cX5_on 10 = .ok (.ireturn, 1) := by decide +kernel
theorem dX5_on_11 : decode cX5_on 11 = .ok (.aload_n 0, 1) := by decide +kernel
theorem dX5_on_12 : decode cX5_on 12 = .ok (.getfield 51, 3) := by decide +kernel
theorem dX5_on_15 : decode cX5_on 15 = .ok (.iload_n 1, 1) := by decide +kernel
theorem dX5_on_16 : decode cX5_on 16 = .ok (.aaload, 1) := by decide +kernel
theorem dX5_on_17 : decode cX5_on 17 = .ok (.astore_n 2, 1) := by decide +kernel
theorem dX5_on_18 : decode cX5_on 18 = .ok (.aload_n 0, 1) := by decide +kernel
theorem dX5_on_19 : decode cX5_on 19 = .ok (.getfield 55, 3) := by decide +kernel
theorem dX5_on_22 : decode cX5_on 22 = .ok (.iload_n 1, 1) := by decide +kernel
theorem dX5_on_23 : decode cX5_on 23 = .ok (.baload, 1) := by decide +kernel
theorem dX5_on_24 : decode cX5_on 24 = .ok (.ifCond .eq 7, 3) := by decide +kernel
theorem dX5_on_27 : decode cX5_on 27 = .ok (.aload_n 2, 1) := by decide +kernel
theorem dX5_on_28 : decode cX5_on 28 = .ok (.ifnonnull 9, 3) := by decide +kernel
theorem dX5_on_31 : decode cX5_on 31 = .ok (.aload_n 0, 1) := by decide +kernel
theorem dX5_on_32 : decode cX5_on 32 = .ok (.iconst 1, 1) := by decide +kernel
theorem dX5_on_33 : decode cX5_on 33 = .ok (.invokevirtual 96, 3) := by decide +kernel
theorem dX5_on_36 : decode cX5_on 36 = .ok (.ireturn, 1) := by decide +kernel
theorem dX5_on_37 : decode cX5_on 37 = .ok (.aload_n 0, 1) := by decide +kernel
theorem dX5_on_38 : decode cX5_on 38 = .ok (.getfield 31, 3) := by decide +kernel
theorem dX5_on_41 : decode cX5_on 41 = .ok (.aload_n 2, 1) := by decide +kernel
theorem dX5_on_42 : decode cX5_on 42 = .ok (.invokevirtual 192, 3) := by decide +kernel
theorem dX5_on_45 : decode cX5_on 45 = .ok (.aload_n 0, 1) := by decide +kernel
theorem dX5_on_46 : decode cX5_on 46 = .ok (.getfield 31, 3) := by decide +kernel
theorem dX5_on_49 : decode cX5_on 49 = .ok (.getfield 173, 3) := by decide +kernel
theorem dX5_on_52 : decode cX5_on 52 = .ok (.ireturn, 1) := by decide +kernel
theorem dX5_behind_0 : decode cX5_behind 0 = .ok (.aload_n 0, 1) := by decide +kernel
theorem dX5_behind_1 : decode cX5_behind 1 = .ok (.getfield 31, 3) := by decide +kernel
theorem dX5_behind_4 : decode cX5_behind 4 = .ok (.iload_n 1, 1) := by decide +kernel
theorem dX5_behind_5 : decode cX5_behind 5 = .ok (.invokevirtual 170, 3) := by decide +kernel
theorem dX5_behind_8 : decode cX5_behind 8 = .ok (.ifCond .eq 24, 3) := by decide +kernel
theorem dX5_behind_11 : decode cX5_behind 11 = .ok (.iload_n 2, 1) := by decide +kernel
theorem dX5_behind_12 : decode cX5_behind 12 = .ok (.ifCond .lt 20, 3) := by decide +kernel
theorem dX5_behind_15 : decode cX5_behind 15 = .ok (.iload_n 2, 1) := by decide +kernel
theorem dX5_behind_16 : decode cX5_behind 16 = .ok (.bipush 60, 2) := by decide +kernel
theorem dX5_behind_18 : decode cX5_behind 18 = .ok (.if_icmp .gt 14, 3) := by decide +kernel
theorem dX5_behind_21 : decode cX5_behind 21 = .ok (.aload_n 0, 1) := by decide +kernel
theorem dX5_behind_22 : decode cX5_behind 22 = .ok (.getfield 31, 3) := by decide +kernel
theorem dX5_behind_25 : decode cX5_behind 25 = .ok (.iload_n 3, 1) := by decide +kernel
theorem dX5_behind_26 : decode cX5_behind 26 = .ok (.invokevirtual 130, 3) := by decide +kernel
theorem dX5_behind_29 : decode cX5_behind 29 = .ok (.ifCond .ne 5, 3) := by decide +kernel
theorem dX5_behind_32 : decode cX5_behind 32 = .ok (.iconst (-1), 1) := by decide +kernel
theorem dX5_behind_33 : decode cX5_behind 33 = .ok (.ireturn, 1) := by decide +kernel
theorem dX5_behind_34 : decode cX5_behind 34 = .ok (.aload_n 0, 1) := by decide +kernel
theorem dX5_behind_35 : decode cX5_behind 35 = .ok (.getfield 40, 3) := by decide +kernel
theorem dX5_behind_38 : decode cX5_behind 38 = .ok (.iload_n 1, 1) := by decide +kernel
theorem dX5_behind_39 : decode cX5_behind 39 = .ok (.iload_n 2, 1) := by decide +kernel
theorem dX5_behind_40 : decode cX5_behind 40 = .ok (.invokevirtual 195, 3) := by decide +kernel
theorem dX5_behind_43 : decode cX5_behind 43 = .ok (.istore 4, 2) := by decide +kernel
theorem dX5_behind_45 : decode cX5_behind 45 = .ok (.aload_n 0, 1) := by decide +kernel
theorem dX5_behind_46 : decode cX5_behind 46 = .ok (.aload_n 0, 1) := by decide +kernel
theorem dX5_behind_47 : decode cX5_behind 47 = .ok (.getfield 40, 3) := by decide +kernel
theorem dX5_behind_50 : decode cX5_behind 50 = .ok (.getfield 198, 3) := by decide +kernel
theorem dX5_behind_53 : decode cX5_behind 53 = .ok (.iload_n 3, 1) := by decide +kernel
theorem dX5_behind_54 : decode cX5_behind 54 = .ok (.iaload, 1) := by decide +kernel
theorem dX5_behind_55 : decode cX5_behind 55 = .ok (.iload 4, 2) := by decide +kernel
theorem dX5_behind_57 : decode cX5_behind 57 = .ok (.invokevirtual 90, 3) := by decide +kernel
theorem dX5_behind_60 : decode cX5_behind 60 = .ok (.ireturn, 1) := by decide +kernel
theorem dX5_rest_0 : decode cX5_rest 0 = .ok (.aload_n 0, 1) := by decide +kernel
theorem dX5_rest_1 : decode cX5_rest 1 = .ok (.getfield 31, 3) := by decide +kernel
theorem dX5_rest_4 : decode cX5_rest 4 = .ok (.iload_n 1, 1) := by decide +kernel
theorem dX5_rest_5 : decode cX5_rest 5 = .ok (.invokevirtual 170, 3) := by decide +kernel
theorem dX5_rest_8 : decode cX5_rest 8 = .ok (.ifCond .ne 5, 3) := by decide +kernel
theorem dX5_rest_11 : decode cX5_rest 11 = .ok (.iconst (-1), 1) := by decide +kernel
theorem dX5_rest_12 : decode cX5_rest 12 = .ok (.ireturn, 1) := by decide +kernel
theorem dX5_rest_13 : decode cX5_rest 13 = .ok (.aload_n 0, 1) := by decide +kernel
theorem dX5_rest_14 : decode cX5_rest 14 = .ok (.getfield 40, 3) := by decide +kernel
theorem dX5_rest_17 : decode cX5_rest 17 = .ok (.iload_n 1, 1) := by decide +kernel
theorem dX5_rest_18 : decode cX5_rest 18 = .ok (.invokevirtual 201, 3) := by decide +kernel
theorem dX5_rest_21 : decode cX5_rest 21 = .ok (.istore_n 2, 1) := by decide +kernel
theorem dX5_rest_22 : decode cX5_rest 22 = .ok (.iload_n 2, 1) := by decide +kernel
theorem dX5_rest_23 : decode cX5_rest 23 = .ok (.bipush (-9), 2) := by decide +kernel
theorem dX5_rest_25 : decode cX5_rest 25 = .ok (.if_icmp .ne 8, 3) := by decide +kernel
theorem dX5_rest_28 : decode cX5_rest 28 = .ok (.bipush (-9), 2) := by decide +kernel
theorem dX5_rest_30 : decode cX5_rest 30 = .ok (.goto 22, 3) := by decide +kernel
theorem dX5_rest_33 : decode cX5_rest 33 = .ok (.aload_n 0, 1) := by decide +kernel
theorem dX5_rest_34 : decode cX5_rest 34 = .ok (.iload_n 2, 1) := by decide +kernel
theorem dX5_rest_35 : decode cX5_rest 35 = .ok (.aload_n 0, 1) := by decide +kernel
theorem dX5_rest_36 : decode cX5_rest 36 = .ok (.getfield 31, 3) := by decide +kernel
theorem dX5_rest_39 : decode cX5_rest 39 = .ok (.aload_n 0, 1) := by decide +kernel
theorem dX5_rest_40 : decode cX5_rest 40 = .ok (.getfield 40, 3) := by decide +kernel
theorem dX5_rest_43 : decode cX5_rest 43 = .ok (.getfield 198, 3) := by decide +kernel
theorem dX5_rest_46 : decode cX5_rest 46 = .ok (.invokevirtual 204, 3) := by decide +kernel
theorem dX5_rest_49 : decode cX5_rest 49 = .ok (.invokevirtual 90, 3) := by decide +kernel
theorem dX5_rest_52 : decode cX5_rest 52 = .ok (.ireturn, 1) := by decide +kernel
theorem dX5_round_0 : decode cX5_round 0 = .ok (.aload_n 0, 1) := by decide +kernel
theorem dX5_round_1 : decode cX5_round 1 = .ok (.getfield 31, 3) := by decide +kernel
theorem dX5_round_4 : decode cX5_round 4 = .ok (.iload_n 1, 1) := by decide +kernel
theorem dX5_round_5 : decode cX5_round 5 = .ok (.invokevirtual 170, 3) := by decide +kernel
theorem dX5_round_8 : decode cX5_round 8 = .ok (.ifCond .ne 5, 3) := by decide +kernel
theorem dX5_round_11 : decode cX5_round 11 = .ok (.iconst (-1), 1) := by decide +kernel
theorem dX5_round_12 : decode cX5_round 12 = .ok (.ireturn, 1) := by decide +kernel
theorem dX5_round_13 : decode cX5_round 13 = .ok (.aload_n 0, 1) := by decide +kernel
theorem dX5_round_14 : decode cX5_round 14 = .ok (.getfield 40, 3) := by decide +kernel
theorem dX5_round_17 : decode cX5_round 17 = .ok (.iload_n 1, 1) := by decide +kernel
theorem dX5_round_18 : decode cX5_round 18 = .ok (.invokevirtual 208, 3) := by decide +kernel
theorem dX5_round_21 : decode cX5_round 21 = .ok (.ireturn, 1) := by decide +kernel
theorem dX5_highest_0 : decode cX5_highest 0 = .ok (.aload_n 0, 1) := by decide +kernel
theorem dX5_highest_1 : decode cX5_highest 1 = .ok (.getfield 31, 3) := by decide +kernel
theorem dX5_highest_4 : decode cX5_highest 4 = .ok (.iload_n 1, 1) := by decide +kernel
theorem dX5_highest_5 : decode cX5_highest 5 = .ok (.invokevirtual 130, 3) := by decide +kernel
theorem dX5_highest_8 : decode cX5_highest 8 = .ok (.ifCond .eq 12, 3) := by decide +kernel
theorem dX5_highest_11 : decode cX5_highest 11 = .ok (.aload_n 0, 1) := by decide +kernel
theorem dX5_highest_12 : decode cX5_highest 12 = .ok (.iload_n 1, 1) := by decide +kernel
theorem dX5_highest_13 : decode cX5_highest 13 = .ok (.iconst 1, 1) := by decide +kernel
theorem dX5_highest_14 : decode cX5_highest 14 = .ok (.invokevirtual 211, 3) := by decide +kernel
theorem dX5_highest_17 : decode cX5_highest 17 = .ok (.goto 4, 3) := by decide +kernel
theorem dX5_highest_20 : decode cX5_highest 20 = .ok (.iconst (-1), 1) := by decide +kernel
theorem dX5_highest_21 : decode cX5_highest 21 = .ok (.ireturn, 1) := by decide +kernel
theorem dX5_lowest_0 : decode cX5_lowest 0 = .ok (.aload_n 0, 1) := by decide +kernel
theorem dX5_lowest_1 : decode cX5_lowest 1 = .ok (.getfield 31, 3) := by decide +kernel
theorem dX5_lowest_4 : decode cX5_lowest 4 = .ok (.iload_n 1, 1) := by decide +kernel
theorem dX5_lowest_5 : decode cX5_lowest 5 = .ok (.invokevirtual 130, 3) := by decide +kernel
theorem dX5_lowest_8 : decode cX5_lowest 8 = .ok (.ifCond .eq 12, 3) := by decide +kernel
theorem dX5_lowest_11 : decode cX5_lowest 11 = .ok (.aload_n 0, 1) := by decide +kernel
theorem dX5_lowest_12 : decode cX5_lowest 12 = .ok (.iload_n 1, 1) := by decide +kernel
theorem dX5_lowest_13 : decode cX5_lowest 13 = .ok (.iconst (-1), 1) := by decide +kernel
theorem dX5_lowest_14 : decode cX5_lowest 14 = .ok (.invokevirtual 211, 3) := by decide +kernel
theorem dX5_lowest_17 : decode cX5_lowest 17 = .ok (.goto 4, 3) := by decide +kernel
theorem dX5_lowest_20 : decode cX5_lowest 20 = .ok (.iconst (-1), 1) := by decide +kernel
theorem dX5_lowest_21 : decode cX5_lowest 21 = .ok (.ireturn, 1) := by decide +kernel
theorem dX5_flat_0 : decode cX5_flat 0 = .ok (.aload_n 0, 1) := by decide +kernel
theorem dX5_flat_1 : decode cX5_flat 1 = .ok (.getfield 31, 3) := by decide +kernel
theorem dX5_flat_4 : decode cX5_flat 4 = .ok (.iload_n 1, 1) := by decide +kernel
theorem dX5_flat_5 : decode cX5_flat 5 = .ok (.invokevirtual 164, 3) := by decide +kernel
theorem dX5_flat_8 : decode cX5_flat 8 = .ok (.ifCond .eq 14, 3) := by decide +kernel
theorem dX5_flat_11 : decode cX5_flat 11 = .ok (.aload_n 0, 1) := by decide +kernel
theorem dX5_flat_12 : decode cX5_flat 12 = .ok (.getfield 14, 3) := by decide +kernel
theorem dX5_flat_15 : decode cX5_flat 15 = .ok (.iload_n 2, 1) := by decide +kernel
theorem dX5_flat_16 : decode cX5_flat 16 = .ok (.invokevirtual 74, 3) := by decide +kernel
theorem dX5_flat_19 : decode cX5_flat 19 = .ok (.ifCond .ne 5, 3) := by decide +kernel
theorem dX5_flat_22 : decode cX5_flat 22 = .ok (.iconst (-1), 1) := by decide +kernel
theorem dX5_flat_23 : decode cX5_flat 23 = .ok (.ireturn, 1) := by decide +kernel
theorem dX5_flat_24 : decode cX5_flat 24 = .ok (.aload_n 0, 1) := by decide +kernel
theorem dX5_flat_25 : decode cX5_flat 25 = .ok (.getfield 31, 3) := by decide +kernel
theorem dX5_flat_28 : decode cX5_flat 28 = .ok (.getfield 127, 3) := by decide +kernel
theorem dX5_flat_31 : decode cX5_flat 31 = .ok (.ifCond .ne 6, 3) := by decide +kernel
theorem dX5_flat_34 : decode cX5_flat 34 = .ok (.bipush (-4), 2) := by decide +kernel
theorem dX5_flat_36 : decode cX5_flat 36 = .ok (.ireturn, 1) := by decide +kernel
theorem dX5_flat_37 : decode cX5_flat 37 = .ok (.aload_n 0, 1) := by decide +kernel
theorem dX5_flat_38 : decode cX5_flat 38 = .ok (.getfield 47, 3) := by decide +kernel
theorem dX5_flat_41 : decode cX5_flat 41 = .ok (.iload_n 1, 1) := by decide +kernel
theorem dX5_flat_42 : decode cX5_flat 42 = .ok (.invokevirtual 214, 3) := by decide +kernel
theorem dX5_flat_45 : decode cX5_flat 45 = .ok (.iconst 0, 1) := by decide +kernel
theorem dX5_flat_46 : decode cX5_flat 46 = .ok (.istore_n 3, 1) := by decide +kernel
theorem dX5_flat_47 : decode cX5_flat 47 = .ok (.iload_n 3, 1) := by decide +kernel
theorem dX5_flat_48 : decode cX5_flat 48 = .ok (.iconst 3, 1) := by decide +kernel
theorem dX5_flat_49 : decode cX5_flat 49 = .ok (.if_icmp .gt 42, 3) := by decide +kernel
theorem dX5_flat_52 : decode cX5_flat 52 = .ok (.aload_n 0, 1) := by decide +kernel
theorem dX5_flat_53 : decode cX5_flat 53 = .ok (.getfield 47, 3) := by decide +kernel
theorem dX5_flat_56 : decode cX5_flat 56 = .ok (.iload_n 3, 1) := by decide +kernel
theorem dX5_flat_57 : decode cX5_flat 57 = .ok (.invokevirtual 217, 3) := by decide +kernel
theorem dX5_flat_60 : decode cX5_flat 60 = .ok (.ifCond .ne 6, 3) := by decide +kernel
theorem dX5_flat_63 : decode cX5_flat 63 = .ok (.goto 22, 3) := by decide +kernel
theorem dX5_flat_66 : decode cX5_flat 66 = .ok (.aload_n 0, 1) := by decide +kernel
theorem dX5_flat_67 : decode cX5_flat 67 = .ok (.iload_n 2, 1) := by decide +kernel
theorem dX5_flat_68 : decode cX5_flat 68 = .ok (.iload_n 3, 1) := by decide +kernel
theorem dX5_flat_69 : decode cX5_flat 69 = .ok (.invokevirtual 220, 3) := by decide +kernel
theorem dX5_flat_72 : decode cX5_flat 72 = .ok (.aload_n 0, 1) := by decide +kernel
theorem dX5_flat_73 : decode cX5_flat 73 = .ok (.iload_n 3, 1) := by decide +kernel
theorem dX5_flat_74 : decode cX5_flat 74 = .ok (.aload_n 0, 1) := by decide +kernel
theorem dX5_flat_75 : decode cX5_flat 75 = .ok (.getfield 47, 3) := by decide +kernel
theorem dX5_flat_78 : decode cX5_flat 78 = .ok (.getfield 223, 3) := by decide +kernel
theorem dX5_flat_81 : decode cX5_flat 81 = .ok (.invokevirtual 90, 3) := by decide +kernel
theorem dX5_flat_84 : decode cX5_flat 84 = .ok (.ireturn, 1) := by decide +kernel
theorem dX5_flat_85 : decode cX5_flat 85 = .ok (.iinc 3 1, 3) := by decide +kernel
theorem dX5_flat_88 : decode cX5_flat 88 = .ok (.goto (-41), 3) := by decide +kernel
theorem dX5_flat_91 : decode cX5_flat 91 = .ok (.bipush (-9), 2) := by decide +kernel
theorem dX5_flat_93 : decode cX5_flat 93 = .ok (.ireturn, 1) := by decide +kernel
theorem dX5_raise_0 : decode cX5_raise 0 = .ok (.aload_n 0, 1) := by decide +kernel
theorem dX5_raise_1 : decode cX5_raise 1 = .ok (.getfield 31, 3) := by decide +kernel
theorem dX5_raise_4 : decode cX5_raise 4 = .ok (.iload_n 1, 1) := by decide +kernel
theorem dX5_raise_5 : decode cX5_raise 5 = .ok (.invokevirtual 130, 3) := by decide +kernel
theorem dX5_raise_8 : decode cX5_raise 8 = .ok (.ifCond .eq 13, 3) := by decide +kernel
theorem dX5_raise_11 : decode cX5_raise 11 = .ok (.iload_n 2, 1) := by decide +kernel
theorem dX5_raise_12 : decode cX5_raise 12 = .ok (.ifCond .lt 9, 3) := by decide +kernel
theorem dX5_raise_15 : decode cX5_raise 15 = .ok (.iload_n 2, 1) := by decide +kernel
theorem dX5_raise_16 : decode cX5_raise 16 = .ok (.bipush 99, 2) := by decide +kernel
theorem dX5_raise_18 : decode cX5_raise 18 = .ok (.if_icmp .le 5, 3) := by decide +kernel
theorem dX5_raise_21 : decode cX5_raise 21 = .ok (.iconst (-1), 1) := by decide +kernel
theorem dX5_raise_22 : decode cX5_raise 22 = .ok (.ireturn, 1) := by decide +kernel
theorem dX5_raise_23 : decode cX5_raise 23 = .ok (.iload_n 3, 1) := by decide +kernel
theorem dX5_raise_24 : decode cX5_raise 24 = .ok (.ifCond .lt 20, 3) := by decide +kernel
theorem dX5_raise_27 : decode cX5_raise 27 = .ok (.iload_n 3, 1) := by decide +kernel
theorem dX5_raise_28 : decode cX5_raise 28 = .ok (.iconst 3, 1) := by decide +kernel
theorem dX5_raise_29 : decode cX5_raise 29 = .ok (.if_icmp .gt 15, 3) := by decide +kernel
theorem dX5_raise_32 : decode cX5_raise 32 = .ok (.aload_n 0, 1) := by decide +kernel
theorem dX5_raise_33 : decode cX5_raise 33 = .ok (.getfield 14, 3) := by decide +kernel
theorem dX5_raise_36 : decode cX5_raise 36 = .ok (.iload 4, 2) := by decide +kernel
theorem dX5_raise_38 : decode cX5_raise 38 = .ok (.invokevirtual 74, 3) := by decide +kernel
theorem dX5_raise_41 : decode cX5_raise 41 = .ok (.ifCond .ne 5, 3) := by decide +kernel
theorem dX5_raise_44 : decode cX5_raise 44 = .ok (.iconst (-1), 1) := by decide +kernel
theorem dX5_raise_45 : decode cX5_raise 45 = .ok (.ireturn, 1) := by decide +kernel
theorem dX5_raise_46 : decode cX5_raise 46 = .ok (.aload_n 0, 1) := by decide +kernel
theorem dX5_raise_47 : decode cX5_raise 47 = .ok (.getfield 47, 3) := by decide +kernel
theorem dX5_raise_50 : decode cX5_raise 50 = .ok (.iload_n 1, 1) := by decide +kernel
theorem dX5_raise_51 : decode cX5_raise 51 = .ok (.iload_n 2, 1) := by decide +kernel
theorem dX5_raise_52 : decode cX5_raise 52 = .ok (.invokevirtual 226, 3) := by decide +kernel
theorem dX5_raise_55 : decode cX5_raise 55 = .ok (.aload_n 0, 1) := by decide +kernel
theorem dX5_raise_56 : decode cX5_raise 56 = .ok (.getfield 47, 3) := by decide +kernel
theorem dX5_raise_59 : decode cX5_raise 59 = .ok (.iload_n 3, 1) := by decide +kernel
theorem dX5_raise_60 : decode cX5_raise 60 = .ok (.invokevirtual 217, 3) := by decide +kernel
theorem dX5_raise_63 : decode cX5_raise 63 = .ok (.ifCond .ne 6, 3) := by decide +kernel
theorem dX5_raise_66 : decode cX5_raise 66 = .ok (.bipush (-9), 2) := by decide +kernel
theorem dX5_raise_68 : decode cX5_raise 68 = .ok (.ireturn, 1) := by decide +kernel
theorem dX5_raise_69 : decode cX5_raise 69 = .ok (.aload_n 0, 1) := by decide +kernel
theorem dX5_raise_70 : decode cX5_raise 70 = .ok (.iload 4, 2) := by decide +kernel
theorem dX5_raise_72 : decode cX5_raise 72 = .ok (.iload_n 3, 1) := by decide +kernel
theorem dX5_raise_73 : decode cX5_raise 73 = .ok (.invokevirtual 220, 3) := by decide +kernel
theorem dX5_raise_76 : decode cX5_raise 76 = .ok (.aload_n 0, 1) := by decide +kernel
theorem dX5_raise_77 : decode cX5_raise 77 = .ok (.getfield 47, 3) := by decide +kernel
theorem dX5_raise_80 : decode cX5_raise 80 = .ok (.getfield 223, 3) := by decide +kernel
theorem dX5_raise_83 : decode cX5_raise 83 = .ok (.ireturn, 1) := by decide +kernel
theorem dX5_keeps_0 : decode cX5_keeps 0 = .ok (.aload_n 0, 1) := by decide +kernel
theorem dX5_keeps_1 : decode cX5_keeps 1 = .ok (.getfield 31, 3) := by decide +kernel
theorem dX5_keeps_4 : decode cX5_keeps 4 = .ok (.iload_n 1, 1) := by decide +kernel
theorem dX5_keeps_5 : decode cX5_keeps 5 = .ok (.invokevirtual 130, 3) := by decide +kernel
theorem dX5_keeps_8 : decode cX5_keeps 8 = .ok (.ifCond .ne 5, 3) := by decide +kernel
theorem dX5_keeps_11 : decode cX5_keeps 11 = .ok (.iconst (-1), 1) := by decide +kernel
theorem dX5_keeps_12 : decode cX5_keeps 12 = .ok (.ireturn, 1) := by decide +kernel
theorem dX5_keeps_13 : decode cX5_keeps 13 = .ok (.aload_n 0, 1) := by decide +kernel
theorem dX5_keeps_14 : decode cX5_keeps 14 = .ok (.getfield 40, 3) := by decide +kernel
theorem dX5_keeps_17 : decode cX5_keeps 17 = .ok (.iload_n 1, 1) := by decide +kernel
theorem dX5_keeps_18 : decode cX5_keeps 18 = .ok (.invokevirtual 229, 3) := by decide +kernel
theorem dX5_keeps_21 : decode cX5_keeps 21 = .ok (.istore_n 2, 1) := by decide +kernel
theorem dX5_keeps_22 : decode cX5_keeps 22 = .ok (.aload_n 0, 1) := by decide +kernel
theorem dX5_keeps_23 : decode cX5_keeps 23 = .ok (.aload_n 0, 1) := by decide +kernel
theorem dX5_keeps_24 : decode cX5_keeps 24 = .ok (.getfield 31, 3) := by decide +kernel
theorem dX5_keeps_27 : decode cX5_keeps 27 = .ok (.iload_n 2, 1) := by decide +kernel
theorem dX5_keeps_28 : decode cX5_keeps 28 = .ok (.invokevirtual 179, 3) := by decide +kernel
theorem dX5_keeps_31 : decode cX5_keeps 31 = .ok (.iload_n 2, 1) := by decide +kernel
theorem dX5_keeps_32 : decode cX5_keeps 32 = .ok (.invokevirtual 90, 3) := by decide +kernel
theorem dX5_keeps_35 : decode cX5_keeps 35 = .ok (.ireturn, 1) := by decide +kernel
theorem dX5_rivals_0 : decode cX5_rivals 0 = .ok (.aload_n 0, 1) := by decide +kernel
theorem dX5_rivals_1 : decode cX5_rivals 1 = .ok (.getfield 31, 3) := by decide +kernel
theorem dX5_rivals_4 : decode cX5_rivals 4 = .ok (.iload_n 1, 1) := by decide +kernel
theorem dX5_rivals_5 : decode cX5_rivals 5 = .ok (.invokevirtual 139, 3) := by decide +kernel
theorem dX5_rivals_8 : decode cX5_rivals 8 = .ok (.ifCond .eq 19, 3) := by decide +kernel
theorem dX5_rivals_11 : decode cX5_rivals 11 = .ok (.aload_n 0, 1) := by decide +kernel
theorem dX5_rivals_12 : decode cX5_rivals 12 = .ok (.getfield 31, 3) := by decide +kernel
theorem dX5_rivals_15 : decode cX5_rivals 15 = .ok (.iload_n 2, 1) := by decide +kernel
theorem dX5_rivals_16 : decode cX5_rivals 16 = .ok (.invokevirtual 139, 3) := by decide +kernel
theorem dX5_rivals_19 : decode cX5_rivals 19 = .ok (.ifCond .eq 8, 3) := by decide +kernel
theorem dX5_rivals_22 : decode cX5_rivals 22 = .ok (.iload_n 1, 1) := by decide +kernel
theorem dX5_rivals_23 : decode cX5_rivals 23 = .ok (.iload_n 2, 1) := by decide +kernel
theorem dX5_rivals_24 : decode cX5_rivals 24 = .ok (.if_icmp .ne 5, 3) := by decide +kernel
theorem dX5_rivals_27 : decode cX5_rivals 27 = .ok (.iconst (-1), 1) := by decide +kernel
theorem dX5_rivals_28 : decode cX5_rivals 28 = .ok (.ireturn, 1) := by decide +kernel
theorem dX5_rivals_29 : decode cX5_rivals 29 = .ok (.aload_n 0, 1) := by decide +kernel
theorem dX5_rivals_30 : decode cX5_rivals 30 = .ok (.getfield 31, 3) := by decide +kernel
theorem dX5_rivals_33 : decode cX5_rivals 33 = .ok (.iload_n 3, 1) := by decide +kernel
theorem dX5_rivals_34 : decode cX5_rivals 34 = .ok (.invokevirtual 130, 3) := by decide +kernel
theorem dX5_rivals_37 : decode cX5_rivals 37 = .ok (.ifCond .eq 15, 3) := by decide +kernel
theorem dX5_rivals_40 : decode cX5_rivals 40 = .ok (.iload 4, 2) := by decide +kernel
theorem dX5_rivals_42 : decode cX5_rivals 42 = .ok (.ifCond .lt 10, 3) := by decide +kernel
theorem dX5_rivals_45 : decode cX5_rivals 45 = .ok (.iload 4, 2) := by decide +kernel
theorem dX5_rivals_47 : decode cX5_rivals 47 = .ok (.bipush 6, 2) := by decide +kernel
theorem dX5_rivals_49 : decode cX5_rivals 49 = .ok (.if_icmp .le 5, 3) := by decide +kernel
theorem dX5_rivals_52 : decode cX5_rivals 52 = .ok (.iconst (-1), 1) := by decide +kernel
theorem dX5_rivals_53 : decode cX5_rivals 53 = .ok (.ireturn, 1) := by decide +kernel
theorem dX5_rivals_54 : decode cX5_rivals 54 = .ok (.aload_n 0, 1) := by decide +kernel
theorem dX5_rivals_55 : decode cX5_rivals 55 = .ok (.getfield 40, 3) := by decide +kernel
theorem dX5_rivals_58 : decode cX5_rivals 58 = .ok (.iload_n 1, 1) := by decide +kernel
theorem dX5_rivals_59 : decode cX5_rivals 59 = .ok (.iload_n 2, 1) := by decide +kernel
theorem dX5_rivals_60 : decode cX5_rivals 60 = .ok (.iload_n 3, 1) := by decide +kernel
theorem dX5_rivals_61 : decode cX5_rivals 61 = .ok (.iload 4, 2) := by decide +kernel
theorem dX5_rivals_63 : decode cX5_rivals 63 = .ok (.invokevirtual 232, 3) := by decide +kernel
theorem dX5_rivals_66 : decode cX5_rivals 66 = .ok (.istore 5, 2) := by decide +kernel
theorem dX5_rivals_68 : decode cX5_rivals 68 = .ok (.aload_n 0, 1) := by decide +kernel
theorem dX5_rivals_69 : decode cX5_rivals 69 = .ok (.iload 5, 2) := by decide +kernel
theorem dX5_rivals_71 : decode cX5_rivals 71 = .ok (.aload_n 0, 1) := by decide +kernel
theorem dX5_rivals_72 : decode cX5_rivals 72 = .ok (.getfield 40, 3) := by decide +kernel
theorem dX5_rivals_75 : decode cX5_rivals 75 = .ok (.getfield 236, 3) := by decide +kernel
theorem dX5_rivals_78 : decode cX5_rivals 78 = .ok (.invokevirtual 90, 3) := by decide +kernel
theorem dX5_rivals_81 : decode cX5_rivals 81 = .ok (.ireturn, 1) := by decide +kernel
theorem dX5_played_0 : decode cX5_played 0 = .ok (.aload_n 0, 1) := by decide +kernel
theorem dX5_played_1 : decode cX5_played 1 = .ok (.iload_n 1, 1) := by decide +kernel
theorem dX5_played_2 : decode cX5_played 2 = .ok (.invokevirtual 239, 3) := by decide +kernel
theorem dX5_played_5 : decode cX5_played 5 = .ok (.istore_n 2, 1) := by decide +kernel
theorem dX5_played_6 : decode cX5_played 6 = .ok (.iload_n 2, 1) := by decide +kernel
theorem dX5_played_7 : decode cX5_played 7 = .ok (.ifCond .eq 5, 3) := by decide +kernel
theorem dX5_played_10 : decode cX5_played 10 = .ok (.iload_n 2, 1) := by decide +kernel
theorem dX5_played_11 : decode cX5_played 11 = .ok (.ireturn, 1) := by decide +kernel
theorem dX5_played_12 : decode cX5_played 12 = .ok (.iconst 0, 1) := by decide +kernel
theorem dX5_played_13 : decode cX5_played 13 = .ok (.istore_n 3, 1) := by decide +kernel
theorem dX5_played_14 : decode cX5_played 14 = .ok (.bipush (-9), 2) := by decide +kernel
theorem dX5_played_16 : decode cX5_played 16 = .ok (.istore 4, 2) := by decide +kernel
theorem dX5_played_18 : decode cX5_played 18 = .ok (.aload_n 0, 1) := by decide +kernel
theorem dX5_played_19 : decode cX5_played 19 = .ok (.getfield 31, 3) := by decide +kernel
theorem dX5_played_22 : decode cX5_played 22 = .ok (.invokevirtual 242, 3) := by decide +kernel
theorem dX5_played_25 : decode cX5_played 25 = .ok (.istore 5, 2) := by decide +kernel
theorem dX5_played_27 : decode cX5_played 27 = .ok (.iconst 0, 1) := by decide +kernel
theorem dX5_played_28 : decode cX5_played 28 = .ok (.istore 6, 2) := by decide +kernel
theorem dX5_played_30 : decode cX5_played 30 = .ok (.iload 6, 2) := by decide +kernel
theorem dX5_played_32 : decode cX5_played 32 = .ok (.iload 5, 2) := by decide +kernel
theorem dX5_played_34 : decode cX5_played 34 = .ok (.if_icmp .ge 49, 3) := by decide +kernel
theorem dX5_played_37 : decode cX5_played 37 = .ok (.aload_n 0, 1) := by decide +kernel
theorem dX5_played_38 : decode cX5_played 38 = .ok (.getfield 40, 3) := by decide +kernel
theorem dX5_played_41 : decode cX5_played 41 = .ok (.iload 6, 2) := by decide +kernel
theorem dX5_played_43 : decode cX5_played 43 = .ok (.iconst 1, 1) := by decide +kernel
theorem dX5_played_44 : decode cX5_played 44 = .ok (.invokevirtual 195, 3) := by decide +kernel
theorem dX5_played_47 : decode cX5_played 47 = .ok (.pop, 1) := by decide +kernel
theorem dX5_played_48 : decode cX5_played 48 = .ok (.aload_n 0, 1) := by decide +kernel
theorem dX5_played_49 : decode cX5_played 49 = .ok (.iload_n 1, 1) := by decide +kernel
theorem dX5_played_50 : decode cX5_played 50 = .ok (.aload_n 0, 1) := by decide +kernel
theorem dX5_played_51 : decode cX5_played 51 = .ok (.getfield 40, 3) := by decide +kernel
theorem dX5_played_54 : decode cX5_played 54 = .ok (.getfield 198, 3) := by decide +kernel
theorem dX5_played_57 : decode cX5_played 57 = .ok (.invokevirtual 245, 3) := by decide +kernel
theorem dX5_played_60 : decode cX5_played 60 = .ok (.ifCond .ne 6, 3) := by decide +kernel
theorem dX5_played_63 : decode cX5_played 63 = .ok (.goto 14, 3) := by decide +kernel
theorem dX5_played_66 : decode cX5_played 66 = .ok (.iload_n 3, 1) := by decide +kernel
theorem dX5_played_67 : decode cX5_played 67 = .ok (.ifCond .ne 7, 3) := by decide +kernel
theorem dX5_played_70 : decode cX5_played 70 = .ok (.iload 6, 2) := by decide +kernel
theorem dX5_played_72 : decode cX5_played 72 = .ok (.istore 4, 2) := by decide +kernel
theorem dX5_played_74 : decode cX5_played 74 = .ok (.iinc 3 1, 3) := by decide +kernel
theorem dX5_played_77 : decode cX5_played 77 = .ok (.iinc 6 1, 3) := by decide +kernel
theorem dX5_played_80 : decode cX5_played 80 = .ok (.goto (-50), 3) := by decide +kernel
theorem dX5_played_83 : decode cX5_played 83 = .ok (.aload_n 0, 1) := by decide +kernel
theorem dX5_played_84 : decode cX5_played 84 = .ok (.iload_n 3, 1) := by decide +kernel
theorem dX5_played_85 : decode cX5_played 85 = .ok (.iload 4, 2) := by decide +kernel
theorem dX5_played_87 : decode cX5_played 87 = .ok (.invokevirtual 90, 3) := by decide +kernel
theorem dX5_played_90 : decode cX5_played 90 = .ok (.ireturn, 1) := by decide +kernel
theorem dX5_could_0 : decode cX5_could 0 = .ok (.aload_n 0, 1) := by decide +kernel
theorem dX5_could_1 : decode cX5_could 1 = .ok (.getfield 31, 3) := by decide +kernel
theorem dX5_could_4 : decode cX5_could 4 = .ok (.iload_n 1, 1) := by decide +kernel
theorem dX5_could_5 : decode cX5_could 5 = .ok (.invokevirtual 139, 3) := by decide +kernel
theorem dX5_could_8 : decode cX5_could 8 = .ok (.ifCond .eq 14, 3) := by decide +kernel
theorem dX5_could_11 : decode cX5_could 11 = .ok (.aload_n 0, 1) := by decide +kernel
theorem dX5_could_12 : decode cX5_could 12 = .ok (.getfield 14, 3) := by decide +kernel
theorem dX5_could_15 : decode cX5_could 15 = .ok (.iload_n 2, 1) := by decide +kernel
theorem dX5_could_16 : decode cX5_could 16 = .ok (.invokevirtual 74, 3) := by decide +kernel
theorem dX5_could_19 : decode cX5_could 19 = .ok (.ifCond .ne 5, 3) := by decide +kernel
theorem dX5_could_22 : decode cX5_could 22 = .ok (.iconst (-1), 1) := by decide +kernel
theorem dX5_could_23 : decode cX5_could 23 = .ok (.ireturn, 1) := by decide +kernel
theorem dX5_could_24 : decode cX5_could 24 = .ok (.aload_n 0, 1) := by decide +kernel
theorem dX5_could_25 : decode cX5_could 25 = .ok (.iload_n 2, 1) := by decide +kernel
theorem dX5_could_26 : decode cX5_could 26 = .ok (.invokevirtual 249, 3) := by decide +kernel
theorem dX5_could_29 : decode cX5_could 29 = .ok (.istore_n 3, 1) := by decide +kernel
theorem dX5_could_30 : decode cX5_could 30 = .ok (.iload_n 3, 1) := by decide +kernel
theorem dX5_could_31 : decode cX5_could 31 = .ok (.ifCond .eq 5, 3) := by decide +kernel
theorem dX5_could_34 : decode cX5_could 34 = .ok (.iload_n 3, 1) := by decide +kernel
theorem dX5_could_35 : decode cX5_could 35 = .ok (.ireturn, 1) := by decide +kernel
theorem dX5_could_36 : decode cX5_could 36 = .ok (.iconst 0, 1) := by decide +kernel
theorem dX5_could_37 : decode cX5_could 37 = .ok (.istore 4, 2) := by decide +kernel
theorem dX5_could_39 : decode cX5_could 39 = .ok (.aload_n 0, 1) := by decide +kernel
theorem dX5_could_40 : decode cX5_could 40 = .ok (.getfield 31, 3) := by decide +kernel
theorem dX5_could_43 : decode cX5_could 43 = .ok (.invokevirtual 242, 3) := by decide +kernel
theorem dX5_could_46 : decode cX5_could 46 = .ok (.istore 5, 2) := by decide +kernel
theorem dX5_could_48 : decode cX5_could 48 = .ok (.iconst 0, 1) := by decide +kernel
theorem dX5_could_49 : decode cX5_could 49 = .ok (.istore 6, 2) := by decide +kernel
theorem dX5_could_51 : decode cX5_could 51 = .ok (.iload 6, 2) := by decide +kernel
theorem dX5_could_53 : decode cX5_could 53 = .ok (.iload 5, 2) := by decide +kernel
theorem dX5_could_55 : decode cX5_could 55 = .ok (.if_icmp .ge 52, 3) := by decide +kernel
theorem dX5_could_58 : decode cX5_could 58 = .ok (.aload_n 0, 1) := by decide +kernel
theorem dX5_could_59 : decode cX5_could 59 = .ok (.getfield 40, 3) := by decide +kernel
theorem dX5_could_62 : decode cX5_could 62 = .ok (.iload 6, 2) := by decide +kernel
theorem dX5_could_64 : decode cX5_could 64 = .ok (.iconst 1, 1) := by decide +kernel
theorem dX5_could_65 : decode cX5_could 65 = .ok (.invokevirtual 195, 3) := by decide +kernel
theorem dX5_could_68 : decode cX5_could 68 = .ok (.pop, 1) := by decide +kernel
theorem dX5_could_69 : decode cX5_could 69 = .ok (.aload_n 0, 1) := by decide +kernel
theorem dX5_could_70 : decode cX5_could 70 = .ok (.iload_n 2, 1) := by decide +kernel
theorem dX5_could_71 : decode cX5_could 71 = .ok (.aload_n 0, 1) := by decide +kernel
theorem dX5_could_72 : decode cX5_could 72 = .ok (.getfield 40, 3) := by decide +kernel
theorem dX5_could_75 : decode cX5_could 75 = .ok (.getfield 198, 3) := by decide +kernel
theorem dX5_could_78 : decode cX5_could 78 = .ok (.invokevirtual 245, 3) := by decide +kernel
theorem dX5_could_81 : decode cX5_could 81 = .ok (.ifCond .eq 20, 3) := by decide +kernel
theorem dX5_could_84 : decode cX5_could 84 = .ok (.iload 4, 2) := by decide +kernel
theorem dX5_could_86 : decode cX5_could 86 = .ok (.iconst 1, 1) := by decide +kernel
theorem dX5_could_87 : decode cX5_could 87 = .ok (.aload_n 0, 1) := by decide +kernel
theorem dX5_could_88 : decode cX5_could 88 = .ok (.getfield 31, 3) := by decide +kernel
theorem dX5_could_91 : decode cX5_could 91 = .ok (.iload 6, 2) := by decide +kernel
theorem dX5_could_93 : decode cX5_could 93 = .ok (.iload_n 1, 1) := by decide +kernel
theorem dX5_could_94 : decode cX5_could 94 = .ok (.invokevirtual 252, 3) := by decide +kernel
theorem dX5_could_97 : decode cX5_could 97 = .ok (.ishl, 1) := by decide +kernel
theorem dX5_could_98 : decode cX5_could 98 = .ok (.ior, 1) := by decide +kernel
theorem dX5_could_99 : decode cX5_could 99 = .ok (.istore 4, 2) := by decide +kernel
theorem dX5_could_101 : decode cX5_could 101 = .ok (.iinc 6 1, 3) := by decide +kernel
theorem dX5_could_104 : decode cX5_could 104 = .ok (.goto (-53), 3) := by decide +kernel
theorem dX5_could_107 : decode cX5_could 107 = .ok (.iload 4, 2) := by decide +kernel
theorem dX5_could_109 : decode cX5_could 109 = .ok (.ireturn, 1) := by decide +kernel
theorem dX5_twice_0 : decode cX5_twice 0 = .ok (.aload_n 0, 1) := by decide +kernel
theorem dX5_twice_1 : decode cX5_twice 1 = .ok (.iload_n 1, 1) := by decide +kernel
theorem dX5_twice_2 : decode cX5_twice 2 = .ok (.invokevirtual 239, 3) := by decide +kernel
theorem dX5_twice_5 : decode cX5_twice 5 = .ok (.istore_n 2, 1) := by decide +kernel
theorem dX5_twice_6 : decode cX5_twice 6 = .ok (.iload_n 2, 1) := by decide +kernel
theorem dX5_twice_7 : decode cX5_twice 7 = .ok (.ifCond .eq 5, 3) := by decide +kernel
theorem dX5_twice_10 : decode cX5_twice 10 = .ok (.iload_n 2, 1) := by decide +kernel
theorem dX5_twice_11 : decode cX5_twice 11 = .ok (.ireturn, 1) := by decide +kernel
theorem dX5_twice_12 : decode cX5_twice 12 = .ok (.iconst 0, 1) := by decide +kernel
theorem dX5_twice_13 : decode cX5_twice 13 = .ok (.istore_n 3, 1) := by decide +kernel
theorem dX5_twice_14 : decode cX5_twice 14 = .ok (.bipush (-9), 2) := by decide +kernel
theorem dX5_twice_16 : decode cX5_twice 16 = .ok (.istore 4, 2) := by decide +kernel
theorem dX5_twice_18 : decode cX5_twice 18 = .ok (.aload_n 0, 1) := by decide +kernel
theorem dX5_twice_19 : decode cX5_twice 19 = .ok (.getfield 31, 3) := by decide +kernel
theorem dX5_twice_22 : decode cX5_twice 22 = .ok (.invokevirtual 242, 3) := by decide +kernel
theorem dX5_twice_25 : decode cX5_twice 25 = .ok (.istore 5, 2) := by decide +kernel
theorem dX5_twice_27 : decode cX5_twice 27 = .ok (.iconst 0, 1) := by decide +kernel
theorem dX5_twice_28 : decode cX5_twice 28 = .ok (.istore 6, 2) := by decide +kernel
theorem dX5_twice_30 : decode cX5_twice 30 = .ok (.iload 6, 2) := by decide +kernel
theorem dX5_twice_32 : decode cX5_twice 32 = .ok (.iload 5, 2) := by decide +kernel
theorem dX5_twice_34 : decode cX5_twice 34 = .ok (.if_icmp .ge 81, 3) := by decide +kernel
theorem dX5_twice_37 : decode cX5_twice 37 = .ok (.aload_n 0, 1) := by decide +kernel
theorem dX5_twice_38 : decode cX5_twice 38 = .ok (.getfield 40, 3) := by decide +kernel
theorem dX5_twice_41 : decode cX5_twice 41 = .ok (.iload 6, 2) := by decide +kernel
theorem dX5_twice_43 : decode cX5_twice 43 = .ok (.iconst 1, 1) := by decide +kernel
theorem dX5_twice_44 : decode cX5_twice 44 = .ok (.invokevirtual 195, 3) := by decide +kernel
theorem dX5_twice_47 : decode cX5_twice 47 = .ok (.pop, 1) := by decide +kernel
theorem dX5_twice_48 : decode cX5_twice 48 = .ok (.iconst 0, 1) := by decide +kernel
theorem dX5_twice_49 : decode cX5_twice 49 = .ok (.istore 7, 2) := by decide +kernel
theorem dX5_twice_51 : decode cX5_twice 51 = .ok (.iload 7, 2) := by decide +kernel
theorem dX5_twice_53 : decode cX5_twice 53 = .ok (.iload 5, 2) := by decide +kernel
theorem dX5_twice_55 : decode cX5_twice 55 = .ok (.if_icmp .ge 54, 3) := by decide +kernel
theorem dX5_twice_58 : decode cX5_twice 58 = .ok (.aload_n 0, 1) := by decide +kernel
theorem dX5_twice_59 : decode cX5_twice 59 = .ok (.getfield 40, 3) := by decide +kernel
theorem dX5_twice_62 : decode cX5_twice 62 = .ok (.iload 7, 2) := by decide +kernel
theorem dX5_twice_64 : decode cX5_twice 64 = .ok (.invokevirtual 255, 3) := by decide +kernel
theorem dX5_twice_67 : decode cX5_twice 67 = .ok (.aload_n 0, 1) := by decide +kernel
theorem dX5_twice_68 : decode cX5_twice 68 = .ok (.iload_n 1, 1) := by decide +kernel
theorem dX5_twice_69 : decode cX5_twice 69 = .ok (.aload_n 0, 1) := by decide +kernel
theorem dX5_twice_70 : decode cX5_twice 70 = .ok (.getfield 40, 3) := by decide +kernel
theorem dX5_twice_73 : decode cX5_twice 73 = .ok (.getfield 258, 3) := by decide +kernel
theorem dX5_twice_76 : decode cX5_twice 76 = .ok (.invokevirtual 245, 3) := by decide +kernel
theorem dX5_twice_79 : decode cX5_twice 79 = .ok (.ifCond .ne 6, 3) := by decide +kernel
theorem dX5_twice_82 : decode cX5_twice 82 = .ok (.goto 21, 3) := by decide +kernel
theorem dX5_twice_85 : decode cX5_twice 85 = .ok (.iload_n 3, 1) := by decide +kernel
theorem dX5_twice_86 : decode cX5_twice 86 = .ok (.ifCond .ne 14, 3) := by decide +kernel
theorem dX5_twice_89 : decode cX5_twice 89 = .ok (.sipush 1000, 3) := by decide +kernel
theorem dX5_twice_92 : decode cX5_twice 92 = .ok (.iload 6, 2) := by decide +kernel
theorem dX5_twice_94 : decode cX5_twice 94 = .ok (.imul, 1) := by decide +kernel
theorem dX5_twice_95 : decode cX5_twice 95 = .ok (.iload 7, 2) := by decide +kernel
theorem dX5_twice_97 : decode cX5_twice 97 = .ok (.iadd, 1) := by decide +kernel
theorem dX5_twice_98 : decode cX5_twice 98 = .ok (.istore 4, 2) := by decide +kernel
theorem dX5_twice_100 : decode cX5_twice 100 = .ok (.iinc 3 1, 3) := by decide +kernel
theorem dX5_twice_103 : decode cX5_twice 103 = .ok (.iinc 7 1, 3) := by decide +kernel
theorem dX5_twice_106 : decode cX5_twice 106 = .ok (.goto (-55), 3) := by decide +kernel
theorem dX5_twice_109 : decode cX5_twice 109 = .ok (.iinc 6 1, 3) := by decide +kernel
theorem dX5_twice_112 : decode cX5_twice 112 = .ok (.goto (-82), 3) := by decide +kernel
theorem dX5_twice_115 : decode cX5_twice 115 = .ok (.aload_n 0, 1) := by decide +kernel
theorem dX5_twice_116 : decode cX5_twice 116 = .ok (.iload_n 3, 1) := by decide +kernel
theorem dX5_twice_117 : decode cX5_twice 117 = .ok (.iload 4, 2) := by decide +kernel
theorem dX5_twice_119 : decode cX5_twice 119 = .ok (.invokevirtual 90, 3) := by decide +kernel
theorem dX5_twice_122 : decode cX5_twice 122 = .ok (.ireturn, 1) := by decide +kernel
theorem dX5_valleys_0 : decode cX5_valleys 0 = .ok (.iconst 0, 1) := by decide +kernel
theorem dX5_valleys_1 : decode cX5_valleys 1 = .ok (.istore_n 1, 1) := by decide +kernel
theorem dX5_valleys_2 : decode cX5_valleys 2 = .ok (.iconst 0, 1) := by decide +kernel
theorem dX5_valleys_3 : decode cX5_valleys 3 = .ok (.istore_n 2, 1) := by decide +kernel
theorem dX5_valleys_4 : decode cX5_valleys 4 = .ok (.iconst 0, 1) := by decide +kernel
theorem dX5_valleys_5 : decode cX5_valleys 5 = .ok (.istore_n 3, 1) := by decide +kernel
theorem dX5_valleys_6 : decode cX5_valleys 6 = .ok (.iconst 0, 1) := by decide +kernel
theorem dX5_valleys_7 : decode cX5_valleys 7 = .ok (.istore 4, 2) := by decide +kernel
theorem dX5_valleys_9 : decode cX5_valleys 9 = .ok (.iload 4, 2) := by decide +kernel
theorem dX5_valleys_11 : decode cX5_valleys 11 = .ok (.aload_n 0, 1) := by decide +kernel
theorem dX5_valleys_12 : decode cX5_valleys 12 = .ok (.getfield 31, 3) := by decide +kernel
theorem dX5_valleys_15 : decode cX5_valleys 15 = .ok (.getfield 127, 3) := by decide +kernel
theorem dX5_valleys_18 : decode cX5_valleys 18 = .ok (.if_icmp .ge 44, 3) := by decide +kernel
theorem dX5_valleys_21 : decode cX5_valleys 21 = .ok (.aload_n 0, 1) := by decide +kernel
theorem dX5_valleys_22 : decode cX5_valleys 22 = .ok (.getfield 31, 3) := by decide +kernel
theorem dX5_valleys_25 : decode cX5_valleys 25 = .ok (.getfield 136, 3) := by decide +kernel
theorem dX5_valleys_28 : decode cX5_valleys 28 = .ok (.iload 4, 2) := by decide +kernel
theorem dX5_valleys_30 : decode cX5_valleys 30 = .ok (.iaload, 1) := by decide +kernel
theorem dX5_valleys_31 : decode cX5_valleys 31 = .ok (.ifCond .ne 9, 3) := by decide +kernel
theorem dX5_valleys_34 : decode cX5_valleys 34 = .ok (.iload_n 2, 1) := by decide +kernel
theorem dX5_valleys_35 : decode cX5_valleys 35 = .ok (.iconst 1, 1) := by decide +kernel
theorem dX5_valleys_36 : decode cX5_valleys 36 = .ok (.iadd, 1) := by decide +kernel
theorem dX5_valleys_37 : decode cX5_valleys 37 = .ok (.goto 4, 3) := by decide +kernel
theorem dX5_valleys_40 : decode cX5_valleys 40 = .ok (.iconst 0, 1) := by decide +kernel
theorem dX5_valleys_41 : decode cX5_valleys 41 = .ok (.istore_n 2, 1) := by decide +kernel
theorem dX5_valleys_42 : decode cX5_valleys 42 = .ok (.iload_n 2, 1) := by decide +kernel
theorem dX5_valleys_43 : decode cX5_valleys 43 = .ok (.iconst 1, 1) := by decide +kernel
theorem dX5_valleys_44 : decode cX5_valleys 44 = .ok (.if_icmp .ne 6, 3) := by decide +kernel
theorem dX5_valleys_47 : decode cX5_valleys 47 = .ok (.iinc 1 1, 3) := by decide +kernel
theorem dX5_valleys_50 : decode cX5_valleys 50 = .ok (.iload_n 3, 1) := by decide +kernel
theorem dX5_valleys_51 : decode cX5_valleys 51 = .ok (.iload_n 2, 1) := by decide +kernel
theorem dX5_valleys_52 : decode cX5_valleys 52 = .ok (.invokestatic 261, 3) := by decide +kernel
theorem dX5_valleys_55 : decode cX5_valleys 55 = .ok (.istore_n 3, 1) := by decide +kernel
theorem dX5_valleys_56 : decode cX5_valleys 56 = .ok (.iinc 4 1, 3) := by decide +kernel
theorem dX5_valleys_59 : decode cX5_valleys 59 = .ok (.goto (-50), 3) := by decide +kernel
theorem dX5_valleys_62 : decode cX5_valleys 62 = .ok (.aload_n 0, 1) := by decide +kernel
theorem dX5_valleys_63 : decode cX5_valleys 63 = .ok (.iload_n 1, 1) := by decide +kernel
theorem dX5_valleys_64 : decode cX5_valleys 64 = .ok (.iload_n 3, 1) := by decide +kernel
theorem dX5_valleys_65 : decode cX5_valleys 65 = .ok (.invokevirtual 90, 3) := by decide +kernel
theorem dX5_valleys_68 : decode cX5_valleys 68 = .ok (.ireturn, 1) := by decide +kernel
theorem dX5_top_0 : decode cX5_top 0 = .ok (.aload_n 0, 1) := by decide +kernel
theorem dX5_top_1 : decode cX5_top 1 = .ok (.getfield 31, 3) := by decide +kernel
theorem dX5_top_4 : decode cX5_top 4 = .ok (.getfield 127, 3) := by decide +kernel
theorem dX5_top_7 : decode cX5_top 7 = .ok (.ifCond .ne 6, 3) := by decide +kernel
theorem dX5_top_10 : decode cX5_top 10 = .ok (.bipush (-4), 2) := by decide +kernel
theorem dX5_top_12 : decode cX5_top 12 = .ok (.ireturn, 1) := by decide +kernel
theorem dX5_top_13 : decode cX5_top 13 = .ok (.aload_n 0, 1) := by decide +kernel
theorem dX5_top_14 : decode cX5_top 14 = .ok (.getfield 31, 3) := by decide +kernel
theorem dX5_top_17 : decode cX5_top 17 = .ok (.aload_n 0, 1) := by decide +kernel
theorem dX5_top_18 : decode cX5_top 18 = .ok (.getfield 31, 3) := by decide +kernel
theorem dX5_top_21 : decode cX5_top 21 = .ok (.getfield 136, 3) := by decide +kernel
theorem dX5_top_24 : decode cX5_top 24 = .ok (.iconst 0, 1) := by decide +kernel
theorem dX5_top_25 : decode cX5_top 25 = .ok (.aload_n 0, 1) := by decide +kernel
theorem dX5_top_26 : decode cX5_top 26 = .ok (.getfield 31, 3) := by decide +kernel
theorem dX5_top_29 : decode cX5_top 29 = .ok (.getfield 127, 3) := by decide +kernel
theorem dX5_top_32 : decode cX5_top 32 = .ok (.iconst 1, 1) := by decide +kernel
theorem dX5_top_33 : decode cX5_top 33 = .ok (.isub, 1) := by decide +kernel
theorem dX5_top_34 : decode cX5_top 34 = .ok (.invokevirtual 266, 3) := by decide +kernel
theorem dX5_top_37 : decode cX5_top 37 = .ok (.istore_n 1, 1) := by decide +kernel
theorem dX5_top_38 : decode cX5_top 38 = .ok (.aload_n 0, 1) := by decide +kernel
theorem dX5_top_39 : decode cX5_top 39 = .ok (.iload_n 1, 1) := by decide +kernel
theorem dX5_top_40 : decode cX5_top 40 = .ok (.aload_n 0, 1) := by decide +kernel
theorem dX5_top_41 : decode cX5_top 41 = .ok (.getfield 31, 3) := by decide +kernel
theorem dX5_top_44 : decode cX5_top 44 = .ok (.getfield 136, 3) := by decide +kernel
theorem dX5_top_47 : decode cX5_top 47 = .ok (.iload_n 1, 1) := by decide +kernel
theorem dX5_top_48 : decode cX5_top 48 = .ok (.iaload, 1) := by decide +kernel
theorem dX5_top_49 : decode cX5_top 49 = .ok (.invokevirtual 90, 3) := by decide +kernel
theorem dX5_top_52 : decode cX5_top 52 = .ok (.ireturn, 1) := by decide +kernel
theorem dX5_border_0 : decode cX5_border 0 = .ok (.aload_n 0, 1) := by decide +kernel
theorem dX5_border_1 : decode cX5_border 1 = .ok (.iload_n 1, 1) := by decide +kernel
theorem dX5_border_2 : decode cX5_border 2 = .ok (.iload_n 2, 1) := by decide +kernel
theorem dX5_border_3 : decode cX5_border 3 = .ok (.invokevirtual 270, 3) := by decide +kernel
theorem dX5_border_6 : decode cX5_border 6 = .ok (.ifCond .ne 5, 3) := by decide +kernel
theorem dX5_border_9 : decode cX5_border 9 = .ok (.iconst (-1), 1) := by decide +kernel
theorem dX5_border_10 : decode cX5_border 10 = .ok (.ireturn, 1) := by decide +kernel
theorem dX5_border_11 : decode cX5_border 11 = .ok (.aload_n 0, 1) := by decide +kernel
theorem dX5_border_12 : decode cX5_border 12 = .ok (.getfield 31, 3) := by decide +kernel
theorem dX5_border_15 : decode cX5_border 15 = .ok (.aload_n 0, 1) := by decide +kernel
theorem dX5_border_16 : decode cX5_border 16 = .ok (.getfield 31, 3) := by decide +kernel
theorem dX5_border_19 : decode cX5_border 19 = .ok (.getfield 136, 3) := by decide +kernel
theorem dX5_border_22 : decode cX5_border 22 = .ok (.iload_n 1, 1) := by decide +kernel
theorem dX5_border_23 : decode cX5_border 23 = .ok (.iload_n 2, 1) := by decide +kernel
theorem dX5_border_24 : decode cX5_border 24 = .ok (.invokevirtual 266, 3) := by decide +kernel
theorem dX5_border_27 : decode cX5_border 27 = .ok (.istore_n 3, 1) := by decide +kernel
theorem dX5_border_28 : decode cX5_border 28 = .ok (.aload_n 0, 1) := by decide +kernel
theorem dX5_border_29 : decode cX5_border 29 = .ok (.iload_n 3, 1) := by decide +kernel
theorem dX5_border_30 : decode cX5_border 30 = .ok (.aload_n 0, 1) := by decide +kernel
theorem dX5_border_31 : decode cX5_border 31 = .ok (.getfield 31, 3) := by decide +kernel
theorem dX5_border_34 : decode cX5_border 34 = .ok (.getfield 136, 3) := by decide +kernel
theorem dX5_border_37 : decode cX5_border 37 = .ok (.iload_n 3, 1) := by decide +kernel
theorem dX5_border_38 : decode cX5_border 38 = .ok (.iaload, 1) := by decide +kernel
theorem dX5_border_39 : decode cX5_border 39 = .ok (.invokevirtual 90, 3) := by decide +kernel
theorem dX5_border_42 : decode cX5_border 42 = .ok (.ireturn, 1) := by decide +kernel
theorem dX5_shifts_0 : decode cX5_shifts 0 = .ok (.aload_n 0, 1) := by decide +kernel
theorem dX5_shifts_1 : decode cX5_shifts 1 = .ok (.iload_n 1, 1) := by decide +kernel
theorem dX5_shifts_2 : decode cX5_shifts 2 = .ok (.iload_n 2, 1) := by decide +kernel
theorem dX5_shifts_3 : decode cX5_shifts 3 = .ok (.invokevirtual 270, 3) := by decide +kernel
theorem dX5_shifts_6 : decode cX5_shifts 6 = .ok (.ifCond .ne 5, 3) := by decide +kernel
theorem dX5_shifts_9 : decode cX5_shifts 9 = .ok (.iconst (-1), 1) := by decide +kernel
theorem dX5_shifts_10 : decode cX5_shifts 10 = .ok (.ireturn, 1) := by decide +kernel
theorem dX5_shifts_11 : decode cX5_shifts 11 = .ok (.aload_n 0, 1) := by decide +kernel
theorem dX5_shifts_12 : decode cX5_shifts 12 = .ok (.getfield 31, 3) := by decide +kernel
theorem dX5_shifts_15 : decode cX5_shifts 15 = .ok (.aload_n 0, 1) := by decide +kernel
theorem dX5_shifts_16 : decode cX5_shifts 16 = .ok (.getfield 31, 3) := by decide +kernel
theorem dX5_shifts_19 : decode cX5_shifts 19 = .ok (.getfield 136, 3) := by decide +kernel
theorem dX5_shifts_22 : decode cX5_shifts 22 = .ok (.iload_n 1, 1) := by decide +kernel
theorem dX5_shifts_23 : decode cX5_shifts 23 = .ok (.iload_n 2, 1) := by decide +kernel
theorem dX5_shifts_24 : decode cX5_shifts 24 = .ok (.invokevirtual 266, 3) := by decide +kernel
theorem dX5_shifts_27 : decode cX5_shifts 27 = .ok (.istore_n 3, 1) := by decide +kernel
theorem dX5_shifts_28 : decode cX5_shifts 28 = .ok (.iconst 0, 1) := by decide +kernel
theorem dX5_shifts_29 : decode cX5_shifts 29 = .ok (.istore 4, 2) := by decide +kernel
theorem dX5_shifts_31 : decode cX5_shifts 31 = .ok (.bipush (-9), 2) := by decide +kernel
theorem dX5_shifts_33 : decode cX5_shifts 33 = .ok (.istore 5, 2) := by decide +kernel
theorem dX5_shifts_35 : decode cX5_shifts 35 = .ok (.aload_n 0, 1) := by decide +kernel
theorem dX5_shifts_36 : decode cX5_shifts 36 = .ok (.getfield 31, 3) := by decide +kernel
theorem dX5_shifts_39 : decode cX5_shifts 39 = .ok (.invokevirtual 242, 3) := by decide +kernel
theorem dX5_shifts_42 : decode cX5_shifts 42 = .ok (.istore 6, 2) := by decide +kernel
theorem dX5_shifts_44 : decode cX5_shifts 44 = .ok (.iconst 0, 1) := by decide +kernel
theorem dX5_shifts_45 : decode cX5_shifts 45 = .ok (.istore 7, 2) := by decide +kernel
theorem dX5_shifts_47 : decode cX5_shifts 47 = .ok (.iload 7, 2) := by decide +kernel
theorem dX5_shifts_49 : decode cX5_shifts 49 = .ok (.iload 6, 2) := by decide +kernel
theorem dX5_shifts_51 : decode cX5_shifts 51 = .ok (.if_icmp .ge 55, 3) := by decide +kernel
theorem dX5_shifts_54 : decode cX5_shifts 54 = .ok (.aload_n 0, 1) := by decide +kernel
theorem dX5_shifts_55 : decode cX5_shifts 55 = .ok (.getfield 40, 3) := by decide +kernel
theorem dX5_shifts_58 : decode cX5_shifts 58 = .ok (.iload 7, 2) := by decide +kernel
theorem dX5_shifts_60 : decode cX5_shifts 60 = .ok (.iconst 1, 1) := by decide +kernel
theorem dX5_shifts_61 : decode cX5_shifts 61 = .ok (.invokevirtual 195, 3) := by decide +kernel
theorem dX5_shifts_64 : decode cX5_shifts 64 = .ok (.pop, 1) := by decide +kernel
theorem dX5_shifts_65 : decode cX5_shifts 65 = .ok (.aload_n 0, 1) := by decide +kernel
theorem dX5_shifts_66 : decode cX5_shifts 66 = .ok (.getfield 31, 3) := by decide +kernel
theorem dX5_shifts_69 : decode cX5_shifts 69 = .ok (.aload_n 0, 1) := by decide +kernel
theorem dX5_shifts_70 : decode cX5_shifts 70 = .ok (.getfield 40, 3) := by decide +kernel
theorem dX5_shifts_73 : decode cX5_shifts 73 = .ok (.getfield 198, 3) := by decide +kernel
theorem dX5_shifts_76 : decode cX5_shifts 76 = .ok (.iload_n 1, 1) := by decide +kernel
theorem dX5_shifts_77 : decode cX5_shifts 77 = .ok (.iload_n 2, 1) := by decide +kernel
theorem dX5_shifts_78 : decode cX5_shifts 78 = .ok (.invokevirtual 266, 3) := by decide +kernel
theorem dX5_shifts_81 : decode cX5_shifts 81 = .ok (.iload_n 3, 1) := by decide +kernel
theorem dX5_shifts_82 : decode cX5_shifts 82 = .ok (.if_icmp .ne 6, 3) := by decide +kernel
theorem dX5_shifts_85 : decode cX5_shifts 85 = .ok (.goto 15, 3) := by decide +kernel
theorem dX5_shifts_88 : decode cX5_shifts 88 = .ok (.iload 4, 2) := by decide +kernel
theorem dX5_shifts_90 : decode cX5_shifts 90 = .ok (.ifCond .ne 7, 3) := by decide +kernel
theorem dX5_shifts_93 : decode cX5_shifts 93 = .ok (.iload 7, 2) := by decide +kernel
theorem dX5_shifts_95 : decode cX5_shifts 95 = .ok (.istore 5, 2) := by decide +kernel
theorem dX5_shifts_97 : decode cX5_shifts 97 = .ok (.iinc 4 1, 3) := by decide +kernel
theorem dX5_shifts_100 : decode cX5_shifts 100 = .ok (.iinc 7 1, 3) := by decide +kernel
theorem dX5_shifts_103 : decode cX5_shifts 103 = .ok (.goto (-56), 3) := by decide +kernel
theorem dX5_shifts_106 : decode cX5_shifts 106 = .ok (.aload_n 0, 1) := by decide +kernel
theorem dX5_shifts_107 : decode cX5_shifts 107 = .ok (.iload 4, 2) := by decide +kernel
theorem dX5_shifts_109 : decode cX5_shifts 109 = .ok (.iload 5, 2) := by decide +kernel
theorem dX5_shifts_111 : decode cX5_shifts 111 = .ok (.invokevirtual 90, 3) := by decide +kernel
theorem dX5_shifts_114 : decode cX5_shifts 114 = .ok (.ireturn, 1) := by decide +kernel
theorem dX5_far_0 : decode cX5_far 0 = .ok (.aload_n 0, 1) := by decide +kernel
theorem dX5_far_1 : decode cX5_far 1 = .ok (.iload_n 1, 1) := by decide +kernel
theorem dX5_far_2 : decode cX5_far 2 = .ok (.invokevirtual 239, 3) := by decide +kernel
theorem dX5_far_5 : decode cX5_far 5 = .ok (.istore_n 2, 1) := by decide +kernel
theorem dX5_far_6 : decode cX5_far 6 = .ok (.iload_n 2, 1) := by decide +kernel
theorem dX5_far_7 : decode cX5_far 7 = .ok (.ifCond .eq 5, 3) := by decide +kernel
theorem dX5_far_10 : decode cX5_far 10 = .ok (.iload_n 2, 1) := by decide +kernel
theorem dX5_far_11 : decode cX5_far 11 = .ok (.ireturn, 1) := by decide +kernel
theorem dX5_far_12 : decode cX5_far 12 = .ok (.iconst 0, 1) := by decide +kernel
theorem dX5_far_13 : decode cX5_far 13 = .ok (.istore_n 3, 1) := by decide +kernel
theorem dX5_far_14 : decode cX5_far 14 = .ok (.iload_n 3, 1) := by decide +kernel
theorem dX5_far_15 : decode cX5_far 15 = .ok (.aload_n 0, 1) := by decide +kernel
theorem dX5_far_16 : decode cX5_far 16 = .ok (.getfield 31, 3) := by decide +kernel
theorem dX5_far_19 : decode cX5_far 19 = .ok (.getfield 127, 3) := by decide +kernel
theorem dX5_far_22 : decode cX5_far 22 = .ok (.if_icmp .ge 27, 3) := by decide +kernel
theorem dX5_far_25 : decode cX5_far 25 = .ok (.aload_n 0, 1) := by decide +kernel
theorem dX5_far_26 : decode cX5_far 26 = .ok (.getfield 14, 3) := by decide +kernel
theorem dX5_far_29 : decode cX5_far 29 = .ok (.iload_n 1, 1) := by decide +kernel
theorem dX5_far_30 : decode cX5_far 30 = .ok (.iload_n 3, 1) := by decide +kernel
theorem dX5_far_31 : decode cX5_far 31 = .ok (.invokevirtual 82, 3) := by decide +kernel
theorem dX5_far_34 : decode cX5_far 34 = .ok (.ifCond .ge 9, 3) := by decide +kernel
theorem dX5_far_37 : decode cX5_far 37 = .ok (.aload_n 0, 1) := by decide +kernel
theorem dX5_far_38 : decode cX5_far 38 = .ok (.iconst 3, 1) := by decide +kernel
theorem dX5_far_39 : decode cX5_far 39 = .ok (.invokevirtual 96, 3) := by decide +kernel
theorem dX5_far_42 : decode cX5_far 42 = .ok (.ireturn, 1) := by decide +kernel
theorem dX5_far_43 : decode cX5_far 43 = .ok (.iinc 3 1, 3) := by decide +kernel
theorem dX5_far_46 : decode cX5_far 46 = .ok (.goto (-32), 3) := by decide +kernel
theorem dX5_far_49 : decode cX5_far 49 = .ok (.aload_n 0, 1) := by decide +kernel
theorem dX5_far_50 : decode cX5_far 50 = .ok (.getfield 14, 3) := by decide +kernel
theorem dX5_far_53 : decode cX5_far 53 = .ok (.iload_n 1, 1) := by decide +kernel
theorem dX5_far_54 : decode cX5_far 54 = .ok (.invokevirtual 115, 3) := by decide +kernel
theorem dX5_far_57 : decode cX5_far 57 = .ok (.aload_n 0, 1) := by decide +kernel
theorem dX5_far_58 : decode cX5_far 58 = .ok (.getfield 31, 3) := by decide +kernel
theorem dX5_far_61 : decode cX5_far 61 = .ok (.invokevirtual 188, 3) := by decide +kernel
theorem dX5_far_64 : decode cX5_far 64 = .ok (.i2l, 1) := by decide +kernel
theorem dX5_far_65 : decode cX5_far 65 = .ok (.lcmp, 1) := by decide +kernel
theorem dX5_far_66 : decode cX5_far 66 = .ok (.ifCond .eq 9, 3) := by decide +kernel
theorem dX5_far_69 : decode cX5_far 69 = .ok (.aload_n 0, 1) := by decide +kernel
theorem dX5_far_70 : decode cX5_far 70 = .ok (.iconst 4, 1) := by decide +kernel
theorem dX5_far_71 : decode cX5_far 71 = .ok (.invokevirtual 96, 3) := by decide +kernel
theorem dX5_far_74 : decode cX5_far 74 = .ok (.ireturn, 1) := by decide +kernel
theorem dX5_far_75 : decode cX5_far 75 = .ok (.iconst 0, 1) := by decide +kernel
theorem dX5_far_76 : decode cX5_far 76 = .ok (.istore_n 3, 1) := by decide +kernel
theorem dX5_far_77 : decode cX5_far 77 = .ok (.iconst 0, 1) := by decide +kernel
theorem dX5_far_78 : decode cX5_far 78 = .ok (.istore 4, 2) := by decide +kernel
theorem dX5_far_80 : decode cX5_far 80 = .ok (.iconst 0, 1) := by decide +kernel
theorem dX5_far_81 : decode cX5_far 81 = .ok (.istore 5, 2) := by decide +kernel
theorem dX5_far_83 : decode cX5_far 83 = .ok (.iload 5, 2) := by decide +kernel
theorem dX5_far_85 : decode cX5_far 85 = .ok (.aload_n 0, 1) := by decide +kernel
theorem dX5_far_86 : decode cX5_far 86 = .ok (.getfield 31, 3) := by decide +kernel
theorem dX5_far_89 : decode cX5_far 89 = .ok (.getfield 127, 3) := by decide +kernel
theorem dX5_far_92 : decode cX5_far 92 = .ok (.if_icmp .ge 42, 3) := by decide +kernel
theorem dX5_far_95 : decode cX5_far 95 = .ok (.iload_n 3, 1) := by decide +kernel
theorem dX5_far_96 : decode cX5_far 96 = .ok (.aload_n 0, 1) := by decide +kernel
theorem dX5_far_97 : decode cX5_far 97 = .ok (.getfield 31, 3) := by decide +kernel
theorem dX5_far_100 : decode cX5_far 100 = .ok (.getfield 136, 3) := by decide +kernel
theorem dX5_far_103 : decode cX5_far 103 = .ok (.iload 5, 2) := by decide +kernel
theorem dX5_far_105 : decode cX5_far 105 = .ok (.iaload, 1) := by decide +kernel
theorem dX5_far_106 : decode cX5_far 106 = .ok (.aload_n 0, 1) := by decide +kernel
theorem dX5_far_107 : decode cX5_far 107 = .ok (.getfield 14, 3) := by decide +kernel
theorem dX5_far_110 : decode cX5_far 110 = .ok (.iload_n 1, 1) := by decide +kernel
theorem dX5_far_111 : decode cX5_far 111 = .ok (.iload 5, 2) := by decide +kernel
theorem dX5_far_113 : decode cX5_far 113 = .ok (.invokevirtual 82, 3) := by decide +kernel
theorem dX5_far_116 : decode cX5_far 116 = .ok (.isub, 1) := by decide +kernel
theorem dX5_far_117 : decode cX5_far 117 = .ok (.iadd, 1) := by decide +kernel
theorem dX5_far_118 : decode cX5_far 118 = .ok (.istore_n 3, 1) := by decide +kernel
theorem dX5_far_119 : decode cX5_far 119 = .ok (.iload 4, 2) := by decide +kernel
theorem dX5_far_121 : decode cX5_far 121 = .ok (.iload_n 3, 1) := by decide +kernel
theorem dX5_far_122 : decode cX5_far 122 = .ok (.invokestatic 273, 3) := by decide +kernel
theorem dX5_far_125 : decode cX5_far 125 = .ok (.iadd, 1) := by decide +kernel
theorem dX5_far_126 : decode cX5_far 126 = .ok (.istore 4, 2) := by decide +kernel
theorem dX5_far_128 : decode cX5_far 128 = .ok (.iinc 5 1, 3) := by decide +kernel
theorem dX5_far_131 : decode cX5_far 131 = .ok (.goto (-48), 3) := by decide +kernel
theorem dX5_far_134 : decode cX5_far 134 = .ok (.iload 4, 2) := by decide +kernel
theorem dX5_far_136 : decode cX5_far 136 = .ok (.ireturn, 1) := by decide +kernel
theorem dX5_season_0 : decode cX5_season 0 = .ok (.iload_n 1, 1) := by decide +kernel
theorem dX5_season_1 : decode cX5_season 1 = .ok (.iconst 1, 1) := by decide +kernel
theorem dX5_season_2 : decode cX5_season 2 = .ok (.if_icmp .lt 21, 3) := by decide +kernel
theorem dX5_season_5 : decode cX5_season 5 = .ok (.iload_n 1, 1) := by decide +kernel
theorem dX5_season_6 : decode cX5_season 6 = .ok (.bipush 40, 2) := by decide +kernel
theorem dX5_season_8 : decode cX5_season 8 = .ok (.if_icmp .gt 15, 3) := by decide +kernel
theorem dX5_season_11 : decode cX5_season 11 = .ok (.iload_n 2, 1) := by decide +kernel
theorem dX5_season_12 : decode cX5_season 12 = .ok (.iconst 1, 1) := by decide +kernel
theorem dX5_season_13 : decode cX5_season 13 = .ok (.if_icmp .lt 10, 3) := by decide +kernel
theorem dX5_season_16 : decode cX5_season 16 = .ok (.iload_n 2, 1) := by decide +kernel
theorem dX5_season_17 : decode cX5_season 17 = .ok (.ldc_w 276, 3) := by decide +kernel
theorem dX5_season_20 : decode cX5_season 20 = .ok (.if_icmp .le 5, 3) := by decide +kernel
theorem dX5_season_23 : decode cX5_season 23 = .ok (.iconst (-1), 1) := by decide +kernel
theorem dX5_season_24 : decode cX5_season 24 = .ok (.ireturn, 1) := by decide +kernel
theorem dX5_season_25 : decode cX5_season 25 = .ok (.aload_n 0, 1) := by decide +kernel
theorem dX5_season_26 : decode cX5_season 26 = .ok (.getfield 31, 3) := by decide +kernel
theorem dX5_season_29 : decode cX5_season 29 = .ok (.invokevirtual 242, 3) := by decide +kernel
theorem dX5_season_32 : decode cX5_season 32 = .ok (.istore_n 3, 1) := by decide +kernel
theorem dX5_season_33 : decode cX5_season 33 = .ok (.aload_n 0, 1) := by decide +kernel
theorem dX5_season_34 : decode cX5_season 34 = .ok (.getfield 31, 3) := by decide +kernel
theorem dX5_season_37 : decode cX5_season 37 = .ok (.getfield 127, 3) := by decide +kernel
theorem dX5_season_40 : decode cX5_season 40 = .ok (.ifCond .eq 8, 3) := by decide +kernel
theorem dX5_season_43 : decode cX5_season 43 = .ok (.iload_n 3, 1) := by decide +kernel
theorem dX5_season_44 : decode cX5_season 44 = .ok (.iconst 1, 1) := by decide +kernel
theorem dX5_season_45 : decode cX5_season 45 = .ok (.if_icmp .ge 6, 3) := by decide +kernel
theorem dX5_season_48 : decode cX5_season 48 = .ok (.bipush (-4), 2) := by decide +kernel
theorem dX5_season_50 : decode cX5_season 50 = .ok (.ireturn, 1) := by decide +kernel
theorem dX5_season_51 : decode cX5_season 51 = .ok (.aload_n 0, 1) := by decide +kernel
theorem dX5_season_52 : decode cX5_season 52 = .ok (.getfield 31, 3) := by decide +kernel
theorem dX5_season_55 : decode cX5_season 55 = .ok (.getfield 173, 3) := by decide +kernel
theorem dX5_season_58 : decode cX5_season 58 = .ok (.iload_n 1, 1) := by decide +kernel
theorem dX5_season_59 : decode cX5_season 59 = .ok (.iadd, 1) := by decide +kernel
theorem dX5_season_60 : decode cX5_season 60 = .ok (.bipush 60, 2) := by decide +kernel
theorem dX5_season_62 : decode cX5_season 62 = .ok (.if_icmp .le 6, 3) := by decide +kernel
theorem dX5_season_65 : decode cX5_season 65 = .ok (.bipush (-2), 2) := by decide +kernel
theorem dX5_season_67 : decode cX5_season 67 = .ok (.ireturn, 1) := by decide +kernel
theorem dX5_season_68 : decode cX5_season 68 = .ok (.iload_n 2, 1) := by decide +kernel
theorem dX5_season_69 : decode cX5_season 69 = .ok (.i2l, 1) := by decide +kernel
theorem dX5_season_70 : decode cX5_season 70 = .ok (.lstore 4, 2) := by decide +kernel
theorem dX5_season_72 : decode cX5_season 72 = .ok (.iconst 0, 1) := by decide +kernel
theorem dX5_season_73 : decode cX5_season 73 = .ok (.istore 6, 2) := by decide +kernel
theorem dX5_season_75 : decode cX5_season 75 = .ok (.iconst 0, 1) := by decide +kernel
theorem dX5_season_76 : decode cX5_season 76 = .ok (.istore 7, 2) := by decide +kernel
theorem dX5_season_78 : decode cX5_season 78 = .ok (.iload 7, 2) := by decide +kernel
theorem dX5_season_80 : decode cX5_season 80 = .ok (.iload_n 1, 1) := by decide +kernel
theorem dX5_season_81 : decode cX5_season 81 = .ok (.if_icmp .ge 52, 3) := by decide +kernel
theorem dX5_season_84 : decode cX5_season 84 = .ok (.ldc2_w 277, 3) := by decide +kernel
theorem dX5_season_87 : decode cX5_season 87 = .ok (.lload 4, 2) := by decide +kernel
theorem dX5_season_89 : decode cX5_season 89 = .ok (.lmul, 1) := by decide +kernel
theorem dX5_season_90 : decode cX5_season 90 = .ok (.ldc2_w 279, 3) := by decide +kernel
theorem dX5_season_93 : decode cX5_season 93 = .ok (.lrem, 1) := by decide +kernel
theorem dX5_season_94 : decode cX5_season 94 = .ok (.lstore 4, 2) := by decide +kernel
theorem dX5_season_96 : decode cX5_season 96 = .ok (.aload_n 0, 1) := by decide +kernel
theorem dX5_season_97 : decode cX5_season 97 = .ok (.getfield 31, 3) := by decide +kernel
theorem dX5_season_100 : decode cX5_season 100 = .ok (.aload_n 0, 1) := by decide +kernel
theorem dX5_season_101 : decode cX5_season 101 = .ok (.lload 4, 2) := by decide +kernel
theorem dX5_season_103 : decode cX5_season 103 = .ok (.invokevirtual 281, 3) := by decide +kernel
theorem dX5_season_106 : decode cX5_season 106 = .ok (.putfield 167, 3) := by decide +kernel
theorem dX5_season_109 : decode cX5_season 109 = .ok (.iload 6, 2) := by decide +kernel
theorem dX5_season_111 : decode cX5_season 111 = .ok (.aload_n 0, 1) := by decide +kernel
theorem dX5_season_112 : decode cX5_season 112 = .ok (.getfield 31, 3) := by decide +kernel
theorem dX5_season_115 : decode cX5_season 115 = .ok (.lload 4, 2) := by decide +kernel
theorem dX5_season_117 : decode cX5_season 117 = .ok (.iload_n 3, 1) := by decide +kernel
theorem dX5_season_118 : decode cX5_season 118 = .ok (.i2l, 1) := by decide +kernel
theorem dX5_season_119 : decode cX5_season 119 = .ok (.lrem, 1) := by decide +kernel
theorem dX5_season_120 : decode cX5_season 120 = .ok (.l2i, 1) := by decide +kernel
theorem dX5_season_121 : decode cX5_season 121 = .ok (.invokevirtual 176, 3) := by decide +kernel
theorem dX5_season_124 : decode cX5_season 124 = .ok (.iadd, 1) := by decide +kernel
theorem dX5_season_125 : decode cX5_season 125 = .ok (.istore 6, 2) := by decide +kernel
theorem dX5_season_127 : decode cX5_season 127 = .ok (.iinc 7 1, 3) := by decide +kernel
theorem dX5_season_130 : decode cX5_season 130 = .ok (.goto (-52), 3) := by decide +kernel
theorem dX5_season_133 : decode cX5_season 133 = .ok (.iload 6, 2) := by decide +kernel
theorem dX5_season_135 : decode cX5_season 135 = .ok (.ireturn, 1) := by decide +kernel
theorem dX5_asked_0 : decode cX5_asked 0 = .ok (.aload_n 0, 1) := by decide +kernel
theorem dX5_asked_1 : decode cX5_asked 1 = .ok (.getfield 67, 3) := by decide +kernel
theorem dX5_asked_4 : decode cX5_asked 4 = .ok (.ireturn, 1) := by decide +kernel
theorem dX5_upper_0 : decode cX5_upper 0 = .ok (.aload_n 0, 1) := by decide +kernel
theorem dX5_upper_1 : decode cX5_upper 1 = .ok (.getfield 31, 3) := by decide +kernel
theorem dX5_upper_4 : decode cX5_upper 4 = .ok (.invokevirtual 188, 3) := by decide +kernel
theorem dX5_upper_7 : decode cX5_upper 7 = .ok (.istore_n 1, 1) := by decide +kernel
theorem dX5_upper_8 : decode cX5_upper 8 = .ok (.iload_n 1, 1) := by decide +kernel
theorem dX5_upper_9 : decode cX5_upper 9 = .ok (.ifCond .ne 5, 3) := by decide +kernel
theorem dX5_upper_12 : decode cX5_upper 12 = .ok (.lconst 0, 1) := by decide +kernel
theorem dX5_upper_13 : decode cX5_upper 13 = .ok (.lreturn, 1) := by decide +kernel
theorem dX5_upper_14 : decode cX5_upper 14 = .ok (.aload_n 0, 1) := by decide +kernel
theorem dX5_upper_15 : decode cX5_upper 15 = .ok (.getfield 31, 3) := by decide +kernel
theorem dX5_upper_18 : decode cX5_upper 18 = .ok (.aload_n 0, 1) := by decide +kernel
theorem dX5_upper_19 : decode cX5_upper 19 = .ok (.getfield 31, 3) := by decide +kernel
theorem dX5_upper_22 : decode cX5_upper 22 = .ok (.getfield 136, 3) := by decide +kernel
theorem dX5_upper_25 : decode cX5_upper 25 = .ok (.invokevirtual 204, 3) := by decide +kernel
theorem dX5_upper_28 : decode cX5_upper 28 = .ok (.istore_n 2, 1) := by decide +kernel
theorem dX5_upper_29 : decode cX5_upper 29 = .ok (.iload_n 2, 1) := by decide +kernel
theorem dX5_upper_30 : decode cX5_upper 30 = .ok (.iload_n 2, 1) := by decide +kernel
theorem dX5_upper_31 : decode cX5_upper 31 = .ok (.iload_n 1, 1) := by decide +kernel
theorem dX5_upper_32 : decode cX5_upper 32 = .ok (.invokestatic 285, 3) := by decide +kernel
theorem dX5_upper_35 : decode cX5_upper 35 = .ok (.idiv, 1) := by decide +kernel
theorem dX5_upper_36 : decode cX5_upper 36 = .ok (.i2l, 1) := by decide +kernel
theorem dX5_upper_37 : decode cX5_upper 37 = .ok (.lreturn, 1) := by decide +kernel
theorem dX5_lower_0 : decode cX5_lower 0 = .ok (.aload_n 0, 1) := by decide +kernel
theorem dX5_lower_1 : decode cX5_lower 1 = .ok (.getfield 31, 3) := by decide +kernel
theorem dX5_lower_4 : decode cX5_lower 4 = .ok (.invokevirtual 188, 3) := by decide +kernel
theorem dX5_lower_7 : decode cX5_lower 7 = .ok (.istore_n 1, 1) := by decide +kernel
theorem dX5_lower_8 : decode cX5_lower 8 = .ok (.iload_n 1, 1) := by decide +kernel
theorem dX5_lower_9 : decode cX5_lower 9 = .ok (.ifCond .ne 5, 3) := by decide +kernel
theorem dX5_lower_12 : decode cX5_lower 12 = .ok (.lconst 1, 1) := by decide +kernel
theorem dX5_lower_13 : decode cX5_lower 13 = .ok (.lreturn, 1) := by decide +kernel
theorem dX5_lower_14 : decode cX5_lower 14 = .ok (.iload_n 1, 1) := by decide +kernel
theorem dX5_lower_15 : decode cX5_lower 15 = .ok (.aload_n 0, 1) := by decide +kernel
theorem dX5_lower_16 : decode cX5_lower 16 = .ok (.getfield 31, 3) := by decide +kernel
theorem dX5_lower_19 : decode cX5_lower 19 = .ok (.aload_n 0, 1) := by decide +kernel
theorem dX5_lower_20 : decode cX5_lower 20 = .ok (.getfield 31, 3) := by decide +kernel
theorem dX5_lower_23 : decode cX5_lower 23 = .ok (.getfield 136, 3) := by decide +kernel
theorem dX5_lower_26 : decode cX5_lower 26 = .ok (.invokevirtual 204, 3) := by decide +kernel
theorem dX5_lower_29 : decode cX5_lower 29 = .ok (.iload_n 1, 1) := by decide +kernel
theorem dX5_lower_30 : decode cX5_lower 30 = .ok (.invokestatic 285, 3) := by decide +kernel
theorem dX5_lower_33 : decode cX5_lower 33 = .ok (.idiv, 1) := by decide +kernel
theorem dX5_lower_34 : decode cX5_lower 34 = .ok (.i2l, 1) := by decide +kernel
theorem dX5_lower_35 : decode cX5_lower 35 = .ok (.lreturn, 1) := by decide +kernel
theorem dX5_count_0 : decode cX5_count 0 = .ok (.iload_n 1, 1) := by decide +kernel
theorem dX5_count_1 : decode cX5_count 1 = .ok (.tableswitch 137 0 8 #[51, 59, 67, 75, 97, 108, 116, 124, 132], 51) := by decide +kernel
theorem dX5_count_52 : decode cX5_count 52 = .ok (.aload_n 0, 1) := by decide +kernel
theorem dX5_count_53 : decode cX5_count 53 = .ok (.getfield 31, 3) := by decide +kernel
theorem dX5_count_56 : decode cX5_count 56 = .ok (.getfield 127, 3) := by decide +kernel
theorem dX5_count_59 : decode cX5_count 59 = .ok (.ireturn, 1) := by decide +kernel
theorem dX5_count_60 : decode cX5_count 60 = .ok (.aload_n 0, 1) := by decide +kernel
theorem dX5_count_61 : decode cX5_count 61 = .ok (.getfield 31, 3) := by decide +kernel
theorem dX5_count_64 : decode cX5_count 64 = .ok (.getfield 288, 3) := by decide +kernel
theorem dX5_count_67 : decode cX5_count 67 = .ok (.ireturn, 1) := by decide +kernel
theorem dX5_count_68 : decode cX5_count 68 = .ok (.aload_n 0, 1) := by decide +kernel
theorem dX5_count_69 : decode cX5_count 69 = .ok (.getfield 31, 3) := by decide +kernel
theorem dX5_count_72 : decode cX5_count 72 = .ok (.getfield 173, 3) := by decide +kernel
theorem dX5_count_75 : decode cX5_count 75 = .ok (.ireturn, 1) := by decide +kernel
theorem dX5_count_76 : decode cX5_count 76 = .ok (.aload_n 0, 1) := by decide +kernel
theorem dX5_count_77 : decode cX5_count 77 = .ok (.getfield 31, 3) := by decide +kernel
theorem dX5_count_80 : decode cX5_count 80 = .ok (.getfield 127, 3) := by decide +kernel
theorem dX5_count_83 : decode cX5_count 83 = .ok (.ifCond .ne 7, 3) := by decide +kernel
theorem dX5_count_86 : decode cX5_count 86 = .ok (.iconst 0, 1) := by decide +kernel
theorem dX5_count_87 : decode cX5_count 87 = .ok (.goto 10, 3) := by decide +kernel
theorem dX5_count_90 : decode cX5_count 90 = .ok (.aload_n 0, 1) := by decide +kernel
theorem dX5_count_91 : decode cX5_count 91 = .ok (.getfield 31, 3) := by decide +kernel
theorem dX5_count_94 : decode cX5_count 94 = .ok (.invokevirtual 242, 3) := by decide +kernel
theorem dX5_count_97 : decode cX5_count 97 = .ok (.ireturn, 1) := by decide +kernel
theorem dX5_count_98 : decode cX5_count 98 = .ok (.aload_n 0, 1) := by decide +kernel
theorem dX5_count_99 : decode cX5_count 99 = .ok (.getfield 31, 3) := by decide +kernel
theorem dX5_count_102 : decode cX5_count 102 = .ok (.getfield 167, 3) := by decide +kernel
theorem dX5_count_105 : decode cX5_count 105 = .ok (.invokestatic 291, 3) := by decide +kernel
theorem dX5_count_108 : decode cX5_count 108 = .ok (.ireturn, 1) := by decide +kernel
theorem dX5_count_109 : decode cX5_count 109 = .ok (.aload_n 0, 1) := by decide +kernel
theorem dX5_count_110 : decode cX5_count 110 = .ok (.getfield 31, 3) := by decide +kernel
theorem dX5_count_113 : decode cX5_count 113 = .ok (.invokevirtual 296, 3) := by decide +kernel
theorem dX5_count_116 : decode cX5_count 116 = .ok (.ireturn, 1) := by decide +kernel
theorem dX5_count_117 : decode cX5_count 117 = .ok (.aload_n 0, 1) := by decide +kernel
theorem dX5_count_118 : decode cX5_count 118 = .ok (.getfield 14, 3) := by decide +kernel
theorem dX5_count_121 : decode cX5_count 121 = .ok (.invokevirtual 299, 3) := by decide +kernel
theorem dX5_count_124 : decode cX5_count 124 = .ok (.ireturn, 1) := by decide +kernel
theorem dX5_count_125 : decode cX5_count 125 = .ok (.aload_n 0, 1) := by decide +kernel
theorem dX5_count_126 : decode cX5_count 126 = .ok (.getfield 18, 3) := by decide +kernel
theorem dX5_count_129 : decode cX5_count 129 = .ok (.invokevirtual 299, 3) := by decide +kernel
theorem dX5_count_132 : decode cX5_count 132 = .ok (.ireturn, 1) := by decide +kernel
theorem dX5_count_133 : decode cX5_count 133 = .ok (.aload_n 0, 1) := by decide +kernel
theorem dX5_count_134 : decode cX5_count 134 = .ok (.invokevirtual 302, 3) := by decide +kernel
theorem dX5_count_137 : decode cX5_count 137 = .ok (.ireturn, 1) := by decide +kernel
theorem dX5_count_138 : decode cX5_count 138 = .ok (.iconst (-1), 1) := by decide +kernel
theorem dX5_count_139 : decode cX5_count 139 = .ok (.ireturn, 1) := by decide +kernel
theorem dX5_finding_0 : decode cX5_finding 0 = .ok (.aload_n 0, 1) := by decide +kernel
theorem dX5_finding_1 : decode cX5_finding 1 = .ok (.getfield 63, 3) := by decide +kernel
theorem dX5_finding_4 : decode cX5_finding 4 = .ok (.ireturn, 1) := by decide +kernel
theorem dX5_findings_0 : decode cX5_findings 0 = .ok (.iload_n 1, 1) := by decide +kernel
theorem dX5_findings_1 : decode cX5_findings 1 = .ok (.iconst 1, 1) := by decide +kernel
theorem dX5_findings_2 : decode cX5_findings 2 = .ok (.if_icmp .lt 8, 3) := by decide +kernel
theorem dX5_findings_5 : decode cX5_findings 5 = .ok (.iload_n 1, 1) := by decide +kernel
theorem dX5_findings_6 : decode cX5_findings 6 = .ok (.iconst 5, 1) := by decide +kernel
theorem dX5_findings_7 : decode cX5_findings 7 = .ok (.if_icmp .le 5, 3) := by decide +kernel
theorem dX5_findings_10 : decode cX5_findings 10 = .ok (.iconst (-1), 1) := by decide +kernel
theorem dX5_findings_11 : decode cX5_findings 11 = .ok (.ireturn, 1) := by decide +kernel
theorem dX5_findings_12 : decode cX5_findings 12 = .ok (.aload_n 0, 1) := by decide +kernel
theorem dX5_findings_13 : decode cX5_findings 13 = .ok (.getfield 59, 3) := by decide +kernel
theorem dX5_findings_16 : decode cX5_findings 16 = .ok (.iload_n 1, 1) := by decide +kernel
theorem dX5_findings_17 : decode cX5_findings 17 = .ok (.iaload, 1) := by decide +kernel
theorem dX5_findings_18 : decode cX5_findings 18 = .ok (.ireturn, 1) := by decide +kernel
theorem dX5_digest_0 : decode cX5_digest 0 = .ok (.ldc2_w 305, 3) := by decide +kernel
theorem dX5_digest_3 : decode cX5_digest 3 = .ok (.lstore_n 1, 1) := by decide +kernel
theorem dX5_digest_4 : decode cX5_digest 4 = .ok (.iconst 0, 1) := by decide +kernel
theorem dX5_digest_5 : decode cX5_digest 5 = .ok (.istore_n 3, 1) := by decide +kernel
theorem dX5_digest_6 : decode cX5_digest 6 = .ok (.iload_n 3, 1) := by decide +kernel
theorem dX5_digest_7 : decode cX5_digest 7 = .ok (.bipush 9, 2) := by decide +kernel
theorem dX5_digest_9 : decode cX5_digest 9 = .ok (.if_icmp .ge 22, 3) := by decide +kernel
theorem dX5_digest_12 : decode cX5_digest 12 = .ok (.ldc2_w 307, 3) := by decide +kernel
theorem dX5_digest_15 : decode cX5_digest 15 = .ok (.lload_n 1, 1) := by decide +kernel
theorem dX5_digest_16 : decode cX5_digest 16 = .ok (.lmul, 1) := by decide +kernel
theorem dX5_digest_17 : decode cX5_digest 17 = .ok (.aload_n 0, 1) := by decide +kernel
theorem dX5_digest_18 : decode cX5_digest 18 = .ok (.iload_n 3, 1) := by decide +kernel
theorem dX5_digest_19 : decode cX5_digest 19 = .ok (.invokevirtual 309, 3) := by decide +kernel
theorem dX5_digest_22 : decode cX5_digest 22 = .ok (.i2l, 1) := by decide +kernel
theorem dX5_digest_23 : decode cX5_digest 23 = .ok (.ladd, 1) := by decide +kernel
theorem dX5_digest_24 : decode cX5_digest 24 = .ok (.lstore_n 1, 1) := by decide +kernel
theorem dX5_digest_25 : decode cX5_digest 25 = .ok (.iinc 3 1, 3) := by decide +kernel
theorem dX5_digest_28 : decode cX5_digest 28 = .ok (.goto (-22), 3) := by decide +kernel
theorem dX5_digest_31 : decode cX5_digest 31 = .ok (.aload_n 0, 1) := by decide +kernel
theorem dX5_digest_32 : decode cX5_digest 32 = .ok (.getfield 31, 3) := by decide +kernel
theorem dX5_digest_35 : decode cX5_digest 35 = .ok (.lload_n 1, 1) := by decide +kernel
theorem dX5_digest_36 : decode cX5_digest 36 = .ok (.invokevirtual 312, 3) := by decide +kernel
theorem dX5_digest_39 : decode cX5_digest 39 = .ok (.lstore_n 1, 1) := by decide +kernel
theorem dX5_digest_40 : decode cX5_digest 40 = .ok (.iconst 0, 1) := by decide +kernel
theorem dX5_digest_41 : decode cX5_digest 41 = .ok (.istore_n 3, 1) := by decide +kernel
theorem dX5_digest_42 : decode cX5_digest 42 = .ok (.iload_n 3, 1) := by decide +kernel
theorem dX5_digest_43 : decode cX5_digest 43 = .ok (.iconst 3, 1) := by decide +kernel
theorem dX5_digest_44 : decode cX5_digest 44 = .ok (.if_icmp .ge 22, 3) := by decide +kernel
theorem dX5_digest_47 : decode cX5_digest 47 = .ok (.ldc2_w 307, 3) := by decide +kernel
theorem dX5_digest_50 : decode cX5_digest 50 = .ok (.lload_n 1, 1) := by decide +kernel
theorem dX5_digest_51 : decode cX5_digest 51 = .ok (.lmul, 1) := by decide +kernel
theorem dX5_digest_52 : decode cX5_digest 52 = .ok (.aload_n 0, 1) := by decide +kernel
theorem dX5_digest_53 : decode cX5_digest 53 = .ok (.iload_n 3, 1) := by decide +kernel
theorem dX5_digest_54 : decode cX5_digest 54 = .ok (.invokevirtual 316, 3) := by decide +kernel
theorem dX5_digest_57 : decode cX5_digest 57 = .ok (.i2l, 1) := by decide +kernel
theorem dX5_digest_58 : decode cX5_digest 58 = .ok (.ladd, 1) := by decide +kernel
theorem dX5_digest_59 : decode cX5_digest 59 = .ok (.lstore_n 1, 1) := by decide +kernel
theorem dX5_digest_60 : decode cX5_digest 60 = .ok (.iinc 3 1, 3) := by decide +kernel
theorem dX5_digest_63 : decode cX5_digest 63 = .ok (.goto (-21), 3) := by decide +kernel
theorem dX5_digest_66 : decode cX5_digest 66 = .ok (.aload_n 0, 1) := by decide +kernel
theorem dX5_digest_67 : decode cX5_digest 67 = .ok (.getfield 18, 3) := by decide +kernel
theorem dX5_digest_70 : decode cX5_digest 70 = .ok (.aload_n 0, 1) := by decide +kernel
theorem dX5_digest_71 : decode cX5_digest 71 = .ok (.getfield 14, 3) := by decide +kernel
theorem dX5_digest_74 : decode cX5_digest 74 = .ok (.lload_n 1, 1) := by decide +kernel
theorem dX5_digest_75 : decode cX5_digest 75 = .ok (.invokevirtual 319, 3) := by decide +kernel
theorem dX5_digest_78 : decode cX5_digest 78 = .ok (.invokevirtual 319, 3) := by decide +kernel
theorem dX5_digest_81 : decode cX5_digest 81 = .ok (.lreturn, 1) := by decide +kernel
theorem dX5_tell_0 : decode cX5_tell 0 = .ok (.aload_n 0, 1) := by decide +kernel
theorem dX5_tell_1 : decode cX5_tell 1 = .ok (.iload_n 2, 1) := by decide +kernel
theorem dX5_tell_2 : decode cX5_tell 2 = .ok (.putfield 67, 3) := by decide +kernel
theorem dX5_tell_5 : decode cX5_tell 5 = .ok (.iload_n 1, 1) := by decide +kernel
theorem dX5_tell_6 : decode cX5_tell 6 = .ok (.ireturn, 1) := by decide +kernel
theorem dX5_find_0 : decode cX5_find 0 = .ok (.iload_n 1, 1) := by decide +kernel
theorem dX5_find_1 : decode cX5_find 1 = .ok (.iconst 1, 1) := by decide +kernel
theorem dX5_find_2 : decode cX5_find 2 = .ok (.if_icmp .lt 23, 3) := by decide +kernel
theorem dX5_find_5 : decode cX5_find 5 = .ok (.iload_n 1, 1) := by decide +kernel
theorem dX5_find_6 : decode cX5_find 6 = .ok (.iconst 5, 1) := by decide +kernel
theorem dX5_find_7 : decode cX5_find 7 = .ok (.if_icmp .gt 18, 3) := by decide +kernel
theorem dX5_find_10 : decode cX5_find 10 = .ok (.aload_n 0, 1) := by decide +kernel
theorem dX5_find_11 : decode cX5_find 11 = .ok (.iload_n 1, 1) := by decide +kernel
theorem dX5_find_12 : decode cX5_find 12 = .ok (.putfield 63, 3) := by decide +kernel
theorem dX5_find_15 : decode cX5_find 15 = .ok (.aload_n 0, 1) := by decide +kernel
theorem dX5_find_16 : decode cX5_find 16 = .ok (.getfield 59, 3) := by decide +kernel
theorem dX5_find_19 : decode cX5_find 19 = .ok (.iload_n 1, 1) := by decide +kernel
theorem dX5_find_20 : decode cX5_find 20 = .ok (.dup2, 1) := by decide +kernel
theorem dX5_find_21 : decode cX5_find 21 = .ok (.iaload, 1) := by decide +kernel
theorem dX5_find_22 : decode cX5_find 22 = .ok (.iconst 1, 1) := by decide +kernel
theorem dX5_find_23 : decode cX5_find 23 = .ok (.iadd, 1) := by decide +kernel
theorem dX5_find_24 : decode cX5_find 24 = .ok (.iastore, 1) := by decide +kernel
theorem dX5_find_25 : decode cX5_find 25 = .ok (.bipush (-3), 2) := by decide +kernel
theorem dX5_find_27 : decode cX5_find 27 = .ok (.ireturn, 1) := by decide +kernel
theorem dX5_opened_0 : decode cX5_opened 0 = .ok (.aload_n 1, 1) := by decide +kernel
theorem dX5_opened_1 : decode cX5_opened 1 = .ok (.iload_n 2, 1) := by decide +kernel
theorem dX5_opened_2 : decode cX5_opened 2 = .ok (.invokevirtual 74, 3) := by decide +kernel
theorem dX5_opened_5 : decode cX5_opened 5 = .ok (.ifCond .eq 11, 3) := by decide +kernel
theorem dX5_opened_8 : decode cX5_opened 8 = .ok (.iload_n 3, 1) := by decide +kernel
theorem dX5_opened_9 : decode cX5_opened 9 = .ok (.aload_n 1, 1) := by decide +kernel
theorem dX5_opened_10 : decode cX5_opened 10 = .ok (.getfield 320, 3) := by decide +kernel
theorem dX5_opened_13 : decode cX5_opened 13 = .ok (.if_icmp .le 5, 3) := by decide +kernel
theorem dX5_opened_16 : decode cX5_opened 16 = .ok (.iconst (-1), 1) := by decide +kernel
theorem dX5_opened_17 : decode cX5_opened 17 = .ok (.ireturn, 1) := by decide +kernel
theorem dX5_opened_18 : decode cX5_opened 18 = .ok (.iload_n 3, 1) := by decide +kernel
theorem dX5_opened_19 : decode cX5_opened 19 = .ok (.ifCond .ge 9, 3) := by decide +kernel
theorem dX5_opened_22 : decode cX5_opened 22 = .ok (.aload_n 0, 1) := by decide +kernel
theorem dX5_opened_23 : decode cX5_opened 23 = .ok (.iconst 5, 1) := by decide +kernel
theorem dX5_opened_24 : decode cX5_opened 24 = .ok (.invokevirtual 96, 3) := by decide +kernel
theorem dX5_opened_27 : decode cX5_opened 27 = .ok (.ireturn, 1) := by decide +kernel
theorem dX5_opened_28 : decode cX5_opened 28 = .ok (.aload_n 1, 1) := by decide +kernel
theorem dX5_opened_29 : decode cX5_opened 29 = .ok (.iload_n 2, 1) := by decide +kernel
theorem dX5_opened_30 : decode cX5_opened 30 = .ok (.iload_n 3, 1) := by decide +kernel
theorem dX5_opened_31 : decode cX5_opened 31 = .ok (.iload 4, 2) := by decide +kernel
theorem dX5_opened_33 : decode cX5_opened 33 = .ok (.invokevirtual 185, 3) := by decide +kernel
theorem dX5_opened_36 : decode cX5_opened 36 = .ok (.iload_n 3, 1) := by decide +kernel
theorem dX5_opened_37 : decode cX5_opened 37 = .ok (.ireturn, 1) := by decide +kernel
theorem dX5_placeRefusal_0 : decode cX5_placeRefusal 0 = .ok (.aload_n 1, 1) := by decide +kernel
theorem dX5_placeRefusal_1 : decode cX5_placeRefusal 1 = .ok (.iload_n 2, 1) := by decide +kernel
theorem dX5_placeRefusal_2 : decode cX5_placeRefusal 2 = .ok (.invokevirtual 93, 3) := by decide +kernel
theorem dX5_placeRefusal_5 : decode cX5_placeRefusal 5 = .ok (.ifCond .ne 9, 3) := by decide +kernel
theorem dX5_placeRefusal_8 : decode cX5_placeRefusal 8 = .ok (.aload_n 0, 1) := by decide +kernel
theorem dX5_placeRefusal_9 : decode cX5_placeRefusal 9 = .ok (.iconst 1, 1) := by decide +kernel
theorem dX5_placeRefusal_10 : decode cX5_placeRefusal 10 = .ok (.invokevirtual 96, 3) := by decide +kernel
theorem dX5_placeRefusal_13 : decode cX5_placeRefusal 13 = .ok (.ireturn, 1) := by decide +kernel
theorem dX5_placeRefusal_14 : decode cX5_placeRefusal 14 = .ok (.aload_n 1, 1) := by decide +kernel
theorem dX5_placeRefusal_15 : decode cX5_placeRefusal 15 = .ok (.iload_n 2, 1) := by decide +kernel
theorem dX5_placeRefusal_16 : decode cX5_placeRefusal 16 = .ok (.iload_n 3, 1) := by decide +kernel
theorem dX5_placeRefusal_17 : decode cX5_placeRefusal 17 = .ok (.invokevirtual 323, 3) := by decide +kernel
theorem dX5_placeRefusal_20 : decode cX5_placeRefusal 20 = .ok (.ifCond .eq 7, 3) := by decide +kernel
theorem dX5_placeRefusal_23 : decode cX5_placeRefusal 23 = .ok (.iconst 0, 1) := by decide +kernel
theorem dX5_placeRefusal_24 : decode cX5_placeRefusal 24 = .ok (.goto 8, 3) := by decide +kernel
theorem dX5_placeRefusal_27 : decode cX5_placeRefusal 27 = .ok (.aload_n 0, 1) := by decide +kernel
theorem dX5_placeRefusal_28 : decode cX5_placeRefusal 28 = .ok (.iconst 2, 1) := by decide +kernel
theorem dX5_placeRefusal_29 : decode cX5_placeRefusal 29 = .ok (.invokevirtual 96, 3) := by decide +kernel
theorem dX5_placeRefusal_32 : decode cX5_placeRefusal 32 = .ok (.ireturn, 1) := by decide +kernel
theorem dX5_groundRefusal_0 : decode cX5_groundRefusal 0 = .ok (.aload_n 0, 1) := by decide +kernel
theorem dX5_groundRefusal_1 : decode cX5_groundRefusal 1 = .ok (.getfield 14, 3) := by decide +kernel
theorem dX5_groundRefusal_4 : decode cX5_groundRefusal 4 = .ok (.iload_n 1, 1) := by decide +kernel
theorem dX5_groundRefusal_5 : decode cX5_groundRefusal 5 = .ok (.invokevirtual 74, 3) := by decide +kernel
theorem dX5_groundRefusal_8 : decode cX5_groundRefusal 8 = .ok (.ifCond .ne 5, 3) := by decide +kernel
theorem dX5_groundRefusal_11 : decode cX5_groundRefusal 11 = .ok (.iconst (-1), 1) := by decide +kernel
theorem dX5_groundRefusal_12 : decode cX5_groundRefusal 12 = .ok (.ireturn, 1) := by decide +kernel
theorem dX5_groundRefusal_13 : decode cX5_groundRefusal 13 = .ok (.aload_n 0, 1) := by decide +kernel
theorem dX5_groundRefusal_14 : decode cX5_groundRefusal 14 = .ok (.getfield 31, 3) := by decide +kernel
theorem dX5_groundRefusal_17 : decode cX5_groundRefusal 17 = .ok (.getfield 127, 3) := by decide +kernel
theorem dX5_groundRefusal_20 : decode cX5_groundRefusal 20 = .ok (.ifCond .ne 8, 3) := by decide +kernel
theorem dX5_groundRefusal_23 : decode cX5_groundRefusal 23 = .ok (.bipush (-4), 2) := by decide +kernel
theorem dX5_groundRefusal_25 : decode cX5_groundRefusal 25 = .ok (.goto 8, 3) := by decide +kernel
theorem dX5_groundRefusal_28 : decode cX5_groundRefusal 28 = .ok (.aload_n 0, 1) := by decide +kernel
theorem dX5_groundRefusal_29 : decode cX5_groundRefusal 29 = .ok (.iload_n 1, 1) := by decide +kernel
theorem dX5_groundRefusal_30 : decode cX5_groundRefusal 30 = .ok (.invokevirtual 249, 3) := by decide +kernel
theorem dX5_groundRefusal_33 : decode cX5_groundRefusal 33 = .ok (.ireturn, 1) := by decide +kernel
theorem dX5_fitRefusal_0 : decode cX5_fitRefusal 0 = .ok (.aload_n 0, 1) := by decide +kernel
theorem dX5_fitRefusal_1 : decode cX5_fitRefusal 1 = .ok (.getfield 14, 3) := by decide +kernel
theorem dX5_fitRefusal_4 : decode cX5_fitRefusal 4 = .ok (.iload_n 1, 1) := by decide +kernel
theorem dX5_fitRefusal_5 : decode cX5_fitRefusal 5 = .ok (.invokevirtual 93, 3) := by decide +kernel
theorem dX5_fitRefusal_8 : decode cX5_fitRefusal 8 = .ok (.ifCond .ne 9, 3) := by decide +kernel
theorem dX5_fitRefusal_11 : decode cX5_fitRefusal 11 = .ok (.aload_n 0, 1) := by decide +kernel
theorem dX5_fitRefusal_12 : decode cX5_fitRefusal 12 = .ok (.iconst 1, 1) := by decide +kernel
theorem dX5_fitRefusal_13 : decode cX5_fitRefusal 13 = .ok (.invokevirtual 96, 3) := by decide +kernel
theorem dX5_fitRefusal_16 : decode cX5_fitRefusal 16 = .ok (.ireturn, 1) := by decide +kernel
theorem dX5_fitRefusal_17 : decode cX5_fitRefusal 17 = .ok (.aload_n 0, 1) := by decide +kernel
theorem dX5_fitRefusal_18 : decode cX5_fitRefusal 18 = .ok (.getfield 14, 3) := by decide +kernel
theorem dX5_fitRefusal_21 : decode cX5_fitRefusal 21 = .ok (.iload_n 1, 1) := by decide +kernel
theorem dX5_fitRefusal_22 : decode cX5_fitRefusal 22 = .ok (.invokevirtual 112, 3) := by decide +kernel
theorem dX5_fitRefusal_25 : decode cX5_fitRefusal 25 = .ok (.aload_n 0, 1) := by decide +kernel
theorem dX5_fitRefusal_26 : decode cX5_fitRefusal 26 = .ok (.getfield 31, 3) := by decide +kernel
theorem dX5_fitRefusal_29 : decode cX5_fitRefusal 29 = .ok (.getfield 127, 3) := by decide +kernel
theorem dX5_fitRefusal_32 : decode cX5_fitRefusal 32 = .ok (.if_icmp .ne 7, 3) := by decide +kernel
theorem dX5_fitRefusal_35 : decode cX5_fitRefusal 35 = .ok (.iconst 0, 1) := by decide +kernel
theorem dX5_fitRefusal_36 : decode cX5_fitRefusal 36 = .ok (.goto 8, 3) := by decide +kernel
theorem dX5_fitRefusal_39 : decode cX5_fitRefusal 39 = .ok (.aload_n 0, 1) := by decide +kernel
theorem dX5_fitRefusal_40 : decode cX5_fitRefusal 40 = .ok (.iconst 5, 1) := by decide +kernel
theorem dX5_fitRefusal_41 : decode cX5_fitRefusal 41 = .ok (.invokevirtual 96, 3) := by decide +kernel
theorem dX5_fitRefusal_44 : decode cX5_fitRefusal 44 = .ok (.ireturn, 1) := by decide +kernel
theorem dX5_isGroundOf_0 : decode cX5_isGroundOf 0 = .ok (.iconst 0, 1) := by decide +kernel
theorem dX5_isGroundOf_1 : decode cX5_isGroundOf 1 = .ok (.istore_n 3, 1) := by decide +kernel
theorem dX5_isGroundOf_2 : decode cX5_isGroundOf 2 = .ok (.iload_n 3, 1) := by decide +kernel
theorem dX5_isGroundOf_3 : decode cX5_isGroundOf 3 = .ok (.aload_n 0, 1) := by decide +kernel
theorem dX5_isGroundOf_4 : decode cX5_isGroundOf 4 = .ok (.getfield 31, 3) := by decide +kernel
theorem dX5_isGroundOf_7 : decode cX5_isGroundOf 7 = .ok (.getfield 127, 3) := by decide +kernel
theorem dX5_isGroundOf_10 : decode cX5_isGroundOf 10 = .ok (.if_icmp .ge 26, 3) := by decide +kernel
theorem dX5_isGroundOf_13 : decode cX5_isGroundOf 13 = .ok (.aload_n 0, 1) := by decide +kernel
theorem dX5_isGroundOf_14 : decode cX5_isGroundOf 14 = .ok (.getfield 14, 3) := by decide +kernel
theorem dX5_isGroundOf_17 : decode cX5_isGroundOf 17 = .ok (.iload_n 1, 1) := by decide +kernel
theorem dX5_isGroundOf_18 : decode cX5_isGroundOf 18 = .ok (.iload_n 3, 1) := by decide +kernel
theorem dX5_isGroundOf_19 : decode cX5_isGroundOf 19 = .ok (.invokevirtual 82, 3) := by decide +kernel
theorem dX5_isGroundOf_22 : decode cX5_isGroundOf 22 = .ok (.aload_n 2, 1) := by decide +kernel
theorem dX5_isGroundOf_23 : decode cX5_isGroundOf 23 = .ok (.iload_n 3, 1) := by decide +kernel
theorem dX5_isGroundOf_24 : decode cX5_isGroundOf 24 = .ok (.iaload, 1) := by decide +kernel
theorem dX5_isGroundOf_25 : decode cX5_isGroundOf 25 = .ok (.if_icmp .eq 5, 3) := by decide +kernel
theorem dX5_isGroundOf_28 : decode cX5_isGroundOf 28 = .ok (.iconst 0, 1) := by decide +kernel
theorem dX5_isGroundOf_29 : decode cX5_isGroundOf 29 = .ok (.ireturn, 1) := by decide +kernel
theorem dX5_isGroundOf_30 : decode cX5_isGroundOf 30 = .ok (.iinc 3 1, 3) := by decide +kernel
theorem dX5_isGroundOf_33 : decode cX5_isGroundOf 33 = .ok (.goto (-31), 3) := by decide +kernel
theorem dX5_isGroundOf_36 : decode cX5_isGroundOf 36 = .ok (.iconst 1, 1) := by decide +kernel
theorem dX5_isGroundOf_37 : decode cX5_isGroundOf 37 = .ok (.ireturn, 1) := by decide +kernel
theorem dX5_isStretch_0 : decode cX5_isStretch 0 = .ok (.aload_n 0, 1) := by decide +kernel
theorem dX5_isStretch_1 : decode cX5_isStretch 1 = .ok (.getfield 31, 3) := by decide +kernel
theorem dX5_isStretch_4 : decode cX5_isStretch 4 = .ok (.iload_n 1, 1) := by decide +kernel
theorem dX5_isStretch_5 : decode cX5_isStretch 5 = .ok (.invokevirtual 130, 3) := by decide +kernel
theorem dX5_isStretch_8 : decode cX5_isStretch 8 = .ok (.ifCond .eq 23, 3) := by decide +kernel
theorem dX5_isStretch_11 : decode cX5_isStretch 11 = .ok (.aload_n 0, 1) := by decide +kernel
theorem dX5_isStretch_12 : decode cX5_isStretch 12 = .ok (.getfield 31, 3) := by decide +kernel
theorem dX5_isStretch_15 : decode cX5_isStretch 15 = .ok (.iload_n 2, 1) := by decide +kernel
theorem dX5_isStretch_16 : decode cX5_isStretch 16 = .ok (.invokevirtual 130, 3) := by decide +kernel
theorem dX5_isStretch_19 : decode cX5_isStretch 19 = .ok (.ifCond .eq 12, 3) := by decide +kernel
theorem dX5_isStretch_22 : decode cX5_isStretch 22 = .ok (.iload_n 1, 1) := by decide +kernel
theorem dX5_isStretch_23 : decode cX5_isStretch 23 = .ok (.iload_n 2, 1) := by decide +kernel
theorem dX5_isStretch_24 : decode cX5_isStretch 24 = .ok (.if_icmp .ge 7, 3) := by decide +kernel
theorem dX5_isStretch_27 : decode cX5_isStretch 27 = .ok (.iconst 1, 1) := by decide +kernel
theorem dX5_isStretch_28 : decode cX5_isStretch 28 = .ok (.goto 4, 3) := by decide +kernel
theorem dX5_isStretch_31 : decode cX5_isStretch 31 = .ok (.iconst 0, 1) := by decide +kernel
theorem dX5_isStretch_32 : decode cX5_isStretch 32 = .ok (.ireturn, 1) := by decide +kernel
theorem dX5_extreme_0 : decode cX5_extreme 0 = .ok (.iconst 0, 1) := by decide +kernel
theorem dX5_extreme_1 : decode cX5_extreme 1 = .ok (.istore_n 3, 1) := by decide +kernel
theorem dX5_extreme_2 : decode cX5_extreme 2 = .ok (.aload_n 0, 1) := by decide +kernel
theorem dX5_extreme_3 : decode cX5_extreme 3 = .ok (.getfield 31, 3) := by decide +kernel
theorem dX5_extreme_6 : decode cX5_extreme 6 = .ok (.getfield 136, 3) := by decide +kernel
theorem dX5_extreme_9 : decode cX5_extreme 9 = .ok (.iload_n 1, 1) := by decide +kernel
theorem dX5_extreme_10 : decode cX5_extreme 10 = .ok (.iaload, 1) := by decide +kernel
theorem dX5_extreme_11 : decode cX5_extreme 11 = .ok (.istore 4, 2) := by decide +kernel
theorem dX5_extreme_13 : decode cX5_extreme 13 = .ok (.aload_n 0, 1) := by decide +kernel
theorem dX5_extreme_14 : decode cX5_extreme 14 = .ok (.getfield 31, 3) := by decide +kernel
theorem dX5_extreme_17 : decode cX5_extreme 17 = .ok (.invokevirtual 242, 3) := by decide +kernel
theorem dX5_extreme_20 : decode cX5_extreme 20 = .ok (.istore 5, 2) := by decide +kernel
theorem dX5_extreme_22 : decode cX5_extreme 22 = .ok (.iconst 1, 1) := by decide +kernel
theorem dX5_extreme_23 : decode cX5_extreme 23 = .ok (.istore 6, 2) := by decide +kernel
theorem dX5_extreme_25 : decode cX5_extreme 25 = .ok (.iload 6, 2) := by decide +kernel
theorem dX5_extreme_27 : decode cX5_extreme 27 = .ok (.iload 5, 2) := by decide +kernel
theorem dX5_extreme_29 : decode cX5_extreme 29 = .ok (.if_icmp .ge 55, 3) := by decide +kernel
theorem dX5_extreme_32 : decode cX5_extreme 32 = .ok (.aload_n 0, 1) := by decide +kernel
theorem dX5_extreme_33 : decode cX5_extreme 33 = .ok (.getfield 40, 3) := by decide +kernel
theorem dX5_extreme_36 : decode cX5_extreme 36 = .ok (.iload 6, 2) := by decide +kernel
theorem dX5_extreme_38 : decode cX5_extreme 38 = .ok (.iconst 1, 1) := by decide +kernel
theorem dX5_extreme_39 : decode cX5_extreme 39 = .ok (.invokevirtual 195, 3) := by decide +kernel
theorem dX5_extreme_42 : decode cX5_extreme 42 = .ok (.pop, 1) := by decide +kernel
theorem dX5_extreme_43 : decode cX5_extreme 43 = .ok (.iload_n 2, 1) := by decide +kernel
theorem dX5_extreme_44 : decode cX5_extreme 44 = .ok (.aload_n 0, 1) := by decide +kernel
theorem dX5_extreme_45 : decode cX5_extreme 45 = .ok (.getfield 40, 3) := by decide +kernel
theorem dX5_extreme_48 : decode cX5_extreme 48 = .ok (.getfield 198, 3) := by decide +kernel
theorem dX5_extreme_51 : decode cX5_extreme 51 = .ok (.iload_n 1, 1) := by decide +kernel
theorem dX5_extreme_52 : decode cX5_extreme 52 = .ok (.iaload, 1) := by decide +kernel
theorem dX5_extreme_53 : decode cX5_extreme 53 = .ok (.imul, 1) := by decide +kernel
theorem dX5_extreme_54 : decode cX5_extreme 54 = .ok (.iload_n 2, 1) := by decide +kernel
theorem dX5_extreme_55 : decode cX5_extreme 55 = .ok (.iload 4, 2) := by decide +kernel
theorem dX5_extreme_57 : decode cX5_extreme 57 = .ok (.imul, 1) := by decide +kernel
theorem dX5_extreme_58 : decode cX5_extreme 58 = .ok (.if_icmp .gt 6, 3) := by decide +kernel
theorem dX5_extreme_61 : decode cX5_extreme 61 = .ok (.goto 17, 3) := by decide +kernel
theorem dX5_extreme_64 : decode cX5_extreme 64 = .ok (.iload 6, 2) := by decide +kernel
theorem dX5_extreme_66 : decode cX5_extreme 66 = .ok (.istore_n 3, 1) := by decide +kernel
theorem dX5_extreme_67 : decode cX5_extreme 67 = .ok (.aload_n 0, 1) := by decide +kernel
theorem dX5_extreme_68 : decode cX5_extreme 68 = .ok (.getfield 40, 3) := by decide +kernel
theorem dX5_extreme_71 : decode cX5_extreme 71 = .ok (.getfield 198, 3) := by decide +kernel
theorem dX5_extreme_74 : decode cX5_extreme 74 = .ok (.iload_n 1, 1) := by decide +kernel
theorem dX5_extreme_75 : decode cX5_extreme 75 = .ok (.iaload, 1) := by decide +kernel
theorem dX5_extreme_76 : decode cX5_extreme 76 = .ok (.istore 4, 2) := by decide +kernel
theorem dX5_extreme_78 : decode cX5_extreme 78 = .ok (.iinc 6 1, 3) := by decide +kernel
theorem dX5_extreme_81 : decode cX5_extreme 81 = .ok (.goto (-56), 3) := by decide +kernel
theorem dX5_extreme_84 : decode cX5_extreme 84 = .ok (.aload_n 0, 1) := by decide +kernel
theorem dX5_extreme_85 : decode cX5_extreme 85 = .ok (.iload_n 3, 1) := by decide +kernel
theorem dX5_extreme_86 : decode cX5_extreme 86 = .ok (.iload 4, 2) := by decide +kernel
theorem dX5_extreme_88 : decode cX5_extreme 88 = .ok (.invokevirtual 90, 3) := by decide +kernel
theorem dX5_extreme_91 : decode cX5_extreme 91 = .ok (.ireturn, 1) := by decide +kernel
theorem dX5_layPlan_0 : decode cX5_layPlan 0 = .ok (.aload_n 0, 1) := by decide +kernel
theorem dX5_layPlan_1 : decode cX5_layPlan 1 = .ok (.getfield 14, 3) := by decide +kernel
theorem dX5_layPlan_4 : decode cX5_layPlan 4 = .ok (.iload_n 1, 1) := by decide +kernel
theorem dX5_layPlan_5 : decode cX5_layPlan 5 = .ok (.iload_n 2, 1) := by decide +kernel
theorem dX5_layPlan_6 : decode cX5_layPlan 6 = .ok (.iconst 0, 1) := by decide +kernel
theorem dX5_layPlan_7 : decode cX5_layPlan 7 = .ok (.invokevirtual 185, 3) := by decide +kernel
theorem dX5_layPlan_10 : decode cX5_layPlan 10 = .ok (.iconst 0, 1) := by decide +kernel
theorem dX5_layPlan_11 : decode cX5_layPlan 11 = .ok (.istore_n 3, 1) := by decide +kernel
theorem dX5_layPlan_12 : decode cX5_layPlan 12 = .ok (.iload_n 3, 1) := by decide +kernel
theorem dX5_layPlan_13 : decode cX5_layPlan 13 = .ok (.iload_n 2, 1) := by decide +kernel
theorem dX5_layPlan_14 : decode cX5_layPlan 14 = .ok (.if_icmp .ge 32, 3) := by decide +kernel
theorem dX5_layPlan_17 : decode cX5_layPlan 17 = .ok (.iload_n 3, 1) := by decide +kernel
theorem dX5_layPlan_18 : decode cX5_layPlan 18 = .ok (.iconst 3, 1) := by decide +kernel
theorem dX5_layPlan_19 : decode cX5_layPlan 19 = .ok (.if_icmp .ge 27, 3) := by decide +kernel
theorem dX5_layPlan_22 : decode cX5_layPlan 22 = .ok (.aload_n 0, 1) := by decide +kernel
theorem dX5_layPlan_23 : decode cX5_layPlan 23 = .ok (.getfield 14, 3) := by decide +kernel
theorem dX5_layPlan_26 : decode cX5_layPlan 26 = .ok (.iload_n 1, 1) := by decide +kernel
theorem dX5_layPlan_27 : decode cX5_layPlan 27 = .ok (.iload_n 3, 1) := by decide +kernel
theorem dX5_layPlan_28 : decode cX5_layPlan 28 = .ok (.aload_n 0, 1) := by decide +kernel
theorem dX5_layPlan_29 : decode cX5_layPlan 29 = .ok (.getfield 47, 3) := by decide +kernel
theorem dX5_layPlan_32 : decode cX5_layPlan 32 = .ok (.getfield 326, 3) := by decide +kernel
theorem dX5_layPlan_35 : decode cX5_layPlan 35 = .ok (.iload_n 3, 1) := by decide +kernel
theorem dX5_layPlan_36 : decode cX5_layPlan 36 = .ok (.iaload, 1) := by decide +kernel
theorem dX5_layPlan_37 : decode cX5_layPlan 37 = .ok (.invokevirtual 86, 3) := by decide +kernel
theorem dX5_layPlan_40 : decode cX5_layPlan 40 = .ok (.iinc 3 1, 3) := by decide +kernel
theorem dX5_layPlan_43 : decode cX5_layPlan 43 = .ok (.goto (-31), 3) := by decide +kernel
theorem dX5_layPlan_46 : decode cX5_layPlan 46 = .ok (.return_, 1) := by decide +kernel
theorem dX5_frostByLot_0 : decode cX5_frostByLot 0 = .ok (.aload_n 0, 1) := by decide +kernel
theorem dX5_frostByLot_1 : decode cX5_frostByLot 1 = .ok (.getfield 31, 3) := by decide +kernel
theorem dX5_frostByLot_4 : decode cX5_frostByLot 4 = .ok (.getfield 127, 3) := by decide +kernel
theorem dX5_frostByLot_7 : decode cX5_frostByLot 7 = .ok (.ifCond .eq 17, 3) := by decide +kernel
theorem dX5_frostByLot_10 : decode cX5_frostByLot 10 = .ok (.lload_n 1, 1) := by decide +kernel
theorem dX5_frostByLot_11 : decode cX5_frostByLot 11 = .ok (.ldc2_w 329, 3) := by decide +kernel
theorem dX5_frostByLot_14 : decode cX5_frostByLot 14 = .ok (.ldiv, 1) := by decide +kernel
theorem dX5_frostByLot_15 : decode cX5_frostByLot 15 = .ok (.ldc2_w 331, 3) := by decide +kernel
theorem dX5_frostByLot_18 : decode cX5_frostByLot 18 = .ok (.lrem, 1) := by decide +kernel
theorem dX5_frostByLot_19 : decode cX5_frostByLot 19 = .ok (.lconst 0, 1) := by decide +kernel
theorem dX5_frostByLot_20 : decode cX5_frostByLot 20 = .ok (.lcmp, 1) := by decide +kernel
theorem dX5_frostByLot_21 : decode cX5_frostByLot 21 = .ok (.ifCond .ne 5, 3) := by decide +kernel
theorem dX5_frostByLot_24 : decode cX5_frostByLot 24 = .ok (.iconst 0, 1) := by decide +kernel
theorem dX5_frostByLot_25 : decode cX5_frostByLot 25 = .ok (.ireturn, 1) := by decide +kernel
theorem dX5_frostByLot_26 : decode cX5_frostByLot 26 = .ok (.iconst 1, 1) := by decide +kernel
theorem dX5_frostByLot_27 : decode cX5_frostByLot 27 = .ok (.lload_n 1, 1) := by decide +kernel
theorem dX5_frostByLot_28 : decode cX5_frostByLot 28 = .ok (.ldc2_w 333, 3) := by decide +kernel
theorem dX5_frostByLot_31 : decode cX5_frostByLot 31 = .ok (.ldiv, 1) := by decide +kernel
theorem dX5_frostByLot_32 : decode cX5_frostByLot 32 = .ok (.aload_n 0, 1) := by decide +kernel
theorem dX5_frostByLot_33 : decode cX5_frostByLot 33 = .ok (.getfield 31, 3) := by decide +kernel
theorem dX5_frostByLot_36 : decode cX5_frostByLot 36 = .ok (.getfield 127, 3) := by decide +kernel
theorem dX5_frostByLot_39 : decode cX5_frostByLot 39 = .ok (.i2l, 1) := by decide +kernel
theorem dX5_frostByLot_40 : decode cX5_frostByLot 40 = .ok (.lrem, 1) := by decide +kernel
theorem dX5_frostByLot_41 : decode cX5_frostByLot 41 = .ok (.l2i, 1) := by decide +kernel
theorem dX5_frostByLot_42 : decode cX5_frostByLot 42 = .ok (.ishl, 1) := by decide +kernel
theorem dX5_frostByLot_43 : decode cX5_frostByLot 43 = .ok (.ireturn, 1) := by decide +kernel
theorem dX5_keptNow_0 : decode cX5_keptNow 0 = .ok (.iconst 0, 1) := by decide +kernel
theorem dX5_keptNow_1 : decode cX5_keptNow 1 = .ok (.istore_n 1, 1) := by decide +kernel
theorem dX5_keptNow_2 : decode cX5_keptNow 2 = .ok (.iconst 0, 1) := by decide +kernel
theorem dX5_keptNow_3 : decode cX5_keptNow 3 = .ok (.istore_n 2, 1) := by decide +kernel
theorem dX5_keptNow_4 : decode cX5_keptNow 4 = .ok (.iload_n 2, 1) := by decide +kernel
theorem dX5_keptNow_5 : decode cX5_keptNow 5 = .ok (.iconst 3, 1) := by decide +kernel
theorem dX5_keptNow_6 : decode cX5_keptNow 6 = .ok (.if_icmp .ge 21, 3) := by decide +kernel
theorem dX5_keptNow_9 : decode cX5_keptNow 9 = .ok (.aload_n 0, 1) := by decide +kernel
theorem dX5_keptNow_10 : decode cX5_keptNow 10 = .ok (.getfield 55, 3) := by decide +kernel
theorem dX5_keptNow_13 : decode cX5_keptNow 13 = .ok (.iload_n 2, 1) := by decide +kernel
theorem dX5_keptNow_14 : decode cX5_keptNow 14 = .ok (.baload, 1) := by decide +kernel
theorem dX5_keptNow_15 : decode cX5_keptNow 15 = .ok (.ifCond .eq 6, 3) := by decide +kernel
theorem dX5_keptNow_18 : decode cX5_keptNow 18 = .ok (.iinc 1 1, 3) := by decide +kernel
theorem dX5_keptNow_21 : decode cX5_keptNow 21 = .ok (.iinc 2 1, 3) := by decide +kernel
theorem dX5_keptNow_24 : decode cX5_keptNow 24 = .ok (.goto (-20), 3) := by decide +kernel
theorem dX5_keptNow_27 : decode cX5_keptNow 27 = .ok (.iload_n 1, 1) := by decide +kernel
theorem dX5_keptNow_28 : decode cX5_keptNow 28 = .ok (.ireturn, 1) := by decide +kernel
theorem dX5_keptEvenings_0 : decode cX5_keptEvenings 0 = .ok (.iload_n 1, 1) := by decide +kernel
theorem dX5_keptEvenings_1 : decode cX5_keptEvenings 1 = .ok (.ifCond .lt 17, 3) := by decide +kernel
theorem dX5_keptEvenings_4 : decode cX5_keptEvenings 4 = .ok (.iload_n 1, 1) := by decide +kernel
theorem dX5_keptEvenings_5 : decode cX5_keptEvenings 5 = .ok (.iconst 3, 1) := by decide +kernel
theorem dX5_keptEvenings_6 : decode cX5_keptEvenings 6 = .ok (.if_icmp .ge 12, 3) := by decide +kernel
theorem dX5_keptEvenings_9 : decode cX5_keptEvenings 9 = .ok (.aload_n 0, 1) := by decide +kernel
theorem dX5_keptEvenings_10 : decode cX5_keptEvenings 10 = .ok (.getfield 55, 3) := by decide +kernel
theorem dX5_keptEvenings_13 : decode cX5_keptEvenings 13 = .ok (.iload_n 1, 1) := by decide +kernel
theorem dX5_keptEvenings_14 : decode cX5_keptEvenings 14 = .ok (.baload, 1) := by decide +kernel
theorem dX5_keptEvenings_15 : decode cX5_keptEvenings 15 = .ok (.ifCond .ne 5, 3) := by decide +kernel
theorem dX5_keptEvenings_18 : decode cX5_keptEvenings 18 = .ok (.iconst (-1), 1) := by decide +kernel
theorem dX5_keptEvenings_19 : decode cX5_keptEvenings 19 = .ok (.ireturn, 1) := by decide +kernel
theorem dX5_keptEvenings_20 : decode cX5_keptEvenings 20 = .ok (.aload_n 0, 1) := by decide +kernel
theorem dX5_keptEvenings_21 : decode cX5_keptEvenings 21 = .ok (.getfield 51, 3) := by decide +kernel
theorem dX5_keptEvenings_24 : decode cX5_keptEvenings 24 = .ok (.iload_n 1, 1) := by decide +kernel
theorem dX5_keptEvenings_25 : decode cX5_keptEvenings 25 = .ok (.aaload, 1) := by decide +kernel
theorem dX5_keptEvenings_26 : decode cX5_keptEvenings 26 = .ok (.astore_n 2, 1) := by decide +kernel
theorem dX5_keptEvenings_27 : decode cX5_keptEvenings 27 = .ok (.aload_n 2, 1) := by decide +kernel
theorem dX5_keptEvenings_28 : decode cX5_keptEvenings 28 = .ok (.ifnonnull 7, 3) := by decide +kernel
theorem dX5_keptEvenings_31 : decode cX5_keptEvenings 31 = .ok (.iconst (-1), 1) := by decide +kernel
theorem dX5_keptEvenings_32 : decode cX5_keptEvenings 32 = .ok (.goto 7, 3) := by decide +kernel
theorem dX5_keptEvenings_35 : decode cX5_keptEvenings 35 = .ok (.aload_n 2, 1) := by decide +kernel
theorem dX5_keptEvenings_36 : decode cX5_keptEvenings 36 = .ok (.getfield 173, 3) := by decide +kernel
theorem dX5_keptEvenings_39 : decode cX5_keptEvenings 39 = .ok (.ireturn, 1) := by decide +kernel
theorem dX5_commonDivisor_0 : decode cX5_commonDivisor 0 = .ok (.iload_n 0, 1) := by decide +kernel
theorem dX5_commonDivisor_1 : decode cX5_commonDivisor 1 = .ok (.istore_n 2, 1) := by decide +kernel
theorem dX5_commonDivisor_2 : decode cX5_commonDivisor 2 = .ok (.iload_n 1, 1) := by decide +kernel
theorem dX5_commonDivisor_3 : decode cX5_commonDivisor 3 = .ok (.istore_n 3, 1) := by decide +kernel
theorem dX5_commonDivisor_4 : decode cX5_commonDivisor 4 = .ok (.iconst 0, 1) := by decide +kernel
theorem dX5_commonDivisor_5 : decode cX5_commonDivisor 5 = .ok (.istore 4, 2) := by decide +kernel
theorem dX5_commonDivisor_7 : decode cX5_commonDivisor 7 = .ok (.iload 4, 2) := by decide +kernel
theorem dX5_commonDivisor_9 : decode cX5_commonDivisor 9 = .ok (.bipush 64, 2) := by decide +kernel
theorem dX5_commonDivisor_11 : decode cX5_commonDivisor 11 = .ok (.if_icmp .ge 23, 3) := by decide +kernel
theorem dX5_commonDivisor_14 : decode cX5_commonDivisor 14 = .ok (.iload_n 3, 1) := by decide +kernel
theorem dX5_commonDivisor_15 : decode cX5_commonDivisor 15 = .ok (.ifCond .eq 19, 3) := by decide +kernel
theorem dX5_commonDivisor_18 : decode cX5_commonDivisor 18 = .ok (.iload_n 2, 1) := by decide +kernel
theorem dX5_commonDivisor_19 : decode cX5_commonDivisor 19 = .ok (.iload_n 3, 1) := by decide +kernel
theorem dX5_commonDivisor_20 : decode cX5_commonDivisor 20 = .ok (.irem, 1) := by decide +kernel
theorem dX5_commonDivisor_21 : decode cX5_commonDivisor 21 = .ok (.istore 5, 2) := by decide +kernel
theorem dX5_commonDivisor_23 : decode cX5_commonDivisor 23 = .ok (.iload_n 3, 1) := by decide +kernel
theorem dX5_commonDivisor_24 : decode cX5_commonDivisor 24 = .ok (.istore_n 2, 1) := by decide +kernel
theorem dX5_commonDivisor_25 : decode cX5_commonDivisor 25 = .ok (.iload 5, 2) := by decide +kernel
theorem dX5_commonDivisor_27 : decode cX5_commonDivisor 27 = .ok (.istore_n 3, 1) := by decide +kernel
theorem dX5_commonDivisor_28 : decode cX5_commonDivisor 28 = .ok (.iinc 4 1, 3) := by decide +kernel
theorem dX5_commonDivisor_31 : decode cX5_commonDivisor 31 = .ok (.goto (-24), 3) := by decide +kernel
theorem dX5_commonDivisor_34 : decode cX5_commonDivisor 34 = .ok (.iload_n 2, 1) := by decide +kernel
theorem dX5_commonDivisor_35 : decode cX5_commonDivisor 35 = .ok (.ifCond .ne 7, 3) := by decide +kernel
theorem dX5_commonDivisor_38 : decode cX5_commonDivisor 38 = .ok (.iconst 1, 1) := by decide +kernel
theorem dX5_commonDivisor_39 : decode cX5_commonDivisor 39 = .ok (.goto 4, 3) := by decide +kernel
theorem dX5_commonDivisor_42 : decode cX5_commonDivisor 42 = .ok (.iload_n 2, 1) := by decide +kernel
theorem dX5_commonDivisor_43 : decode cX5_commonDivisor 43 = .ok (.ireturn, 1) := by decide +kernel
end
section
theorem dX6_init_0 : decode cX6_init 0 = .ok (.aload_n 0, 1) := by decide +kernel
theorem dX6_init_1 : decode cX6_init 1 = .ok (.invokespecial 1, 3) := by decide +kernel
theorem dX6_init_4 : decode cX6_init 4 = .ok (.aload_n 0, 1) := by decide +kernel
theorem dX6_init_5 : decode cX6_init 5 = .ok (.bipush 6, 2) := by decide +kernel
theorem dX6_init_7 : decode cX6_init 7 = .ok (.newarray .int, 2) := by decide +kernel
theorem dX6_init_9 : decode cX6_init 9 = .ok (.putfield 7, 3) := by decide +kernel
theorem dX6_init_12 : decode cX6_init 12 = .ok (.aload_n 0, 1) := by decide +kernel
theorem dX6_init_13 : decode cX6_init 13 = .ok (.bipush 6, 2) := by decide +kernel
theorem dX6_init_15 : decode cX6_init 15 = .ok (.newarray .int, 2) := by decide +kernel
theorem dX6_init_17 : decode cX6_init 17 = .ok (.putfield 13, 3) := by decide +kernel
theorem dX6_init_20 : decode cX6_init 20 = .ok (.aload_n 0, 1) := by decide +kernel
theorem dX6_init_21 : decode cX6_init 21 = .ok (.sipush 240, 3) := by decide +kernel
theorem dX6_init_24 : decode cX6_init 24 = .ok (.newarray .int, 2) := by decide +kernel
theorem dX6_init_26 : decode cX6_init 26 = .ok (.putfield 16, 3) := by decide +kernel
theorem dX6_init_29 : decode cX6_init 29 = .ok (.aload_n 0, 1) := by decide +kernel
theorem dX6_init_30 : decode cX6_init 30 = .ok (.bipush 40, 2) := by decide +kernel
theorem dX6_init_32 : decode cX6_init 32 = .ok (.newarray .int, 2) := by decide +kernel
theorem dX6_init_34 : decode cX6_init 34 = .ok (.putfield 19, 3) := by decide +kernel
theorem dX6_init_37 : decode cX6_init 37 = .ok (.aload_n 0, 1) := by decide +kernel
theorem dX6_init_38 : decode cX6_init 38 = .ok (.iconst 4, 1) := by decide +kernel
theorem dX6_init_39 : decode cX6_init 39 = .ok (.newarray .int, 2) := by decide +kernel
theorem dX6_init_41 : decode cX6_init 41 = .ok (.putfield 22, 3) := by decide +kernel
theorem dX6_init_44 : decode cX6_init 44 = .ok (.aload_n 0, 1) := by decide +kernel
theorem dX6_init_45 : decode cX6_init 45 = .ok (.sipush 320, 3) := by decide +kernel
theorem dX6_init_48 : decode cX6_init 48 = .ok (.newarray .int, 2) := by decide +kernel
theorem dX6_init_50 : decode cX6_init 50 = .ok (.putfield 25, 3) := by decide +kernel
theorem dX6_init_53 : decode cX6_init 53 = .ok (.aload_n 0, 1) := by decide +kernel
theorem dX6_init_54 : decode cX6_init 54 = .ok (.bipush 10, 2) := by decide +kernel
theorem dX6_init_56 : decode cX6_init 56 = .ok (.newarray .int, 2) := by decide +kernel
theorem dX6_init_58 : decode cX6_init 58 = .ok (.putfield 28, 3) := by decide +kernel
theorem dX6_init_61 : decode cX6_init 61 = .ok (.aload_n 0, 1) := by decide +kernel
theorem dX6_init_62 : decode cX6_init 62 = .ok (.iconst 3, 1) := by decide +kernel
theorem dX6_init_63 : decode cX6_init 63 = .ok (.newarray .int, 2) := by decide +kernel
theorem dX6_init_65 : decode cX6_init 65 = .ok (.putfield 31, 3) := by decide +kernel
theorem dX6_init_68 : decode cX6_init 68 = .ok (.aload_n 0, 1) := by decide +kernel
theorem dX6_init_69 : decode cX6_init 69 = .ok (.iconst 3, 1) := by decide +kernel
theorem dX6_init_70 : decode cX6_init 70 = .ok (.newarray .int, 2) := by decide +kernel
theorem dX6_init_72 : decode cX6_init 72 = .ok (.putfield 34, 3) := by decide +kernel
theorem dX6_init_75 : decode cX6_init 75 = .ok (.aload_n 0, 1) := by decide +kernel
theorem dX6_init_76 : decode cX6_init 76 = .ok (.iconst 3, 1) := by decide +kernel
theorem dX6_init_77 : decode cX6_init 77 = .ok (.newarray .int, 2) := by decide +kernel
theorem dX6_init_79 : decode cX6_init 79 = .ok (.putfield 37, 3) := by decide +kernel
theorem dX6_init_82 : decode cX6_init 82 = .ok (.aload_n 0, 1) := by decide +kernel
theorem dX6_init_83 : decode cX6_init 83 = .ok (.iconst 3, 1) := by decide +kernel
theorem dX6_init_84 : decode cX6_init 84 = .ok (.newarray .int, 2) := by decide +kernel
theorem dX6_init_86 : decode cX6_init 86 = .ok (.putfield 40, 3) := by decide +kernel
theorem dX6_init_89 : decode cX6_init 89 = .ok (.aload_n 0, 1) := by decide +kernel
theorem dX6_init_90 : decode cX6_init 90 = .ok (.bipush 10, 2) := by decide +kernel
theorem dX6_init_92 : decode cX6_init 92 = .ok (.newarray .int, 2) := by decide +kernel
theorem dX6_init_94 : decode cX6_init 94 = .ok (.putfield 43, 3) := by decide +kernel
theorem dX6_init_97 : decode cX6_init 97 = .ok (.aload_n 0, 1) := by decide +kernel
theorem dX6_init_98 : decode cX6_init 98 = .ok (.iconst 3, 1) := by decide +kernel
theorem dX6_init_99 : decode cX6_init 99 = .ok (.newarray .int, 2) := by decide +kernel
theorem dX6_init_101 : decode cX6_init 101 = .ok (.putfield 46, 3) := by decide +kernel
theorem dX6_init_104 : decode cX6_init 104 = .ok (.aload_n 0, 1) := by decide +kernel
theorem dX6_init_105 : decode cX6_init 105 = .ok (.iconst 3, 1) := by decide +kernel
theorem dX6_init_106 : decode cX6_init 106 = .ok (.newarray .int, 2) := by decide +kernel
theorem dX6_init_108 : decode cX6_init 108 = .ok (.putfield 49, 3) := by decide +kernel
theorem dX6_init_111 : decode cX6_init 111 = .ok (.aload_n 0, 1) := by decide +kernel
theorem dX6_init_112 : decode cX6_init 112 = .ok (.iconst 3, 1) := by decide +kernel
theorem dX6_init_113 : decode cX6_init 113 = .ok (.newarray .int, 2) := by decide +kernel
theorem dX6_init_115 : decode cX6_init 115 = .ok (.putfield 52, 3) := by decide +kernel
theorem dX6_init_118 : decode cX6_init 118 = .ok (.aload_n 0, 1) := by decide +kernel
theorem dX6_init_119 : decode cX6_init 119 = .ok (.bipush 14, 2) := by decide +kernel
theorem dX6_init_121 : decode cX6_init 121 = .ok (.newarray .int, 2) := by decide +kernel
theorem dX6_init_123 : decode cX6_init 123 = .ok (.putfield 55, 3) := by decide +kernel
theorem dX6_init_126 : decode cX6_init 126 = .ok (.aload_n 0, 1) := by decide +kernel
theorem dX6_init_127 : decode cX6_init 127 = .ok (.bipush 60, 2) := by decide +kernel
theorem dX6_init_129 : decode cX6_init 129 = .ok (.newarray .int, 2) := by decide +kernel
theorem dX6_init_131 : decode cX6_init 131 = .ok (.putfield 58, 3) := by decide +kernel
theorem dX6_init_134 : decode cX6_init 134 = .ok (.aload_n 0, 1) := by decide +kernel
theorem dX6_init_135 : decode cX6_init 135 = .ok (.sipush 840, 3) := by decide +kernel
theorem dX6_init_138 : decode cX6_init 138 = .ok (.newarray .int, 2) := by decide +kernel
theorem dX6_init_140 : decode cX6_init 140 = .ok (.putfield 61, 3) := by decide +kernel
theorem dX6_init_143 : decode cX6_init 143 = .ok (.aload_n 0, 1) := by decide +kernel
theorem dX6_init_144 : decode cX6_init 144 = .ok (.sipush 2760, 3) := by decide +kernel
theorem dX6_init_147 : decode cX6_init 147 = .ok (.newarray .int, 2) := by decide +kernel
theorem dX6_init_149 : decode cX6_init 149 = .ok (.putfield 64, 3) := by decide +kernel
theorem dX6_init_152 : decode cX6_init 152 = .ok (.aload_n 0, 1) := by decide +kernel
theorem dX6_init_153 : decode cX6_init 153 = .ok (.bipush 14, 2) := by decide +kernel
theorem dX6_init_155 : decode cX6_init 155 = .ok (.newarray .int, 2) := by decide +kernel
theorem dX6_init_157 : decode cX6_init 157 = .ok (.putfield 67, 3) := by decide +kernel
theorem dX6_init_160 : decode cX6_init 160 = .ok (.aload_n 0, 1) := by decide +kernel
theorem dX6_init_161 : decode cX6_init 161 = .ok (.bipush 10, 2) := by decide +kernel
theorem dX6_init_163 : decode cX6_init 163 = .ok (.newarray .int, 2) := by decide +kernel
theorem dX6_init_165 : decode cX6_init 165 = .ok (.putfield 70, 3) := by decide +kernel
theorem dX6_init_168 : decode cX6_init 168 = .ok (.aload_n 0, 1) := by decide +kernel
theorem dX6_init_169 : decode cX6_init 169 = .ok (.bipush 98, 2) := by decide +kernel
theorem dX6_init_171 : decode cX6_init 171 = .ok (.newarray .int, 2) := by decide +kernel
theorem dX6_init_173 : decode cX6_init 173 = .ok (.putfield 73, 3) := by decide +kernel
theorem dX6_init_176 : decode cX6_init 176 = .ok (.aload_n 0, 1) := by decide +kernel
theorem dX6_init_177 : decode cX6_init 177 = .ok (.iconst 3, 1) := by decide +kernel
theorem dX6_init_178 : decode cX6_init 178 = .ok (.newarray .int, 2) := by decide +kernel
theorem dX6_init_180 : decode cX6_init 180 = .ok (.putfield 76, 3) := by decide +kernel
theorem dX6_init_183 : decode cX6_init 183 = .ok (.aload_n 0, 1) := by decide +kernel
theorem dX6_init_184 : decode cX6_init 184 = .ok (.iconst 3, 1) := by decide +kernel
theorem dX6_init_185 : decode cX6_init 185 = .ok (.newarray .int, 2) := by decide +kernel
theorem dX6_init_187 : decode cX6_init 187 = .ok (.putfield 79, 3) := by decide +kernel
theorem dX6_init_190 : decode cX6_init 190 = .ok (.aload_n 0, 1) := by decide +kernel
theorem dX6_init_191 : decode cX6_init 191 = .ok (.iconst 3, 1) := by decide +kernel
theorem dX6_init_192 : decode cX6_init 192 = .ok (.newarray .int, 2) := by decide +kernel
theorem dX6_init_194 : decode cX6_init 194 = .ok (.putfield 82, 3) := by decide +kernel
theorem dX6_init_197 : decode cX6_init 197 = .ok (.iconst 0, 1) := by decide +kernel
theorem dX6_init_198 : decode cX6_init 198 = .ok (.istore_n 1, 1) := by decide +kernel
theorem dX6_init_199 : decode cX6_init 199 = .ok (.iload_n 1, 1) := by decide +kernel
theorem dX6_init_200 : decode cX6_init 200 = .ok (.bipush 6, 2) := by decide +kernel
theorem dX6_init_202 : decode cX6_init 202 = .ok (.if_icmp .ge 17, 3) := by decide +kernel
theorem dX6_init_205 : decode cX6_init 205 = .ok (.aload_n 0, 1) := by decide +kernel
theorem dX6_init_206 : decode cX6_init 206 = .ok (.getfield 13, 3) := by decide +kernel
theorem dX6_init_209 : decode cX6_init 209 = .ok (.iload_n 1, 1) := by decide +kernel
theorem dX6_init_210 : decode cX6_init 210 = .ok (.bipush (-9), 2) := by decide +kernel
theorem dX6_init_212 : decode cX6_init 212 = .ok (.iastore, 1) := by decide +kernel
theorem dX6_init_213 : decode cX6_init 213 = .ok (.iinc 1 1, 3) := by decide +kernel
theorem dX6_init_216 : decode cX6_init 216 = .ok (.goto (-17), 3) := by decide +kernel
theorem dX6_init_219 : decode cX6_init 219 = .ok (.iconst 0, 1) := by decide +kernel
theorem dX6_init_220 : decode cX6_init 220 = .ok (.istore_n 1, 1) := by decide +kernel
theorem dX6_init_221 : decode cX6_init 221 = .ok (.iload_n 1, 1) := by decide +kernel
theorem dX6_init_222 : decode cX6_init 222 = .ok (.iconst 4, 1) := by decide +kernel
theorem dX6_init_223 : decode cX6_init 223 = .ok (.if_icmp .ge 17, 3) := by decide +kernel
theorem dX6_init_226 : decode cX6_init 226 = .ok (.aload_n 0, 1) := by decide +kernel
theorem dX6_init_227 : decode cX6_init 227 = .ok (.getfield 22, 3) := by decide +kernel
theorem dX6_init_230 : decode cX6_init 230 = .ok (.iload_n 1, 1) := by decide +kernel
theorem dX6_init_231 : decode cX6_init 231 = .ok (.bipush (-9), 2) := by decide +kernel
theorem dX6_init_233 : decode cX6_init 233 = .ok (.iastore, 1) := by decide +kernel
theorem dX6_init_234 : decode cX6_init 234 = .ok (.iinc 1 1, 3) := by decide +kernel
theorem dX6_init_237 : decode cX6_init 237 = .ok (.goto (-16), 3) := by decide +kernel
theorem dX6_init_240 : decode cX6_init 240 = .ok (.iconst 0, 1) := by decide +kernel
theorem dX6_init_241 : decode cX6_init 241 = .ok (.istore_n 1, 1) := by decide +kernel
theorem dX6_init_242 : decode cX6_init 242 = .ok (.iload_n 1, 1) := by decide +kernel
theorem dX6_init_243 : decode cX6_init 243 = .ok (.iconst 3, 1) := by decide +kernel
theorem dX6_init_244 : decode cX6_init 244 = .ok (.if_icmp .ge 21, 3) := by decide +kernel
theorem dX6_init_247 : decode cX6_init 247 = .ok (.aload_n 0, 1) := by decide +kernel
theorem dX6_init_248 : decode cX6_init 248 = .ok (.getfield 64, 3) := by decide +kernel
theorem dX6_init_251 : decode cX6_init 251 = .ok (.sipush 920, 3) := by decide +kernel
theorem dX6_init_254 : decode cX6_init 254 = .ok (.iload_n 1, 1) := by decide +kernel
theorem dX6_init_255 : decode cX6_init 255 = .ok (.imul, 1) := by decide +kernel
theorem dX6_init_256 : decode cX6_init 256 = .ok (.bipush (-9), 2) := by decide +kernel
theorem dX6_init_258 : decode cX6_init 258 = .ok (.iastore, 1) := by decide +kernel
theorem dX6_init_259 : decode cX6_init 259 = .ok (.iinc 1 1, 3) := by decide +kernel
theorem dX6_init_262 : decode cX6_init 262 = .ok (.goto (-20), 3) := by decide +kernel
theorem dX6_init_265 : decode cX6_init 265 = .ok (.return_, 1) := by decide +kernel
theorem dX6_in_0 : decode cX6_in 0 = .ok (.iload_n 0, 1) := by decide +kernel
theorem dX6_in_1 : decode cX6_in 1 = .ok (.iload_n 1, 1) := by decide +kernel
theorem dX6_in_2 : decode cX6_in 2 = .ok (.if_icmp .lt 12, 3) := by decide +kernel
theorem dX6_in_5 : decode cX6_in 5 = .ok (.iload_n 0, 1) := by decide +kernel
theorem dX6_in_6 : decode cX6_in 6 = .ok (.iload_n 2, 1) := by decide +kernel
theorem dX6_in_7 : decode cX6_in 7 = .ok (.if_icmp .gt 7, 3) := by decide +kernel
theorem dX6_in_10 : decode cX6_in 10 = .ok (.iconst 1, 1) := by decide +kernel
theorem dX6_in_11 : decode cX6_in 11 = .ok (.goto 4, 3) := by decide +kernel
theorem dX6_in_14 : decode cX6_in 14 = .ok (.iconst 0, 1) := by decide +kernel
theorem dX6_in_15 : decode cX6_in 15 = .ok (.ireturn, 1) := by decide +kernel
theorem dX6_meet_0 : decode cX6_meet 0 = .ok (.aload_n 0, 1) := by decide +kernel
theorem dX6_meet_1 : decode cX6_meet 1 = .ok (.iload_n 1, 1) := by decide +kernel
theorem dX6_meet_2 : decode cX6_meet 2 = .ok (.putfield 85, 3) := by decide +kernel
theorem dX6_meet_5 : decode cX6_meet 5 = .ok (.aload_n 0, 1) := by decide +kernel
theorem dX6_meet_6 : decode cX6_meet 6 = .ok (.getfield 7, 3) := by decide +kernel
theorem dX6_meet_9 : decode cX6_meet 9 = .ok (.iload_n 1, 1) := by decide +kernel
theorem dX6_meet_10 : decode cX6_meet 10 = .ok (.dup2, 1) := by decide +kernel
theorem dX6_meet_11 : decode cX6_meet 11 = .ok (.iaload, 1) := by decide +kernel
theorem dX6_meet_12 : decode cX6_meet 12 = .ok (.iconst 1, 1) := by decide +kernel
theorem dX6_meet_13 : decode cX6_meet 13 = .ok (.iadd, 1) := by decide +kernel
theorem dX6_meet_14 : decode cX6_meet 14 = .ok (.iastore, 1) := by decide +kernel
theorem dX6_meet_15 : decode cX6_meet 15 = .ok (.bipush (-3), 2) := by decide +kernel
theorem dX6_meet_17 : decode cX6_meet 17 = .ok (.ireturn, 1) := by decide +kernel
theorem dX6_ask_0 : decode cX6_ask 0 = .ok (.aload_n 0, 1) := by decide +kernel
theorem dX6_ask_1 : decode cX6_ask 1 = .ok (.iload_n 1, 1) := by decide +kernel
theorem dX6_ask_2 : decode cX6_ask 2 = .ok (.putfield 89, 3) := by decide +kernel
theorem dX6_ask_5 : decode cX6_ask 5 = .ok (.iload_n 2, 1) := by decide +kernel
theorem dX6_ask_6 : decode cX6_ask 6 = .ok (.ireturn, 1) := by decide +kernel
theorem dX6_has_0 : decode cX6_has 0 = .ok (.iload_n 0, 1) := by decide +kernel
theorem dX6_has_1 : decode cX6_has 1 = .ok (.iload_n 1, 1) := by decide +kernel
theorem dX6_has_2 : decode cX6_has 2 = .ok (.ishr, 1) := by decide +kernel
theorem dX6_has_3 : decode cX6_has 3 = .ok (.iconst 1, 1) := by decide +kernel
theorem dX6_has_4 : decode cX6_has 4 = .ok (.iand, 1) := by decide +kernel
theorem dX6_has_5 : decode cX6_has 5 = .ok (.iconst 1, 1) := by decide +kernel
theorem dX6_has_6 : decode cX6_has 6 = .ok (.if_icmp .ne 7, 3) := by decide +kernel
theorem dX6_has_9 : decode cX6_has 9 = .ok (.iconst 1, 1) := by decide +kernel
theorem dX6_has_10 : decode cX6_has 10 = .ok (.goto 4, 3) := by decide +kernel
theorem dX6_has_13 : decode cX6_has 13 = .ok (.iconst 0, 1) := by decide +kernel
theorem dX6_has_14 : decode cX6_has 14 = .ok (.ireturn, 1) := by decide +kernel
theorem dX6_sizeOf_0 : decode cX6_sizeOf 0 = .ok (.iconst 0, 1) := by decide +kernel
theorem dX6_sizeOf_1 : decode cX6_sizeOf 1 = .ok (.istore_n 1, 1) := by decide +kernel
theorem dX6_sizeOf_2 : decode cX6_sizeOf 2 = .ok (.iconst 0, 1) := by decide +kernel
theorem dX6_sizeOf_3 : decode cX6_sizeOf 3 = .ok (.istore_n 2, 1) := by decide +kernel
theorem dX6_sizeOf_4 : decode cX6_sizeOf 4 = .ok (.iload_n 2, 1) := by decide +kernel
theorem dX6_sizeOf_5 : decode cX6_sizeOf 5 = .ok (.bipush 10, 2) := by decide +kernel
theorem dX6_sizeOf_7 : decode cX6_sizeOf 7 = .ok (.if_icmp .ge 17, 3) := by decide +kernel
theorem dX6_sizeOf_10 : decode cX6_sizeOf 10 = .ok (.iload_n 1, 1) := by decide +kernel
theorem dX6_sizeOf_11 : decode cX6_sizeOf 11 = .ok (.iload_n 0, 1) := by decide +kernel
theorem dX6_sizeOf_12 : decode cX6_sizeOf 12 = .ok (.iload_n 2, 1) := by decide +kernel
theorem dX6_sizeOf_13 : decode cX6_sizeOf 13 = .ok (.ishr, 1) := by decide +kernel
theorem dX6_sizeOf_14 : decode cX6_sizeOf 14 = .ok (.iconst 1, 1) := by decide +kernel
theorem dX6_sizeOf_15 : decode cX6_sizeOf 15 = .ok (.iand, 1) := by decide +kernel
theorem dX6_sizeOf_16 : decode cX6_sizeOf 16 = .ok (.iadd, 1) := by decide +kernel
theorem dX6_sizeOf_17 : decode cX6_sizeOf 17 = .ok (.istore_n 1, 1) := by decide +kernel
theorem dX6_sizeOf_18 : decode cX6_sizeOf 18 = .ok (.iinc 2 1, 3) := by decide +kernel
theorem dX6_sizeOf_21 : decode cX6_sizeOf 21 = .ok (.goto (-17), 3) := by decide +kernel
theorem dX6_sizeOf_24 : decode cX6_sizeOf 24 = .ok (.iload_n 1, 1) := by decide +kernel
theorem dX6_sizeOf_25 : decode cX6_sizeOf 25 = .ok (.ireturn, 1) := by decide +kernel
theorem dX6_isRow_0 : decode cX6_isRow 0 = .ok (.iload_n 0, 1) := by decide +kernel
theorem dX6_isRow_1 : decode cX6_isRow 1 = .ok (.iconst 0, 1) := by decide +kernel
theorem dX6_isRow_2 : decode cX6_isRow 2 = .ok (.iconst 5, 1) := by decide +kernel
theorem dX6_isRow_3 : decode cX6_isRow 3 = .ok (.invokestatic 92, 3) := by decide +kernel
theorem dX6_isRow_6 : decode cX6_isRow 6 = .ok (.ireturn, 1) := by decide +kernel
theorem dX6_isText_0 : decode cX6_isText 0 = .ok (.iload_n 0, 1) := by decide +kernel
theorem dX6_isText_1 : decode cX6_isText 1 = .ok (.iconst 0, 1) := by decide +kernel
theorem dX6_isText_2 : decode cX6_isText 2 = .ok (.iconst 3, 1) := by decide +kernel
theorem dX6_isText_3 : decode cX6_isText 3 = .ok (.invokestatic 92, 3) := by decide +kernel
theorem dX6_isText_6 : decode cX6_isText 6 = .ok (.ireturn, 1) := by decide +kernel
theorem dX6_askedRow_0 : decode cX6_askedRow 0 = .ok (.iload_n 1, 1) := by decide +kernel
theorem dX6_askedRow_1 : decode cX6_askedRow 1 = .ok (.invokestatic 96, 3) := by decide +kernel
theorem dX6_askedRow_4 : decode cX6_askedRow 4 = .ok (.ifCond .ne 7, 3) := by decide +kernel
theorem dX6_askedRow_7 : decode cX6_askedRow 7 = .ok (.iconst (-1), 1) := by decide +kernel
theorem dX6_askedRow_8 : decode cX6_askedRow 8 = .ok (.goto 21, 3) := by decide +kernel
theorem dX6_askedRow_11 : decode cX6_askedRow 11 = .ok (.aload_n 0, 1) := by decide +kernel
theorem dX6_askedRow_12 : decode cX6_askedRow 12 = .ok (.getfield 13, 3) := by decide +kernel
theorem dX6_askedRow_15 : decode cX6_askedRow 15 = .ok (.iload_n 1, 1) := by decide +kernel
theorem dX6_askedRow_16 : decode cX6_askedRow 16 = .ok (.iaload, 1) := by decide +kernel
theorem dX6_askedRow_17 : decode cX6_askedRow 17 = .ok (.ifCond .ge 11, 3) := by decide +kernel
theorem dX6_askedRow_20 : decode cX6_askedRow 20 = .ok (.aload_n 0, 1) := by decide +kernel
theorem dX6_askedRow_21 : decode cX6_askedRow 21 = .ok (.iconst 1, 1) := by decide +kernel
theorem dX6_askedRow_22 : decode cX6_askedRow 22 = .ok (.invokevirtual 100, 3) := by decide +kernel
theorem dX6_askedRow_25 : decode cX6_askedRow 25 = .ok (.goto 4, 3) := by decide +kernel
theorem dX6_askedRow_28 : decode cX6_askedRow 28 = .ok (.iconst 0, 1) := by decide +kernel
theorem dX6_askedRow_29 : decode cX6_askedRow 29 = .ok (.ireturn, 1) := by decide +kernel
theorem dX6_askedText_0 : decode cX6_askedText 0 = .ok (.iload_n 1, 1) := by decide +kernel
theorem dX6_askedText_1 : decode cX6_askedText 1 = .ok (.invokestatic 104, 3) := by decide +kernel
theorem dX6_askedText_4 : decode cX6_askedText 4 = .ok (.ifCond .ne 7, 3) := by decide +kernel
theorem dX6_askedText_7 : decode cX6_askedText 7 = .ok (.iconst (-1), 1) := by decide +kernel
theorem dX6_askedText_8 : decode cX6_askedText 8 = .ok (.goto 21, 3) := by decide +kernel
theorem dX6_askedText_11 : decode cX6_askedText 11 = .ok (.aload_n 0, 1) := by decide +kernel
theorem dX6_askedText_12 : decode cX6_askedText 12 = .ok (.getfield 22, 3) := by decide +kernel
theorem dX6_askedText_15 : decode cX6_askedText 15 = .ok (.iload_n 1, 1) := by decide +kernel
theorem dX6_askedText_16 : decode cX6_askedText 16 = .ok (.iaload, 1) := by decide +kernel
theorem dX6_askedText_17 : decode cX6_askedText 17 = .ok (.ifCond .ge 11, 3) := by decide +kernel
theorem dX6_askedText_20 : decode cX6_askedText 20 = .ok (.aload_n 0, 1) := by decide +kernel
theorem dX6_askedText_21 : decode cX6_askedText 21 = .ok (.iconst 1, 1) := by decide +kernel
theorem dX6_askedText_22 : decode cX6_askedText 22 = .ok (.invokevirtual 100, 3) := by decide +kernel
theorem dX6_askedText_25 : decode cX6_askedText 25 = .ok (.goto 4, 3) := by decide +kernel
theorem dX6_askedText_28 : decode cX6_askedText 28 = .ok (.iconst 0, 1) := by decide +kernel
theorem dX6_askedText_29 : decode cX6_askedText 29 = .ok (.ireturn, 1) := by decide +kernel
theorem dX6_rowAt_0 : decode cX6_rowAt 0 = .ok (.aload_n 0, 1) := by decide +kernel
theorem dX6_rowAt_1 : decode cX6_rowAt 1 = .ok (.getfield 16, 3) := by decide +kernel
theorem dX6_rowAt_4 : decode cX6_rowAt 4 = .ok (.bipush 40, 2) := by decide +kernel
theorem dX6_rowAt_6 : decode cX6_rowAt 6 = .ok (.iload_n 1, 1) := by decide +kernel
theorem dX6_rowAt_7 : decode cX6_rowAt 7 = .ok (.imul, 1) := by decide +kernel
theorem dX6_rowAt_8 : decode cX6_rowAt 8 = .ok (.iload_n 2, 1) := by decide +kernel
theorem dX6_rowAt_9 : decode cX6_rowAt 9 = .ok (.iadd, 1) := by decide +kernel
theorem dX6_rowAt_10 : decode cX6_rowAt 10 = .ok (.iaload, 1) := by decide +kernel
theorem dX6_rowAt_11 : decode cX6_rowAt 11 = .ok (.ireturn, 1) := by decide +kernel
theorem dX6_setRow_0 : decode cX6_setRow 0 = .ok (.aload_n 0, 1) := by decide +kernel
theorem dX6_setRow_1 : decode cX6_setRow 1 = .ok (.getfield 16, 3) := by decide +kernel
theorem dX6_setRow_4 : decode cX6_setRow 4 = .ok (.bipush 40, 2) := by decide +kernel
theorem dX6_setRow_6 : decode cX6_setRow 6 = .ok (.iload_n 1, 1) := by decide +kernel
theorem dX6_setRow_7 : decode cX6_setRow 7 = .ok (.imul, 1) := by decide +kernel
theorem dX6_setRow_8 : decode cX6_setRow 8 = .ok (.iload_n 2, 1) := by decide +kernel
theorem dX6_setRow_9 : decode cX6_setRow 9 = .ok (.iadd, 1) := by decide +kernel
theorem dX6_setRow_10 : decode cX6_setRow 10 = .ok (.iload_n 3, 1) := by decide +kernel
theorem dX6_setRow_11 : decode cX6_setRow 11 = .ok (.iastore, 1) := by decide +kernel
theorem dX6_setRow_12 : decode cX6_setRow 12 = .ok (.return_, 1) := by decide +kernel
theorem dX6_row_0 : decode cX6_row 0 = .ok (.iload_n 1, 1) := by decide +kernel
theorem dX6_row_1 : decode cX6_row 1 = .ok (.invokestatic 96, 3) := by decide +kernel
theorem dX6_row_4 : decode cX6_row 4 = .ok (.ifCond .eq 9, 3) := by decide +kernel
theorem dX6_row_7 : decode cX6_row 7 = .ok (.iload_n 2, 1) := by decide +kernel
theorem dX6_row_8 : decode cX6_row 8 = .ok (.bipush 40, 2) := by decide +kernel
theorem dX6_row_10 : decode cX6_row 10 = .ok (.if_icmp .le 5, 3) := by decide +kernel
theorem dX6_row_13 : decode cX6_row 13 = .ok (.iconst (-1), 1) := by decide +kernel
theorem dX6_row_14 : decode cX6_row 14 = .ok (.ireturn, 1) := by decide +kernel
theorem dX6_row_15 : decode cX6_row 15 = .ok (.iload_n 2, 1) := by decide +kernel
theorem dX6_row_16 : decode cX6_row 16 = .ok (.ifCond .ge 9, 3) := by decide +kernel
theorem dX6_row_19 : decode cX6_row 19 = .ok (.aload_n 0, 1) := by decide +kernel
theorem dX6_row_20 : decode cX6_row 20 = .ok (.iconst 5, 1) := by decide +kernel
theorem dX6_row_21 : decode cX6_row 21 = .ok (.invokevirtual 100, 3) := by decide +kernel
theorem dX6_row_24 : decode cX6_row 24 = .ok (.ireturn, 1) := by decide +kernel
theorem dX6_row_25 : decode cX6_row 25 = .ok (.aload_n 0, 1) := by decide +kernel
theorem dX6_row_26 : decode cX6_row 26 = .ok (.getfield 13, 3) := by decide +kernel
theorem dX6_row_29 : decode cX6_row 29 = .ok (.iload_n 1, 1) := by decide +kernel
theorem dX6_row_30 : decode cX6_row 30 = .ok (.iload_n 2, 1) := by decide +kernel
theorem dX6_row_31 : decode cX6_row 31 = .ok (.iastore, 1) := by decide +kernel
theorem dX6_row_32 : decode cX6_row 32 = .ok (.iconst 0, 1) := by decide +kernel
theorem dX6_row_33 : decode cX6_row 33 = .ok (.istore_n 3, 1) := by decide +kernel
theorem dX6_row_34 : decode cX6_row 34 = .ok (.iload_n 3, 1) := by decide +kernel
theorem dX6_row_35 : decode cX6_row 35 = .ok (.bipush 40, 2) := by decide +kernel
theorem dX6_row_37 : decode cX6_row 37 = .ok (.if_icmp .ge 16, 3) := by decide +kernel
theorem dX6_row_40 : decode cX6_row 40 = .ok (.aload_n 0, 1) := by decide +kernel
theorem dX6_row_41 : decode cX6_row 41 = .ok (.iload_n 1, 1) := by decide +kernel
theorem dX6_row_42 : decode cX6_row 42 = .ok (.iload_n 3, 1) := by decide +kernel
theorem dX6_row_43 : decode cX6_row 43 = .ok (.iconst 0, 1) := by decide +kernel
theorem dX6_row_44 : decode cX6_row 44 = .ok (.invokevirtual 107, 3) := by decide +kernel
theorem dX6_row_47 : decode cX6_row 47 = .ok (.iinc 3 1, 3) := by decide +kernel
theorem dX6_row_50 : decode cX6_row 50 = .ok (.goto (-16), 3) := by decide +kernel
theorem dX6_row_53 : decode cX6_row 53 = .ok (.iload_n 2, 1) := by decide +kernel
theorem dX6_row_54 : decode cX6_row 54 = .ok (.ireturn, 1) := by decide +kernel
theorem dX6_at_0 : decode cX6_at 0 = .ok (.aload_n 0, 1) := by decide +kernel
theorem dX6_at_1 : decode cX6_at 1 = .ok (.iload_n 1, 1) := by decide +kernel
theorem dX6_at_2 : decode cX6_at 2 = .ok (.invokevirtual 111, 3) := by decide +kernel
theorem dX6_at_5 : decode cX6_at 5 = .ok (.istore_n 3, 1) := by decide +kernel
theorem dX6_at_6 : decode cX6_at 6 = .ok (.iload_n 3, 1) := by decide +kernel
theorem dX6_at_7 : decode cX6_at 7 = .ok (.ifCond .ge 5, 3) := by decide +kernel
theorem dX6_at_10 : decode cX6_at 10 = .ok (.iload_n 3, 1) := by decide +kernel
theorem dX6_at_11 : decode cX6_at 11 = .ok (.ireturn, 1) := by decide +kernel
theorem dX6_at_12 : decode cX6_at 12 = .ok (.iload_n 2, 1) := by decide +kernel
theorem dX6_at_13 : decode cX6_at 13 = .ok (.iconst 0, 1) := by decide +kernel
theorem dX6_at_14 : decode cX6_at 14 = .ok (.aload_n 0, 1) := by decide +kernel
theorem dX6_at_15 : decode cX6_at 15 = .ok (.getfield 13, 3) := by decide +kernel
theorem dX6_at_18 : decode cX6_at 18 = .ok (.iload_n 1, 1) := by decide +kernel
theorem dX6_at_19 : decode cX6_at 19 = .ok (.iaload, 1) := by decide +kernel
theorem dX6_at_20 : decode cX6_at 20 = .ok (.iconst 1, 1) := by decide +kernel
theorem dX6_at_21 : decode cX6_at 21 = .ok (.isub, 1) := by decide +kernel
theorem dX6_at_22 : decode cX6_at 22 = .ok (.invokestatic 92, 3) := by decide +kernel
theorem dX6_at_25 : decode cX6_at 25 = .ok (.ifCond .eq 17, 3) := by decide +kernel
theorem dX6_at_28 : decode cX6_at 28 = .ok (.aload_n 0, 1) := by decide +kernel
theorem dX6_at_29 : decode cX6_at 29 = .ok (.aload_n 0, 1) := by decide +kernel
theorem dX6_at_30 : decode cX6_at 30 = .ok (.iload_n 1, 1) := by decide +kernel
theorem dX6_at_31 : decode cX6_at 31 = .ok (.iload_n 2, 1) := by decide +kernel
theorem dX6_at_32 : decode cX6_at 32 = .ok (.invokevirtual 114, 3) := by decide +kernel
theorem dX6_at_35 : decode cX6_at 35 = .ok (.iconst 1, 1) := by decide +kernel
theorem dX6_at_36 : decode cX6_at 36 = .ok (.invokevirtual 118, 3) := by decide +kernel
theorem dX6_at_39 : decode cX6_at 39 = .ok (.goto 8, 3) := by decide +kernel
theorem dX6_at_42 : decode cX6_at 42 = .ok (.aload_n 0, 1) := by decide +kernel
theorem dX6_at_43 : decode cX6_at 43 = .ok (.iconst 2, 1) := by decide +kernel
theorem dX6_at_44 : decode cX6_at 44 = .ok (.invokevirtual 100, 3) := by decide +kernel
theorem dX6_at_47 : decode cX6_at 47 = .ok (.ireturn, 1) := by decide +kernel
theorem dX6_lay_0 : decode cX6_lay 0 = .ok (.aload_n 0, 1) := by decide +kernel
theorem dX6_lay_1 : decode cX6_lay 1 = .ok (.iload_n 1, 1) := by decide +kernel
theorem dX6_lay_2 : decode cX6_lay 2 = .ok (.iload_n 2, 1) := by decide +kernel
theorem dX6_lay_3 : decode cX6_lay 3 = .ok (.invokevirtual 121, 3) := by decide +kernel
theorem dX6_lay_6 : decode cX6_lay 6 = .ok (.istore 4, 2) := by decide +kernel
theorem dX6_lay_8 : decode cX6_lay 8 = .ok (.iload 4, 2) := by decide +kernel
theorem dX6_lay_10 : decode cX6_lay 10 = .ok (.ifCond .ge 6, 3) := by decide +kernel
theorem dX6_lay_13 : decode cX6_lay 13 = .ok (.iload 4, 2) := by decide +kernel
theorem dX6_lay_15 : decode cX6_lay 15 = .ok (.ireturn, 1) := by decide +kernel
theorem dX6_lay_16 : decode cX6_lay 16 = .ok (.aload_n 0, 1) := by decide +kernel
theorem dX6_lay_17 : decode cX6_lay 17 = .ok (.iload_n 1, 1) := by decide +kernel
theorem dX6_lay_18 : decode cX6_lay 18 = .ok (.iload_n 2, 1) := by decide +kernel
theorem dX6_lay_19 : decode cX6_lay 19 = .ok (.iload_n 3, 1) := by decide +kernel
theorem dX6_lay_20 : decode cX6_lay 20 = .ok (.invokevirtual 107, 3) := by decide +kernel
theorem dX6_lay_23 : decode cX6_lay 23 = .ok (.iconst 1, 1) := by decide +kernel
theorem dX6_lay_24 : decode cX6_lay 24 = .ok (.ireturn, 1) := by decide +kernel
theorem dX6_tear_0 : decode cX6_tear 0 = .ok (.aload_n 0, 1) := by decide +kernel
theorem dX6_tear_1 : decode cX6_tear 1 = .ok (.iload_n 1, 1) := by decide +kernel
theorem dX6_tear_2 : decode cX6_tear 2 = .ok (.invokevirtual 111, 3) := by decide +kernel
theorem dX6_tear_5 : decode cX6_tear 5 = .ok (.istore_n 2, 1) := by decide +kernel
theorem dX6_tear_6 : decode cX6_tear 6 = .ok (.iload_n 2, 1) := by decide +kernel
theorem dX6_tear_7 : decode cX6_tear 7 = .ok (.ifCond .ge 5, 3) := by decide +kernel
theorem dX6_tear_10 : decode cX6_tear 10 = .ok (.iload_n 2, 1) := by decide +kernel
theorem dX6_tear_11 : decode cX6_tear 11 = .ok (.ireturn, 1) := by decide +kernel
theorem dX6_tear_12 : decode cX6_tear 12 = .ok (.aload_n 0, 1) := by decide +kernel
theorem dX6_tear_13 : decode cX6_tear 13 = .ok (.getfield 13, 3) := by decide +kernel
theorem dX6_tear_16 : decode cX6_tear 16 = .ok (.iload_n 1, 1) := by decide +kernel
theorem dX6_tear_17 : decode cX6_tear 17 = .ok (.bipush (-9), 2) := by decide +kernel
theorem dX6_tear_19 : decode cX6_tear 19 = .ok (.iastore, 1) := by decide +kernel
theorem dX6_tear_20 : decode cX6_tear 20 = .ok (.iconst 1, 1) := by decide +kernel
theorem dX6_tear_21 : decode cX6_tear 21 = .ok (.ireturn, 1) := by decide +kernel
theorem dX6_copy_0 : decode cX6_copy 0 = .ok (.iload_n 1, 1) := by decide +kernel
theorem dX6_copy_1 : decode cX6_copy 1 = .ok (.invokestatic 96, 3) := by decide +kernel
theorem dX6_copy_4 : decode cX6_copy 4 = .ok (.ifCond .eq 10, 3) := by decide +kernel
theorem dX6_copy_7 : decode cX6_copy 7 = .ok (.iload_n 3, 1) := by decide +kernel
theorem dX6_copy_8 : decode cX6_copy 8 = .ok (.invokestatic 96, 3) := by decide +kernel
theorem dX6_copy_11 : decode cX6_copy 11 = .ok (.ifCond .ne 5, 3) := by decide +kernel
theorem dX6_copy_14 : decode cX6_copy 14 = .ok (.iconst (-1), 1) := by decide +kernel
theorem dX6_copy_15 : decode cX6_copy 15 = .ok (.ireturn, 1) := by decide +kernel
theorem dX6_copy_16 : decode cX6_copy 16 = .ok (.iload 5, 2) := by decide +kernel
theorem dX6_copy_18 : decode cX6_copy 18 = .ok (.ifCond .ge 9, 3) := by decide +kernel
theorem dX6_copy_21 : decode cX6_copy 21 = .ok (.aload_n 0, 1) := by decide +kernel
theorem dX6_copy_22 : decode cX6_copy 22 = .ok (.iconst 5, 1) := by decide +kernel
theorem dX6_copy_23 : decode cX6_copy 23 = .ok (.invokevirtual 100, 3) := by decide +kernel
theorem dX6_copy_26 : decode cX6_copy 26 = .ok (.ireturn, 1) := by decide +kernel
theorem dX6_copy_27 : decode cX6_copy 27 = .ok (.aload_n 0, 1) := by decide +kernel
theorem dX6_copy_28 : decode cX6_copy 28 = .ok (.getfield 13, 3) := by decide +kernel
theorem dX6_copy_31 : decode cX6_copy 31 = .ok (.iload_n 1, 1) := by decide +kernel
theorem dX6_copy_32 : decode cX6_copy 32 = .ok (.iaload, 1) := by decide +kernel
theorem dX6_copy_33 : decode cX6_copy 33 = .ok (.ifCond .lt 12, 3) := by decide +kernel
theorem dX6_copy_36 : decode cX6_copy 36 = .ok (.aload_n 0, 1) := by decide +kernel
theorem dX6_copy_37 : decode cX6_copy 37 = .ok (.getfield 13, 3) := by decide +kernel
theorem dX6_copy_40 : decode cX6_copy 40 = .ok (.iload_n 3, 1) := by decide +kernel
theorem dX6_copy_41 : decode cX6_copy 41 = .ok (.iaload, 1) := by decide +kernel
theorem dX6_copy_42 : decode cX6_copy 42 = .ok (.ifCond .ge 9, 3) := by decide +kernel
theorem dX6_copy_45 : decode cX6_copy 45 = .ok (.aload_n 0, 1) := by decide +kernel
theorem dX6_copy_46 : decode cX6_copy 46 = .ok (.iconst 1, 1) := by decide +kernel
theorem dX6_copy_47 : decode cX6_copy 47 = .ok (.invokevirtual 100, 3) := by decide +kernel
theorem dX6_copy_50 : decode cX6_copy 50 = .ok (.ireturn, 1) := by decide +kernel
theorem dX6_copy_51 : decode cX6_copy 51 = .ok (.iload_n 2, 1) := by decide +kernel
theorem dX6_copy_52 : decode cX6_copy 52 = .ok (.ifCond .lt 43, 3) := by decide +kernel
theorem dX6_copy_55 : decode cX6_copy 55 = .ok (.iload 4, 2) := by decide +kernel
theorem dX6_copy_57 : decode cX6_copy 57 = .ok (.ifCond .lt 38, 3) := by decide +kernel
theorem dX6_copy_60 : decode cX6_copy 60 = .ok (.iload_n 2, 1) := by decide +kernel
theorem dX6_copy_61 : decode cX6_copy 61 = .ok (.i2l, 1) := by decide +kernel
theorem dX6_copy_62 : decode cX6_copy 62 = .ok (.iload 5, 2) := by decide +kernel
theorem dX6_copy_64 : decode cX6_copy 64 = .ok (.i2l, 1) := by decide +kernel
theorem dX6_copy_65 : decode cX6_copy 65 = .ok (.ladd, 1) := by decide +kernel
theorem dX6_copy_66 : decode cX6_copy 66 = .ok (.aload_n 0, 1) := by decide +kernel
theorem dX6_copy_67 : decode cX6_copy 67 = .ok (.getfield 13, 3) := by decide +kernel
theorem dX6_copy_70 : decode cX6_copy 70 = .ok (.iload_n 1, 1) := by decide +kernel
theorem dX6_copy_71 : decode cX6_copy 71 = .ok (.iaload, 1) := by decide +kernel
theorem dX6_copy_72 : decode cX6_copy 72 = .ok (.i2l, 1) := by decide +kernel
theorem dX6_copy_73 : decode cX6_copy 73 = .ok (.lcmp, 1) := by decide +kernel
theorem dX6_copy_74 : decode cX6_copy 74 = .ok (.ifCond .gt 21, 3) := by decide +kernel
theorem dX6_copy_77 : decode cX6_copy 77 = .ok (.iload 4, 2) := by decide +kernel
theorem dX6_copy_79 : decode cX6_copy 79 = .ok (.i2l, 1) := by decide +kernel
theorem dX6_copy_80 : decode cX6_copy 80 = .ok (.iload 5, 2) := by decide +kernel
theorem dX6_copy_82 : decode cX6_copy 82 = .ok (.i2l, 1) := by decide +kernel
theorem dX6_copy_83 : decode cX6_copy 83 = .ok (.ladd, 1) := by decide +kernel
theorem dX6_copy_84 : decode cX6_copy 84 = .ok (.aload_n 0, 1) := by decide +kernel
theorem dX6_copy_85 : decode cX6_copy 85 = .ok (.getfield 13, 3) := by decide +kernel
theorem dX6_copy_88 : decode cX6_copy 88 = .ok (.iload_n 3, 1) := by decide +kernel
theorem dX6_copy_89 : decode cX6_copy 89 = .ok (.iaload, 1) := by decide +kernel
theorem dX6_copy_90 : decode cX6_copy 90 = .ok (.i2l, 1) := by decide +kernel
theorem dX6_copy_91 : decode cX6_copy 91 = .ok (.lcmp, 1) := by decide +kernel
theorem dX6_copy_92 : decode cX6_copy 92 = .ok (.ifCond .le 9, 3) := by decide +kernel
theorem dX6_copy_95 : decode cX6_copy 95 = .ok (.aload_n 0, 1) := by decide +kernel
theorem dX6_copy_96 : decode cX6_copy 96 = .ok (.iconst 2, 1) := by decide +kernel
theorem dX6_copy_97 : decode cX6_copy 97 = .ok (.invokevirtual 100, 3) := by decide +kernel
theorem dX6_copy_100 : decode cX6_copy 100 = .ok (.ireturn, 1) := by decide +kernel
theorem dX6_copy_101 : decode cX6_copy 101 = .ok (.iconst 0, 1) := by decide +kernel
theorem dX6_copy_102 : decode cX6_copy 102 = .ok (.istore 6, 2) := by decide +kernel
theorem dX6_copy_104 : decode cX6_copy 104 = .ok (.iload 6, 2) := by decide +kernel
theorem dX6_copy_106 : decode cX6_copy 106 = .ok (.iload 5, 2) := by decide +kernel
theorem dX6_copy_108 : decode cX6_copy 108 = .ok (.if_icmp .ge 25, 3) := by decide +kernel
theorem dX6_copy_111 : decode cX6_copy 111 = .ok (.aload_n 0, 1) := by decide +kernel
theorem dX6_copy_112 : decode cX6_copy 112 = .ok (.getfield 19, 3) := by decide +kernel
theorem dX6_copy_115 : decode cX6_copy 115 = .ok (.iload 6, 2) := by decide +kernel
theorem dX6_copy_117 : decode cX6_copy 117 = .ok (.aload_n 0, 1) := by decide +kernel
theorem dX6_copy_118 : decode cX6_copy 118 = .ok (.iload_n 1, 1) := by decide +kernel
theorem dX6_copy_119 : decode cX6_copy 119 = .ok (.iload_n 2, 1) := by decide +kernel
theorem dX6_copy_120 : decode cX6_copy 120 = .ok (.iload 6, 2) := by decide +kernel
theorem dX6_copy_122 : decode cX6_copy 122 = .ok (.iadd, 1) := by decide +kernel
theorem dX6_copy_123 : decode cX6_copy 123 = .ok (.invokevirtual 114, 3) := by decide +kernel
theorem dX6_copy_126 : decode cX6_copy 126 = .ok (.iastore, 1) := by decide +kernel
theorem dX6_copy_127 : decode cX6_copy 127 = .ok (.iinc 6 1, 3) := by decide +kernel
theorem dX6_copy_130 : decode cX6_copy 130 = .ok (.goto (-26), 3) := by decide +kernel
theorem dX6_copy_133 : decode cX6_copy 133 = .ok (.iconst 0, 1) := by decide +kernel
theorem dX6_copy_134 : decode cX6_copy 134 = .ok (.istore 6, 2) := by decide +kernel
theorem dX6_copy_136 : decode cX6_copy 136 = .ok (.iload 6, 2) := by decide +kernel
theorem dX6_copy_138 : decode cX6_copy 138 = .ok (.iload 5, 2) := by decide +kernel
theorem dX6_copy_140 : decode cX6_copy 140 = .ok (.if_icmp .ge 26, 3) := by decide +kernel
theorem dX6_copy_143 : decode cX6_copy 143 = .ok (.aload_n 0, 1) := by decide +kernel
theorem dX6_copy_144 : decode cX6_copy 144 = .ok (.iload_n 3, 1) := by decide +kernel
theorem dX6_copy_145 : decode cX6_copy 145 = .ok (.iload 4, 2) := by decide +kernel
theorem dX6_copy_147 : decode cX6_copy 147 = .ok (.iload 6, 2) := by decide +kernel
theorem dX6_copy_149 : decode cX6_copy 149 = .ok (.iadd, 1) := by decide +kernel
theorem dX6_copy_150 : decode cX6_copy 150 = .ok (.aload_n 0, 1) := by decide +kernel
theorem dX6_copy_151 : decode cX6_copy 151 = .ok (.getfield 19, 3) := by decide +kernel
theorem dX6_copy_154 : decode cX6_copy 154 = .ok (.iload 6, 2) := by decide +kernel
theorem dX6_copy_156 : decode cX6_copy 156 = .ok (.iaload, 1) := by decide +kernel
theorem dX6_copy_157 : decode cX6_copy 157 = .ok (.invokevirtual 107, 3) := by decide +kernel
theorem dX6_copy_160 : decode cX6_copy 160 = .ok (.iinc 6 1, 3) := by decide +kernel
theorem dX6_copy_163 : decode cX6_copy 163 = .ok (.goto (-27), 3) := by decide +kernel
theorem dX6_copy_166 : decode cX6_copy 166 = .ok (.iconst 1, 1) := by decide +kernel
theorem dX6_copy_167 : decode cX6_copy 167 = .ok (.ireturn, 1) := by decide +kernel
theorem dX6_mean_0 : decode cX6_mean 0 = .ok (.aload_n 0, 1) := by decide +kernel
theorem dX6_mean_1 : decode cX6_mean 1 = .ok (.iload_n 1, 1) := by decide +kernel
theorem dX6_mean_2 : decode cX6_mean 2 = .ok (.invokevirtual 111, 3) := by decide +kernel
theorem dX6_mean_5 : decode cX6_mean 5 = .ok (.istore_n 2, 1) := by decide +kernel
theorem dX6_mean_6 : decode cX6_mean 6 = .ok (.iload_n 2, 1) := by decide +kernel
theorem dX6_mean_7 : decode cX6_mean 7 = .ok (.ifCond .ge 5, 3) := by decide +kernel
theorem dX6_mean_10 : decode cX6_mean 10 = .ok (.iload_n 2, 1) := by decide +kernel
theorem dX6_mean_11 : decode cX6_mean 11 = .ok (.ireturn, 1) := by decide +kernel
theorem dX6_mean_12 : decode cX6_mean 12 = .ok (.lconst 0, 1) := by decide +kernel
theorem dX6_mean_13 : decode cX6_mean 13 = .ok (.lstore_n 3, 1) := by decide +kernel
theorem dX6_mean_14 : decode cX6_mean 14 = .ok (.iconst 0, 1) := by decide +kernel
theorem dX6_mean_15 : decode cX6_mean 15 = .ok (.istore 5, 2) := by decide +kernel
theorem dX6_mean_17 : decode cX6_mean 17 = .ok (.iload 5, 2) := by decide +kernel
theorem dX6_mean_19 : decode cX6_mean 19 = .ok (.aload_n 0, 1) := by decide +kernel
theorem dX6_mean_20 : decode cX6_mean 20 = .ok (.getfield 13, 3) := by decide +kernel
theorem dX6_mean_23 : decode cX6_mean 23 = .ok (.iload_n 1, 1) := by decide +kernel
theorem dX6_mean_24 : decode cX6_mean 24 = .ok (.iaload, 1) := by decide +kernel
theorem dX6_mean_25 : decode cX6_mean 25 = .ok (.if_icmp .ge 20, 3) := by decide +kernel
theorem dX6_mean_28 : decode cX6_mean 28 = .ok (.lload_n 3, 1) := by decide +kernel
theorem dX6_mean_29 : decode cX6_mean 29 = .ok (.aload_n 0, 1) := by decide +kernel
theorem dX6_mean_30 : decode cX6_mean 30 = .ok (.iload_n 1, 1) := by decide +kernel
theorem dX6_mean_31 : decode cX6_mean 31 = .ok (.iload 5, 2) := by decide +kernel
theorem dX6_mean_33 : decode cX6_mean 33 = .ok (.invokevirtual 114, 3) := by decide +kernel
theorem dX6_mean_36 : decode cX6_mean 36 = .ok (.i2l, 1) := by decide +kernel
theorem dX6_mean_37 : decode cX6_mean 37 = .ok (.ladd, 1) := by decide +kernel
theorem dX6_mean_38 : decode cX6_mean 38 = .ok (.lstore_n 3, 1) := by decide +kernel
theorem dX6_mean_39 : decode cX6_mean 39 = .ok (.iinc 5 1, 3) := by decide +kernel
theorem dX6_mean_42 : decode cX6_mean 42 = .ok (.goto (-25), 3) := by decide +kernel
theorem dX6_mean_45 : decode cX6_mean 45 = .ok (.aload_n 0, 1) := by decide +kernel
theorem dX6_mean_46 : decode cX6_mean 46 = .ok (.getfield 13, 3) := by decide +kernel
theorem dX6_mean_49 : decode cX6_mean 49 = .ok (.iload_n 1, 1) := by decide +kernel
theorem dX6_mean_50 : decode cX6_mean 50 = .ok (.iaload, 1) := by decide +kernel
theorem dX6_mean_51 : decode cX6_mean 51 = .ok (.ifCond .ne 11, 3) := by decide +kernel
theorem dX6_mean_54 : decode cX6_mean 54 = .ok (.aload_n 0, 1) := by decide +kernel
theorem dX6_mean_55 : decode cX6_mean 55 = .ok (.iconst 4, 1) := by decide +kernel
theorem dX6_mean_56 : decode cX6_mean 56 = .ok (.invokevirtual 100, 3) := by decide +kernel
theorem dX6_mean_59 : decode cX6_mean 59 = .ok (.goto 18, 3) := by decide +kernel
theorem dX6_mean_62 : decode cX6_mean 62 = .ok (.aload_n 0, 1) := by decide +kernel
theorem dX6_mean_63 : decode cX6_mean 63 = .ok (.lload_n 3, 1) := by decide +kernel
theorem dX6_mean_64 : decode cX6_mean 64 = .ok (.aload_n 0, 1) := by decide +kernel
theorem dX6_mean_65 : decode cX6_mean 65 = .ok (.getfield 13, 3) := by decide +kernel
theorem dX6_mean_68 : decode cX6_mean 68 = .ok (.iload_n 1, 1) := by decide +kernel
theorem dX6_mean_69 : decode cX6_mean 69 = .ok (.iaload, 1) := by decide +kernel
theorem dX6_mean_70 : decode cX6_mean 70 = .ok (.i2l, 1) := by decide +kernel
theorem dX6_mean_71 : decode cX6_mean 71 = .ok (.ldiv, 1) := by decide +kernel
theorem dX6_mean_72 : decode cX6_mean 72 = .ok (.l2i, 1) := by decide +kernel
theorem dX6_mean_73 : decode cX6_mean 73 = .ok (.iconst 1, 1) := by decide +kernel
theorem dX6_mean_74 : decode cX6_mean 74 = .ok (.invokevirtual 118, 3) := by decide +kernel
theorem dX6_mean_77 : decode cX6_mean 77 = .ok (.ireturn, 1) := by decide +kernel
theorem dX6_text_0 : decode cX6_text 0 = .ok (.iload_n 1, 1) := by decide +kernel
theorem dX6_text_1 : decode cX6_text 1 = .ok (.invokestatic 104, 3) := by decide +kernel
theorem dX6_text_4 : decode cX6_text 4 = .ok (.ifCond .eq 9, 3) := by decide +kernel
theorem dX6_text_7 : decode cX6_text 7 = .ok (.iload_n 2, 1) := by decide +kernel
theorem dX6_text_8 : decode cX6_text 8 = .ok (.bipush 80, 2) := by decide +kernel
theorem dX6_text_10 : decode cX6_text 10 = .ok (.if_icmp .le 5, 3) := by decide +kernel
theorem dX6_text_13 : decode cX6_text 13 = .ok (.iconst (-1), 1) := by decide +kernel
theorem dX6_text_14 : decode cX6_text 14 = .ok (.ireturn, 1) := by decide +kernel
theorem dX6_text_15 : decode cX6_text 15 = .ok (.iload_n 2, 1) := by decide +kernel
theorem dX6_text_16 : decode cX6_text 16 = .ok (.ifCond .ge 9, 3) := by decide +kernel
theorem dX6_text_19 : decode cX6_text 19 = .ok (.aload_n 0, 1) := by decide +kernel
theorem dX6_text_20 : decode cX6_text 20 = .ok (.iconst 5, 1) := by decide +kernel
theorem dX6_text_21 : decode cX6_text 21 = .ok (.invokevirtual 100, 3) := by decide +kernel
theorem dX6_text_24 : decode cX6_text 24 = .ok (.ireturn, 1) := by decide +kernel
theorem dX6_text_25 : decode cX6_text 25 = .ok (.aload_n 0, 1) := by decide +kernel
theorem dX6_text_26 : decode cX6_text 26 = .ok (.getfield 22, 3) := by decide +kernel
theorem dX6_text_29 : decode cX6_text 29 = .ok (.iload_n 1, 1) := by decide +kernel
theorem dX6_text_30 : decode cX6_text 30 = .ok (.iload_n 2, 1) := by decide +kernel
theorem dX6_text_31 : decode cX6_text 31 = .ok (.iastore, 1) := by decide +kernel
theorem dX6_text_32 : decode cX6_text 32 = .ok (.iconst 0, 1) := by decide +kernel
theorem dX6_text_33 : decode cX6_text 33 = .ok (.istore_n 3, 1) := by decide +kernel
theorem dX6_text_34 : decode cX6_text 34 = .ok (.iload_n 3, 1) := by decide +kernel
theorem dX6_text_35 : decode cX6_text 35 = .ok (.bipush 80, 2) := by decide +kernel
theorem dX6_text_37 : decode cX6_text 37 = .ok (.if_icmp .ge 22, 3) := by decide +kernel
theorem dX6_text_40 : decode cX6_text 40 = .ok (.aload_n 0, 1) := by decide +kernel
theorem dX6_text_41 : decode cX6_text 41 = .ok (.getfield 25, 3) := by decide +kernel
theorem dX6_text_44 : decode cX6_text 44 = .ok (.bipush 80, 2) := by decide +kernel
theorem dX6_text_46 : decode cX6_text 46 = .ok (.iload_n 1, 1) := by decide +kernel
theorem dX6_text_47 : decode cX6_text 47 = .ok (.imul, 1) := by decide +kernel
theorem dX6_text_48 : decode cX6_text 48 = .ok (.iload_n 3, 1) := by decide +kernel
theorem dX6_text_49 : decode cX6_text 49 = .ok (.iadd, 1) := by decide +kernel
theorem dX6_text_50 : decode cX6_text 50 = .ok (.bipush 32, 2) := by decide +kernel
theorem dX6_text_52 : decode cX6_text 52 = .ok (.iastore, 1) := by decide +kernel
theorem dX6_text_53 : decode cX6_text 53 = .ok (.iinc 3 1, 3) := by decide +kernel
theorem dX6_text_56 : decode cX6_text 56 = .ok (.goto (-22), 3) := by decide +kernel
theorem dX6_text_59 : decode cX6_text 59 = .ok (.iload_n 2, 1) := by decide +kernel
theorem dX6_text_60 : decode cX6_text 60 = .ok (.ireturn, 1) := by decide +kernel
theorem dX6_put_0 : decode cX6_put 0 = .ok (.aload_n 0, 1) := by decide +kernel
theorem dX6_put_1 : decode cX6_put 1 = .ok (.iload_n 1, 1) := by decide +kernel
theorem dX6_put_2 : decode cX6_put 2 = .ok (.invokevirtual 124, 3) := by decide +kernel
theorem dX6_put_5 : decode cX6_put 5 = .ok (.istore 4, 2) := by decide +kernel
theorem dX6_put_7 : decode cX6_put 7 = .ok (.iload 4, 2) := by decide +kernel
theorem dX6_put_9 : decode cX6_put 9 = .ok (.ifCond .ge 6, 3) := by decide +kernel
theorem dX6_put_12 : decode cX6_put 12 = .ok (.iload 4, 2) := by decide +kernel
theorem dX6_put_14 : decode cX6_put 14 = .ok (.ireturn, 1) := by decide +kernel
theorem dX6_put_15 : decode cX6_put 15 = .ok (.iload_n 2, 1) := by decide +kernel
theorem dX6_put_16 : decode cX6_put 16 = .ok (.iconst 0, 1) := by decide +kernel
theorem dX6_put_17 : decode cX6_put 17 = .ok (.aload_n 0, 1) := by decide +kernel
theorem dX6_put_18 : decode cX6_put 18 = .ok (.getfield 22, 3) := by decide +kernel
theorem dX6_put_21 : decode cX6_put 21 = .ok (.iload_n 1, 1) := by decide +kernel
theorem dX6_put_22 : decode cX6_put 22 = .ok (.iaload, 1) := by decide +kernel
theorem dX6_put_23 : decode cX6_put 23 = .ok (.iconst 1, 1) := by decide +kernel
theorem dX6_put_24 : decode cX6_put 24 = .ok (.isub, 1) := by decide +kernel
theorem dX6_put_25 : decode cX6_put 25 = .ok (.invokestatic 92, 3) := by decide +kernel
theorem dX6_put_28 : decode cX6_put 28 = .ok (.ifCond .ne 9, 3) := by decide +kernel
theorem dX6_put_31 : decode cX6_put 31 = .ok (.aload_n 0, 1) := by decide +kernel
theorem dX6_put_32 : decode cX6_put 32 = .ok (.iconst 2, 1) := by decide +kernel
theorem dX6_put_33 : decode cX6_put 33 = .ok (.invokevirtual 100, 3) := by decide +kernel
theorem dX6_put_36 : decode cX6_put 36 = .ok (.ireturn, 1) := by decide +kernel
theorem dX6_put_37 : decode cX6_put 37 = .ok (.aload_n 0, 1) := by decide +kernel
theorem dX6_put_38 : decode cX6_put 38 = .ok (.getfield 25, 3) := by decide +kernel
theorem dX6_put_41 : decode cX6_put 41 = .ok (.bipush 80, 2) := by decide +kernel
theorem dX6_put_43 : decode cX6_put 43 = .ok (.iload_n 1, 1) := by decide +kernel
theorem dX6_put_44 : decode cX6_put 44 = .ok (.imul, 1) := by decide +kernel
theorem dX6_put_45 : decode cX6_put 45 = .ok (.iload_n 2, 1) := by decide +kernel
theorem dX6_put_46 : decode cX6_put 46 = .ok (.iadd, 1) := by decide +kernel
theorem dX6_put_47 : decode cX6_put 47 = .ok (.iaload, 1) := by decide +kernel
theorem dX6_put_48 : decode cX6_put 48 = .ok (.istore 5, 2) := by decide +kernel
theorem dX6_put_50 : decode cX6_put 50 = .ok (.aload_n 0, 1) := by decide +kernel
theorem dX6_put_51 : decode cX6_put 51 = .ok (.getfield 25, 3) := by decide +kernel
theorem dX6_put_54 : decode cX6_put 54 = .ok (.bipush 80, 2) := by decide +kernel
theorem dX6_put_56 : decode cX6_put 56 = .ok (.iload_n 1, 1) := by decide +kernel
theorem dX6_put_57 : decode cX6_put 57 = .ok (.imul, 1) := by decide +kernel
theorem dX6_put_58 : decode cX6_put 58 = .ok (.iload_n 2, 1) := by decide +kernel
theorem dX6_put_59 : decode cX6_put 59 = .ok (.iadd, 1) := by decide +kernel
theorem dX6_put_60 : decode cX6_put 60 = .ok (.iload_n 3, 1) := by decide +kernel
theorem dX6_put_61 : decode cX6_put 61 = .ok (.i2b, 1) := by decide +kernel
theorem dX6_put_62 : decode cX6_put 62 = .ok (.iastore, 1) := by decide +kernel
theorem dX6_put_63 : decode cX6_put 63 = .ok (.iload 5, 2) := by decide +kernel
theorem dX6_put_65 : decode cX6_put 65 = .ok (.sipush 1000, 3) := by decide +kernel
theorem dX6_put_68 : decode cX6_put 68 = .ok (.iadd, 1) := by decide +kernel
theorem dX6_put_69 : decode cX6_put 69 = .ok (.ireturn, 1) := by decide +kernel
theorem dX6_here_0 : decode cX6_here 0 = .ok (.aload_n 0, 1) := by decide +kernel
theorem dX6_here_1 : decode cX6_here 1 = .ok (.getfield 127, 3) := by decide +kernel
theorem dX6_here_4 : decode cX6_here 4 = .ok (.aload_n 0, 1) := by decide +kernel
theorem dX6_here_5 : decode cX6_here 5 = .ok (.getfield 22, 3) := by decide +kernel
theorem dX6_here_8 : decode cX6_here 8 = .ok (.iload_n 1, 1) := by decide +kernel
theorem dX6_here_9 : decode cX6_here 9 = .ok (.iaload, 1) := by decide +kernel
theorem dX6_here_10 : decode cX6_here 10 = .ok (.if_icmp .ge 20, 3) := by decide +kernel
theorem dX6_here_13 : decode cX6_here 13 = .ok (.aload_n 0, 1) := by decide +kernel
theorem dX6_here_14 : decode cX6_here 14 = .ok (.getfield 25, 3) := by decide +kernel
theorem dX6_here_17 : decode cX6_here 17 = .ok (.bipush 80, 2) := by decide +kernel
theorem dX6_here_19 : decode cX6_here 19 = .ok (.iload_n 1, 1) := by decide +kernel
theorem dX6_here_20 : decode cX6_here 20 = .ok (.imul, 1) := by decide +kernel
theorem dX6_here_21 : decode cX6_here 21 = .ok (.aload_n 0, 1) := by decide +kernel
theorem dX6_here_22 : decode cX6_here 22 = .ok (.getfield 127, 3) := by decide +kernel
theorem dX6_here_25 : decode cX6_here 25 = .ok (.iadd, 1) := by decide +kernel
theorem dX6_here_26 : decode cX6_here 26 = .ok (.iaload, 1) := by decide +kernel
theorem dX6_here_27 : decode cX6_here 27 = .ok (.goto 5, 3) := by decide +kernel
theorem dX6_here_30 : decode cX6_here 30 = .ok (.bipush (-9), 2) := by decide +kernel
theorem dX6_here_32 : decode cX6_here 32 = .ok (.ireturn, 1) := by decide +kernel
theorem dX6_kindOf_0 : decode cX6_kindOf 0 = .ok (.iload_n 0, 1) := by decide +kernel
theorem dX6_kindOf_1 : decode cX6_kindOf 1 = .ok (.bipush 98, 2) := by decide +kernel
theorem dX6_kindOf_3 : decode cX6_kindOf 3 = .ok (.if_icmp .ne 7, 3) := by decide +kernel
theorem dX6_kindOf_6 : decode cX6_kindOf 6 = .ok (.iconst 0, 1) := by decide +kernel
theorem dX6_kindOf_7 : decode cX6_kindOf 7 = .ok (.goto 55, 3) := by decide +kernel
theorem dX6_kindOf_10 : decode cX6_kindOf 10 = .ok (.iload_n 0, 1) := by decide +kernel
theorem dX6_kindOf_11 : decode cX6_kindOf 11 = .ok (.bipush 100, 2) := by decide +kernel
theorem dX6_kindOf_13 : decode cX6_kindOf 13 = .ok (.if_icmp .ne 7, 3) := by decide +kernel
theorem dX6_kindOf_16 : decode cX6_kindOf 16 = .ok (.iconst 1, 1) := by decide +kernel
theorem dX6_kindOf_17 : decode cX6_kindOf 17 = .ok (.goto 45, 3) := by decide +kernel
theorem dX6_kindOf_20 : decode cX6_kindOf 20 = .ok (.iload_n 0, 1) := by decide +kernel
theorem dX6_kindOf_21 : decode cX6_kindOf 21 = .ok (.bipush 112, 2) := by decide +kernel
theorem dX6_kindOf_23 : decode cX6_kindOf 23 = .ok (.if_icmp .ne 7, 3) := by decide +kernel
theorem dX6_kindOf_26 : decode cX6_kindOf 26 = .ok (.iconst 2, 1) := by decide +kernel
theorem dX6_kindOf_27 : decode cX6_kindOf 27 = .ok (.goto 35, 3) := by decide +kernel
theorem dX6_kindOf_30 : decode cX6_kindOf 30 = .ok (.iload_n 0, 1) := by decide +kernel
theorem dX6_kindOf_31 : decode cX6_kindOf 31 = .ok (.bipush 99, 2) := by decide +kernel
theorem dX6_kindOf_33 : decode cX6_kindOf 33 = .ok (.if_icmp .ne 7, 3) := by decide +kernel
theorem dX6_kindOf_36 : decode cX6_kindOf 36 = .ok (.iconst 3, 1) := by decide +kernel
theorem dX6_kindOf_37 : decode cX6_kindOf 37 = .ok (.goto 25, 3) := by decide +kernel
theorem dX6_kindOf_40 : decode cX6_kindOf 40 = .ok (.iload_n 0, 1) := by decide +kernel
theorem dX6_kindOf_41 : decode cX6_kindOf 41 = .ok (.bipush 116, 2) := by decide +kernel
theorem dX6_kindOf_43 : decode cX6_kindOf 43 = .ok (.if_icmp .ne 7, 3) := by decide +kernel
theorem dX6_kindOf_46 : decode cX6_kindOf 46 = .ok (.iconst 4, 1) := by decide +kernel
theorem dX6_kindOf_47 : decode cX6_kindOf 47 = .ok (.goto 15, 3) := by decide +kernel
theorem dX6_kindOf_50 : decode cX6_kindOf 50 = .ok (.iload_n 0, 1) := by decide +kernel
theorem dX6_kindOf_51 : decode cX6_kindOf 51 = .ok (.bipush 101, 2) := by decide +kernel
theorem dX6_kindOf_53 : decode cX6_kindOf 53 = .ok (.if_icmp .ne 7, 3) := by decide +kernel
theorem dX6_kindOf_56 : decode cX6_kindOf 56 = .ok (.iconst 5, 1) := by decide +kernel
theorem dX6_kindOf_57 : decode cX6_kindOf 57 = .ok (.goto 5, 3) := by decide +kernel
theorem dX6_kindOf_60 : decode cX6_kindOf 60 = .ok (.bipush (-9), 2) := by decide +kernel
theorem dX6_kindOf_62 : decode cX6_kindOf 62 = .ok (.ireturn, 1) := by decide +kernel
theorem dX6_readsGround_0 : decode cX6_readsGround 0 = .ok (.aload_n 0, 1) := by decide +kernel
theorem dX6_readsGround_1 : decode cX6_readsGround 1 = .ok (.iload_n 1, 1) := by decide +kernel
theorem dX6_readsGround_2 : decode cX6_readsGround 2 = .ok (.invokevirtual 130, 3) := by decide +kernel
theorem dX6_readsGround_5 : decode cX6_readsGround 5 = .ok (.bipush 103, 2) := by decide +kernel
theorem dX6_readsGround_7 : decode cX6_readsGround 7 = .ok (.if_icmp .eq 5, 3) := by decide +kernel
theorem dX6_readsGround_10 : decode cX6_readsGround 10 = .ok (.iconst 0, 1) := by decide +kernel
theorem dX6_readsGround_11 : decode cX6_readsGround 11 = .ok (.ireturn, 1) := by decide +kernel
theorem dX6_readsGround_12 : decode cX6_readsGround 12 = .ok (.aload_n 0, 1) := by decide +kernel
theorem dX6_readsGround_13 : decode cX6_readsGround 13 = .ok (.dup, 1) := by decide +kernel
theorem dX6_readsGround_14 : decode cX6_readsGround 14 = .ok (.getfield 127, 3) := by decide +kernel
theorem dX6_readsGround_17 : decode cX6_readsGround 17 = .ok (.iconst 1, 1) := by decide +kernel
theorem dX6_readsGround_18 : decode cX6_readsGround 18 = .ok (.iadd, 1) := by decide +kernel
theorem dX6_readsGround_19 : decode cX6_readsGround 19 = .ok (.putfield 127, 3) := by decide +kernel
theorem dX6_readsGround_22 : decode cX6_readsGround 22 = .ok (.iconst 0, 1) := by decide +kernel
theorem dX6_readsGround_23 : decode cX6_readsGround 23 = .ok (.istore_n 2, 1) := by decide +kernel
theorem dX6_readsGround_24 : decode cX6_readsGround 24 = .ok (.iload_n 2, 1) := by decide +kernel
theorem dX6_readsGround_25 : decode cX6_readsGround 25 = .ok (.bipush 10, 2) := by decide +kernel
theorem dX6_readsGround_27 : decode cX6_readsGround 27 = .ok (.if_icmp .ge 48, 3) := by decide +kernel
theorem dX6_readsGround_30 : decode cX6_readsGround 30 = .ok (.aload_n 0, 1) := by decide +kernel
theorem dX6_readsGround_31 : decode cX6_readsGround 31 = .ok (.iload_n 1, 1) := by decide +kernel
theorem dX6_readsGround_32 : decode cX6_readsGround 32 = .ok (.invokevirtual 130, 3) := by decide +kernel
theorem dX6_readsGround_35 : decode cX6_readsGround 35 = .ok (.bipush 48, 2) := by decide +kernel
theorem dX6_readsGround_37 : decode cX6_readsGround 37 = .ok (.bipush 57, 2) := by decide +kernel
theorem dX6_readsGround_39 : decode cX6_readsGround 39 = .ok (.invokestatic 92, 3) := by decide +kernel
theorem dX6_readsGround_42 : decode cX6_readsGround 42 = .ok (.ifCond .eq 33, 3) := by decide +kernel
theorem dX6_readsGround_45 : decode cX6_readsGround 45 = .ok (.aload_n 0, 1) := by decide +kernel
theorem dX6_readsGround_46 : decode cX6_readsGround 46 = .ok (.getfield 43, 3) := by decide +kernel
theorem dX6_readsGround_49 : decode cX6_readsGround 49 = .ok (.iload_n 2, 1) := by decide +kernel
theorem dX6_readsGround_50 : decode cX6_readsGround 50 = .ok (.aload_n 0, 1) := by decide +kernel
theorem dX6_readsGround_51 : decode cX6_readsGround 51 = .ok (.iload_n 1, 1) := by decide +kernel
theorem dX6_readsGround_52 : decode cX6_readsGround 52 = .ok (.invokevirtual 130, 3) := by decide +kernel
theorem dX6_readsGround_55 : decode cX6_readsGround 55 = .ok (.bipush 48, 2) := by decide +kernel
theorem dX6_readsGround_57 : decode cX6_readsGround 57 = .ok (.isub, 1) := by decide +kernel
theorem dX6_readsGround_58 : decode cX6_readsGround 58 = .ok (.iastore, 1) := by decide +kernel
theorem dX6_readsGround_59 : decode cX6_readsGround 59 = .ok (.iinc 2 1, 3) := by decide +kernel
theorem dX6_readsGround_62 : decode cX6_readsGround 62 = .ok (.aload_n 0, 1) := by decide +kernel
theorem dX6_readsGround_63 : decode cX6_readsGround 63 = .ok (.dup, 1) := by decide +kernel
theorem dX6_readsGround_64 : decode cX6_readsGround 64 = .ok (.getfield 127, 3) := by decide +kernel
theorem dX6_readsGround_67 : decode cX6_readsGround 67 = .ok (.iconst 1, 1) := by decide +kernel
theorem dX6_readsGround_68 : decode cX6_readsGround 68 = .ok (.iadd, 1) := by decide +kernel
theorem dX6_readsGround_69 : decode cX6_readsGround 69 = .ok (.putfield 127, 3) := by decide +kernel
theorem dX6_readsGround_72 : decode cX6_readsGround 72 = .ok (.goto (-48), 3) := by decide +kernel
theorem dX6_readsGround_75 : decode cX6_readsGround 75 = .ok (.iload_n 2, 1) := by decide +kernel
theorem dX6_readsGround_76 : decode cX6_readsGround 76 = .ok (.iconst 2, 1) := by decide +kernel
theorem dX6_readsGround_77 : decode cX6_readsGround 77 = .ok (.if_icmp .lt 18, 3) := by decide +kernel
theorem dX6_readsGround_80 : decode cX6_readsGround 80 = .ok (.aload_n 0, 1) := by decide +kernel
theorem dX6_readsGround_81 : decode cX6_readsGround 81 = .ok (.iload_n 1, 1) := by decide +kernel
theorem dX6_readsGround_82 : decode cX6_readsGround 82 = .ok (.invokevirtual 130, 3) := by decide +kernel
theorem dX6_readsGround_85 : decode cX6_readsGround 85 = .ok (.bipush 48, 2) := by decide +kernel
theorem dX6_readsGround_87 : decode cX6_readsGround 87 = .ok (.bipush 57, 2) := by decide +kernel
theorem dX6_readsGround_89 : decode cX6_readsGround 89 = .ok (.invokestatic 92, 3) := by decide +kernel
theorem dX6_readsGround_92 : decode cX6_readsGround 92 = .ok (.ifCond .eq 5, 3) := by decide +kernel
theorem dX6_readsGround_95 : decode cX6_readsGround 95 = .ok (.iconst 0, 1) := by decide +kernel
theorem dX6_readsGround_96 : decode cX6_readsGround 96 = .ok (.ireturn, 1) := by decide +kernel
theorem dX6_readsGround_97 : decode cX6_readsGround 97 = .ok (.aload_n 0, 1) := by decide +kernel
theorem dX6_readsGround_98 : decode cX6_readsGround 98 = .ok (.iload_n 2, 1) := by decide +kernel
theorem dX6_readsGround_99 : decode cX6_readsGround 99 = .ok (.putfield 133, 3) := by decide +kernel
theorem dX6_readsGround_102 : decode cX6_readsGround 102 = .ok (.iconst 1, 1) := by decide +kernel
theorem dX6_readsGround_103 : decode cX6_readsGround 103 = .ok (.ireturn, 1) := by decide +kernel
theorem dX6_readsBand_0 : decode cX6_readsBand 0 = .ok (.aload_n 0, 1) := by decide +kernel
theorem dX6_readsBand_1 : decode cX6_readsBand 1 = .ok (.iload_n 1, 1) := by decide +kernel
theorem dX6_readsBand_2 : decode cX6_readsBand 2 = .ok (.invokevirtual 130, 3) := by decide +kernel
theorem dX6_readsBand_5 : decode cX6_readsBand 5 = .ok (.invokestatic 136, 3) := by decide +kernel
theorem dX6_readsBand_8 : decode cX6_readsBand 8 = .ok (.istore_n 2, 1) := by decide +kernel
theorem dX6_readsBand_9 : decode cX6_readsBand 9 = .ok (.iload_n 2, 1) := by decide +kernel
theorem dX6_readsBand_10 : decode cX6_readsBand 10 = .ok (.bipush (-9), 2) := by decide +kernel
theorem dX6_readsBand_12 : decode cX6_readsBand 12 = .ok (.if_icmp .eq 11, 3) := by decide +kernel
theorem dX6_readsBand_15 : decode cX6_readsBand 15 = .ok (.aload_n 0, 1) := by decide +kernel
theorem dX6_readsBand_16 : decode cX6_readsBand 16 = .ok (.getfield 139, 3) := by decide +kernel
theorem dX6_readsBand_19 : decode cX6_readsBand 19 = .ok (.iconst 3, 1) := by decide +kernel
theorem dX6_readsBand_20 : decode cX6_readsBand 20 = .ok (.if_icmp .ne 5, 3) := by decide +kernel
theorem dX6_readsBand_23 : decode cX6_readsBand 23 = .ok (.iconst 0, 1) := by decide +kernel
theorem dX6_readsBand_24 : decode cX6_readsBand 24 = .ok (.ireturn, 1) := by decide +kernel
theorem dX6_readsBand_25 : decode cX6_readsBand 25 = .ok (.aload_n 0, 1) := by decide +kernel
theorem dX6_readsBand_26 : decode cX6_readsBand 26 = .ok (.dup, 1) := by decide +kernel
theorem dX6_readsBand_27 : decode cX6_readsBand 27 = .ok (.getfield 127, 3) := by decide +kernel
theorem dX6_readsBand_30 : decode cX6_readsBand 30 = .ok (.iconst 1, 1) := by decide +kernel
theorem dX6_readsBand_31 : decode cX6_readsBand 31 = .ok (.iadd, 1) := by decide +kernel
theorem dX6_readsBand_32 : decode cX6_readsBand 32 = .ok (.putfield 127, 3) := by decide +kernel
theorem dX6_readsBand_35 : decode cX6_readsBand 35 = .ok (.aload_n 0, 1) := by decide +kernel
theorem dX6_readsBand_36 : decode cX6_readsBand 36 = .ok (.iload_n 1, 1) := by decide +kernel
theorem dX6_readsBand_37 : decode cX6_readsBand 37 = .ok (.invokevirtual 130, 3) := by decide +kernel
theorem dX6_readsBand_40 : decode cX6_readsBand 40 = .ok (.bipush 48, 2) := by decide +kernel
theorem dX6_readsBand_42 : decode cX6_readsBand 42 = .ok (.bipush 47, 2) := by decide +kernel
theorem dX6_readsBand_44 : decode cX6_readsBand 44 = .ok (.aload_n 0, 1) := by decide +kernel
theorem dX6_readsBand_45 : decode cX6_readsBand 45 = .ok (.getfield 133, 3) := by decide +kernel
theorem dX6_readsBand_48 : decode cX6_readsBand 48 = .ok (.iadd, 1) := by decide +kernel
theorem dX6_readsBand_49 : decode cX6_readsBand 49 = .ok (.invokestatic 92, 3) := by decide +kernel
theorem dX6_readsBand_52 : decode cX6_readsBand 52 = .ok (.ifCond .ne 5, 3) := by decide +kernel
theorem dX6_readsBand_55 : decode cX6_readsBand 55 = .ok (.iconst 0, 1) := by decide +kernel
theorem dX6_readsBand_56 : decode cX6_readsBand 56 = .ok (.ireturn, 1) := by decide +kernel
theorem dX6_readsBand_57 : decode cX6_readsBand 57 = .ok (.aload_n 0, 1) := by decide +kernel
theorem dX6_readsBand_58 : decode cX6_readsBand 58 = .ok (.getfield 49, 3) := by decide +kernel
theorem dX6_readsBand_61 : decode cX6_readsBand 61 = .ok (.aload_n 0, 1) := by decide +kernel
theorem dX6_readsBand_62 : decode cX6_readsBand 62 = .ok (.getfield 139, 3) := by decide +kernel
theorem dX6_readsBand_65 : decode cX6_readsBand 65 = .ok (.aload_n 0, 1) := by decide +kernel
theorem dX6_readsBand_66 : decode cX6_readsBand 66 = .ok (.iload_n 1, 1) := by decide +kernel
theorem dX6_readsBand_67 : decode cX6_readsBand 67 = .ok (.invokevirtual 130, 3) := by decide +kernel
theorem dX6_readsBand_70 : decode cX6_readsBand 70 = .ok (.bipush 48, 2) := by decide +kernel
theorem dX6_readsBand_72 : decode cX6_readsBand 72 = .ok (.isub, 1) := by decide +kernel
theorem dX6_readsBand_73 : decode cX6_readsBand 73 = .ok (.iastore, 1) := by decide +kernel
theorem dX6_readsBand_74 : decode cX6_readsBand 74 = .ok (.aload_n 0, 1) := by decide +kernel
theorem dX6_readsBand_75 : decode cX6_readsBand 75 = .ok (.dup, 1) := by decide +kernel
theorem dX6_readsBand_76 : decode cX6_readsBand 76 = .ok (.getfield 127, 3) := by decide +kernel
theorem dX6_readsBand_79 : decode cX6_readsBand 79 = .ok (.iconst 1, 1) := by decide +kernel
theorem dX6_readsBand_80 : decode cX6_readsBand 80 = .ok (.iadd, 1) := by decide +kernel
theorem dX6_readsBand_81 : decode cX6_readsBand 81 = .ok (.putfield 127, 3) := by decide +kernel
theorem dX6_readsBand_84 : decode cX6_readsBand 84 = .ok (.aload_n 0, 1) := by decide +kernel
theorem dX6_readsBand_85 : decode cX6_readsBand 85 = .ok (.iload_n 1, 1) := by decide +kernel
theorem dX6_readsBand_86 : decode cX6_readsBand 86 = .ok (.invokevirtual 130, 3) := by decide +kernel
theorem dX6_readsBand_89 : decode cX6_readsBand 89 = .ok (.bipush 49, 2) := by decide +kernel
theorem dX6_readsBand_91 : decode cX6_readsBand 91 = .ok (.bipush 57, 2) := by decide +kernel
theorem dX6_readsBand_93 : decode cX6_readsBand 93 = .ok (.invokestatic 92, 3) := by decide +kernel
theorem dX6_readsBand_96 : decode cX6_readsBand 96 = .ok (.ifCond .ne 5, 3) := by decide +kernel
theorem dX6_readsBand_99 : decode cX6_readsBand 99 = .ok (.iconst 0, 1) := by decide +kernel
theorem dX6_readsBand_100 : decode cX6_readsBand 100 = .ok (.ireturn, 1) := by decide +kernel
theorem dX6_readsBand_101 : decode cX6_readsBand 101 = .ok (.aload_n 0, 1) := by decide +kernel
theorem dX6_readsBand_102 : decode cX6_readsBand 102 = .ok (.getfield 52, 3) := by decide +kernel
theorem dX6_readsBand_105 : decode cX6_readsBand 105 = .ok (.aload_n 0, 1) := by decide +kernel
theorem dX6_readsBand_106 : decode cX6_readsBand 106 = .ok (.getfield 139, 3) := by decide +kernel
theorem dX6_readsBand_109 : decode cX6_readsBand 109 = .ok (.aload_n 0, 1) := by decide +kernel
theorem dX6_readsBand_110 : decode cX6_readsBand 110 = .ok (.iload_n 1, 1) := by decide +kernel
theorem dX6_readsBand_111 : decode cX6_readsBand 111 = .ok (.invokevirtual 130, 3) := by decide +kernel
theorem dX6_readsBand_114 : decode cX6_readsBand 114 = .ok (.bipush 48, 2) := by decide +kernel
theorem dX6_readsBand_116 : decode cX6_readsBand 116 = .ok (.isub, 1) := by decide +kernel
theorem dX6_readsBand_117 : decode cX6_readsBand 117 = .ok (.iastore, 1) := by decide +kernel
theorem dX6_readsBand_118 : decode cX6_readsBand 118 = .ok (.aload_n 0, 1) := by decide +kernel
theorem dX6_readsBand_119 : decode cX6_readsBand 119 = .ok (.dup, 1) := by decide +kernel
theorem dX6_readsBand_120 : decode cX6_readsBand 120 = .ok (.getfield 127, 3) := by decide +kernel
theorem dX6_readsBand_123 : decode cX6_readsBand 123 = .ok (.iconst 1, 1) := by decide +kernel
theorem dX6_readsBand_124 : decode cX6_readsBand 124 = .ok (.iadd, 1) := by decide +kernel
theorem dX6_readsBand_125 : decode cX6_readsBand 125 = .ok (.putfield 127, 3) := by decide +kernel
theorem dX6_readsBand_128 : decode cX6_readsBand 128 = .ok (.aload_n 0, 1) := by decide +kernel
theorem dX6_readsBand_129 : decode cX6_readsBand 129 = .ok (.getfield 46, 3) := by decide +kernel
theorem dX6_readsBand_132 : decode cX6_readsBand 132 = .ok (.aload_n 0, 1) := by decide +kernel
theorem dX6_readsBand_133 : decode cX6_readsBand 133 = .ok (.getfield 139, 3) := by decide +kernel
theorem dX6_readsBand_136 : decode cX6_readsBand 136 = .ok (.iload_n 2, 1) := by decide +kernel
theorem dX6_readsBand_137 : decode cX6_readsBand 137 = .ok (.iastore, 1) := by decide +kernel
theorem dX6_readsBand_138 : decode cX6_readsBand 138 = .ok (.aload_n 0, 1) := by decide +kernel
theorem dX6_readsBand_139 : decode cX6_readsBand 139 = .ok (.dup, 1) := by decide +kernel
theorem dX6_readsBand_140 : decode cX6_readsBand 140 = .ok (.getfield 139, 3) := by decide +kernel
theorem dX6_readsBand_143 : decode cX6_readsBand 143 = .ok (.iconst 1, 1) := by decide +kernel
theorem dX6_readsBand_144 : decode cX6_readsBand 144 = .ok (.iadd, 1) := by decide +kernel
theorem dX6_readsBand_145 : decode cX6_readsBand 145 = .ok (.putfield 139, 3) := by decide +kernel
theorem dX6_readsBand_148 : decode cX6_readsBand 148 = .ok (.iconst 1, 1) := by decide +kernel
theorem dX6_readsBand_149 : decode cX6_readsBand 149 = .ok (.ireturn, 1) := by decide +kernel
theorem dX6_goesOn_0 : decode cX6_goesOn 0 = .ok (.aload_n 0, 1) := by decide +kernel
theorem dX6_goesOn_1 : decode cX6_goesOn 1 = .ok (.iconst 0, 1) := by decide +kernel
theorem dX6_goesOn_2 : decode cX6_goesOn 2 = .ok (.putfield 127, 3) := by decide +kernel
theorem dX6_goesOn_5 : decode cX6_goesOn 5 = .ok (.aload_n 0, 1) := by decide +kernel
theorem dX6_goesOn_6 : decode cX6_goesOn 6 = .ok (.iconst 0, 1) := by decide +kernel
theorem dX6_goesOn_7 : decode cX6_goesOn 7 = .ok (.putfield 133, 3) := by decide +kernel
theorem dX6_goesOn_10 : decode cX6_goesOn 10 = .ok (.aload_n 0, 1) := by decide +kernel
theorem dX6_goesOn_11 : decode cX6_goesOn 11 = .ok (.iconst 0, 1) := by decide +kernel
theorem dX6_goesOn_12 : decode cX6_goesOn 12 = .ok (.putfield 139, 3) := by decide +kernel
theorem dX6_goesOn_15 : decode cX6_goesOn 15 = .ok (.aload_n 0, 1) := by decide +kernel
theorem dX6_goesOn_16 : decode cX6_goesOn 16 = .ok (.getfield 127, 3) := by decide +kernel
theorem dX6_goesOn_19 : decode cX6_goesOn 19 = .ok (.aload_n 0, 1) := by decide +kernel
theorem dX6_goesOn_20 : decode cX6_goesOn 20 = .ok (.getfield 22, 3) := by decide +kernel
theorem dX6_goesOn_23 : decode cX6_goesOn 23 = .ok (.iload_n 1, 1) := by decide +kernel
theorem dX6_goesOn_24 : decode cX6_goesOn 24 = .ok (.iaload, 1) := by decide +kernel
theorem dX6_goesOn_25 : decode cX6_goesOn 25 = .ok (.if_icmp .ge 57, 3) := by decide +kernel
theorem dX6_goesOn_28 : decode cX6_goesOn 28 = .ok (.aload_n 0, 1) := by decide +kernel
theorem dX6_goesOn_29 : decode cX6_goesOn 29 = .ok (.iload_n 1, 1) := by decide +kernel
theorem dX6_goesOn_30 : decode cX6_goesOn 30 = .ok (.invokevirtual 130, 3) := by decide +kernel
theorem dX6_goesOn_33 : decode cX6_goesOn 33 = .ok (.bipush 32, 2) := by decide +kernel
theorem dX6_goesOn_35 : decode cX6_goesOn 35 = .ok (.if_icmp .ne 16, 3) := by decide +kernel
theorem dX6_goesOn_38 : decode cX6_goesOn 38 = .ok (.aload_n 0, 1) := by decide +kernel
theorem dX6_goesOn_39 : decode cX6_goesOn 39 = .ok (.dup, 1) := by decide +kernel
theorem dX6_goesOn_40 : decode cX6_goesOn 40 = .ok (.getfield 127, 3) := by decide +kernel
theorem dX6_goesOn_43 : decode cX6_goesOn 43 = .ok (.iconst 1, 1) := by decide +kernel
theorem dX6_goesOn_44 : decode cX6_goesOn 44 = .ok (.iadd, 1) := by decide +kernel
theorem dX6_goesOn_45 : decode cX6_goesOn 45 = .ok (.putfield 127, 3) := by decide +kernel
theorem dX6_goesOn_48 : decode cX6_goesOn 48 = .ok (.goto (-33), 3) := by decide +kernel
theorem dX6_goesOn_51 : decode cX6_goesOn 51 = .ok (.aload_n 0, 1) := by decide +kernel
theorem dX6_goesOn_52 : decode cX6_goesOn 52 = .ok (.getfield 133, 3) := by decide +kernel
theorem dX6_goesOn_55 : decode cX6_goesOn 55 = .ok (.ifCond .ne 14, 3) := by decide +kernel
theorem dX6_goesOn_58 : decode cX6_goesOn 58 = .ok (.aload_n 0, 1) := by decide +kernel
theorem dX6_goesOn_59 : decode cX6_goesOn 59 = .ok (.iload_n 1, 1) := by decide +kernel
theorem dX6_goesOn_60 : decode cX6_goesOn 60 = .ok (.invokevirtual 142, 3) := by decide +kernel
theorem dX6_goesOn_63 : decode cX6_goesOn 63 = .ok (.ifCond .ne (-48), 3) := by decide +kernel
theorem dX6_goesOn_66 : decode cX6_goesOn 66 = .ok (.goto 11, 3) := by decide +kernel
theorem dX6_goesOn_69 : decode cX6_goesOn 69 = .ok (.aload_n 0, 1) := by decide +kernel
theorem dX6_goesOn_70 : decode cX6_goesOn 70 = .ok (.iload_n 1, 1) := by decide +kernel
theorem dX6_goesOn_71 : decode cX6_goesOn 71 = .ok (.invokevirtual 145, 3) := by decide +kernel
theorem dX6_goesOn_74 : decode cX6_goesOn 74 = .ok (.ifCond .ne (-59), 3) := by decide +kernel
theorem dX6_goesOn_77 : decode cX6_goesOn 77 = .ok (.aload_n 0, 1) := by decide +kernel
theorem dX6_goesOn_78 : decode cX6_goesOn 78 = .ok (.getfield 127, 3) := by decide +kernel
theorem dX6_goesOn_81 : decode cX6_goesOn 81 = .ok (.ireturn, 1) := by decide +kernel
theorem dX6_goesOn_82 : decode cX6_goesOn 82 = .ok (.aload_n 0, 1) := by decide +kernel
theorem dX6_goesOn_83 : decode cX6_goesOn 83 = .ok (.getfield 133, 3) := by decide +kernel
theorem dX6_goesOn_86 : decode cX6_goesOn 86 = .ok (.ifCond .ne 12, 3) := by decide +kernel
theorem dX6_goesOn_89 : decode cX6_goesOn 89 = .ok (.aload_n 0, 1) := by decide +kernel
theorem dX6_goesOn_90 : decode cX6_goesOn 90 = .ok (.getfield 22, 3) := by decide +kernel
theorem dX6_goesOn_93 : decode cX6_goesOn 93 = .ok (.iload_n 1, 1) := by decide +kernel
theorem dX6_goesOn_94 : decode cX6_goesOn 94 = .ok (.iaload, 1) := by decide +kernel
theorem dX6_goesOn_95 : decode cX6_goesOn 95 = .ok (.goto 5, 3) := by decide +kernel
theorem dX6_goesOn_98 : decode cX6_goesOn 98 = .ok (.bipush (-9), 2) := by decide +kernel
theorem dX6_goesOn_100 : decode cX6_goesOn 100 = .ok (.ireturn, 1) := by decide +kernel
theorem dX6_fault_0 : decode cX6_fault 0 = .ok (.aload_n 0, 1) := by decide +kernel
theorem dX6_fault_1 : decode cX6_fault 1 = .ok (.iload_n 1, 1) := by decide +kernel
theorem dX6_fault_2 : decode cX6_fault 2 = .ok (.invokevirtual 124, 3) := by decide +kernel
theorem dX6_fault_5 : decode cX6_fault 5 = .ok (.istore_n 2, 1) := by decide +kernel
theorem dX6_fault_6 : decode cX6_fault 6 = .ok (.iload_n 2, 1) := by decide +kernel
theorem dX6_fault_7 : decode cX6_fault 7 = .ok (.ifCond .ge 7, 3) := by decide +kernel
theorem dX6_fault_10 : decode cX6_fault 10 = .ok (.iload_n 2, 1) := by decide +kernel
theorem dX6_fault_11 : decode cX6_fault 11 = .ok (.goto 8, 3) := by decide +kernel
theorem dX6_fault_14 : decode cX6_fault 14 = .ok (.aload_n 0, 1) := by decide +kernel
theorem dX6_fault_15 : decode cX6_fault 15 = .ok (.iload_n 1, 1) := by decide +kernel
theorem dX6_fault_16 : decode cX6_fault 16 = .ok (.invokevirtual 148, 3) := by decide +kernel
theorem dX6_fault_19 : decode cX6_fault 19 = .ok (.ireturn, 1) := by decide +kernel
theorem dX6_land_0 : decode cX6_land 0 = .ok (.aload_n 0, 1) := by decide +kernel
theorem dX6_land_1 : decode cX6_land 1 = .ok (.iload_n 1, 1) := by decide +kernel
theorem dX6_land_2 : decode cX6_land 2 = .ok (.invokevirtual 124, 3) := by decide +kernel
theorem dX6_land_5 : decode cX6_land 5 = .ok (.istore_n 2, 1) := by decide +kernel
theorem dX6_land_6 : decode cX6_land 6 = .ok (.iload_n 2, 1) := by decide +kernel
theorem dX6_land_7 : decode cX6_land 7 = .ok (.ifCond .ge 5, 3) := by decide +kernel
theorem dX6_land_10 : decode cX6_land 10 = .ok (.iload_n 2, 1) := by decide +kernel
theorem dX6_land_11 : decode cX6_land 11 = .ok (.ireturn, 1) := by decide +kernel
theorem dX6_land_12 : decode cX6_land 12 = .ok (.aload_n 0, 1) := by decide +kernel
theorem dX6_land_13 : decode cX6_land 13 = .ok (.iload_n 1, 1) := by decide +kernel
theorem dX6_land_14 : decode cX6_land 14 = .ok (.invokevirtual 148, 3) := by decide +kernel
theorem dX6_land_17 : decode cX6_land 17 = .ok (.bipush (-9), 2) := by decide +kernel
theorem dX6_land_19 : decode cX6_land 19 = .ok (.if_icmp .eq 6, 3) := by decide +kernel
theorem dX6_land_22 : decode cX6_land 22 = .ok (.bipush (-4), 2) := by decide +kernel
theorem dX6_land_24 : decode cX6_land 24 = .ok (.ireturn, 1) := by decide +kernel
theorem dX6_land_25 : decode cX6_land 25 = .ok (.aload_n 0, 1) := by decide +kernel
theorem dX6_land_26 : decode cX6_land 26 = .ok (.aload_n 0, 1) := by decide +kernel
theorem dX6_land_27 : decode cX6_land 27 = .ok (.getfield 133, 3) := by decide +kernel
theorem dX6_land_30 : decode cX6_land 30 = .ok (.putfield 151, 3) := by decide +kernel
theorem dX6_land_33 : decode cX6_land 33 = .ok (.aload_n 0, 1) := by decide +kernel
theorem dX6_land_34 : decode cX6_land 34 = .ok (.aload_n 0, 1) := by decide +kernel
theorem dX6_land_35 : decode cX6_land 35 = .ok (.getfield 139, 3) := by decide +kernel
theorem dX6_land_38 : decode cX6_land 38 = .ok (.putfield 154, 3) := by decide +kernel
theorem dX6_land_41 : decode cX6_land 41 = .ok (.iconst 0, 1) := by decide +kernel
theorem dX6_land_42 : decode cX6_land 42 = .ok (.istore_n 3, 1) := by decide +kernel
theorem dX6_land_43 : decode cX6_land 43 = .ok (.iload_n 3, 1) := by decide +kernel
theorem dX6_land_44 : decode cX6_land 44 = .ok (.bipush 10, 2) := by decide +kernel
theorem dX6_land_46 : decode cX6_land 46 = .ok (.if_icmp .ge 33, 3) := by decide +kernel
theorem dX6_land_49 : decode cX6_land 49 = .ok (.aload_n 0, 1) := by decide +kernel
theorem dX6_land_50 : decode cX6_land 50 = .ok (.getfield 28, 3) := by decide +kernel
theorem dX6_land_53 : decode cX6_land 53 = .ok (.iload_n 3, 1) := by decide +kernel
theorem dX6_land_54 : decode cX6_land 54 = .ok (.iload_n 3, 1) := by decide +kernel
theorem dX6_land_55 : decode cX6_land 55 = .ok (.aload_n 0, 1) := by decide +kernel
theorem dX6_land_56 : decode cX6_land 56 = .ok (.getfield 151, 3) := by decide +kernel
theorem dX6_land_59 : decode cX6_land 59 = .ok (.if_icmp .ge 12, 3) := by decide +kernel
theorem dX6_land_62 : decode cX6_land 62 = .ok (.aload_n 0, 1) := by decide +kernel
theorem dX6_land_63 : decode cX6_land 63 = .ok (.getfield 43, 3) := by decide +kernel
theorem dX6_land_66 : decode cX6_land 66 = .ok (.iload_n 3, 1) := by decide +kernel
theorem dX6_land_67 : decode cX6_land 67 = .ok (.iaload, 1) := by decide +kernel
theorem dX6_land_68 : decode cX6_land 68 = .ok (.goto 4, 3) := by decide +kernel
theorem dX6_land_71 : decode cX6_land 71 = .ok (.iconst 0, 1) := by decide +kernel
theorem dX6_land_72 : decode cX6_land 72 = .ok (.iastore, 1) := by decide +kernel
theorem dX6_land_73 : decode cX6_land 73 = .ok (.iinc 3 1, 3) := by decide +kernel
theorem dX6_land_76 : decode cX6_land 76 = .ok (.goto (-33), 3) := by decide +kernel
theorem dX6_land_79 : decode cX6_land 79 = .ok (.iconst 0, 1) := by decide +kernel
theorem dX6_land_80 : decode cX6_land 80 = .ok (.istore_n 3, 1) := by decide +kernel
theorem dX6_land_81 : decode cX6_land 81 = .ok (.iload_n 3, 1) := by decide +kernel
theorem dX6_land_82 : decode cX6_land 82 = .ok (.iconst 3, 1) := by decide +kernel
theorem dX6_land_83 : decode cX6_land 83 = .ok (.if_icmp .ge 52, 3) := by decide +kernel
theorem dX6_land_86 : decode cX6_land 86 = .ok (.aload_n 0, 1) := by decide +kernel
theorem dX6_land_87 : decode cX6_land 87 = .ok (.getfield 31, 3) := by decide +kernel
theorem dX6_land_90 : decode cX6_land 90 = .ok (.iload_n 3, 1) := by decide +kernel
theorem dX6_land_91 : decode cX6_land 91 = .ok (.aload_n 0, 1) := by decide +kernel
theorem dX6_land_92 : decode cX6_land 92 = .ok (.getfield 46, 3) := by decide +kernel
theorem dX6_land_95 : decode cX6_land 95 = .ok (.iload_n 3, 1) := by decide +kernel
theorem dX6_land_96 : decode cX6_land 96 = .ok (.iaload, 1) := by decide +kernel
theorem dX6_land_97 : decode cX6_land 97 = .ok (.iastore, 1) := by decide +kernel
theorem dX6_land_98 : decode cX6_land 98 = .ok (.aload_n 0, 1) := by decide +kernel
theorem dX6_land_99 : decode cX6_land 99 = .ok (.getfield 34, 3) := by decide +kernel
theorem dX6_land_102 : decode cX6_land 102 = .ok (.iload_n 3, 1) := by decide +kernel
theorem dX6_land_103 : decode cX6_land 103 = .ok (.aload_n 0, 1) := by decide +kernel
theorem dX6_land_104 : decode cX6_land 104 = .ok (.getfield 49, 3) := by decide +kernel
theorem dX6_land_107 : decode cX6_land 107 = .ok (.iload_n 3, 1) := by decide +kernel
theorem dX6_land_108 : decode cX6_land 108 = .ok (.iaload, 1) := by decide +kernel
theorem dX6_land_109 : decode cX6_land 109 = .ok (.iastore, 1) := by decide +kernel
theorem dX6_land_110 : decode cX6_land 110 = .ok (.aload_n 0, 1) := by decide +kernel
theorem dX6_land_111 : decode cX6_land 111 = .ok (.getfield 37, 3) := by decide +kernel
theorem dX6_land_114 : decode cX6_land 114 = .ok (.iload_n 3, 1) := by decide +kernel
theorem dX6_land_115 : decode cX6_land 115 = .ok (.aload_n 0, 1) := by decide +kernel
theorem dX6_land_116 : decode cX6_land 116 = .ok (.getfield 52, 3) := by decide +kernel
theorem dX6_land_119 : decode cX6_land 119 = .ok (.iload_n 3, 1) := by decide +kernel
theorem dX6_land_120 : decode cX6_land 120 = .ok (.iaload, 1) := by decide +kernel
theorem dX6_land_121 : decode cX6_land 121 = .ok (.iastore, 1) := by decide +kernel
theorem dX6_land_122 : decode cX6_land 122 = .ok (.aload_n 0, 1) := by decide +kernel
theorem dX6_land_123 : decode cX6_land 123 = .ok (.getfield 40, 3) := by decide +kernel
theorem dX6_land_126 : decode cX6_land 126 = .ok (.iload_n 3, 1) := by decide +kernel
theorem dX6_land_127 : decode cX6_land 127 = .ok (.iconst 0, 1) := by decide +kernel
theorem dX6_land_128 : decode cX6_land 128 = .ok (.iastore, 1) := by decide +kernel
theorem dX6_land_129 : decode cX6_land 129 = .ok (.iinc 3 1, 3) := by decide +kernel
theorem dX6_land_132 : decode cX6_land 132 = .ok (.goto (-51), 3) := by decide +kernel
theorem dX6_land_135 : decode cX6_land 135 = .ok (.aload_n 0, 1) := by decide +kernel
theorem dX6_land_136 : decode cX6_land 136 = .ok (.iconst 0, 1) := by decide +kernel
theorem dX6_land_137 : decode cX6_land 137 = .ok (.putfield 157, 3) := by decide +kernel
theorem dX6_land_140 : decode cX6_land 140 = .ok (.aload_n 0, 1) := by decide +kernel
theorem dX6_land_141 : decode cX6_land 141 = .ok (.iconst 0, 1) := by decide +kernel
theorem dX6_land_142 : decode cX6_land 142 = .ok (.putfield 160, 3) := by decide +kernel
theorem dX6_land_145 : decode cX6_land 145 = .ok (.iconst 0, 1) := by decide +kernel
theorem dX6_land_146 : decode cX6_land 146 = .ok (.istore_n 3, 1) := by decide +kernel
theorem dX6_land_147 : decode cX6_land 147 = .ok (.iload_n 3, 1) := by decide +kernel
theorem dX6_land_148 : decode cX6_land 148 = .ok (.iconst 3, 1) := by decide +kernel
theorem dX6_land_149 : decode cX6_land 149 = .ok (.if_icmp .ge 21, 3) := by decide +kernel
theorem dX6_land_152 : decode cX6_land 152 = .ok (.aload_n 0, 1) := by decide +kernel
theorem dX6_land_153 : decode cX6_land 153 = .ok (.getfield 64, 3) := by decide +kernel
theorem dX6_land_156 : decode cX6_land 156 = .ok (.sipush 920, 3) := by decide +kernel
theorem dX6_land_159 : decode cX6_land 159 = .ok (.iload_n 3, 1) := by decide +kernel
theorem dX6_land_160 : decode cX6_land 160 = .ok (.imul, 1) := by decide +kernel
theorem dX6_land_161 : decode cX6_land 161 = .ok (.bipush (-9), 2) := by decide +kernel
theorem dX6_land_163 : decode cX6_land 163 = .ok (.iastore, 1) := by decide +kernel
theorem dX6_land_164 : decode cX6_land 164 = .ok (.iinc 3 1, 3) := by decide +kernel
theorem dX6_land_167 : decode cX6_land 167 = .ok (.goto (-20), 3) := by decide +kernel
theorem dX6_land_170 : decode cX6_land 170 = .ok (.aload_n 0, 1) := by decide +kernel
theorem dX6_land_171 : decode cX6_land 171 = .ok (.getfield 151, 3) := by decide +kernel
theorem dX6_land_174 : decode cX6_land 174 = .ok (.ireturn, 1) := by decide +kernel
theorem dX6_isSpot_0 : decode cX6_isSpot 0 = .ok (.iload_n 1, 1) := by decide +kernel
theorem dX6_isSpot_1 : decode cX6_isSpot 1 = .ok (.iconst 0, 1) := by decide +kernel
theorem dX6_isSpot_2 : decode cX6_isSpot 2 = .ok (.aload_n 0, 1) := by decide +kernel
theorem dX6_isSpot_3 : decode cX6_isSpot 3 = .ok (.getfield 151, 3) := by decide +kernel
theorem dX6_isSpot_6 : decode cX6_isSpot 6 = .ok (.iconst 1, 1) := by decide +kernel
theorem dX6_isSpot_7 : decode cX6_isSpot 7 = .ok (.isub, 1) := by decide +kernel
theorem dX6_isSpot_8 : decode cX6_isSpot 8 = .ok (.invokestatic 92, 3) := by decide +kernel
theorem dX6_isSpot_11 : decode cX6_isSpot 11 = .ok (.ireturn, 1) := by decide +kernel
theorem dX6_isBand_0 : decode cX6_isBand 0 = .ok (.iload_n 1, 1) := by decide +kernel
theorem dX6_isBand_1 : decode cX6_isBand 1 = .ok (.iconst 0, 1) := by decide +kernel
theorem dX6_isBand_2 : decode cX6_isBand 2 = .ok (.aload_n 0, 1) := by decide +kernel
theorem dX6_isBand_3 : decode cX6_isBand 3 = .ok (.getfield 154, 3) := by decide +kernel
theorem dX6_isBand_6 : decode cX6_isBand 6 = .ok (.iconst 1, 1) := by decide +kernel
theorem dX6_isBand_7 : decode cX6_isBand 7 = .ok (.isub, 1) := by decide +kernel
theorem dX6_isBand_8 : decode cX6_isBand 8 = .ok (.invokestatic 92, 3) := by decide +kernel
theorem dX6_isBand_11 : decode cX6_isBand 11 = .ok (.ireturn, 1) := by decide +kernel
theorem dX6_isA_0 : decode cX6_isA 0 = .ok (.aload_n 0, 1) := by decide +kernel
theorem dX6_isA_1 : decode cX6_isA 1 = .ok (.getfield 31, 3) := by decide +kernel
theorem dX6_isA_4 : decode cX6_isA 4 = .ok (.iload_n 1, 1) := by decide +kernel
theorem dX6_isA_5 : decode cX6_isA 5 = .ok (.iaload, 1) := by decide +kernel
theorem dX6_isA_6 : decode cX6_isA 6 = .ok (.iload_n 2, 1) := by decide +kernel
theorem dX6_isA_7 : decode cX6_isA 7 = .ok (.if_icmp .eq 33, 3) := by decide +kernel
theorem dX6_isA_10 : decode cX6_isA 10 = .ok (.iload_n 2, 1) := by decide +kernel
theorem dX6_isA_11 : decode cX6_isA 11 = .ok (.iconst 1, 1) := by decide +kernel
theorem dX6_isA_12 : decode cX6_isA 12 = .ok (.if_icmp .ne 13, 3) := by decide +kernel
theorem dX6_isA_15 : decode cX6_isA 15 = .ok (.aload_n 0, 1) := by decide +kernel
theorem dX6_isA_16 : decode cX6_isA 16 = .ok (.getfield 31, 3) := by decide +kernel
theorem dX6_isA_19 : decode cX6_isA 19 = .ok (.iload_n 1, 1) := by decide +kernel
theorem dX6_isA_20 : decode cX6_isA 20 = .ok (.iaload, 1) := by decide +kernel
theorem dX6_isA_21 : decode cX6_isA 21 = .ok (.iconst 4, 1) := by decide +kernel
theorem dX6_isA_22 : decode cX6_isA 22 = .ok (.if_icmp .eq 18, 3) := by decide +kernel
theorem dX6_isA_25 : decode cX6_isA 25 = .ok (.iload_n 2, 1) := by decide +kernel
theorem dX6_isA_26 : decode cX6_isA 26 = .ok (.iconst 2, 1) := by decide +kernel
theorem dX6_isA_27 : decode cX6_isA 27 = .ok (.if_icmp .ne 17, 3) := by decide +kernel
theorem dX6_isA_30 : decode cX6_isA 30 = .ok (.aload_n 0, 1) := by decide +kernel
theorem dX6_isA_31 : decode cX6_isA 31 = .ok (.getfield 31, 3) := by decide +kernel
theorem dX6_isA_34 : decode cX6_isA 34 = .ok (.iload_n 1, 1) := by decide +kernel
theorem dX6_isA_35 : decode cX6_isA 35 = .ok (.iaload, 1) := by decide +kernel
theorem dX6_isA_36 : decode cX6_isA 36 = .ok (.iconst 5, 1) := by decide +kernel
theorem dX6_isA_37 : decode cX6_isA 37 = .ok (.if_icmp .ne 7, 3) := by decide +kernel
theorem dX6_isA_40 : decode cX6_isA 40 = .ok (.iconst 1, 1) := by decide +kernel
theorem dX6_isA_41 : decode cX6_isA 41 = .ok (.goto 4, 3) := by decide +kernel
theorem dX6_isA_44 : decode cX6_isA 44 = .ok (.iconst 0, 1) := by decide +kernel
theorem dX6_isA_45 : decode cX6_isA 45 = .ok (.ireturn, 1) := by decide +kernel
theorem dX6_spot_0 : decode cX6_spot 0 = .ok (.aload_n 0, 1) := by decide +kernel
theorem dX6_spot_1 : decode cX6_spot 1 = .ok (.iload_n 1, 1) := by decide +kernel
theorem dX6_spot_2 : decode cX6_spot 2 = .ok (.invokevirtual 163, 3) := by decide +kernel
theorem dX6_spot_5 : decode cX6_spot 5 = .ok (.ifCond .eq 24, 3) := by decide +kernel
theorem dX6_spot_8 : decode cX6_spot 8 = .ok (.aload_n 0, 1) := by decide +kernel
theorem dX6_spot_9 : decode cX6_spot 9 = .ok (.aload_n 0, 1) := by decide +kernel
theorem dX6_spot_10 : decode cX6_spot 10 = .ok (.getfield 28, 3) := by decide +kernel
theorem dX6_spot_13 : decode cX6_spot 13 = .ok (.iload_n 1, 1) := by decide +kernel
theorem dX6_spot_14 : decode cX6_spot 14 = .ok (.iaload, 1) := by decide +kernel
theorem dX6_spot_15 : decode cX6_spot 15 = .ok (.aload_n 0, 1) := by decide +kernel
theorem dX6_spot_16 : decode cX6_spot 16 = .ok (.getfield 157, 3) := by decide +kernel
theorem dX6_spot_19 : decode cX6_spot 19 = .ok (.iload_n 1, 1) := by decide +kernel
theorem dX6_spot_20 : decode cX6_spot 20 = .ok (.ishr, 1) := by decide +kernel
theorem dX6_spot_21 : decode cX6_spot 21 = .ok (.iconst 1, 1) := by decide +kernel
theorem dX6_spot_22 : decode cX6_spot 22 = .ok (.iand, 1) := by decide +kernel
theorem dX6_spot_23 : decode cX6_spot 23 = .ok (.invokevirtual 118, 3) := by decide +kernel
theorem dX6_spot_26 : decode cX6_spot 26 = .ok (.goto 4, 3) := by decide +kernel
theorem dX6_spot_29 : decode cX6_spot 29 = .ok (.iconst (-1), 1) := by decide +kernel
theorem dX6_spot_30 : decode cX6_spot 30 = .ok (.ireturn, 1) := by decide +kernel
theorem dX6_reachOf_0 : decode cX6_reachOf 0 = .ok (.aload_n 0, 1) := by decide +kernel
theorem dX6_reachOf_1 : decode cX6_reachOf 1 = .ok (.getfield 31, 3) := by decide +kernel
theorem dX6_reachOf_4 : decode cX6_reachOf 4 = .ok (.iload_n 1, 1) := by decide +kernel
theorem dX6_reachOf_5 : decode cX6_reachOf 5 = .ok (.iaload, 1) := by decide +kernel
theorem dX6_reachOf_6 : decode cX6_reachOf 6 = .ok (.iconst 4, 1) := by decide +kernel
theorem dX6_reachOf_7 : decode cX6_reachOf 7 = .ok (.if_icmp .ne 14, 3) := by decide +kernel
theorem dX6_reachOf_10 : decode cX6_reachOf 10 = .ok (.iconst 2, 1) := by decide +kernel
theorem dX6_reachOf_11 : decode cX6_reachOf 11 = .ok (.aload_n 0, 1) := by decide +kernel
theorem dX6_reachOf_12 : decode cX6_reachOf 12 = .ok (.getfield 37, 3) := by decide +kernel
theorem dX6_reachOf_15 : decode cX6_reachOf 15 = .ok (.iload_n 1, 1) := by decide +kernel
theorem dX6_reachOf_16 : decode cX6_reachOf 16 = .ok (.iaload, 1) := by decide +kernel
theorem dX6_reachOf_17 : decode cX6_reachOf 17 = .ok (.imul, 1) := by decide +kernel
theorem dX6_reachOf_18 : decode cX6_reachOf 18 = .ok (.goto 9, 3) := by decide +kernel
theorem dX6_reachOf_21 : decode cX6_reachOf 21 = .ok (.aload_n 0, 1) := by decide +kernel
theorem dX6_reachOf_22 : decode cX6_reachOf 22 = .ok (.getfield 37, 3) := by decide +kernel
theorem dX6_reachOf_25 : decode cX6_reachOf 25 = .ok (.iload_n 1, 1) := by decide +kernel
theorem dX6_reachOf_26 : decode cX6_reachOf 26 = .ok (.iaload, 1) := by decide +kernel
theorem dX6_reachOf_27 : decode cX6_reachOf 27 = .ok (.ireturn, 1) := by decide +kernel
theorem dX6_size_0 : decode cX6_size 0 = .ok (.iload_n 0, 1) := by decide +kernel
theorem dX6_size_1 : decode cX6_size 1 = .ok (.ifCond .ge 8, 3) := by decide +kernel
theorem dX6_size_4 : decode cX6_size 4 = .ok (.iload_n 0, 1) := by decide +kernel
theorem dX6_size_5 : decode cX6_size 5 = .ok (.ineg, 1) := by decide +kernel
theorem dX6_size_6 : decode cX6_size 6 = .ok (.goto 4, 3) := by decide +kernel
theorem dX6_size_9 : decode cX6_size 9 = .ok (.iload_n 0, 1) := by decide +kernel
theorem dX6_size_10 : decode cX6_size 10 = .ok (.ireturn, 1) := by decide +kernel
theorem dX6_isHeard_0 : decode cX6_isHeard 0 = .ok (.iload_n 2, 1) := by decide +kernel
theorem dX6_isHeard_1 : decode cX6_isHeard 1 = .ok (.aload_n 0, 1) := by decide +kernel
theorem dX6_isHeard_2 : decode cX6_isHeard 2 = .ok (.getfield 34, 3) := by decide +kernel
theorem dX6_isHeard_5 : decode cX6_isHeard 5 = .ok (.iload_n 1, 1) := by decide +kernel
theorem dX6_isHeard_6 : decode cX6_isHeard 6 = .ok (.iaload, 1) := by decide +kernel
theorem dX6_isHeard_7 : decode cX6_isHeard 7 = .ok (.isub, 1) := by decide +kernel
theorem dX6_isHeard_8 : decode cX6_isHeard 8 = .ok (.invokestatic 166, 3) := by decide +kernel
theorem dX6_isHeard_11 : decode cX6_isHeard 11 = .ok (.istore_n 3, 1) := by decide +kernel
theorem dX6_isHeard_12 : decode cX6_isHeard 12 = .ok (.iload_n 3, 1) := by decide +kernel
theorem dX6_isHeard_13 : decode cX6_isHeard 13 = .ok (.ifCond .le 16, 3) := by decide +kernel
theorem dX6_isHeard_16 : decode cX6_isHeard 16 = .ok (.iload_n 3, 1) := by decide +kernel
theorem dX6_isHeard_17 : decode cX6_isHeard 17 = .ok (.aload_n 0, 1) := by decide +kernel
theorem dX6_isHeard_18 : decode cX6_isHeard 18 = .ok (.iload_n 1, 1) := by decide +kernel
theorem dX6_isHeard_19 : decode cX6_isHeard 19 = .ok (.invokevirtual 169, 3) := by decide +kernel
theorem dX6_isHeard_22 : decode cX6_isHeard 22 = .ok (.if_icmp .gt 7, 3) := by decide +kernel
theorem dX6_isHeard_25 : decode cX6_isHeard 25 = .ok (.iconst 1, 1) := by decide +kernel
theorem dX6_isHeard_26 : decode cX6_isHeard 26 = .ok (.goto 4, 3) := by decide +kernel
theorem dX6_isHeard_29 : decode cX6_isHeard 29 = .ok (.iconst 0, 1) := by decide +kernel
theorem dX6_isHeard_30 : decode cX6_isHeard 30 = .ok (.ireturn, 1) := by decide +kernel
theorem dX6_heardOf_0 : decode cX6_heardOf 0 = .ok (.iconst 0, 1) := by decide +kernel
theorem dX6_heardOf_1 : decode cX6_heardOf 1 = .ok (.istore_n 2, 1) := by decide +kernel
theorem dX6_heardOf_2 : decode cX6_heardOf 2 = .ok (.iconst 0, 1) := by decide +kernel
theorem dX6_heardOf_3 : decode cX6_heardOf 3 = .ok (.istore_n 3, 1) := by decide +kernel
theorem dX6_heardOf_4 : decode cX6_heardOf 4 = .ok (.iload_n 3, 1) := by decide +kernel
theorem dX6_heardOf_5 : decode cX6_heardOf 5 = .ok (.aload_n 0, 1) := by decide +kernel
theorem dX6_heardOf_6 : decode cX6_heardOf 6 = .ok (.getfield 151, 3) := by decide +kernel
theorem dX6_heardOf_9 : decode cX6_heardOf 9 = .ok (.if_icmp .ge 28, 3) := by decide +kernel
theorem dX6_heardOf_12 : decode cX6_heardOf 12 = .ok (.iload_n 2, 1) := by decide +kernel
theorem dX6_heardOf_13 : decode cX6_heardOf 13 = .ok (.aload_n 0, 1) := by decide +kernel
theorem dX6_heardOf_14 : decode cX6_heardOf 14 = .ok (.iload_n 1, 1) := by decide +kernel
theorem dX6_heardOf_15 : decode cX6_heardOf 15 = .ok (.iload_n 3, 1) := by decide +kernel
theorem dX6_heardOf_16 : decode cX6_heardOf 16 = .ok (.invokevirtual 172, 3) := by decide +kernel
theorem dX6_heardOf_19 : decode cX6_heardOf 19 = .ok (.ifCond .eq 9, 3) := by decide +kernel
theorem dX6_heardOf_22 : decode cX6_heardOf 22 = .ok (.iconst 1, 1) := by decide +kernel
theorem dX6_heardOf_23 : decode cX6_heardOf 23 = .ok (.iload_n 3, 1) := by decide +kernel
theorem dX6_heardOf_24 : decode cX6_heardOf 24 = .ok (.ishl, 1) := by decide +kernel
theorem dX6_heardOf_25 : decode cX6_heardOf 25 = .ok (.goto 4, 3) := by decide +kernel
theorem dX6_heardOf_28 : decode cX6_heardOf 28 = .ok (.iconst 0, 1) := by decide +kernel
theorem dX6_heardOf_29 : decode cX6_heardOf 29 = .ok (.ior, 1) := by decide +kernel
theorem dX6_heardOf_30 : decode cX6_heardOf 30 = .ok (.istore_n 2, 1) := by decide +kernel
theorem dX6_heardOf_31 : decode cX6_heardOf 31 = .ok (.iinc 3 1, 3) := by decide +kernel
theorem dX6_heardOf_34 : decode cX6_heardOf 34 = .ok (.goto (-30), 3) := by decide +kernel
theorem dX6_heardOf_37 : decode cX6_heardOf 37 = .ok (.iload_n 2, 1) := by decide +kernel
theorem dX6_heardOf_38 : decode cX6_heardOf 38 = .ok (.ireturn, 1) := by decide +kernel
theorem dX6_bandOf_0 : decode cX6_bandOf 0 = .ok (.iload_n 2, 1) := by decide +kernel
theorem dX6_bandOf_1 : decode cX6_bandOf 1 = .ok (.ifCond .ne 12, 3) := by decide +kernel
theorem dX6_bandOf_4 : decode cX6_bandOf 4 = .ok (.aload_n 0, 1) := by decide +kernel
theorem dX6_bandOf_5 : decode cX6_bandOf 5 = .ok (.getfield 31, 3) := by decide +kernel
theorem dX6_bandOf_8 : decode cX6_bandOf 8 = .ok (.iload_n 1, 1) := by decide +kernel
theorem dX6_bandOf_9 : decode cX6_bandOf 9 = .ok (.iaload, 1) := by decide +kernel
theorem dX6_bandOf_10 : decode cX6_bandOf 10 = .ok (.goto 50, 3) := by decide +kernel
theorem dX6_bandOf_13 : decode cX6_bandOf 13 = .ok (.iload_n 2, 1) := by decide +kernel
theorem dX6_bandOf_14 : decode cX6_bandOf 14 = .ok (.iconst 1, 1) := by decide +kernel
theorem dX6_bandOf_15 : decode cX6_bandOf 15 = .ok (.if_icmp .ne 12, 3) := by decide +kernel
theorem dX6_bandOf_18 : decode cX6_bandOf 18 = .ok (.aload_n 0, 1) := by decide +kernel
theorem dX6_bandOf_19 : decode cX6_bandOf 19 = .ok (.getfield 34, 3) := by decide +kernel
theorem dX6_bandOf_22 : decode cX6_bandOf 22 = .ok (.iload_n 1, 1) := by decide +kernel
theorem dX6_bandOf_23 : decode cX6_bandOf 23 = .ok (.iaload, 1) := by decide +kernel
theorem dX6_bandOf_24 : decode cX6_bandOf 24 = .ok (.goto 36, 3) := by decide +kernel
theorem dX6_bandOf_27 : decode cX6_bandOf 27 = .ok (.iload_n 2, 1) := by decide +kernel
theorem dX6_bandOf_28 : decode cX6_bandOf 28 = .ok (.iconst 2, 1) := by decide +kernel
theorem dX6_bandOf_29 : decode cX6_bandOf 29 = .ok (.if_icmp .ne 12, 3) := by decide +kernel
theorem dX6_bandOf_32 : decode cX6_bandOf 32 = .ok (.aload_n 0, 1) := by decide +kernel
theorem dX6_bandOf_33 : decode cX6_bandOf 33 = .ok (.getfield 37, 3) := by decide +kernel
theorem dX6_bandOf_36 : decode cX6_bandOf 36 = .ok (.iload_n 1, 1) := by decide +kernel
theorem dX6_bandOf_37 : decode cX6_bandOf 37 = .ok (.iaload, 1) := by decide +kernel
theorem dX6_bandOf_38 : decode cX6_bandOf 38 = .ok (.goto 22, 3) := by decide +kernel
theorem dX6_bandOf_41 : decode cX6_bandOf 41 = .ok (.iload_n 2, 1) := by decide +kernel
theorem dX6_bandOf_42 : decode cX6_bandOf 42 = .ok (.iconst 3, 1) := by decide +kernel
theorem dX6_bandOf_43 : decode cX6_bandOf 43 = .ok (.if_icmp .ne 11, 3) := by decide +kernel
theorem dX6_bandOf_46 : decode cX6_bandOf 46 = .ok (.aload_n 0, 1) := by decide +kernel
theorem dX6_bandOf_47 : decode cX6_bandOf 47 = .ok (.iload_n 1, 1) := by decide +kernel
theorem dX6_bandOf_48 : decode cX6_bandOf 48 = .ok (.invokevirtual 176, 3) := by decide +kernel
theorem dX6_bandOf_51 : decode cX6_bandOf 51 = .ok (.goto 9, 3) := by decide +kernel
theorem dX6_bandOf_54 : decode cX6_bandOf 54 = .ok (.aload_n 0, 1) := by decide +kernel
theorem dX6_bandOf_55 : decode cX6_bandOf 55 = .ok (.getfield 40, 3) := by decide +kernel
theorem dX6_bandOf_58 : decode cX6_bandOf 58 = .ok (.iload_n 1, 1) := by decide +kernel
theorem dX6_bandOf_59 : decode cX6_bandOf 59 = .ok (.iaload, 1) := by decide +kernel
theorem dX6_bandOf_60 : decode cX6_bandOf 60 = .ok (.ireturn, 1) := by decide +kernel
theorem dX6_band_0 : decode cX6_band 0 = .ok (.aload_n 0, 1) := by decide +kernel
theorem dX6_band_1 : decode cX6_band 1 = .ok (.iload_n 1, 1) := by decide +kernel
theorem dX6_band_2 : decode cX6_band 2 = .ok (.invokevirtual 179, 3) := by decide +kernel
theorem dX6_band_5 : decode cX6_band 5 = .ok (.ifCond .eq 26, 3) := by decide +kernel
theorem dX6_band_8 : decode cX6_band 8 = .ok (.iload_n 2, 1) := by decide +kernel
theorem dX6_band_9 : decode cX6_band 9 = .ok (.iconst 0, 1) := by decide +kernel
theorem dX6_band_10 : decode cX6_band 10 = .ok (.iconst 4, 1) := by decide +kernel
theorem dX6_band_11 : decode cX6_band 11 = .ok (.invokestatic 92, 3) := by decide +kernel
theorem dX6_band_14 : decode cX6_band 14 = .ok (.ifCond .eq 17, 3) := by decide +kernel
theorem dX6_band_17 : decode cX6_band 17 = .ok (.aload_n 0, 1) := by decide +kernel
theorem dX6_band_18 : decode cX6_band 18 = .ok (.aload_n 0, 1) := by decide +kernel
theorem dX6_band_19 : decode cX6_band 19 = .ok (.iload_n 1, 1) := by decide +kernel
theorem dX6_band_20 : decode cX6_band 20 = .ok (.iload_n 2, 1) := by decide +kernel
theorem dX6_band_21 : decode cX6_band 21 = .ok (.invokevirtual 182, 3) := by decide +kernel
theorem dX6_band_24 : decode cX6_band 24 = .ok (.iconst 1, 1) := by decide +kernel
theorem dX6_band_25 : decode cX6_band 25 = .ok (.invokevirtual 118, 3) := by decide +kernel
theorem dX6_band_28 : decode cX6_band 28 = .ok (.goto 4, 3) := by decide +kernel
theorem dX6_band_31 : decode cX6_band 31 = .ok (.iconst (-1), 1) := by decide +kernel
theorem dX6_band_32 : decode cX6_band 32 = .ok (.ireturn, 1) := by decide +kernel
theorem dX6_inchesOf_0 : decode cX6_inchesOf 0 = .ok (.aload_n 0, 1) := by decide +kernel
theorem dX6_inchesOf_1 : decode cX6_inchesOf 1 = .ok (.getfield 28, 3) := by decide +kernel
theorem dX6_inchesOf_4 : decode cX6_inchesOf 4 = .ok (.iload_n 2, 1) := by decide +kernel
theorem dX6_inchesOf_5 : decode cX6_inchesOf 5 = .ok (.iaload, 1) := by decide +kernel
theorem dX6_inchesOf_6 : decode cX6_inchesOf 6 = .ok (.istore_n 3, 1) := by decide +kernel
theorem dX6_inchesOf_7 : decode cX6_inchesOf 7 = .ok (.aload_n 0, 1) := by decide +kernel
theorem dX6_inchesOf_8 : decode cX6_inchesOf 8 = .ok (.iload_n 1, 1) := by decide +kernel
theorem dX6_inchesOf_9 : decode cX6_inchesOf 9 = .ok (.iload_n 2, 1) := by decide +kernel
theorem dX6_inchesOf_10 : decode cX6_inchesOf 10 = .ok (.invokevirtual 172, 3) := by decide +kernel
theorem dX6_inchesOf_13 : decode cX6_inchesOf 13 = .ok (.ifCond .eq 48, 3) := by decide +kernel
theorem dX6_inchesOf_16 : decode cX6_inchesOf 16 = .ok (.aload_n 0, 1) := by decide +kernel
theorem dX6_inchesOf_17 : decode cX6_inchesOf 17 = .ok (.getfield 157, 3) := by decide +kernel
theorem dX6_inchesOf_20 : decode cX6_inchesOf 20 = .ok (.iload_n 2, 1) := by decide +kernel
theorem dX6_inchesOf_21 : decode cX6_inchesOf 21 = .ok (.invokestatic 185, 3) := by decide +kernel
theorem dX6_inchesOf_24 : decode cX6_inchesOf 24 = .ok (.ifCond .ne 37, 3) := by decide +kernel
theorem dX6_inchesOf_27 : decode cX6_inchesOf 27 = .ok (.aload_n 0, 1) := by decide +kernel
theorem dX6_inchesOf_28 : decode cX6_inchesOf 28 = .ok (.getfield 31, 3) := by decide +kernel
theorem dX6_inchesOf_31 : decode cX6_inchesOf 31 = .ok (.iload_n 1, 1) := by decide +kernel
theorem dX6_inchesOf_32 : decode cX6_inchesOf 32 = .ok (.iaload, 1) := by decide +kernel
theorem dX6_inchesOf_33 : decode cX6_inchesOf 33 = .ok (.iconst 3, 1) := by decide +kernel
theorem dX6_inchesOf_34 : decode cX6_inchesOf 34 = .ok (.if_icmp .ne 13, 3) := by decide +kernel
theorem dX6_inchesOf_37 : decode cX6_inchesOf 37 = .ok (.iload_n 2, 1) := by decide +kernel
theorem dX6_inchesOf_38 : decode cX6_inchesOf 38 = .ok (.aload_n 0, 1) := by decide +kernel
theorem dX6_inchesOf_39 : decode cX6_inchesOf 39 = .ok (.getfield 34, 3) := by decide +kernel
theorem dX6_inchesOf_42 : decode cX6_inchesOf 42 = .ok (.iload_n 1, 1) := by decide +kernel
theorem dX6_inchesOf_43 : decode cX6_inchesOf 43 = .ok (.iaload, 1) := by decide +kernel
theorem dX6_inchesOf_44 : decode cX6_inchesOf 44 = .ok (.if_icmp .lt 17, 3) := by decide +kernel
theorem dX6_inchesOf_47 : decode cX6_inchesOf 47 = .ok (.aload_n 0, 1) := by decide +kernel
theorem dX6_inchesOf_48 : decode cX6_inchesOf 48 = .ok (.iload_n 1, 1) := by decide +kernel
theorem dX6_inchesOf_49 : decode cX6_inchesOf 49 = .ok (.iconst 2, 1) := by decide +kernel
theorem dX6_inchesOf_50 : decode cX6_inchesOf 50 = .ok (.invokevirtual 188, 3) := by decide +kernel
theorem dX6_inchesOf_53 : decode cX6_inchesOf 53 = .ok (.ifCond .eq 10, 3) := by decide +kernel
theorem dX6_inchesOf_56 : decode cX6_inchesOf 56 = .ok (.iload_n 3, 1) := by decide +kernel
theorem dX6_inchesOf_57 : decode cX6_inchesOf 57 = .ok (.iconst 2, 1) := by decide +kernel
theorem dX6_inchesOf_58 : decode cX6_inchesOf 58 = .ok (.if_icmp .ge 5, 3) := by decide +kernel
theorem dX6_inchesOf_61 : decode cX6_inchesOf 61 = .ok (.iconst 0, 1) := by decide +kernel
theorem dX6_inchesOf_62 : decode cX6_inchesOf 62 = .ok (.ireturn, 1) := by decide +kernel
theorem dX6_inchesOf_63 : decode cX6_inchesOf 63 = .ok (.aload_n 0, 1) := by decide +kernel
theorem dX6_inchesOf_64 : decode cX6_inchesOf 64 = .ok (.iload_n 1, 1) := by decide +kernel
theorem dX6_inchesOf_65 : decode cX6_inchesOf 65 = .ok (.iconst 1, 1) := by decide +kernel
theorem dX6_inchesOf_66 : decode cX6_inchesOf 66 = .ok (.invokevirtual 188, 3) := by decide +kernel
theorem dX6_inchesOf_69 : decode cX6_inchesOf 69 = .ok (.ifCond .eq 7, 3) := by decide +kernel
theorem dX6_inchesOf_72 : decode cX6_inchesOf 72 = .ok (.iconst 2, 1) := by decide +kernel
theorem dX6_inchesOf_73 : decode cX6_inchesOf 73 = .ok (.goto 4, 3) := by decide +kernel
theorem dX6_inchesOf_76 : decode cX6_inchesOf 76 = .ok (.iconst 1, 1) := by decide +kernel
theorem dX6_inchesOf_77 : decode cX6_inchesOf 77 = .ok (.istore 4, 2) := by decide +kernel
theorem dX6_inchesOf_79 : decode cX6_inchesOf 79 = .ok (.iload_n 3, 1) := by decide +kernel
theorem dX6_inchesOf_80 : decode cX6_inchesOf 80 = .ok (.iload 4, 2) := by decide +kernel
theorem dX6_inchesOf_82 : decode cX6_inchesOf 82 = .ok (.if_icmp .ge 7, 3) := by decide +kernel
theorem dX6_inchesOf_85 : decode cX6_inchesOf 85 = .ok (.iload_n 3, 1) := by decide +kernel
theorem dX6_inchesOf_86 : decode cX6_inchesOf 86 = .ok (.goto 5, 3) := by decide +kernel
theorem dX6_inchesOf_89 : decode cX6_inchesOf 89 = .ok (.iload 4, 2) := by decide +kernel
theorem dX6_inchesOf_91 : decode cX6_inchesOf 91 = .ok (.ireturn, 1) := by decide +kernel
theorem dX6_goSpot_0 : decode cX6_goSpot 0 = .ok (.aload_n 0, 1) := by decide +kernel
theorem dX6_goSpot_1 : decode cX6_goSpot 1 = .ok (.iload_n 2, 1) := by decide +kernel
theorem dX6_goSpot_2 : decode cX6_goSpot 2 = .ok (.invokevirtual 163, 3) := by decide +kernel
theorem dX6_goSpot_5 : decode cX6_goSpot 5 = .ok (.ifCond .ne 5, 3) := by decide +kernel
theorem dX6_goSpot_8 : decode cX6_goSpot 8 = .ok (.iconst 0, 1) := by decide +kernel
theorem dX6_goSpot_9 : decode cX6_goSpot 9 = .ok (.ireturn, 1) := by decide +kernel
theorem dX6_goSpot_10 : decode cX6_goSpot 10 = .ok (.iload_n 2, 1) := by decide +kernel
theorem dX6_goSpot_11 : decode cX6_goSpot 11 = .ok (.aload_n 0, 1) := by decide +kernel
theorem dX6_goSpot_12 : decode cX6_goSpot 12 = .ok (.getfield 34, 3) := by decide +kernel
theorem dX6_goSpot_15 : decode cX6_goSpot 15 = .ok (.iload_n 1, 1) := by decide +kernel
theorem dX6_goSpot_16 : decode cX6_goSpot 16 = .ok (.iaload, 1) := by decide +kernel
theorem dX6_goSpot_17 : decode cX6_goSpot 17 = .ok (.if_icmp .ge 7, 3) := by decide +kernel
theorem dX6_goSpot_20 : decode cX6_goSpot 20 = .ok (.iconst 1, 1) := by decide +kernel
theorem dX6_goSpot_21 : decode cX6_goSpot 21 = .ok (.goto 4, 3) := by decide +kernel
theorem dX6_goSpot_24 : decode cX6_goSpot 24 = .ok (.iconst (-1), 1) := by decide +kernel
theorem dX6_goSpot_25 : decode cX6_goSpot 25 = .ok (.istore 4, 2) := by decide +kernel
theorem dX6_goSpot_27 : decode cX6_goSpot 27 = .ok (.iload_n 3, 1) := by decide +kernel
theorem dX6_goSpot_28 : decode cX6_goSpot 28 = .ok (.ifCond .eq 10, 3) := by decide +kernel
theorem dX6_goSpot_31 : decode cX6_goSpot 31 = .ok (.iload_n 2, 1) := by decide +kernel
theorem dX6_goSpot_32 : decode cX6_goSpot 32 = .ok (.iload 4, 2) := by decide +kernel
theorem dX6_goSpot_34 : decode cX6_goSpot 34 = .ok (.iadd, 1) := by decide +kernel
theorem dX6_goSpot_35 : decode cX6_goSpot 35 = .ok (.goto 7, 3) := by decide +kernel
theorem dX6_goSpot_38 : decode cX6_goSpot 38 = .ok (.iload_n 2, 1) := by decide +kernel
theorem dX6_goSpot_39 : decode cX6_goSpot 39 = .ok (.iload 4, 2) := by decide +kernel
theorem dX6_goSpot_41 : decode cX6_goSpot 41 = .ok (.isub, 1) := by decide +kernel
theorem dX6_goSpot_42 : decode cX6_goSpot 42 = .ok (.istore 5, 2) := by decide +kernel
theorem dX6_goSpot_44 : decode cX6_goSpot 44 = .ok (.aload_n 0, 1) := by decide +kernel
theorem dX6_goSpot_45 : decode cX6_goSpot 45 = .ok (.iload 5, 2) := by decide +kernel
theorem dX6_goSpot_47 : decode cX6_goSpot 47 = .ok (.invokevirtual 163, 3) := by decide +kernel
theorem dX6_goSpot_50 : decode cX6_goSpot 50 = .ok (.ifCond .eq 12, 3) := by decide +kernel
theorem dX6_goSpot_53 : decode cX6_goSpot 53 = .ok (.aload_n 0, 1) := by decide +kernel
theorem dX6_goSpot_54 : decode cX6_goSpot 54 = .ok (.iload_n 1, 1) := by decide +kernel
theorem dX6_goSpot_55 : decode cX6_goSpot 55 = .ok (.iload_n 2, 1) := by decide +kernel
theorem dX6_goSpot_56 : decode cX6_goSpot 56 = .ok (.invokevirtual 191, 3) := by decide +kernel
theorem dX6_goSpot_59 : decode cX6_goSpot 59 = .ok (.goto 4, 3) := by decide +kernel
theorem dX6_goSpot_62 : decode cX6_goSpot 62 = .ok (.iconst 0, 1) := by decide +kernel
theorem dX6_goSpot_63 : decode cX6_goSpot 63 = .ok (.istore 6, 2) := by decide +kernel
theorem dX6_goSpot_65 : decode cX6_goSpot 65 = .ok (.iload 6, 2) := by decide +kernel
theorem dX6_goSpot_67 : decode cX6_goSpot 67 = .ok (.ifCond .le 26, 3) := by decide +kernel
theorem dX6_goSpot_70 : decode cX6_goSpot 70 = .ok (.aload_n 0, 1) := by decide +kernel
theorem dX6_goSpot_71 : decode cX6_goSpot 71 = .ok (.getfield 28, 3) := by decide +kernel
theorem dX6_goSpot_74 : decode cX6_goSpot 74 = .ok (.iload_n 2, 1) := by decide +kernel
theorem dX6_goSpot_75 : decode cX6_goSpot 75 = .ok (.dup2, 1) := by decide +kernel
theorem dX6_goSpot_76 : decode cX6_goSpot 76 = .ok (.iaload, 1) := by decide +kernel
theorem dX6_goSpot_77 : decode cX6_goSpot 77 = .ok (.iload 6, 2) := by decide +kernel
theorem dX6_goSpot_79 : decode cX6_goSpot 79 = .ok (.isub, 1) := by decide +kernel
theorem dX6_goSpot_80 : decode cX6_goSpot 80 = .ok (.iastore, 1) := by decide +kernel
theorem dX6_goSpot_81 : decode cX6_goSpot 81 = .ok (.aload_n 0, 1) := by decide +kernel
theorem dX6_goSpot_82 : decode cX6_goSpot 82 = .ok (.getfield 28, 3) := by decide +kernel
theorem dX6_goSpot_85 : decode cX6_goSpot 85 = .ok (.iload 5, 2) := by decide +kernel
theorem dX6_goSpot_87 : decode cX6_goSpot 87 = .ok (.dup2, 1) := by decide +kernel
theorem dX6_goSpot_88 : decode cX6_goSpot 88 = .ok (.iaload, 1) := by decide +kernel
theorem dX6_goSpot_89 : decode cX6_goSpot 89 = .ok (.iload 6, 2) := by decide +kernel
theorem dX6_goSpot_91 : decode cX6_goSpot 91 = .ok (.iadd, 1) := by decide +kernel
theorem dX6_goSpot_92 : decode cX6_goSpot 92 = .ok (.iastore, 1) := by decide +kernel
theorem dX6_goSpot_93 : decode cX6_goSpot 93 = .ok (.iload 6, 2) := by decide +kernel
theorem dX6_goSpot_95 : decode cX6_goSpot 95 = .ok (.ireturn, 1) := by decide +kernel
theorem dX6_play_0 : decode cX6_play 0 = .ok (.iload_n 2, 1) := by decide +kernel
theorem dX6_play_1 : decode cX6_play 1 = .ok (.ifCond .ne 5, 3) := by decide +kernel
theorem dX6_play_4 : decode cX6_play 4 = .ok (.iconst 0, 1) := by decide +kernel
theorem dX6_play_5 : decode cX6_play 5 = .ok (.ireturn, 1) := by decide +kernel
theorem dX6_play_6 : decode cX6_play 6 = .ok (.iload_n 2, 1) := by decide +kernel
theorem dX6_play_7 : decode cX6_play 7 = .ok (.iconst 1, 1) := by decide +kernel
theorem dX6_play_8 : decode cX6_play 8 = .ok (.if_icmp .ne 7, 3) := by decide +kernel
theorem dX6_play_11 : decode cX6_play 11 = .ok (.iconst 1, 1) := by decide +kernel
theorem dX6_play_12 : decode cX6_play 12 = .ok (.goto 4, 3) := by decide +kernel
theorem dX6_play_15 : decode cX6_play 15 = .ok (.iconst 0, 1) := by decide +kernel
theorem dX6_play_16 : decode cX6_play 16 = .ok (.aload_n 0, 1) := by decide +kernel
theorem dX6_play_17 : decode cX6_play 17 = .ok (.getfield 31, 3) := by decide +kernel
theorem dX6_play_20 : decode cX6_play 20 = .ok (.iload_n 1, 1) := by decide +kernel
theorem dX6_play_21 : decode cX6_play 21 = .ok (.iaload, 1) := by decide +kernel
theorem dX6_play_22 : decode cX6_play 22 = .ok (.iconst 5, 1) := by decide +kernel
theorem dX6_play_23 : decode cX6_play 23 = .ok (.if_icmp .ne 7, 3) := by decide +kernel
theorem dX6_play_26 : decode cX6_play 26 = .ok (.iconst 1, 1) := by decide +kernel
theorem dX6_play_27 : decode cX6_play 27 = .ok (.goto 4, 3) := by decide +kernel
theorem dX6_play_30 : decode cX6_play 30 = .ok (.iconst 0, 1) := by decide +kernel
theorem dX6_play_31 : decode cX6_play 31 = .ok (.if_icmp .eq 7, 3) := by decide +kernel
theorem dX6_play_34 : decode cX6_play 34 = .ok (.iconst 1, 1) := by decide +kernel
theorem dX6_play_35 : decode cX6_play 35 = .ok (.goto 4, 3) := by decide +kernel
theorem dX6_play_38 : decode cX6_play 38 = .ok (.iconst 0, 1) := by decide +kernel
theorem dX6_play_39 : decode cX6_play 39 = .ok (.istore_n 3, 1) := by decide +kernel
theorem dX6_play_40 : decode cX6_play 40 = .ok (.iconst 0, 1) := by decide +kernel
theorem dX6_play_41 : decode cX6_play 41 = .ok (.istore 4, 2) := by decide +kernel
theorem dX6_play_43 : decode cX6_play 43 = .ok (.iconst 1, 1) := by decide +kernel
theorem dX6_play_44 : decode cX6_play 44 = .ok (.istore 5, 2) := by decide +kernel
theorem dX6_play_46 : decode cX6_play 46 = .ok (.iload 5, 2) := by decide +kernel
theorem dX6_play_48 : decode cX6_play 48 = .ok (.bipush 10, 2) := by decide +kernel
theorem dX6_play_50 : decode cX6_play 50 = .ok (.if_icmp .ge 65, 3) := by decide +kernel
theorem dX6_play_53 : decode cX6_play 53 = .ok (.iload_n 3, 1) := by decide +kernel
theorem dX6_play_54 : decode cX6_play 54 = .ok (.ifCond .eq 8, 3) := by decide +kernel
theorem dX6_play_57 : decode cX6_play 57 = .ok (.iload 5, 2) := by decide +kernel
theorem dX6_play_59 : decode cX6_play 59 = .ok (.goto 8, 3) := by decide +kernel
theorem dX6_play_62 : decode cX6_play 62 = .ok (.bipush 10, 2) := by decide +kernel
theorem dX6_play_64 : decode cX6_play 64 = .ok (.iload 5, 2) := by decide +kernel
theorem dX6_play_66 : decode cX6_play 66 = .ok (.isub, 1) := by decide +kernel
theorem dX6_play_67 : decode cX6_play 67 = .ok (.istore 6, 2) := by decide +kernel
theorem dX6_play_69 : decode cX6_play 69 = .ok (.iload 4, 2) := by decide +kernel
theorem dX6_play_71 : decode cX6_play 71 = .ok (.aload_n 0, 1) := by decide +kernel
theorem dX6_play_72 : decode cX6_play 72 = .ok (.iload_n 1, 1) := by decide +kernel
theorem dX6_play_73 : decode cX6_play 73 = .ok (.aload_n 0, 1) := by decide +kernel
theorem dX6_play_74 : decode cX6_play 74 = .ok (.getfield 34, 3) := by decide +kernel
theorem dX6_play_77 : decode cX6_play 77 = .ok (.iload_n 1, 1) := by decide +kernel
theorem dX6_play_78 : decode cX6_play 78 = .ok (.iaload, 1) := by decide +kernel
theorem dX6_play_79 : decode cX6_play 79 = .ok (.iload 6, 2) := by decide +kernel
theorem dX6_play_81 : decode cX6_play 81 = .ok (.isub, 1) := by decide +kernel
theorem dX6_play_82 : decode cX6_play 82 = .ok (.iload_n 3, 1) := by decide +kernel
theorem dX6_play_83 : decode cX6_play 83 = .ok (.invokevirtual 194, 3) := by decide +kernel
theorem dX6_play_86 : decode cX6_play 86 = .ok (.iadd, 1) := by decide +kernel
theorem dX6_play_87 : decode cX6_play 87 = .ok (.istore 4, 2) := by decide +kernel
theorem dX6_play_89 : decode cX6_play 89 = .ok (.iload 4, 2) := by decide +kernel
theorem dX6_play_91 : decode cX6_play 91 = .ok (.aload_n 0, 1) := by decide +kernel
theorem dX6_play_92 : decode cX6_play 92 = .ok (.iload_n 1, 1) := by decide +kernel
theorem dX6_play_93 : decode cX6_play 93 = .ok (.aload_n 0, 1) := by decide +kernel
theorem dX6_play_94 : decode cX6_play 94 = .ok (.getfield 34, 3) := by decide +kernel
theorem dX6_play_97 : decode cX6_play 97 = .ok (.iload_n 1, 1) := by decide +kernel
theorem dX6_play_98 : decode cX6_play 98 = .ok (.iaload, 1) := by decide +kernel
theorem dX6_play_99 : decode cX6_play 99 = .ok (.iload 6, 2) := by decide +kernel
theorem dX6_play_101 : decode cX6_play 101 = .ok (.iadd, 1) := by decide +kernel
theorem dX6_play_102 : decode cX6_play 102 = .ok (.iload_n 3, 1) := by decide +kernel
theorem dX6_play_103 : decode cX6_play 103 = .ok (.invokevirtual 194, 3) := by decide +kernel
theorem dX6_play_106 : decode cX6_play 106 = .ok (.iadd, 1) := by decide +kernel
theorem dX6_play_107 : decode cX6_play 107 = .ok (.istore 4, 2) := by decide +kernel
theorem dX6_play_109 : decode cX6_play 109 = .ok (.iinc 5 1, 3) := by decide +kernel
theorem dX6_play_112 : decode cX6_play 112 = .ok (.goto (-66), 3) := by decide +kernel
theorem dX6_play_115 : decode cX6_play 115 = .ok (.iload 4, 2) := by decide +kernel
theorem dX6_play_117 : decode cX6_play 117 = .ok (.ireturn, 1) := by decide +kernel
theorem dX6_programs_0 : decode cX6_programs 0 = .ok (.iconst 1, 1) := by decide +kernel
theorem dX6_programs_1 : decode cX6_programs 1 = .ok (.istore_n 1, 1) := by decide +kernel
theorem dX6_programs_2 : decode cX6_programs 2 = .ok (.iconst 0, 1) := by decide +kernel
theorem dX6_programs_3 : decode cX6_programs 3 = .ok (.istore_n 2, 1) := by decide +kernel
theorem dX6_programs_4 : decode cX6_programs 4 = .ok (.iload_n 2, 1) := by decide +kernel
theorem dX6_programs_5 : decode cX6_programs 5 = .ok (.aload_n 0, 1) := by decide +kernel
theorem dX6_programs_6 : decode cX6_programs 6 = .ok (.getfield 154, 3) := by decide +kernel
theorem dX6_programs_9 : decode cX6_programs 9 = .ok (.if_icmp .ge 13, 3) := by decide +kernel
theorem dX6_programs_12 : decode cX6_programs 12 = .ok (.iload_n 1, 1) := by decide +kernel
theorem dX6_programs_13 : decode cX6_programs 13 = .ok (.iconst 3, 1) := by decide +kernel
theorem dX6_programs_14 : decode cX6_programs 14 = .ok (.imul, 1) := by decide +kernel
theorem dX6_programs_15 : decode cX6_programs 15 = .ok (.istore_n 1, 1) := by decide +kernel
theorem dX6_programs_16 : decode cX6_programs 16 = .ok (.iinc 2 1, 3) := by decide +kernel
theorem dX6_programs_19 : decode cX6_programs 19 = .ok (.goto (-15), 3) := by decide +kernel
theorem dX6_programs_22 : decode cX6_programs 22 = .ok (.iload_n 1, 1) := by decide +kernel
theorem dX6_programs_23 : decode cX6_programs 23 = .ok (.ireturn, 1) := by decide +kernel
theorem dX6_tuneOf_0 : decode cX6_tuneOf 0 = .ok (.iload_n 1, 1) := by decide +kernel
theorem dX6_tuneOf_1 : decode cX6_tuneOf 1 = .ok (.ifCond .ne 9, 3) := by decide +kernel
theorem dX6_tuneOf_4 : decode cX6_tuneOf 4 = .ok (.iload_n 0, 1) := by decide +kernel
theorem dX6_tuneOf_5 : decode cX6_tuneOf 5 = .ok (.iconst 3, 1) := by decide +kernel
theorem dX6_tuneOf_6 : decode cX6_tuneOf 6 = .ok (.irem, 1) := by decide +kernel
theorem dX6_tuneOf_7 : decode cX6_tuneOf 7 = .ok (.goto 22, 3) := by decide +kernel
theorem dX6_tuneOf_10 : decode cX6_tuneOf 10 = .ok (.iload_n 1, 1) := by decide +kernel
theorem dX6_tuneOf_11 : decode cX6_tuneOf 11 = .ok (.iconst 1, 1) := by decide +kernel
theorem dX6_tuneOf_12 : decode cX6_tuneOf 12 = .ok (.if_icmp .ne 11, 3) := by decide +kernel
theorem dX6_tuneOf_15 : decode cX6_tuneOf 15 = .ok (.iload_n 0, 1) := by decide +kernel
theorem dX6_tuneOf_16 : decode cX6_tuneOf 16 = .ok (.iconst 3, 1) := by decide +kernel
theorem dX6_tuneOf_17 : decode cX6_tuneOf 17 = .ok (.idiv, 1) := by decide +kernel
theorem dX6_tuneOf_18 : decode cX6_tuneOf 18 = .ok (.iconst 3, 1) := by decide +kernel
theorem dX6_tuneOf_19 : decode cX6_tuneOf 19 = .ok (.irem, 1) := by decide +kernel
theorem dX6_tuneOf_20 : decode cX6_tuneOf 20 = .ok (.goto 9, 3) := by decide +kernel
theorem dX6_tuneOf_23 : decode cX6_tuneOf 23 = .ok (.iload_n 0, 1) := by decide +kernel
theorem dX6_tuneOf_24 : decode cX6_tuneOf 24 = .ok (.bipush 9, 2) := by decide +kernel
theorem dX6_tuneOf_26 : decode cX6_tuneOf 26 = .ok (.idiv, 1) := by decide +kernel
theorem dX6_tuneOf_27 : decode cX6_tuneOf 27 = .ok (.iconst 3, 1) := by decide +kernel
theorem dX6_tuneOf_28 : decode cX6_tuneOf 28 = .ok (.irem, 1) := by decide +kernel
theorem dX6_tuneOf_29 : decode cX6_tuneOf 29 = .ok (.ireturn, 1) := by decide +kernel
theorem dX6_breathOf_0 : decode cX6_breathOf 0 = .ok (.iconst 0, 1) := by decide +kernel
theorem dX6_breathOf_1 : decode cX6_breathOf 1 = .ok (.istore_n 2, 1) := by decide +kernel
theorem dX6_breathOf_2 : decode cX6_breathOf 2 = .ok (.iconst 0, 1) := by decide +kernel
theorem dX6_breathOf_3 : decode cX6_breathOf 3 = .ok (.istore_n 3, 1) := by decide +kernel
theorem dX6_breathOf_4 : decode cX6_breathOf 4 = .ok (.iload_n 3, 1) := by decide +kernel
theorem dX6_breathOf_5 : decode cX6_breathOf 5 = .ok (.aload_n 0, 1) := by decide +kernel
theorem dX6_breathOf_6 : decode cX6_breathOf 6 = .ok (.getfield 154, 3) := by decide +kernel
theorem dX6_breathOf_9 : decode cX6_breathOf 9 = .ok (.if_icmp .ge 30, 3) := by decide +kernel
theorem dX6_breathOf_12 : decode cX6_breathOf 12 = .ok (.iload_n 2, 1) := by decide +kernel
theorem dX6_breathOf_13 : decode cX6_breathOf 13 = .ok (.iload_n 1, 1) := by decide +kernel
theorem dX6_breathOf_14 : decode cX6_breathOf 14 = .ok (.iload_n 3, 1) := by decide +kernel
theorem dX6_breathOf_15 : decode cX6_breathOf 15 = .ok (.invokestatic 198, 3) := by decide +kernel
theorem dX6_breathOf_18 : decode cX6_breathOf 18 = .ok (.ifCond .ne 7, 3) := by decide +kernel
theorem dX6_breathOf_21 : decode cX6_breathOf 21 = .ok (.iconst 0, 1) := by decide +kernel
theorem dX6_breathOf_22 : decode cX6_breathOf 22 = .ok (.goto 9, 3) := by decide +kernel
theorem dX6_breathOf_25 : decode cX6_breathOf 25 = .ok (.aload_n 0, 1) := by decide +kernel
theorem dX6_breathOf_26 : decode cX6_breathOf 26 = .ok (.getfield 37, 3) := by decide +kernel
theorem dX6_breathOf_29 : decode cX6_breathOf 29 = .ok (.iload_n 3, 1) := by decide +kernel
theorem dX6_breathOf_30 : decode cX6_breathOf 30 = .ok (.iaload, 1) := by decide +kernel
theorem dX6_breathOf_31 : decode cX6_breathOf 31 = .ok (.iadd, 1) := by decide +kernel
theorem dX6_breathOf_32 : decode cX6_breathOf 32 = .ok (.istore_n 2, 1) := by decide +kernel
theorem dX6_breathOf_33 : decode cX6_breathOf 33 = .ok (.iinc 3 1, 3) := by decide +kernel
theorem dX6_breathOf_36 : decode cX6_breathOf 36 = .ok (.goto (-32), 3) := by decide +kernel
theorem dX6_breathOf_39 : decode cX6_breathOf 39 = .ok (.iload_n 2, 1) := by decide +kernel
theorem dX6_breathOf_40 : decode cX6_breathOf 40 = .ok (.ireturn, 1) := by decide +kernel
theorem dX6_passEvening_0 : decode cX6_passEvening 0 = .ok (.iconst 0, 1) := by decide +kernel
theorem dX6_passEvening_1 : decode cX6_passEvening 1 = .ok (.istore_n 2, 1) := by decide +kernel
theorem dX6_passEvening_2 : decode cX6_passEvening 2 = .ok (.iconst 0, 1) := by decide +kernel
theorem dX6_passEvening_3 : decode cX6_passEvening 3 = .ok (.istore_n 3, 1) := by decide +kernel
theorem dX6_passEvening_4 : decode cX6_passEvening 4 = .ok (.iload_n 3, 1) := by decide +kernel
theorem dX6_passEvening_5 : decode cX6_passEvening 5 = .ok (.aload_n 0, 1) := by decide +kernel
theorem dX6_passEvening_6 : decode cX6_passEvening 6 = .ok (.getfield 154, 3) := by decide +kernel
theorem dX6_passEvening_9 : decode cX6_passEvening 9 = .ok (.if_icmp .ge 37, 3) := by decide +kernel
theorem dX6_passEvening_12 : decode cX6_passEvening 12 = .ok (.aload_n 0, 1) := by decide +kernel
theorem dX6_passEvening_13 : decode cX6_passEvening 13 = .ok (.iload_n 3, 1) := by decide +kernel
theorem dX6_passEvening_14 : decode cX6_passEvening 14 = .ok (.iload_n 1, 1) := by decide +kernel
theorem dX6_passEvening_15 : decode cX6_passEvening 15 = .ok (.iload_n 3, 1) := by decide +kernel
theorem dX6_passEvening_16 : decode cX6_passEvening 16 = .ok (.invokestatic 198, 3) := by decide +kernel
theorem dX6_passEvening_19 : decode cX6_passEvening 19 = .ok (.invokevirtual 201, 3) := by decide +kernel
theorem dX6_passEvening_22 : decode cX6_passEvening 22 = .ok (.istore 4, 2) := by decide +kernel
theorem dX6_passEvening_24 : decode cX6_passEvening 24 = .ok (.aload_n 0, 1) := by decide +kernel
theorem dX6_passEvening_25 : decode cX6_passEvening 25 = .ok (.getfield 40, 3) := by decide +kernel
theorem dX6_passEvening_28 : decode cX6_passEvening 28 = .ok (.iload_n 3, 1) := by decide +kernel
theorem dX6_passEvening_29 : decode cX6_passEvening 29 = .ok (.dup2, 1) := by decide +kernel
theorem dX6_passEvening_30 : decode cX6_passEvening 30 = .ok (.iaload, 1) := by decide +kernel
theorem dX6_passEvening_31 : decode cX6_passEvening 31 = .ok (.iload 4, 2) := by decide +kernel
theorem dX6_passEvening_33 : decode cX6_passEvening 33 = .ok (.iadd, 1) := by decide +kernel
theorem dX6_passEvening_34 : decode cX6_passEvening 34 = .ok (.iastore, 1) := by decide +kernel
theorem dX6_passEvening_35 : decode cX6_passEvening 35 = .ok (.iload_n 2, 1) := by decide +kernel
theorem dX6_passEvening_36 : decode cX6_passEvening 36 = .ok (.iload 4, 2) := by decide +kernel
theorem dX6_passEvening_38 : decode cX6_passEvening 38 = .ok (.iadd, 1) := by decide +kernel
theorem dX6_passEvening_39 : decode cX6_passEvening 39 = .ok (.istore_n 2, 1) := by decide +kernel
theorem dX6_passEvening_40 : decode cX6_passEvening 40 = .ok (.iinc 3 1, 3) := by decide +kernel
theorem dX6_passEvening_43 : decode cX6_passEvening 43 = .ok (.goto (-39), 3) := by decide +kernel
theorem dX6_passEvening_46 : decode cX6_passEvening 46 = .ok (.iload_n 2, 1) := by decide +kernel
theorem dX6_passEvening_47 : decode cX6_passEvening 47 = .ok (.ireturn, 1) := by decide +kernel
theorem dX6_write_0 : decode cX6_write 0 = .ok (.iconst 0, 1) := by decide +kernel
theorem dX6_write_1 : decode cX6_write 1 = .ok (.istore_n 3, 1) := by decide +kernel
theorem dX6_write_2 : decode cX6_write 2 = .ok (.iload_n 3, 1) := by decide +kernel
theorem dX6_write_3 : decode cX6_write 3 = .ok (.bipush 10, 2) := by decide +kernel
theorem dX6_write_5 : decode cX6_write 5 = .ok (.if_icmp .ge 20, 3) := by decide +kernel
theorem dX6_write_8 : decode cX6_write 8 = .ok (.aload_n 1, 1) := by decide +kernel
theorem dX6_write_9 : decode cX6_write 9 = .ok (.iload_n 2, 1) := by decide +kernel
theorem dX6_write_10 : decode cX6_write 10 = .ok (.iload_n 3, 1) := by decide +kernel
theorem dX6_write_11 : decode cX6_write 11 = .ok (.iadd, 1) := by decide +kernel
theorem dX6_write_12 : decode cX6_write 12 = .ok (.aload_n 0, 1) := by decide +kernel
theorem dX6_write_13 : decode cX6_write 13 = .ok (.getfield 28, 3) := by decide +kernel
theorem dX6_write_16 : decode cX6_write 16 = .ok (.iload_n 3, 1) := by decide +kernel
theorem dX6_write_17 : decode cX6_write 17 = .ok (.iaload, 1) := by decide +kernel
theorem dX6_write_18 : decode cX6_write 18 = .ok (.iastore, 1) := by decide +kernel
theorem dX6_write_19 : decode cX6_write 19 = .ok (.iinc 3 1, 3) := by decide +kernel
theorem dX6_write_22 : decode cX6_write 22 = .ok (.goto (-20), 3) := by decide +kernel
theorem dX6_write_25 : decode cX6_write 25 = .ok (.iconst 0, 1) := by decide +kernel
theorem dX6_write_26 : decode cX6_write 26 = .ok (.istore_n 3, 1) := by decide +kernel
theorem dX6_write_27 : decode cX6_write 27 = .ok (.iload_n 3, 1) := by decide +kernel
theorem dX6_write_28 : decode cX6_write 28 = .ok (.iconst 3, 1) := by decide +kernel
theorem dX6_write_29 : decode cX6_write 29 = .ok (.if_icmp .ge 23, 3) := by decide +kernel
theorem dX6_write_32 : decode cX6_write 32 = .ok (.aload_n 1, 1) := by decide +kernel
theorem dX6_write_33 : decode cX6_write 33 = .ok (.iload_n 2, 1) := by decide +kernel
theorem dX6_write_34 : decode cX6_write 34 = .ok (.bipush 10, 2) := by decide +kernel
theorem dX6_write_36 : decode cX6_write 36 = .ok (.iadd, 1) := by decide +kernel
theorem dX6_write_37 : decode cX6_write 37 = .ok (.iload_n 3, 1) := by decide +kernel
theorem dX6_write_38 : decode cX6_write 38 = .ok (.iadd, 1) := by decide +kernel
theorem dX6_write_39 : decode cX6_write 39 = .ok (.aload_n 0, 1) := by decide +kernel
theorem dX6_write_40 : decode cX6_write 40 = .ok (.getfield 40, 3) := by decide +kernel
theorem dX6_write_43 : decode cX6_write 43 = .ok (.iload_n 3, 1) := by decide +kernel
theorem dX6_write_44 : decode cX6_write 44 = .ok (.iaload, 1) := by decide +kernel
theorem dX6_write_45 : decode cX6_write 45 = .ok (.iastore, 1) := by decide +kernel
theorem dX6_write_46 : decode cX6_write 46 = .ok (.iinc 3 1, 3) := by decide +kernel
theorem dX6_write_49 : decode cX6_write 49 = .ok (.goto (-22), 3) := by decide +kernel
theorem dX6_write_52 : decode cX6_write 52 = .ok (.return_, 1) := by decide +kernel
theorem dX6_read_0 : decode cX6_read 0 = .ok (.iconst 0, 1) := by decide +kernel
theorem dX6_read_1 : decode cX6_read 1 = .ok (.istore_n 3, 1) := by decide +kernel
theorem dX6_read_2 : decode cX6_read 2 = .ok (.iload_n 3, 1) := by decide +kernel
theorem dX6_read_3 : decode cX6_read 3 = .ok (.bipush 10, 2) := by decide +kernel
theorem dX6_read_5 : decode cX6_read 5 = .ok (.if_icmp .ge 20, 3) := by decide +kernel
theorem dX6_read_8 : decode cX6_read 8 = .ok (.aload_n 0, 1) := by decide +kernel
theorem dX6_read_9 : decode cX6_read 9 = .ok (.getfield 28, 3) := by decide +kernel
theorem dX6_read_12 : decode cX6_read 12 = .ok (.iload_n 3, 1) := by decide +kernel
theorem dX6_read_13 : decode cX6_read 13 = .ok (.aload_n 1, 1) := by decide +kernel
theorem dX6_read_14 : decode cX6_read 14 = .ok (.iload_n 2, 1) := by decide +kernel
theorem dX6_read_15 : decode cX6_read 15 = .ok (.iload_n 3, 1) := by decide +kernel
theorem dX6_read_16 : decode cX6_read 16 = .ok (.iadd, 1) := by decide +kernel
theorem dX6_read_17 : decode cX6_read 17 = .ok (.iaload, 1) := by decide +kernel
theorem dX6_read_18 : decode cX6_read 18 = .ok (.iastore, 1) := by decide +kernel
theorem dX6_read_19 : decode cX6_read 19 = .ok (.iinc 3 1, 3) := by decide +kernel
theorem dX6_read_22 : decode cX6_read 22 = .ok (.goto (-20), 3) := by decide +kernel
theorem dX6_read_25 : decode cX6_read 25 = .ok (.iconst 0, 1) := by decide +kernel
theorem dX6_read_26 : decode cX6_read 26 = .ok (.istore_n 3, 1) := by decide +kernel
theorem dX6_read_27 : decode cX6_read 27 = .ok (.iload_n 3, 1) := by decide +kernel
theorem dX6_read_28 : decode cX6_read 28 = .ok (.iconst 3, 1) := by decide +kernel
theorem dX6_read_29 : decode cX6_read 29 = .ok (.if_icmp .ge 23, 3) := by decide +kernel
theorem dX6_read_32 : decode cX6_read 32 = .ok (.aload_n 0, 1) := by decide +kernel
theorem dX6_read_33 : decode cX6_read 33 = .ok (.getfield 40, 3) := by decide +kernel
theorem dX6_read_36 : decode cX6_read 36 = .ok (.iload_n 3, 1) := by decide +kernel
theorem dX6_read_37 : decode cX6_read 37 = .ok (.aload_n 1, 1) := by decide +kernel
theorem dX6_read_38 : decode cX6_read 38 = .ok (.iload_n 2, 1) := by decide +kernel
theorem dX6_read_39 : decode cX6_read 39 = .ok (.bipush 10, 2) := by decide +kernel
theorem dX6_read_41 : decode cX6_read 41 = .ok (.iadd, 1) := by decide +kernel
theorem dX6_read_42 : decode cX6_read 42 = .ok (.iload_n 3, 1) := by decide +kernel
theorem dX6_read_43 : decode cX6_read 43 = .ok (.iadd, 1) := by decide +kernel
theorem dX6_read_44 : decode cX6_read 44 = .ok (.iaload, 1) := by decide +kernel
theorem dX6_read_45 : decode cX6_read 45 = .ok (.iastore, 1) := by decide +kernel
theorem dX6_read_46 : decode cX6_read 46 = .ok (.iinc 3 1, 3) := by decide +kernel
theorem dX6_read_49 : decode cX6_read 49 = .ok (.goto (-22), 3) := by decide +kernel
theorem dX6_read_52 : decode cX6_read 52 = .ok (.return_, 1) := by decide +kernel
theorem dX6_wouldMove_0 : decode cX6_wouldMove 0 = .ok (.aload_n 0, 1) := by decide +kernel
theorem dX6_wouldMove_1 : decode cX6_wouldMove 1 = .ok (.aload_n 0, 1) := by decide +kernel
theorem dX6_wouldMove_2 : decode cX6_wouldMove 2 = .ok (.getfield 55, 3) := by decide +kernel
theorem dX6_wouldMove_5 : decode cX6_wouldMove 5 = .ok (.iconst 0, 1) := by decide +kernel
theorem dX6_wouldMove_6 : decode cX6_wouldMove 6 = .ok (.invokevirtual 204, 3) := by decide +kernel
theorem dX6_wouldMove_9 : decode cX6_wouldMove 9 = .ok (.aload_n 0, 1) := by decide +kernel
theorem dX6_wouldMove_10 : decode cX6_wouldMove 10 = .ok (.iload_n 1, 1) := by decide +kernel
theorem dX6_wouldMove_11 : decode cX6_wouldMove 11 = .ok (.iload_n 2, 1) := by decide +kernel
theorem dX6_wouldMove_12 : decode cX6_wouldMove 12 = .ok (.invokevirtual 201, 3) := by decide +kernel
theorem dX6_wouldMove_15 : decode cX6_wouldMove 15 = .ok (.istore_n 3, 1) := by decide +kernel
theorem dX6_wouldMove_16 : decode cX6_wouldMove 16 = .ok (.aload_n 0, 1) := by decide +kernel
theorem dX6_wouldMove_17 : decode cX6_wouldMove 17 = .ok (.aload_n 0, 1) := by decide +kernel
theorem dX6_wouldMove_18 : decode cX6_wouldMove 18 = .ok (.getfield 55, 3) := by decide +kernel
theorem dX6_wouldMove_21 : decode cX6_wouldMove 21 = .ok (.iconst 0, 1) := by decide +kernel
theorem dX6_wouldMove_22 : decode cX6_wouldMove 22 = .ok (.invokevirtual 208, 3) := by decide +kernel
theorem dX6_wouldMove_25 : decode cX6_wouldMove 25 = .ok (.iload_n 3, 1) := by decide +kernel
theorem dX6_wouldMove_26 : decode cX6_wouldMove 26 = .ok (.ireturn, 1) := by decide +kernel
theorem dX6_mark_0 : decode cX6_mark 0 = .ok (.aload_n 0, 1) := by decide +kernel
theorem dX6_mark_1 : decode cX6_mark 1 = .ok (.iload_n 1, 1) := by decide +kernel
theorem dX6_mark_2 : decode cX6_mark 2 = .ok (.invokevirtual 179, 3) := by decide +kernel
theorem dX6_mark_5 : decode cX6_mark 5 = .ok (.ifCond .eq 12, 3) := by decide +kernel
theorem dX6_mark_8 : decode cX6_mark 8 = .ok (.iload_n 2, 1) := by decide +kernel
theorem dX6_mark_9 : decode cX6_mark 9 = .ok (.iconst 1, 1) := by decide +kernel
theorem dX6_mark_10 : decode cX6_mark 10 = .ok (.iconst 5, 1) := by decide +kernel
theorem dX6_mark_11 : decode cX6_mark 11 = .ok (.invokestatic 92, 3) := by decide +kernel
theorem dX6_mark_14 : decode cX6_mark 14 = .ok (.ifCond .ne 5, 3) := by decide +kernel
theorem dX6_mark_17 : decode cX6_mark 17 = .ok (.iconst (-1), 1) := by decide +kernel
theorem dX6_mark_18 : decode cX6_mark 18 = .ok (.ireturn, 1) := by decide +kernel
theorem dX6_mark_19 : decode cX6_mark 19 = .ok (.aload_n 0, 1) := by decide +kernel
theorem dX6_mark_20 : decode cX6_mark 20 = .ok (.iload_n 1, 1) := by decide +kernel
theorem dX6_mark_21 : decode cX6_mark 21 = .ok (.iload_n 2, 1) := by decide +kernel
theorem dX6_mark_22 : decode cX6_mark 22 = .ok (.invokevirtual 188, 3) := by decide +kernel
theorem dX6_mark_25 : decode cX6_mark 25 = .ok (.ifCond .ne 9, 3) := by decide +kernel
theorem dX6_mark_28 : decode cX6_mark 28 = .ok (.aload_n 0, 1) := by decide +kernel
theorem dX6_mark_29 : decode cX6_mark 29 = .ok (.iconst 3, 1) := by decide +kernel
theorem dX6_mark_30 : decode cX6_mark 30 = .ok (.invokevirtual 100, 3) := by decide +kernel
theorem dX6_mark_33 : decode cX6_mark 33 = .ok (.ireturn, 1) := by decide +kernel
theorem dX6_mark_34 : decode cX6_mark 34 = .ok (.iconst 0, 1) := by decide +kernel
theorem dX6_mark_35 : decode cX6_mark 35 = .ok (.istore_n 3, 1) := by decide +kernel
theorem dX6_mark_36 : decode cX6_mark 36 = .ok (.iconst 0, 1) := by decide +kernel
theorem dX6_mark_37 : decode cX6_mark 37 = .ok (.istore 4, 2) := by decide +kernel
theorem dX6_mark_39 : decode cX6_mark 39 = .ok (.iload 4, 2) := by decide +kernel
theorem dX6_mark_41 : decode cX6_mark 41 = .ok (.aload_n 0, 1) := by decide +kernel
theorem dX6_mark_42 : decode cX6_mark 42 = .ok (.getfield 151, 3) := by decide +kernel
theorem dX6_mark_45 : decode cX6_mark 45 = .ok (.if_icmp .ge 38, 3) := by decide +kernel
theorem dX6_mark_48 : decode cX6_mark 48 = .ok (.iload_n 3, 1) := by decide +kernel
theorem dX6_mark_49 : decode cX6_mark 49 = .ok (.aload_n 0, 1) := by decide +kernel
theorem dX6_mark_50 : decode cX6_mark 50 = .ok (.iload_n 1, 1) := by decide +kernel
theorem dX6_mark_51 : decode cX6_mark 51 = .ok (.iload 4, 2) := by decide +kernel
theorem dX6_mark_53 : decode cX6_mark 53 = .ok (.invokevirtual 172, 3) := by decide +kernel
theorem dX6_mark_56 : decode cX6_mark 56 = .ok (.ifCond .eq 18, 3) := by decide +kernel
theorem dX6_mark_59 : decode cX6_mark 59 = .ok (.aload_n 0, 1) := by decide +kernel
theorem dX6_mark_60 : decode cX6_mark 60 = .ok (.getfield 28, 3) := by decide +kernel
theorem dX6_mark_63 : decode cX6_mark 63 = .ok (.iload 4, 2) := by decide +kernel
theorem dX6_mark_65 : decode cX6_mark 65 = .ok (.iaload, 1) := by decide +kernel
theorem dX6_mark_66 : decode cX6_mark 66 = .ok (.iconst 2, 1) := by decide +kernel
theorem dX6_mark_67 : decode cX6_mark 67 = .ok (.if_icmp .ge 7, 3) := by decide +kernel
theorem dX6_mark_70 : decode cX6_mark 70 = .ok (.iconst 1, 1) := by decide +kernel
theorem dX6_mark_71 : decode cX6_mark 71 = .ok (.goto 4, 3) := by decide +kernel
theorem dX6_mark_74 : decode cX6_mark 74 = .ok (.iconst 0, 1) := by decide +kernel
theorem dX6_mark_75 : decode cX6_mark 75 = .ok (.iadd, 1) := by decide +kernel
theorem dX6_mark_76 : decode cX6_mark 76 = .ok (.istore_n 3, 1) := by decide +kernel
theorem dX6_mark_77 : decode cX6_mark 77 = .ok (.iinc 4 1, 3) := by decide +kernel
theorem dX6_mark_80 : decode cX6_mark 80 = .ok (.goto (-41), 3) := by decide +kernel
theorem dX6_mark_83 : decode cX6_mark 83 = .ok (.iload_n 2, 1) := by decide +kernel
theorem dX6_mark_84 : decode cX6_mark 84 = .ok (.iconst 1, 1) := by decide +kernel
theorem dX6_mark_85 : decode cX6_mark 85 = .ok (.if_icmp .ne 12, 3) := by decide +kernel
theorem dX6_mark_88 : decode cX6_mark 88 = .ok (.aload_n 0, 1) := by decide +kernel
theorem dX6_mark_89 : decode cX6_mark 89 = .ok (.iload_n 1, 1) := by decide +kernel
theorem dX6_mark_90 : decode cX6_mark 90 = .ok (.iconst 1, 1) := by decide +kernel
theorem dX6_mark_91 : decode cX6_mark 91 = .ok (.invokevirtual 211, 3) := by decide +kernel
theorem dX6_mark_94 : decode cX6_mark 94 = .ok (.goto 53, 3) := by decide +kernel
theorem dX6_mark_97 : decode cX6_mark 97 = .ok (.iload_n 2, 1) := by decide +kernel
theorem dX6_mark_98 : decode cX6_mark 98 = .ok (.iconst 2, 1) := by decide +kernel
theorem dX6_mark_99 : decode cX6_mark 99 = .ok (.if_icmp .ne 7, 3) := by decide +kernel
theorem dX6_mark_102 : decode cX6_mark 102 = .ok (.iload_n 3, 1) := by decide +kernel
theorem dX6_mark_103 : decode cX6_mark 103 = .ok (.goto 44, 3) := by decide +kernel
theorem dX6_mark_106 : decode cX6_mark 106 = .ok (.iload_n 2, 1) := by decide +kernel
theorem dX6_mark_107 : decode cX6_mark 107 = .ok (.iconst 3, 1) := by decide +kernel
theorem dX6_mark_108 : decode cX6_mark 108 = .ok (.if_icmp .ne 19, 3) := by decide +kernel
theorem dX6_mark_111 : decode cX6_mark 111 = .ok (.aload_n 0, 1) := by decide +kernel
theorem dX6_mark_112 : decode cX6_mark 112 = .ok (.getfield 151, 3) := by decide +kernel
theorem dX6_mark_115 : decode cX6_mark 115 = .ok (.iconst 1, 1) := by decide +kernel
theorem dX6_mark_116 : decode cX6_mark 116 = .ok (.isub, 1) := by decide +kernel
theorem dX6_mark_117 : decode cX6_mark 117 = .ok (.aload_n 0, 1) := by decide +kernel
theorem dX6_mark_118 : decode cX6_mark 118 = .ok (.getfield 34, 3) := by decide +kernel
theorem dX6_mark_121 : decode cX6_mark 121 = .ok (.iload_n 1, 1) := by decide +kernel
theorem dX6_mark_122 : decode cX6_mark 122 = .ok (.iaload, 1) := by decide +kernel
theorem dX6_mark_123 : decode cX6_mark 123 = .ok (.isub, 1) := by decide +kernel
theorem dX6_mark_124 : decode cX6_mark 124 = .ok (.goto 23, 3) := by decide +kernel
theorem dX6_mark_127 : decode cX6_mark 127 = .ok (.iload_n 2, 1) := by decide +kernel
theorem dX6_mark_128 : decode cX6_mark 128 = .ok (.iconst 4, 1) := by decide +kernel
theorem dX6_mark_129 : decode cX6_mark 129 = .ok (.if_icmp .ne 12, 3) := by decide +kernel
theorem dX6_mark_132 : decode cX6_mark 132 = .ok (.aload_n 0, 1) := by decide +kernel
theorem dX6_mark_133 : decode cX6_mark 133 = .ok (.getfield 37, 3) := by decide +kernel
theorem dX6_mark_136 : decode cX6_mark 136 = .ok (.iload_n 1, 1) := by decide +kernel
theorem dX6_mark_137 : decode cX6_mark 137 = .ok (.iaload, 1) := by decide +kernel
theorem dX6_mark_138 : decode cX6_mark 138 = .ok (.goto 9, 3) := by decide +kernel
theorem dX6_mark_141 : decode cX6_mark 141 = .ok (.aload_n 0, 1) := by decide +kernel
theorem dX6_mark_142 : decode cX6_mark 142 = .ok (.iload_n 1, 1) := by decide +kernel
theorem dX6_mark_143 : decode cX6_mark 143 = .ok (.iconst 2, 1) := by decide +kernel
theorem dX6_mark_144 : decode cX6_mark 144 = .ok (.invokevirtual 211, 3) := by decide +kernel
theorem dX6_mark_147 : decode cX6_mark 147 = .ok (.ireturn, 1) := by decide +kernel
theorem dX6_isSet_0 : decode cX6_isSet 0 = .ok (.iload_n 1, 1) := by decide +kernel
theorem dX6_isSet_1 : decode cX6_isSet 1 = .ok (.iconst 0, 1) := by decide +kernel
theorem dX6_isSet_2 : decode cX6_isSet 2 = .ok (.iconst 1, 1) := by decide +kernel
theorem dX6_isSet_3 : decode cX6_isSet 3 = .ok (.aload_n 0, 1) := by decide +kernel
theorem dX6_isSet_4 : decode cX6_isSet 4 = .ok (.getfield 151, 3) := by decide +kernel
theorem dX6_isSet_7 : decode cX6_isSet 7 = .ok (.ishl, 1) := by decide +kernel
theorem dX6_isSet_8 : decode cX6_isSet 8 = .ok (.iconst 1, 1) := by decide +kernel
theorem dX6_isSet_9 : decode cX6_isSet 9 = .ok (.isub, 1) := by decide +kernel
theorem dX6_isSet_10 : decode cX6_isSet 10 = .ok (.invokestatic 92, 3) := by decide +kernel
theorem dX6_isSet_13 : decode cX6_isSet 13 = .ok (.ireturn, 1) := by decide +kernel
theorem dX6_frost_0 : decode cX6_frost 0 = .ok (.aload_n 0, 1) := by decide +kernel
theorem dX6_frost_1 : decode cX6_frost 1 = .ok (.iload_n 1, 1) := by decide +kernel
theorem dX6_frost_2 : decode cX6_frost 2 = .ok (.invokevirtual 214, 3) := by decide +kernel
theorem dX6_frost_5 : decode cX6_frost 5 = .ok (.ifCond .ne 5, 3) := by decide +kernel
theorem dX6_frost_8 : decode cX6_frost 8 = .ok (.iconst (-1), 1) := by decide +kernel
theorem dX6_frost_9 : decode cX6_frost 9 = .ok (.ireturn, 1) := by decide +kernel
theorem dX6_frost_10 : decode cX6_frost 10 = .ok (.aload_n 0, 1) := by decide +kernel
theorem dX6_frost_11 : decode cX6_frost 11 = .ok (.getfield 157, 3) := by decide +kernel
theorem dX6_frost_14 : decode cX6_frost 14 = .ok (.istore_n 2, 1) := by decide +kernel
theorem dX6_frost_15 : decode cX6_frost 15 = .ok (.aload_n 0, 1) := by decide +kernel
theorem dX6_frost_16 : decode cX6_frost 16 = .ok (.iload_n 1, 1) := by decide +kernel
theorem dX6_frost_17 : decode cX6_frost 17 = .ok (.putfield 157, 3) := by decide +kernel
theorem dX6_frost_20 : decode cX6_frost 20 = .ok (.iload_n 2, 1) := by decide +kernel
theorem dX6_frost_21 : decode cX6_frost 21 = .ok (.ireturn, 1) := by decide +kernel
theorem dX6_move_0 : decode cX6_move 0 = .ok (.aload_n 0, 1) := by decide +kernel
theorem dX6_move_1 : decode cX6_move 1 = .ok (.iload_n 1, 1) := by decide +kernel
theorem dX6_move_2 : decode cX6_move 2 = .ok (.invokevirtual 179, 3) := by decide +kernel
theorem dX6_move_5 : decode cX6_move 5 = .ok (.ifCond .eq 11, 3) := by decide +kernel
theorem dX6_move_8 : decode cX6_move 8 = .ok (.aload_n 0, 1) := by decide +kernel
theorem dX6_move_9 : decode cX6_move 9 = .ok (.iload_n 2, 1) := by decide +kernel
theorem dX6_move_10 : decode cX6_move 10 = .ok (.invokevirtual 163, 3) := by decide +kernel
theorem dX6_move_13 : decode cX6_move 13 = .ok (.ifCond .ne 5, 3) := by decide +kernel
theorem dX6_move_16 : decode cX6_move 16 = .ok (.iconst (-1), 1) := by decide +kernel
theorem dX6_move_17 : decode cX6_move 17 = .ok (.ireturn, 1) := by decide +kernel
theorem dX6_move_18 : decode cX6_move 18 = .ok (.aload_n 0, 1) := by decide +kernel
theorem dX6_move_19 : decode cX6_move 19 = .ok (.getfield 34, 3) := by decide +kernel
theorem dX6_move_22 : decode cX6_move 22 = .ok (.iload_n 1, 1) := by decide +kernel
theorem dX6_move_23 : decode cX6_move 23 = .ok (.iaload, 1) := by decide +kernel
theorem dX6_move_24 : decode cX6_move 24 = .ok (.istore_n 3, 1) := by decide +kernel
theorem dX6_move_25 : decode cX6_move 25 = .ok (.aload_n 0, 1) := by decide +kernel
theorem dX6_move_26 : decode cX6_move 26 = .ok (.getfield 34, 3) := by decide +kernel
theorem dX6_move_29 : decode cX6_move 29 = .ok (.iload_n 1, 1) := by decide +kernel
theorem dX6_move_30 : decode cX6_move 30 = .ok (.iload_n 2, 1) := by decide +kernel
theorem dX6_move_31 : decode cX6_move 31 = .ok (.iastore, 1) := by decide +kernel
theorem dX6_move_32 : decode cX6_move 32 = .ok (.iload_n 3, 1) := by decide +kernel
theorem dX6_move_33 : decode cX6_move 33 = .ok (.ireturn, 1) := by decide +kernel
theorem dX6_isProgram_0 : decode cX6_isProgram 0 = .ok (.iload_n 1, 1) := by decide +kernel
theorem dX6_isProgram_1 : decode cX6_isProgram 1 = .ok (.iconst 0, 1) := by decide +kernel
theorem dX6_isProgram_2 : decode cX6_isProgram 2 = .ok (.aload_n 0, 1) := by decide +kernel
theorem dX6_isProgram_3 : decode cX6_isProgram 3 = .ok (.invokevirtual 217, 3) := by decide +kernel
theorem dX6_isProgram_6 : decode cX6_isProgram 6 = .ok (.iconst 1, 1) := by decide +kernel
theorem dX6_isProgram_7 : decode cX6_isProgram 7 = .ok (.isub, 1) := by decide +kernel
theorem dX6_isProgram_8 : decode cX6_isProgram 8 = .ok (.invokestatic 92, 3) := by decide +kernel
theorem dX6_isProgram_11 : decode cX6_isProgram 11 = .ok (.ireturn, 1) := by decide +kernel
theorem dX6_goEvening_0 : decode cX6_goEvening 0 = .ok (.aload_n 0, 1) := by decide +kernel
theorem dX6_goEvening_1 : decode cX6_goEvening 1 = .ok (.aload_n 0, 1) := by decide +kernel
theorem dX6_goEvening_2 : decode cX6_goEvening 2 = .ok (.getfield 61, 3) := by decide +kernel
theorem dX6_goEvening_5 : decode cX6_goEvening 5 = .ok (.bipush 14, 2) := by decide +kernel
theorem dX6_goEvening_7 : decode cX6_goEvening 7 = .ok (.aload_n 0, 1) := by decide +kernel
theorem dX6_goEvening_8 : decode cX6_goEvening 8 = .ok (.getfield 160, 3) := by decide +kernel
theorem dX6_goEvening_11 : decode cX6_goEvening 11 = .ok (.imul, 1) := by decide +kernel
theorem dX6_goEvening_12 : decode cX6_goEvening 12 = .ok (.invokevirtual 204, 3) := by decide +kernel
theorem dX6_goEvening_15 : decode cX6_goEvening 15 = .ok (.aload_n 0, 1) := by decide +kernel
theorem dX6_goEvening_16 : decode cX6_goEvening 16 = .ok (.getfield 58, 3) := by decide +kernel
theorem dX6_goEvening_19 : decode cX6_goEvening 19 = .ok (.aload_n 0, 1) := by decide +kernel
theorem dX6_goEvening_20 : decode cX6_goEvening 20 = .ok (.getfield 160, 3) := by decide +kernel
theorem dX6_goEvening_23 : decode cX6_goEvening 23 = .ok (.iload_n 1, 1) := by decide +kernel
theorem dX6_goEvening_24 : decode cX6_goEvening 24 = .ok (.iastore, 1) := by decide +kernel
theorem dX6_goEvening_25 : decode cX6_goEvening 25 = .ok (.aload_n 0, 1) := by decide +kernel
theorem dX6_goEvening_26 : decode cX6_goEvening 26 = .ok (.dup, 1) := by decide +kernel
theorem dX6_goEvening_27 : decode cX6_goEvening 27 = .ok (.getfield 160, 3) := by decide +kernel
theorem dX6_goEvening_30 : decode cX6_goEvening 30 = .ok (.iconst 1, 1) := by decide +kernel
theorem dX6_goEvening_31 : decode cX6_goEvening 31 = .ok (.iadd, 1) := by decide +kernel
theorem dX6_goEvening_32 : decode cX6_goEvening 32 = .ok (.putfield 160, 3) := by decide +kernel
theorem dX6_goEvening_35 : decode cX6_goEvening 35 = .ok (.aload_n 0, 1) := by decide +kernel
theorem dX6_goEvening_36 : decode cX6_goEvening 36 = .ok (.iload_n 1, 1) := by decide +kernel
theorem dX6_goEvening_37 : decode cX6_goEvening 37 = .ok (.invokevirtual 221, 3) := by decide +kernel
theorem dX6_goEvening_40 : decode cX6_goEvening 40 = .ok (.ireturn, 1) := by decide +kernel
theorem dX6_evening_0 : decode cX6_evening 0 = .ok (.aload_n 0, 1) := by decide +kernel
theorem dX6_evening_1 : decode cX6_evening 1 = .ok (.iload_n 1, 1) := by decide +kernel
theorem dX6_evening_2 : decode cX6_evening 2 = .ok (.invokevirtual 224, 3) := by decide +kernel
theorem dX6_evening_5 : decode cX6_evening 5 = .ok (.ifCond .ne 5, 3) := by decide +kernel
theorem dX6_evening_8 : decode cX6_evening 8 = .ok (.iconst (-1), 1) := by decide +kernel
theorem dX6_evening_9 : decode cX6_evening 9 = .ok (.ireturn, 1) := by decide +kernel
theorem dX6_evening_10 : decode cX6_evening 10 = .ok (.aload_n 0, 1) := by decide +kernel
theorem dX6_evening_11 : decode cX6_evening 11 = .ok (.getfield 151, 3) := by decide +kernel
theorem dX6_evening_14 : decode cX6_evening 14 = .ok (.ifCond .ne 6, 3) := by decide +kernel
theorem dX6_evening_17 : decode cX6_evening 17 = .ok (.bipush (-4), 2) := by decide +kernel
theorem dX6_evening_19 : decode cX6_evening 19 = .ok (.ireturn, 1) := by decide +kernel
theorem dX6_evening_20 : decode cX6_evening 20 = .ok (.aload_n 0, 1) := by decide +kernel
theorem dX6_evening_21 : decode cX6_evening 21 = .ok (.getfield 160, 3) := by decide +kernel
theorem dX6_evening_24 : decode cX6_evening 24 = .ok (.bipush 60, 2) := by decide +kernel
theorem dX6_evening_26 : decode cX6_evening 26 = .ok (.if_icmp .ne 6, 3) := by decide +kernel
theorem dX6_evening_29 : decode cX6_evening 29 = .ok (.bipush (-2), 2) := by decide +kernel
theorem dX6_evening_31 : decode cX6_evening 31 = .ok (.ireturn, 1) := by decide +kernel
theorem dX6_evening_32 : decode cX6_evening 32 = .ok (.aload_n 0, 1) := by decide +kernel
theorem dX6_evening_33 : decode cX6_evening 33 = .ok (.iload_n 1, 1) := by decide +kernel
theorem dX6_evening_34 : decode cX6_evening 34 = .ok (.invokevirtual 227, 3) := by decide +kernel
theorem dX6_evening_37 : decode cX6_evening 37 = .ok (.istore_n 2, 1) := by decide +kernel
theorem dX6_evening_38 : decode cX6_evening 38 = .ok (.aload_n 0, 1) := by decide +kernel
theorem dX6_evening_39 : decode cX6_evening 39 = .ok (.aload_n 0, 1) := by decide +kernel
theorem dX6_evening_40 : decode cX6_evening 40 = .ok (.iload_n 1, 1) := by decide +kernel
theorem dX6_evening_41 : decode cX6_evening 41 = .ok (.invokevirtual 230, 3) := by decide +kernel
theorem dX6_evening_44 : decode cX6_evening 44 = .ok (.iload_n 2, 1) := by decide +kernel
theorem dX6_evening_45 : decode cX6_evening 45 = .ok (.invokevirtual 118, 3) := by decide +kernel
theorem dX6_evening_48 : decode cX6_evening 48 = .ok (.ireturn, 1) := by decide +kernel
theorem dX6_undo_0 : decode cX6_undo 0 = .ok (.iload_n 1, 1) := by decide +kernel
theorem dX6_undo_1 : decode cX6_undo 1 = .ok (.iconst 0, 1) := by decide +kernel
theorem dX6_undo_2 : decode cX6_undo 2 = .ok (.aload_n 0, 1) := by decide +kernel
theorem dX6_undo_3 : decode cX6_undo 3 = .ok (.getfield 160, 3) := by decide +kernel
theorem dX6_undo_6 : decode cX6_undo 6 = .ok (.invokestatic 92, 3) := by decide +kernel
theorem dX6_undo_9 : decode cX6_undo 9 = .ok (.ifCond .ne 5, 3) := by decide +kernel
theorem dX6_undo_12 : decode cX6_undo 12 = .ok (.iconst (-1), 1) := by decide +kernel
theorem dX6_undo_13 : decode cX6_undo 13 = .ok (.ireturn, 1) := by decide +kernel
theorem dX6_undo_14 : decode cX6_undo 14 = .ok (.aload_n 0, 1) := by decide +kernel
theorem dX6_undo_15 : decode cX6_undo 15 = .ok (.getfield 160, 3) := by decide +kernel
theorem dX6_undo_18 : decode cX6_undo 18 = .ok (.iload_n 1, 1) := by decide +kernel
theorem dX6_undo_19 : decode cX6_undo 19 = .ok (.isub, 1) := by decide +kernel
theorem dX6_undo_20 : decode cX6_undo 20 = .ok (.istore_n 2, 1) := by decide +kernel
theorem dX6_undo_21 : decode cX6_undo 21 = .ok (.iload_n 2, 1) := by decide +kernel
theorem dX6_undo_22 : decode cX6_undo 22 = .ok (.ifCond .le 20, 3) := by decide +kernel
theorem dX6_undo_25 : decode cX6_undo 25 = .ok (.aload_n 0, 1) := by decide +kernel
theorem dX6_undo_26 : decode cX6_undo 26 = .ok (.aload_n 0, 1) := by decide +kernel
theorem dX6_undo_27 : decode cX6_undo 27 = .ok (.getfield 61, 3) := by decide +kernel
theorem dX6_undo_30 : decode cX6_undo 30 = .ok (.bipush 14, 2) := by decide +kernel
theorem dX6_undo_32 : decode cX6_undo 32 = .ok (.iload_n 1, 1) := by decide +kernel
theorem dX6_undo_33 : decode cX6_undo 33 = .ok (.imul, 1) := by decide +kernel
theorem dX6_undo_34 : decode cX6_undo 34 = .ok (.invokevirtual 208, 3) := by decide +kernel
theorem dX6_undo_37 : decode cX6_undo 37 = .ok (.aload_n 0, 1) := by decide +kernel
theorem dX6_undo_38 : decode cX6_undo 38 = .ok (.iload_n 1, 1) := by decide +kernel
theorem dX6_undo_39 : decode cX6_undo 39 = .ok (.putfield 160, 3) := by decide +kernel
theorem dX6_undo_42 : decode cX6_undo 42 = .ok (.iload_n 2, 1) := by decide +kernel
theorem dX6_undo_43 : decode cX6_undo 43 = .ok (.ireturn, 1) := by decide +kernel
theorem dX6_allHigh_0 : decode cX6_allHigh 0 = .ok (.iconst 0, 1) := by decide +kernel
theorem dX6_allHigh_1 : decode cX6_allHigh 1 = .ok (.istore_n 1, 1) := by decide +kernel
theorem dX6_allHigh_2 : decode cX6_allHigh 2 = .ok (.iconst 0, 1) := by decide +kernel
theorem dX6_allHigh_3 : decode cX6_allHigh 3 = .ok (.istore_n 2, 1) := by decide +kernel
theorem dX6_allHigh_4 : decode cX6_allHigh 4 = .ok (.iload_n 2, 1) := by decide +kernel
theorem dX6_allHigh_5 : decode cX6_allHigh 5 = .ok (.aload_n 0, 1) := by decide +kernel
theorem dX6_allHigh_6 : decode cX6_allHigh 6 = .ok (.getfield 151, 3) := by decide +kernel
theorem dX6_allHigh_9 : decode cX6_allHigh 9 = .ok (.if_icmp .ge 18, 3) := by decide +kernel
theorem dX6_allHigh_12 : decode cX6_allHigh 12 = .ok (.iload_n 1, 1) := by decide +kernel
theorem dX6_allHigh_13 : decode cX6_allHigh 13 = .ok (.aload_n 0, 1) := by decide +kernel
theorem dX6_allHigh_14 : decode cX6_allHigh 14 = .ok (.getfield 28, 3) := by decide +kernel
theorem dX6_allHigh_17 : decode cX6_allHigh 17 = .ok (.iload_n 2, 1) := by decide +kernel
theorem dX6_allHigh_18 : decode cX6_allHigh 18 = .ok (.iaload, 1) := by decide +kernel
theorem dX6_allHigh_19 : decode cX6_allHigh 19 = .ok (.iadd, 1) := by decide +kernel
theorem dX6_allHigh_20 : decode cX6_allHigh 20 = .ok (.istore_n 1, 1) := by decide +kernel
theorem dX6_allHigh_21 : decode cX6_allHigh 21 = .ok (.iinc 2 1, 3) := by decide +kernel
theorem dX6_allHigh_24 : decode cX6_allHigh 24 = .ok (.goto (-20), 3) := by decide +kernel
theorem dX6_allHigh_27 : decode cX6_allHigh 27 = .ok (.iload_n 1, 1) := by decide +kernel
theorem dX6_allHigh_28 : decode cX6_allHigh 28 = .ok (.ireturn, 1) := by decide +kernel
theorem dX6_heights_0 : decode cX6_heights 0 = .ok (.iload_n 1, 1) := by decide +kernel
theorem dX6_heights_1 : decode cX6_heights 1 = .ok (.invokestatic 96, 3) := by decide +kernel
theorem dX6_heights_4 : decode cX6_heights 4 = .ok (.ifCond .ne 5, 3) := by decide +kernel
theorem dX6_heights_7 : decode cX6_heights 7 = .ok (.iconst (-1), 1) := by decide +kernel
theorem dX6_heights_8 : decode cX6_heights 8 = .ok (.ireturn, 1) := by decide +kernel
theorem dX6_heights_9 : decode cX6_heights 9 = .ok (.aload_n 0, 1) := by decide +kernel
theorem dX6_heights_10 : decode cX6_heights 10 = .ok (.iload_n 1, 1) := by decide +kernel
theorem dX6_heights_11 : decode cX6_heights 11 = .ok (.aload_n 0, 1) := by decide +kernel
theorem dX6_heights_12 : decode cX6_heights 12 = .ok (.getfield 151, 3) := by decide +kernel
theorem dX6_heights_15 : decode cX6_heights 15 = .ok (.invokevirtual 233, 3) := by decide +kernel
theorem dX6_heights_18 : decode cX6_heights 18 = .ok (.pop, 1) := by decide +kernel
theorem dX6_heights_19 : decode cX6_heights 19 = .ok (.iconst 0, 1) := by decide +kernel
theorem dX6_heights_20 : decode cX6_heights 20 = .ok (.istore_n 2, 1) := by decide +kernel
theorem dX6_heights_21 : decode cX6_heights 21 = .ok (.iload_n 2, 1) := by decide +kernel
theorem dX6_heights_22 : decode cX6_heights 22 = .ok (.aload_n 0, 1) := by decide +kernel
theorem dX6_heights_23 : decode cX6_heights 23 = .ok (.getfield 151, 3) := by decide +kernel
theorem dX6_heights_26 : decode cX6_heights 26 = .ok (.if_icmp .ge 21, 3) := by decide +kernel
theorem dX6_heights_29 : decode cX6_heights 29 = .ok (.aload_n 0, 1) := by decide +kernel
theorem dX6_heights_30 : decode cX6_heights 30 = .ok (.iload_n 1, 1) := by decide +kernel
theorem dX6_heights_31 : decode cX6_heights 31 = .ok (.iload_n 2, 1) := by decide +kernel
theorem dX6_heights_32 : decode cX6_heights 32 = .ok (.aload_n 0, 1) := by decide +kernel
theorem dX6_heights_33 : decode cX6_heights 33 = .ok (.getfield 28, 3) := by decide +kernel
theorem dX6_heights_36 : decode cX6_heights 36 = .ok (.iload_n 2, 1) := by decide +kernel
theorem dX6_heights_37 : decode cX6_heights 37 = .ok (.iaload, 1) := by decide +kernel
theorem dX6_heights_38 : decode cX6_heights 38 = .ok (.invokevirtual 107, 3) := by decide +kernel
theorem dX6_heights_41 : decode cX6_heights 41 = .ok (.iinc 2 1, 3) := by decide +kernel
theorem dX6_heights_44 : decode cX6_heights 44 = .ok (.goto (-23), 3) := by decide +kernel
theorem dX6_heights_47 : decode cX6_heights 47 = .ok (.aload_n 0, 1) := by decide +kernel
theorem dX6_heights_48 : decode cX6_heights 48 = .ok (.invokevirtual 236, 3) := by decide +kernel
theorem dX6_heights_51 : decode cX6_heights 51 = .ok (.ireturn, 1) := by decide +kernel
theorem dX6_keep_0 : decode cX6_keep 0 = .ok (.iload_n 1, 1) := by decide +kernel
theorem dX6_keep_1 : decode cX6_keep 1 = .ok (.iconst 0, 1) := by decide +kernel
theorem dX6_keep_2 : decode cX6_keep 2 = .ok (.iconst 2, 1) := by decide +kernel
theorem dX6_keep_3 : decode cX6_keep 3 = .ok (.invokestatic 92, 3) := by decide +kernel
theorem dX6_keep_6 : decode cX6_keep 6 = .ok (.ifCond .ne 5, 3) := by decide +kernel
theorem dX6_keep_9 : decode cX6_keep 9 = .ok (.iconst (-1), 1) := by decide +kernel
theorem dX6_keep_10 : decode cX6_keep 10 = .ok (.ireturn, 1) := by decide +kernel
theorem dX6_keep_11 : decode cX6_keep 11 = .ok (.aload_n 0, 1) := by decide +kernel
theorem dX6_keep_12 : decode cX6_keep 12 = .ok (.getfield 151, 3) := by decide +kernel
theorem dX6_keep_15 : decode cX6_keep 15 = .ok (.ifCond .ne 6, 3) := by decide +kernel
theorem dX6_keep_18 : decode cX6_keep 18 = .ok (.bipush (-4), 2) := by decide +kernel
theorem dX6_keep_20 : decode cX6_keep 20 = .ok (.ireturn, 1) := by decide +kernel
theorem dX6_keep_21 : decode cX6_keep 21 = .ok (.sipush 920, 3) := by decide +kernel
theorem dX6_keep_24 : decode cX6_keep 24 = .ok (.iload_n 1, 1) := by decide +kernel
theorem dX6_keep_25 : decode cX6_keep 25 = .ok (.imul, 1) := by decide +kernel
theorem dX6_keep_26 : decode cX6_keep 26 = .ok (.istore_n 2, 1) := by decide +kernel
theorem dX6_keep_27 : decode cX6_keep 27 = .ok (.aload_n 0, 1) := by decide +kernel
theorem dX6_keep_28 : decode cX6_keep 28 = .ok (.getfield 64, 3) := by decide +kernel
theorem dX6_keep_31 : decode cX6_keep 31 = .ok (.iload_n 2, 1) := by decide +kernel
theorem dX6_keep_32 : decode cX6_keep 32 = .ok (.aload_n 0, 1) := by decide +kernel
theorem dX6_keep_33 : decode cX6_keep 33 = .ok (.getfield 160, 3) := by decide +kernel
theorem dX6_keep_36 : decode cX6_keep 36 = .ok (.iastore, 1) := by decide +kernel
theorem dX6_keep_37 : decode cX6_keep 37 = .ok (.aload_n 0, 1) := by decide +kernel
theorem dX6_keep_38 : decode cX6_keep 38 = .ok (.getfield 64, 3) := by decide +kernel
theorem dX6_keep_41 : decode cX6_keep 41 = .ok (.iload_n 2, 1) := by decide +kernel
theorem dX6_keep_42 : decode cX6_keep 42 = .ok (.iconst 1, 1) := by decide +kernel
theorem dX6_keep_43 : decode cX6_keep 43 = .ok (.iadd, 1) := by decide +kernel
theorem dX6_keep_44 : decode cX6_keep 44 = .ok (.aload_n 0, 1) := by decide +kernel
theorem dX6_keep_45 : decode cX6_keep 45 = .ok (.getfield 157, 3) := by decide +kernel
theorem dX6_keep_48 : decode cX6_keep 48 = .ok (.iastore, 1) := by decide +kernel
theorem dX6_keep_49 : decode cX6_keep 49 = .ok (.iconst 0, 1) := by decide +kernel
theorem dX6_keep_50 : decode cX6_keep 50 = .ok (.istore_n 3, 1) := by decide +kernel
theorem dX6_keep_51 : decode cX6_keep 51 = .ok (.iload_n 3, 1) := by decide +kernel
theorem dX6_keep_52 : decode cX6_keep 52 = .ok (.iconst 3, 1) := by decide +kernel
theorem dX6_keep_53 : decode cX6_keep 53 = .ok (.if_icmp .ge 25, 3) := by decide +kernel
theorem dX6_keep_56 : decode cX6_keep 56 = .ok (.aload_n 0, 1) := by decide +kernel
theorem dX6_keep_57 : decode cX6_keep 57 = .ok (.getfield 64, 3) := by decide +kernel
theorem dX6_keep_60 : decode cX6_keep 60 = .ok (.iload_n 2, 1) := by decide +kernel
theorem dX6_keep_61 : decode cX6_keep 61 = .ok (.iconst 2, 1) := by decide +kernel
theorem dX6_keep_62 : decode cX6_keep 62 = .ok (.iadd, 1) := by decide +kernel
theorem dX6_keep_63 : decode cX6_keep 63 = .ok (.iload_n 3, 1) := by decide +kernel
theorem dX6_keep_64 : decode cX6_keep 64 = .ok (.iadd, 1) := by decide +kernel
theorem dX6_keep_65 : decode cX6_keep 65 = .ok (.aload_n 0, 1) := by decide +kernel
theorem dX6_keep_66 : decode cX6_keep 66 = .ok (.getfield 34, 3) := by decide +kernel
theorem dX6_keep_69 : decode cX6_keep 69 = .ok (.iload_n 3, 1) := by decide +kernel
theorem dX6_keep_70 : decode cX6_keep 70 = .ok (.iaload, 1) := by decide +kernel
theorem dX6_keep_71 : decode cX6_keep 71 = .ok (.iastore, 1) := by decide +kernel
theorem dX6_keep_72 : decode cX6_keep 72 = .ok (.iinc 3 1, 3) := by decide +kernel
end
section
theorem dX6_keep_75 : decode cX6_keep 75 = .ok (.goto (-24), 3) := by decide +kernel
theorem dX6_keep_78 : decode cX6_keep 78 = .ok (.aload_n 0, 1) := by decide +kernel
theorem dX6_keep_79 : decode cX6_keep 79 = .ok (.aload_n 0, 1) := by decide +kernel
theorem dX6_keep_80 : decode cX6_keep 80 = .ok (.getfield 64, 3) := by decide +kernel
theorem dX6_keep_83 : decode cX6_keep 83 = .ok (.iload_n 2, 1) := by decide +kernel
theorem dX6_keep_84 : decode cX6_keep 84 = .ok (.iconst 5, 1) := by decide +kernel
theorem dX6_keep_85 : decode cX6_keep 85 = .ok (.iadd, 1) := by decide +kernel
theorem dX6_keep_86 : decode cX6_keep 86 = .ok (.invokevirtual 204, 3) := by decide +kernel
theorem dX6_keep_89 : decode cX6_keep 89 = .ok (.iconst 0, 1) := by decide +kernel
theorem dX6_keep_90 : decode cX6_keep 90 = .ok (.istore_n 3, 1) := by decide +kernel
theorem dX6_keep_91 : decode cX6_keep 91 = .ok (.iload_n 3, 1) := by decide +kernel
theorem dX6_keep_92 : decode cX6_keep 92 = .ok (.bipush 60, 2) := by decide +kernel
theorem dX6_keep_94 : decode cX6_keep 94 = .ok (.if_icmp .ge 26, 3) := by decide +kernel
theorem dX6_keep_97 : decode cX6_keep 97 = .ok (.aload_n 0, 1) := by decide +kernel
theorem dX6_keep_98 : decode cX6_keep 98 = .ok (.getfield 64, 3) := by decide +kernel
theorem dX6_keep_101 : decode cX6_keep 101 = .ok (.iload_n 2, 1) := by decide +kernel
theorem dX6_keep_102 : decode cX6_keep 102 = .ok (.bipush 20, 2) := by decide +kernel
theorem dX6_keep_104 : decode cX6_keep 104 = .ok (.iadd, 1) := by decide +kernel
theorem dX6_keep_105 : decode cX6_keep 105 = .ok (.iload_n 3, 1) := by decide +kernel
theorem dX6_keep_106 : decode cX6_keep 106 = .ok (.iadd, 1) := by decide +kernel
theorem dX6_keep_107 : decode cX6_keep 107 = .ok (.aload_n 0, 1) := by decide +kernel
theorem dX6_keep_108 : decode cX6_keep 108 = .ok (.getfield 58, 3) := by decide +kernel
theorem dX6_keep_111 : decode cX6_keep 111 = .ok (.iload_n 3, 1) := by decide +kernel
theorem dX6_keep_112 : decode cX6_keep 112 = .ok (.iaload, 1) := by decide +kernel
theorem dX6_keep_113 : decode cX6_keep 113 = .ok (.iastore, 1) := by decide +kernel
theorem dX6_keep_114 : decode cX6_keep 114 = .ok (.iinc 3 1, 3) := by decide +kernel
theorem dX6_keep_117 : decode cX6_keep 117 = .ok (.goto (-26), 3) := by decide +kernel
theorem dX6_keep_120 : decode cX6_keep 120 = .ok (.iconst 0, 1) := by decide +kernel
theorem dX6_keep_121 : decode cX6_keep 121 = .ok (.istore_n 3, 1) := by decide +kernel
theorem dX6_keep_122 : decode cX6_keep 122 = .ok (.iload_n 3, 1) := by decide +kernel
theorem dX6_keep_123 : decode cX6_keep 123 = .ok (.sipush 840, 3) := by decide +kernel
theorem dX6_keep_126 : decode cX6_keep 126 = .ok (.if_icmp .ge 26, 3) := by decide +kernel
theorem dX6_keep_129 : decode cX6_keep 129 = .ok (.aload_n 0, 1) := by decide +kernel
theorem dX6_keep_130 : decode cX6_keep 130 = .ok (.getfield 64, 3) := by decide +kernel
theorem dX6_keep_133 : decode cX6_keep 133 = .ok (.iload_n 2, 1) := by decide +kernel
theorem dX6_keep_134 : decode cX6_keep 134 = .ok (.bipush 80, 2) := by decide +kernel
theorem dX6_keep_136 : decode cX6_keep 136 = .ok (.iadd, 1) := by decide +kernel
theorem dX6_keep_137 : decode cX6_keep 137 = .ok (.iload_n 3, 1) := by decide +kernel
theorem dX6_keep_138 : decode cX6_keep 138 = .ok (.iadd, 1) := by decide +kernel
theorem dX6_keep_139 : decode cX6_keep 139 = .ok (.aload_n 0, 1) := by decide +kernel
theorem dX6_keep_140 : decode cX6_keep 140 = .ok (.getfield 61, 3) := by decide +kernel
theorem dX6_keep_143 : decode cX6_keep 143 = .ok (.iload_n 3, 1) := by decide +kernel
theorem dX6_keep_144 : decode cX6_keep 144 = .ok (.iaload, 1) := by decide +kernel
theorem dX6_keep_145 : decode cX6_keep 145 = .ok (.iastore, 1) := by decide +kernel
theorem dX6_keep_146 : decode cX6_keep 146 = .ok (.iinc 3 1, 3) := by decide +kernel
theorem dX6_keep_149 : decode cX6_keep 149 = .ok (.goto (-27), 3) := by decide +kernel
theorem dX6_keep_152 : decode cX6_keep 152 = .ok (.aload_n 0, 1) := by decide +kernel
theorem dX6_keep_153 : decode cX6_keep 153 = .ok (.getfield 160, 3) := by decide +kernel
theorem dX6_keep_156 : decode cX6_keep 156 = .ok (.ireturn, 1) := by decide +kernel
theorem dX6_on_0 : decode cX6_on 0 = .ok (.iload_n 1, 1) := by decide +kernel
theorem dX6_on_1 : decode cX6_on 1 = .ok (.iconst 0, 1) := by decide +kernel
theorem dX6_on_2 : decode cX6_on 2 = .ok (.iconst 2, 1) := by decide +kernel
theorem dX6_on_3 : decode cX6_on 3 = .ok (.invokestatic 92, 3) := by decide +kernel
theorem dX6_on_6 : decode cX6_on 6 = .ok (.ifCond .ne 5, 3) := by decide +kernel
theorem dX6_on_9 : decode cX6_on 9 = .ok (.iconst (-1), 1) := by decide +kernel
theorem dX6_on_10 : decode cX6_on 10 = .ok (.ireturn, 1) := by decide +kernel
theorem dX6_on_11 : decode cX6_on 11 = .ok (.sipush 920, 3) := by decide +kernel
theorem dX6_on_14 : decode cX6_on 14 = .ok (.iload_n 1, 1) := by decide +kernel
theorem dX6_on_15 : decode cX6_on 15 = .ok (.imul, 1) := by decide +kernel
theorem dX6_on_16 : decode cX6_on 16 = .ok (.istore_n 2, 1) := by decide +kernel
theorem dX6_on_17 : decode cX6_on 17 = .ok (.aload_n 0, 1) := by decide +kernel
theorem dX6_on_18 : decode cX6_on 18 = .ok (.getfield 64, 3) := by decide +kernel
theorem dX6_on_21 : decode cX6_on 21 = .ok (.iload_n 2, 1) := by decide +kernel
theorem dX6_on_22 : decode cX6_on 22 = .ok (.iaload, 1) := by decide +kernel
theorem dX6_on_23 : decode cX6_on 23 = .ok (.bipush (-9), 2) := by decide +kernel
theorem dX6_on_25 : decode cX6_on 25 = .ok (.if_icmp .ne 9, 3) := by decide +kernel
theorem dX6_on_28 : decode cX6_on 28 = .ok (.aload_n 0, 1) := by decide +kernel
theorem dX6_on_29 : decode cX6_on 29 = .ok (.iconst 1, 1) := by decide +kernel
theorem dX6_on_30 : decode cX6_on 30 = .ok (.invokevirtual 100, 3) := by decide +kernel
theorem dX6_on_33 : decode cX6_on 33 = .ok (.ireturn, 1) := by decide +kernel
theorem dX6_on_34 : decode cX6_on 34 = .ok (.aload_n 0, 1) := by decide +kernel
theorem dX6_on_35 : decode cX6_on 35 = .ok (.aload_n 0, 1) := by decide +kernel
theorem dX6_on_36 : decode cX6_on 36 = .ok (.getfield 64, 3) := by decide +kernel
theorem dX6_on_39 : decode cX6_on 39 = .ok (.iload_n 2, 1) := by decide +kernel
theorem dX6_on_40 : decode cX6_on 40 = .ok (.iaload, 1) := by decide +kernel
theorem dX6_on_41 : decode cX6_on 41 = .ok (.putfield 160, 3) := by decide +kernel
theorem dX6_on_44 : decode cX6_on 44 = .ok (.aload_n 0, 1) := by decide +kernel
theorem dX6_on_45 : decode cX6_on 45 = .ok (.aload_n 0, 1) := by decide +kernel
theorem dX6_on_46 : decode cX6_on 46 = .ok (.getfield 64, 3) := by decide +kernel
theorem dX6_on_49 : decode cX6_on 49 = .ok (.iload_n 2, 1) := by decide +kernel
theorem dX6_on_50 : decode cX6_on 50 = .ok (.iconst 1, 1) := by decide +kernel
theorem dX6_on_51 : decode cX6_on 51 = .ok (.iadd, 1) := by decide +kernel
theorem dX6_on_52 : decode cX6_on 52 = .ok (.iaload, 1) := by decide +kernel
theorem dX6_on_53 : decode cX6_on 53 = .ok (.putfield 157, 3) := by decide +kernel
theorem dX6_on_56 : decode cX6_on 56 = .ok (.iconst 0, 1) := by decide +kernel
theorem dX6_on_57 : decode cX6_on 57 = .ok (.istore_n 3, 1) := by decide +kernel
theorem dX6_on_58 : decode cX6_on 58 = .ok (.iload_n 3, 1) := by decide +kernel
theorem dX6_on_59 : decode cX6_on 59 = .ok (.iconst 3, 1) := by decide +kernel
theorem dX6_on_60 : decode cX6_on 60 = .ok (.if_icmp .ge 25, 3) := by decide +kernel
theorem dX6_on_63 : decode cX6_on 63 = .ok (.aload_n 0, 1) := by decide +kernel
theorem dX6_on_64 : decode cX6_on 64 = .ok (.getfield 34, 3) := by decide +kernel
theorem dX6_on_67 : decode cX6_on 67 = .ok (.iload_n 3, 1) := by decide +kernel
theorem dX6_on_68 : decode cX6_on 68 = .ok (.aload_n 0, 1) := by decide +kernel
theorem dX6_on_69 : decode cX6_on 69 = .ok (.getfield 64, 3) := by decide +kernel
theorem dX6_on_72 : decode cX6_on 72 = .ok (.iload_n 2, 1) := by decide +kernel
theorem dX6_on_73 : decode cX6_on 73 = .ok (.iconst 2, 1) := by decide +kernel
theorem dX6_on_74 : decode cX6_on 74 = .ok (.iadd, 1) := by decide +kernel
theorem dX6_on_75 : decode cX6_on 75 = .ok (.iload_n 3, 1) := by decide +kernel
theorem dX6_on_76 : decode cX6_on 76 = .ok (.iadd, 1) := by decide +kernel
theorem dX6_on_77 : decode cX6_on 77 = .ok (.iaload, 1) := by decide +kernel
theorem dX6_on_78 : decode cX6_on 78 = .ok (.iastore, 1) := by decide +kernel
theorem dX6_on_79 : decode cX6_on 79 = .ok (.iinc 3 1, 3) := by decide +kernel
theorem dX6_on_82 : decode cX6_on 82 = .ok (.goto (-24), 3) := by decide +kernel
theorem dX6_on_85 : decode cX6_on 85 = .ok (.aload_n 0, 1) := by decide +kernel
theorem dX6_on_86 : decode cX6_on 86 = .ok (.aload_n 0, 1) := by decide +kernel
theorem dX6_on_87 : decode cX6_on 87 = .ok (.getfield 64, 3) := by decide +kernel
theorem dX6_on_90 : decode cX6_on 90 = .ok (.iload_n 2, 1) := by decide +kernel
theorem dX6_on_91 : decode cX6_on 91 = .ok (.iconst 5, 1) := by decide +kernel
theorem dX6_on_92 : decode cX6_on 92 = .ok (.iadd, 1) := by decide +kernel
theorem dX6_on_93 : decode cX6_on 93 = .ok (.invokevirtual 208, 3) := by decide +kernel
theorem dX6_on_96 : decode cX6_on 96 = .ok (.iconst 0, 1) := by decide +kernel
theorem dX6_on_97 : decode cX6_on 97 = .ok (.istore_n 3, 1) := by decide +kernel
theorem dX6_on_98 : decode cX6_on 98 = .ok (.iload_n 3, 1) := by decide +kernel
theorem dX6_on_99 : decode cX6_on 99 = .ok (.bipush 60, 2) := by decide +kernel
theorem dX6_on_101 : decode cX6_on 101 = .ok (.if_icmp .ge 26, 3) := by decide +kernel
theorem dX6_on_104 : decode cX6_on 104 = .ok (.aload_n 0, 1) := by decide +kernel
theorem dX6_on_105 : decode cX6_on 105 = .ok (.getfield 58, 3) := by decide +kernel
theorem dX6_on_108 : decode cX6_on 108 = .ok (.iload_n 3, 1) := by decide +kernel
theorem dX6_on_109 : decode cX6_on 109 = .ok (.aload_n 0, 1) := by decide +kernel
theorem dX6_on_110 : decode cX6_on 110 = .ok (.getfield 64, 3) := by decide +kernel
theorem dX6_on_113 : decode cX6_on 113 = .ok (.iload_n 2, 1) := by decide +kernel
theorem dX6_on_114 : decode cX6_on 114 = .ok (.bipush 20, 2) := by decide +kernel
theorem dX6_on_116 : decode cX6_on 116 = .ok (.iadd, 1) := by decide +kernel
theorem dX6_on_117 : decode cX6_on 117 = .ok (.iload_n 3, 1) := by decide +kernel
theorem dX6_on_118 : decode cX6_on 118 = .ok (.iadd, 1) := by decide +kernel
theorem dX6_on_119 : decode cX6_on 119 = .ok (.iaload, 1) := by decide +kernel
theorem dX6_on_120 : decode cX6_on 120 = .ok (.iastore, 1) := by decide +kernel
theorem dX6_on_121 : decode cX6_on 121 = .ok (.iinc 3 1, 3) := by decide +kernel
theorem dX6_on_124 : decode cX6_on 124 = .ok (.goto (-26), 3) := by decide +kernel
theorem dX6_on_127 : decode cX6_on 127 = .ok (.iconst 0, 1) := by decide +kernel
theorem dX6_on_128 : decode cX6_on 128 = .ok (.istore_n 3, 1) := by decide +kernel
theorem dX6_on_129 : decode cX6_on 129 = .ok (.iload_n 3, 1) := by decide +kernel
theorem dX6_on_130 : decode cX6_on 130 = .ok (.sipush 840, 3) := by decide +kernel
theorem dX6_on_133 : decode cX6_on 133 = .ok (.if_icmp .ge 26, 3) := by decide +kernel
theorem dX6_on_136 : decode cX6_on 136 = .ok (.aload_n 0, 1) := by decide +kernel
theorem dX6_on_137 : decode cX6_on 137 = .ok (.getfield 61, 3) := by decide +kernel
theorem dX6_on_140 : decode cX6_on 140 = .ok (.iload_n 3, 1) := by decide +kernel
theorem dX6_on_141 : decode cX6_on 141 = .ok (.aload_n 0, 1) := by decide +kernel
theorem dX6_on_142 : decode cX6_on 142 = .ok (.getfield 64, 3) := by decide +kernel
theorem dX6_on_145 : decode cX6_on 145 = .ok (.iload_n 2, 1) := by decide +kernel
theorem dX6_on_146 : decode cX6_on 146 = .ok (.bipush 80, 2) := by decide +kernel
theorem dX6_on_148 : decode cX6_on 148 = .ok (.iadd, 1) := by decide +kernel
theorem dX6_on_149 : decode cX6_on 149 = .ok (.iload_n 3, 1) := by decide +kernel
theorem dX6_on_150 : decode cX6_on 150 = .ok (.iadd, 1) := by decide +kernel
theorem dX6_on_151 : decode cX6_on 151 = .ok (.iaload, 1) := by decide +kernel
theorem dX6_on_152 : decode cX6_on 152 = .ok (.iastore, 1) := by decide +kernel
theorem dX6_on_153 : decode cX6_on 153 = .ok (.iinc 3 1, 3) := by decide +kernel
theorem dX6_on_156 : decode cX6_on 156 = .ok (.goto (-27), 3) := by decide +kernel
theorem dX6_on_159 : decode cX6_on 159 = .ok (.aload_n 0, 1) := by decide +kernel
theorem dX6_on_160 : decode cX6_on 160 = .ok (.getfield 160, 3) := by decide +kernel
theorem dX6_on_163 : decode cX6_on 163 = .ok (.ireturn, 1) := by decide +kernel
theorem dX6_putAhead_0 : decode cX6_putAhead 0 = .ok (.aload_n 0, 1) := by decide +kernel
theorem dX6_putAhead_1 : decode cX6_putAhead 1 = .ok (.aload_n 0, 1) := by decide +kernel
theorem dX6_putAhead_2 : decode cX6_putAhead 2 = .ok (.getfield 67, 3) := by decide +kernel
theorem dX6_putAhead_5 : decode cX6_putAhead 5 = .ok (.iconst 0, 1) := by decide +kernel
theorem dX6_putAhead_6 : decode cX6_putAhead 6 = .ok (.invokevirtual 204, 3) := by decide +kernel
theorem dX6_putAhead_9 : decode cX6_putAhead 9 = .ok (.return_, 1) := by decide +kernel
theorem dX6_comeBack_0 : decode cX6_comeBack 0 = .ok (.aload_n 0, 1) := by decide +kernel
theorem dX6_comeBack_1 : decode cX6_comeBack 1 = .ok (.aload_n 0, 1) := by decide +kernel
theorem dX6_comeBack_2 : decode cX6_comeBack 2 = .ok (.getfield 67, 3) := by decide +kernel
theorem dX6_comeBack_5 : decode cX6_comeBack 5 = .ok (.iconst 0, 1) := by decide +kernel
theorem dX6_comeBack_6 : decode cX6_comeBack 6 = .ok (.invokevirtual 208, 3) := by decide +kernel
theorem dX6_comeBack_9 : decode cX6_comeBack 9 = .ok (.return_, 1) := by decide +kernel
theorem dX6_behind_0 : decode cX6_behind 0 = .ok (.aload_n 0, 1) := by decide +kernel
theorem dX6_behind_1 : decode cX6_behind 1 = .ok (.iload_n 1, 1) := by decide +kernel
theorem dX6_behind_2 : decode cX6_behind 2 = .ok (.invokevirtual 224, 3) := by decide +kernel
theorem dX6_behind_5 : decode cX6_behind 5 = .ok (.ifCond .eq 21, 3) := by decide +kernel
theorem dX6_behind_8 : decode cX6_behind 8 = .ok (.iload_n 2, 1) := by decide +kernel
theorem dX6_behind_9 : decode cX6_behind 9 = .ok (.iconst 0, 1) := by decide +kernel
theorem dX6_behind_10 : decode cX6_behind 10 = .ok (.bipush 60, 2) := by decide +kernel
theorem dX6_behind_12 : decode cX6_behind 12 = .ok (.invokestatic 92, 3) := by decide +kernel
theorem dX6_behind_15 : decode cX6_behind 15 = .ok (.ifCond .eq 11, 3) := by decide +kernel
theorem dX6_behind_18 : decode cX6_behind 18 = .ok (.aload_n 0, 1) := by decide +kernel
theorem dX6_behind_19 : decode cX6_behind 19 = .ok (.iload_n 3, 1) := by decide +kernel
theorem dX6_behind_20 : decode cX6_behind 20 = .ok (.invokevirtual 163, 3) := by decide +kernel
theorem dX6_behind_23 : decode cX6_behind 23 = .ok (.ifCond .ne 5, 3) := by decide +kernel
theorem dX6_behind_26 : decode cX6_behind 26 = .ok (.iconst (-1), 1) := by decide +kernel
theorem dX6_behind_27 : decode cX6_behind 27 = .ok (.ireturn, 1) := by decide +kernel
theorem dX6_behind_28 : decode cX6_behind 28 = .ok (.aload_n 0, 1) := by decide +kernel
theorem dX6_behind_29 : decode cX6_behind 29 = .ok (.invokevirtual 239, 3) := by decide +kernel
theorem dX6_behind_32 : decode cX6_behind 32 = .ok (.iconst 0, 1) := by decide +kernel
theorem dX6_behind_33 : decode cX6_behind 33 = .ok (.istore 4, 2) := by decide +kernel
theorem dX6_behind_35 : decode cX6_behind 35 = .ok (.iconst 0, 1) := by decide +kernel
theorem dX6_behind_36 : decode cX6_behind 36 = .ok (.istore 5, 2) := by decide +kernel
theorem dX6_behind_38 : decode cX6_behind 38 = .ok (.iload 5, 2) := by decide +kernel
theorem dX6_behind_40 : decode cX6_behind 40 = .ok (.iload_n 2, 1) := by decide +kernel
theorem dX6_behind_41 : decode cX6_behind 41 = .ok (.if_icmp .ge 19, 3) := by decide +kernel
theorem dX6_behind_44 : decode cX6_behind 44 = .ok (.iload 4, 2) := by decide +kernel
theorem dX6_behind_46 : decode cX6_behind 46 = .ok (.aload_n 0, 1) := by decide +kernel
theorem dX6_behind_47 : decode cX6_behind 47 = .ok (.iload_n 1, 1) := by decide +kernel
theorem dX6_behind_48 : decode cX6_behind 48 = .ok (.invokevirtual 221, 3) := by decide +kernel
theorem dX6_behind_51 : decode cX6_behind 51 = .ok (.iadd, 1) := by decide +kernel
theorem dX6_behind_52 : decode cX6_behind 52 = .ok (.istore 4, 2) := by decide +kernel
theorem dX6_behind_54 : decode cX6_behind 54 = .ok (.iinc 5 1, 3) := by decide +kernel
theorem dX6_behind_57 : decode cX6_behind 57 = .ok (.goto (-19), 3) := by decide +kernel
theorem dX6_behind_60 : decode cX6_behind 60 = .ok (.aload_n 0, 1) := by decide +kernel
theorem dX6_behind_61 : decode cX6_behind 61 = .ok (.getfield 28, 3) := by decide +kernel
theorem dX6_behind_64 : decode cX6_behind 64 = .ok (.iload_n 3, 1) := by decide +kernel
theorem dX6_behind_65 : decode cX6_behind 65 = .ok (.iaload, 1) := by decide +kernel
theorem dX6_behind_66 : decode cX6_behind 66 = .ok (.istore 5, 2) := by decide +kernel
theorem dX6_behind_68 : decode cX6_behind 68 = .ok (.aload_n 0, 1) := by decide +kernel
theorem dX6_behind_69 : decode cX6_behind 69 = .ok (.invokevirtual 242, 3) := by decide +kernel
theorem dX6_behind_72 : decode cX6_behind 72 = .ok (.aload_n 0, 1) := by decide +kernel
theorem dX6_behind_73 : decode cX6_behind 73 = .ok (.iload 4, 2) := by decide +kernel
theorem dX6_behind_75 : decode cX6_behind 75 = .ok (.iload 5, 2) := by decide +kernel
theorem dX6_behind_77 : decode cX6_behind 77 = .ok (.invokevirtual 118, 3) := by decide +kernel
theorem dX6_behind_80 : decode cX6_behind 80 = .ok (.ireturn, 1) := by decide +kernel
theorem dX6_setWas_0 : decode cX6_setWas 0 = .ok (.iconst 0, 1) := by decide +kernel
theorem dX6_setWas_1 : decode cX6_setWas 1 = .ok (.istore_n 1, 1) := by decide +kernel
theorem dX6_setWas_2 : decode cX6_setWas 2 = .ok (.iload_n 1, 1) := by decide +kernel
theorem dX6_setWas_3 : decode cX6_setWas 3 = .ok (.bipush 10, 2) := by decide +kernel
theorem dX6_setWas_5 : decode cX6_setWas 5 = .ok (.if_icmp .ge 21, 3) := by decide +kernel
theorem dX6_setWas_8 : decode cX6_setWas 8 = .ok (.aload_n 0, 1) := by decide +kernel
theorem dX6_setWas_9 : decode cX6_setWas 9 = .ok (.getfield 70, 3) := by decide +kernel
theorem dX6_setWas_12 : decode cX6_setWas 12 = .ok (.iload_n 1, 1) := by decide +kernel
theorem dX6_setWas_13 : decode cX6_setWas 13 = .ok (.aload_n 0, 1) := by decide +kernel
theorem dX6_setWas_14 : decode cX6_setWas 14 = .ok (.getfield 28, 3) := by decide +kernel
theorem dX6_setWas_17 : decode cX6_setWas 17 = .ok (.iload_n 1, 1) := by decide +kernel
theorem dX6_setWas_18 : decode cX6_setWas 18 = .ok (.iaload, 1) := by decide +kernel
theorem dX6_setWas_19 : decode cX6_setWas 19 = .ok (.iastore, 1) := by decide +kernel
theorem dX6_setWas_20 : decode cX6_setWas 20 = .ok (.iinc 1 1, 3) := by decide +kernel
theorem dX6_setWas_23 : decode cX6_setWas 23 = .ok (.goto (-21), 3) := by decide +kernel
theorem dX6_setWas_26 : decode cX6_setWas 26 = .ok (.return_, 1) := by decide +kernel
theorem dX6_isWas_0 : decode cX6_isWas 0 = .ok (.iconst 1, 1) := by decide +kernel
theorem dX6_isWas_1 : decode cX6_isWas 1 = .ok (.istore_n 1, 1) := by decide +kernel
theorem dX6_isWas_2 : decode cX6_isWas 2 = .ok (.iconst 0, 1) := by decide +kernel
theorem dX6_isWas_3 : decode cX6_isWas 3 = .ok (.istore_n 2, 1) := by decide +kernel
theorem dX6_isWas_4 : decode cX6_isWas 4 = .ok (.iload_n 2, 1) := by decide +kernel
theorem dX6_isWas_5 : decode cX6_isWas 5 = .ok (.aload_n 0, 1) := by decide +kernel
theorem dX6_isWas_6 : decode cX6_isWas 6 = .ok (.getfield 151, 3) := by decide +kernel
theorem dX6_isWas_9 : decode cX6_isWas 9 = .ok (.if_icmp .ge 34, 3) := by decide +kernel
theorem dX6_isWas_12 : decode cX6_isWas 12 = .ok (.iload_n 1, 1) := by decide +kernel
theorem dX6_isWas_13 : decode cX6_isWas 13 = .ok (.ifCond .eq 22, 3) := by decide +kernel
theorem dX6_isWas_16 : decode cX6_isWas 16 = .ok (.aload_n 0, 1) := by decide +kernel
theorem dX6_isWas_17 : decode cX6_isWas 17 = .ok (.getfield 70, 3) := by decide +kernel
theorem dX6_isWas_20 : decode cX6_isWas 20 = .ok (.iload_n 2, 1) := by decide +kernel
theorem dX6_isWas_21 : decode cX6_isWas 21 = .ok (.iaload, 1) := by decide +kernel
theorem dX6_isWas_22 : decode cX6_isWas 22 = .ok (.aload_n 0, 1) := by decide +kernel
theorem dX6_isWas_23 : decode cX6_isWas 23 = .ok (.getfield 28, 3) := by decide +kernel
theorem dX6_isWas_26 : decode cX6_isWas 26 = .ok (.iload_n 2, 1) := by decide +kernel
theorem dX6_isWas_27 : decode cX6_isWas 27 = .ok (.iaload, 1) := by decide +kernel
theorem dX6_isWas_28 : decode cX6_isWas 28 = .ok (.if_icmp .ne 7, 3) := by decide +kernel
theorem dX6_isWas_31 : decode cX6_isWas 31 = .ok (.iconst 1, 1) := by decide +kernel
theorem dX6_isWas_32 : decode cX6_isWas 32 = .ok (.goto 4, 3) := by decide +kernel
theorem dX6_isWas_35 : decode cX6_isWas 35 = .ok (.iconst 0, 1) := by decide +kernel
theorem dX6_isWas_36 : decode cX6_isWas 36 = .ok (.istore_n 1, 1) := by decide +kernel
theorem dX6_isWas_37 : decode cX6_isWas 37 = .ok (.iinc 2 1, 3) := by decide +kernel
theorem dX6_isWas_40 : decode cX6_isWas 40 = .ok (.goto (-36), 3) := by decide +kernel
theorem dX6_isWas_43 : decode cX6_isWas 43 = .ok (.iload_n 1, 1) := by decide +kernel
theorem dX6_isWas_44 : decode cX6_isWas 44 = .ok (.ireturn, 1) := by decide +kernel
theorem dX6_topOf_0 : decode cX6_topOf 0 = .ok (.iload_n 1, 1) := by decide +kernel
theorem dX6_topOf_1 : decode cX6_topOf 1 = .ok (.istore_n 3, 1) := by decide +kernel
theorem dX6_topOf_2 : decode cX6_topOf 2 = .ok (.iload_n 1, 1) := by decide +kernel
theorem dX6_topOf_3 : decode cX6_topOf 3 = .ok (.iconst 1, 1) := by decide +kernel
theorem dX6_topOf_4 : decode cX6_topOf 4 = .ok (.iadd, 1) := by decide +kernel
theorem dX6_topOf_5 : decode cX6_topOf 5 = .ok (.istore 4, 2) := by decide +kernel
theorem dX6_topOf_7 : decode cX6_topOf 7 = .ok (.iload 4, 2) := by decide +kernel
theorem dX6_topOf_9 : decode cX6_topOf 9 = .ok (.iload_n 2, 1) := by decide +kernel
theorem dX6_topOf_10 : decode cX6_topOf 10 = .ok (.if_icmp .gt 32, 3) := by decide +kernel
theorem dX6_topOf_13 : decode cX6_topOf 13 = .ok (.aload_n 0, 1) := by decide +kernel
theorem dX6_topOf_14 : decode cX6_topOf 14 = .ok (.getfield 28, 3) := by decide +kernel
theorem dX6_topOf_17 : decode cX6_topOf 17 = .ok (.iload 4, 2) := by decide +kernel
theorem dX6_topOf_19 : decode cX6_topOf 19 = .ok (.iaload, 1) := by decide +kernel
theorem dX6_topOf_20 : decode cX6_topOf 20 = .ok (.aload_n 0, 1) := by decide +kernel
theorem dX6_topOf_21 : decode cX6_topOf 21 = .ok (.getfield 28, 3) := by decide +kernel
theorem dX6_topOf_24 : decode cX6_topOf 24 = .ok (.iload_n 3, 1) := by decide +kernel
theorem dX6_topOf_25 : decode cX6_topOf 25 = .ok (.iaload, 1) := by decide +kernel
theorem dX6_topOf_26 : decode cX6_topOf 26 = .ok (.if_icmp .le 8, 3) := by decide +kernel
theorem dX6_topOf_29 : decode cX6_topOf 29 = .ok (.iload 4, 2) := by decide +kernel
theorem dX6_topOf_31 : decode cX6_topOf 31 = .ok (.goto 4, 3) := by decide +kernel
theorem dX6_topOf_34 : decode cX6_topOf 34 = .ok (.iload_n 3, 1) := by decide +kernel
theorem dX6_topOf_35 : decode cX6_topOf 35 = .ok (.istore_n 3, 1) := by decide +kernel
theorem dX6_topOf_36 : decode cX6_topOf 36 = .ok (.iinc 4 1, 3) := by decide +kernel
theorem dX6_topOf_39 : decode cX6_topOf 39 = .ok (.goto (-32), 3) := by decide +kernel
theorem dX6_topOf_42 : decode cX6_topOf 42 = .ok (.iload_n 3, 1) := by decide +kernel
theorem dX6_topOf_43 : decode cX6_topOf 43 = .ok (.ireturn, 1) := by decide +kernel
theorem dX6_highestNow_0 : decode cX6_highestNow 0 = .ok (.aload_n 0, 1) := by decide +kernel
theorem dX6_highestNow_1 : decode cX6_highestNow 1 = .ok (.getfield 151, 3) := by decide +kernel
theorem dX6_highestNow_4 : decode cX6_highestNow 4 = .ok (.ifCond .ne 7, 3) := by decide +kernel
theorem dX6_highestNow_7 : decode cX6_highestNow 7 = .ok (.iconst 0, 1) := by decide +kernel
theorem dX6_highestNow_8 : decode cX6_highestNow 8 = .ok (.goto 19, 3) := by decide +kernel
theorem dX6_highestNow_11 : decode cX6_highestNow 11 = .ok (.aload_n 0, 1) := by decide +kernel
theorem dX6_highestNow_12 : decode cX6_highestNow 12 = .ok (.getfield 28, 3) := by decide +kernel
theorem dX6_highestNow_15 : decode cX6_highestNow 15 = .ok (.aload_n 0, 1) := by decide +kernel
theorem dX6_highestNow_16 : decode cX6_highestNow 16 = .ok (.iconst 0, 1) := by decide +kernel
theorem dX6_highestNow_17 : decode cX6_highestNow 17 = .ok (.aload_n 0, 1) := by decide +kernel
theorem dX6_highestNow_18 : decode cX6_highestNow 18 = .ok (.getfield 151, 3) := by decide +kernel
theorem dX6_highestNow_21 : decode cX6_highestNow 21 = .ok (.iconst 1, 1) := by decide +kernel
theorem dX6_highestNow_22 : decode cX6_highestNow 22 = .ok (.isub, 1) := by decide +kernel
theorem dX6_highestNow_23 : decode cX6_highestNow 23 = .ok (.invokevirtual 245, 3) := by decide +kernel
theorem dX6_highestNow_26 : decode cX6_highestNow 26 = .ok (.iaload, 1) := by decide +kernel
theorem dX6_highestNow_27 : decode cX6_highestNow 27 = .ok (.ireturn, 1) := by decide +kernel
theorem dX6_rest_0 : decode cX6_rest 0 = .ok (.aload_n 0, 1) := by decide +kernel
theorem dX6_rest_1 : decode cX6_rest 1 = .ok (.iload_n 1, 1) := by decide +kernel
theorem dX6_rest_2 : decode cX6_rest 2 = .ok (.invokevirtual 224, 3) := by decide +kernel
theorem dX6_rest_5 : decode cX6_rest 5 = .ok (.ifCond .ne 5, 3) := by decide +kernel
theorem dX6_rest_8 : decode cX6_rest 8 = .ok (.iconst (-1), 1) := by decide +kernel
theorem dX6_rest_9 : decode cX6_rest 9 = .ok (.ireturn, 1) := by decide +kernel
theorem dX6_rest_10 : decode cX6_rest 10 = .ok (.aload_n 0, 1) := by decide +kernel
theorem dX6_rest_11 : decode cX6_rest 11 = .ok (.invokevirtual 239, 3) := by decide +kernel
theorem dX6_rest_14 : decode cX6_rest 14 = .ok (.bipush (-9), 2) := by decide +kernel
theorem dX6_rest_16 : decode cX6_rest 16 = .ok (.istore_n 2, 1) := by decide +kernel
theorem dX6_rest_17 : decode cX6_rest 17 = .ok (.iconst 0, 1) := by decide +kernel
theorem dX6_rest_18 : decode cX6_rest 18 = .ok (.istore_n 3, 1) := by decide +kernel
theorem dX6_rest_19 : decode cX6_rest 19 = .ok (.iconst 0, 1) := by decide +kernel
theorem dX6_rest_20 : decode cX6_rest 20 = .ok (.istore 4, 2) := by decide +kernel
theorem dX6_rest_22 : decode cX6_rest 22 = .ok (.iload 4, 2) := by decide +kernel
theorem dX6_rest_24 : decode cX6_rest 24 = .ok (.bipush 100, 2) := by decide +kernel
theorem dX6_rest_26 : decode cX6_rest 26 = .ok (.if_icmp .gt 45, 3) := by decide +kernel
theorem dX6_rest_29 : decode cX6_rest 29 = .ok (.iload_n 2, 1) := by decide +kernel
theorem dX6_rest_30 : decode cX6_rest 30 = .ok (.bipush (-9), 2) := by decide +kernel
theorem dX6_rest_32 : decode cX6_rest 32 = .ok (.if_icmp .ne 39, 3) := by decide +kernel
theorem dX6_rest_35 : decode cX6_rest 35 = .ok (.aload_n 0, 1) := by decide +kernel
theorem dX6_rest_36 : decode cX6_rest 36 = .ok (.invokevirtual 248, 3) := by decide +kernel
theorem dX6_rest_39 : decode cX6_rest 39 = .ok (.istore_n 3, 1) := by decide +kernel
theorem dX6_rest_40 : decode cX6_rest 40 = .ok (.aload_n 0, 1) := by decide +kernel
theorem dX6_rest_41 : decode cX6_rest 41 = .ok (.invokevirtual 251, 3) := by decide +kernel
theorem dX6_rest_44 : decode cX6_rest 44 = .ok (.aload_n 0, 1) := by decide +kernel
theorem dX6_rest_45 : decode cX6_rest 45 = .ok (.iload_n 1, 1) := by decide +kernel
theorem dX6_rest_46 : decode cX6_rest 46 = .ok (.invokevirtual 221, 3) := by decide +kernel
theorem dX6_rest_49 : decode cX6_rest 49 = .ok (.pop, 1) := by decide +kernel
theorem dX6_rest_50 : decode cX6_rest 50 = .ok (.aload_n 0, 1) := by decide +kernel
theorem dX6_rest_51 : decode cX6_rest 51 = .ok (.invokevirtual 254, 3) := by decide +kernel
theorem dX6_rest_54 : decode cX6_rest 54 = .ok (.ifCond .eq 8, 3) := by decide +kernel
theorem dX6_rest_57 : decode cX6_rest 57 = .ok (.iload 4, 2) := by decide +kernel
theorem dX6_rest_59 : decode cX6_rest 59 = .ok (.goto 5, 3) := by decide +kernel
theorem dX6_rest_62 : decode cX6_rest 62 = .ok (.bipush (-9), 2) := by decide +kernel
theorem dX6_rest_64 : decode cX6_rest 64 = .ok (.istore_n 2, 1) := by decide +kernel
theorem dX6_rest_65 : decode cX6_rest 65 = .ok (.iinc 4 1, 3) := by decide +kernel
theorem dX6_rest_68 : decode cX6_rest 68 = .ok (.goto (-46), 3) := by decide +kernel
theorem dX6_rest_71 : decode cX6_rest 71 = .ok (.aload_n 0, 1) := by decide +kernel
theorem dX6_rest_72 : decode cX6_rest 72 = .ok (.invokevirtual 242, 3) := by decide +kernel
theorem dX6_rest_75 : decode cX6_rest 75 = .ok (.iload_n 2, 1) := by decide +kernel
theorem dX6_rest_76 : decode cX6_rest 76 = .ok (.bipush (-9), 2) := by decide +kernel
theorem dX6_rest_78 : decode cX6_rest 78 = .ok (.if_icmp .ne 8, 3) := by decide +kernel
theorem dX6_rest_81 : decode cX6_rest 81 = .ok (.bipush (-9), 2) := by decide +kernel
theorem dX6_rest_83 : decode cX6_rest 83 = .ok (.goto 9, 3) := by decide +kernel
theorem dX6_rest_86 : decode cX6_rest 86 = .ok (.aload_n 0, 1) := by decide +kernel
theorem dX6_rest_87 : decode cX6_rest 87 = .ok (.iload_n 3, 1) := by decide +kernel
theorem dX6_rest_88 : decode cX6_rest 88 = .ok (.iload_n 2, 1) := by decide +kernel
theorem dX6_rest_89 : decode cX6_rest 89 = .ok (.invokevirtual 118, 3) := by decide +kernel
theorem dX6_rest_92 : decode cX6_rest 92 = .ok (.ireturn, 1) := by decide +kernel
theorem dX6_round_0 : decode cX6_round 0 = .ok (.aload_n 0, 1) := by decide +kernel
theorem dX6_round_1 : decode cX6_round 1 = .ok (.iload_n 1, 1) := by decide +kernel
theorem dX6_round_2 : decode cX6_round 2 = .ok (.invokevirtual 224, 3) := by decide +kernel
theorem dX6_round_5 : decode cX6_round 5 = .ok (.ifCond .ne 5, 3) := by decide +kernel
theorem dX6_round_8 : decode cX6_round 8 = .ok (.iconst (-1), 1) := by decide +kernel
theorem dX6_round_9 : decode cX6_round 9 = .ok (.ireturn, 1) := by decide +kernel
theorem dX6_round_10 : decode cX6_round 10 = .ok (.aload_n 0, 1) := by decide +kernel
theorem dX6_round_11 : decode cX6_round 11 = .ok (.invokevirtual 239, 3) := by decide +kernel
theorem dX6_round_14 : decode cX6_round 14 = .ok (.aload_n 0, 1) := by decide +kernel
theorem dX6_round_15 : decode cX6_round 15 = .ok (.invokevirtual 251, 3) := by decide +kernel
theorem dX6_round_18 : decode cX6_round 18 = .ok (.bipush (-9), 2) := by decide +kernel
theorem dX6_round_20 : decode cX6_round 20 = .ok (.istore_n 2, 1) := by decide +kernel
theorem dX6_round_21 : decode cX6_round 21 = .ok (.iconst 1, 1) := by decide +kernel
theorem dX6_round_22 : decode cX6_round 22 = .ok (.istore_n 3, 1) := by decide +kernel
theorem dX6_round_23 : decode cX6_round 23 = .ok (.iload_n 3, 1) := by decide +kernel
theorem dX6_round_24 : decode cX6_round 24 = .ok (.bipush 100, 2) := by decide +kernel
theorem dX6_round_26 : decode cX6_round 26 = .ok (.if_icmp .gt 35, 3) := by decide +kernel
theorem dX6_round_29 : decode cX6_round 29 = .ok (.iload_n 2, 1) := by decide +kernel
theorem dX6_round_30 : decode cX6_round 30 = .ok (.bipush (-9), 2) := by decide +kernel
theorem dX6_round_32 : decode cX6_round 32 = .ok (.if_icmp .ne 29, 3) := by decide +kernel
theorem dX6_round_35 : decode cX6_round 35 = .ok (.aload_n 0, 1) := by decide +kernel
theorem dX6_round_36 : decode cX6_round 36 = .ok (.iload_n 1, 1) := by decide +kernel
theorem dX6_round_37 : decode cX6_round 37 = .ok (.invokevirtual 221, 3) := by decide +kernel
theorem dX6_round_40 : decode cX6_round 40 = .ok (.pop, 1) := by decide +kernel
theorem dX6_round_41 : decode cX6_round 41 = .ok (.aload_n 0, 1) := by decide +kernel
theorem dX6_round_42 : decode cX6_round 42 = .ok (.invokevirtual 254, 3) := by decide +kernel
theorem dX6_round_45 : decode cX6_round 45 = .ok (.ifCond .eq 7, 3) := by decide +kernel
theorem dX6_round_48 : decode cX6_round 48 = .ok (.iload_n 3, 1) := by decide +kernel
theorem dX6_round_49 : decode cX6_round 49 = .ok (.goto 5, 3) := by decide +kernel
theorem dX6_round_52 : decode cX6_round 52 = .ok (.bipush (-9), 2) := by decide +kernel
theorem dX6_round_54 : decode cX6_round 54 = .ok (.istore_n 2, 1) := by decide +kernel
theorem dX6_round_55 : decode cX6_round 55 = .ok (.iinc 3 1, 3) := by decide +kernel
theorem dX6_round_58 : decode cX6_round 58 = .ok (.goto (-35), 3) := by decide +kernel
theorem dX6_round_61 : decode cX6_round 61 = .ok (.aload_n 0, 1) := by decide +kernel
theorem dX6_round_62 : decode cX6_round 62 = .ok (.invokevirtual 242, 3) := by decide +kernel
theorem dX6_round_65 : decode cX6_round 65 = .ok (.iload_n 2, 1) := by decide +kernel
theorem dX6_round_66 : decode cX6_round 66 = .ok (.ireturn, 1) := by decide +kernel
theorem dX6_bestOf_0 : decode cX6_bestOf 0 = .ok (.aload_n 0, 1) := by decide +kernel
theorem dX6_bestOf_1 : decode cX6_bestOf 1 = .ok (.invokevirtual 239, 3) := by decide +kernel
theorem dX6_bestOf_4 : decode cX6_bestOf 4 = .ok (.bipush (-9), 2) := by decide +kernel
theorem dX6_bestOf_6 : decode cX6_bestOf 6 = .ok (.istore_n 3, 1) := by decide +kernel
theorem dX6_bestOf_7 : decode cX6_bestOf 7 = .ok (.iconst 0, 1) := by decide +kernel
theorem dX6_bestOf_8 : decode cX6_bestOf 8 = .ok (.istore 4, 2) := by decide +kernel
theorem dX6_bestOf_10 : decode cX6_bestOf 10 = .ok (.iconst 0, 1) := by decide +kernel
theorem dX6_bestOf_11 : decode cX6_bestOf 11 = .ok (.istore 5, 2) := by decide +kernel
theorem dX6_bestOf_13 : decode cX6_bestOf 13 = .ok (.iload 5, 2) := by decide +kernel
theorem dX6_bestOf_15 : decode cX6_bestOf 15 = .ok (.aload_n 0, 1) := by decide +kernel
theorem dX6_bestOf_16 : decode cX6_bestOf 16 = .ok (.invokevirtual 217, 3) := by decide +kernel
theorem dX6_bestOf_19 : decode cX6_bestOf 19 = .ok (.if_icmp .ge 78, 3) := by decide +kernel
theorem dX6_bestOf_22 : decode cX6_bestOf 22 = .ok (.aload_n 0, 1) := by decide +kernel
theorem dX6_bestOf_23 : decode cX6_bestOf 23 = .ok (.iload 5, 2) := by decide +kernel
theorem dX6_bestOf_25 : decode cX6_bestOf 25 = .ok (.invokevirtual 221, 3) := by decide +kernel
theorem dX6_bestOf_28 : decode cX6_bestOf 28 = .ok (.pop, 1) := by decide +kernel
theorem dX6_bestOf_29 : decode cX6_bestOf 29 = .ok (.aload_n 0, 1) := by decide +kernel
theorem dX6_bestOf_30 : decode cX6_bestOf 30 = .ok (.getfield 28, 3) := by decide +kernel
theorem dX6_bestOf_33 : decode cX6_bestOf 33 = .ok (.iload_n 1, 1) := by decide +kernel
theorem dX6_bestOf_34 : decode cX6_bestOf 34 = .ok (.iaload, 1) := by decide +kernel
theorem dX6_bestOf_35 : decode cX6_bestOf 35 = .ok (.istore 6, 2) := by decide +kernel
theorem dX6_bestOf_37 : decode cX6_bestOf 37 = .ok (.aload_n 0, 1) := by decide +kernel
theorem dX6_bestOf_38 : decode cX6_bestOf 38 = .ok (.invokevirtual 242, 3) := by decide +kernel
theorem dX6_bestOf_41 : decode cX6_bestOf 41 = .ok (.iload_n 3, 1) := by decide +kernel
theorem dX6_bestOf_42 : decode cX6_bestOf 42 = .ok (.bipush (-9), 2) := by decide +kernel
theorem dX6_bestOf_44 : decode cX6_bestOf 44 = .ok (.if_icmp .eq 14, 3) := by decide +kernel
theorem dX6_bestOf_47 : decode cX6_bestOf 47 = .ok (.iload_n 2, 1) := by decide +kernel
theorem dX6_bestOf_48 : decode cX6_bestOf 48 = .ok (.iload 6, 2) := by decide +kernel
theorem dX6_bestOf_50 : decode cX6_bestOf 50 = .ok (.imul, 1) := by decide +kernel
theorem dX6_bestOf_51 : decode cX6_bestOf 51 = .ok (.iload_n 2, 1) := by decide +kernel
theorem dX6_bestOf_52 : decode cX6_bestOf 52 = .ok (.iload 4, 2) := by decide +kernel
theorem dX6_bestOf_54 : decode cX6_bestOf 54 = .ok (.imul, 1) := by decide +kernel
theorem dX6_bestOf_55 : decode cX6_bestOf 55 = .ok (.if_icmp .le 7, 3) := by decide +kernel
theorem dX6_bestOf_58 : decode cX6_bestOf 58 = .ok (.iconst 1, 1) := by decide +kernel
theorem dX6_bestOf_59 : decode cX6_bestOf 59 = .ok (.goto 4, 3) := by decide +kernel
theorem dX6_bestOf_62 : decode cX6_bestOf 62 = .ok (.iconst 0, 1) := by decide +kernel
theorem dX6_bestOf_63 : decode cX6_bestOf 63 = .ok (.istore 7, 2) := by decide +kernel
theorem dX6_bestOf_65 : decode cX6_bestOf 65 = .ok (.iload 7, 2) := by decide +kernel
theorem dX6_bestOf_67 : decode cX6_bestOf 67 = .ok (.ifCond .eq 8, 3) := by decide +kernel
theorem dX6_bestOf_70 : decode cX6_bestOf 70 = .ok (.iload 5, 2) := by decide +kernel
theorem dX6_bestOf_72 : decode cX6_bestOf 72 = .ok (.goto 4, 3) := by decide +kernel
theorem dX6_bestOf_75 : decode cX6_bestOf 75 = .ok (.iload_n 3, 1) := by decide +kernel
theorem dX6_bestOf_76 : decode cX6_bestOf 76 = .ok (.istore_n 3, 1) := by decide +kernel
theorem dX6_bestOf_77 : decode cX6_bestOf 77 = .ok (.iload 7, 2) := by decide +kernel
theorem dX6_bestOf_79 : decode cX6_bestOf 79 = .ok (.ifCond .eq 8, 3) := by decide +kernel
theorem dX6_bestOf_82 : decode cX6_bestOf 82 = .ok (.iload 6, 2) := by decide +kernel
theorem dX6_bestOf_84 : decode cX6_bestOf 84 = .ok (.goto 5, 3) := by decide +kernel
theorem dX6_bestOf_87 : decode cX6_bestOf 87 = .ok (.iload 4, 2) := by decide +kernel
theorem dX6_bestOf_89 : decode cX6_bestOf 89 = .ok (.istore 4, 2) := by decide +kernel
theorem dX6_bestOf_91 : decode cX6_bestOf 91 = .ok (.iinc 5 1, 3) := by decide +kernel
theorem dX6_bestOf_94 : decode cX6_bestOf 94 = .ok (.goto (-81), 3) := by decide +kernel
theorem dX6_bestOf_97 : decode cX6_bestOf 97 = .ok (.aload_n 0, 1) := by decide +kernel
theorem dX6_bestOf_98 : decode cX6_bestOf 98 = .ok (.iload 4, 2) := by decide +kernel
theorem dX6_bestOf_100 : decode cX6_bestOf 100 = .ok (.iload_n 3, 1) := by decide +kernel
theorem dX6_bestOf_101 : decode cX6_bestOf 101 = .ok (.invokevirtual 118, 3) := by decide +kernel
theorem dX6_bestOf_104 : decode cX6_bestOf 104 = .ok (.ireturn, 1) := by decide +kernel
theorem dX6_highest_0 : decode cX6_highest 0 = .ok (.aload_n 0, 1) := by decide +kernel
theorem dX6_highest_1 : decode cX6_highest 1 = .ok (.iload_n 1, 1) := by decide +kernel
theorem dX6_highest_2 : decode cX6_highest 2 = .ok (.invokevirtual 163, 3) := by decide +kernel
theorem dX6_highest_5 : decode cX6_highest 5 = .ok (.ifCond .eq 12, 3) := by decide +kernel
theorem dX6_highest_8 : decode cX6_highest 8 = .ok (.aload_n 0, 1) := by decide +kernel
theorem dX6_highest_9 : decode cX6_highest 9 = .ok (.iload_n 1, 1) := by decide +kernel
theorem dX6_highest_10 : decode cX6_highest 10 = .ok (.iconst 1, 1) := by decide +kernel
theorem dX6_highest_11 : decode cX6_highest 11 = .ok (.invokevirtual 258, 3) := by decide +kernel
theorem dX6_highest_14 : decode cX6_highest 14 = .ok (.goto 4, 3) := by decide +kernel
theorem dX6_highest_17 : decode cX6_highest 17 = .ok (.iconst (-1), 1) := by decide +kernel
theorem dX6_highest_18 : decode cX6_highest 18 = .ok (.ireturn, 1) := by decide +kernel
theorem dX6_lowest_0 : decode cX6_lowest 0 = .ok (.aload_n 0, 1) := by decide +kernel
theorem dX6_lowest_1 : decode cX6_lowest 1 = .ok (.iload_n 1, 1) := by decide +kernel
theorem dX6_lowest_2 : decode cX6_lowest 2 = .ok (.invokevirtual 163, 3) := by decide +kernel
theorem dX6_lowest_5 : decode cX6_lowest 5 = .ok (.ifCond .eq 12, 3) := by decide +kernel
theorem dX6_lowest_8 : decode cX6_lowest 8 = .ok (.aload_n 0, 1) := by decide +kernel
theorem dX6_lowest_9 : decode cX6_lowest 9 = .ok (.iload_n 1, 1) := by decide +kernel
theorem dX6_lowest_10 : decode cX6_lowest 10 = .ok (.iconst (-1), 1) := by decide +kernel
theorem dX6_lowest_11 : decode cX6_lowest 11 = .ok (.invokevirtual 258, 3) := by decide +kernel
theorem dX6_lowest_14 : decode cX6_lowest 14 = .ok (.goto 4, 3) := by decide +kernel
theorem dX6_lowest_17 : decode cX6_lowest 17 = .ok (.iconst (-1), 1) := by decide +kernel
theorem dX6_lowest_18 : decode cX6_lowest 18 = .ok (.ireturn, 1) := by decide +kernel
theorem dX6_isGoal_0 : decode cX6_isGoal 0 = .ok (.aload_n 0, 1) := by decide +kernel
theorem dX6_isGoal_1 : decode cX6_isGoal 1 = .ok (.getfield 261, 3) := by decide +kernel
theorem dX6_isGoal_4 : decode cX6_isGoal 4 = .ok (.ifCond .ge 25, 3) := by decide +kernel
theorem dX6_isGoal_7 : decode cX6_isGoal 7 = .ok (.aload_n 0, 1) := by decide +kernel
theorem dX6_isGoal_8 : decode cX6_isGoal 8 = .ok (.getfield 28, 3) := by decide +kernel
theorem dX6_isGoal_11 : decode cX6_isGoal 11 = .ok (.aload_n 0, 1) := by decide +kernel
theorem dX6_isGoal_12 : decode cX6_isGoal 12 = .ok (.getfield 264, 3) := by decide +kernel
theorem dX6_isGoal_15 : decode cX6_isGoal 15 = .ok (.iaload, 1) := by decide +kernel
theorem dX6_isGoal_16 : decode cX6_isGoal 16 = .ok (.aload_n 0, 1) := by decide +kernel
theorem dX6_isGoal_17 : decode cX6_isGoal 17 = .ok (.getfield 267, 3) := by decide +kernel
theorem dX6_isGoal_20 : decode cX6_isGoal 20 = .ok (.if_icmp .lt 7, 3) := by decide +kernel
theorem dX6_isGoal_23 : decode cX6_isGoal 23 = .ok (.iconst 1, 1) := by decide +kernel
theorem dX6_isGoal_24 : decode cX6_isGoal 24 = .ok (.goto 4, 3) := by decide +kernel
theorem dX6_isGoal_27 : decode cX6_isGoal 27 = .ok (.iconst 0, 1) := by decide +kernel
theorem dX6_isGoal_28 : decode cX6_isGoal 28 = .ok (.ireturn, 1) := by decide +kernel
theorem dX6_isGoal_29 : decode cX6_isGoal 29 = .ok (.iconst 1, 1) := by decide +kernel
theorem dX6_isGoal_30 : decode cX6_isGoal 30 = .ok (.istore_n 1, 1) := by decide +kernel
theorem dX6_isGoal_31 : decode cX6_isGoal 31 = .ok (.iconst 0, 1) := by decide +kernel
theorem dX6_isGoal_32 : decode cX6_isGoal 32 = .ok (.istore_n 2, 1) := by decide +kernel
theorem dX6_isGoal_33 : decode cX6_isGoal 33 = .ok (.iload_n 2, 1) := by decide +kernel
theorem dX6_isGoal_34 : decode cX6_isGoal 34 = .ok (.aload_n 0, 1) := by decide +kernel
theorem dX6_isGoal_35 : decode cX6_isGoal 35 = .ok (.getfield 151, 3) := by decide +kernel
theorem dX6_isGoal_38 : decode cX6_isGoal 38 = .ok (.if_icmp .ge 39, 3) := by decide +kernel
theorem dX6_isGoal_41 : decode cX6_isGoal 41 = .ok (.iload_n 1, 1) := by decide +kernel
theorem dX6_isGoal_42 : decode cX6_isGoal 42 = .ok (.ifCond .eq 27, 3) := by decide +kernel
theorem dX6_isGoal_45 : decode cX6_isGoal 45 = .ok (.aload_n 0, 1) := by decide +kernel
theorem dX6_isGoal_46 : decode cX6_isGoal 46 = .ok (.getfield 261, 3) := by decide +kernel
theorem dX6_isGoal_49 : decode cX6_isGoal 49 = .ok (.iload_n 2, 1) := by decide +kernel
theorem dX6_isGoal_50 : decode cX6_isGoal 50 = .ok (.invokestatic 185, 3) := by decide +kernel
theorem dX6_isGoal_53 : decode cX6_isGoal 53 = .ok (.ifCond .eq 12, 3) := by decide +kernel
theorem dX6_isGoal_56 : decode cX6_isGoal 56 = .ok (.aload_n 0, 1) := by decide +kernel
theorem dX6_isGoal_57 : decode cX6_isGoal 57 = .ok (.getfield 28, 3) := by decide +kernel
theorem dX6_isGoal_60 : decode cX6_isGoal 60 = .ok (.iload_n 2, 1) := by decide +kernel
theorem dX6_isGoal_61 : decode cX6_isGoal 61 = .ok (.iaload, 1) := by decide +kernel
theorem dX6_isGoal_62 : decode cX6_isGoal 62 = .ok (.ifCond .ne 7, 3) := by decide +kernel
theorem dX6_isGoal_65 : decode cX6_isGoal 65 = .ok (.iconst 1, 1) := by decide +kernel
theorem dX6_isGoal_66 : decode cX6_isGoal 66 = .ok (.goto 4, 3) := by decide +kernel
theorem dX6_isGoal_69 : decode cX6_isGoal 69 = .ok (.iconst 0, 1) := by decide +kernel
theorem dX6_isGoal_70 : decode cX6_isGoal 70 = .ok (.istore_n 1, 1) := by decide +kernel
theorem dX6_isGoal_71 : decode cX6_isGoal 71 = .ok (.iinc 2 1, 3) := by decide +kernel
theorem dX6_isGoal_74 : decode cX6_isGoal 74 = .ok (.goto (-41), 3) := by decide +kernel
theorem dX6_isGoal_77 : decode cX6_isGoal 77 = .ok (.iload_n 1, 1) := by decide +kernel
theorem dX6_isGoal_78 : decode cX6_isGoal 78 = .ok (.ireturn, 1) := by decide +kernel
theorem dX6_playOn_0 : decode cX6_playOn 0 = .ok (.iload_n 1, 1) := by decide +kernel
theorem dX6_playOn_1 : decode cX6_playOn 1 = .ok (.iload_n 2, 1) := by decide +kernel
theorem dX6_playOn_2 : decode cX6_playOn 2 = .ok (.if_icmp .ne 53, 3) := by decide +kernel
theorem dX6_playOn_5 : decode cX6_playOn 5 = .ok (.aload_n 0, 1) := by decide +kernel
theorem dX6_playOn_6 : decode cX6_playOn 6 = .ok (.invokevirtual 270, 3) := by decide +kernel
theorem dX6_playOn_9 : decode cX6_playOn 9 = .ok (.ifCond .eq 45, 3) := by decide +kernel
theorem dX6_playOn_12 : decode cX6_playOn 12 = .ok (.iload_n 3, 1) := by decide +kernel
theorem dX6_playOn_13 : decode cX6_playOn 13 = .ok (.aload_n 0, 1) := by decide +kernel
theorem dX6_playOn_14 : decode cX6_playOn 14 = .ok (.getfield 273, 3) := by decide +kernel
theorem dX6_playOn_17 : decode cX6_playOn 17 = .ok (.if_icmp .ge 37, 3) := by decide +kernel
theorem dX6_playOn_20 : decode cX6_playOn 20 = .ok (.aload_n 0, 1) := by decide +kernel
theorem dX6_playOn_21 : decode cX6_playOn 21 = .ok (.iload_n 3, 1) := by decide +kernel
theorem dX6_playOn_22 : decode cX6_playOn 22 = .ok (.putfield 273, 3) := by decide +kernel
theorem dX6_playOn_25 : decode cX6_playOn 25 = .ok (.iconst 0, 1) := by decide +kernel
theorem dX6_playOn_26 : decode cX6_playOn 26 = .ok (.istore 4, 2) := by decide +kernel
theorem dX6_playOn_28 : decode cX6_playOn 28 = .ok (.iload 4, 2) := by decide +kernel
theorem dX6_playOn_30 : decode cX6_playOn 30 = .ok (.iload_n 2, 1) := by decide +kernel
theorem dX6_playOn_31 : decode cX6_playOn 31 = .ok (.if_icmp .ge 23, 3) := by decide +kernel
theorem dX6_playOn_34 : decode cX6_playOn 34 = .ok (.aload_n 0, 1) := by decide +kernel
theorem dX6_playOn_35 : decode cX6_playOn 35 = .ok (.getfield 79, 3) := by decide +kernel
theorem dX6_playOn_38 : decode cX6_playOn 38 = .ok (.iload 4, 2) := by decide +kernel
theorem dX6_playOn_40 : decode cX6_playOn 40 = .ok (.aload_n 0, 1) := by decide +kernel
theorem dX6_playOn_41 : decode cX6_playOn 41 = .ok (.getfield 76, 3) := by decide +kernel
theorem dX6_playOn_44 : decode cX6_playOn 44 = .ok (.iload 4, 2) := by decide +kernel
theorem dX6_playOn_46 : decode cX6_playOn 46 = .ok (.iaload, 1) := by decide +kernel
theorem dX6_playOn_47 : decode cX6_playOn 47 = .ok (.iastore, 1) := by decide +kernel
theorem dX6_playOn_48 : decode cX6_playOn 48 = .ok (.iinc 4 1, 3) := by decide +kernel
theorem dX6_playOn_51 : decode cX6_playOn 51 = .ok (.goto (-23), 3) := by decide +kernel
theorem dX6_playOn_54 : decode cX6_playOn 54 = .ok (.return_, 1) := by decide +kernel
theorem dX6_playOn_55 : decode cX6_playOn 55 = .ok (.aload_n 0, 1) := by decide +kernel
theorem dX6_playOn_56 : decode cX6_playOn 56 = .ok (.aload_n 0, 1) := by decide +kernel
theorem dX6_playOn_57 : decode cX6_playOn 57 = .ok (.getfield 73, 3) := by decide +kernel
theorem dX6_playOn_60 : decode cX6_playOn 60 = .ok (.bipush 14, 2) := by decide +kernel
theorem dX6_playOn_62 : decode cX6_playOn 62 = .ok (.iload_n 1, 1) := by decide +kernel
theorem dX6_playOn_63 : decode cX6_playOn 63 = .ok (.imul, 1) := by decide +kernel
theorem dX6_playOn_64 : decode cX6_playOn 64 = .ok (.invokevirtual 204, 3) := by decide +kernel
theorem dX6_playOn_67 : decode cX6_playOn 67 = .ok (.iconst 0, 1) := by decide +kernel
theorem dX6_playOn_68 : decode cX6_playOn 68 = .ok (.istore 4, 2) := by decide +kernel
theorem dX6_playOn_70 : decode cX6_playOn 70 = .ok (.iload 4, 2) := by decide +kernel
theorem dX6_playOn_72 : decode cX6_playOn 72 = .ok (.aload_n 0, 1) := by decide +kernel
theorem dX6_playOn_73 : decode cX6_playOn 73 = .ok (.invokevirtual 217, 3) := by decide +kernel
theorem dX6_playOn_76 : decode cX6_playOn 76 = .ok (.if_icmp .ge 52, 3) := by decide +kernel
theorem dX6_playOn_79 : decode cX6_playOn 79 = .ok (.aload_n 0, 1) := by decide +kernel
theorem dX6_playOn_80 : decode cX6_playOn 80 = .ok (.getfield 76, 3) := by decide +kernel
theorem dX6_playOn_83 : decode cX6_playOn 83 = .ok (.iload_n 1, 1) := by decide +kernel
theorem dX6_playOn_84 : decode cX6_playOn 84 = .ok (.iload 4, 2) := by decide +kernel
theorem dX6_playOn_86 : decode cX6_playOn 86 = .ok (.iastore, 1) := by decide +kernel
theorem dX6_playOn_87 : decode cX6_playOn 87 = .ok (.aload_n 0, 1) := by decide +kernel
theorem dX6_playOn_88 : decode cX6_playOn 88 = .ok (.iload 4, 2) := by decide +kernel
theorem dX6_playOn_90 : decode cX6_playOn 90 = .ok (.invokevirtual 221, 3) := by decide +kernel
theorem dX6_playOn_93 : decode cX6_playOn 93 = .ok (.pop, 1) := by decide +kernel
theorem dX6_playOn_94 : decode cX6_playOn 94 = .ok (.aload_n 0, 1) := by decide +kernel
theorem dX6_playOn_95 : decode cX6_playOn 95 = .ok (.iload_n 1, 1) := by decide +kernel
theorem dX6_playOn_96 : decode cX6_playOn 96 = .ok (.iconst 1, 1) := by decide +kernel
theorem dX6_playOn_97 : decode cX6_playOn 97 = .ok (.iadd, 1) := by decide +kernel
theorem dX6_playOn_98 : decode cX6_playOn 98 = .ok (.iload_n 2, 1) := by decide +kernel
theorem dX6_playOn_99 : decode cX6_playOn 99 = .ok (.iload_n 3, 1) := by decide +kernel
theorem dX6_playOn_100 : decode cX6_playOn 100 = .ok (.aload_n 0, 1) := by decide +kernel
theorem dX6_playOn_101 : decode cX6_playOn 101 = .ok (.iload 4, 2) := by decide +kernel
theorem dX6_playOn_103 : decode cX6_playOn 103 = .ok (.invokevirtual 230, 3) := by decide +kernel
theorem dX6_playOn_106 : decode cX6_playOn 106 = .ok (.iadd, 1) := by decide +kernel
theorem dX6_playOn_107 : decode cX6_playOn 107 = .ok (.invokevirtual 276, 3) := by decide +kernel
theorem dX6_playOn_110 : decode cX6_playOn 110 = .ok (.aload_n 0, 1) := by decide +kernel
theorem dX6_playOn_111 : decode cX6_playOn 111 = .ok (.aload_n 0, 1) := by decide +kernel
theorem dX6_playOn_112 : decode cX6_playOn 112 = .ok (.getfield 73, 3) := by decide +kernel
theorem dX6_playOn_115 : decode cX6_playOn 115 = .ok (.bipush 14, 2) := by decide +kernel
theorem dX6_playOn_117 : decode cX6_playOn 117 = .ok (.iload_n 1, 1) := by decide +kernel
theorem dX6_playOn_118 : decode cX6_playOn 118 = .ok (.imul, 1) := by decide +kernel
theorem dX6_playOn_119 : decode cX6_playOn 119 = .ok (.invokevirtual 208, 3) := by decide +kernel
theorem dX6_playOn_122 : decode cX6_playOn 122 = .ok (.iinc 4 1, 3) := by decide +kernel
theorem dX6_playOn_125 : decode cX6_playOn 125 = .ok (.goto (-55), 3) := by decide +kernel
theorem dX6_playOn_128 : decode cX6_playOn 128 = .ok (.return_, 1) := by decide +kernel
theorem dX6_layBest_0 : decode cX6_layBest 0 = .ok (.aload_n 0, 1) := by decide +kernel
theorem dX6_layBest_1 : decode cX6_layBest 1 = .ok (.iload_n 1, 1) := by decide +kernel
theorem dX6_layBest_2 : decode cX6_layBest 2 = .ok (.iload_n 2, 1) := by decide +kernel
theorem dX6_layBest_3 : decode cX6_layBest 3 = .ok (.invokevirtual 233, 3) := by decide +kernel
theorem dX6_layBest_6 : decode cX6_layBest 6 = .ok (.pop, 1) := by decide +kernel
theorem dX6_layBest_7 : decode cX6_layBest 7 = .ok (.iconst 0, 1) := by decide +kernel
theorem dX6_layBest_8 : decode cX6_layBest 8 = .ok (.istore_n 3, 1) := by decide +kernel
theorem dX6_layBest_9 : decode cX6_layBest 9 = .ok (.iload_n 3, 1) := by decide +kernel
theorem dX6_layBest_10 : decode cX6_layBest 10 = .ok (.iload_n 2, 1) := by decide +kernel
theorem dX6_layBest_11 : decode cX6_layBest 11 = .ok (.if_icmp .ge 21, 3) := by decide +kernel
theorem dX6_layBest_14 : decode cX6_layBest 14 = .ok (.aload_n 0, 1) := by decide +kernel
theorem dX6_layBest_15 : decode cX6_layBest 15 = .ok (.iload_n 1, 1) := by decide +kernel
theorem dX6_layBest_16 : decode cX6_layBest 16 = .ok (.iload_n 3, 1) := by decide +kernel
theorem dX6_layBest_17 : decode cX6_layBest 17 = .ok (.aload_n 0, 1) := by decide +kernel
theorem dX6_layBest_18 : decode cX6_layBest 18 = .ok (.getfield 79, 3) := by decide +kernel
theorem dX6_layBest_21 : decode cX6_layBest 21 = .ok (.iload_n 3, 1) := by decide +kernel
theorem dX6_layBest_22 : decode cX6_layBest 22 = .ok (.iaload, 1) := by decide +kernel
theorem dX6_layBest_23 : decode cX6_layBest 23 = .ok (.invokevirtual 107, 3) := by decide +kernel
theorem dX6_layBest_26 : decode cX6_layBest 26 = .ok (.iinc 3 1, 3) := by decide +kernel
theorem dX6_layBest_29 : decode cX6_layBest 29 = .ok (.goto (-20), 3) := by decide +kernel
theorem dX6_layBest_32 : decode cX6_layBest 32 = .ok (.return_, 1) := by decide +kernel
theorem dX6_flat_0 : decode cX6_flat 0 = .ok (.aload_n 0, 1) := by decide +kernel
theorem dX6_flat_1 : decode cX6_flat 1 = .ok (.iload_n 1, 1) := by decide +kernel
theorem dX6_flat_2 : decode cX6_flat 2 = .ok (.invokevirtual 214, 3) := by decide +kernel
theorem dX6_flat_5 : decode cX6_flat 5 = .ok (.ifCond .eq 10, 3) := by decide +kernel
theorem dX6_flat_8 : decode cX6_flat 8 = .ok (.iload_n 2, 1) := by decide +kernel
theorem dX6_flat_9 : decode cX6_flat 9 = .ok (.invokestatic 96, 3) := by decide +kernel
theorem dX6_flat_12 : decode cX6_flat 12 = .ok (.ifCond .ne 5, 3) := by decide +kernel
theorem dX6_flat_15 : decode cX6_flat 15 = .ok (.iconst (-1), 1) := by decide +kernel
theorem dX6_flat_16 : decode cX6_flat 16 = .ok (.ireturn, 1) := by decide +kernel
theorem dX6_flat_17 : decode cX6_flat 17 = .ok (.aload_n 0, 1) := by decide +kernel
theorem dX6_flat_18 : decode cX6_flat 18 = .ok (.getfield 151, 3) := by decide +kernel
theorem dX6_flat_21 : decode cX6_flat 21 = .ok (.ifCond .ne 6, 3) := by decide +kernel
theorem dX6_flat_24 : decode cX6_flat 24 = .ok (.bipush (-4), 2) := by decide +kernel
theorem dX6_flat_26 : decode cX6_flat 26 = .ok (.ireturn, 1) := by decide +kernel
theorem dX6_flat_27 : decode cX6_flat 27 = .ok (.aload_n 0, 1) := by decide +kernel
theorem dX6_flat_28 : decode cX6_flat 28 = .ok (.iload_n 1, 1) := by decide +kernel
theorem dX6_flat_29 : decode cX6_flat 29 = .ok (.putfield 261, 3) := by decide +kernel
theorem dX6_flat_32 : decode cX6_flat 32 = .ok (.iconst 0, 1) := by decide +kernel
theorem dX6_flat_33 : decode cX6_flat 33 = .ok (.istore_n 3, 1) := by decide +kernel
theorem dX6_flat_34 : decode cX6_flat 34 = .ok (.iload_n 3, 1) := by decide +kernel
theorem dX6_flat_35 : decode cX6_flat 35 = .ok (.iconst 3, 1) := by decide +kernel
theorem dX6_flat_36 : decode cX6_flat 36 = .ok (.if_icmp .gt 49, 3) := by decide +kernel
theorem dX6_flat_39 : decode cX6_flat 39 = .ok (.aload_n 0, 1) := by decide +kernel
theorem dX6_flat_40 : decode cX6_flat 40 = .ok (.ldc_w 279, 3) := by decide +kernel
theorem dX6_flat_43 : decode cX6_flat 43 = .ok (.putfield 273, 3) := by decide +kernel
theorem dX6_flat_46 : decode cX6_flat 46 = .ok (.aload_n 0, 1) := by decide +kernel
theorem dX6_flat_47 : decode cX6_flat 47 = .ok (.iconst 0, 1) := by decide +kernel
theorem dX6_flat_48 : decode cX6_flat 48 = .ok (.iload_n 3, 1) := by decide +kernel
theorem dX6_flat_49 : decode cX6_flat 49 = .ok (.iconst 0, 1) := by decide +kernel
theorem dX6_flat_50 : decode cX6_flat 50 = .ok (.invokevirtual 276, 3) := by decide +kernel
theorem dX6_flat_53 : decode cX6_flat 53 = .ok (.aload_n 0, 1) := by decide +kernel
theorem dX6_flat_54 : decode cX6_flat 54 = .ok (.getfield 273, 3) := by decide +kernel
theorem dX6_flat_57 : decode cX6_flat 57 = .ok (.ldc_w 279, 3) := by decide +kernel
theorem dX6_flat_60 : decode cX6_flat 60 = .ok (.if_icmp .ge 19, 3) := by decide +kernel
theorem dX6_flat_63 : decode cX6_flat 63 = .ok (.aload_n 0, 1) := by decide +kernel
theorem dX6_flat_64 : decode cX6_flat 64 = .ok (.iload_n 2, 1) := by decide +kernel
theorem dX6_flat_65 : decode cX6_flat 65 = .ok (.iload_n 3, 1) := by decide +kernel
theorem dX6_flat_66 : decode cX6_flat 66 = .ok (.invokevirtual 280, 3) := by decide +kernel
theorem dX6_flat_69 : decode cX6_flat 69 = .ok (.aload_n 0, 1) := by decide +kernel
theorem dX6_flat_70 : decode cX6_flat 70 = .ok (.aload_n 0, 1) := by decide +kernel
theorem dX6_flat_71 : decode cX6_flat 71 = .ok (.getfield 273, 3) := by decide +kernel
theorem dX6_flat_74 : decode cX6_flat 74 = .ok (.iload_n 3, 1) := by decide +kernel
theorem dX6_flat_75 : decode cX6_flat 75 = .ok (.invokevirtual 118, 3) := by decide +kernel
theorem dX6_flat_78 : decode cX6_flat 78 = .ok (.ireturn, 1) := by decide +kernel
theorem dX6_flat_79 : decode cX6_flat 79 = .ok (.iinc 3 1, 3) := by decide +kernel
theorem dX6_flat_82 : decode cX6_flat 82 = .ok (.goto (-48), 3) := by decide +kernel
theorem dX6_flat_85 : decode cX6_flat 85 = .ok (.bipush (-9), 2) := by decide +kernel
theorem dX6_flat_87 : decode cX6_flat 87 = .ok (.ireturn, 1) := by decide +kernel
theorem dX6_raise_0 : decode cX6_raise 0 = .ok (.aload_n 0, 1) := by decide +kernel
theorem dX6_raise_1 : decode cX6_raise 1 = .ok (.iload_n 1, 1) := by decide +kernel
theorem dX6_raise_2 : decode cX6_raise 2 = .ok (.invokevirtual 163, 3) := by decide +kernel
theorem dX6_raise_5 : decode cX6_raise 5 = .ok (.ifCond .eq 30, 3) := by decide +kernel
theorem dX6_raise_8 : decode cX6_raise 8 = .ok (.iload_n 2, 1) := by decide +kernel
theorem dX6_raise_9 : decode cX6_raise 9 = .ok (.iconst 0, 1) := by decide +kernel
theorem dX6_raise_10 : decode cX6_raise 10 = .ok (.bipush 99, 2) := by decide +kernel
theorem dX6_raise_12 : decode cX6_raise 12 = .ok (.invokestatic 92, 3) := by decide +kernel
theorem dX6_raise_15 : decode cX6_raise 15 = .ok (.ifCond .eq 20, 3) := by decide +kernel
theorem dX6_raise_18 : decode cX6_raise 18 = .ok (.iload_n 3, 1) := by decide +kernel
theorem dX6_raise_19 : decode cX6_raise 19 = .ok (.iconst 0, 1) := by decide +kernel
theorem dX6_raise_20 : decode cX6_raise 20 = .ok (.iconst 3, 1) := by decide +kernel
theorem dX6_raise_21 : decode cX6_raise 21 = .ok (.invokestatic 92, 3) := by decide +kernel
theorem dX6_raise_24 : decode cX6_raise 24 = .ok (.ifCond .eq 11, 3) := by decide +kernel
theorem dX6_raise_27 : decode cX6_raise 27 = .ok (.iload 4, 2) := by decide +kernel
theorem dX6_raise_29 : decode cX6_raise 29 = .ok (.invokestatic 96, 3) := by decide +kernel
theorem dX6_raise_32 : decode cX6_raise 32 = .ok (.ifCond .ne 5, 3) := by decide +kernel
theorem dX6_raise_35 : decode cX6_raise 35 = .ok (.iconst (-1), 1) := by decide +kernel
theorem dX6_raise_36 : decode cX6_raise 36 = .ok (.ireturn, 1) := by decide +kernel
theorem dX6_raise_37 : decode cX6_raise 37 = .ok (.aload_n 0, 1) := by decide +kernel
theorem dX6_raise_38 : decode cX6_raise 38 = .ok (.iconst (-1), 1) := by decide +kernel
theorem dX6_raise_39 : decode cX6_raise 39 = .ok (.putfield 261, 3) := by decide +kernel
theorem dX6_raise_42 : decode cX6_raise 42 = .ok (.aload_n 0, 1) := by decide +kernel
theorem dX6_raise_43 : decode cX6_raise 43 = .ok (.iload_n 1, 1) := by decide +kernel
theorem dX6_raise_44 : decode cX6_raise 44 = .ok (.putfield 264, 3) := by decide +kernel
theorem dX6_raise_47 : decode cX6_raise 47 = .ok (.aload_n 0, 1) := by decide +kernel
theorem dX6_raise_48 : decode cX6_raise 48 = .ok (.iload_n 2, 1) := by decide +kernel
theorem dX6_raise_49 : decode cX6_raise 49 = .ok (.putfield 267, 3) := by decide +kernel
theorem dX6_raise_52 : decode cX6_raise 52 = .ok (.aload_n 0, 1) := by decide +kernel
theorem dX6_raise_53 : decode cX6_raise 53 = .ok (.ldc_w 279, 3) := by decide +kernel
theorem dX6_raise_56 : decode cX6_raise 56 = .ok (.putfield 273, 3) := by decide +kernel
theorem dX6_raise_59 : decode cX6_raise 59 = .ok (.aload_n 0, 1) := by decide +kernel
theorem dX6_raise_60 : decode cX6_raise 60 = .ok (.iconst 0, 1) := by decide +kernel
theorem dX6_raise_61 : decode cX6_raise 61 = .ok (.iload_n 3, 1) := by decide +kernel
theorem dX6_raise_62 : decode cX6_raise 62 = .ok (.iconst 0, 1) := by decide +kernel
theorem dX6_raise_63 : decode cX6_raise 63 = .ok (.invokevirtual 276, 3) := by decide +kernel
theorem dX6_raise_66 : decode cX6_raise 66 = .ok (.aload_n 0, 1) := by decide +kernel
theorem dX6_raise_67 : decode cX6_raise 67 = .ok (.getfield 273, 3) := by decide +kernel
theorem dX6_raise_70 : decode cX6_raise 70 = .ok (.ldc_w 279, 3) := by decide +kernel
theorem dX6_raise_73 : decode cX6_raise 73 = .ok (.if_icmp .ne 6, 3) := by decide +kernel
theorem dX6_raise_76 : decode cX6_raise 76 = .ok (.bipush (-9), 2) := by decide +kernel
theorem dX6_raise_78 : decode cX6_raise 78 = .ok (.ireturn, 1) := by decide +kernel
theorem dX6_raise_79 : decode cX6_raise 79 = .ok (.aload_n 0, 1) := by decide +kernel
theorem dX6_raise_80 : decode cX6_raise 80 = .ok (.iload 4, 2) := by decide +kernel
theorem dX6_raise_82 : decode cX6_raise 82 = .ok (.iload_n 3, 1) := by decide +kernel
theorem dX6_raise_83 : decode cX6_raise 83 = .ok (.invokevirtual 280, 3) := by decide +kernel
theorem dX6_raise_86 : decode cX6_raise 86 = .ok (.aload_n 0, 1) := by decide +kernel
theorem dX6_raise_87 : decode cX6_raise 87 = .ok (.getfield 273, 3) := by decide +kernel
theorem dX6_raise_90 : decode cX6_raise 90 = .ok (.ireturn, 1) := by decide +kernel
theorem dX6_keeps_0 : decode cX6_keeps 0 = .ok (.aload_n 0, 1) := by decide +kernel
theorem dX6_keeps_1 : decode cX6_keeps 1 = .ok (.iload_n 1, 1) := by decide +kernel
theorem dX6_keeps_2 : decode cX6_keeps 2 = .ok (.invokevirtual 163, 3) := by decide +kernel
theorem dX6_keeps_5 : decode cX6_keeps 5 = .ok (.ifCond .ne 5, 3) := by decide +kernel
theorem dX6_keeps_8 : decode cX6_keeps 8 = .ok (.iconst (-1), 1) := by decide +kernel
theorem dX6_keeps_9 : decode cX6_keeps 9 = .ok (.ireturn, 1) := by decide +kernel
theorem dX6_keeps_10 : decode cX6_keeps 10 = .ok (.aload_n 0, 1) := by decide +kernel
theorem dX6_keeps_11 : decode cX6_keeps 11 = .ok (.invokevirtual 239, 3) := by decide +kernel
theorem dX6_keeps_14 : decode cX6_keeps 14 = .ok (.iconst 0, 1) := by decide +kernel
theorem dX6_keeps_15 : decode cX6_keeps 15 = .ok (.istore_n 2, 1) := by decide +kernel
theorem dX6_keeps_16 : decode cX6_keeps 16 = .ok (.iconst 0, 1) := by decide +kernel
theorem dX6_keeps_17 : decode cX6_keeps 17 = .ok (.istore_n 3, 1) := by decide +kernel
theorem dX6_keeps_18 : decode cX6_keeps 18 = .ok (.aload_n 0, 1) := by decide +kernel
theorem dX6_keeps_19 : decode cX6_keeps 19 = .ok (.getfield 28, 3) := by decide +kernel
theorem dX6_keeps_22 : decode cX6_keeps 22 = .ok (.iload_n 1, 1) := by decide +kernel
theorem dX6_keeps_23 : decode cX6_keeps 23 = .ok (.iaload, 1) := by decide +kernel
theorem dX6_keeps_24 : decode cX6_keeps 24 = .ok (.istore 4, 2) := by decide +kernel
theorem dX6_keeps_26 : decode cX6_keeps 26 = .ok (.iconst 1, 1) := by decide +kernel
theorem dX6_keeps_27 : decode cX6_keeps 27 = .ok (.istore 5, 2) := by decide +kernel
theorem dX6_keeps_29 : decode cX6_keeps 29 = .ok (.iload 5, 2) := by decide +kernel
theorem dX6_keeps_31 : decode cX6_keeps 31 = .ok (.aload_n 0, 1) := by decide +kernel
theorem dX6_keeps_32 : decode cX6_keeps 32 = .ok (.invokevirtual 217, 3) := by decide +kernel
theorem dX6_keeps_35 : decode cX6_keeps 35 = .ok (.if_icmp .ge 76, 3) := by decide +kernel
theorem dX6_keeps_38 : decode cX6_keeps 38 = .ok (.aload_n 0, 1) := by decide +kernel
theorem dX6_keeps_39 : decode cX6_keeps 39 = .ok (.iload 5, 2) := by decide +kernel
theorem dX6_keeps_41 : decode cX6_keeps 41 = .ok (.invokevirtual 221, 3) := by decide +kernel
theorem dX6_keeps_44 : decode cX6_keeps 44 = .ok (.pop, 1) := by decide +kernel
theorem dX6_keeps_45 : decode cX6_keeps 45 = .ok (.aload_n 0, 1) := by decide +kernel
theorem dX6_keeps_46 : decode cX6_keeps 46 = .ok (.getfield 28, 3) := by decide +kernel
theorem dX6_keeps_49 : decode cX6_keeps 49 = .ok (.iload_n 1, 1) := by decide +kernel
theorem dX6_keeps_50 : decode cX6_keeps 50 = .ok (.iaload, 1) := by decide +kernel
theorem dX6_keeps_51 : decode cX6_keeps 51 = .ok (.iload 4, 2) := by decide +kernel
theorem dX6_keeps_53 : decode cX6_keeps 53 = .ok (.if_icmp .ne 17, 3) := by decide +kernel
theorem dX6_keeps_56 : decode cX6_keeps 56 = .ok (.aload_n 0, 1) := by decide +kernel
theorem dX6_keeps_57 : decode cX6_keeps 57 = .ok (.iload 5, 2) := by decide +kernel
theorem dX6_keeps_59 : decode cX6_keeps 59 = .ok (.invokevirtual 230, 3) := by decide +kernel
theorem dX6_keeps_62 : decode cX6_keeps 62 = .ok (.iload_n 3, 1) := by decide +kernel
theorem dX6_keeps_63 : decode cX6_keeps 63 = .ok (.if_icmp .le 7, 3) := by decide +kernel
theorem dX6_keeps_66 : decode cX6_keeps 66 = .ok (.iconst 1, 1) := by decide +kernel
theorem dX6_keeps_67 : decode cX6_keeps 67 = .ok (.goto 4, 3) := by decide +kernel
theorem dX6_keeps_70 : decode cX6_keeps 70 = .ok (.iconst 0, 1) := by decide +kernel
theorem dX6_keeps_71 : decode cX6_keeps 71 = .ok (.istore 6, 2) := by decide +kernel
theorem dX6_keeps_73 : decode cX6_keeps 73 = .ok (.aload_n 0, 1) := by decide +kernel
theorem dX6_keeps_74 : decode cX6_keeps 74 = .ok (.invokevirtual 242, 3) := by decide +kernel
theorem dX6_keeps_77 : decode cX6_keeps 77 = .ok (.iload 6, 2) := by decide +kernel
theorem dX6_keeps_79 : decode cX6_keeps 79 = .ok (.ifCond .eq 8, 3) := by decide +kernel
theorem dX6_keeps_82 : decode cX6_keeps 82 = .ok (.iload 5, 2) := by decide +kernel
theorem dX6_keeps_84 : decode cX6_keeps 84 = .ok (.goto 4, 3) := by decide +kernel
theorem dX6_keeps_87 : decode cX6_keeps 87 = .ok (.iload_n 2, 1) := by decide +kernel
theorem dX6_keeps_88 : decode cX6_keeps 88 = .ok (.istore_n 2, 1) := by decide +kernel
theorem dX6_keeps_89 : decode cX6_keeps 89 = .ok (.iload 6, 2) := by decide +kernel
theorem dX6_keeps_91 : decode cX6_keeps 91 = .ok (.ifCond .eq 12, 3) := by decide +kernel
theorem dX6_keeps_94 : decode cX6_keeps 94 = .ok (.aload_n 0, 1) := by decide +kernel
theorem dX6_keeps_95 : decode cX6_keeps 95 = .ok (.iload 5, 2) := by decide +kernel
theorem dX6_keeps_97 : decode cX6_keeps 97 = .ok (.invokevirtual 230, 3) := by decide +kernel
theorem dX6_keeps_100 : decode cX6_keeps 100 = .ok (.goto 4, 3) := by decide +kernel
theorem dX6_keeps_103 : decode cX6_keeps 103 = .ok (.iload_n 3, 1) := by decide +kernel
theorem dX6_keeps_104 : decode cX6_keeps 104 = .ok (.istore_n 3, 1) := by decide +kernel
theorem dX6_keeps_105 : decode cX6_keeps 105 = .ok (.iinc 5 1, 3) := by decide +kernel
theorem dX6_keeps_108 : decode cX6_keeps 108 = .ok (.goto (-79), 3) := by decide +kernel
theorem dX6_keeps_111 : decode cX6_keeps 111 = .ok (.aload_n 0, 1) := by decide +kernel
theorem dX6_keeps_112 : decode cX6_keeps 112 = .ok (.iload_n 2, 1) := by decide +kernel
theorem dX6_keeps_113 : decode cX6_keeps 113 = .ok (.iload_n 3, 1) := by decide +kernel
theorem dX6_keeps_114 : decode cX6_keeps 114 = .ok (.invokevirtual 118, 3) := by decide +kernel
theorem dX6_keeps_117 : decode cX6_keeps 117 = .ok (.ireturn, 1) := by decide +kernel
theorem dX6_rivalOn_0 : decode cX6_rivalOn 0 = .ok (.iload 4, 2) := by decide +kernel
theorem dX6_rivalOn_2 : decode cX6_rivalOn 2 = .ok (.iload 5, 2) := by decide +kernel
theorem dX6_rivalOn_4 : decode cX6_rivalOn 4 = .ok (.if_icmp .ne 10, 3) := by decide +kernel
theorem dX6_rivalOn_7 : decode cX6_rivalOn 7 = .ok (.aload_n 0, 1) := by decide +kernel
theorem dX6_rivalOn_8 : decode cX6_rivalOn 8 = .ok (.getfield 28, 3) := by decide +kernel
theorem dX6_rivalOn_11 : decode cX6_rivalOn 11 = .ok (.iload_n 3, 1) := by decide +kernel
theorem dX6_rivalOn_12 : decode cX6_rivalOn 12 = .ok (.iaload, 1) := by decide +kernel
theorem dX6_rivalOn_13 : decode cX6_rivalOn 13 = .ok (.ireturn, 1) := by decide +kernel
theorem dX6_rivalOn_14 : decode cX6_rivalOn 14 = .ok (.aload_n 0, 1) := by decide +kernel
theorem dX6_rivalOn_15 : decode cX6_rivalOn 15 = .ok (.aload_n 0, 1) := by decide +kernel
theorem dX6_rivalOn_16 : decode cX6_rivalOn 16 = .ok (.getfield 73, 3) := by decide +kernel
theorem dX6_rivalOn_19 : decode cX6_rivalOn 19 = .ok (.bipush 14, 2) := by decide +kernel
theorem dX6_rivalOn_21 : decode cX6_rivalOn 21 = .ok (.iload 4, 2) := by decide +kernel
theorem dX6_rivalOn_23 : decode cX6_rivalOn 23 = .ok (.imul, 1) := by decide +kernel
theorem dX6_rivalOn_24 : decode cX6_rivalOn 24 = .ok (.invokevirtual 204, 3) := by decide +kernel
theorem dX6_rivalOn_27 : decode cX6_rivalOn 27 = .ok (.iload 4, 2) := by decide +kernel
theorem dX6_rivalOn_29 : decode cX6_rivalOn 29 = .ok (.iconst 2, 1) := by decide +kernel
theorem dX6_rivalOn_30 : decode cX6_rivalOn 30 = .ok (.irem, 1) := by decide +kernel
theorem dX6_rivalOn_31 : decode cX6_rivalOn 31 = .ok (.ifCond .ne 7, 3) := by decide +kernel
theorem dX6_rivalOn_34 : decode cX6_rivalOn 34 = .ok (.iconst 1, 1) := by decide +kernel
theorem dX6_rivalOn_35 : decode cX6_rivalOn 35 = .ok (.goto 4, 3) := by decide +kernel
theorem dX6_rivalOn_38 : decode cX6_rivalOn 38 = .ok (.iconst 0, 1) := by decide +kernel
theorem dX6_rivalOn_39 : decode cX6_rivalOn 39 = .ok (.istore 6, 2) := by decide +kernel
theorem dX6_rivalOn_41 : decode cX6_rivalOn 41 = .ok (.bipush (-9), 2) := by decide +kernel
theorem dX6_rivalOn_43 : decode cX6_rivalOn 43 = .ok (.istore 7, 2) := by decide +kernel
theorem dX6_rivalOn_45 : decode cX6_rivalOn 45 = .ok (.iconst 0, 1) := by decide +kernel
theorem dX6_rivalOn_46 : decode cX6_rivalOn 46 = .ok (.istore 8, 2) := by decide +kernel
theorem dX6_rivalOn_48 : decode cX6_rivalOn 48 = .ok (.iconst 0, 1) := by decide +kernel
theorem dX6_rivalOn_49 : decode cX6_rivalOn 49 = .ok (.istore 9, 2) := by decide +kernel
theorem dX6_rivalOn_51 : decode cX6_rivalOn 51 = .ok (.iload 9, 2) := by decide +kernel
theorem dX6_rivalOn_53 : decode cX6_rivalOn 53 = .ok (.iconst 3, 1) := by decide +kernel
theorem dX6_rivalOn_54 : decode cX6_rivalOn 54 = .ok (.if_icmp .ge 118, 3) := by decide +kernel
theorem dX6_rivalOn_57 : decode cX6_rivalOn 57 = .ok (.aload_n 0, 1) := by decide +kernel
theorem dX6_rivalOn_58 : decode cX6_rivalOn 58 = .ok (.iload 6, 2) := by decide +kernel
theorem dX6_rivalOn_60 : decode cX6_rivalOn 60 = .ok (.ifCond .eq 7, 3) := by decide +kernel
theorem dX6_rivalOn_63 : decode cX6_rivalOn 63 = .ok (.iload_n 1, 1) := by decide +kernel
theorem dX6_rivalOn_64 : decode cX6_rivalOn 64 = .ok (.goto 4, 3) := by decide +kernel
theorem dX6_rivalOn_67 : decode cX6_rivalOn 67 = .ok (.iload_n 2, 1) := by decide +kernel
theorem dX6_rivalOn_68 : decode cX6_rivalOn 68 = .ok (.iload 9, 2) := by decide +kernel
theorem dX6_rivalOn_70 : decode cX6_rivalOn 70 = .ok (.invokevirtual 201, 3) := by decide +kernel
theorem dX6_rivalOn_73 : decode cX6_rivalOn 73 = .ok (.pop, 1) := by decide +kernel
theorem dX6_rivalOn_74 : decode cX6_rivalOn 74 = .ok (.aload_n 0, 1) := by decide +kernel
theorem dX6_rivalOn_75 : decode cX6_rivalOn 75 = .ok (.iload_n 1, 1) := by decide +kernel
theorem dX6_rivalOn_76 : decode cX6_rivalOn 76 = .ok (.iload_n 2, 1) := by decide +kernel
theorem dX6_rivalOn_77 : decode cX6_rivalOn 77 = .ok (.iload_n 3, 1) := by decide +kernel
theorem dX6_rivalOn_78 : decode cX6_rivalOn 78 = .ok (.iload 4, 2) := by decide +kernel
theorem dX6_rivalOn_80 : decode cX6_rivalOn 80 = .ok (.iconst 1, 1) := by decide +kernel
theorem dX6_rivalOn_81 : decode cX6_rivalOn 81 = .ok (.iadd, 1) := by decide +kernel
theorem dX6_rivalOn_82 : decode cX6_rivalOn 82 = .ok (.iload 5, 2) := by decide +kernel
theorem dX6_rivalOn_84 : decode cX6_rivalOn 84 = .ok (.invokevirtual 284, 3) := by decide +kernel
theorem dX6_rivalOn_87 : decode cX6_rivalOn 87 = .ok (.istore 10, 2) := by decide +kernel
theorem dX6_rivalOn_89 : decode cX6_rivalOn 89 = .ok (.aload_n 0, 1) := by decide +kernel
theorem dX6_rivalOn_90 : decode cX6_rivalOn 90 = .ok (.aload_n 0, 1) := by decide +kernel
theorem dX6_rivalOn_91 : decode cX6_rivalOn 91 = .ok (.getfield 73, 3) := by decide +kernel
theorem dX6_rivalOn_94 : decode cX6_rivalOn 94 = .ok (.bipush 14, 2) := by decide +kernel
theorem dX6_rivalOn_96 : decode cX6_rivalOn 96 = .ok (.iload 4, 2) := by decide +kernel
theorem dX6_rivalOn_98 : decode cX6_rivalOn 98 = .ok (.imul, 1) := by decide +kernel
theorem dX6_rivalOn_99 : decode cX6_rivalOn 99 = .ok (.invokevirtual 208, 3) := by decide +kernel
theorem dX6_rivalOn_102 : decode cX6_rivalOn 102 = .ok (.iload 7, 2) := by decide +kernel
theorem dX6_rivalOn_104 : decode cX6_rivalOn 104 = .ok (.bipush (-9), 2) := by decide +kernel
theorem dX6_rivalOn_106 : decode cX6_rivalOn 106 = .ok (.if_icmp .eq 25, 3) := by decide +kernel
theorem dX6_rivalOn_109 : decode cX6_rivalOn 109 = .ok (.iload 6, 2) := by decide +kernel
theorem dX6_rivalOn_111 : decode cX6_rivalOn 111 = .ok (.ifCond .eq 13, 3) := by decide +kernel
theorem dX6_rivalOn_114 : decode cX6_rivalOn 114 = .ok (.iload 10, 2) := by decide +kernel
theorem dX6_rivalOn_116 : decode cX6_rivalOn 116 = .ok (.iload 8, 2) := by decide +kernel
theorem dX6_rivalOn_118 : decode cX6_rivalOn 118 = .ok (.if_icmp .le 17, 3) := by decide +kernel
theorem dX6_rivalOn_121 : decode cX6_rivalOn 121 = .ok (.goto 10, 3) := by decide +kernel
theorem dX6_rivalOn_124 : decode cX6_rivalOn 124 = .ok (.iload 10, 2) := by decide +kernel
theorem dX6_rivalOn_126 : decode cX6_rivalOn 126 = .ok (.iload 8, 2) := by decide +kernel
theorem dX6_rivalOn_128 : decode cX6_rivalOn 128 = .ok (.if_icmp .ge 7, 3) := by decide +kernel
theorem dX6_rivalOn_131 : decode cX6_rivalOn 131 = .ok (.iconst 1, 1) := by decide +kernel
theorem dX6_rivalOn_132 : decode cX6_rivalOn 132 = .ok (.goto 4, 3) := by decide +kernel
theorem dX6_rivalOn_135 : decode cX6_rivalOn 135 = .ok (.iconst 0, 1) := by decide +kernel
theorem dX6_rivalOn_136 : decode cX6_rivalOn 136 = .ok (.istore 11, 2) := by decide +kernel
theorem dX6_rivalOn_138 : decode cX6_rivalOn 138 = .ok (.iload 11, 2) := by decide +kernel
theorem dX6_rivalOn_140 : decode cX6_rivalOn 140 = .ok (.ifCond .eq 8, 3) := by decide +kernel
theorem dX6_rivalOn_143 : decode cX6_rivalOn 143 = .ok (.iload 9, 2) := by decide +kernel
theorem dX6_rivalOn_145 : decode cX6_rivalOn 145 = .ok (.goto 5, 3) := by decide +kernel
theorem dX6_rivalOn_148 : decode cX6_rivalOn 148 = .ok (.iload 7, 2) := by decide +kernel
theorem dX6_rivalOn_150 : decode cX6_rivalOn 150 = .ok (.istore 7, 2) := by decide +kernel
theorem dX6_rivalOn_152 : decode cX6_rivalOn 152 = .ok (.iload 11, 2) := by decide +kernel
theorem dX6_rivalOn_154 : decode cX6_rivalOn 154 = .ok (.ifCond .eq 8, 3) := by decide +kernel
theorem dX6_rivalOn_157 : decode cX6_rivalOn 157 = .ok (.iload 10, 2) := by decide +kernel
theorem dX6_rivalOn_159 : decode cX6_rivalOn 159 = .ok (.goto 5, 3) := by decide +kernel
theorem dX6_rivalOn_162 : decode cX6_rivalOn 162 = .ok (.iload 8, 2) := by decide +kernel
theorem dX6_rivalOn_164 : decode cX6_rivalOn 164 = .ok (.istore 8, 2) := by decide +kernel
theorem dX6_rivalOn_166 : decode cX6_rivalOn 166 = .ok (.iinc 9 1, 3) := by decide +kernel
theorem dX6_rivalOn_169 : decode cX6_rivalOn 169 = .ok (.goto (-118), 3) := by decide +kernel
theorem dX6_rivalOn_172 : decode cX6_rivalOn 172 = .ok (.aload_n 0, 1) := by decide +kernel
theorem dX6_rivalOn_173 : decode cX6_rivalOn 173 = .ok (.iload 7, 2) := by decide +kernel
theorem dX6_rivalOn_175 : decode cX6_rivalOn 175 = .ok (.putfield 288, 3) := by decide +kernel
theorem dX6_rivalOn_178 : decode cX6_rivalOn 178 = .ok (.iload 8, 2) := by decide +kernel
theorem dX6_rivalOn_180 : decode cX6_rivalOn 180 = .ok (.ireturn, 1) := by decide +kernel
theorem dX6_rivals_0 : decode cX6_rivals 0 = .ok (.aload_n 0, 1) := by decide +kernel
theorem dX6_rivals_1 : decode cX6_rivals 1 = .ok (.iload_n 1, 1) := by decide +kernel
theorem dX6_rivals_2 : decode cX6_rivals 2 = .ok (.invokevirtual 179, 3) := by decide +kernel
theorem dX6_rivals_5 : decode cX6_rivals 5 = .ok (.ifCond .eq 35, 3) := by decide +kernel
theorem dX6_rivals_8 : decode cX6_rivals 8 = .ok (.aload_n 0, 1) := by decide +kernel
theorem dX6_rivals_9 : decode cX6_rivals 9 = .ok (.iload_n 2, 1) := by decide +kernel
theorem dX6_rivals_10 : decode cX6_rivals 10 = .ok (.invokevirtual 179, 3) := by decide +kernel
theorem dX6_rivals_13 : decode cX6_rivals 13 = .ok (.ifCond .eq 27, 3) := by decide +kernel
theorem dX6_rivals_16 : decode cX6_rivals 16 = .ok (.iload_n 1, 1) := by decide +kernel
theorem dX6_rivals_17 : decode cX6_rivals 17 = .ok (.iload_n 2, 1) := by decide +kernel
theorem dX6_rivals_18 : decode cX6_rivals 18 = .ok (.if_icmp .eq 22, 3) := by decide +kernel
theorem dX6_rivals_21 : decode cX6_rivals 21 = .ok (.aload_n 0, 1) := by decide +kernel
theorem dX6_rivals_22 : decode cX6_rivals 22 = .ok (.iload_n 3, 1) := by decide +kernel
theorem dX6_rivals_23 : decode cX6_rivals 23 = .ok (.invokevirtual 163, 3) := by decide +kernel
theorem dX6_rivals_26 : decode cX6_rivals 26 = .ok (.ifCond .eq 14, 3) := by decide +kernel
theorem dX6_rivals_29 : decode cX6_rivals 29 = .ok (.iload 4, 2) := by decide +kernel
theorem dX6_rivals_31 : decode cX6_rivals 31 = .ok (.iconst 0, 1) := by decide +kernel
theorem dX6_rivals_32 : decode cX6_rivals 32 = .ok (.bipush 6, 2) := by decide +kernel
theorem dX6_rivals_34 : decode cX6_rivals 34 = .ok (.invokestatic 92, 3) := by decide +kernel
theorem dX6_rivals_37 : decode cX6_rivals 37 = .ok (.ifCond .ne 5, 3) := by decide +kernel
theorem dX6_rivals_40 : decode cX6_rivals 40 = .ok (.iconst (-1), 1) := by decide +kernel
theorem dX6_rivals_41 : decode cX6_rivals 41 = .ok (.ireturn, 1) := by decide +kernel
theorem dX6_rivals_42 : decode cX6_rivals 42 = .ok (.aload_n 0, 1) := by decide +kernel
theorem dX6_rivals_43 : decode cX6_rivals 43 = .ok (.iconst 0, 1) := by decide +kernel
theorem dX6_rivals_44 : decode cX6_rivals 44 = .ok (.putfield 288, 3) := by decide +kernel
theorem dX6_rivals_47 : decode cX6_rivals 47 = .ok (.aload_n 0, 1) := by decide +kernel
theorem dX6_rivals_48 : decode cX6_rivals 48 = .ok (.iload_n 1, 1) := by decide +kernel
theorem dX6_rivals_49 : decode cX6_rivals 49 = .ok (.iload_n 2, 1) := by decide +kernel
theorem dX6_rivals_50 : decode cX6_rivals 50 = .ok (.iload_n 3, 1) := by decide +kernel
theorem dX6_rivals_51 : decode cX6_rivals 51 = .ok (.iconst 0, 1) := by decide +kernel
theorem dX6_rivals_52 : decode cX6_rivals 52 = .ok (.iload 4, 2) := by decide +kernel
theorem dX6_rivals_54 : decode cX6_rivals 54 = .ok (.invokevirtual 284, 3) := by decide +kernel
theorem dX6_rivals_57 : decode cX6_rivals 57 = .ok (.istore 5, 2) := by decide +kernel
theorem dX6_rivals_59 : decode cX6_rivals 59 = .ok (.aload_n 0, 1) := by decide +kernel
theorem dX6_rivals_60 : decode cX6_rivals 60 = .ok (.aload_n 0, 1) := by decide +kernel
theorem dX6_rivals_61 : decode cX6_rivals 61 = .ok (.getfield 288, 3) := by decide +kernel
theorem dX6_rivals_64 : decode cX6_rivals 64 = .ok (.iload 5, 2) := by decide +kernel
theorem dX6_rivals_66 : decode cX6_rivals 66 = .ok (.invokevirtual 118, 3) := by decide +kernel
theorem dX6_rivals_69 : decode cX6_rivals 69 = .ok (.ireturn, 1) := by decide +kernel
theorem dX6_isRowNow_0 : decode cX6_isRowNow 0 = .ok (.iconst 1, 1) := by decide +kernel
theorem dX6_isRowNow_1 : decode cX6_isRowNow 1 = .ok (.istore_n 2, 1) := by decide +kernel
theorem dX6_isRowNow_2 : decode cX6_isRowNow 2 = .ok (.iconst 0, 1) := by decide +kernel
theorem dX6_isRowNow_3 : decode cX6_isRowNow 3 = .ok (.istore_n 3, 1) := by decide +kernel
theorem dX6_isRowNow_4 : decode cX6_isRowNow 4 = .ok (.iload_n 3, 1) := by decide +kernel
theorem dX6_isRowNow_5 : decode cX6_isRowNow 5 = .ok (.aload_n 0, 1) := by decide +kernel
theorem dX6_isRowNow_6 : decode cX6_isRowNow 6 = .ok (.getfield 151, 3) := by decide +kernel
theorem dX6_isRowNow_9 : decode cX6_isRowNow 9 = .ok (.if_icmp .ge 34, 3) := by decide +kernel
theorem dX6_isRowNow_12 : decode cX6_isRowNow 12 = .ok (.iload_n 2, 1) := by decide +kernel
theorem dX6_isRowNow_13 : decode cX6_isRowNow 13 = .ok (.ifCond .eq 22, 3) := by decide +kernel
theorem dX6_isRowNow_16 : decode cX6_isRowNow 16 = .ok (.aload_n 0, 1) := by decide +kernel
theorem dX6_isRowNow_17 : decode cX6_isRowNow 17 = .ok (.getfield 28, 3) := by decide +kernel
theorem dX6_isRowNow_20 : decode cX6_isRowNow 20 = .ok (.iload_n 3, 1) := by decide +kernel
theorem dX6_isRowNow_21 : decode cX6_isRowNow 21 = .ok (.iaload, 1) := by decide +kernel
theorem dX6_isRowNow_22 : decode cX6_isRowNow 22 = .ok (.aload_n 0, 1) := by decide +kernel
theorem dX6_isRowNow_23 : decode cX6_isRowNow 23 = .ok (.iload_n 1, 1) := by decide +kernel
theorem dX6_isRowNow_24 : decode cX6_isRowNow 24 = .ok (.iload_n 3, 1) := by decide +kernel
theorem dX6_isRowNow_25 : decode cX6_isRowNow 25 = .ok (.invokevirtual 114, 3) := by decide +kernel
theorem dX6_isRowNow_28 : decode cX6_isRowNow 28 = .ok (.if_icmp .ne 7, 3) := by decide +kernel
theorem dX6_isRowNow_31 : decode cX6_isRowNow 31 = .ok (.iconst 1, 1) := by decide +kernel
theorem dX6_isRowNow_32 : decode cX6_isRowNow 32 = .ok (.goto 4, 3) := by decide +kernel
theorem dX6_isRowNow_35 : decode cX6_isRowNow 35 = .ok (.iconst 0, 1) := by decide +kernel
theorem dX6_isRowNow_36 : decode cX6_isRowNow 36 = .ok (.istore_n 2, 1) := by decide +kernel
theorem dX6_isRowNow_37 : decode cX6_isRowNow 37 = .ok (.iinc 3 1, 3) := by decide +kernel
theorem dX6_isRowNow_40 : decode cX6_isRowNow 40 = .ok (.goto (-36), 3) := by decide +kernel
theorem dX6_isRowNow_43 : decode cX6_isRowNow 43 = .ok (.iload_n 2, 1) := by decide +kernel
theorem dX6_isRowNow_44 : decode cX6_isRowNow 44 = .ok (.ireturn, 1) := by decide +kernel
theorem dX6_askedHeights_0 : decode cX6_askedHeights 0 = .ok (.aload_n 0, 1) := by decide +kernel
theorem dX6_askedHeights_1 : decode cX6_askedHeights 1 = .ok (.iload_n 1, 1) := by decide +kernel
theorem dX6_askedHeights_2 : decode cX6_askedHeights 2 = .ok (.invokevirtual 111, 3) := by decide +kernel
theorem dX6_askedHeights_5 : decode cX6_askedHeights 5 = .ok (.istore_n 2, 1) := by decide +kernel
theorem dX6_askedHeights_6 : decode cX6_askedHeights 6 = .ok (.iload_n 2, 1) := by decide +kernel
theorem dX6_askedHeights_7 : decode cX6_askedHeights 7 = .ok (.ifCond .ge 5, 3) := by decide +kernel
theorem dX6_askedHeights_10 : decode cX6_askedHeights 10 = .ok (.iload_n 2, 1) := by decide +kernel
theorem dX6_askedHeights_11 : decode cX6_askedHeights 11 = .ok (.ireturn, 1) := by decide +kernel
theorem dX6_askedHeights_12 : decode cX6_askedHeights 12 = .ok (.aload_n 0, 1) := by decide +kernel
theorem dX6_askedHeights_13 : decode cX6_askedHeights 13 = .ok (.getfield 13, 3) := by decide +kernel
theorem dX6_askedHeights_16 : decode cX6_askedHeights 16 = .ok (.iload_n 1, 1) := by decide +kernel
theorem dX6_askedHeights_17 : decode cX6_askedHeights 17 = .ok (.iaload, 1) := by decide +kernel
theorem dX6_askedHeights_18 : decode cX6_askedHeights 18 = .ok (.aload_n 0, 1) := by decide +kernel
theorem dX6_askedHeights_19 : decode cX6_askedHeights 19 = .ok (.getfield 151, 3) := by decide +kernel
theorem dX6_askedHeights_22 : decode cX6_askedHeights 22 = .ok (.if_icmp .eq 11, 3) := by decide +kernel
theorem dX6_askedHeights_25 : decode cX6_askedHeights 25 = .ok (.aload_n 0, 1) := by decide +kernel
theorem dX6_askedHeights_26 : decode cX6_askedHeights 26 = .ok (.iconst 5, 1) := by decide +kernel
theorem dX6_askedHeights_27 : decode cX6_askedHeights 27 = .ok (.invokevirtual 100, 3) := by decide +kernel
theorem dX6_askedHeights_30 : decode cX6_askedHeights 30 = .ok (.goto 4, 3) := by decide +kernel
theorem dX6_askedHeights_33 : decode cX6_askedHeights 33 = .ok (.iconst 0, 1) := by decide +kernel
theorem dX6_askedHeights_34 : decode cX6_askedHeights 34 = .ok (.ireturn, 1) := by decide +kernel
theorem dX6_setPlayed_0 : decode cX6_setPlayed 0 = .ok (.aload_n 0, 1) := by decide +kernel
theorem dX6_setPlayed_1 : decode cX6_setPlayed 1 = .ok (.iconst 0, 1) := by decide +kernel
theorem dX6_setPlayed_2 : decode cX6_setPlayed 2 = .ok (.putfield 291, 3) := by decide +kernel
theorem dX6_setPlayed_5 : decode cX6_setPlayed 5 = .ok (.aload_n 0, 1) := by decide +kernel
theorem dX6_setPlayed_6 : decode cX6_setPlayed 6 = .ok (.bipush (-9), 2) := by decide +kernel
theorem dX6_setPlayed_8 : decode cX6_setPlayed 8 = .ok (.putfield 294, 3) := by decide +kernel
theorem dX6_setPlayed_11 : decode cX6_setPlayed 11 = .ok (.iconst 0, 1) := by decide +kernel
theorem dX6_setPlayed_12 : decode cX6_setPlayed 12 = .ok (.istore_n 2, 1) := by decide +kernel
theorem dX6_setPlayed_13 : decode cX6_setPlayed 13 = .ok (.iload_n 2, 1) := by decide +kernel
theorem dX6_setPlayed_14 : decode cX6_setPlayed 14 = .ok (.iconst 3, 1) := by decide +kernel
theorem dX6_setPlayed_15 : decode cX6_setPlayed 15 = .ok (.if_icmp .ge 16, 3) := by decide +kernel
theorem dX6_setPlayed_18 : decode cX6_setPlayed 18 = .ok (.aload_n 0, 1) := by decide +kernel
theorem dX6_setPlayed_19 : decode cX6_setPlayed 19 = .ok (.getfield 82, 3) := by decide +kernel
theorem dX6_setPlayed_22 : decode cX6_setPlayed 22 = .ok (.iload_n 2, 1) := by decide +kernel
theorem dX6_setPlayed_23 : decode cX6_setPlayed 23 = .ok (.iconst 0, 1) := by decide +kernel
theorem dX6_setPlayed_24 : decode cX6_setPlayed 24 = .ok (.iastore, 1) := by decide +kernel
theorem dX6_setPlayed_25 : decode cX6_setPlayed 25 = .ok (.iinc 2 1, 3) := by decide +kernel
theorem dX6_setPlayed_28 : decode cX6_setPlayed 28 = .ok (.goto (-15), 3) := by decide +kernel
theorem dX6_setPlayed_31 : decode cX6_setPlayed 31 = .ok (.aload_n 0, 1) := by decide +kernel
theorem dX6_setPlayed_32 : decode cX6_setPlayed 32 = .ok (.invokevirtual 239, 3) := by decide +kernel
theorem dX6_setPlayed_35 : decode cX6_setPlayed 35 = .ok (.iconst 0, 1) := by decide +kernel
theorem dX6_setPlayed_36 : decode cX6_setPlayed 36 = .ok (.istore_n 2, 1) := by decide +kernel
theorem dX6_setPlayed_37 : decode cX6_setPlayed 37 = .ok (.iload_n 2, 1) := by decide +kernel
theorem dX6_setPlayed_38 : decode cX6_setPlayed 38 = .ok (.aload_n 0, 1) := by decide +kernel
theorem dX6_setPlayed_39 : decode cX6_setPlayed 39 = .ok (.invokevirtual 217, 3) := by decide +kernel
theorem dX6_setPlayed_42 : decode cX6_setPlayed 42 = .ok (.if_icmp .ge 110, 3) := by decide +kernel
theorem dX6_setPlayed_45 : decode cX6_setPlayed 45 = .ok (.aload_n 0, 1) := by decide +kernel
theorem dX6_setPlayed_46 : decode cX6_setPlayed 46 = .ok (.iload_n 2, 1) := by decide +kernel
theorem dX6_setPlayed_47 : decode cX6_setPlayed 47 = .ok (.invokevirtual 221, 3) := by decide +kernel
theorem dX6_setPlayed_50 : decode cX6_setPlayed 50 = .ok (.pop, 1) := by decide +kernel
theorem dX6_setPlayed_51 : decode cX6_setPlayed 51 = .ok (.aload_n 0, 1) := by decide +kernel
theorem dX6_setPlayed_52 : decode cX6_setPlayed 52 = .ok (.iload_n 1, 1) := by decide +kernel
theorem dX6_setPlayed_53 : decode cX6_setPlayed 53 = .ok (.invokevirtual 297, 3) := by decide +kernel
theorem dX6_setPlayed_56 : decode cX6_setPlayed 56 = .ok (.istore_n 3, 1) := by decide +kernel
theorem dX6_setPlayed_57 : decode cX6_setPlayed 57 = .ok (.aload_n 0, 1) := by decide +kernel
theorem dX6_setPlayed_58 : decode cX6_setPlayed 58 = .ok (.invokevirtual 242, 3) := by decide +kernel
theorem dX6_setPlayed_61 : decode cX6_setPlayed 61 = .ok (.aload_n 0, 1) := by decide +kernel
theorem dX6_setPlayed_62 : decode cX6_setPlayed 62 = .ok (.iload_n 3, 1) := by decide +kernel
theorem dX6_setPlayed_63 : decode cX6_setPlayed 63 = .ok (.ifCond .eq 14, 3) := by decide +kernel
theorem dX6_setPlayed_66 : decode cX6_setPlayed 66 = .ok (.aload_n 0, 1) := by decide +kernel
theorem dX6_setPlayed_67 : decode cX6_setPlayed 67 = .ok (.getfield 291, 3) := by decide +kernel
theorem dX6_setPlayed_70 : decode cX6_setPlayed 70 = .ok (.ifCond .ne 7, 3) := by decide +kernel
theorem dX6_setPlayed_73 : decode cX6_setPlayed 73 = .ok (.iload_n 2, 1) := by decide +kernel
theorem dX6_setPlayed_74 : decode cX6_setPlayed 74 = .ok (.goto 7, 3) := by decide +kernel
theorem dX6_setPlayed_77 : decode cX6_setPlayed 77 = .ok (.aload_n 0, 1) := by decide +kernel
theorem dX6_setPlayed_78 : decode cX6_setPlayed 78 = .ok (.getfield 294, 3) := by decide +kernel
theorem dX6_setPlayed_81 : decode cX6_setPlayed 81 = .ok (.putfield 294, 3) := by decide +kernel
theorem dX6_setPlayed_84 : decode cX6_setPlayed 84 = .ok (.aload_n 0, 1) := by decide +kernel
theorem dX6_setPlayed_85 : decode cX6_setPlayed 85 = .ok (.dup, 1) := by decide +kernel
theorem dX6_setPlayed_86 : decode cX6_setPlayed 86 = .ok (.getfield 291, 3) := by decide +kernel
theorem dX6_setPlayed_89 : decode cX6_setPlayed 89 = .ok (.iload_n 3, 1) := by decide +kernel
theorem dX6_setPlayed_90 : decode cX6_setPlayed 90 = .ok (.ifCond .eq 7, 3) := by decide +kernel
theorem dX6_setPlayed_93 : decode cX6_setPlayed 93 = .ok (.iconst 1, 1) := by decide +kernel
theorem dX6_setPlayed_94 : decode cX6_setPlayed 94 = .ok (.goto 4, 3) := by decide +kernel
theorem dX6_setPlayed_97 : decode cX6_setPlayed 97 = .ok (.iconst 0, 1) := by decide +kernel
theorem dX6_setPlayed_98 : decode cX6_setPlayed 98 = .ok (.iadd, 1) := by decide +kernel
theorem dX6_setPlayed_99 : decode cX6_setPlayed 99 = .ok (.putfield 291, 3) := by decide +kernel
theorem dX6_setPlayed_102 : decode cX6_setPlayed 102 = .ok (.iconst 0, 1) := by decide +kernel
theorem dX6_setPlayed_103 : decode cX6_setPlayed 103 = .ok (.istore 4, 2) := by decide +kernel
theorem dX6_setPlayed_105 : decode cX6_setPlayed 105 = .ok (.iload 4, 2) := by decide +kernel
theorem dX6_setPlayed_107 : decode cX6_setPlayed 107 = .ok (.aload_n 0, 1) := by decide +kernel
theorem dX6_setPlayed_108 : decode cX6_setPlayed 108 = .ok (.getfield 154, 3) := by decide +kernel
theorem dX6_setPlayed_111 : decode cX6_setPlayed 111 = .ok (.if_icmp .ge 35, 3) := by decide +kernel
theorem dX6_setPlayed_114 : decode cX6_setPlayed 114 = .ok (.aload_n 0, 1) := by decide +kernel
theorem dX6_setPlayed_115 : decode cX6_setPlayed 115 = .ok (.getfield 82, 3) := by decide +kernel
theorem dX6_setPlayed_118 : decode cX6_setPlayed 118 = .ok (.iload 4, 2) := by decide +kernel
theorem dX6_setPlayed_120 : decode cX6_setPlayed 120 = .ok (.dup2, 1) := by decide +kernel
theorem dX6_setPlayed_121 : decode cX6_setPlayed 121 = .ok (.iaload, 1) := by decide +kernel
theorem dX6_setPlayed_122 : decode cX6_setPlayed 122 = .ok (.iload_n 3, 1) := by decide +kernel
theorem dX6_setPlayed_123 : decode cX6_setPlayed 123 = .ok (.ifCond .eq 14, 3) := by decide +kernel
theorem dX6_setPlayed_126 : decode cX6_setPlayed 126 = .ok (.iconst 1, 1) := by decide +kernel
theorem dX6_setPlayed_127 : decode cX6_setPlayed 127 = .ok (.iload_n 2, 1) := by decide +kernel
theorem dX6_setPlayed_128 : decode cX6_setPlayed 128 = .ok (.iload 4, 2) := by decide +kernel
theorem dX6_setPlayed_130 : decode cX6_setPlayed 130 = .ok (.invokestatic 198, 3) := by decide +kernel
theorem dX6_setPlayed_133 : decode cX6_setPlayed 133 = .ok (.ishl, 1) := by decide +kernel
theorem dX6_setPlayed_134 : decode cX6_setPlayed 134 = .ok (.goto 4, 3) := by decide +kernel
theorem dX6_setPlayed_137 : decode cX6_setPlayed 137 = .ok (.iconst 0, 1) := by decide +kernel
theorem dX6_setPlayed_138 : decode cX6_setPlayed 138 = .ok (.ior, 1) := by decide +kernel
theorem dX6_setPlayed_139 : decode cX6_setPlayed 139 = .ok (.iastore, 1) := by decide +kernel
theorem dX6_setPlayed_140 : decode cX6_setPlayed 140 = .ok (.iinc 4 1, 3) := by decide +kernel
theorem dX6_setPlayed_143 : decode cX6_setPlayed 143 = .ok (.goto (-38), 3) := by decide +kernel
theorem dX6_setPlayed_146 : decode cX6_setPlayed 146 = .ok (.iinc 2 1, 3) := by decide +kernel
theorem dX6_setPlayed_149 : decode cX6_setPlayed 149 = .ok (.goto (-112), 3) := by decide +kernel
theorem dX6_setPlayed_152 : decode cX6_setPlayed 152 = .ok (.return_, 1) := by decide +kernel
theorem dX6_askedPlayed_0 : decode cX6_askedPlayed 0 = .ok (.iload_n 1, 1) := by decide +kernel
theorem dX6_askedPlayed_1 : decode cX6_askedPlayed 1 = .ok (.invokestatic 96, 3) := by decide +kernel
theorem dX6_askedPlayed_4 : decode cX6_askedPlayed 4 = .ok (.ifCond .ne 7, 3) := by decide +kernel
theorem dX6_askedPlayed_7 : decode cX6_askedPlayed 7 = .ok (.iconst (-1), 1) := by decide +kernel
theorem dX6_askedPlayed_8 : decode cX6_askedPlayed 8 = .ok (.goto 20, 3) := by decide +kernel
theorem dX6_askedPlayed_11 : decode cX6_askedPlayed 11 = .ok (.aload_n 0, 1) := by decide +kernel
theorem dX6_askedPlayed_12 : decode cX6_askedPlayed 12 = .ok (.getfield 151, 3) := by decide +kernel
theorem dX6_askedPlayed_15 : decode cX6_askedPlayed 15 = .ok (.ifCond .ne 8, 3) := by decide +kernel
theorem dX6_askedPlayed_18 : decode cX6_askedPlayed 18 = .ok (.bipush (-4), 2) := by decide +kernel
theorem dX6_askedPlayed_20 : decode cX6_askedPlayed 20 = .ok (.goto 8, 3) := by decide +kernel
theorem dX6_askedPlayed_23 : decode cX6_askedPlayed 23 = .ok (.aload_n 0, 1) := by decide +kernel
theorem dX6_askedPlayed_24 : decode cX6_askedPlayed 24 = .ok (.iload_n 1, 1) := by decide +kernel
theorem dX6_askedPlayed_25 : decode cX6_askedPlayed 25 = .ok (.invokevirtual 300, 3) := by decide +kernel
theorem dX6_askedPlayed_28 : decode cX6_askedPlayed 28 = .ok (.ireturn, 1) := by decide +kernel
theorem dX6_played_0 : decode cX6_played 0 = .ok (.aload_n 0, 1) := by decide +kernel
theorem dX6_played_1 : decode cX6_played 1 = .ok (.iload_n 1, 1) := by decide +kernel
theorem dX6_played_2 : decode cX6_played 2 = .ok (.invokevirtual 303, 3) := by decide +kernel
theorem dX6_played_5 : decode cX6_played 5 = .ok (.istore_n 2, 1) := by decide +kernel
theorem dX6_played_6 : decode cX6_played 6 = .ok (.iload_n 2, 1) := by decide +kernel
theorem dX6_played_7 : decode cX6_played 7 = .ok (.ifCond .ge 5, 3) := by decide +kernel
theorem dX6_played_10 : decode cX6_played 10 = .ok (.iload_n 2, 1) := by decide +kernel
theorem dX6_played_11 : decode cX6_played 11 = .ok (.ireturn, 1) := by decide +kernel
theorem dX6_played_12 : decode cX6_played 12 = .ok (.aload_n 0, 1) := by decide +kernel
theorem dX6_played_13 : decode cX6_played 13 = .ok (.iload_n 1, 1) := by decide +kernel
theorem dX6_played_14 : decode cX6_played 14 = .ok (.invokevirtual 306, 3) := by decide +kernel
theorem dX6_played_17 : decode cX6_played 17 = .ok (.aload_n 0, 1) := by decide +kernel
theorem dX6_played_18 : decode cX6_played 18 = .ok (.aload_n 0, 1) := by decide +kernel
theorem dX6_played_19 : decode cX6_played 19 = .ok (.getfield 294, 3) := by decide +kernel
theorem dX6_played_22 : decode cX6_played 22 = .ok (.aload_n 0, 1) := by decide +kernel
theorem dX6_played_23 : decode cX6_played 23 = .ok (.getfield 291, 3) := by decide +kernel
theorem dX6_played_26 : decode cX6_played 26 = .ok (.invokevirtual 118, 3) := by decide +kernel
theorem dX6_played_29 : decode cX6_played 29 = .ok (.ireturn, 1) := by decide +kernel
theorem dX6_could_0 : decode cX6_could 0 = .ok (.aload_n 0, 1) := by decide +kernel
theorem dX6_could_1 : decode cX6_could 1 = .ok (.iload_n 1, 1) := by decide +kernel
theorem dX6_could_2 : decode cX6_could 2 = .ok (.invokevirtual 179, 3) := by decide +kernel
theorem dX6_could_5 : decode cX6_could 5 = .ok (.ifCond .eq 10, 3) := by decide +kernel
theorem dX6_could_8 : decode cX6_could 8 = .ok (.iload_n 2, 1) := by decide +kernel
theorem dX6_could_9 : decode cX6_could 9 = .ok (.invokestatic 96, 3) := by decide +kernel
theorem dX6_could_12 : decode cX6_could 12 = .ok (.ifCond .ne 5, 3) := by decide +kernel
theorem dX6_could_15 : decode cX6_could 15 = .ok (.iconst (-1), 1) := by decide +kernel
theorem dX6_could_16 : decode cX6_could 16 = .ok (.ireturn, 1) := by decide +kernel
theorem dX6_could_17 : decode cX6_could 17 = .ok (.aload_n 0, 1) := by decide +kernel
theorem dX6_could_18 : decode cX6_could 18 = .ok (.iload_n 2, 1) := by decide +kernel
theorem dX6_could_19 : decode cX6_could 19 = .ok (.invokevirtual 300, 3) := by decide +kernel
theorem dX6_could_22 : decode cX6_could 22 = .ok (.istore_n 3, 1) := by decide +kernel
theorem dX6_could_23 : decode cX6_could 23 = .ok (.iload_n 3, 1) := by decide +kernel
theorem dX6_could_24 : decode cX6_could 24 = .ok (.ifCond .ge 5, 3) := by decide +kernel
theorem dX6_could_27 : decode cX6_could 27 = .ok (.iload_n 3, 1) := by decide +kernel
theorem dX6_could_28 : decode cX6_could 28 = .ok (.ireturn, 1) := by decide +kernel
theorem dX6_could_29 : decode cX6_could 29 = .ok (.aload_n 0, 1) := by decide +kernel
theorem dX6_could_30 : decode cX6_could 30 = .ok (.iload_n 2, 1) := by decide +kernel
theorem dX6_could_31 : decode cX6_could 31 = .ok (.invokevirtual 306, 3) := by decide +kernel
theorem dX6_could_34 : decode cX6_could 34 = .ok (.aload_n 0, 1) := by decide +kernel
theorem dX6_could_35 : decode cX6_could 35 = .ok (.getfield 82, 3) := by decide +kernel
theorem dX6_could_38 : decode cX6_could 38 = .ok (.iload_n 1, 1) := by decide +kernel
theorem dX6_could_39 : decode cX6_could 39 = .ok (.iaload, 1) := by decide +kernel
theorem dX6_could_40 : decode cX6_could 40 = .ok (.ireturn, 1) := by decide +kernel
theorem dX6_twice_0 : decode cX6_twice 0 = .ok (.aload_n 0, 1) := by decide +kernel
theorem dX6_twice_1 : decode cX6_twice 1 = .ok (.iload_n 1, 1) := by decide +kernel
theorem dX6_twice_2 : decode cX6_twice 2 = .ok (.invokevirtual 303, 3) := by decide +kernel
theorem dX6_twice_5 : decode cX6_twice 5 = .ok (.istore_n 2, 1) := by decide +kernel
theorem dX6_twice_6 : decode cX6_twice 6 = .ok (.iload_n 2, 1) := by decide +kernel
theorem dX6_twice_7 : decode cX6_twice 7 = .ok (.ifCond .ge 5, 3) := by decide +kernel
theorem dX6_twice_10 : decode cX6_twice 10 = .ok (.iload_n 2, 1) := by decide +kernel
theorem dX6_twice_11 : decode cX6_twice 11 = .ok (.ireturn, 1) := by decide +kernel
theorem dX6_twice_12 : decode cX6_twice 12 = .ok (.iconst 0, 1) := by decide +kernel
theorem dX6_twice_13 : decode cX6_twice 13 = .ok (.istore_n 3, 1) := by decide +kernel
theorem dX6_twice_14 : decode cX6_twice 14 = .ok (.bipush (-9), 2) := by decide +kernel
theorem dX6_twice_16 : decode cX6_twice 16 = .ok (.istore 4, 2) := by decide +kernel
theorem dX6_twice_18 : decode cX6_twice 18 = .ok (.aload_n 0, 1) := by decide +kernel
theorem dX6_twice_19 : decode cX6_twice 19 = .ok (.aload_n 0, 1) := by decide +kernel
theorem dX6_twice_20 : decode cX6_twice 20 = .ok (.getfield 73, 3) := by decide +kernel
theorem dX6_twice_23 : decode cX6_twice 23 = .ok (.iconst 0, 1) := by decide +kernel
theorem dX6_twice_24 : decode cX6_twice 24 = .ok (.invokevirtual 204, 3) := by decide +kernel
theorem dX6_twice_27 : decode cX6_twice 27 = .ok (.iconst 0, 1) := by decide +kernel
theorem dX6_twice_28 : decode cX6_twice 28 = .ok (.istore 5, 2) := by decide +kernel
theorem dX6_twice_30 : decode cX6_twice 30 = .ok (.iload 5, 2) := by decide +kernel
theorem dX6_twice_32 : decode cX6_twice 32 = .ok (.aload_n 0, 1) := by decide +kernel
theorem dX6_twice_33 : decode cX6_twice 33 = .ok (.invokevirtual 217, 3) := by decide +kernel
theorem dX6_twice_36 : decode cX6_twice 36 = .ok (.if_icmp .ge 66, 3) := by decide +kernel
theorem dX6_twice_39 : decode cX6_twice 39 = .ok (.aload_n 0, 1) := by decide +kernel
theorem dX6_twice_40 : decode cX6_twice 40 = .ok (.iload 5, 2) := by decide +kernel
theorem dX6_twice_42 : decode cX6_twice 42 = .ok (.invokevirtual 221, 3) := by decide +kernel
theorem dX6_twice_45 : decode cX6_twice 45 = .ok (.pop, 1) := by decide +kernel
theorem dX6_twice_46 : decode cX6_twice 46 = .ok (.aload_n 0, 1) := by decide +kernel
theorem dX6_twice_47 : decode cX6_twice 47 = .ok (.iload_n 1, 1) := by decide +kernel
theorem dX6_twice_48 : decode cX6_twice 48 = .ok (.invokevirtual 306, 3) := by decide +kernel
theorem dX6_twice_51 : decode cX6_twice 51 = .ok (.aload_n 0, 1) := by decide +kernel
theorem dX6_twice_52 : decode cX6_twice 52 = .ok (.aload_n 0, 1) := by decide +kernel
theorem dX6_twice_53 : decode cX6_twice 53 = .ok (.getfield 73, 3) := by decide +kernel
theorem dX6_twice_56 : decode cX6_twice 56 = .ok (.iconst 0, 1) := by decide +kernel
theorem dX6_twice_57 : decode cX6_twice 57 = .ok (.invokevirtual 208, 3) := by decide +kernel
theorem dX6_twice_60 : decode cX6_twice 60 = .ok (.iload_n 3, 1) := by decide +kernel
theorem dX6_twice_61 : decode cX6_twice 61 = .ok (.ifCond .ne 24, 3) := by decide +kernel
theorem dX6_twice_64 : decode cX6_twice 64 = .ok (.aload_n 0, 1) := by decide +kernel
theorem dX6_twice_65 : decode cX6_twice 65 = .ok (.getfield 291, 3) := by decide +kernel
theorem dX6_twice_68 : decode cX6_twice 68 = .ok (.ifCond .le 17, 3) := by decide +kernel
theorem dX6_twice_71 : decode cX6_twice 71 = .ok (.sipush 1000, 3) := by decide +kernel
theorem dX6_twice_74 : decode cX6_twice 74 = .ok (.iload 5, 2) := by decide +kernel
theorem dX6_twice_76 : decode cX6_twice 76 = .ok (.imul, 1) := by decide +kernel
theorem dX6_twice_77 : decode cX6_twice 77 = .ok (.aload_n 0, 1) := by decide +kernel
theorem dX6_twice_78 : decode cX6_twice 78 = .ok (.getfield 294, 3) := by decide +kernel
theorem dX6_twice_81 : decode cX6_twice 81 = .ok (.iadd, 1) := by decide +kernel
theorem dX6_twice_82 : decode cX6_twice 82 = .ok (.goto 5, 3) := by decide +kernel
theorem dX6_twice_85 : decode cX6_twice 85 = .ok (.iload 4, 2) := by decide +kernel
theorem dX6_twice_87 : decode cX6_twice 87 = .ok (.istore 4, 2) := by decide +kernel
theorem dX6_twice_89 : decode cX6_twice 89 = .ok (.iload_n 3, 1) := by decide +kernel
theorem dX6_twice_90 : decode cX6_twice 90 = .ok (.aload_n 0, 1) := by decide +kernel
theorem dX6_twice_91 : decode cX6_twice 91 = .ok (.getfield 291, 3) := by decide +kernel
theorem dX6_twice_94 : decode cX6_twice 94 = .ok (.iadd, 1) := by decide +kernel
theorem dX6_twice_95 : decode cX6_twice 95 = .ok (.istore_n 3, 1) := by decide +kernel
theorem dX6_twice_96 : decode cX6_twice 96 = .ok (.iinc 5 1, 3) := by decide +kernel
theorem dX6_twice_99 : decode cX6_twice 99 = .ok (.goto (-69), 3) := by decide +kernel
theorem dX6_twice_102 : decode cX6_twice 102 = .ok (.aload_n 0, 1) := by decide +kernel
theorem dX6_twice_103 : decode cX6_twice 103 = .ok (.iload 4, 2) := by decide +kernel
theorem dX6_twice_105 : decode cX6_twice 105 = .ok (.iload_n 3, 1) := by decide +kernel
theorem dX6_twice_106 : decode cX6_twice 106 = .ok (.invokevirtual 118, 3) := by decide +kernel
theorem dX6_twice_109 : decode cX6_twice 109 = .ok (.ireturn, 1) := by decide +kernel
theorem dX6_valleys_0 : decode cX6_valleys 0 = .ok (.iconst 0, 1) := by decide +kernel
theorem dX6_valleys_1 : decode cX6_valleys 1 = .ok (.istore_n 1, 1) := by decide +kernel
theorem dX6_valleys_2 : decode cX6_valleys 2 = .ok (.iconst 0, 1) := by decide +kernel
theorem dX6_valleys_3 : decode cX6_valleys 3 = .ok (.istore_n 2, 1) := by decide +kernel
theorem dX6_valleys_4 : decode cX6_valleys 4 = .ok (.iconst 0, 1) := by decide +kernel
theorem dX6_valleys_5 : decode cX6_valleys 5 = .ok (.istore_n 3, 1) := by decide +kernel
theorem dX6_valleys_6 : decode cX6_valleys 6 = .ok (.iconst 0, 1) := by decide +kernel
theorem dX6_valleys_7 : decode cX6_valleys 7 = .ok (.istore 4, 2) := by decide +kernel
theorem dX6_valleys_9 : decode cX6_valleys 9 = .ok (.iload 4, 2) := by decide +kernel
theorem dX6_valleys_11 : decode cX6_valleys 11 = .ok (.aload_n 0, 1) := by decide +kernel
theorem dX6_valleys_12 : decode cX6_valleys 12 = .ok (.getfield 151, 3) := by decide +kernel
theorem dX6_valleys_15 : decode cX6_valleys 15 = .ok (.if_icmp .ge 51, 3) := by decide +kernel
theorem dX6_valleys_18 : decode cX6_valleys 18 = .ok (.aload_n 0, 1) := by decide +kernel
theorem dX6_valleys_19 : decode cX6_valleys 19 = .ok (.getfield 28, 3) := by decide +kernel
theorem dX6_valleys_22 : decode cX6_valleys 22 = .ok (.iload 4, 2) := by decide +kernel
theorem dX6_valleys_24 : decode cX6_valleys 24 = .ok (.iaload, 1) := by decide +kernel
theorem dX6_valleys_25 : decode cX6_valleys 25 = .ok (.ifCond .ne 9, 3) := by decide +kernel
theorem dX6_valleys_28 : decode cX6_valleys 28 = .ok (.iload_n 3, 1) := by decide +kernel
theorem dX6_valleys_29 : decode cX6_valleys 29 = .ok (.iconst 1, 1) := by decide +kernel
theorem dX6_valleys_30 : decode cX6_valleys 30 = .ok (.iadd, 1) := by decide +kernel
theorem dX6_valleys_31 : decode cX6_valleys 31 = .ok (.goto 4, 3) := by decide +kernel
theorem dX6_valleys_34 : decode cX6_valleys 34 = .ok (.iconst 0, 1) := by decide +kernel
theorem dX6_valleys_35 : decode cX6_valleys 35 = .ok (.istore_n 3, 1) := by decide +kernel
theorem dX6_valleys_36 : decode cX6_valleys 36 = .ok (.iload_n 1, 1) := by decide +kernel
theorem dX6_valleys_37 : decode cX6_valleys 37 = .ok (.iload_n 3, 1) := by decide +kernel
theorem dX6_valleys_38 : decode cX6_valleys 38 = .ok (.iconst 1, 1) := by decide +kernel
theorem dX6_valleys_39 : decode cX6_valleys 39 = .ok (.if_icmp .ne 7, 3) := by decide +kernel
theorem dX6_valleys_42 : decode cX6_valleys 42 = .ok (.iconst 1, 1) := by decide +kernel
theorem dX6_valleys_43 : decode cX6_valleys 43 = .ok (.goto 4, 3) := by decide +kernel
theorem dX6_valleys_46 : decode cX6_valleys 46 = .ok (.iconst 0, 1) := by decide +kernel
theorem dX6_valleys_47 : decode cX6_valleys 47 = .ok (.iadd, 1) := by decide +kernel
theorem dX6_valleys_48 : decode cX6_valleys 48 = .ok (.istore_n 1, 1) := by decide +kernel
theorem dX6_valleys_49 : decode cX6_valleys 49 = .ok (.iload_n 3, 1) := by decide +kernel
theorem dX6_valleys_50 : decode cX6_valleys 50 = .ok (.iload_n 2, 1) := by decide +kernel
theorem dX6_valleys_51 : decode cX6_valleys 51 = .ok (.if_icmp .le 7, 3) := by decide +kernel
theorem dX6_valleys_54 : decode cX6_valleys 54 = .ok (.iload_n 3, 1) := by decide +kernel
theorem dX6_valleys_55 : decode cX6_valleys 55 = .ok (.goto 4, 3) := by decide +kernel
theorem dX6_valleys_58 : decode cX6_valleys 58 = .ok (.iload_n 2, 1) := by decide +kernel
theorem dX6_valleys_59 : decode cX6_valleys 59 = .ok (.istore_n 2, 1) := by decide +kernel
theorem dX6_valleys_60 : decode cX6_valleys 60 = .ok (.iinc 4 1, 3) := by decide +kernel
theorem dX6_valleys_63 : decode cX6_valleys 63 = .ok (.goto (-54), 3) := by decide +kernel
theorem dX6_valleys_66 : decode cX6_valleys 66 = .ok (.aload_n 0, 1) := by decide +kernel
theorem dX6_valleys_67 : decode cX6_valleys 67 = .ok (.iload_n 2, 1) := by decide +kernel
theorem dX6_valleys_68 : decode cX6_valleys 68 = .ok (.iload_n 1, 1) := by decide +kernel
theorem dX6_valleys_69 : decode cX6_valleys 69 = .ok (.invokevirtual 118, 3) := by decide +kernel
theorem dX6_valleys_72 : decode cX6_valleys 72 = .ok (.ireturn, 1) := by decide +kernel
theorem dX6_top_0 : decode cX6_top 0 = .ok (.aload_n 0, 1) := by decide +kernel
theorem dX6_top_1 : decode cX6_top 1 = .ok (.getfield 151, 3) := by decide +kernel
theorem dX6_top_4 : decode cX6_top 4 = .ok (.ifCond .ne 6, 3) := by decide +kernel
theorem dX6_top_7 : decode cX6_top 7 = .ok (.bipush (-4), 2) := by decide +kernel
theorem dX6_top_9 : decode cX6_top 9 = .ok (.ireturn, 1) := by decide +kernel
theorem dX6_top_10 : decode cX6_top 10 = .ok (.aload_n 0, 1) := by decide +kernel
theorem dX6_top_11 : decode cX6_top 11 = .ok (.iconst 0, 1) := by decide +kernel
theorem dX6_top_12 : decode cX6_top 12 = .ok (.aload_n 0, 1) := by decide +kernel
theorem dX6_top_13 : decode cX6_top 13 = .ok (.getfield 151, 3) := by decide +kernel
theorem dX6_top_16 : decode cX6_top 16 = .ok (.iconst 1, 1) := by decide +kernel
theorem dX6_top_17 : decode cX6_top 17 = .ok (.isub, 1) := by decide +kernel
theorem dX6_top_18 : decode cX6_top 18 = .ok (.invokevirtual 245, 3) := by decide +kernel
theorem dX6_top_21 : decode cX6_top 21 = .ok (.istore_n 1, 1) := by decide +kernel
theorem dX6_top_22 : decode cX6_top 22 = .ok (.aload_n 0, 1) := by decide +kernel
theorem dX6_top_23 : decode cX6_top 23 = .ok (.aload_n 0, 1) := by decide +kernel
theorem dX6_top_24 : decode cX6_top 24 = .ok (.getfield 28, 3) := by decide +kernel
theorem dX6_top_27 : decode cX6_top 27 = .ok (.iload_n 1, 1) := by decide +kernel
theorem dX6_top_28 : decode cX6_top 28 = .ok (.iaload, 1) := by decide +kernel
theorem dX6_top_29 : decode cX6_top 29 = .ok (.iload_n 1, 1) := by decide +kernel
theorem dX6_top_30 : decode cX6_top 30 = .ok (.invokevirtual 118, 3) := by decide +kernel
theorem dX6_top_33 : decode cX6_top 33 = .ok (.ireturn, 1) := by decide +kernel
theorem dX6_isSpan_0 : decode cX6_isSpan 0 = .ok (.aload_n 0, 1) := by decide +kernel
theorem dX6_isSpan_1 : decode cX6_isSpan 1 = .ok (.iload_n 1, 1) := by decide +kernel
theorem dX6_isSpan_2 : decode cX6_isSpan 2 = .ok (.invokevirtual 163, 3) := by decide +kernel
theorem dX6_isSpan_5 : decode cX6_isSpan 5 = .ok (.ifCond .eq 20, 3) := by decide +kernel
theorem dX6_isSpan_8 : decode cX6_isSpan 8 = .ok (.aload_n 0, 1) := by decide +kernel
theorem dX6_isSpan_9 : decode cX6_isSpan 9 = .ok (.iload_n 2, 1) := by decide +kernel
theorem dX6_isSpan_10 : decode cX6_isSpan 10 = .ok (.invokevirtual 163, 3) := by decide +kernel
theorem dX6_isSpan_13 : decode cX6_isSpan 13 = .ok (.ifCond .eq 12, 3) := by decide +kernel
theorem dX6_isSpan_16 : decode cX6_isSpan 16 = .ok (.iload_n 1, 1) := by decide +kernel
theorem dX6_isSpan_17 : decode cX6_isSpan 17 = .ok (.iload_n 2, 1) := by decide +kernel
theorem dX6_isSpan_18 : decode cX6_isSpan 18 = .ok (.if_icmp .ge 7, 3) := by decide +kernel
theorem dX6_isSpan_21 : decode cX6_isSpan 21 = .ok (.iconst 1, 1) := by decide +kernel
theorem dX6_isSpan_22 : decode cX6_isSpan 22 = .ok (.goto 4, 3) := by decide +kernel
theorem dX6_isSpan_25 : decode cX6_isSpan 25 = .ok (.iconst 0, 1) := by decide +kernel
theorem dX6_isSpan_26 : decode cX6_isSpan 26 = .ok (.ireturn, 1) := by decide +kernel
theorem dX6_border_0 : decode cX6_border 0 = .ok (.aload_n 0, 1) := by decide +kernel
theorem dX6_border_1 : decode cX6_border 1 = .ok (.iload_n 1, 1) := by decide +kernel
theorem dX6_border_2 : decode cX6_border 2 = .ok (.iload_n 2, 1) := by decide +kernel
theorem dX6_border_3 : decode cX6_border 3 = .ok (.invokevirtual 310, 3) := by decide +kernel
theorem dX6_border_6 : decode cX6_border 6 = .ok (.ifCond .ne 5, 3) := by decide +kernel
theorem dX6_border_9 : decode cX6_border 9 = .ok (.iconst (-1), 1) := by decide +kernel
theorem dX6_border_10 : decode cX6_border 10 = .ok (.ireturn, 1) := by decide +kernel
theorem dX6_border_11 : decode cX6_border 11 = .ok (.aload_n 0, 1) := by decide +kernel
theorem dX6_border_12 : decode cX6_border 12 = .ok (.iload_n 1, 1) := by decide +kernel
theorem dX6_border_13 : decode cX6_border 13 = .ok (.iload_n 2, 1) := by decide +kernel
theorem dX6_border_14 : decode cX6_border 14 = .ok (.invokevirtual 245, 3) := by decide +kernel
theorem dX6_border_17 : decode cX6_border 17 = .ok (.istore_n 3, 1) := by decide +kernel
theorem dX6_border_18 : decode cX6_border 18 = .ok (.aload_n 0, 1) := by decide +kernel
theorem dX6_border_19 : decode cX6_border 19 = .ok (.aload_n 0, 1) := by decide +kernel
theorem dX6_border_20 : decode cX6_border 20 = .ok (.getfield 28, 3) := by decide +kernel
theorem dX6_border_23 : decode cX6_border 23 = .ok (.iload_n 3, 1) := by decide +kernel
theorem dX6_border_24 : decode cX6_border 24 = .ok (.iaload, 1) := by decide +kernel
theorem dX6_border_25 : decode cX6_border 25 = .ok (.iload_n 3, 1) := by decide +kernel
theorem dX6_border_26 : decode cX6_border 26 = .ok (.invokevirtual 118, 3) := by decide +kernel
theorem dX6_border_29 : decode cX6_border 29 = .ok (.ireturn, 1) := by decide +kernel
theorem dX6_shifts_0 : decode cX6_shifts 0 = .ok (.aload_n 0, 1) := by decide +kernel
theorem dX6_shifts_1 : decode cX6_shifts 1 = .ok (.iload_n 1, 1) := by decide +kernel
theorem dX6_shifts_2 : decode cX6_shifts 2 = .ok (.iload_n 2, 1) := by decide +kernel
theorem dX6_shifts_3 : decode cX6_shifts 3 = .ok (.invokevirtual 310, 3) := by decide +kernel
theorem dX6_shifts_6 : decode cX6_shifts 6 = .ok (.ifCond .ne 5, 3) := by decide +kernel
theorem dX6_shifts_9 : decode cX6_shifts 9 = .ok (.iconst (-1), 1) := by decide +kernel
theorem dX6_shifts_10 : decode cX6_shifts 10 = .ok (.ireturn, 1) := by decide +kernel
theorem dX6_shifts_11 : decode cX6_shifts 11 = .ok (.aload_n 0, 1) := by decide +kernel
theorem dX6_shifts_12 : decode cX6_shifts 12 = .ok (.iload_n 1, 1) := by decide +kernel
theorem dX6_shifts_13 : decode cX6_shifts 13 = .ok (.iload_n 2, 1) := by decide +kernel
theorem dX6_shifts_14 : decode cX6_shifts 14 = .ok (.invokevirtual 245, 3) := by decide +kernel
theorem dX6_shifts_17 : decode cX6_shifts 17 = .ok (.istore_n 3, 1) := by decide +kernel
theorem dX6_shifts_18 : decode cX6_shifts 18 = .ok (.iconst 0, 1) := by decide +kernel
theorem dX6_shifts_19 : decode cX6_shifts 19 = .ok (.istore 4, 2) := by decide +kernel
theorem dX6_shifts_21 : decode cX6_shifts 21 = .ok (.bipush (-9), 2) := by decide +kernel
theorem dX6_shifts_23 : decode cX6_shifts 23 = .ok (.istore 5, 2) := by decide +kernel
theorem dX6_shifts_25 : decode cX6_shifts 25 = .ok (.aload_n 0, 1) := by decide +kernel
theorem dX6_shifts_26 : decode cX6_shifts 26 = .ok (.invokevirtual 239, 3) := by decide +kernel
theorem dX6_shifts_29 : decode cX6_shifts 29 = .ok (.iconst 0, 1) := by decide +kernel
theorem dX6_shifts_30 : decode cX6_shifts 30 = .ok (.istore 6, 2) := by decide +kernel
theorem dX6_shifts_32 : decode cX6_shifts 32 = .ok (.iload 6, 2) := by decide +kernel
theorem dX6_shifts_34 : decode cX6_shifts 34 = .ok (.aload_n 0, 1) := by decide +kernel
theorem dX6_shifts_35 : decode cX6_shifts 35 = .ok (.invokevirtual 217, 3) := by decide +kernel
theorem dX6_shifts_38 : decode cX6_shifts 38 = .ok (.if_icmp .ge 71, 3) := by decide +kernel
theorem dX6_shifts_41 : decode cX6_shifts 41 = .ok (.aload_n 0, 1) := by decide +kernel
theorem dX6_shifts_42 : decode cX6_shifts 42 = .ok (.iload 6, 2) := by decide +kernel
theorem dX6_shifts_44 : decode cX6_shifts 44 = .ok (.invokevirtual 221, 3) := by decide +kernel
theorem dX6_shifts_47 : decode cX6_shifts 47 = .ok (.pop, 1) := by decide +kernel
theorem dX6_shifts_48 : decode cX6_shifts 48 = .ok (.aload_n 0, 1) := by decide +kernel
theorem dX6_shifts_49 : decode cX6_shifts 49 = .ok (.iload_n 1, 1) := by decide +kernel
theorem dX6_shifts_50 : decode cX6_shifts 50 = .ok (.iload_n 2, 1) := by decide +kernel
theorem dX6_shifts_51 : decode cX6_shifts 51 = .ok (.invokevirtual 245, 3) := by decide +kernel
theorem dX6_shifts_54 : decode cX6_shifts 54 = .ok (.iload_n 3, 1) := by decide +kernel
theorem dX6_shifts_55 : decode cX6_shifts 55 = .ok (.if_icmp .eq 7, 3) := by decide +kernel
theorem dX6_shifts_58 : decode cX6_shifts 58 = .ok (.iconst 1, 1) := by decide +kernel
theorem dX6_shifts_59 : decode cX6_shifts 59 = .ok (.goto 4, 3) := by decide +kernel
theorem dX6_shifts_62 : decode cX6_shifts 62 = .ok (.iconst 0, 1) := by decide +kernel
theorem dX6_shifts_63 : decode cX6_shifts 63 = .ok (.istore 7, 2) := by decide +kernel
theorem dX6_shifts_65 : decode cX6_shifts 65 = .ok (.aload_n 0, 1) := by decide +kernel
theorem dX6_shifts_66 : decode cX6_shifts 66 = .ok (.invokevirtual 242, 3) := by decide +kernel
theorem dX6_shifts_69 : decode cX6_shifts 69 = .ok (.iload 7, 2) := by decide +kernel
theorem dX6_shifts_71 : decode cX6_shifts 71 = .ok (.ifCond .eq 13, 3) := by decide +kernel
theorem dX6_shifts_74 : decode cX6_shifts 74 = .ok (.iload 4, 2) := by decide +kernel
theorem dX6_shifts_76 : decode cX6_shifts 76 = .ok (.ifCond .ne 8, 3) := by decide +kernel
theorem dX6_shifts_79 : decode cX6_shifts 79 = .ok (.iload 6, 2) := by decide +kernel
theorem dX6_shifts_81 : decode cX6_shifts 81 = .ok (.goto 5, 3) := by decide +kernel
theorem dX6_shifts_84 : decode cX6_shifts 84 = .ok (.iload 5, 2) := by decide +kernel
theorem dX6_shifts_86 : decode cX6_shifts 86 = .ok (.istore 5, 2) := by decide +kernel
theorem dX6_shifts_88 : decode cX6_shifts 88 = .ok (.iload 4, 2) := by decide +kernel
theorem dX6_shifts_90 : decode cX6_shifts 90 = .ok (.iload 7, 2) := by decide +kernel
theorem dX6_shifts_92 : decode cX6_shifts 92 = .ok (.ifCond .eq 7, 3) := by decide +kernel
theorem dX6_shifts_95 : decode cX6_shifts 95 = .ok (.iconst 1, 1) := by decide +kernel
theorem dX6_shifts_96 : decode cX6_shifts 96 = .ok (.goto 4, 3) := by decide +kernel
theorem dX6_shifts_99 : decode cX6_shifts 99 = .ok (.iconst 0, 1) := by decide +kernel
theorem dX6_shifts_100 : decode cX6_shifts 100 = .ok (.iadd, 1) := by decide +kernel
theorem dX6_shifts_101 : decode cX6_shifts 101 = .ok (.istore 4, 2) := by decide +kernel
theorem dX6_shifts_103 : decode cX6_shifts 103 = .ok (.iinc 6 1, 3) := by decide +kernel
theorem dX6_shifts_106 : decode cX6_shifts 106 = .ok (.goto (-74), 3) := by decide +kernel
theorem dX6_shifts_109 : decode cX6_shifts 109 = .ok (.aload_n 0, 1) := by decide +kernel
theorem dX6_shifts_110 : decode cX6_shifts 110 = .ok (.iload 5, 2) := by decide +kernel
theorem dX6_shifts_112 : decode cX6_shifts 112 = .ok (.iload 4, 2) := by decide +kernel
theorem dX6_shifts_114 : decode cX6_shifts 114 = .ok (.invokevirtual 118, 3) := by decide +kernel
theorem dX6_shifts_117 : decode cX6_shifts 117 = .ok (.ireturn, 1) := by decide +kernel
theorem dX6_far_0 : decode cX6_far 0 = .ok (.aload_n 0, 1) := by decide +kernel
theorem dX6_far_1 : decode cX6_far 1 = .ok (.iload_n 1, 1) := by decide +kernel
theorem dX6_far_2 : decode cX6_far 2 = .ok (.invokevirtual 303, 3) := by decide +kernel
theorem dX6_far_5 : decode cX6_far 5 = .ok (.istore_n 2, 1) := by decide +kernel
theorem dX6_far_6 : decode cX6_far 6 = .ok (.iload_n 2, 1) := by decide +kernel
theorem dX6_far_7 : decode cX6_far 7 = .ok (.ifCond .ge 5, 3) := by decide +kernel
theorem dX6_far_10 : decode cX6_far 10 = .ok (.iload_n 2, 1) := by decide +kernel
theorem dX6_far_11 : decode cX6_far 11 = .ok (.ireturn, 1) := by decide +kernel
theorem dX6_far_12 : decode cX6_far 12 = .ok (.lconst 0, 1) := by decide +kernel
theorem dX6_far_13 : decode cX6_far 13 = .ok (.lstore_n 3, 1) := by decide +kernel
theorem dX6_far_14 : decode cX6_far 14 = .ok (.iconst 0, 1) := by decide +kernel
theorem dX6_far_15 : decode cX6_far 15 = .ok (.istore 5, 2) := by decide +kernel
theorem dX6_far_17 : decode cX6_far 17 = .ok (.iload 5, 2) := by decide +kernel
theorem dX6_far_19 : decode cX6_far 19 = .ok (.aload_n 0, 1) := by decide +kernel
theorem dX6_far_20 : decode cX6_far 20 = .ok (.getfield 151, 3) := by decide +kernel
theorem dX6_far_23 : decode cX6_far 23 = .ok (.if_icmp .ge 36, 3) := by decide +kernel
theorem dX6_far_26 : decode cX6_far 26 = .ok (.aload_n 0, 1) := by decide +kernel
theorem dX6_far_27 : decode cX6_far 27 = .ok (.iload_n 1, 1) := by decide +kernel
theorem dX6_far_28 : decode cX6_far 28 = .ok (.iload 5, 2) := by decide +kernel
theorem dX6_far_30 : decode cX6_far 30 = .ok (.invokevirtual 114, 3) := by decide +kernel
theorem dX6_far_33 : decode cX6_far 33 = .ok (.ifCond .ge 9, 3) := by decide +kernel
theorem dX6_far_36 : decode cX6_far 36 = .ok (.aload_n 0, 1) := by decide +kernel
theorem dX6_far_37 : decode cX6_far 37 = .ok (.iconst 3, 1) := by decide +kernel
theorem dX6_far_38 : decode cX6_far 38 = .ok (.invokevirtual 100, 3) := by decide +kernel
theorem dX6_far_41 : decode cX6_far 41 = .ok (.ireturn, 1) := by decide +kernel
theorem dX6_far_42 : decode cX6_far 42 = .ok (.lload_n 3, 1) := by decide +kernel
theorem dX6_far_43 : decode cX6_far 43 = .ok (.aload_n 0, 1) := by decide +kernel
theorem dX6_far_44 : decode cX6_far 44 = .ok (.iload_n 1, 1) := by decide +kernel
theorem dX6_far_45 : decode cX6_far 45 = .ok (.iload 5, 2) := by decide +kernel
theorem dX6_far_47 : decode cX6_far 47 = .ok (.invokevirtual 114, 3) := by decide +kernel
theorem dX6_far_50 : decode cX6_far 50 = .ok (.i2l, 1) := by decide +kernel
theorem dX6_far_51 : decode cX6_far 51 = .ok (.ladd, 1) := by decide +kernel
theorem dX6_far_52 : decode cX6_far 52 = .ok (.lstore_n 3, 1) := by decide +kernel
theorem dX6_far_53 : decode cX6_far 53 = .ok (.iinc 5 1, 3) := by decide +kernel
theorem dX6_far_56 : decode cX6_far 56 = .ok (.goto (-39), 3) := by decide +kernel
theorem dX6_far_59 : decode cX6_far 59 = .ok (.lload_n 3, 1) := by decide +kernel
theorem dX6_far_60 : decode cX6_far 60 = .ok (.aload_n 0, 1) := by decide +kernel
theorem dX6_far_61 : decode cX6_far 61 = .ok (.invokevirtual 236, 3) := by decide +kernel
theorem dX6_far_64 : decode cX6_far 64 = .ok (.i2l, 1) := by decide +kernel
theorem dX6_far_65 : decode cX6_far 65 = .ok (.lcmp, 1) := by decide +kernel
theorem dX6_far_66 : decode cX6_far 66 = .ok (.ifCond .eq 9, 3) := by decide +kernel
theorem dX6_far_69 : decode cX6_far 69 = .ok (.aload_n 0, 1) := by decide +kernel
theorem dX6_far_70 : decode cX6_far 70 = .ok (.iconst 4, 1) := by decide +kernel
theorem dX6_far_71 : decode cX6_far 71 = .ok (.invokevirtual 100, 3) := by decide +kernel
theorem dX6_far_74 : decode cX6_far 74 = .ok (.ireturn, 1) := by decide +kernel
theorem dX6_far_75 : decode cX6_far 75 = .ok (.iconst 0, 1) := by decide +kernel
theorem dX6_far_76 : decode cX6_far 76 = .ok (.istore 5, 2) := by decide +kernel
theorem dX6_far_78 : decode cX6_far 78 = .ok (.iconst 0, 1) := by decide +kernel
theorem dX6_far_79 : decode cX6_far 79 = .ok (.istore 6, 2) := by decide +kernel
theorem dX6_far_81 : decode cX6_far 81 = .ok (.iconst 0, 1) := by decide +kernel
theorem dX6_far_82 : decode cX6_far 82 = .ok (.istore 7, 2) := by decide +kernel
theorem dX6_far_84 : decode cX6_far 84 = .ok (.iload 7, 2) := by decide +kernel
theorem dX6_far_86 : decode cX6_far 86 = .ok (.aload_n 0, 1) := by decide +kernel
theorem dX6_far_87 : decode cX6_far 87 = .ok (.getfield 151, 3) := by decide +kernel
theorem dX6_far_90 : decode cX6_far 90 = .ok (.if_icmp .ge 39, 3) := by decide +kernel
theorem dX6_far_93 : decode cX6_far 93 = .ok (.iload 5, 2) := by decide +kernel
theorem dX6_far_95 : decode cX6_far 95 = .ok (.aload_n 0, 1) := by decide +kernel
theorem dX6_far_96 : decode cX6_far 96 = .ok (.getfield 28, 3) := by decide +kernel
theorem dX6_far_99 : decode cX6_far 99 = .ok (.iload 7, 2) := by decide +kernel
theorem dX6_far_101 : decode cX6_far 101 = .ok (.iaload, 1) := by decide +kernel
theorem dX6_far_102 : decode cX6_far 102 = .ok (.aload_n 0, 1) := by decide +kernel
theorem dX6_far_103 : decode cX6_far 103 = .ok (.iload_n 1, 1) := by decide +kernel
theorem dX6_far_104 : decode cX6_far 104 = .ok (.iload 7, 2) := by decide +kernel
theorem dX6_far_106 : decode cX6_far 106 = .ok (.invokevirtual 114, 3) := by decide +kernel
theorem dX6_far_109 : decode cX6_far 109 = .ok (.isub, 1) := by decide +kernel
theorem dX6_far_110 : decode cX6_far 110 = .ok (.iadd, 1) := by decide +kernel
theorem dX6_far_111 : decode cX6_far 111 = .ok (.istore 5, 2) := by decide +kernel
theorem dX6_far_113 : decode cX6_far 113 = .ok (.iload 6, 2) := by decide +kernel
theorem dX6_far_115 : decode cX6_far 115 = .ok (.iload 5, 2) := by decide +kernel
theorem dX6_far_117 : decode cX6_far 117 = .ok (.invokestatic 166, 3) := by decide +kernel
theorem dX6_far_120 : decode cX6_far 120 = .ok (.iadd, 1) := by decide +kernel
theorem dX6_far_121 : decode cX6_far 121 = .ok (.istore 6, 2) := by decide +kernel
theorem dX6_far_123 : decode cX6_far 123 = .ok (.iinc 7 1, 3) := by decide +kernel
theorem dX6_far_126 : decode cX6_far 126 = .ok (.goto (-42), 3) := by decide +kernel
theorem dX6_far_129 : decode cX6_far 129 = .ok (.iload 6, 2) := by decide +kernel
theorem dX6_far_131 : decode cX6_far 131 = .ok (.ireturn, 1) := by decide +kernel
theorem dX6_season_0 : decode cX6_season 0 = .ok (.iload_n 1, 1) := by decide +kernel
theorem dX6_season_1 : decode cX6_season 1 = .ok (.iconst 1, 1) := by decide +kernel
theorem dX6_season_2 : decode cX6_season 2 = .ok (.bipush 40, 2) := by decide +kernel
theorem dX6_season_4 : decode cX6_season 4 = .ok (.invokestatic 92, 3) := by decide +kernel
theorem dX6_season_7 : decode cX6_season 7 = .ok (.ifCond .eq 14, 3) := by decide +kernel
theorem dX6_season_10 : decode cX6_season 10 = .ok (.iload_n 2, 1) := by decide +kernel
theorem dX6_season_11 : decode cX6_season 11 = .ok (.iconst 1, 1) := by decide +kernel
theorem dX6_season_12 : decode cX6_season 12 = .ok (.ldc_w 313, 3) := by decide +kernel
theorem dX6_season_15 : decode cX6_season 15 = .ok (.invokestatic 92, 3) := by decide +kernel
theorem dX6_season_18 : decode cX6_season 18 = .ok (.ifCond .ne 5, 3) := by decide +kernel
theorem dX6_season_21 : decode cX6_season 21 = .ok (.iconst (-1), 1) := by decide +kernel
theorem dX6_season_22 : decode cX6_season 22 = .ok (.ireturn, 1) := by decide +kernel
theorem dX6_season_23 : decode cX6_season 23 = .ok (.aload_n 0, 1) := by decide +kernel
theorem dX6_season_24 : decode cX6_season 24 = .ok (.getfield 151, 3) := by decide +kernel
theorem dX6_season_27 : decode cX6_season 27 = .ok (.ifCond .ne 6, 3) := by decide +kernel
theorem dX6_season_30 : decode cX6_season 30 = .ok (.bipush (-4), 2) := by decide +kernel
theorem dX6_season_32 : decode cX6_season 32 = .ok (.ireturn, 1) := by decide +kernel
theorem dX6_season_33 : decode cX6_season 33 = .ok (.aload_n 0, 1) := by decide +kernel
theorem dX6_season_34 : decode cX6_season 34 = .ok (.getfield 160, 3) := by decide +kernel
theorem dX6_season_37 : decode cX6_season 37 = .ok (.iload_n 1, 1) := by decide +kernel
theorem dX6_season_38 : decode cX6_season 38 = .ok (.iadd, 1) := by decide +kernel
theorem dX6_season_39 : decode cX6_season 39 = .ok (.bipush 60, 2) := by decide +kernel
theorem dX6_season_41 : decode cX6_season 41 = .ok (.if_icmp .le 6, 3) := by decide +kernel
theorem dX6_season_44 : decode cX6_season 44 = .ok (.bipush (-2), 2) := by decide +kernel
theorem dX6_season_46 : decode cX6_season 46 = .ok (.ireturn, 1) := by decide +kernel
theorem dX6_season_47 : decode cX6_season 47 = .ok (.iload_n 2, 1) := by decide +kernel
theorem dX6_season_48 : decode cX6_season 48 = .ok (.i2l, 1) := by decide +kernel
theorem dX6_season_49 : decode cX6_season 49 = .ok (.lstore_n 3, 1) := by decide +kernel
theorem dX6_season_50 : decode cX6_season 50 = .ok (.iconst 0, 1) := by decide +kernel
theorem dX6_season_51 : decode cX6_season 51 = .ok (.istore 5, 2) := by decide +kernel
theorem dX6_season_53 : decode cX6_season 53 = .ok (.iconst 0, 1) := by decide +kernel
theorem dX6_season_54 : decode cX6_season 54 = .ok (.istore 6, 2) := by decide +kernel
theorem dX6_season_56 : decode cX6_season 56 = .ok (.iload 6, 2) := by decide +kernel
theorem dX6_season_58 : decode cX6_season 58 = .ok (.iload_n 1, 1) := by decide +kernel
theorem dX6_season_59 : decode cX6_season 59 = .ok (.if_icmp .ge 72, 3) := by decide +kernel
theorem dX6_season_62 : decode cX6_season 62 = .ok (.ldc2_w 314, 3) := by decide +kernel
theorem dX6_season_65 : decode cX6_season 65 = .ok (.lload_n 3, 1) := by decide +kernel
theorem dX6_season_66 : decode cX6_season 66 = .ok (.lmul, 1) := by decide +kernel
theorem dX6_season_67 : decode cX6_season 67 = .ok (.ldc2_w 316, 3) := by decide +kernel
theorem dX6_season_70 : decode cX6_season 70 = .ok (.lrem, 1) := by decide +kernel
theorem dX6_season_71 : decode cX6_season 71 = .ok (.lstore_n 3, 1) := by decide +kernel
theorem dX6_season_72 : decode cX6_season 72 = .ok (.aload_n 0, 1) := by decide +kernel
theorem dX6_season_73 : decode cX6_season 73 = .ok (.lload_n 3, 1) := by decide +kernel
theorem dX6_season_74 : decode cX6_season 74 = .ok (.ldc2_w 318, 3) := by decide +kernel
theorem dX6_season_77 : decode cX6_season 77 = .ok (.ldiv, 1) := by decide +kernel
theorem dX6_season_78 : decode cX6_season 78 = .ok (.ldc2_w 320, 3) := by decide +kernel
theorem dX6_season_81 : decode cX6_season 81 = .ok (.lrem, 1) := by decide +kernel
theorem dX6_season_82 : decode cX6_season 82 = .ok (.lconst 1, 1) := by decide +kernel
theorem dX6_season_83 : decode cX6_season 83 = .ok (.lcmp, 1) := by decide +kernel
theorem dX6_season_84 : decode cX6_season 84 = .ok (.ifCond .ne 20, 3) := by decide +kernel
theorem dX6_season_87 : decode cX6_season 87 = .ok (.iconst 1, 1) := by decide +kernel
theorem dX6_season_88 : decode cX6_season 88 = .ok (.lload_n 3, 1) := by decide +kernel
theorem dX6_season_89 : decode cX6_season 89 = .ok (.ldc2_w 322, 3) := by decide +kernel
theorem dX6_season_92 : decode cX6_season 92 = .ok (.ldiv, 1) := by decide +kernel
theorem dX6_season_93 : decode cX6_season 93 = .ok (.aload_n 0, 1) := by decide +kernel
theorem dX6_season_94 : decode cX6_season 94 = .ok (.getfield 151, 3) := by decide +kernel
theorem dX6_season_97 : decode cX6_season 97 = .ok (.i2l, 1) := by decide +kernel
theorem dX6_season_98 : decode cX6_season 98 = .ok (.lrem, 1) := by decide +kernel
theorem dX6_season_99 : decode cX6_season 99 = .ok (.l2i, 1) := by decide +kernel
theorem dX6_season_100 : decode cX6_season 100 = .ok (.ishl, 1) := by decide +kernel
theorem dX6_season_101 : decode cX6_season 101 = .ok (.goto 4, 3) := by decide +kernel
theorem dX6_season_104 : decode cX6_season 104 = .ok (.iconst 0, 1) := by decide +kernel
theorem dX6_season_105 : decode cX6_season 105 = .ok (.putfield 157, 3) := by decide +kernel
theorem dX6_season_108 : decode cX6_season 108 = .ok (.iload 5, 2) := by decide +kernel
theorem dX6_season_110 : decode cX6_season 110 = .ok (.aload_n 0, 1) := by decide +kernel
theorem dX6_season_111 : decode cX6_season 111 = .ok (.lload_n 3, 1) := by decide +kernel
theorem dX6_season_112 : decode cX6_season 112 = .ok (.aload_n 0, 1) := by decide +kernel
theorem dX6_season_113 : decode cX6_season 113 = .ok (.invokevirtual 217, 3) := by decide +kernel
theorem dX6_season_116 : decode cX6_season 116 = .ok (.i2l, 1) := by decide +kernel
theorem dX6_season_117 : decode cX6_season 117 = .ok (.lrem, 1) := by decide +kernel
theorem dX6_season_118 : decode cX6_season 118 = .ok (.l2i, 1) := by decide +kernel
theorem dX6_season_119 : decode cX6_season 119 = .ok (.invokevirtual 227, 3) := by decide +kernel
theorem dX6_season_122 : decode cX6_season 122 = .ok (.iadd, 1) := by decide +kernel
theorem dX6_season_123 : decode cX6_season 123 = .ok (.istore 5, 2) := by decide +kernel
theorem dX6_season_125 : decode cX6_season 125 = .ok (.iinc 6 1, 3) := by decide +kernel
theorem dX6_season_128 : decode cX6_season 128 = .ok (.goto (-72), 3) := by decide +kernel
theorem dX6_season_131 : decode cX6_season 131 = .ok (.iload 5, 2) := by decide +kernel
theorem dX6_season_133 : decode cX6_season 133 = .ok (.ireturn, 1) := by decide +kernel
theorem dX6_asked_0 : decode cX6_asked 0 = .ok (.aload_n 0, 1) := by decide +kernel
theorem dX6_asked_1 : decode cX6_asked 1 = .ok (.getfield 89, 3) := by decide +kernel
theorem dX6_asked_4 : decode cX6_asked 4 = .ok (.ireturn, 1) := by decide +kernel
theorem dX6_divisor_0 : decode cX6_divisor 0 = .ok (.iload_n 0, 1) := by decide +kernel
theorem dX6_divisor_1 : decode cX6_divisor 1 = .ok (.istore_n 2, 1) := by decide +kernel
theorem dX6_divisor_2 : decode cX6_divisor 2 = .ok (.iload_n 1, 1) := by decide +kernel
theorem dX6_divisor_3 : decode cX6_divisor 3 = .ok (.istore_n 3, 1) := by decide +kernel
theorem dX6_divisor_4 : decode cX6_divisor 4 = .ok (.iload_n 3, 1) := by decide +kernel
theorem dX6_divisor_5 : decode cX6_divisor 5 = .ok (.ifCond .eq 16, 3) := by decide +kernel
theorem dX6_divisor_8 : decode cX6_divisor 8 = .ok (.iload_n 2, 1) := by decide +kernel
theorem dX6_divisor_9 : decode cX6_divisor 9 = .ok (.iload_n 3, 1) := by decide +kernel
theorem dX6_divisor_10 : decode cX6_divisor 10 = .ok (.irem, 1) := by decide +kernel
theorem dX6_divisor_11 : decode cX6_divisor 11 = .ok (.istore 4, 2) := by decide +kernel
theorem dX6_divisor_13 : decode cX6_divisor 13 = .ok (.iload_n 3, 1) := by decide +kernel
theorem dX6_divisor_14 : decode cX6_divisor 14 = .ok (.istore_n 2, 1) := by decide +kernel
theorem dX6_divisor_15 : decode cX6_divisor 15 = .ok (.iload 4, 2) := by decide +kernel
theorem dX6_divisor_17 : decode cX6_divisor 17 = .ok (.istore_n 3, 1) := by decide +kernel
theorem dX6_divisor_18 : decode cX6_divisor 18 = .ok (.goto (-14), 3) := by decide +kernel
theorem dX6_divisor_21 : decode cX6_divisor 21 = .ok (.iload_n 2, 1) := by decide +kernel
theorem dX6_divisor_22 : decode cX6_divisor 22 = .ok (.ireturn, 1) := by decide +kernel
theorem dX6_upper_0 : decode cX6_upper 0 = .ok (.aload_n 0, 1) := by decide +kernel
theorem dX6_upper_1 : decode cX6_upper 1 = .ok (.invokevirtual 236, 3) := by decide +kernel
theorem dX6_upper_4 : decode cX6_upper 4 = .ok (.istore_n 1, 1) := by decide +kernel
theorem dX6_upper_5 : decode cX6_upper 5 = .ok (.iload_n 1, 1) := by decide +kernel
theorem dX6_upper_6 : decode cX6_upper 6 = .ok (.ifCond .ne 7, 3) := by decide +kernel
theorem dX6_upper_9 : decode cX6_upper 9 = .ok (.lconst 0, 1) := by decide +kernel
theorem dX6_upper_10 : decode cX6_upper 10 = .ok (.goto 17, 3) := by decide +kernel
theorem dX6_upper_13 : decode cX6_upper 13 = .ok (.aload_n 0, 1) := by decide +kernel
theorem dX6_upper_14 : decode cX6_upper 14 = .ok (.invokevirtual 248, 3) := by decide +kernel
theorem dX6_upper_17 : decode cX6_upper 17 = .ok (.aload_n 0, 1) := by decide +kernel
theorem dX6_upper_18 : decode cX6_upper 18 = .ok (.invokevirtual 248, 3) := by decide +kernel
theorem dX6_upper_21 : decode cX6_upper 21 = .ok (.iload_n 1, 1) := by decide +kernel
theorem dX6_upper_22 : decode cX6_upper 22 = .ok (.invokestatic 324, 3) := by decide +kernel
theorem dX6_upper_25 : decode cX6_upper 25 = .ok (.idiv, 1) := by decide +kernel
theorem dX6_upper_26 : decode cX6_upper 26 = .ok (.i2l, 1) := by decide +kernel
theorem dX6_upper_27 : decode cX6_upper 27 = .ok (.lreturn, 1) := by decide +kernel
theorem dX6_lower_0 : decode cX6_lower 0 = .ok (.aload_n 0, 1) := by decide +kernel
theorem dX6_lower_1 : decode cX6_lower 1 = .ok (.invokevirtual 236, 3) := by decide +kernel
theorem dX6_lower_4 : decode cX6_lower 4 = .ok (.istore_n 1, 1) := by decide +kernel
theorem dX6_lower_5 : decode cX6_lower 5 = .ok (.iload_n 1, 1) := by decide +kernel
theorem dX6_lower_6 : decode cX6_lower 6 = .ok (.ifCond .ne 7, 3) := by decide +kernel
theorem dX6_lower_9 : decode cX6_lower 9 = .ok (.lconst 1, 1) := by decide +kernel
theorem dX6_lower_10 : decode cX6_lower 10 = .ok (.goto 14, 3) := by decide +kernel
theorem dX6_lower_13 : decode cX6_lower 13 = .ok (.iload_n 1, 1) := by decide +kernel
theorem dX6_lower_14 : decode cX6_lower 14 = .ok (.aload_n 0, 1) := by decide +kernel
theorem dX6_lower_15 : decode cX6_lower 15 = .ok (.invokevirtual 248, 3) := by decide +kernel
theorem dX6_lower_18 : decode cX6_lower 18 = .ok (.iload_n 1, 1) := by decide +kernel
theorem dX6_lower_19 : decode cX6_lower 19 = .ok (.invokestatic 324, 3) := by decide +kernel
theorem dX6_lower_22 : decode cX6_lower 22 = .ok (.idiv, 1) := by decide +kernel
theorem dX6_lower_23 : decode cX6_lower 23 = .ok (.i2l, 1) := by decide +kernel
theorem dX6_lower_24 : decode cX6_lower 24 = .ok (.lreturn, 1) := by decide +kernel
theorem dX6_tells_0 : decode cX6_tells 0 = .ok (.iconst 0, 1) := by decide +kernel
theorem dX6_tells_1 : decode cX6_tells 1 = .ok (.istore_n 2, 1) := by decide +kernel
theorem dX6_tells_2 : decode cX6_tells 2 = .ok (.iconst 0, 1) := by decide +kernel
theorem dX6_tells_3 : decode cX6_tells 3 = .ok (.istore_n 3, 1) := by decide +kernel
theorem dX6_tells_4 : decode cX6_tells 4 = .ok (.iload_n 3, 1) := by decide +kernel
theorem dX6_tells_5 : decode cX6_tells 5 = .ok (.bipush 6, 2) := by decide +kernel
theorem dX6_tells_7 : decode cX6_tells 7 = .ok (.if_icmp .ge 100, 3) := by decide +kernel
theorem dX6_tells_10 : decode cX6_tells 10 = .ok (.iload_n 2, 1) := by decide +kernel
theorem dX6_tells_11 : decode cX6_tells 11 = .ok (.iload_n 1, 1) := by decide +kernel
theorem dX6_tells_12 : decode cX6_tells 12 = .ok (.iconst 5, 1) := by decide +kernel
theorem dX6_tells_13 : decode cX6_tells 13 = .ok (.if_icmp .ne 20, 3) := by decide +kernel
theorem dX6_tells_16 : decode cX6_tells 16 = .ok (.iload_n 3, 1) := by decide +kernel
theorem dX6_tells_17 : decode cX6_tells 17 = .ok (.aload_n 0, 1) := by decide +kernel
theorem dX6_tells_18 : decode cX6_tells 18 = .ok (.getfield 154, 3) := by decide +kernel
theorem dX6_tells_21 : decode cX6_tells 21 = .ok (.if_icmp .ge 12, 3) := by decide +kernel
theorem dX6_tells_24 : decode cX6_tells 24 = .ok (.aload_n 0, 1) := by decide +kernel
theorem dX6_tells_25 : decode cX6_tells 25 = .ok (.iload_n 3, 1) := by decide +kernel
theorem dX6_tells_26 : decode cX6_tells 26 = .ok (.iconst 1, 1) := by decide +kernel
theorem dX6_tells_27 : decode cX6_tells 27 = .ok (.invokevirtual 188, 3) := by decide +kernel
theorem dX6_tells_30 : decode cX6_tells 30 = .ok (.ifCond .ne 64, 3) := by decide +kernel
theorem dX6_tells_33 : decode cX6_tells 33 = .ok (.iload_n 1, 1) := by decide +kernel
theorem dX6_tells_34 : decode cX6_tells 34 = .ok (.bipush 6, 2) := by decide +kernel
theorem dX6_tells_36 : decode cX6_tells 36 = .ok (.if_icmp .ne 12, 3) := by decide +kernel
theorem dX6_tells_39 : decode cX6_tells 39 = .ok (.aload_n 0, 1) := by decide +kernel
theorem dX6_tells_40 : decode cX6_tells 40 = .ok (.getfield 13, 3) := by decide +kernel
theorem dX6_tells_43 : decode cX6_tells 43 = .ok (.iload_n 3, 1) := by decide +kernel
theorem dX6_tells_44 : decode cX6_tells 44 = .ok (.iaload, 1) := by decide +kernel
theorem dX6_tells_45 : decode cX6_tells 45 = .ok (.ifCond .ge 49, 3) := by decide +kernel
theorem dX6_tells_48 : decode cX6_tells 48 = .ok (.iload_n 1, 1) := by decide +kernel
theorem dX6_tells_49 : decode cX6_tells 49 = .ok (.bipush 7, 2) := by decide +kernel
theorem dX6_tells_51 : decode cX6_tells 51 = .ok (.if_icmp .ne 17, 3) := by decide +kernel
theorem dX6_tells_54 : decode cX6_tells 54 = .ok (.iload_n 3, 1) := by decide +kernel
theorem dX6_tells_55 : decode cX6_tells 55 = .ok (.iconst 4, 1) := by decide +kernel
theorem dX6_tells_56 : decode cX6_tells 56 = .ok (.if_icmp .ge 12, 3) := by decide +kernel
theorem dX6_tells_59 : decode cX6_tells 59 = .ok (.aload_n 0, 1) := by decide +kernel
theorem dX6_tells_60 : decode cX6_tells 60 = .ok (.getfield 22, 3) := by decide +kernel
theorem dX6_tells_63 : decode cX6_tells 63 = .ok (.iload_n 3, 1) := by decide +kernel
theorem dX6_tells_64 : decode cX6_tells 64 = .ok (.iaload, 1) := by decide +kernel
theorem dX6_tells_65 : decode cX6_tells 65 = .ok (.ifCond .ge 29, 3) := by decide +kernel
theorem dX6_tells_68 : decode cX6_tells 68 = .ok (.iload_n 1, 1) := by decide +kernel
theorem dX6_tells_69 : decode cX6_tells 69 = .ok (.bipush 8, 2) := by decide +kernel
theorem dX6_tells_71 : decode cX6_tells 71 = .ok (.if_icmp .ne 27, 3) := by decide +kernel
theorem dX6_tells_74 : decode cX6_tells 74 = .ok (.iload_n 3, 1) := by decide +kernel
theorem dX6_tells_75 : decode cX6_tells 75 = .ok (.iconst 3, 1) := by decide +kernel
theorem dX6_tells_76 : decode cX6_tells 76 = .ok (.if_icmp .ge 22, 3) := by decide +kernel
theorem dX6_tells_79 : decode cX6_tells 79 = .ok (.aload_n 0, 1) := by decide +kernel
theorem dX6_tells_80 : decode cX6_tells 80 = .ok (.getfield 64, 3) := by decide +kernel
theorem dX6_tells_83 : decode cX6_tells 83 = .ok (.sipush 920, 3) := by decide +kernel
theorem dX6_tells_86 : decode cX6_tells 86 = .ok (.iload_n 3, 1) := by decide +kernel
theorem dX6_tells_87 : decode cX6_tells 87 = .ok (.imul, 1) := by decide +kernel
theorem dX6_tells_88 : decode cX6_tells 88 = .ok (.iaload, 1) := by decide +kernel
theorem dX6_tells_89 : decode cX6_tells 89 = .ok (.bipush (-9), 2) := by decide +kernel
theorem dX6_tells_91 : decode cX6_tells 91 = .ok (.if_icmp .eq 7, 3) := by decide +kernel
theorem dX6_tells_94 : decode cX6_tells 94 = .ok (.iconst 1, 1) := by decide +kernel
theorem dX6_tells_95 : decode cX6_tells 95 = .ok (.goto 4, 3) := by decide +kernel
theorem dX6_tells_98 : decode cX6_tells 98 = .ok (.iconst 0, 1) := by decide +kernel
theorem dX6_tells_99 : decode cX6_tells 99 = .ok (.iadd, 1) := by decide +kernel
theorem dX6_tells_100 : decode cX6_tells 100 = .ok (.istore_n 2, 1) := by decide +kernel
theorem dX6_tells_101 : decode cX6_tells 101 = .ok (.iinc 3 1, 3) := by decide +kernel
theorem dX6_tells_104 : decode cX6_tells 104 = .ok (.goto (-100), 3) := by decide +kernel
theorem dX6_tells_107 : decode cX6_tells 107 = .ok (.iload_n 1, 1) := by decide +kernel
theorem dX6_tells_108 : decode cX6_tells 108 = .ok (.tableswitch 75 0 4 #[36, 41, 46, 51, 67], 36) := by decide +kernel
theorem dX6_tells_144 : decode cX6_tells 144 = .ok (.aload_n 0, 1) := by decide +kernel
theorem dX6_tells_145 : decode cX6_tells 145 = .ok (.getfield 151, 3) := by decide +kernel
theorem dX6_tells_148 : decode cX6_tells 148 = .ok (.ireturn, 1) := by decide +kernel
theorem dX6_tells_149 : decode cX6_tells 149 = .ok (.aload_n 0, 1) := by decide +kernel
theorem dX6_tells_150 : decode cX6_tells 150 = .ok (.getfield 154, 3) := by decide +kernel
theorem dX6_tells_153 : decode cX6_tells 153 = .ok (.ireturn, 1) := by decide +kernel
theorem dX6_tells_154 : decode cX6_tells 154 = .ok (.aload_n 0, 1) := by decide +kernel
theorem dX6_tells_155 : decode cX6_tells 155 = .ok (.getfield 160, 3) := by decide +kernel
theorem dX6_tells_158 : decode cX6_tells 158 = .ok (.ireturn, 1) := by decide +kernel
theorem dX6_tells_159 : decode cX6_tells 159 = .ok (.aload_n 0, 1) := by decide +kernel
theorem dX6_tells_160 : decode cX6_tells 160 = .ok (.getfield 151, 3) := by decide +kernel
theorem dX6_tells_163 : decode cX6_tells 163 = .ok (.ifCond .ne 7, 3) := by decide +kernel
theorem dX6_tells_166 : decode cX6_tells 166 = .ok (.iconst 0, 1) := by decide +kernel
theorem dX6_tells_167 : decode cX6_tells 167 = .ok (.goto 7, 3) := by decide +kernel
theorem dX6_tells_170 : decode cX6_tells 170 = .ok (.aload_n 0, 1) := by decide +kernel
theorem dX6_tells_171 : decode cX6_tells 171 = .ok (.invokevirtual 217, 3) := by decide +kernel
theorem dX6_tells_174 : decode cX6_tells 174 = .ok (.ireturn, 1) := by decide +kernel
theorem dX6_tells_175 : decode cX6_tells 175 = .ok (.aload_n 0, 1) := by decide +kernel
theorem dX6_tells_176 : decode cX6_tells 176 = .ok (.getfield 157, 3) := by decide +kernel
theorem dX6_tells_179 : decode cX6_tells 179 = .ok (.invokestatic 327, 3) := by decide +kernel
theorem dX6_tells_182 : decode cX6_tells 182 = .ok (.ireturn, 1) := by decide +kernel
theorem dX6_tells_183 : decode cX6_tells 183 = .ok (.iload_n 2, 1) := by decide +kernel
theorem dX6_tells_184 : decode cX6_tells 184 = .ok (.ireturn, 1) := by decide +kernel
theorem dX6_count_0 : decode cX6_count 0 = .ok (.iload_n 1, 1) := by decide +kernel
theorem dX6_count_1 : decode cX6_count 1 = .ok (.iconst 0, 1) := by decide +kernel
theorem dX6_count_2 : decode cX6_count 2 = .ok (.bipush 8, 2) := by decide +kernel
theorem dX6_count_4 : decode cX6_count 4 = .ok (.invokestatic 92, 3) := by decide +kernel
theorem dX6_count_7 : decode cX6_count 7 = .ok (.ifCond .eq 11, 3) := by decide +kernel
theorem dX6_count_10 : decode cX6_count 10 = .ok (.aload_n 0, 1) := by decide +kernel
theorem dX6_count_11 : decode cX6_count 11 = .ok (.iload_n 1, 1) := by decide +kernel
theorem dX6_count_12 : decode cX6_count 12 = .ok (.invokevirtual 330, 3) := by decide +kernel
theorem dX6_count_15 : decode cX6_count 15 = .ok (.goto 4, 3) := by decide +kernel
theorem dX6_count_18 : decode cX6_count 18 = .ok (.iconst (-1), 1) := by decide +kernel
theorem dX6_count_19 : decode cX6_count 19 = .ok (.ireturn, 1) := by decide +kernel
theorem dX6_finding_0 : decode cX6_finding 0 = .ok (.aload_n 0, 1) := by decide +kernel
theorem dX6_finding_1 : decode cX6_finding 1 = .ok (.getfield 85, 3) := by decide +kernel
theorem dX6_finding_4 : decode cX6_finding 4 = .ok (.ireturn, 1) := by decide +kernel
theorem dX6_findings_0 : decode cX6_findings 0 = .ok (.iload_n 1, 1) := by decide +kernel
theorem dX6_findings_1 : decode cX6_findings 1 = .ok (.iconst 1, 1) := by decide +kernel
theorem dX6_findings_2 : decode cX6_findings 2 = .ok (.iconst 5, 1) := by decide +kernel
theorem dX6_findings_3 : decode cX6_findings 3 = .ok (.invokestatic 92, 3) := by decide +kernel
theorem dX6_findings_6 : decode cX6_findings 6 = .ok (.ifCond .eq 12, 3) := by decide +kernel
theorem dX6_findings_9 : decode cX6_findings 9 = .ok (.aload_n 0, 1) := by decide +kernel
theorem dX6_findings_10 : decode cX6_findings 10 = .ok (.getfield 7, 3) := by decide +kernel
theorem dX6_findings_13 : decode cX6_findings 13 = .ok (.iload_n 1, 1) := by decide +kernel
theorem dX6_findings_14 : decode cX6_findings 14 = .ok (.iaload, 1) := by decide +kernel
theorem dX6_findings_15 : decode cX6_findings 15 = .ok (.goto 4, 3) := by decide +kernel
theorem dX6_findings_18 : decode cX6_findings 18 = .ok (.iconst (-1), 1) := by decide +kernel
theorem dX6_findings_19 : decode cX6_findings 19 = .ok (.ireturn, 1) := by decide +kernel
theorem dX6_mix_0 : decode cX6_mix 0 = .ok (.aload_n 0, 1) := by decide +kernel
theorem dX6_mix_1 : decode cX6_mix 1 = .ok (.ldc2_w 333, 3) := by decide +kernel
theorem dX6_mix_4 : decode cX6_mix 4 = .ok (.aload_n 0, 1) := by decide +kernel
theorem dX6_mix_5 : decode cX6_mix 5 = .ok (.getfield 335, 3) := by decide +kernel
theorem dX6_mix_8 : decode cX6_mix 8 = .ok (.lmul, 1) := by decide +kernel
theorem dX6_mix_9 : decode cX6_mix 9 = .ok (.iload_n 1, 1) := by decide +kernel
theorem dX6_mix_10 : decode cX6_mix 10 = .ok (.i2l, 1) := by decide +kernel
theorem dX6_mix_11 : decode cX6_mix 11 = .ok (.ladd, 1) := by decide +kernel
theorem dX6_mix_12 : decode cX6_mix 12 = .ok (.putfield 335, 3) := by decide +kernel
theorem dX6_mix_15 : decode cX6_mix 15 = .ok (.return_, 1) := by decide +kernel
theorem dX6_mixLand_0 : decode cX6_mixLand 0 = .ok (.iconst 0, 1) := by decide +kernel
theorem dX6_mixLand_1 : decode cX6_mixLand 1 = .ok (.istore_n 1, 1) := by decide +kernel
theorem dX6_mixLand_2 : decode cX6_mixLand 2 = .ok (.iload_n 1, 1) := by decide +kernel
theorem dX6_mixLand_3 : decode cX6_mixLand 3 = .ok (.aload_n 0, 1) := by decide +kernel
theorem dX6_mixLand_4 : decode cX6_mixLand 4 = .ok (.getfield 151, 3) := by decide +kernel
theorem dX6_mixLand_7 : decode cX6_mixLand 7 = .ok (.if_icmp .ge 31, 3) := by decide +kernel
theorem dX6_mixLand_10 : decode cX6_mixLand 10 = .ok (.aload_n 0, 1) := by decide +kernel
theorem dX6_mixLand_11 : decode cX6_mixLand 11 = .ok (.aload_n 0, 1) := by decide +kernel
theorem dX6_mixLand_12 : decode cX6_mixLand 12 = .ok (.getfield 28, 3) := by decide +kernel
theorem dX6_mixLand_15 : decode cX6_mixLand 15 = .ok (.iload_n 1, 1) := by decide +kernel
theorem dX6_mixLand_16 : decode cX6_mixLand 16 = .ok (.iaload, 1) := by decide +kernel
theorem dX6_mixLand_17 : decode cX6_mixLand 17 = .ok (.invokevirtual 339, 3) := by decide +kernel
theorem dX6_mixLand_20 : decode cX6_mixLand 20 = .ok (.aload_n 0, 1) := by decide +kernel
theorem dX6_mixLand_21 : decode cX6_mixLand 21 = .ok (.aload_n 0, 1) := by decide +kernel
theorem dX6_mixLand_22 : decode cX6_mixLand 22 = .ok (.getfield 157, 3) := by decide +kernel
theorem dX6_mixLand_25 : decode cX6_mixLand 25 = .ok (.iload_n 1, 1) := by decide +kernel
theorem dX6_mixLand_26 : decode cX6_mixLand 26 = .ok (.ishr, 1) := by decide +kernel
theorem dX6_mixLand_27 : decode cX6_mixLand 27 = .ok (.iconst 1, 1) := by decide +kernel
theorem dX6_mixLand_28 : decode cX6_mixLand 28 = .ok (.iand, 1) := by decide +kernel
theorem dX6_mixLand_29 : decode cX6_mixLand 29 = .ok (.invokevirtual 339, 3) := by decide +kernel
theorem dX6_mixLand_32 : decode cX6_mixLand 32 = .ok (.iinc 1 1, 3) := by decide +kernel
theorem dX6_mixLand_35 : decode cX6_mixLand 35 = .ok (.goto (-33), 3) := by decide +kernel
theorem dX6_mixLand_38 : decode cX6_mixLand 38 = .ok (.iconst 0, 1) := by decide +kernel
theorem dX6_mixLand_39 : decode cX6_mixLand 39 = .ok (.istore_n 1, 1) := by decide +kernel
theorem dX6_mixLand_40 : decode cX6_mixLand 40 = .ok (.iload_n 1, 1) := by decide +kernel
theorem dX6_mixLand_41 : decode cX6_mixLand 41 = .ok (.aload_n 0, 1) := by decide +kernel
theorem dX6_mixLand_42 : decode cX6_mixLand 42 = .ok (.getfield 154, 3) := by decide +kernel
theorem dX6_mixLand_45 : decode cX6_mixLand 45 = .ok (.if_icmp .ge 32, 3) := by decide +kernel
theorem dX6_mixLand_48 : decode cX6_mixLand 48 = .ok (.iconst 0, 1) := by decide +kernel
theorem dX6_mixLand_49 : decode cX6_mixLand 49 = .ok (.istore_n 2, 1) := by decide +kernel
theorem dX6_mixLand_50 : decode cX6_mixLand 50 = .ok (.iload_n 2, 1) := by decide +kernel
theorem dX6_mixLand_51 : decode cX6_mixLand 51 = .ok (.iconst 4, 1) := by decide +kernel
theorem dX6_mixLand_52 : decode cX6_mixLand 52 = .ok (.if_icmp .gt 19, 3) := by decide +kernel
theorem dX6_mixLand_55 : decode cX6_mixLand 55 = .ok (.aload_n 0, 1) := by decide +kernel
theorem dX6_mixLand_56 : decode cX6_mixLand 56 = .ok (.aload_n 0, 1) := by decide +kernel
theorem dX6_mixLand_57 : decode cX6_mixLand 57 = .ok (.iload_n 1, 1) := by decide +kernel
theorem dX6_mixLand_58 : decode cX6_mixLand 58 = .ok (.iload_n 2, 1) := by decide +kernel
theorem dX6_mixLand_59 : decode cX6_mixLand 59 = .ok (.invokevirtual 182, 3) := by decide +kernel
theorem dX6_mixLand_62 : decode cX6_mixLand 62 = .ok (.invokevirtual 339, 3) := by decide +kernel
theorem dX6_mixLand_65 : decode cX6_mixLand 65 = .ok (.iinc 2 1, 3) := by decide +kernel
theorem dX6_mixLand_68 : decode cX6_mixLand 68 = .ok (.goto (-18), 3) := by decide +kernel
theorem dX6_mixLand_71 : decode cX6_mixLand 71 = .ok (.iinc 1 1, 3) := by decide +kernel
theorem dX6_mixLand_74 : decode cX6_mixLand 74 = .ok (.goto (-34), 3) := by decide +kernel
theorem dX6_mixLand_77 : decode cX6_mixLand 77 = .ok (.iconst 0, 1) := by decide +kernel
theorem dX6_mixLand_78 : decode cX6_mixLand 78 = .ok (.istore_n 1, 1) := by decide +kernel
theorem dX6_mixLand_79 : decode cX6_mixLand 79 = .ok (.iload_n 1, 1) := by decide +kernel
theorem dX6_mixLand_80 : decode cX6_mixLand 80 = .ok (.aload_n 0, 1) := by decide +kernel
theorem dX6_mixLand_81 : decode cX6_mixLand 81 = .ok (.getfield 160, 3) := by decide +kernel
theorem dX6_mixLand_84 : decode cX6_mixLand 84 = .ok (.if_icmp .ge 19, 3) := by decide +kernel
theorem dX6_mixLand_87 : decode cX6_mixLand 87 = .ok (.aload_n 0, 1) := by decide +kernel
theorem dX6_mixLand_88 : decode cX6_mixLand 88 = .ok (.aload_n 0, 1) := by decide +kernel
theorem dX6_mixLand_89 : decode cX6_mixLand 89 = .ok (.getfield 58, 3) := by decide +kernel
theorem dX6_mixLand_92 : decode cX6_mixLand 92 = .ok (.iload_n 1, 1) := by decide +kernel
theorem dX6_mixLand_93 : decode cX6_mixLand 93 = .ok (.iaload, 1) := by decide +kernel
theorem dX6_mixLand_94 : decode cX6_mixLand 94 = .ok (.invokevirtual 339, 3) := by decide +kernel
theorem dX6_mixLand_97 : decode cX6_mixLand 97 = .ok (.iinc 1 1, 3) := by decide +kernel
theorem dX6_mixLand_100 : decode cX6_mixLand 100 = .ok (.goto (-21), 3) := by decide +kernel
theorem dX6_mixLand_103 : decode cX6_mixLand 103 = .ok (.iconst 0, 1) := by decide +kernel
theorem dX6_mixLand_104 : decode cX6_mixLand 104 = .ok (.istore_n 1, 1) := by decide +kernel
theorem dX6_mixLand_105 : decode cX6_mixLand 105 = .ok (.iload_n 1, 1) := by decide +kernel
theorem dX6_mixLand_106 : decode cX6_mixLand 106 = .ok (.iconst 3, 1) := by decide +kernel
theorem dX6_mixLand_107 : decode cX6_mixLand 107 = .ok (.if_icmp .ge 42, 3) := by decide +kernel
theorem dX6_mixLand_110 : decode cX6_mixLand 110 = .ok (.aload_n 0, 1) := by decide +kernel
theorem dX6_mixLand_111 : decode cX6_mixLand 111 = .ok (.aload_n 0, 1) := by decide +kernel
theorem dX6_mixLand_112 : decode cX6_mixLand 112 = .ok (.getfield 64, 3) := by decide +kernel
theorem dX6_mixLand_115 : decode cX6_mixLand 115 = .ok (.sipush 920, 3) := by decide +kernel
theorem dX6_mixLand_118 : decode cX6_mixLand 118 = .ok (.iload_n 1, 1) := by decide +kernel
theorem dX6_mixLand_119 : decode cX6_mixLand 119 = .ok (.imul, 1) := by decide +kernel
theorem dX6_mixLand_120 : decode cX6_mixLand 120 = .ok (.iaload, 1) := by decide +kernel
theorem dX6_mixLand_121 : decode cX6_mixLand 121 = .ok (.bipush (-9), 2) := by decide +kernel
theorem dX6_mixLand_123 : decode cX6_mixLand 123 = .ok (.if_icmp .ne 7, 3) := by decide +kernel
theorem dX6_mixLand_126 : decode cX6_mixLand 126 = .ok (.iconst (-1), 1) := by decide +kernel
theorem dX6_mixLand_127 : decode cX6_mixLand 127 = .ok (.goto 13, 3) := by decide +kernel
theorem dX6_mixLand_130 : decode cX6_mixLand 130 = .ok (.aload_n 0, 1) := by decide +kernel
theorem dX6_mixLand_131 : decode cX6_mixLand 131 = .ok (.getfield 64, 3) := by decide +kernel
theorem dX6_mixLand_134 : decode cX6_mixLand 134 = .ok (.sipush 920, 3) := by decide +kernel
theorem dX6_mixLand_137 : decode cX6_mixLand 137 = .ok (.iload_n 1, 1) := by decide +kernel
theorem dX6_mixLand_138 : decode cX6_mixLand 138 = .ok (.imul, 1) := by decide +kernel
theorem dX6_mixLand_139 : decode cX6_mixLand 139 = .ok (.iaload, 1) := by decide +kernel
theorem dX6_mixLand_140 : decode cX6_mixLand 140 = .ok (.invokevirtual 339, 3) := by decide +kernel
theorem dX6_mixLand_143 : decode cX6_mixLand 143 = .ok (.iinc 1 1, 3) := by decide +kernel
theorem dX6_mixLand_146 : decode cX6_mixLand 146 = .ok (.goto (-41), 3) := by decide +kernel
theorem dX6_mixLand_149 : decode cX6_mixLand 149 = .ok (.return_, 1) := by decide +kernel
theorem dX6_digest_0 : decode cX6_digest 0 = .ok (.aload_n 0, 1) := by decide +kernel
theorem dX6_digest_1 : decode cX6_digest 1 = .ok (.ldc2_w 342, 3) := by decide +kernel
theorem dX6_digest_4 : decode cX6_digest 4 = .ok (.putfield 335, 3) := by decide +kernel
theorem dX6_digest_7 : decode cX6_digest 7 = .ok (.iconst 0, 1) := by decide +kernel
theorem dX6_digest_8 : decode cX6_digest 8 = .ok (.istore_n 1, 1) := by decide +kernel
theorem dX6_digest_9 : decode cX6_digest 9 = .ok (.iload_n 1, 1) := by decide +kernel
theorem dX6_digest_10 : decode cX6_digest 10 = .ok (.bipush 8, 2) := by decide +kernel
theorem dX6_digest_12 : decode cX6_digest 12 = .ok (.if_icmp .gt 18, 3) := by decide +kernel
theorem dX6_digest_15 : decode cX6_digest 15 = .ok (.aload_n 0, 1) := by decide +kernel
theorem dX6_digest_16 : decode cX6_digest 16 = .ok (.aload_n 0, 1) := by decide +kernel
theorem dX6_digest_17 : decode cX6_digest 17 = .ok (.iload_n 1, 1) := by decide +kernel
theorem dX6_digest_18 : decode cX6_digest 18 = .ok (.invokevirtual 330, 3) := by decide +kernel
theorem dX6_digest_21 : decode cX6_digest 21 = .ok (.invokevirtual 339, 3) := by decide +kernel
theorem dX6_digest_24 : decode cX6_digest 24 = .ok (.iinc 1 1, 3) := by decide +kernel
theorem dX6_digest_27 : decode cX6_digest 27 = .ok (.goto (-18), 3) := by decide +kernel
theorem dX6_digest_30 : decode cX6_digest 30 = .ok (.aload_n 0, 1) := by decide +kernel
theorem dX6_digest_31 : decode cX6_digest 31 = .ok (.invokevirtual 344, 3) := by decide +kernel
theorem dX6_digest_34 : decode cX6_digest 34 = .ok (.iconst 0, 1) := by decide +kernel
theorem dX6_digest_35 : decode cX6_digest 35 = .ok (.istore_n 1, 1) := by decide +kernel
theorem dX6_digest_36 : decode cX6_digest 36 = .ok (.iload_n 1, 1) := by decide +kernel
theorem dX6_digest_37 : decode cX6_digest 37 = .ok (.bipush 6, 2) := by decide +kernel
theorem dX6_digest_39 : decode cX6_digest 39 = .ok (.if_icmp .ge 60, 3) := by decide +kernel
theorem dX6_digest_42 : decode cX6_digest 42 = .ok (.aload_n 0, 1) := by decide +kernel
theorem dX6_digest_43 : decode cX6_digest 43 = .ok (.aload_n 0, 1) := by decide +kernel
theorem dX6_digest_44 : decode cX6_digest 44 = .ok (.getfield 13, 3) := by decide +kernel
theorem dX6_digest_47 : decode cX6_digest 47 = .ok (.iload_n 1, 1) := by decide +kernel
theorem dX6_digest_48 : decode cX6_digest 48 = .ok (.iaload, 1) := by decide +kernel
theorem dX6_digest_49 : decode cX6_digest 49 = .ok (.ifCond .ge 7, 3) := by decide +kernel
theorem dX6_digest_52 : decode cX6_digest 52 = .ok (.iconst (-1), 1) := by decide +kernel
theorem dX6_digest_53 : decode cX6_digest 53 = .ok (.goto 9, 3) := by decide +kernel
theorem dX6_digest_56 : decode cX6_digest 56 = .ok (.aload_n 0, 1) := by decide +kernel
theorem dX6_digest_57 : decode cX6_digest 57 = .ok (.getfield 13, 3) := by decide +kernel
theorem dX6_digest_60 : decode cX6_digest 60 = .ok (.iload_n 1, 1) := by decide +kernel
theorem dX6_digest_61 : decode cX6_digest 61 = .ok (.iaload, 1) := by decide +kernel
theorem dX6_digest_62 : decode cX6_digest 62 = .ok (.invokevirtual 339, 3) := by decide +kernel
theorem dX6_digest_65 : decode cX6_digest 65 = .ok (.iconst 0, 1) := by decide +kernel
theorem dX6_digest_66 : decode cX6_digest 66 = .ok (.istore_n 2, 1) := by decide +kernel
theorem dX6_digest_67 : decode cX6_digest 67 = .ok (.iload_n 2, 1) := by decide +kernel
theorem dX6_digest_68 : decode cX6_digest 68 = .ok (.aload_n 0, 1) := by decide +kernel
theorem dX6_digest_69 : decode cX6_digest 69 = .ok (.getfield 13, 3) := by decide +kernel
theorem dX6_digest_72 : decode cX6_digest 72 = .ok (.iload_n 1, 1) := by decide +kernel
theorem dX6_digest_73 : decode cX6_digest 73 = .ok (.iaload, 1) := by decide +kernel
theorem dX6_digest_74 : decode cX6_digest 74 = .ok (.if_icmp .ge 19, 3) := by decide +kernel
theorem dX6_digest_77 : decode cX6_digest 77 = .ok (.aload_n 0, 1) := by decide +kernel
theorem dX6_digest_78 : decode cX6_digest 78 = .ok (.aload_n 0, 1) := by decide +kernel
theorem dX6_digest_79 : decode cX6_digest 79 = .ok (.iload_n 1, 1) := by decide +kernel
theorem dX6_digest_80 : decode cX6_digest 80 = .ok (.iload_n 2, 1) := by decide +kernel
theorem dX6_digest_81 : decode cX6_digest 81 = .ok (.invokevirtual 114, 3) := by decide +kernel
theorem dX6_digest_84 : decode cX6_digest 84 = .ok (.invokevirtual 339, 3) := by decide +kernel
theorem dX6_digest_87 : decode cX6_digest 87 = .ok (.iinc 2 1, 3) := by decide +kernel
theorem dX6_digest_90 : decode cX6_digest 90 = .ok (.goto (-23), 3) := by decide +kernel
theorem dX6_digest_93 : decode cX6_digest 93 = .ok (.iinc 1 1, 3) := by decide +kernel
theorem dX6_digest_96 : decode cX6_digest 96 = .ok (.goto (-60), 3) := by decide +kernel
theorem dX6_digest_99 : decode cX6_digest 99 = .ok (.iconst 0, 1) := by decide +kernel
theorem dX6_digest_100 : decode cX6_digest 100 = .ok (.istore_n 1, 1) := by decide +kernel
theorem dX6_digest_101 : decode cX6_digest 101 = .ok (.iload_n 1, 1) := by decide +kernel
theorem dX6_digest_102 : decode cX6_digest 102 = .ok (.iconst 4, 1) := by decide +kernel
theorem dX6_digest_103 : decode cX6_digest 103 = .ok (.if_icmp .ge 65, 3) := by decide +kernel
theorem dX6_digest_106 : decode cX6_digest 106 = .ok (.aload_n 0, 1) := by decide +kernel
theorem dX6_digest_107 : decode cX6_digest 107 = .ok (.aload_n 0, 1) := by decide +kernel
theorem dX6_digest_108 : decode cX6_digest 108 = .ok (.getfield 22, 3) := by decide +kernel
theorem dX6_digest_111 : decode cX6_digest 111 = .ok (.iload_n 1, 1) := by decide +kernel
theorem dX6_digest_112 : decode cX6_digest 112 = .ok (.iaload, 1) := by decide +kernel
theorem dX6_digest_113 : decode cX6_digest 113 = .ok (.ifCond .ge 7, 3) := by decide +kernel
theorem dX6_digest_116 : decode cX6_digest 116 = .ok (.iconst (-1), 1) := by decide +kernel
theorem dX6_digest_117 : decode cX6_digest 117 = .ok (.goto 9, 3) := by decide +kernel
theorem dX6_digest_120 : decode cX6_digest 120 = .ok (.aload_n 0, 1) := by decide +kernel
theorem dX6_digest_121 : decode cX6_digest 121 = .ok (.getfield 22, 3) := by decide +kernel
theorem dX6_digest_124 : decode cX6_digest 124 = .ok (.iload_n 1, 1) := by decide +kernel
theorem dX6_digest_125 : decode cX6_digest 125 = .ok (.iaload, 1) := by decide +kernel
theorem dX6_digest_126 : decode cX6_digest 126 = .ok (.invokevirtual 339, 3) := by decide +kernel
theorem dX6_digest_129 : decode cX6_digest 129 = .ok (.iconst 0, 1) := by decide +kernel
theorem dX6_digest_130 : decode cX6_digest 130 = .ok (.istore_n 2, 1) := by decide +kernel
theorem dX6_digest_131 : decode cX6_digest 131 = .ok (.iload_n 2, 1) := by decide +kernel
theorem dX6_digest_132 : decode cX6_digest 132 = .ok (.aload_n 0, 1) := by decide +kernel
theorem dX6_digest_133 : decode cX6_digest 133 = .ok (.getfield 22, 3) := by decide +kernel
theorem dX6_digest_136 : decode cX6_digest 136 = .ok (.iload_n 1, 1) := by decide +kernel
theorem dX6_digest_137 : decode cX6_digest 137 = .ok (.iaload, 1) := by decide +kernel
theorem dX6_digest_138 : decode cX6_digest 138 = .ok (.if_icmp .ge 24, 3) := by decide +kernel
theorem dX6_digest_141 : decode cX6_digest 141 = .ok (.aload_n 0, 1) := by decide +kernel
theorem dX6_digest_142 : decode cX6_digest 142 = .ok (.aload_n 0, 1) := by decide +kernel
theorem dX6_digest_143 : decode cX6_digest 143 = .ok (.getfield 25, 3) := by decide +kernel
theorem dX6_digest_146 : decode cX6_digest 146 = .ok (.bipush 80, 2) := by decide +kernel
theorem dX6_digest_148 : decode cX6_digest 148 = .ok (.iload_n 1, 1) := by decide +kernel
theorem dX6_digest_149 : decode cX6_digest 149 = .ok (.imul, 1) := by decide +kernel
theorem dX6_digest_150 : decode cX6_digest 150 = .ok (.iload_n 2, 1) := by decide +kernel
theorem dX6_digest_151 : decode cX6_digest 151 = .ok (.iadd, 1) := by decide +kernel
theorem dX6_digest_152 : decode cX6_digest 152 = .ok (.iaload, 1) := by decide +kernel
theorem dX6_digest_153 : decode cX6_digest 153 = .ok (.invokevirtual 339, 3) := by decide +kernel
theorem dX6_digest_156 : decode cX6_digest 156 = .ok (.iinc 2 1, 3) := by decide +kernel
theorem dX6_digest_159 : decode cX6_digest 159 = .ok (.goto (-28), 3) := by decide +kernel
theorem dX6_digest_162 : decode cX6_digest 162 = .ok (.iinc 1 1, 3) := by decide +kernel
theorem dX6_digest_165 : decode cX6_digest 165 = .ok (.goto (-64), 3) := by decide +kernel
theorem dX6_digest_168 : decode cX6_digest 168 = .ok (.aload_n 0, 1) := by decide +kernel
theorem dX6_digest_169 : decode cX6_digest 169 = .ok (.getfield 335, 3) := by decide +kernel
theorem dX6_digest_172 : decode cX6_digest 172 = .ok (.lreturn, 1) := by decide +kernel
end
section
theorem dL_law_0 : decode cL_law 0 = .ok (.new 7, 3) := by decide +kernel
theorem dL_law_3 : decode cL_law 3 = .ok (.dup, 1) := by decide +kernel
theorem dL_law_4 : decode cL_law 4 = .ok (.invokespecial 9, 3) := by decide +kernel
theorem dL_law_7 : decode cL_law 7 = .ok (.astore_n 1, 1) := by decide +kernel
theorem dL_law_8 : decode cL_law 8 = .ok (.new 10, 3) := by decide +kernel
theorem dL_law_11 : decode cL_law 11 = .ok (.dup, 1) := by decide +kernel
theorem dL_law_12 : decode cL_law 12 = .ok (.invokespecial 12, 3) := by decide +kernel
theorem dL_law_15 : decode cL_law 15 = .ok (.astore_n 2, 1) := by decide +kernel
theorem dL_law_16 : decode cL_law 16 = .ok (.iconst 0, 1) := by decide +kernel
theorem dL_law_17 : decode cL_law 17 = .ok (.istore_n 3, 1) := by decide +kernel
theorem dL_law_18 : decode cL_law 18 = .ok (.iload_n 3, 1) := by decide +kernel
theorem dL_law_19 : decode cL_law 19 = .ok (.aload_n 0, 1) := by decide +kernel
theorem dL_law_20 : decode cL_law 20 = .ok (.arraylength, 1) := by decide +kernel
theorem dL_law_21 : decode cL_law 21 = .ok (.bipush 6, 2) := by decide +kernel
theorem dL_law_23 : decode cL_law 23 = .ok (.isub, 1) := by decide +kernel
theorem dL_law_24 : decode cL_law 24 = .ok (.if_icmp .gt 1448, 3) := by decide +kernel
theorem dL_law_27 : decode cL_law 27 = .ok (.aload_n 0, 1) := by decide +kernel
theorem dL_law_28 : decode cL_law 28 = .ok (.iload_n 3, 1) := by decide +kernel
theorem dL_law_29 : decode cL_law 29 = .ok (.iaload, 1) := by decide +kernel
theorem dL_law_30 : decode cL_law 30 = .ok (.bipush 63, 2) := by decide +kernel
theorem dL_law_32 : decode cL_law 32 = .ok (.iand, 1) := by decide +kernel
theorem dL_law_33 : decode cL_law 33 = .ok (.tableswitch 1433 0 44 #[195, 228, 271, 304, 327, 390, 413, 446, 489, 512, 535, 558, 591, 624, 647, 680, 703, 726, 749, 772, 795, 838, 861, 884, 907, 930, 963, 1016, 1039, 1092, 1115, 1148, 1171, 1184, 1197, 1230, 1263, 1286, 1319, 1332, 1346, 1360, 1383, 1396, 1419], 195) := by decide +kernel
theorem dL_law_228 : decode cL_law 228 = .ok (.aload_n 1, 1) := by decide +kernel
theorem dL_law_229 : decode cL_law 229 = .ok (.aload_n 0, 1) := by decide +kernel
theorem dL_law_230 : decode cL_law 230 = .ok (.iload_n 3, 1) := by decide +kernel
theorem dL_law_231 : decode cL_law 231 = .ok (.iconst 1, 1) := by decide +kernel
theorem dL_law_232 : decode cL_law 232 = .ok (.iadd, 1) := by decide +kernel
theorem dL_law_233 : decode cL_law 233 = .ok (.iaload, 1) := by decide +kernel
theorem dL_law_234 : decode cL_law 234 = .ok (.aload_n 0, 1) := by decide +kernel
theorem dL_law_235 : decode cL_law 235 = .ok (.iload_n 3, 1) := by decide +kernel
theorem dL_law_236 : decode cL_law 236 = .ok (.iconst 2, 1) := by decide +kernel
theorem dL_law_237 : decode cL_law 237 = .ok (.iadd, 1) := by decide +kernel
theorem dL_law_238 : decode cL_law 238 = .ok (.iaload, 1) := by decide +kernel
theorem dL_law_239 : decode cL_law 239 = .ok (.invokevirtual 13, 3) := by decide +kernel
theorem dL_law_242 : decode cL_law 242 = .ok (.aload_n 2, 1) := by decide +kernel
theorem dL_law_243 : decode cL_law 243 = .ok (.aload_n 0, 1) := by decide +kernel
theorem dL_law_244 : decode cL_law 244 = .ok (.iload_n 3, 1) := by decide +kernel
theorem dL_law_245 : decode cL_law 245 = .ok (.iconst 1, 1) := by decide +kernel
theorem dL_law_246 : decode cL_law 246 = .ok (.iadd, 1) := by decide +kernel
theorem dL_law_247 : decode cL_law 247 = .ok (.iaload, 1) := by decide +kernel
theorem dL_law_248 : decode cL_law 248 = .ok (.aload_n 0, 1) := by decide +kernel
theorem dL_law_249 : decode cL_law 249 = .ok (.iload_n 3, 1) := by decide +kernel
theorem dL_law_250 : decode cL_law 250 = .ok (.iconst 2, 1) := by decide +kernel
theorem dL_law_251 : decode cL_law 251 = .ok (.iadd, 1) := by decide +kernel
theorem dL_law_252 : decode cL_law 252 = .ok (.iaload, 1) := by decide +kernel
theorem dL_law_253 : decode cL_law 253 = .ok (.invokevirtual 17, 3) := by decide +kernel
theorem dL_law_256 : decode cL_law 256 = .ok (.if_icmp .eq 1210, 3) := by decide +kernel
theorem dL_law_259 : decode cL_law 259 = .ok (.iconst 0, 1) := by decide +kernel
theorem dL_law_260 : decode cL_law 260 = .ok (.ireturn, 1) := by decide +kernel
theorem dL_law_261 : decode cL_law 261 = .ok (.aload_n 1, 1) := by decide +kernel
theorem dL_law_262 : decode cL_law 262 = .ok (.aload_n 0, 1) := by decide +kernel
theorem dL_law_263 : decode cL_law 263 = .ok (.iload_n 3, 1) := by decide +kernel
theorem dL_law_264 : decode cL_law 264 = .ok (.iconst 1, 1) := by decide +kernel
theorem dL_law_265 : decode cL_law 265 = .ok (.iadd, 1) := by decide +kernel
theorem dL_law_266 : decode cL_law 266 = .ok (.iaload, 1) := by decide +kernel
theorem dL_law_267 : decode cL_law 267 = .ok (.aload_n 0, 1) := by decide +kernel
theorem dL_law_268 : decode cL_law 268 = .ok (.iload_n 3, 1) := by decide +kernel
theorem dL_law_269 : decode cL_law 269 = .ok (.iconst 2, 1) := by decide +kernel
theorem dL_law_270 : decode cL_law 270 = .ok (.iadd, 1) := by decide +kernel
theorem dL_law_271 : decode cL_law 271 = .ok (.iaload, 1) := by decide +kernel
theorem dL_law_272 : decode cL_law 272 = .ok (.aload_n 0, 1) := by decide +kernel
theorem dL_law_273 : decode cL_law 273 = .ok (.iload_n 3, 1) := by decide +kernel
theorem dL_law_274 : decode cL_law 274 = .ok (.iconst 3, 1) := by decide +kernel
theorem dL_law_275 : decode cL_law 275 = .ok (.iadd, 1) := by decide +kernel
theorem dL_law_276 : decode cL_law 276 = .ok (.iaload, 1) := by decide +kernel
theorem dL_law_277 : decode cL_law 277 = .ok (.invokevirtual 18, 3) := by decide +kernel
theorem dL_law_280 : decode cL_law 280 = .ok (.aload_n 2, 1) := by decide +kernel
theorem dL_law_281 : decode cL_law 281 = .ok (.aload_n 0, 1) := by decide +kernel
theorem dL_law_282 : decode cL_law 282 = .ok (.iload_n 3, 1) := by decide +kernel
theorem dL_law_283 : decode cL_law 283 = .ok (.iconst 1, 1) := by decide +kernel
theorem dL_law_284 : decode cL_law 284 = .ok (.iadd, 1) := by decide +kernel
theorem dL_law_285 : decode cL_law 285 = .ok (.iaload, 1) := by decide +kernel
theorem dL_law_286 : decode cL_law 286 = .ok (.aload_n 0, 1) := by decide +kernel
theorem dL_law_287 : decode cL_law 287 = .ok (.iload_n 3, 1) := by decide +kernel
theorem dL_law_288 : decode cL_law 288 = .ok (.iconst 2, 1) := by decide +kernel
theorem dL_law_289 : decode cL_law 289 = .ok (.iadd, 1) := by decide +kernel
theorem dL_law_290 : decode cL_law 290 = .ok (.iaload, 1) := by decide +kernel
theorem dL_law_291 : decode cL_law 291 = .ok (.aload_n 0, 1) := by decide +kernel
theorem dL_law_292 : decode cL_law 292 = .ok (.iload_n 3, 1) := by decide +kernel
theorem dL_law_293 : decode cL_law 293 = .ok (.iconst 3, 1) := by decide +kernel
theorem dL_law_294 : decode cL_law 294 = .ok (.iadd, 1) := by decide +kernel
theorem dL_law_295 : decode cL_law 295 = .ok (.iaload, 1) := by decide +kernel
theorem dL_law_296 : decode cL_law 296 = .ok (.invokevirtual 22, 3) := by decide +kernel
theorem dL_law_299 : decode cL_law 299 = .ok (.if_icmp .eq 1167, 3) := by decide +kernel
theorem dL_law_302 : decode cL_law 302 = .ok (.iconst 0, 1) := by decide +kernel
theorem dL_law_303 : decode cL_law 303 = .ok (.ireturn, 1) := by decide +kernel
theorem dL_law_304 : decode cL_law 304 = .ok (.aload_n 1, 1) := by decide +kernel
theorem dL_law_305 : decode cL_law 305 = .ok (.aload_n 0, 1) := by decide +kernel
theorem dL_law_306 : decode cL_law 306 = .ok (.iload_n 3, 1) := by decide +kernel
theorem dL_law_307 : decode cL_law 307 = .ok (.iconst 1, 1) := by decide +kernel
theorem dL_law_308 : decode cL_law 308 = .ok (.iadd, 1) := by decide +kernel
theorem dL_law_309 : decode cL_law 309 = .ok (.iaload, 1) := by decide +kernel
theorem dL_law_310 : decode cL_law 310 = .ok (.aload_n 0, 1) := by decide +kernel
theorem dL_law_311 : decode cL_law 311 = .ok (.iload_n 3, 1) := by decide +kernel
theorem dL_law_312 : decode cL_law 312 = .ok (.iconst 2, 1) := by decide +kernel
theorem dL_law_313 : decode cL_law 313 = .ok (.iadd, 1) := by decide +kernel
theorem dL_law_314 : decode cL_law 314 = .ok (.iaload, 1) := by decide +kernel
theorem dL_law_315 : decode cL_law 315 = .ok (.invokevirtual 23, 3) := by decide +kernel
theorem dL_law_318 : decode cL_law 318 = .ok (.aload_n 2, 1) := by decide +kernel
theorem dL_law_319 : decode cL_law 319 = .ok (.aload_n 0, 1) := by decide +kernel
theorem dL_law_320 : decode cL_law 320 = .ok (.iload_n 3, 1) := by decide +kernel
theorem dL_law_321 : decode cL_law 321 = .ok (.iconst 1, 1) := by decide +kernel
theorem dL_law_322 : decode cL_law 322 = .ok (.iadd, 1) := by decide +kernel
theorem dL_law_323 : decode cL_law 323 = .ok (.iaload, 1) := by decide +kernel
theorem dL_law_324 : decode cL_law 324 = .ok (.aload_n 0, 1) := by decide +kernel
theorem dL_law_325 : decode cL_law 325 = .ok (.iload_n 3, 1) := by decide +kernel
theorem dL_law_326 : decode cL_law 326 = .ok (.iconst 2, 1) := by decide +kernel
theorem dL_law_327 : decode cL_law 327 = .ok (.iadd, 1) := by decide +kernel
theorem dL_law_328 : decode cL_law 328 = .ok (.iaload, 1) := by decide +kernel
theorem dL_law_329 : decode cL_law 329 = .ok (.invokevirtual 26, 3) := by decide +kernel
theorem dL_law_332 : decode cL_law 332 = .ok (.if_icmp .eq 1134, 3) := by decide +kernel
theorem dL_law_335 : decode cL_law 335 = .ok (.iconst 0, 1) := by decide +kernel
theorem dL_law_336 : decode cL_law 336 = .ok (.ireturn, 1) := by decide +kernel
theorem dL_law_337 : decode cL_law 337 = .ok (.aload_n 1, 1) := by decide +kernel
theorem dL_law_338 : decode cL_law 338 = .ok (.aload_n 0, 1) := by decide +kernel
theorem dL_law_339 : decode cL_law 339 = .ok (.iload_n 3, 1) := by decide +kernel
theorem dL_law_340 : decode cL_law 340 = .ok (.iconst 1, 1) := by decide +kernel
theorem dL_law_341 : decode cL_law 341 = .ok (.iadd, 1) := by decide +kernel
theorem dL_law_342 : decode cL_law 342 = .ok (.iaload, 1) := by decide +kernel
theorem dL_law_343 : decode cL_law 343 = .ok (.invokevirtual 27, 3) := by decide +kernel
theorem dL_law_346 : decode cL_law 346 = .ok (.aload_n 2, 1) := by decide +kernel
theorem dL_law_347 : decode cL_law 347 = .ok (.aload_n 0, 1) := by decide +kernel
theorem dL_law_348 : decode cL_law 348 = .ok (.iload_n 3, 1) := by decide +kernel
theorem dL_law_349 : decode cL_law 349 = .ok (.iconst 1, 1) := by decide +kernel
theorem dL_law_350 : decode cL_law 350 = .ok (.iadd, 1) := by decide +kernel
theorem dL_law_351 : decode cL_law 351 = .ok (.iaload, 1) := by decide +kernel
theorem dL_law_352 : decode cL_law 352 = .ok (.invokevirtual 31, 3) := by decide +kernel
theorem dL_law_355 : decode cL_law 355 = .ok (.if_icmp .eq 1111, 3) := by decide +kernel
theorem dL_law_358 : decode cL_law 358 = .ok (.iconst 0, 1) := by decide +kernel
theorem dL_law_359 : decode cL_law 359 = .ok (.ireturn, 1) := by decide +kernel
theorem dL_law_360 : decode cL_law 360 = .ok (.aload_n 1, 1) := by decide +kernel
theorem dL_law_361 : decode cL_law 361 = .ok (.aload_n 0, 1) := by decide +kernel
theorem dL_law_362 : decode cL_law 362 = .ok (.iload_n 3, 1) := by decide +kernel
theorem dL_law_363 : decode cL_law 363 = .ok (.iconst 1, 1) := by decide +kernel
theorem dL_law_364 : decode cL_law 364 = .ok (.iadd, 1) := by decide +kernel
theorem dL_law_365 : decode cL_law 365 = .ok (.iaload, 1) := by decide +kernel
theorem dL_law_366 : decode cL_law 366 = .ok (.aload_n 0, 1) := by decide +kernel
theorem dL_law_367 : decode cL_law 367 = .ok (.iload_n 3, 1) := by decide +kernel
theorem dL_law_368 : decode cL_law 368 = .ok (.iconst 2, 1) := by decide +kernel
theorem dL_law_369 : decode cL_law 369 = .ok (.iadd, 1) := by decide +kernel
theorem dL_law_370 : decode cL_law 370 = .ok (.iaload, 1) := by decide +kernel
theorem dL_law_371 : decode cL_law 371 = .ok (.aload_n 0, 1) := by decide +kernel
theorem dL_law_372 : decode cL_law 372 = .ok (.iload_n 3, 1) := by decide +kernel
theorem dL_law_373 : decode cL_law 373 = .ok (.iconst 3, 1) := by decide +kernel
theorem dL_law_374 : decode cL_law 374 = .ok (.iadd, 1) := by decide +kernel
theorem dL_law_375 : decode cL_law 375 = .ok (.iaload, 1) := by decide +kernel
theorem dL_law_376 : decode cL_law 376 = .ok (.aload_n 0, 1) := by decide +kernel
theorem dL_law_377 : decode cL_law 377 = .ok (.iload_n 3, 1) := by decide +kernel
theorem dL_law_378 : decode cL_law 378 = .ok (.iconst 4, 1) := by decide +kernel
theorem dL_law_379 : decode cL_law 379 = .ok (.iadd, 1) := by decide +kernel
theorem dL_law_380 : decode cL_law 380 = .ok (.iaload, 1) := by decide +kernel
theorem dL_law_381 : decode cL_law 381 = .ok (.aload_n 0, 1) := by decide +kernel
theorem dL_law_382 : decode cL_law 382 = .ok (.iload_n 3, 1) := by decide +kernel
theorem dL_law_383 : decode cL_law 383 = .ok (.iconst 5, 1) := by decide +kernel
theorem dL_law_384 : decode cL_law 384 = .ok (.iadd, 1) := by decide +kernel
theorem dL_law_385 : decode cL_law 385 = .ok (.iaload, 1) := by decide +kernel
theorem dL_law_386 : decode cL_law 386 = .ok (.invokevirtual 32, 3) := by decide +kernel
theorem dL_law_389 : decode cL_law 389 = .ok (.aload_n 2, 1) := by decide +kernel
theorem dL_law_390 : decode cL_law 390 = .ok (.aload_n 0, 1) := by decide +kernel
theorem dL_law_391 : decode cL_law 391 = .ok (.iload_n 3, 1) := by decide +kernel
theorem dL_law_392 : decode cL_law 392 = .ok (.iconst 1, 1) := by decide +kernel
theorem dL_law_393 : decode cL_law 393 = .ok (.iadd, 1) := by decide +kernel
theorem dL_law_394 : decode cL_law 394 = .ok (.iaload, 1) := by decide +kernel
theorem dL_law_395 : decode cL_law 395 = .ok (.aload_n 0, 1) := by decide +kernel
theorem dL_law_396 : decode cL_law 396 = .ok (.iload_n 3, 1) := by decide +kernel
theorem dL_law_397 : decode cL_law 397 = .ok (.iconst 2, 1) := by decide +kernel
theorem dL_law_398 : decode cL_law 398 = .ok (.iadd, 1) := by decide +kernel
theorem dL_law_399 : decode cL_law 399 = .ok (.iaload, 1) := by decide +kernel
theorem dL_law_400 : decode cL_law 400 = .ok (.aload_n 0, 1) := by decide +kernel
theorem dL_law_401 : decode cL_law 401 = .ok (.iload_n 3, 1) := by decide +kernel
theorem dL_law_402 : decode cL_law 402 = .ok (.iconst 3, 1) := by decide +kernel
theorem dL_law_403 : decode cL_law 403 = .ok (.iadd, 1) := by decide +kernel
theorem dL_law_404 : decode cL_law 404 = .ok (.iaload, 1) := by decide +kernel
theorem dL_law_405 : decode cL_law 405 = .ok (.aload_n 0, 1) := by decide +kernel
theorem dL_law_406 : decode cL_law 406 = .ok (.iload_n 3, 1) := by decide +kernel
theorem dL_law_407 : decode cL_law 407 = .ok (.iconst 4, 1) := by decide +kernel
theorem dL_law_408 : decode cL_law 408 = .ok (.iadd, 1) := by decide +kernel
theorem dL_law_409 : decode cL_law 409 = .ok (.iaload, 1) := by decide +kernel
theorem dL_law_410 : decode cL_law 410 = .ok (.aload_n 0, 1) := by decide +kernel
theorem dL_law_411 : decode cL_law 411 = .ok (.iload_n 3, 1) := by decide +kernel
theorem dL_law_412 : decode cL_law 412 = .ok (.iconst 5, 1) := by decide +kernel
theorem dL_law_413 : decode cL_law 413 = .ok (.iadd, 1) := by decide +kernel
theorem dL_law_414 : decode cL_law 414 = .ok (.iaload, 1) := by decide +kernel
theorem dL_law_415 : decode cL_law 415 = .ok (.invokevirtual 36, 3) := by decide +kernel
theorem dL_law_418 : decode cL_law 418 = .ok (.if_icmp .eq 1048, 3) := by decide +kernel
theorem dL_law_421 : decode cL_law 421 = .ok (.iconst 0, 1) := by decide +kernel
theorem dL_law_422 : decode cL_law 422 = .ok (.ireturn, 1) := by decide +kernel
theorem dL_law_423 : decode cL_law 423 = .ok (.aload_n 1, 1) := by decide +kernel
theorem dL_law_424 : decode cL_law 424 = .ok (.aload_n 0, 1) := by decide +kernel
theorem dL_law_425 : decode cL_law 425 = .ok (.iload_n 3, 1) := by decide +kernel
theorem dL_law_426 : decode cL_law 426 = .ok (.iconst 1, 1) := by decide +kernel
theorem dL_law_427 : decode cL_law 427 = .ok (.iadd, 1) := by decide +kernel
theorem dL_law_428 : decode cL_law 428 = .ok (.iaload, 1) := by decide +kernel
theorem dL_law_429 : decode cL_law 429 = .ok (.invokevirtual 37, 3) := by decide +kernel
theorem dL_law_432 : decode cL_law 432 = .ok (.aload_n 2, 1) := by decide +kernel
theorem dL_law_433 : decode cL_law 433 = .ok (.aload_n 0, 1) := by decide +kernel
theorem dL_law_434 : decode cL_law 434 = .ok (.iload_n 3, 1) := by decide +kernel
theorem dL_law_435 : decode cL_law 435 = .ok (.iconst 1, 1) := by decide +kernel
theorem dL_law_436 : decode cL_law 436 = .ok (.iadd, 1) := by decide +kernel
theorem dL_law_437 : decode cL_law 437 = .ok (.iaload, 1) := by decide +kernel
theorem dL_law_438 : decode cL_law 438 = .ok (.invokevirtual 40, 3) := by decide +kernel
theorem dL_law_441 : decode cL_law 441 = .ok (.if_icmp .eq 1025, 3) := by decide +kernel
theorem dL_law_444 : decode cL_law 444 = .ok (.iconst 0, 1) := by decide +kernel
theorem dL_law_445 : decode cL_law 445 = .ok (.ireturn, 1) := by decide +kernel
theorem dL_law_446 : decode cL_law 446 = .ok (.aload_n 1, 1) := by decide +kernel
theorem dL_law_447 : decode cL_law 447 = .ok (.aload_n 0, 1) := by decide +kernel
theorem dL_law_448 : decode cL_law 448 = .ok (.iload_n 3, 1) := by decide +kernel
theorem dL_law_449 : decode cL_law 449 = .ok (.iconst 1, 1) := by decide +kernel
theorem dL_law_450 : decode cL_law 450 = .ok (.iadd, 1) := by decide +kernel
theorem dL_law_451 : decode cL_law 451 = .ok (.iaload, 1) := by decide +kernel
theorem dL_law_452 : decode cL_law 452 = .ok (.aload_n 0, 1) := by decide +kernel
theorem dL_law_453 : decode cL_law 453 = .ok (.iload_n 3, 1) := by decide +kernel
theorem dL_law_454 : decode cL_law 454 = .ok (.iconst 2, 1) := by decide +kernel
theorem dL_law_455 : decode cL_law 455 = .ok (.iadd, 1) := by decide +kernel
theorem dL_law_456 : decode cL_law 456 = .ok (.iaload, 1) := by decide +kernel
theorem dL_law_457 : decode cL_law 457 = .ok (.invokevirtual 41, 3) := by decide +kernel
theorem dL_law_460 : decode cL_law 460 = .ok (.aload_n 2, 1) := by decide +kernel
theorem dL_law_461 : decode cL_law 461 = .ok (.aload_n 0, 1) := by decide +kernel
theorem dL_law_462 : decode cL_law 462 = .ok (.iload_n 3, 1) := by decide +kernel
theorem dL_law_463 : decode cL_law 463 = .ok (.iconst 1, 1) := by decide +kernel
theorem dL_law_464 : decode cL_law 464 = .ok (.iadd, 1) := by decide +kernel
theorem dL_law_465 : decode cL_law 465 = .ok (.iaload, 1) := by decide +kernel
theorem dL_law_466 : decode cL_law 466 = .ok (.aload_n 0, 1) := by decide +kernel
theorem dL_law_467 : decode cL_law 467 = .ok (.iload_n 3, 1) := by decide +kernel
theorem dL_law_468 : decode cL_law 468 = .ok (.iconst 2, 1) := by decide +kernel
theorem dL_law_469 : decode cL_law 469 = .ok (.iadd, 1) := by decide +kernel
theorem dL_law_470 : decode cL_law 470 = .ok (.iaload, 1) := by decide +kernel
theorem dL_law_471 : decode cL_law 471 = .ok (.invokevirtual 44, 3) := by decide +kernel
theorem dL_law_474 : decode cL_law 474 = .ok (.if_icmp .eq 992, 3) := by decide +kernel
theorem dL_law_477 : decode cL_law 477 = .ok (.iconst 0, 1) := by decide +kernel
theorem dL_law_478 : decode cL_law 478 = .ok (.ireturn, 1) := by decide +kernel
theorem dL_law_479 : decode cL_law 479 = .ok (.aload_n 1, 1) := by decide +kernel
theorem dL_law_480 : decode cL_law 480 = .ok (.aload_n 0, 1) := by decide +kernel
theorem dL_law_481 : decode cL_law 481 = .ok (.iload_n 3, 1) := by decide +kernel
theorem dL_law_482 : decode cL_law 482 = .ok (.iconst 1, 1) := by decide +kernel
theorem dL_law_483 : decode cL_law 483 = .ok (.iadd, 1) := by decide +kernel
theorem dL_law_484 : decode cL_law 484 = .ok (.iaload, 1) := by decide +kernel
theorem dL_law_485 : decode cL_law 485 = .ok (.aload_n 0, 1) := by decide +kernel
theorem dL_law_486 : decode cL_law 486 = .ok (.iload_n 3, 1) := by decide +kernel
theorem dL_law_487 : decode cL_law 487 = .ok (.iconst 2, 1) := by decide +kernel
theorem dL_law_488 : decode cL_law 488 = .ok (.iadd, 1) := by decide +kernel
theorem dL_law_489 : decode cL_law 489 = .ok (.iaload, 1) := by decide +kernel
theorem dL_law_490 : decode cL_law 490 = .ok (.aload_n 0, 1) := by decide +kernel
theorem dL_law_491 : decode cL_law 491 = .ok (.iload_n 3, 1) := by decide +kernel
theorem dL_law_492 : decode cL_law 492 = .ok (.iconst 3, 1) := by decide +kernel
theorem dL_law_493 : decode cL_law 493 = .ok (.iadd, 1) := by decide +kernel
theorem dL_law_494 : decode cL_law 494 = .ok (.iaload, 1) := by decide +kernel
theorem dL_law_495 : decode cL_law 495 = .ok (.invokevirtual 45, 3) := by decide +kernel
theorem dL_law_498 : decode cL_law 498 = .ok (.aload_n 2, 1) := by decide +kernel
theorem dL_law_499 : decode cL_law 499 = .ok (.aload_n 0, 1) := by decide +kernel
theorem dL_law_500 : decode cL_law 500 = .ok (.iload_n 3, 1) := by decide +kernel
theorem dL_law_501 : decode cL_law 501 = .ok (.iconst 1, 1) := by decide +kernel
theorem dL_law_502 : decode cL_law 502 = .ok (.iadd, 1) := by decide +kernel
theorem dL_law_503 : decode cL_law 503 = .ok (.iaload, 1) := by decide +kernel
theorem dL_law_504 : decode cL_law 504 = .ok (.aload_n 0, 1) := by decide +kernel
theorem dL_law_505 : decode cL_law 505 = .ok (.iload_n 3, 1) := by decide +kernel
theorem dL_law_506 : decode cL_law 506 = .ok (.iconst 2, 1) := by decide +kernel
theorem dL_law_507 : decode cL_law 507 = .ok (.iadd, 1) := by decide +kernel
theorem dL_law_508 : decode cL_law 508 = .ok (.iaload, 1) := by decide +kernel
theorem dL_law_509 : decode cL_law 509 = .ok (.aload_n 0, 1) := by decide +kernel
theorem dL_law_510 : decode cL_law 510 = .ok (.iload_n 3, 1) := by decide +kernel
theorem dL_law_511 : decode cL_law 511 = .ok (.iconst 3, 1) := by decide +kernel
theorem dL_law_512 : decode cL_law 512 = .ok (.iadd, 1) := by decide +kernel
theorem dL_law_513 : decode cL_law 513 = .ok (.iaload, 1) := by decide +kernel
theorem dL_law_514 : decode cL_law 514 = .ok (.invokevirtual 48, 3) := by decide +kernel
theorem dL_law_517 : decode cL_law 517 = .ok (.if_icmp .eq 949, 3) := by decide +kernel
theorem dL_law_520 : decode cL_law 520 = .ok (.iconst 0, 1) := by decide +kernel
theorem dL_law_521 : decode cL_law 521 = .ok (.ireturn, 1) := by decide +kernel
theorem dL_law_522 : decode cL_law 522 = .ok (.aload_n 1, 1) := by decide +kernel
theorem dL_law_523 : decode cL_law 523 = .ok (.aload_n 0, 1) := by decide +kernel
theorem dL_law_524 : decode cL_law 524 = .ok (.iload_n 3, 1) := by decide +kernel
theorem dL_law_525 : decode cL_law 525 = .ok (.iconst 1, 1) := by decide +kernel
theorem dL_law_526 : decode cL_law 526 = .ok (.iadd, 1) := by decide +kernel
theorem dL_law_527 : decode cL_law 527 = .ok (.iaload, 1) := by decide +kernel
theorem dL_law_528 : decode cL_law 528 = .ok (.invokevirtual 49, 3) := by decide +kernel
theorem dL_law_531 : decode cL_law 531 = .ok (.aload_n 2, 1) := by decide +kernel
theorem dL_law_532 : decode cL_law 532 = .ok (.aload_n 0, 1) := by decide +kernel
theorem dL_law_533 : decode cL_law 533 = .ok (.iload_n 3, 1) := by decide +kernel
theorem dL_law_534 : decode cL_law 534 = .ok (.iconst 1, 1) := by decide +kernel
theorem dL_law_535 : decode cL_law 535 = .ok (.iadd, 1) := by decide +kernel
theorem dL_law_536 : decode cL_law 536 = .ok (.iaload, 1) := by decide +kernel
theorem dL_law_537 : decode cL_law 537 = .ok (.invokevirtual 52, 3) := by decide +kernel
theorem dL_law_540 : decode cL_law 540 = .ok (.if_icmp .eq 926, 3) := by decide +kernel
theorem dL_law_543 : decode cL_law 543 = .ok (.iconst 0, 1) := by decide +kernel
theorem dL_law_544 : decode cL_law 544 = .ok (.ireturn, 1) := by decide +kernel
theorem dL_law_545 : decode cL_law 545 = .ok (.aload_n 1, 1) := by decide +kernel
theorem dL_law_546 : decode cL_law 546 = .ok (.aload_n 0, 1) := by decide +kernel
theorem dL_law_547 : decode cL_law 547 = .ok (.iload_n 3, 1) := by decide +kernel
theorem dL_law_548 : decode cL_law 548 = .ok (.iconst 1, 1) := by decide +kernel
theorem dL_law_549 : decode cL_law 549 = .ok (.iadd, 1) := by decide +kernel
theorem dL_law_550 : decode cL_law 550 = .ok (.iaload, 1) := by decide +kernel
theorem dL_law_551 : decode cL_law 551 = .ok (.invokevirtual 53, 3) := by decide +kernel
theorem dL_law_554 : decode cL_law 554 = .ok (.aload_n 2, 1) := by decide +kernel
theorem dL_law_555 : decode cL_law 555 = .ok (.aload_n 0, 1) := by decide +kernel
theorem dL_law_556 : decode cL_law 556 = .ok (.iload_n 3, 1) := by decide +kernel
theorem dL_law_557 : decode cL_law 557 = .ok (.iconst 1, 1) := by decide +kernel
theorem dL_law_558 : decode cL_law 558 = .ok (.iadd, 1) := by decide +kernel
theorem dL_law_559 : decode cL_law 559 = .ok (.iaload, 1) := by decide +kernel
theorem dL_law_560 : decode cL_law 560 = .ok (.invokevirtual 56, 3) := by decide +kernel
theorem dL_law_563 : decode cL_law 563 = .ok (.if_icmp .eq 903, 3) := by decide +kernel
theorem dL_law_566 : decode cL_law 566 = .ok (.iconst 0, 1) := by decide +kernel
theorem dL_law_567 : decode cL_law 567 = .ok (.ireturn, 1) := by decide +kernel
theorem dL_law_568 : decode cL_law 568 = .ok (.aload_n 1, 1) := by decide +kernel
theorem dL_law_569 : decode cL_law 569 = .ok (.aload_n 0, 1) := by decide +kernel
theorem dL_law_570 : decode cL_law 570 = .ok (.iload_n 3, 1) := by decide +kernel
theorem dL_law_571 : decode cL_law 571 = .ok (.iconst 1, 1) := by decide +kernel
theorem dL_law_572 : decode cL_law 572 = .ok (.iadd, 1) := by decide +kernel
theorem dL_law_573 : decode cL_law 573 = .ok (.iaload, 1) := by decide +kernel
theorem dL_law_574 : decode cL_law 574 = .ok (.invokevirtual 57, 3) := by decide +kernel
theorem dL_law_577 : decode cL_law 577 = .ok (.aload_n 2, 1) := by decide +kernel
theorem dL_law_578 : decode cL_law 578 = .ok (.aload_n 0, 1) := by decide +kernel
theorem dL_law_579 : decode cL_law 579 = .ok (.iload_n 3, 1) := by decide +kernel
theorem dL_law_580 : decode cL_law 580 = .ok (.iconst 1, 1) := by decide +kernel
theorem dL_law_581 : decode cL_law 581 = .ok (.iadd, 1) := by decide +kernel
theorem dL_law_582 : decode cL_law 582 = .ok (.iaload, 1) := by decide +kernel
theorem dL_law_583 : decode cL_law 583 = .ok (.invokevirtual 60, 3) := by decide +kernel
theorem dL_law_586 : decode cL_law 586 = .ok (.if_icmp .eq 880, 3) := by decide +kernel
theorem dL_law_589 : decode cL_law 589 = .ok (.iconst 0, 1) := by decide +kernel
theorem dL_law_590 : decode cL_law 590 = .ok (.ireturn, 1) := by decide +kernel
theorem dL_law_591 : decode cL_law 591 = .ok (.aload_n 1, 1) := by decide +kernel
theorem dL_law_592 : decode cL_law 592 = .ok (.aload_n 0, 1) := by decide +kernel
theorem dL_law_593 : decode cL_law 593 = .ok (.iload_n 3, 1) := by decide +kernel
theorem dL_law_594 : decode cL_law 594 = .ok (.iconst 1, 1) := by decide +kernel
theorem dL_law_595 : decode cL_law 595 = .ok (.iadd, 1) := by decide +kernel
theorem dL_law_596 : decode cL_law 596 = .ok (.iaload, 1) := by decide +kernel
theorem dL_law_597 : decode cL_law 597 = .ok (.aload_n 0, 1) := by decide +kernel
theorem dL_law_598 : decode cL_law 598 = .ok (.iload_n 3, 1) := by decide +kernel
theorem dL_law_599 : decode cL_law 599 = .ok (.iconst 2, 1) := by decide +kernel
theorem dL_law_600 : decode cL_law 600 = .ok (.iadd, 1) := by decide +kernel
theorem dL_law_601 : decode cL_law 601 = .ok (.iaload, 1) := by decide +kernel
theorem dL_law_602 : decode cL_law 602 = .ok (.invokevirtual 61, 3) := by decide +kernel
theorem dL_law_605 : decode cL_law 605 = .ok (.aload_n 2, 1) := by decide +kernel
theorem dL_law_606 : decode cL_law 606 = .ok (.aload_n 0, 1) := by decide +kernel
theorem dL_law_607 : decode cL_law 607 = .ok (.iload_n 3, 1) := by decide +kernel
theorem dL_law_608 : decode cL_law 608 = .ok (.iconst 1, 1) := by decide +kernel
theorem dL_law_609 : decode cL_law 609 = .ok (.iadd, 1) := by decide +kernel
theorem dL_law_610 : decode cL_law 610 = .ok (.iaload, 1) := by decide +kernel
theorem dL_law_611 : decode cL_law 611 = .ok (.aload_n 0, 1) := by decide +kernel
theorem dL_law_612 : decode cL_law 612 = .ok (.iload_n 3, 1) := by decide +kernel
theorem dL_law_613 : decode cL_law 613 = .ok (.iconst 2, 1) := by decide +kernel
theorem dL_law_614 : decode cL_law 614 = .ok (.iadd, 1) := by decide +kernel
theorem dL_law_615 : decode cL_law 615 = .ok (.iaload, 1) := by decide +kernel
theorem dL_law_616 : decode cL_law 616 = .ok (.invokevirtual 64, 3) := by decide +kernel
theorem dL_law_619 : decode cL_law 619 = .ok (.if_icmp .eq 847, 3) := by decide +kernel
theorem dL_law_622 : decode cL_law 622 = .ok (.iconst 0, 1) := by decide +kernel
theorem dL_law_623 : decode cL_law 623 = .ok (.ireturn, 1) := by decide +kernel
theorem dL_law_624 : decode cL_law 624 = .ok (.aload_n 1, 1) := by decide +kernel
theorem dL_law_625 : decode cL_law 625 = .ok (.aload_n 0, 1) := by decide +kernel
theorem dL_law_626 : decode cL_law 626 = .ok (.iload_n 3, 1) := by decide +kernel
theorem dL_law_627 : decode cL_law 627 = .ok (.iconst 1, 1) := by decide +kernel
theorem dL_law_628 : decode cL_law 628 = .ok (.iadd, 1) := by decide +kernel
theorem dL_law_629 : decode cL_law 629 = .ok (.iaload, 1) := by decide +kernel
theorem dL_law_630 : decode cL_law 630 = .ok (.aload_n 0, 1) := by decide +kernel
theorem dL_law_631 : decode cL_law 631 = .ok (.iload_n 3, 1) := by decide +kernel
theorem dL_law_632 : decode cL_law 632 = .ok (.iconst 2, 1) := by decide +kernel
theorem dL_law_633 : decode cL_law 633 = .ok (.iadd, 1) := by decide +kernel
theorem dL_law_634 : decode cL_law 634 = .ok (.iaload, 1) := by decide +kernel
theorem dL_law_635 : decode cL_law 635 = .ok (.invokevirtual 65, 3) := by decide +kernel
theorem dL_law_638 : decode cL_law 638 = .ok (.aload_n 2, 1) := by decide +kernel
theorem dL_law_639 : decode cL_law 639 = .ok (.aload_n 0, 1) := by decide +kernel
theorem dL_law_640 : decode cL_law 640 = .ok (.iload_n 3, 1) := by decide +kernel
theorem dL_law_641 : decode cL_law 641 = .ok (.iconst 1, 1) := by decide +kernel
theorem dL_law_642 : decode cL_law 642 = .ok (.iadd, 1) := by decide +kernel
theorem dL_law_643 : decode cL_law 643 = .ok (.iaload, 1) := by decide +kernel
theorem dL_law_644 : decode cL_law 644 = .ok (.aload_n 0, 1) := by decide +kernel
theorem dL_law_645 : decode cL_law 645 = .ok (.iload_n 3, 1) := by decide +kernel
theorem dL_law_646 : decode cL_law 646 = .ok (.iconst 2, 1) := by decide +kernel
theorem dL_law_647 : decode cL_law 647 = .ok (.iadd, 1) := by decide +kernel
theorem dL_law_648 : decode cL_law 648 = .ok (.iaload, 1) := by decide +kernel
theorem dL_law_649 : decode cL_law 649 = .ok (.invokevirtual 68, 3) := by decide +kernel
theorem dL_law_652 : decode cL_law 652 = .ok (.if_icmp .eq 814, 3) := by decide +kernel
theorem dL_law_655 : decode cL_law 655 = .ok (.iconst 0, 1) := by decide +kernel
theorem dL_law_656 : decode cL_law 656 = .ok (.ireturn, 1) := by decide +kernel
theorem dL_law_657 : decode cL_law 657 = .ok (.aload_n 1, 1) := by decide +kernel
theorem dL_law_658 : decode cL_law 658 = .ok (.aload_n 0, 1) := by decide +kernel
theorem dL_law_659 : decode cL_law 659 = .ok (.iload_n 3, 1) := by decide +kernel
theorem dL_law_660 : decode cL_law 660 = .ok (.iconst 1, 1) := by decide +kernel
theorem dL_law_661 : decode cL_law 661 = .ok (.iadd, 1) := by decide +kernel
theorem dL_law_662 : decode cL_law 662 = .ok (.iaload, 1) := by decide +kernel
theorem dL_law_663 : decode cL_law 663 = .ok (.invokevirtual 69, 3) := by decide +kernel
theorem dL_law_666 : decode cL_law 666 = .ok (.aload_n 2, 1) := by decide +kernel
theorem dL_law_667 : decode cL_law 667 = .ok (.aload_n 0, 1) := by decide +kernel
theorem dL_law_668 : decode cL_law 668 = .ok (.iload_n 3, 1) := by decide +kernel
theorem dL_law_669 : decode cL_law 669 = .ok (.iconst 1, 1) := by decide +kernel
theorem dL_law_670 : decode cL_law 670 = .ok (.iadd, 1) := by decide +kernel
theorem dL_law_671 : decode cL_law 671 = .ok (.iaload, 1) := by decide +kernel
theorem dL_law_672 : decode cL_law 672 = .ok (.invokevirtual 72, 3) := by decide +kernel
theorem dL_law_675 : decode cL_law 675 = .ok (.if_icmp .eq 791, 3) := by decide +kernel
theorem dL_law_678 : decode cL_law 678 = .ok (.iconst 0, 1) := by decide +kernel
theorem dL_law_679 : decode cL_law 679 = .ok (.ireturn, 1) := by decide +kernel
theorem dL_law_680 : decode cL_law 680 = .ok (.aload_n 1, 1) := by decide +kernel
theorem dL_law_681 : decode cL_law 681 = .ok (.aload_n 0, 1) := by decide +kernel
theorem dL_law_682 : decode cL_law 682 = .ok (.iload_n 3, 1) := by decide +kernel
theorem dL_law_683 : decode cL_law 683 = .ok (.iconst 1, 1) := by decide +kernel
theorem dL_law_684 : decode cL_law 684 = .ok (.iadd, 1) := by decide +kernel
theorem dL_law_685 : decode cL_law 685 = .ok (.iaload, 1) := by decide +kernel
theorem dL_law_686 : decode cL_law 686 = .ok (.aload_n 0, 1) := by decide +kernel
theorem dL_law_687 : decode cL_law 687 = .ok (.iload_n 3, 1) := by decide +kernel
theorem dL_law_688 : decode cL_law 688 = .ok (.iconst 2, 1) := by decide +kernel
theorem dL_law_689 : decode cL_law 689 = .ok (.iadd, 1) := by decide +kernel
theorem dL_law_690 : decode cL_law 690 = .ok (.iaload, 1) := by decide +kernel
theorem dL_law_691 : decode cL_law 691 = .ok (.invokevirtual 73, 3) := by decide +kernel
theorem dL_law_694 : decode cL_law 694 = .ok (.aload_n 2, 1) := by decide +kernel
theorem dL_law_695 : decode cL_law 695 = .ok (.aload_n 0, 1) := by decide +kernel
theorem dL_law_696 : decode cL_law 696 = .ok (.iload_n 3, 1) := by decide +kernel
theorem dL_law_697 : decode cL_law 697 = .ok (.iconst 1, 1) := by decide +kernel
theorem dL_law_698 : decode cL_law 698 = .ok (.iadd, 1) := by decide +kernel
theorem dL_law_699 : decode cL_law 699 = .ok (.iaload, 1) := by decide +kernel
theorem dL_law_700 : decode cL_law 700 = .ok (.aload_n 0, 1) := by decide +kernel
theorem dL_law_701 : decode cL_law 701 = .ok (.iload_n 3, 1) := by decide +kernel
theorem dL_law_702 : decode cL_law 702 = .ok (.iconst 2, 1) := by decide +kernel
theorem dL_law_703 : decode cL_law 703 = .ok (.iadd, 1) := by decide +kernel
theorem dL_law_704 : decode cL_law 704 = .ok (.iaload, 1) := by decide +kernel
theorem dL_law_705 : decode cL_law 705 = .ok (.invokevirtual 76, 3) := by decide +kernel
theorem dL_law_708 : decode cL_law 708 = .ok (.if_icmp .eq 758, 3) := by decide +kernel
theorem dL_law_711 : decode cL_law 711 = .ok (.iconst 0, 1) := by decide +kernel
theorem dL_law_712 : decode cL_law 712 = .ok (.ireturn, 1) := by decide +kernel
theorem dL_law_713 : decode cL_law 713 = .ok (.aload_n 1, 1) := by decide +kernel
theorem dL_law_714 : decode cL_law 714 = .ok (.aload_n 0, 1) := by decide +kernel
theorem dL_law_715 : decode cL_law 715 = .ok (.iload_n 3, 1) := by decide +kernel
theorem dL_law_716 : decode cL_law 716 = .ok (.iconst 1, 1) := by decide +kernel
theorem dL_law_717 : decode cL_law 717 = .ok (.iadd, 1) := by decide +kernel
theorem dL_law_718 : decode cL_law 718 = .ok (.iaload, 1) := by decide +kernel
theorem dL_law_719 : decode cL_law 719 = .ok (.invokevirtual 77, 3) := by decide +kernel
theorem dL_law_722 : decode cL_law 722 = .ok (.aload_n 2, 1) := by decide +kernel
theorem dL_law_723 : decode cL_law 723 = .ok (.aload_n 0, 1) := by decide +kernel
theorem dL_law_724 : decode cL_law 724 = .ok (.iload_n 3, 1) := by decide +kernel
theorem dL_law_725 : decode cL_law 725 = .ok (.iconst 1, 1) := by decide +kernel
theorem dL_law_726 : decode cL_law 726 = .ok (.iadd, 1) := by decide +kernel
theorem dL_law_727 : decode cL_law 727 = .ok (.iaload, 1) := by decide +kernel
theorem dL_law_728 : decode cL_law 728 = .ok (.invokevirtual 80, 3) := by decide +kernel
theorem dL_law_731 : decode cL_law 731 = .ok (.if_icmp .eq 735, 3) := by decide +kernel
theorem dL_law_734 : decode cL_law 734 = .ok (.iconst 0, 1) := by decide +kernel
theorem dL_law_735 : decode cL_law 735 = .ok (.ireturn, 1) := by decide +kernel
theorem dL_law_736 : decode cL_law 736 = .ok (.aload_n 1, 1) := by decide +kernel
theorem dL_law_737 : decode cL_law 737 = .ok (.aload_n 0, 1) := by decide +kernel
theorem dL_law_738 : decode cL_law 738 = .ok (.iload_n 3, 1) := by decide +kernel
theorem dL_law_739 : decode cL_law 739 = .ok (.iconst 1, 1) := by decide +kernel
theorem dL_law_740 : decode cL_law 740 = .ok (.iadd, 1) := by decide +kernel
theorem dL_law_741 : decode cL_law 741 = .ok (.iaload, 1) := by decide +kernel
theorem dL_law_742 : decode cL_law 742 = .ok (.invokevirtual 81, 3) := by decide +kernel
theorem dL_law_745 : decode cL_law 745 = .ok (.aload_n 2, 1) := by decide +kernel
theorem dL_law_746 : decode cL_law 746 = .ok (.aload_n 0, 1) := by decide +kernel
theorem dL_law_747 : decode cL_law 747 = .ok (.iload_n 3, 1) := by decide +kernel
theorem dL_law_748 : decode cL_law 748 = .ok (.iconst 1, 1) := by decide +kernel
theorem dL_law_749 : decode cL_law 749 = .ok (.iadd, 1) := by decide +kernel
theorem dL_law_750 : decode cL_law 750 = .ok (.iaload, 1) := by decide +kernel
theorem dL_law_751 : decode cL_law 751 = .ok (.invokevirtual 84, 3) := by decide +kernel
theorem dL_law_754 : decode cL_law 754 = .ok (.if_icmp .eq 712, 3) := by decide +kernel
theorem dL_law_757 : decode cL_law 757 = .ok (.iconst 0, 1) := by decide +kernel
theorem dL_law_758 : decode cL_law 758 = .ok (.ireturn, 1) := by decide +kernel
theorem dL_law_759 : decode cL_law 759 = .ok (.aload_n 1, 1) := by decide +kernel
theorem dL_law_760 : decode cL_law 760 = .ok (.aload_n 0, 1) := by decide +kernel
theorem dL_law_761 : decode cL_law 761 = .ok (.iload_n 3, 1) := by decide +kernel
theorem dL_law_762 : decode cL_law 762 = .ok (.iconst 1, 1) := by decide +kernel
theorem dL_law_763 : decode cL_law 763 = .ok (.iadd, 1) := by decide +kernel
theorem dL_law_764 : decode cL_law 764 = .ok (.iaload, 1) := by decide +kernel
theorem dL_law_765 : decode cL_law 765 = .ok (.invokevirtual 85, 3) := by decide +kernel
theorem dL_law_768 : decode cL_law 768 = .ok (.aload_n 2, 1) := by decide +kernel
theorem dL_law_769 : decode cL_law 769 = .ok (.aload_n 0, 1) := by decide +kernel
theorem dL_law_770 : decode cL_law 770 = .ok (.iload_n 3, 1) := by decide +kernel
theorem dL_law_771 : decode cL_law 771 = .ok (.iconst 1, 1) := by decide +kernel
theorem dL_law_772 : decode cL_law 772 = .ok (.iadd, 1) := by decide +kernel
theorem dL_law_773 : decode cL_law 773 = .ok (.iaload, 1) := by decide +kernel
theorem dL_law_774 : decode cL_law 774 = .ok (.invokevirtual 88, 3) := by decide +kernel
theorem dL_law_777 : decode cL_law 777 = .ok (.if_icmp .eq 689, 3) := by decide +kernel
theorem dL_law_780 : decode cL_law 780 = .ok (.iconst 0, 1) := by decide +kernel
theorem dL_law_781 : decode cL_law 781 = .ok (.ireturn, 1) := by decide +kernel
theorem dL_law_782 : decode cL_law 782 = .ok (.aload_n 1, 1) := by decide +kernel
theorem dL_law_783 : decode cL_law 783 = .ok (.aload_n 0, 1) := by decide +kernel
theorem dL_law_784 : decode cL_law 784 = .ok (.iload_n 3, 1) := by decide +kernel
theorem dL_law_785 : decode cL_law 785 = .ok (.iconst 1, 1) := by decide +kernel
theorem dL_law_786 : decode cL_law 786 = .ok (.iadd, 1) := by decide +kernel
theorem dL_law_787 : decode cL_law 787 = .ok (.iaload, 1) := by decide +kernel
theorem dL_law_788 : decode cL_law 788 = .ok (.invokevirtual 89, 3) := by decide +kernel
theorem dL_law_791 : decode cL_law 791 = .ok (.aload_n 2, 1) := by decide +kernel
theorem dL_law_792 : decode cL_law 792 = .ok (.aload_n 0, 1) := by decide +kernel
theorem dL_law_793 : decode cL_law 793 = .ok (.iload_n 3, 1) := by decide +kernel
theorem dL_law_794 : decode cL_law 794 = .ok (.iconst 1, 1) := by decide +kernel
theorem dL_law_795 : decode cL_law 795 = .ok (.iadd, 1) := by decide +kernel
theorem dL_law_796 : decode cL_law 796 = .ok (.iaload, 1) := by decide +kernel
theorem dL_law_797 : decode cL_law 797 = .ok (.invokevirtual 92, 3) := by decide +kernel
theorem dL_law_800 : decode cL_law 800 = .ok (.if_icmp .eq 666, 3) := by decide +kernel
theorem dL_law_803 : decode cL_law 803 = .ok (.iconst 0, 1) := by decide +kernel
theorem dL_law_804 : decode cL_law 804 = .ok (.ireturn, 1) := by decide +kernel
theorem dL_law_805 : decode cL_law 805 = .ok (.aload_n 1, 1) := by decide +kernel
theorem dL_law_806 : decode cL_law 806 = .ok (.aload_n 0, 1) := by decide +kernel
theorem dL_law_807 : decode cL_law 807 = .ok (.iload_n 3, 1) := by decide +kernel
theorem dL_law_808 : decode cL_law 808 = .ok (.iconst 1, 1) := by decide +kernel
theorem dL_law_809 : decode cL_law 809 = .ok (.iadd, 1) := by decide +kernel
theorem dL_law_810 : decode cL_law 810 = .ok (.iaload, 1) := by decide +kernel
theorem dL_law_811 : decode cL_law 811 = .ok (.invokevirtual 93, 3) := by decide +kernel
theorem dL_law_814 : decode cL_law 814 = .ok (.aload_n 2, 1) := by decide +kernel
theorem dL_law_815 : decode cL_law 815 = .ok (.aload_n 0, 1) := by decide +kernel
theorem dL_law_816 : decode cL_law 816 = .ok (.iload_n 3, 1) := by decide +kernel
theorem dL_law_817 : decode cL_law 817 = .ok (.iconst 1, 1) := by decide +kernel
theorem dL_law_818 : decode cL_law 818 = .ok (.iadd, 1) := by decide +kernel
end
section
theorem dL_law_819 : decode cL_law 819 = .ok (.iaload, 1) := by decide +kernel
theorem dL_law_820 : decode cL_law 820 = .ok (.invokevirtual 96, 3) := by decide +kernel
theorem dL_law_823 : decode cL_law 823 = .ok (.if_icmp .eq 643, 3) := by decide +kernel
theorem dL_law_826 : decode cL_law 826 = .ok (.iconst 0, 1) := by decide +kernel
theorem dL_law_827 : decode cL_law 827 = .ok (.ireturn, 1) := by decide +kernel
theorem dL_law_828 : decode cL_law 828 = .ok (.aload_n 1, 1) := by decide +kernel
theorem dL_law_829 : decode cL_law 829 = .ok (.aload_n 0, 1) := by decide +kernel
theorem dL_law_830 : decode cL_law 830 = .ok (.iload_n 3, 1) := by decide +kernel
theorem dL_law_831 : decode cL_law 831 = .ok (.iconst 1, 1) := by decide +kernel
theorem dL_law_832 : decode cL_law 832 = .ok (.iadd, 1) := by decide +kernel
theorem dL_law_833 : decode cL_law 833 = .ok (.iaload, 1) := by decide +kernel
theorem dL_law_834 : decode cL_law 834 = .ok (.aload_n 0, 1) := by decide +kernel
theorem dL_law_835 : decode cL_law 835 = .ok (.iload_n 3, 1) := by decide +kernel
theorem dL_law_836 : decode cL_law 836 = .ok (.iconst 2, 1) := by decide +kernel
theorem dL_law_837 : decode cL_law 837 = .ok (.iadd, 1) := by decide +kernel
theorem dL_law_838 : decode cL_law 838 = .ok (.iaload, 1) := by decide +kernel
theorem dL_law_839 : decode cL_law 839 = .ok (.aload_n 0, 1) := by decide +kernel
theorem dL_law_840 : decode cL_law 840 = .ok (.iload_n 3, 1) := by decide +kernel
theorem dL_law_841 : decode cL_law 841 = .ok (.iconst 3, 1) := by decide +kernel
theorem dL_law_842 : decode cL_law 842 = .ok (.iadd, 1) := by decide +kernel
theorem dL_law_843 : decode cL_law 843 = .ok (.iaload, 1) := by decide +kernel
theorem dL_law_844 : decode cL_law 844 = .ok (.invokevirtual 97, 3) := by decide +kernel
theorem dL_law_847 : decode cL_law 847 = .ok (.aload_n 2, 1) := by decide +kernel
theorem dL_law_848 : decode cL_law 848 = .ok (.aload_n 0, 1) := by decide +kernel
theorem dL_law_849 : decode cL_law 849 = .ok (.iload_n 3, 1) := by decide +kernel
theorem dL_law_850 : decode cL_law 850 = .ok (.iconst 1, 1) := by decide +kernel
theorem dL_law_851 : decode cL_law 851 = .ok (.iadd, 1) := by decide +kernel
theorem dL_law_852 : decode cL_law 852 = .ok (.iaload, 1) := by decide +kernel
theorem dL_law_853 : decode cL_law 853 = .ok (.aload_n 0, 1) := by decide +kernel
theorem dL_law_854 : decode cL_law 854 = .ok (.iload_n 3, 1) := by decide +kernel
theorem dL_law_855 : decode cL_law 855 = .ok (.iconst 2, 1) := by decide +kernel
theorem dL_law_856 : decode cL_law 856 = .ok (.iadd, 1) := by decide +kernel
theorem dL_law_857 : decode cL_law 857 = .ok (.iaload, 1) := by decide +kernel
theorem dL_law_858 : decode cL_law 858 = .ok (.aload_n 0, 1) := by decide +kernel
theorem dL_law_859 : decode cL_law 859 = .ok (.iload_n 3, 1) := by decide +kernel
theorem dL_law_860 : decode cL_law 860 = .ok (.iconst 3, 1) := by decide +kernel
theorem dL_law_861 : decode cL_law 861 = .ok (.iadd, 1) := by decide +kernel
theorem dL_law_862 : decode cL_law 862 = .ok (.iaload, 1) := by decide +kernel
theorem dL_law_863 : decode cL_law 863 = .ok (.invokevirtual 100, 3) := by decide +kernel
theorem dL_law_866 : decode cL_law 866 = .ok (.if_icmp .eq 600, 3) := by decide +kernel
theorem dL_law_869 : decode cL_law 869 = .ok (.iconst 0, 1) := by decide +kernel
theorem dL_law_870 : decode cL_law 870 = .ok (.ireturn, 1) := by decide +kernel
theorem dL_law_871 : decode cL_law 871 = .ok (.aload_n 1, 1) := by decide +kernel
theorem dL_law_872 : decode cL_law 872 = .ok (.aload_n 0, 1) := by decide +kernel
theorem dL_law_873 : decode cL_law 873 = .ok (.iload_n 3, 1) := by decide +kernel
theorem dL_law_874 : decode cL_law 874 = .ok (.iconst 1, 1) := by decide +kernel
theorem dL_law_875 : decode cL_law 875 = .ok (.iadd, 1) := by decide +kernel
theorem dL_law_876 : decode cL_law 876 = .ok (.iaload, 1) := by decide +kernel
theorem dL_law_877 : decode cL_law 877 = .ok (.invokevirtual 101, 3) := by decide +kernel
theorem dL_law_880 : decode cL_law 880 = .ok (.aload_n 2, 1) := by decide +kernel
theorem dL_law_881 : decode cL_law 881 = .ok (.aload_n 0, 1) := by decide +kernel
theorem dL_law_882 : decode cL_law 882 = .ok (.iload_n 3, 1) := by decide +kernel
theorem dL_law_883 : decode cL_law 883 = .ok (.iconst 1, 1) := by decide +kernel
theorem dL_law_884 : decode cL_law 884 = .ok (.iadd, 1) := by decide +kernel
theorem dL_law_885 : decode cL_law 885 = .ok (.iaload, 1) := by decide +kernel
theorem dL_law_886 : decode cL_law 886 = .ok (.invokevirtual 104, 3) := by decide +kernel
theorem dL_law_889 : decode cL_law 889 = .ok (.if_icmp .eq 577, 3) := by decide +kernel
theorem dL_law_892 : decode cL_law 892 = .ok (.iconst 0, 1) := by decide +kernel
theorem dL_law_893 : decode cL_law 893 = .ok (.ireturn, 1) := by decide +kernel
theorem dL_law_894 : decode cL_law 894 = .ok (.aload_n 1, 1) := by decide +kernel
theorem dL_law_895 : decode cL_law 895 = .ok (.aload_n 0, 1) := by decide +kernel
theorem dL_law_896 : decode cL_law 896 = .ok (.iload_n 3, 1) := by decide +kernel
theorem dL_law_897 : decode cL_law 897 = .ok (.iconst 1, 1) := by decide +kernel
theorem dL_law_898 : decode cL_law 898 = .ok (.iadd, 1) := by decide +kernel
theorem dL_law_899 : decode cL_law 899 = .ok (.iaload, 1) := by decide +kernel
theorem dL_law_900 : decode cL_law 900 = .ok (.invokevirtual 105, 3) := by decide +kernel
theorem dL_law_903 : decode cL_law 903 = .ok (.aload_n 2, 1) := by decide +kernel
theorem dL_law_904 : decode cL_law 904 = .ok (.aload_n 0, 1) := by decide +kernel
theorem dL_law_905 : decode cL_law 905 = .ok (.iload_n 3, 1) := by decide +kernel
theorem dL_law_906 : decode cL_law 906 = .ok (.iconst 1, 1) := by decide +kernel
theorem dL_law_907 : decode cL_law 907 = .ok (.iadd, 1) := by decide +kernel
theorem dL_law_908 : decode cL_law 908 = .ok (.iaload, 1) := by decide +kernel
theorem dL_law_909 : decode cL_law 909 = .ok (.invokevirtual 108, 3) := by decide +kernel
theorem dL_law_912 : decode cL_law 912 = .ok (.if_icmp .eq 554, 3) := by decide +kernel
theorem dL_law_915 : decode cL_law 915 = .ok (.iconst 0, 1) := by decide +kernel
theorem dL_law_916 : decode cL_law 916 = .ok (.ireturn, 1) := by decide +kernel
theorem dL_law_917 : decode cL_law 917 = .ok (.aload_n 1, 1) := by decide +kernel
theorem dL_law_918 : decode cL_law 918 = .ok (.aload_n 0, 1) := by decide +kernel
theorem dL_law_919 : decode cL_law 919 = .ok (.iload_n 3, 1) := by decide +kernel
theorem dL_law_920 : decode cL_law 920 = .ok (.iconst 1, 1) := by decide +kernel
theorem dL_law_921 : decode cL_law 921 = .ok (.iadd, 1) := by decide +kernel
theorem dL_law_922 : decode cL_law 922 = .ok (.iaload, 1) := by decide +kernel
theorem dL_law_923 : decode cL_law 923 = .ok (.invokevirtual 109, 3) := by decide +kernel
theorem dL_law_926 : decode cL_law 926 = .ok (.aload_n 2, 1) := by decide +kernel
theorem dL_law_927 : decode cL_law 927 = .ok (.aload_n 0, 1) := by decide +kernel
theorem dL_law_928 : decode cL_law 928 = .ok (.iload_n 3, 1) := by decide +kernel
theorem dL_law_929 : decode cL_law 929 = .ok (.iconst 1, 1) := by decide +kernel
theorem dL_law_930 : decode cL_law 930 = .ok (.iadd, 1) := by decide +kernel
theorem dL_law_931 : decode cL_law 931 = .ok (.iaload, 1) := by decide +kernel
theorem dL_law_932 : decode cL_law 932 = .ok (.invokevirtual 112, 3) := by decide +kernel
theorem dL_law_935 : decode cL_law 935 = .ok (.if_icmp .eq 531, 3) := by decide +kernel
theorem dL_law_938 : decode cL_law 938 = .ok (.iconst 0, 1) := by decide +kernel
theorem dL_law_939 : decode cL_law 939 = .ok (.ireturn, 1) := by decide +kernel
theorem dL_law_940 : decode cL_law 940 = .ok (.aload_n 1, 1) := by decide +kernel
theorem dL_law_941 : decode cL_law 941 = .ok (.aload_n 0, 1) := by decide +kernel
theorem dL_law_942 : decode cL_law 942 = .ok (.iload_n 3, 1) := by decide +kernel
theorem dL_law_943 : decode cL_law 943 = .ok (.iconst 1, 1) := by decide +kernel
theorem dL_law_944 : decode cL_law 944 = .ok (.iadd, 1) := by decide +kernel
theorem dL_law_945 : decode cL_law 945 = .ok (.iaload, 1) := by decide +kernel
theorem dL_law_946 : decode cL_law 946 = .ok (.invokevirtual 113, 3) := by decide +kernel
theorem dL_law_949 : decode cL_law 949 = .ok (.aload_n 2, 1) := by decide +kernel
theorem dL_law_950 : decode cL_law 950 = .ok (.aload_n 0, 1) := by decide +kernel
theorem dL_law_951 : decode cL_law 951 = .ok (.iload_n 3, 1) := by decide +kernel
theorem dL_law_952 : decode cL_law 952 = .ok (.iconst 1, 1) := by decide +kernel
theorem dL_law_953 : decode cL_law 953 = .ok (.iadd, 1) := by decide +kernel
theorem dL_law_954 : decode cL_law 954 = .ok (.iaload, 1) := by decide +kernel
theorem dL_law_955 : decode cL_law 955 = .ok (.invokevirtual 116, 3) := by decide +kernel
theorem dL_law_958 : decode cL_law 958 = .ok (.if_icmp .eq 508, 3) := by decide +kernel
theorem dL_law_961 : decode cL_law 961 = .ok (.iconst 0, 1) := by decide +kernel
theorem dL_law_962 : decode cL_law 962 = .ok (.ireturn, 1) := by decide +kernel
theorem dL_law_963 : decode cL_law 963 = .ok (.aload_n 1, 1) := by decide +kernel
theorem dL_law_964 : decode cL_law 964 = .ok (.aload_n 0, 1) := by decide +kernel
theorem dL_law_965 : decode cL_law 965 = .ok (.iload_n 3, 1) := by decide +kernel
theorem dL_law_966 : decode cL_law 966 = .ok (.iconst 1, 1) := by decide +kernel
theorem dL_law_967 : decode cL_law 967 = .ok (.iadd, 1) := by decide +kernel
theorem dL_law_968 : decode cL_law 968 = .ok (.iaload, 1) := by decide +kernel
theorem dL_law_969 : decode cL_law 969 = .ok (.aload_n 0, 1) := by decide +kernel
theorem dL_law_970 : decode cL_law 970 = .ok (.iload_n 3, 1) := by decide +kernel
theorem dL_law_971 : decode cL_law 971 = .ok (.iconst 2, 1) := by decide +kernel
theorem dL_law_972 : decode cL_law 972 = .ok (.iadd, 1) := by decide +kernel
theorem dL_law_973 : decode cL_law 973 = .ok (.iaload, 1) := by decide +kernel
theorem dL_law_974 : decode cL_law 974 = .ok (.invokevirtual 117, 3) := by decide +kernel
theorem dL_law_977 : decode cL_law 977 = .ok (.aload_n 2, 1) := by decide +kernel
theorem dL_law_978 : decode cL_law 978 = .ok (.aload_n 0, 1) := by decide +kernel
theorem dL_law_979 : decode cL_law 979 = .ok (.iload_n 3, 1) := by decide +kernel
theorem dL_law_980 : decode cL_law 980 = .ok (.iconst 1, 1) := by decide +kernel
theorem dL_law_981 : decode cL_law 981 = .ok (.iadd, 1) := by decide +kernel
theorem dL_law_982 : decode cL_law 982 = .ok (.iaload, 1) := by decide +kernel
theorem dL_law_983 : decode cL_law 983 = .ok (.aload_n 0, 1) := by decide +kernel
theorem dL_law_984 : decode cL_law 984 = .ok (.iload_n 3, 1) := by decide +kernel
theorem dL_law_985 : decode cL_law 985 = .ok (.iconst 2, 1) := by decide +kernel
theorem dL_law_986 : decode cL_law 986 = .ok (.iadd, 1) := by decide +kernel
theorem dL_law_987 : decode cL_law 987 = .ok (.iaload, 1) := by decide +kernel
theorem dL_law_988 : decode cL_law 988 = .ok (.invokevirtual 120, 3) := by decide +kernel
theorem dL_law_991 : decode cL_law 991 = .ok (.if_icmp .eq 475, 3) := by decide +kernel
theorem dL_law_994 : decode cL_law 994 = .ok (.iconst 0, 1) := by decide +kernel
theorem dL_law_995 : decode cL_law 995 = .ok (.ireturn, 1) := by decide +kernel
theorem dL_law_996 : decode cL_law 996 = .ok (.aload_n 1, 1) := by decide +kernel
theorem dL_law_997 : decode cL_law 997 = .ok (.aload_n 0, 1) := by decide +kernel
theorem dL_law_998 : decode cL_law 998 = .ok (.iload_n 3, 1) := by decide +kernel
theorem dL_law_999 : decode cL_law 999 = .ok (.iconst 1, 1) := by decide +kernel
theorem dL_law_1000 : decode cL_law 1000 = .ok (.iadd, 1) := by decide +kernel
theorem dL_law_1001 : decode cL_law 1001 = .ok (.iaload, 1) := by decide +kernel
theorem dL_law_1002 : decode cL_law 1002 = .ok (.aload_n 0, 1) := by decide +kernel
theorem dL_law_1003 : decode cL_law 1003 = .ok (.iload_n 3, 1) := by decide +kernel
theorem dL_law_1004 : decode cL_law 1004 = .ok (.iconst 2, 1) := by decide +kernel
theorem dL_law_1005 : decode cL_law 1005 = .ok (.iadd, 1) := by decide +kernel
theorem dL_law_1006 : decode cL_law 1006 = .ok (.iaload, 1) := by decide +kernel
theorem dL_law_1007 : decode cL_law 1007 = .ok (.aload_n 0, 1) := by decide +kernel
theorem dL_law_1008 : decode cL_law 1008 = .ok (.iload_n 3, 1) := by decide +kernel
theorem dL_law_1009 : decode cL_law 1009 = .ok (.iconst 3, 1) := by decide +kernel
theorem dL_law_1010 : decode cL_law 1010 = .ok (.iadd, 1) := by decide +kernel
theorem dL_law_1011 : decode cL_law 1011 = .ok (.iaload, 1) := by decide +kernel
theorem dL_law_1012 : decode cL_law 1012 = .ok (.aload_n 0, 1) := by decide +kernel
theorem dL_law_1013 : decode cL_law 1013 = .ok (.iload_n 3, 1) := by decide +kernel
theorem dL_law_1014 : decode cL_law 1014 = .ok (.iconst 4, 1) := by decide +kernel
theorem dL_law_1015 : decode cL_law 1015 = .ok (.iadd, 1) := by decide +kernel
theorem dL_law_1016 : decode cL_law 1016 = .ok (.iaload, 1) := by decide +kernel
theorem dL_law_1017 : decode cL_law 1017 = .ok (.invokevirtual 121, 3) := by decide +kernel
theorem dL_law_1020 : decode cL_law 1020 = .ok (.aload_n 2, 1) := by decide +kernel
theorem dL_law_1021 : decode cL_law 1021 = .ok (.aload_n 0, 1) := by decide +kernel
theorem dL_law_1022 : decode cL_law 1022 = .ok (.iload_n 3, 1) := by decide +kernel
theorem dL_law_1023 : decode cL_law 1023 = .ok (.iconst 1, 1) := by decide +kernel
theorem dL_law_1024 : decode cL_law 1024 = .ok (.iadd, 1) := by decide +kernel
theorem dL_law_1025 : decode cL_law 1025 = .ok (.iaload, 1) := by decide +kernel
theorem dL_law_1026 : decode cL_law 1026 = .ok (.aload_n 0, 1) := by decide +kernel
theorem dL_law_1027 : decode cL_law 1027 = .ok (.iload_n 3, 1) := by decide +kernel
theorem dL_law_1028 : decode cL_law 1028 = .ok (.iconst 2, 1) := by decide +kernel
theorem dL_law_1029 : decode cL_law 1029 = .ok (.iadd, 1) := by decide +kernel
theorem dL_law_1030 : decode cL_law 1030 = .ok (.iaload, 1) := by decide +kernel
theorem dL_law_1031 : decode cL_law 1031 = .ok (.aload_n 0, 1) := by decide +kernel
theorem dL_law_1032 : decode cL_law 1032 = .ok (.iload_n 3, 1) := by decide +kernel
theorem dL_law_1033 : decode cL_law 1033 = .ok (.iconst 3, 1) := by decide +kernel
theorem dL_law_1034 : decode cL_law 1034 = .ok (.iadd, 1) := by decide +kernel
theorem dL_law_1035 : decode cL_law 1035 = .ok (.iaload, 1) := by decide +kernel
theorem dL_law_1036 : decode cL_law 1036 = .ok (.aload_n 0, 1) := by decide +kernel
theorem dL_law_1037 : decode cL_law 1037 = .ok (.iload_n 3, 1) := by decide +kernel
theorem dL_law_1038 : decode cL_law 1038 = .ok (.iconst 4, 1) := by decide +kernel
theorem dL_law_1039 : decode cL_law 1039 = .ok (.iadd, 1) := by decide +kernel
theorem dL_law_1040 : decode cL_law 1040 = .ok (.iaload, 1) := by decide +kernel
theorem dL_law_1041 : decode cL_law 1041 = .ok (.invokevirtual 125, 3) := by decide +kernel
theorem dL_law_1044 : decode cL_law 1044 = .ok (.if_icmp .eq 422, 3) := by decide +kernel
theorem dL_law_1047 : decode cL_law 1047 = .ok (.iconst 0, 1) := by decide +kernel
theorem dL_law_1048 : decode cL_law 1048 = .ok (.ireturn, 1) := by decide +kernel
theorem dL_law_1049 : decode cL_law 1049 = .ok (.aload_n 1, 1) := by decide +kernel
theorem dL_law_1050 : decode cL_law 1050 = .ok (.aload_n 0, 1) := by decide +kernel
theorem dL_law_1051 : decode cL_law 1051 = .ok (.iload_n 3, 1) := by decide +kernel
theorem dL_law_1052 : decode cL_law 1052 = .ok (.iconst 1, 1) := by decide +kernel
theorem dL_law_1053 : decode cL_law 1053 = .ok (.iadd, 1) := by decide +kernel
theorem dL_law_1054 : decode cL_law 1054 = .ok (.iaload, 1) := by decide +kernel
theorem dL_law_1055 : decode cL_law 1055 = .ok (.invokevirtual 126, 3) := by decide +kernel
theorem dL_law_1058 : decode cL_law 1058 = .ok (.aload_n 2, 1) := by decide +kernel
theorem dL_law_1059 : decode cL_law 1059 = .ok (.aload_n 0, 1) := by decide +kernel
theorem dL_law_1060 : decode cL_law 1060 = .ok (.iload_n 3, 1) := by decide +kernel
theorem dL_law_1061 : decode cL_law 1061 = .ok (.iconst 1, 1) := by decide +kernel
theorem dL_law_1062 : decode cL_law 1062 = .ok (.iadd, 1) := by decide +kernel
theorem dL_law_1063 : decode cL_law 1063 = .ok (.iaload, 1) := by decide +kernel
theorem dL_law_1064 : decode cL_law 1064 = .ok (.invokevirtual 129, 3) := by decide +kernel
theorem dL_law_1067 : decode cL_law 1067 = .ok (.if_icmp .eq 399, 3) := by decide +kernel
theorem dL_law_1070 : decode cL_law 1070 = .ok (.iconst 0, 1) := by decide +kernel
theorem dL_law_1071 : decode cL_law 1071 = .ok (.ireturn, 1) := by decide +kernel
theorem dL_law_1072 : decode cL_law 1072 = .ok (.aload_n 1, 1) := by decide +kernel
theorem dL_law_1073 : decode cL_law 1073 = .ok (.aload_n 0, 1) := by decide +kernel
theorem dL_law_1074 : decode cL_law 1074 = .ok (.iload_n 3, 1) := by decide +kernel
theorem dL_law_1075 : decode cL_law 1075 = .ok (.iconst 1, 1) := by decide +kernel
theorem dL_law_1076 : decode cL_law 1076 = .ok (.iadd, 1) := by decide +kernel
theorem dL_law_1077 : decode cL_law 1077 = .ok (.iaload, 1) := by decide +kernel
theorem dL_law_1078 : decode cL_law 1078 = .ok (.aload_n 0, 1) := by decide +kernel
theorem dL_law_1079 : decode cL_law 1079 = .ok (.iload_n 3, 1) := by decide +kernel
theorem dL_law_1080 : decode cL_law 1080 = .ok (.iconst 2, 1) := by decide +kernel
theorem dL_law_1081 : decode cL_law 1081 = .ok (.iadd, 1) := by decide +kernel
theorem dL_law_1082 : decode cL_law 1082 = .ok (.iaload, 1) := by decide +kernel
theorem dL_law_1083 : decode cL_law 1083 = .ok (.aload_n 0, 1) := by decide +kernel
theorem dL_law_1084 : decode cL_law 1084 = .ok (.iload_n 3, 1) := by decide +kernel
theorem dL_law_1085 : decode cL_law 1085 = .ok (.iconst 3, 1) := by decide +kernel
theorem dL_law_1086 : decode cL_law 1086 = .ok (.iadd, 1) := by decide +kernel
theorem dL_law_1087 : decode cL_law 1087 = .ok (.iaload, 1) := by decide +kernel
theorem dL_law_1088 : decode cL_law 1088 = .ok (.aload_n 0, 1) := by decide +kernel
theorem dL_law_1089 : decode cL_law 1089 = .ok (.iload_n 3, 1) := by decide +kernel
theorem dL_law_1090 : decode cL_law 1090 = .ok (.iconst 4, 1) := by decide +kernel
theorem dL_law_1091 : decode cL_law 1091 = .ok (.iadd, 1) := by decide +kernel
theorem dL_law_1092 : decode cL_law 1092 = .ok (.iaload, 1) := by decide +kernel
theorem dL_law_1093 : decode cL_law 1093 = .ok (.invokevirtual 130, 3) := by decide +kernel
theorem dL_law_1096 : decode cL_law 1096 = .ok (.aload_n 2, 1) := by decide +kernel
theorem dL_law_1097 : decode cL_law 1097 = .ok (.aload_n 0, 1) := by decide +kernel
theorem dL_law_1098 : decode cL_law 1098 = .ok (.iload_n 3, 1) := by decide +kernel
theorem dL_law_1099 : decode cL_law 1099 = .ok (.iconst 1, 1) := by decide +kernel
theorem dL_law_1100 : decode cL_law 1100 = .ok (.iadd, 1) := by decide +kernel
theorem dL_law_1101 : decode cL_law 1101 = .ok (.iaload, 1) := by decide +kernel
theorem dL_law_1102 : decode cL_law 1102 = .ok (.aload_n 0, 1) := by decide +kernel
theorem dL_law_1103 : decode cL_law 1103 = .ok (.iload_n 3, 1) := by decide +kernel
theorem dL_law_1104 : decode cL_law 1104 = .ok (.iconst 2, 1) := by decide +kernel
theorem dL_law_1105 : decode cL_law 1105 = .ok (.iadd, 1) := by decide +kernel
theorem dL_law_1106 : decode cL_law 1106 = .ok (.iaload, 1) := by decide +kernel
theorem dL_law_1107 : decode cL_law 1107 = .ok (.aload_n 0, 1) := by decide +kernel
theorem dL_law_1108 : decode cL_law 1108 = .ok (.iload_n 3, 1) := by decide +kernel
theorem dL_law_1109 : decode cL_law 1109 = .ok (.iconst 3, 1) := by decide +kernel
theorem dL_law_1110 : decode cL_law 1110 = .ok (.iadd, 1) := by decide +kernel
theorem dL_law_1111 : decode cL_law 1111 = .ok (.iaload, 1) := by decide +kernel
theorem dL_law_1112 : decode cL_law 1112 = .ok (.aload_n 0, 1) := by decide +kernel
theorem dL_law_1113 : decode cL_law 1113 = .ok (.iload_n 3, 1) := by decide +kernel
theorem dL_law_1114 : decode cL_law 1114 = .ok (.iconst 4, 1) := by decide +kernel
theorem dL_law_1115 : decode cL_law 1115 = .ok (.iadd, 1) := by decide +kernel
theorem dL_law_1116 : decode cL_law 1116 = .ok (.iaload, 1) := by decide +kernel
theorem dL_law_1117 : decode cL_law 1117 = .ok (.invokevirtual 133, 3) := by decide +kernel
theorem dL_law_1120 : decode cL_law 1120 = .ok (.if_icmp .eq 346, 3) := by decide +kernel
theorem dL_law_1123 : decode cL_law 1123 = .ok (.iconst 0, 1) := by decide +kernel
theorem dL_law_1124 : decode cL_law 1124 = .ok (.ireturn, 1) := by decide +kernel
theorem dL_law_1125 : decode cL_law 1125 = .ok (.aload_n 1, 1) := by decide +kernel
theorem dL_law_1126 : decode cL_law 1126 = .ok (.aload_n 0, 1) := by decide +kernel
theorem dL_law_1127 : decode cL_law 1127 = .ok (.iload_n 3, 1) := by decide +kernel
theorem dL_law_1128 : decode cL_law 1128 = .ok (.iconst 1, 1) := by decide +kernel
theorem dL_law_1129 : decode cL_law 1129 = .ok (.iadd, 1) := by decide +kernel
theorem dL_law_1130 : decode cL_law 1130 = .ok (.iaload, 1) := by decide +kernel
theorem dL_law_1131 : decode cL_law 1131 = .ok (.invokevirtual 134, 3) := by decide +kernel
theorem dL_law_1134 : decode cL_law 1134 = .ok (.aload_n 2, 1) := by decide +kernel
theorem dL_law_1135 : decode cL_law 1135 = .ok (.aload_n 0, 1) := by decide +kernel
theorem dL_law_1136 : decode cL_law 1136 = .ok (.iload_n 3, 1) := by decide +kernel
theorem dL_law_1137 : decode cL_law 1137 = .ok (.iconst 1, 1) := by decide +kernel
theorem dL_law_1138 : decode cL_law 1138 = .ok (.iadd, 1) := by decide +kernel
theorem dL_law_1139 : decode cL_law 1139 = .ok (.iaload, 1) := by decide +kernel
theorem dL_law_1140 : decode cL_law 1140 = .ok (.invokevirtual 137, 3) := by decide +kernel
theorem dL_law_1143 : decode cL_law 1143 = .ok (.if_icmp .eq 323, 3) := by decide +kernel
theorem dL_law_1146 : decode cL_law 1146 = .ok (.iconst 0, 1) := by decide +kernel
theorem dL_law_1147 : decode cL_law 1147 = .ok (.ireturn, 1) := by decide +kernel
theorem dL_law_1148 : decode cL_law 1148 = .ok (.aload_n 1, 1) := by decide +kernel
theorem dL_law_1149 : decode cL_law 1149 = .ok (.aload_n 0, 1) := by decide +kernel
theorem dL_law_1150 : decode cL_law 1150 = .ok (.iload_n 3, 1) := by decide +kernel
theorem dL_law_1151 : decode cL_law 1151 = .ok (.iconst 1, 1) := by decide +kernel
theorem dL_law_1152 : decode cL_law 1152 = .ok (.iadd, 1) := by decide +kernel
theorem dL_law_1153 : decode cL_law 1153 = .ok (.iaload, 1) := by decide +kernel
theorem dL_law_1154 : decode cL_law 1154 = .ok (.aload_n 0, 1) := by decide +kernel
theorem dL_law_1155 : decode cL_law 1155 = .ok (.iload_n 3, 1) := by decide +kernel
theorem dL_law_1156 : decode cL_law 1156 = .ok (.iconst 2, 1) := by decide +kernel
theorem dL_law_1157 : decode cL_law 1157 = .ok (.iadd, 1) := by decide +kernel
theorem dL_law_1158 : decode cL_law 1158 = .ok (.iaload, 1) := by decide +kernel
theorem dL_law_1159 : decode cL_law 1159 = .ok (.invokevirtual 138, 3) := by decide +kernel
theorem dL_law_1162 : decode cL_law 1162 = .ok (.aload_n 2, 1) := by decide +kernel
theorem dL_law_1163 : decode cL_law 1163 = .ok (.aload_n 0, 1) := by decide +kernel
theorem dL_law_1164 : decode cL_law 1164 = .ok (.iload_n 3, 1) := by decide +kernel
theorem dL_law_1165 : decode cL_law 1165 = .ok (.iconst 1, 1) := by decide +kernel
theorem dL_law_1166 : decode cL_law 1166 = .ok (.iadd, 1) := by decide +kernel
theorem dL_law_1167 : decode cL_law 1167 = .ok (.iaload, 1) := by decide +kernel
theorem dL_law_1168 : decode cL_law 1168 = .ok (.aload_n 0, 1) := by decide +kernel
theorem dL_law_1169 : decode cL_law 1169 = .ok (.iload_n 3, 1) := by decide +kernel
theorem dL_law_1170 : decode cL_law 1170 = .ok (.iconst 2, 1) := by decide +kernel
theorem dL_law_1171 : decode cL_law 1171 = .ok (.iadd, 1) := by decide +kernel
theorem dL_law_1172 : decode cL_law 1172 = .ok (.iaload, 1) := by decide +kernel
theorem dL_law_1173 : decode cL_law 1173 = .ok (.invokevirtual 141, 3) := by decide +kernel
theorem dL_law_1176 : decode cL_law 1176 = .ok (.if_icmp .eq 290, 3) := by decide +kernel
theorem dL_law_1179 : decode cL_law 1179 = .ok (.iconst 0, 1) := by decide +kernel
theorem dL_law_1180 : decode cL_law 1180 = .ok (.ireturn, 1) := by decide +kernel
theorem dL_law_1181 : decode cL_law 1181 = .ok (.aload_n 1, 1) := by decide +kernel
theorem dL_law_1182 : decode cL_law 1182 = .ok (.aload_n 0, 1) := by decide +kernel
theorem dL_law_1183 : decode cL_law 1183 = .ok (.iload_n 3, 1) := by decide +kernel
theorem dL_law_1184 : decode cL_law 1184 = .ok (.iconst 1, 1) := by decide +kernel
theorem dL_law_1185 : decode cL_law 1185 = .ok (.iadd, 1) := by decide +kernel
theorem dL_law_1186 : decode cL_law 1186 = .ok (.iaload, 1) := by decide +kernel
theorem dL_law_1187 : decode cL_law 1187 = .ok (.invokevirtual 142, 3) := by decide +kernel
theorem dL_law_1190 : decode cL_law 1190 = .ok (.aload_n 2, 1) := by decide +kernel
theorem dL_law_1191 : decode cL_law 1191 = .ok (.aload_n 0, 1) := by decide +kernel
theorem dL_law_1192 : decode cL_law 1192 = .ok (.iload_n 3, 1) := by decide +kernel
theorem dL_law_1193 : decode cL_law 1193 = .ok (.iconst 1, 1) := by decide +kernel
theorem dL_law_1194 : decode cL_law 1194 = .ok (.iadd, 1) := by decide +kernel
theorem dL_law_1195 : decode cL_law 1195 = .ok (.iaload, 1) := by decide +kernel
theorem dL_law_1196 : decode cL_law 1196 = .ok (.invokevirtual 145, 3) := by decide +kernel
theorem dL_law_1199 : decode cL_law 1199 = .ok (.if_icmp .eq 267, 3) := by decide +kernel
theorem dL_law_1202 : decode cL_law 1202 = .ok (.iconst 0, 1) := by decide +kernel
theorem dL_law_1203 : decode cL_law 1203 = .ok (.ireturn, 1) := by decide +kernel
theorem dL_law_1204 : decode cL_law 1204 = .ok (.aload_n 1, 1) := by decide +kernel
theorem dL_law_1205 : decode cL_law 1205 = .ok (.invokevirtual 146, 3) := by decide +kernel
theorem dL_law_1208 : decode cL_law 1208 = .ok (.aload_n 2, 1) := by decide +kernel
theorem dL_law_1209 : decode cL_law 1209 = .ok (.invokevirtual 150, 3) := by decide +kernel
theorem dL_law_1212 : decode cL_law 1212 = .ok (.if_icmp .eq 254, 3) := by decide +kernel
theorem dL_law_1215 : decode cL_law 1215 = .ok (.iconst 0, 1) := by decide +kernel
theorem dL_law_1216 : decode cL_law 1216 = .ok (.ireturn, 1) := by decide +kernel
theorem dL_law_1217 : decode cL_law 1217 = .ok (.aload_n 1, 1) := by decide +kernel
theorem dL_law_1218 : decode cL_law 1218 = .ok (.invokevirtual 151, 3) := by decide +kernel
theorem dL_law_1221 : decode cL_law 1221 = .ok (.aload_n 2, 1) := by decide +kernel
theorem dL_law_1222 : decode cL_law 1222 = .ok (.invokevirtual 154, 3) := by decide +kernel
theorem dL_law_1225 : decode cL_law 1225 = .ok (.if_icmp .eq 241, 3) := by decide +kernel
theorem dL_law_1228 : decode cL_law 1228 = .ok (.iconst 0, 1) := by decide +kernel
theorem dL_law_1229 : decode cL_law 1229 = .ok (.ireturn, 1) := by decide +kernel
theorem dL_law_1230 : decode cL_law 1230 = .ok (.aload_n 1, 1) := by decide +kernel
theorem dL_law_1231 : decode cL_law 1231 = .ok (.aload_n 0, 1) := by decide +kernel
theorem dL_law_1232 : decode cL_law 1232 = .ok (.iload_n 3, 1) := by decide +kernel
theorem dL_law_1233 : decode cL_law 1233 = .ok (.iconst 1, 1) := by decide +kernel
theorem dL_law_1234 : decode cL_law 1234 = .ok (.iadd, 1) := by decide +kernel
theorem dL_law_1235 : decode cL_law 1235 = .ok (.iaload, 1) := by decide +kernel
theorem dL_law_1236 : decode cL_law 1236 = .ok (.aload_n 0, 1) := by decide +kernel
theorem dL_law_1237 : decode cL_law 1237 = .ok (.iload_n 3, 1) := by decide +kernel
theorem dL_law_1238 : decode cL_law 1238 = .ok (.iconst 2, 1) := by decide +kernel
theorem dL_law_1239 : decode cL_law 1239 = .ok (.iadd, 1) := by decide +kernel
theorem dL_law_1240 : decode cL_law 1240 = .ok (.iaload, 1) := by decide +kernel
theorem dL_law_1241 : decode cL_law 1241 = .ok (.invokevirtual 155, 3) := by decide +kernel
theorem dL_law_1244 : decode cL_law 1244 = .ok (.aload_n 2, 1) := by decide +kernel
theorem dL_law_1245 : decode cL_law 1245 = .ok (.aload_n 0, 1) := by decide +kernel
theorem dL_law_1246 : decode cL_law 1246 = .ok (.iload_n 3, 1) := by decide +kernel
theorem dL_law_1247 : decode cL_law 1247 = .ok (.iconst 1, 1) := by decide +kernel
theorem dL_law_1248 : decode cL_law 1248 = .ok (.iadd, 1) := by decide +kernel
theorem dL_law_1249 : decode cL_law 1249 = .ok (.iaload, 1) := by decide +kernel
theorem dL_law_1250 : decode cL_law 1250 = .ok (.aload_n 0, 1) := by decide +kernel
theorem dL_law_1251 : decode cL_law 1251 = .ok (.iload_n 3, 1) := by decide +kernel
theorem dL_law_1252 : decode cL_law 1252 = .ok (.iconst 2, 1) := by decide +kernel
theorem dL_law_1253 : decode cL_law 1253 = .ok (.iadd, 1) := by decide +kernel
theorem dL_law_1254 : decode cL_law 1254 = .ok (.iaload, 1) := by decide +kernel
theorem dL_law_1255 : decode cL_law 1255 = .ok (.invokevirtual 158, 3) := by decide +kernel
theorem dL_law_1258 : decode cL_law 1258 = .ok (.if_icmp .eq 208, 3) := by decide +kernel
theorem dL_law_1261 : decode cL_law 1261 = .ok (.iconst 0, 1) := by decide +kernel
theorem dL_law_1262 : decode cL_law 1262 = .ok (.ireturn, 1) := by decide +kernel
theorem dL_law_1263 : decode cL_law 1263 = .ok (.aload_n 1, 1) := by decide +kernel
theorem dL_law_1264 : decode cL_law 1264 = .ok (.aload_n 0, 1) := by decide +kernel
theorem dL_law_1265 : decode cL_law 1265 = .ok (.iload_n 3, 1) := by decide +kernel
theorem dL_law_1266 : decode cL_law 1266 = .ok (.iconst 1, 1) := by decide +kernel
theorem dL_law_1267 : decode cL_law 1267 = .ok (.iadd, 1) := by decide +kernel
theorem dL_law_1268 : decode cL_law 1268 = .ok (.iaload, 1) := by decide +kernel
theorem dL_law_1269 : decode cL_law 1269 = .ok (.aload_n 0, 1) := by decide +kernel
theorem dL_law_1270 : decode cL_law 1270 = .ok (.iload_n 3, 1) := by decide +kernel
theorem dL_law_1271 : decode cL_law 1271 = .ok (.iconst 2, 1) := by decide +kernel
theorem dL_law_1272 : decode cL_law 1272 = .ok (.iadd, 1) := by decide +kernel
theorem dL_law_1273 : decode cL_law 1273 = .ok (.iaload, 1) := by decide +kernel
theorem dL_law_1274 : decode cL_law 1274 = .ok (.invokevirtual 159, 3) := by decide +kernel
theorem dL_law_1277 : decode cL_law 1277 = .ok (.aload_n 2, 1) := by decide +kernel
theorem dL_law_1278 : decode cL_law 1278 = .ok (.aload_n 0, 1) := by decide +kernel
theorem dL_law_1279 : decode cL_law 1279 = .ok (.iload_n 3, 1) := by decide +kernel
theorem dL_law_1280 : decode cL_law 1280 = .ok (.iconst 1, 1) := by decide +kernel
theorem dL_law_1281 : decode cL_law 1281 = .ok (.iadd, 1) := by decide +kernel
theorem dL_law_1282 : decode cL_law 1282 = .ok (.iaload, 1) := by decide +kernel
theorem dL_law_1283 : decode cL_law 1283 = .ok (.aload_n 0, 1) := by decide +kernel
theorem dL_law_1284 : decode cL_law 1284 = .ok (.iload_n 3, 1) := by decide +kernel
theorem dL_law_1285 : decode cL_law 1285 = .ok (.iconst 2, 1) := by decide +kernel
theorem dL_law_1286 : decode cL_law 1286 = .ok (.iadd, 1) := by decide +kernel
theorem dL_law_1287 : decode cL_law 1287 = .ok (.iaload, 1) := by decide +kernel
theorem dL_law_1288 : decode cL_law 1288 = .ok (.invokevirtual 162, 3) := by decide +kernel
theorem dL_law_1291 : decode cL_law 1291 = .ok (.if_icmp .eq 175, 3) := by decide +kernel
theorem dL_law_1294 : decode cL_law 1294 = .ok (.iconst 0, 1) := by decide +kernel
theorem dL_law_1295 : decode cL_law 1295 = .ok (.ireturn, 1) := by decide +kernel
theorem dL_law_1296 : decode cL_law 1296 = .ok (.aload_n 1, 1) := by decide +kernel
theorem dL_law_1297 : decode cL_law 1297 = .ok (.aload_n 0, 1) := by decide +kernel
theorem dL_law_1298 : decode cL_law 1298 = .ok (.iload_n 3, 1) := by decide +kernel
theorem dL_law_1299 : decode cL_law 1299 = .ok (.iconst 1, 1) := by decide +kernel
theorem dL_law_1300 : decode cL_law 1300 = .ok (.iadd, 1) := by decide +kernel
theorem dL_law_1301 : decode cL_law 1301 = .ok (.iaload, 1) := by decide +kernel
theorem dL_law_1302 : decode cL_law 1302 = .ok (.invokevirtual 163, 3) := by decide +kernel
theorem dL_law_1305 : decode cL_law 1305 = .ok (.aload_n 2, 1) := by decide +kernel
theorem dL_law_1306 : decode cL_law 1306 = .ok (.aload_n 0, 1) := by decide +kernel
theorem dL_law_1307 : decode cL_law 1307 = .ok (.iload_n 3, 1) := by decide +kernel
theorem dL_law_1308 : decode cL_law 1308 = .ok (.iconst 1, 1) := by decide +kernel
theorem dL_law_1309 : decode cL_law 1309 = .ok (.iadd, 1) := by decide +kernel
theorem dL_law_1310 : decode cL_law 1310 = .ok (.iaload, 1) := by decide +kernel
theorem dL_law_1311 : decode cL_law 1311 = .ok (.invokevirtual 166, 3) := by decide +kernel
theorem dL_law_1314 : decode cL_law 1314 = .ok (.if_icmp .eq 152, 3) := by decide +kernel
theorem dL_law_1317 : decode cL_law 1317 = .ok (.iconst 0, 1) := by decide +kernel
theorem dL_law_1318 : decode cL_law 1318 = .ok (.ireturn, 1) := by decide +kernel
theorem dL_law_1319 : decode cL_law 1319 = .ok (.aload_n 1, 1) := by decide +kernel
theorem dL_law_1320 : decode cL_law 1320 = .ok (.aload_n 0, 1) := by decide +kernel
theorem dL_law_1321 : decode cL_law 1321 = .ok (.iload_n 3, 1) := by decide +kernel
theorem dL_law_1322 : decode cL_law 1322 = .ok (.iconst 1, 1) := by decide +kernel
theorem dL_law_1323 : decode cL_law 1323 = .ok (.iadd, 1) := by decide +kernel
theorem dL_law_1324 : decode cL_law 1324 = .ok (.iaload, 1) := by decide +kernel
theorem dL_law_1325 : decode cL_law 1325 = .ok (.aload_n 0, 1) := by decide +kernel
theorem dL_law_1326 : decode cL_law 1326 = .ok (.iload_n 3, 1) := by decide +kernel
theorem dL_law_1327 : decode cL_law 1327 = .ok (.iconst 2, 1) := by decide +kernel
theorem dL_law_1328 : decode cL_law 1328 = .ok (.iadd, 1) := by decide +kernel
theorem dL_law_1329 : decode cL_law 1329 = .ok (.iaload, 1) := by decide +kernel
theorem dL_law_1330 : decode cL_law 1330 = .ok (.invokevirtual 167, 3) := by decide +kernel
theorem dL_law_1333 : decode cL_law 1333 = .ok (.aload_n 2, 1) := by decide +kernel
theorem dL_law_1334 : decode cL_law 1334 = .ok (.aload_n 0, 1) := by decide +kernel
theorem dL_law_1335 : decode cL_law 1335 = .ok (.iload_n 3, 1) := by decide +kernel
theorem dL_law_1336 : decode cL_law 1336 = .ok (.iconst 1, 1) := by decide +kernel
theorem dL_law_1337 : decode cL_law 1337 = .ok (.iadd, 1) := by decide +kernel
theorem dL_law_1338 : decode cL_law 1338 = .ok (.iaload, 1) := by decide +kernel
theorem dL_law_1339 : decode cL_law 1339 = .ok (.aload_n 0, 1) := by decide +kernel
theorem dL_law_1340 : decode cL_law 1340 = .ok (.iload_n 3, 1) := by decide +kernel
theorem dL_law_1341 : decode cL_law 1341 = .ok (.iconst 2, 1) := by decide +kernel
theorem dL_law_1342 : decode cL_law 1342 = .ok (.iadd, 1) := by decide +kernel
theorem dL_law_1343 : decode cL_law 1343 = .ok (.iaload, 1) := by decide +kernel
theorem dL_law_1344 : decode cL_law 1344 = .ok (.invokevirtual 170, 3) := by decide +kernel
theorem dL_law_1347 : decode cL_law 1347 = .ok (.if_icmp .eq 119, 3) := by decide +kernel
theorem dL_law_1350 : decode cL_law 1350 = .ok (.iconst 0, 1) := by decide +kernel
theorem dL_law_1351 : decode cL_law 1351 = .ok (.ireturn, 1) := by decide +kernel
theorem dL_law_1352 : decode cL_law 1352 = .ok (.aload_n 1, 1) := by decide +kernel
theorem dL_law_1353 : decode cL_law 1353 = .ok (.invokevirtual 171, 3) := by decide +kernel
theorem dL_law_1356 : decode cL_law 1356 = .ok (.aload_n 2, 1) := by decide +kernel
theorem dL_law_1357 : decode cL_law 1357 = .ok (.invokevirtual 174, 3) := by decide +kernel
theorem dL_law_1360 : decode cL_law 1360 = .ok (.if_icmp .eq 106, 3) := by decide +kernel
theorem dL_law_1363 : decode cL_law 1363 = .ok (.iconst 0, 1) := by decide +kernel
theorem dL_law_1364 : decode cL_law 1364 = .ok (.ireturn, 1) := by decide +kernel
theorem dL_law_1365 : decode cL_law 1365 = .ok (.aload_n 1, 1) := by decide +kernel
theorem dL_law_1366 : decode cL_law 1366 = .ok (.invokevirtual 175, 3) := by decide +kernel
theorem dL_law_1369 : decode cL_law 1369 = .ok (.aload_n 2, 1) := by decide +kernel
theorem dL_law_1370 : decode cL_law 1370 = .ok (.invokevirtual 179, 3) := by decide +kernel
theorem dL_law_1373 : decode cL_law 1373 = .ok (.lcmp, 1) := by decide +kernel
theorem dL_law_1374 : decode cL_law 1374 = .ok (.ifCond .eq 92, 3) := by decide +kernel
theorem dL_law_1377 : decode cL_law 1377 = .ok (.iconst 0, 1) := by decide +kernel
theorem dL_law_1378 : decode cL_law 1378 = .ok (.ireturn, 1) := by decide +kernel
theorem dL_law_1379 : decode cL_law 1379 = .ok (.aload_n 1, 1) := by decide +kernel
theorem dL_law_1380 : decode cL_law 1380 = .ok (.invokevirtual 180, 3) := by decide +kernel
theorem dL_law_1383 : decode cL_law 1383 = .ok (.aload_n 2, 1) := by decide +kernel
theorem dL_law_1384 : decode cL_law 1384 = .ok (.invokevirtual 183, 3) := by decide +kernel
theorem dL_law_1387 : decode cL_law 1387 = .ok (.lcmp, 1) := by decide +kernel
theorem dL_law_1388 : decode cL_law 1388 = .ok (.ifCond .eq 78, 3) := by decide +kernel
theorem dL_law_1391 : decode cL_law 1391 = .ok (.iconst 0, 1) := by decide +kernel
theorem dL_law_1392 : decode cL_law 1392 = .ok (.ireturn, 1) := by decide +kernel
theorem dL_law_1393 : decode cL_law 1393 = .ok (.aload_n 1, 1) := by decide +kernel
theorem dL_law_1394 : decode cL_law 1394 = .ok (.aload_n 0, 1) := by decide +kernel
theorem dL_law_1395 : decode cL_law 1395 = .ok (.iload_n 3, 1) := by decide +kernel
theorem dL_law_1396 : decode cL_law 1396 = .ok (.iconst 1, 1) := by decide +kernel
theorem dL_law_1397 : decode cL_law 1397 = .ok (.iadd, 1) := by decide +kernel
theorem dL_law_1398 : decode cL_law 1398 = .ok (.iaload, 1) := by decide +kernel
theorem dL_law_1399 : decode cL_law 1399 = .ok (.invokevirtual 184, 3) := by decide +kernel
theorem dL_law_1402 : decode cL_law 1402 = .ok (.aload_n 2, 1) := by decide +kernel
theorem dL_law_1403 : decode cL_law 1403 = .ok (.aload_n 0, 1) := by decide +kernel
theorem dL_law_1404 : decode cL_law 1404 = .ok (.iload_n 3, 1) := by decide +kernel
theorem dL_law_1405 : decode cL_law 1405 = .ok (.iconst 1, 1) := by decide +kernel
theorem dL_law_1406 : decode cL_law 1406 = .ok (.iadd, 1) := by decide +kernel
theorem dL_law_1407 : decode cL_law 1407 = .ok (.iaload, 1) := by decide +kernel
theorem dL_law_1408 : decode cL_law 1408 = .ok (.invokevirtual 187, 3) := by decide +kernel
theorem dL_law_1411 : decode cL_law 1411 = .ok (.if_icmp .eq 55, 3) := by decide +kernel
theorem dL_law_1414 : decode cL_law 1414 = .ok (.iconst 0, 1) := by decide +kernel
theorem dL_law_1415 : decode cL_law 1415 = .ok (.ireturn, 1) := by decide +kernel
theorem dL_law_1416 : decode cL_law 1416 = .ok (.aload_n 1, 1) := by decide +kernel
theorem dL_law_1417 : decode cL_law 1417 = .ok (.invokevirtual 188, 3) := by decide +kernel
theorem dL_law_1420 : decode cL_law 1420 = .ok (.aload_n 2, 1) := by decide +kernel
theorem dL_law_1421 : decode cL_law 1421 = .ok (.invokevirtual 191, 3) := by decide +kernel
theorem dL_law_1424 : decode cL_law 1424 = .ok (.if_icmp .eq 42, 3) := by decide +kernel
theorem dL_law_1427 : decode cL_law 1427 = .ok (.iconst 0, 1) := by decide +kernel
theorem dL_law_1428 : decode cL_law 1428 = .ok (.ireturn, 1) := by decide +kernel
theorem dL_law_1429 : decode cL_law 1429 = .ok (.aload_n 1, 1) := by decide +kernel
theorem dL_law_1430 : decode cL_law 1430 = .ok (.aload_n 0, 1) := by decide +kernel
theorem dL_law_1431 : decode cL_law 1431 = .ok (.iload_n 3, 1) := by decide +kernel
theorem dL_law_1432 : decode cL_law 1432 = .ok (.iconst 1, 1) := by decide +kernel
theorem dL_law_1433 : decode cL_law 1433 = .ok (.iadd, 1) := by decide +kernel
theorem dL_law_1434 : decode cL_law 1434 = .ok (.iaload, 1) := by decide +kernel
theorem dL_law_1435 : decode cL_law 1435 = .ok (.invokevirtual 192, 3) := by decide +kernel
theorem dL_law_1438 : decode cL_law 1438 = .ok (.aload_n 2, 1) := by decide +kernel
theorem dL_law_1439 : decode cL_law 1439 = .ok (.aload_n 0, 1) := by decide +kernel
theorem dL_law_1440 : decode cL_law 1440 = .ok (.iload_n 3, 1) := by decide +kernel
theorem dL_law_1441 : decode cL_law 1441 = .ok (.iconst 1, 1) := by decide +kernel
theorem dL_law_1442 : decode cL_law 1442 = .ok (.iadd, 1) := by decide +kernel
theorem dL_law_1443 : decode cL_law 1443 = .ok (.iaload, 1) := by decide +kernel
theorem dL_law_1444 : decode cL_law 1444 = .ok (.invokevirtual 195, 3) := by decide +kernel
theorem dL_law_1447 : decode cL_law 1447 = .ok (.if_icmp .eq 19, 3) := by decide +kernel
theorem dL_law_1450 : decode cL_law 1450 = .ok (.iconst 0, 1) := by decide +kernel
theorem dL_law_1451 : decode cL_law 1451 = .ok (.ireturn, 1) := by decide +kernel
theorem dL_law_1452 : decode cL_law 1452 = .ok (.aload_n 1, 1) := by decide +kernel
theorem dL_law_1453 : decode cL_law 1453 = .ok (.invokevirtual 196, 3) := by decide +kernel
theorem dL_law_1456 : decode cL_law 1456 = .ok (.aload_n 2, 1) := by decide +kernel
theorem dL_law_1457 : decode cL_law 1457 = .ok (.invokevirtual 199, 3) := by decide +kernel
theorem dL_law_1460 : decode cL_law 1460 = .ok (.lcmp, 1) := by decide +kernel
theorem dL_law_1461 : decode cL_law 1461 = .ok (.ifCond .eq 5, 3) := by decide +kernel
theorem dL_law_1464 : decode cL_law 1464 = .ok (.iconst 0, 1) := by decide +kernel
theorem dL_law_1465 : decode cL_law 1465 = .ok (.ireturn, 1) := by decide +kernel
theorem dL_law_1466 : decode cL_law 1466 = .ok (.iinc 3 6, 3) := by decide +kernel
theorem dL_law_1469 : decode cL_law 1469 = .ok (.goto (-1451), 3) := by decide +kernel
theorem dL_law_1472 : decode cL_law 1472 = .ok (.iconst 1, 1) := by decide +kernel
theorem dL_law_1473 : decode cL_law 1473 = .ok (.ireturn, 1) := by decide +kernel
end
section
theorem zz_look : True := trivial
end
