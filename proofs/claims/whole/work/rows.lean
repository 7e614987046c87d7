section
-- ===== PART A: goes FIRST, ahead of the names: the tables' words, and 'selects' of the private methods out of them =====
/-- a private method of a class that the tables say can be made, by its rows of tables_1 -/
def lw_okq (q : MethodName × Nat) : Prop := (q.1.cls ≠ "java/lang/invoke/MethodHandle" ∧ q.1.cls ≠ "java/lang/invoke/VarHandle") ∧ Cond.instantiable q.1.cls q.2 ∈ tables_1 ∧ Cond.privateMethod q.1 ∈ tables_1 ∧ Cond.instanceMethod q.1 ∈ tables_1
theorem lw_p0 : lw_okq (⟨"Stormroof$Board", "joinNeighbours", "(IIII)V"⟩, 13) := ⟨⟨by decide +kernel, by decide +kernel⟩, List.mem_of_getElem? (i := 23) (by decide +kernel), List.mem_of_getElem? (i := 114) (by decide +kernel), List.mem_of_getElem? (i := 115) (by decide +kernel)⟩
theorem lw_p1 : lw_okq (⟨"java/lang/Throwable", "fillInStackTrace", "(I)Ljava/lang/Throwable;"⟩, 6) := ⟨⟨by decide +kernel, by decide +kernel⟩, List.mem_of_getElem? (i := 201) (by decide +kernel), List.mem_of_getElem? (i := 199) (by decide +kernel), List.mem_of_getElem? (i := 200) (by decide +kernel)⟩
theorem lw_p2 : lw_okq (⟨"Stormroof", "requireCell", "(I)V"⟩, 3) := ⟨⟨by decide +kernel, by decide +kernel⟩, List.mem_of_getElem? (i := 15) (by decide +kernel), List.mem_of_getElem? (i := 242) (by decide +kernel), List.mem_of_getElem? (i := 243) (by decide +kernel)⟩
theorem lw_p3 : lw_okq (⟨"Stormroof$Board", "put", "(II)V"⟩, 13) := ⟨⟨by decide +kernel, by decide +kernel⟩, List.mem_of_getElem? (i := 23) (by decide +kernel), List.mem_of_getElem? (i := 287) (by decide +kernel), List.mem_of_getElem? (i := 288) (by decide +kernel)⟩
theorem lw_p4 : lw_okq (⟨"Stormroof$Board", "hasTurn", "(I)Z"⟩, 13) := ⟨⟨by decide +kernel, by decide +kernel⟩, List.mem_of_getElem? (i := 23) (by decide +kernel), List.mem_of_getElem? (i := 291) (by decide +kernel), List.mem_of_getElem? (i := 292) (by decide +kernel)⟩
theorem lw_p5 : lw_okq (⟨"Stormroof$Board", "spotOf", "(II)I"⟩, 13) := ⟨⟨by decide +kernel, by decide +kernel⟩, List.mem_of_getElem? (i := 23) (by decide +kernel), List.mem_of_getElem? (i := 295) (by decide +kernel), List.mem_of_getElem? (i := 296) (by decide +kernel)⟩
theorem lw_p6 : lw_okq (⟨"Stormroof$Board", "stepOf", "(III)J"⟩, 13) := ⟨⟨by decide +kernel, by decide +kernel⟩, List.mem_of_getElem? (i := 23) (by decide +kernel), List.mem_of_getElem? (i := 299) (by decide +kernel), List.mem_of_getElem? (i := 300) (by decide +kernel)⟩
theorem lw_p7 : lw_okq (⟨"Stormroof$Board", "neighbourOf", "(II)I"⟩, 13) := ⟨⟨by decide +kernel, by decide +kernel⟩, List.mem_of_getElem? (i := 23) (by decide +kernel), List.mem_of_getElem? (i := 303) (by decide +kernel), List.mem_of_getElem? (i := 304) (by decide +kernel)⟩
theorem lw_p8 : lw_okq (⟨"Stormroof$Board", "canEnter", "(III)Z"⟩, 13) := ⟨⟨by decide +kernel, by decide +kernel⟩, List.mem_of_getElem? (i := 23) (by decide +kernel), List.mem_of_getElem? (i := 311) (by decide +kernel), List.mem_of_getElem? (i := 312) (by decide +kernel)⟩
theorem lw_p9 : lw_okq (⟨"Stormroof$Board", "powerOf", "(I)I"⟩, 13) := ⟨⟨by decide +kernel, by decide +kernel⟩, List.mem_of_getElem? (i := 23) (by decide +kernel), List.mem_of_getElem? (i := 320) (by decide +kernel), List.mem_of_getElem? (i := 321) (by decide +kernel)⟩
theorem lw_p10 : lw_okq (⟨"Stormroof$Board", "canBuild", "(III)Z"⟩, 13) := ⟨⟨by decide +kernel, by decide +kernel⟩, List.mem_of_getElem? (i := 23) (by decide +kernel), List.mem_of_getElem? (i := 324) (by decide +kernel), List.mem_of_getElem? (i := 325) (by decide +kernel)⟩
theorem lw_p11 : lw_okq (⟨"Stormroof$Board", "asideOf", "(III)I"⟩, 13) := ⟨⟨by decide +kernel, by decide +kernel⟩, List.mem_of_getElem? (i := 23) (by decide +kernel), List.mem_of_getElem? (i := 328) (by decide +kernel), List.mem_of_getElem? (i := 329) (by decide +kernel)⟩
theorem lw_p12 : lw_okq (⟨"Stormroof$Board", "isOpenBehind", "(III)Z"⟩, 13) := ⟨⟨by decide +kernel, by decide +kernel⟩, List.mem_of_getElem? (i := 23) (by decide +kernel), List.mem_of_getElem? (i := 332) (by decide +kernel), List.mem_of_getElem? (i := 333) (by decide +kernel)⟩
theorem lw_p13 : lw_okq (⟨"Stormroof", "requireAllPlaced", "()V"⟩, 3) := ⟨⟨by decide +kernel, by decide +kernel⟩, List.mem_of_getElem? (i := 15) (by decide +kernel), List.mem_of_getElem? (i := 372) (by decide +kernel), List.mem_of_getElem? (i := 373) (by decide +kernel)⟩
theorem lw_p14 : lw_okq (⟨"Stormroof$Board", "reachOf", "(II)J"⟩, 13) := ⟨⟨by decide +kernel, by decide +kernel⟩, List.mem_of_getElem? (i := 23) (by decide +kernel), List.mem_of_getElem? (i := 385) (by decide +kernel), List.mem_of_getElem? (i := 386) (by decide +kernel)⟩
theorem lw_p15 : lw_okq (⟨"Stormroof$Board", "listBuildings", "(LStormroof$TurnList;III)V"⟩, 13) := ⟨⟨by decide +kernel, by decide +kernel⟩, List.mem_of_getElem? (i := 23) (by decide +kernel), List.mem_of_getElem? (i := 389) (by decide +kernel), List.mem_of_getElem? (i := 390) (by decide +kernel)⟩
def lw_privs_1 : List (MethodName × Nat) := [(⟨"Stormroof$Board", "joinNeighbours", "(IIII)V"⟩, 13), (⟨"java/lang/Throwable", "fillInStackTrace", "(I)Ljava/lang/Throwable;"⟩, 6), (⟨"Stormroof", "requireCell", "(I)V"⟩, 3), (⟨"Stormroof$Board", "put", "(II)V"⟩, 13), (⟨"Stormroof$Board", "hasTurn", "(I)Z"⟩, 13), (⟨"Stormroof$Board", "spotOf", "(II)I"⟩, 13), (⟨"Stormroof$Board", "stepOf", "(III)J"⟩, 13), (⟨"Stormroof$Board", "neighbourOf", "(II)I"⟩, 13), (⟨"Stormroof$Board", "canEnter", "(III)Z"⟩, 13), (⟨"Stormroof$Board", "powerOf", "(I)I"⟩, 13), (⟨"Stormroof$Board", "canBuild", "(III)Z"⟩, 13), (⟨"Stormroof$Board", "asideOf", "(III)I"⟩, 13), (⟨"Stormroof$Board", "isOpenBehind", "(III)Z"⟩, 13), (⟨"Stormroof", "requireAllPlaced", "()V"⟩, 3), (⟨"Stormroof$Board", "reachOf", "(II)J"⟩, 13), (⟨"Stormroof$Board", "listBuildings", "(LStormroof$TurnList;III)V"⟩, 13)]
theorem lw_r1 : ∀ q ∈ lw_privs_1, lw_okq q := List.forall_mem_cons.mpr ⟨lw_p0, List.forall_mem_cons.mpr ⟨lw_p1, List.forall_mem_cons.mpr ⟨lw_p2, List.forall_mem_cons.mpr ⟨lw_p3, List.forall_mem_cons.mpr ⟨lw_p4, List.forall_mem_cons.mpr ⟨lw_p5, List.forall_mem_cons.mpr ⟨lw_p6, List.forall_mem_cons.mpr ⟨lw_p7, List.forall_mem_cons.mpr ⟨lw_p8, List.forall_mem_cons.mpr ⟨lw_p9, List.forall_mem_cons.mpr ⟨lw_p10, List.forall_mem_cons.mpr ⟨lw_p11, List.forall_mem_cons.mpr ⟨lw_p12, List.forall_mem_cons.mpr ⟨lw_p13, List.forall_mem_cons.mpr ⟨lw_p14, List.forall_mem_cons.mpr ⟨lw_p15, fun _ h => absurd h List.not_mem_nil⟩⟩⟩⟩⟩⟩⟩⟩⟩⟩⟩⟩⟩⟩⟩⟩
theorem lw_p16 : lw_okq (⟨"Stormroof$Board", "remember", "(III)V"⟩, 13) := ⟨⟨by decide +kernel, by decide +kernel⟩, List.mem_of_getElem? (i := 23) (by decide +kernel), List.mem_of_getElem? (i := 429) (by decide +kernel), List.mem_of_getElem? (i := 430) (by decide +kernel)⟩
theorem lw_p17 : lw_okq (⟨"Stormroof$Board", "carry", "(III)V"⟩, 13) := ⟨⟨by decide +kernel, by decide +kernel⟩, List.mem_of_getElem? (i := 23) (by decide +kernel), List.mem_of_getElem? (i := 436) (by decide +kernel), List.mem_of_getElem? (i := 437) (by decide +kernel)⟩
theorem lw_p18 : lw_okq (⟨"Stormroof$Board", "clear", "(I)V"⟩, 13) := ⟨⟨by decide +kernel, by decide +kernel⟩, List.mem_of_getElem? (i := 23) (by decide +kernel), List.mem_of_getElem? (i := 440) (by decide +kernel), List.mem_of_getElem? (i := 441) (by decide +kernel)⟩
theorem lw_p19 : lw_okq (⟨"Stormroof$Board", "carryBack", "(III)V"⟩, 13) := ⟨⟨by decide +kernel, by decide +kernel⟩, List.mem_of_getElem? (i := 23) (by decide +kernel), List.mem_of_getElem? (i := 457) (by decide +kernel), List.mem_of_getElem? (i := 458) (by decide +kernel)⟩
theorem lw_p20 : lw_okq (⟨"Stormroof", "requireAhead", "(II)V"⟩, 3) := ⟨⟨by decide +kernel, by decide +kernel⟩, List.mem_of_getElem? (i := 15) (by decide +kernel), List.mem_of_getElem? (i := 468) (by decide +kernel), List.mem_of_getElem? (i := 469) (by decide +kernel)⟩
theorem lw_p21 : lw_okq (⟨"Stormroof$Outlook", "look", "(LStormroof$Board;I)I"⟩, 3) := ⟨⟨by decide +kernel, by decide +kernel⟩, List.mem_of_getElem? (i := 89) (by decide +kernel), List.mem_of_getElem? (i := 475) (by decide +kernel), List.mem_of_getElem? (i := 476) (by decide +kernel)⟩
theorem lw_p22 : lw_okq (⟨"Stormroof$Outlook", "listFor", "(I)LStormroof$TurnList;"⟩, 3) := ⟨⟨by decide +kernel, by decide +kernel⟩, List.mem_of_getElem? (i := 89) (by decide +kernel), List.mem_of_getElem? (i := 479) (by decide +kernel), List.mem_of_getElem? (i := 480) (by decide +kernel)⟩
theorem lw_p23 : lw_okq (⟨"Stormroof$Outlook", "worthOf", "(LStormroof$Board;II)I"⟩, 3) := ⟨⟨by decide +kernel, by decide +kernel⟩, List.mem_of_getElem? (i := 89) (by decide +kernel), List.mem_of_getElem? (i := 485) (by decide +kernel), List.mem_of_getElem? (i := 486) (by decide +kernel)⟩
theorem lw_p24 : lw_okq (⟨"StormroofModel", "lay", "()V"⟩, 16) := ⟨⟨by decide +kernel, by decide +kernel⟩, List.mem_of_getElem? (i := 515) (by decide +kernel), List.mem_of_getElem? (i := 521) (by decide +kernel), List.mem_of_getElem? (i := 522) (by decide +kernel)⟩
theorem lw_p25 : lw_okq (⟨"StormroofModel", "goesWell", "(I)Z"⟩, 16) := ⟨⟨by decide +kernel, by decide +kernel⟩, List.mem_of_getElem? (i := 515) (by decide +kernel), List.mem_of_getElem? (i := 586) (by decide +kernel), List.mem_of_getElem? (i := 587) (by decide +kernel)⟩
theorem lw_p26 : lw_okq (⟨"StormroofModel", "cells", "()I"⟩, 16) := ⟨⟨by decide +kernel, by decide +kernel⟩, List.mem_of_getElem? (i := 515) (by decide +kernel), List.mem_of_getElem? (i := 590) (by decide +kernel), List.mem_of_getElem? (i := 591) (by decide +kernel)⟩
theorem lw_p27 : lw_okq (⟨"StormroofModel", "isCell", "(I)Z"⟩, 16) := ⟨⟨by decide +kernel, by decide +kernel⟩, List.mem_of_getElem? (i := 515) (by decide +kernel), List.mem_of_getElem? (i := 598) (by decide +kernel), List.mem_of_getElem? (i := 599) (by decide +kernel)⟩
theorem lw_p28 : lw_okq (⟨"StormroofModel", "isPlaced", "()Z"⟩, 16) := ⟨⟨by decide +kernel, by decide +kernel⟩, List.mem_of_getElem? (i := 515) (by decide +kernel), List.mem_of_getElem? (i := 602) (by decide +kernel), List.mem_of_getElem? (i := 603) (by decide +kernel)⟩
theorem lw_p29 : lw_okq (⟨"StormroofModel", "builderIn", "(II)I"⟩, 16) := ⟨⟨by decide +kernel, by decide +kernel⟩, List.mem_of_getElem? (i := 515) (by decide +kernel), List.mem_of_getElem? (i := 606) (by decide +kernel), List.mem_of_getElem? (i := 607) (by decide +kernel)⟩
theorem lw_p30 : lw_okq (⟨"StormroofModel", "judge", "()V"⟩, 16) := ⟨⟨by decide +kernel, by decide +kernel⟩, List.mem_of_getElem? (i := 515) (by decide +kernel), List.mem_of_getElem? (i := 610) (by decide +kernel), List.mem_of_getElem? (i := 611) (by decide +kernel)⟩
theorem lw_p31 : lw_okq (⟨"StormroofModel", "nextTurn", "(II)I"⟩, 16) := ⟨⟨by decide +kernel, by decide +kernel⟩, List.mem_of_getElem? (i := 515) (by decide +kernel), List.mem_of_getElem? (i := 614) (by decide +kernel), List.mem_of_getElem? (i := 615) (by decide +kernel)⟩
def lw_privs_2 : List (MethodName × Nat) := [(⟨"Stormroof$Board", "remember", "(III)V"⟩, 13), (⟨"Stormroof$Board", "carry", "(III)V"⟩, 13), (⟨"Stormroof$Board", "clear", "(I)V"⟩, 13), (⟨"Stormroof$Board", "carryBack", "(III)V"⟩, 13), (⟨"Stormroof", "requireAhead", "(II)V"⟩, 3), (⟨"Stormroof$Outlook", "look", "(LStormroof$Board;I)I"⟩, 3), (⟨"Stormroof$Outlook", "listFor", "(I)LStormroof$TurnList;"⟩, 3), (⟨"Stormroof$Outlook", "worthOf", "(LStormroof$Board;II)I"⟩, 3), (⟨"StormroofModel", "lay", "()V"⟩, 16), (⟨"StormroofModel", "goesWell", "(I)Z"⟩, 16), (⟨"StormroofModel", "cells", "()I"⟩, 16), (⟨"StormroofModel", "isCell", "(I)Z"⟩, 16), (⟨"StormroofModel", "isPlaced", "()Z"⟩, 16), (⟨"StormroofModel", "builderIn", "(II)I"⟩, 16), (⟨"StormroofModel", "judge", "()V"⟩, 16), (⟨"StormroofModel", "nextTurn", "(II)I"⟩, 16)]
theorem lw_r2 : ∀ q ∈ lw_privs_2, lw_okq q := List.forall_mem_cons.mpr ⟨lw_p16, List.forall_mem_cons.mpr ⟨lw_p17, List.forall_mem_cons.mpr ⟨lw_p18, List.forall_mem_cons.mpr ⟨lw_p19, List.forall_mem_cons.mpr ⟨lw_p20, List.forall_mem_cons.mpr ⟨lw_p21, List.forall_mem_cons.mpr ⟨lw_p22, List.forall_mem_cons.mpr ⟨lw_p23, List.forall_mem_cons.mpr ⟨lw_p24, List.forall_mem_cons.mpr ⟨lw_p25, List.forall_mem_cons.mpr ⟨lw_p26, List.forall_mem_cons.mpr ⟨lw_p27, List.forall_mem_cons.mpr ⟨lw_p28, List.forall_mem_cons.mpr ⟨lw_p29, List.forall_mem_cons.mpr ⟨lw_p30, List.forall_mem_cons.mpr ⟨lw_p31, fun _ h => absurd h List.not_mem_nil⟩⟩⟩⟩⟩⟩⟩⟩⟩⟩⟩⟩⟩⟩⟩⟩
theorem lw_p32 : lw_okq (⟨"StormroofModel", "canCome", "(IIIZ)Z"⟩, 16) := ⟨⟨by decide +kernel, by decide +kernel⟩, List.mem_of_getElem? (i := 515) (by decide +kernel), List.mem_of_getElem? (i := 618) (by decide +kernel), List.mem_of_getElem? (i := 619) (by decide +kernel)⟩
theorem lw_p33 : lw_okq (⟨"StormroofModel", "isStep", "(III)Z"⟩, 16) := ⟨⟨by decide +kernel, by decide +kernel⟩, List.mem_of_getElem? (i := 515) (by decide +kernel), List.mem_of_getElem? (i := 622) (by decide +kernel), List.mem_of_getElem? (i := 623) (by decide +kernel)⟩
theorem lw_p34 : lw_okq (⟨"StormroofModel", "high", "(II)I"⟩, 16) := ⟨⟨by decide +kernel, by decide +kernel⟩, List.mem_of_getElem? (i := 515) (by decide +kernel), List.mem_of_getElem? (i := 626) (by decide +kernel), List.mem_of_getElem? (i := 627) (by decide +kernel)⟩
theorem lw_p35 : lw_okq (⟨"StormroofModel", "areBeside", "(II)Z"⟩, 16) := ⟨⟨by decide +kernel, by decide +kernel⟩, List.mem_of_getElem? (i := 515) (by decide +kernel), List.mem_of_getElem? (i := 630) (by decide +kernel), List.mem_of_getElem? (i := 631) (by decide +kernel)⟩
theorem lw_p36 : lw_okq (⟨"StormroofModel", "mayEnter", "(III)Z"⟩, 16) := ⟨⟨by decide +kernel, by decide +kernel⟩, List.mem_of_getElem? (i := 515) (by decide +kernel), List.mem_of_getElem? (i := 634) (by decide +kernel), List.mem_of_getElem? (i := 635) (by decide +kernel)⟩
theorem lw_p37 : lw_okq (⟨"StormroofModel", "beyond", "(II)I"⟩, 16) := ⟨⟨by decide +kernel, by decide +kernel⟩, List.mem_of_getElem? (i := 515) (by decide +kernel), List.mem_of_getElem? (i := 638) (by decide +kernel), List.mem_of_getElem? (i := 639) (by decide +kernel)⟩
theorem lw_p38 : lw_okq (⟨"StormroofModel", "isWinning", "(III)Z"⟩, 16) := ⟨⟨by decide +kernel, by decide +kernel⟩, List.mem_of_getElem? (i := 515) (by decide +kernel), List.mem_of_getElem? (i := 642) (by decide +kernel), List.mem_of_getElem? (i := 643) (by decide +kernel)⟩
theorem lw_p39 : lw_okq (⟨"StormroofModel", "isTurn", "(II)Z"⟩, 16) := ⟨⟨by decide +kernel, by decide +kernel⟩, List.mem_of_getElem? (i := 515) (by decide +kernel), List.mem_of_getElem? (i := 646) (by decide +kernel), List.mem_of_getElem? (i := 647) (by decide +kernel)⟩
theorem lw_p40 : lw_okq (⟨"StormroofModel", "canBuild", "(IIIIZ)Z"⟩, 16) := ⟨⟨by decide +kernel, by decide +kernel⟩, List.mem_of_getElem? (i := 515) (by decide +kernel), List.mem_of_getElem? (i := 650) (by decide +kernel), List.mem_of_getElem? (i := 651) (by decide +kernel)⟩
theorem lw_p41 : lw_okq (⟨"StormroofModel", "onTurnNow", "()I"⟩, 16) := ⟨⟨by decide +kernel, by decide +kernel⟩, List.mem_of_getElem? (i := 515) (by decide +kernel), List.mem_of_getElem? (i := 654) (by decide +kernel), List.mem_of_getElem? (i := 655) (by decide +kernel)⟩
theorem lw_p42 : lw_okq (⟨"StormroofModel", "countTurns", "()I"⟩, 16) := ⟨⟨by decide +kernel, by decide +kernel⟩, List.mem_of_getElem? (i := 515) (by decide +kernel), List.mem_of_getElem? (i := 686) (by decide +kernel), List.mem_of_getElem? (i := 687) (by decide +kernel)⟩
theorem lw_p43 : lw_okq (⟨"StormroofModel", "keep", "()V"⟩, 16) := ⟨⟨by decide +kernel, by decide +kernel⟩, List.mem_of_getElem? (i := 515) (by decide +kernel), List.mem_of_getElem? (i := 698) (by decide +kernel), List.mem_of_getElem? (i := 699) (by decide +kernel)⟩
theorem lw_p44 : lw_okq (⟨"StormroofModel", "act", "(II)V"⟩, 16) := ⟨⟨by decide +kernel, by decide +kernel⟩, List.mem_of_getElem? (i := 515) (by decide +kernel), List.mem_of_getElem? (i := 702) (by decide +kernel), List.mem_of_getElem? (i := 703) (by decide +kernel)⟩
theorem lw_p45 : lw_okq (⟨"StormroofModel", "canLook", "(I)Z"⟩, 16) := ⟨⟨by decide +kernel, by decide +kernel⟩, List.mem_of_getElem? (i := 515) (by decide +kernel), List.mem_of_getElem? (i := 714) (by decide +kernel), List.mem_of_getElem? (i := 715) (by decide +kernel)⟩
theorem lw_p46 : lw_okq (⟨"StormroofModel", "look", "(I)I"⟩, 16) := ⟨⟨by decide +kernel, by decide +kernel⟩, List.mem_of_getElem? (i := 515) (by decide +kernel), List.mem_of_getElem? (i := 718) (by decide +kernel), List.mem_of_getElem? (i := 719) (by decide +kernel)⟩
theorem lw_p47 : lw_okq (⟨"StormroofModel", "open", "(I)V"⟩, 16) := ⟨⟨by decide +kernel, by decide +kernel⟩, List.mem_of_getElem? (i := 515) (by decide +kernel), List.mem_of_getElem? (i := 722) (by decide +kernel), List.mem_of_getElem? (i := 723) (by decide +kernel)⟩
def lw_privs_3 : List (MethodName × Nat) := [(⟨"StormroofModel", "canCome", "(IIIZ)Z"⟩, 16), (⟨"StormroofModel", "isStep", "(III)Z"⟩, 16), (⟨"StormroofModel", "high", "(II)I"⟩, 16), (⟨"StormroofModel", "areBeside", "(II)Z"⟩, 16), (⟨"StormroofModel", "mayEnter", "(III)Z"⟩, 16), (⟨"StormroofModel", "beyond", "(II)I"⟩, 16), (⟨"StormroofModel", "isWinning", "(III)Z"⟩, 16), (⟨"StormroofModel", "isTurn", "(II)Z"⟩, 16), (⟨"StormroofModel", "canBuild", "(IIIIZ)Z"⟩, 16), (⟨"StormroofModel", "onTurnNow", "()I"⟩, 16), (⟨"StormroofModel", "countTurns", "()I"⟩, 16), (⟨"StormroofModel", "keep", "()V"⟩, 16), (⟨"StormroofModel", "act", "(II)V"⟩, 16), (⟨"StormroofModel", "canLook", "(I)Z"⟩, 16), (⟨"StormroofModel", "look", "(I)I"⟩, 16), (⟨"StormroofModel", "open", "(I)V"⟩, 16)]
theorem lw_r3 : ∀ q ∈ lw_privs_3, lw_okq q := List.forall_mem_cons.mpr ⟨lw_p32, List.forall_mem_cons.mpr ⟨lw_p33, List.forall_mem_cons.mpr ⟨lw_p34, List.forall_mem_cons.mpr ⟨lw_p35, List.forall_mem_cons.mpr ⟨lw_p36, List.forall_mem_cons.mpr ⟨lw_p37, List.forall_mem_cons.mpr ⟨lw_p38, List.forall_mem_cons.mpr ⟨lw_p39, List.forall_mem_cons.mpr ⟨lw_p40, List.forall_mem_cons.mpr ⟨lw_p41, List.forall_mem_cons.mpr ⟨lw_p42, List.forall_mem_cons.mpr ⟨lw_p43, List.forall_mem_cons.mpr ⟨lw_p44, List.forall_mem_cons.mpr ⟨lw_p45, List.forall_mem_cons.mpr ⟨lw_p46, List.forall_mem_cons.mpr ⟨lw_p47, fun _ h => absurd h List.not_mem_nil⟩⟩⟩⟩⟩⟩⟩⟩⟩⟩⟩⟩⟩⟩⟩⟩
theorem lw_p48 : lw_okq (⟨"StormroofModel", "take", "(II)V"⟩, 16) := ⟨⟨by decide +kernel, by decide +kernel⟩, List.mem_of_getElem? (i := 515) (by decide +kernel), List.mem_of_getElem? (i := 726) (by decide +kernel), List.mem_of_getElem? (i := 727) (by decide +kernel)⟩
theorem lw_p49 : lw_okq (⟨"StormroofModel", "copy", "(II)V"⟩, 16) := ⟨⟨by decide +kernel, by decide +kernel⟩, List.mem_of_getElem? (i := 515) (by decide +kernel), List.mem_of_getElem? (i := 730) (by decide +kernel), List.mem_of_getElem? (i := 731) (by decide +kernel)⟩
def lw_privs_4 : List (MethodName × Nat) := [(⟨"StormroofModel", "take", "(II)V"⟩, 16), (⟨"StormroofModel", "copy", "(II)V"⟩, 16)]
theorem lw_r4 : ∀ q ∈ lw_privs_4, lw_okq q := List.forall_mem_cons.mpr ⟨lw_p48, List.forall_mem_cons.mpr ⟨lw_p49, fun _ h => absurd h List.not_mem_nil⟩⟩
def lw_privs : List (MethodName × Nat) := lw_privs_1 ++ (lw_privs_2 ++ (lw_privs_3 ++ (lw_privs_4)))
def lw_tbl : List Cond := k2_sels lw_privs ++ tables_1
theorem lw_privs_ok : ∀ q ∈ lw_privs, lw_okq q := by
  show ∀ q ∈ lw_privs_1 ++ (lw_privs_2 ++ (lw_privs_3 ++ (lw_privs_4))), lw_okq q
  exact List.forall_mem_append.mpr ⟨lw_r1, List.forall_mem_append.mpr ⟨lw_r2, List.forall_mem_append.mpr ⟨lw_r3, lw_r4⟩⟩⟩
end
section
/-! ===== BEGIN words of one list among another's, by their places ===== -/
theorem goodIn_r {big : List Cond} (ws : List Cond) (ps : List Nat) (hp : ws = ps.filterMap (fun i => big[i]?)) (h : ws.all goodWord = true) : GoodIn big ws := by
  intro w hw
  have h1 := List.all_eq_true.mp h w hw
  rw [hp] at hw
  obtain ⟨i, -, hi⟩ := List.mem_filterMap.mp hw
  have hm : w ∈ big := by first | exact List.mem_of_getElem? hi | exact List.getElem?_mem hi
  exact ⟨hm, good_of_word h1⟩
theorem goodIn_app {big a b : List Cond} (ha : GoodIn big a) (hb : GoodIn big b) : GoodIn big (a ++ b) := fun w h => (List.mem_append.mp h).elim (ha w) (hb w)
theorem goodIn_ca {big a b : List Cond} {c : Cond} (ha : GoodIn big (c :: a)) (hb : GoodIn big b) : GoodIn big (c :: (a ++ b)) := fun w h => (List.mem_cons.mp h).elim (fun e => ha w (List.mem_cons.mpr (Or.inl e))) (fun h => (List.mem_append.mp h).elim (fun h => ha w (List.mem_cons.mpr (Or.inr h))) (hb w))
theorem goodIn_sub {big ws : List Cond} (hm : ∀ w ∈ ws, w ∈ big) (h : ws.all goodWord = true) : GoodIn big ws := fun w hw => ⟨hm w hw, good_of_word (List.all_eq_true.mp h w hw)⟩
/-! ===== END ===== -/

/-! ===== BEGIN exceptions that leave a method, and their catching by the caller (launches without stack traces) ===== -/
section VXA
/-! The laws vx_back, vx_callV, vx_callS, vx_callSW, vx_throw0, vx_throwS follow proofs of the library, with one case more: JvmDerived/Free/Laws.lean (Back.of_free), Shelf42/LK1.lean (callV, callS), Shelf/KitTraced.lean (throwNew0V, throwNewS). -/
/-- where a method has thrown q: the class by its name, the cell, what was written, the world -/
def vx_T (XC : String → State → State → Prop) (st : State) (q : Addr) (t : State) (mc ms : Nat) (free : Addr → Prop) : Prop :=
  ∃ (E : String) (ce : Cell) (L : List Loc), XC E st t ∧ t.heap[q]? = some ce ∧ ce.vm = .none ∧ st.vm.findClass E = some ce.cls ∧ st.WarmedH t.vm ∧ st.sameButNew ({ t with vm := st.vm } : State) L mc ms ∧ ∀ z ∈ L, free z.base
def vx_Q (Qc : Array Value → State → Outcome → State → Prop) (XC : String → State → State → Prop) (mc ms : Nat) (free : Addr → Prop) : Array Value → State → Outcome → State → Prop := fun a st o t =>
  (Qc a st o t ∧ ∃ L, FrameEnd st o t L mc ms ∧ ∀ q ∈ L, free q.base) ∨ ∃ q, o = .threw q ∧ vx_T XC st q t mc ms free
/-- a callee that returns or throws -/
def vx_Met (l : Launch) (y : MethodName) (ws : List Cond) (rm : Room) (Pc : Array Value → State → Prop) (Qc : Array Value → State → Outcome → State → Prop) (XC : String → State → State → Prop) (mc ms : Nat) (free : Addr → Prop) : Prop :=
  MetFree l y (headSpec ws rm) Pc (fun _ _ _ _ _ => True) (vx_Q Qc XC mc ms free)
def vx_Post (XC : String → State → State → Prop) (mc ms : Nat) (free : Addr → Prop) : Pt → Array Value → Addr → Pt → Prop := fun A a q B =>
  ∃ (g : JFrame) (mk : MethodId) (t : State) (L : List Loc) (E : String) (ce : Cell), B.U.heap = t.heap ∧ B.U.vm = t.vm ∧ XC E (A.U.calling g mk a) t ∧ t.heap[q]? = some ce ∧ ce.vm = .none ∧ A.U.vm.findClass E = some ce.cls ∧ B.locs = A.locs ++ L ∧ (∀ z ∈ L, free z.base) ∧ B.cells = A.cells + mc ∧ B.slots = A.slots + ms
def vx_Back (l : Launch) (R : Room) (p : Program) (e : Env) (below : List Frame) (s : State) (sargs : Array Value) (y : MethodName) (len W9 : Nat)
    (Pre : Pt → Array Value → Prop) (Post : Pt → Array Value → Option Value → Pt → Prop) (PostX : Pt → Array Value → Addr → Pt → Prop) : Prop :=
  ∀ (m : MethodId) (meth : Method) (c : Code) (A : Pt) (g : JFrame) (ig : Instr) (mk : MethodId) (a : Array Value),
    Stand p l e R s m sargs below meth c A.U A.locs A.cells A.slots → g.method = m → g.locals.size = c.maxLocals → decode c.code g.pc = .ok (ig, len) →
    2 * g.monitorRoom + (g.stack.map fun v => v.category).sum ≤ W9 → A.U.methodNamed? y = some mk → Pre A a →
    (∃ (v : Option Value) (B : Pt), Stand p l e R s m sargs below meth c B.U B.locs B.cells B.slots ∧ Post A a v B ∧
      Steps p.tables e below (doInvoke e (A.U.setTop g) [] mk a).1 (B.U.setTop { g with pc := g.pc + len, stack := v.toList ++ g.stack })) ∨
    (∃ (q : Addr) (B : Pt), Stand p l e R s m sargs below meth c B.U B.locs B.cells B.slots ∧ PostX A a q B ∧
      Steps p.tables e below (doInvoke e (A.U.setTop g) [] mk a).1 ((B.U.setTop g).pushFrame (.throwing q)))
section Payer
variable {l : Launch} {R : Room} {p : Program} {e : Env} {below : List Frame} {s : State} {sargs : Array Value} {y : MethodName} {len W9 : Nat}
theorem vx_back {ws : List Cond} {rm : Room} {Pc : Array Value → State → Prop} {Qc : Array Value → State → Outcome → State → Prop} {XC : String → State → State → Prop} {mc ms : Nat} {free : Addr → Prop} {bytes : ByteArray} {maxL : Nat} {ret : Option FieldType}
    (hM : vx_Met l y ws rm Pc Qc XC mc ms free) (hblind : FrameBlind Pc) (hrc : rm.cells = mc) (hrs : rm.slots = ms)
    (hframes : rm.frames + 1 ≤ R.frames) (hlocals : W9 + (maxL + 11) + rm.locals ≤ R.locals)
    (hws : ∀ w ∈ ws, ∀ a' U, s.WarmedH U.vm → w.before a' U = true) (hcode : Cond.code y bytes maxL ret ∈ ws) (hinit : ∀ a' U, s.WarmedH U.vm → (Cond.initialized y.cls).before a' U = true) :
    vx_Back l R p e below s sargs y len W9 (PreOf R mc ms Pc) (PostOf Qc mc ms free) (vx_Post XC mc ms free) := by
  intro m meth c A g ig mk a X hg hsize hdg hW hn hp
  have h1 : (headSpec ws rm).pre.before a A.U = true := atoms_intro fun w hw => hws w hw _ _ X.warmed
  have h2 : (Cond.code y bytes maxL ret).before a A.U = true := hws _ hcode _ _ X.warmed
  have h3 : (Cond.initialized y.cls).before a A.U = true := hinit _ _ X.warmed
  have h4 : A.cells + (headSpec ws rm).room.cells ≤ R.cells := by rw [show (headSpec ws rm).room.cells = mc from hrc]; exact hp.1
  have h5 : A.slots + (headSpec ws rm).room.slots ≤ R.slots := by rw [show (headSpec ws rm).room.slots = ms from hrs]; exact hp.2.1
  have hPc : Pc a (A.U.calling g mk a) := hblind _ _ _ _ hp.2.2
  obtain ⟨U, Ls, c0, s0⟩ := A
  dsimp only [Pt.U, Pt.locs, Pt.cells, Pt.slots] at h1 h2 h3 h4 h5 X hn hPc ⊢
  obtain ⟨methY, cY, hmY, hcY, -, hlY, -, -, -, -⟩ := Cond.code_spec hn h2
  obtain ⟨kY, hkY, -⟩ := className_of_methodNamed hn
  have hinitY : kY.init = .initialized := Cond.initialized_spec (findClass_of_methodNamed hn) hkY h3
  have h : At U g.method c below := by rw [hg]; exact X.here
  have hlocals9 : W9 + (maxL + 11) + (headSpec ws rm).room.locals ≤ R.locals := hlocals
  have happ : (headSpec ws rm).appliesLoose y e.platform (U.calling g mk a) = true :=
    Spec.appliesLoose_calling (g := g) h hdg hn hkY hinitY
      (X.room_calling (g := g) (R' := (headSpec ws rm).room) hsize hmY hcY hframes (by rw [hlY]; omega) h4 h5) h1
  obtain ⟨mid, hmid⟩ := h.above
  have hfr : (U.setTop g).frames = (.java g :: mid) ++ below := by rw [State.frames_setTop' g h.top, hmid]; rfl
  obtain ⟨o, s₂, hsteps, -, hend, hq⟩ := Steps.callFree hM p X.admits X.cas X.clock (acts := []) hfr happ hPc trivial
  have hq' : vx_Q Qc XC mc ms free a (U.calling g mk a) o s₂ := hq
  rw [State.frames_setTop' g h.top] at hend
  obtain ⟨g₀, hg0⟩ := Option.isSome_iff_exists.mp h.top
  obtain ⟨r, hr⟩ := State.topJava?_eq_some.mp hg0
  have hr' : (({ U with heap := s₂.heap, slotsUsed := s₂.slotsUsed } : State).setVm s₂.vm).frames = .java g₀ :: r := hr
  rcases hq' with ⟨hqc, L, hfe, hL⟩ | ⟨q, rfl, E, ce, L, hx, hce, hcv, hcl, hW₂, hsm, hL⟩
  · obtain ⟨⟨v, rfl⟩, hW₂, e2, q2, q3, q4, q5, q6⟩ := id hfe
    have e3 : s₂ = ({ (U.calling g mk a).setFrames s₂.frames with heap := s₂.heap, slotsUsed := s₂.slotsUsed } : State).setVm s₂.vm := by
      have : s₂ = ({ s₂ with vm := (U.calling g mk a).vm } : State).setVm s₂.vm := rfl
      rw [e2] at this
      exact this
    obtain ⟨c₂, i₂, len₂, hc₂, hd₂, hf₂⟩ := hend
    have hW' : U.WarmedH s₂.vm := hW₂
    have hcc : c₂ = c := by
      have h1 : s₂.code? g.method = U.code? g.method := by
        rw [State.code?_eq, State.code?_eq, hW'.alike.method?]
      exact Option.some.inj (hc₂.symm.trans (h1.trans h.code))
    subst hcc
    have hlen : len₂ = len := by rw [hdg] at hd₂; cases hd₂; rfl
    subst hlen
    have hs₂ : s₂ = (({ U with heap := s₂.heap, slotsUsed := s₂.slotsUsed } : State).setVm s₂.vm).setTop { g with pc := g.pc + len₂, stack := v.toList ++ g.stack } := by
      refine e3.trans ?_
      rw [hf₂, State.calling_eq h.top, State.setFrames_setFrames, State.setTop_of_frames _ hr', hr]
      rfl
    have hsame : U.sameButNew ({ U with heap := s₂.heap, slotsUsed := s₂.slotsUsed } : State) L mc ms := by
      refine ⟨?_, q2, q3, q4, q5, q6⟩
      obtain ⟨t, ht, -⟩ := State.frames_cons hr
      show ({ U with heap := s₂.heap, slotsUsed := s₂.slotsUsed } : State) = { U.setFrames U.frames with heap := s₂.heap, slotsUsed := s₂.slotsUsed }
      rw [State.setFrames_self ht]
    subst hg
    refine Or.inl ⟨v, ⟨(({ U with heap := s₂.heap, slotsUsed := s₂.slotsUsed } : State).setVm s₂.vm), Ls ++ L, c0 + mc, s0 + ms⟩,
      ⟨X.admits, X.cas, X.clock, X.frames, X.room, X.hears, X.method, X.code, (X.here.setHeapUsed s₂.heap s₂.slotsUsed).setVm hW'.alike, X.tail, State.WarmedH.trans X.warmed hW', X.limits, X.bytes, X.same.trans (hsame.setVm s.vm)⟩,
      ⟨g, mk, s₂, L, rfl, rfl, hqc, rfl, hL, rfl, rfl⟩, ?_⟩
    show Steps p.tables e below _ ((({ U with heap := s₂.heap, slotsUsed := s₂.slotsUsed } : State).setVm s₂.vm).setTop { g with pc := g.pc + len₂, stack := v.toList ++ g.stack })
    rw [← hs₂]
    exact hsteps
  · obtain ⟨e2, q2, q3, q4, q5, q6⟩ := id hsm
    have e3 : s₂ = ({ (U.calling g mk a).setFrames s₂.frames with heap := s₂.heap, slotsUsed := s₂.slotsUsed } : State).setVm s₂.vm := by
      have : s₂ = ({ s₂ with vm := (U.calling g mk a).vm } : State).setVm s₂.vm := rfl
      rw [e2] at this
      exact this
    have hf₂ : s₂.frames = .throwing q :: .java g :: U.frames.tail := hend
    have hW' : U.WarmedH s₂.vm := hW₂
    have hs₂ : s₂ = ((({ U with heap := s₂.heap, slotsUsed := s₂.slotsUsed } : State).setVm s₂.vm).setTop g).pushFrame (.throwing q) := by
      refine e3.trans ?_
      rw [hf₂, State.calling_eq h.top, State.setFrames_setFrames, State.pushFrame, State.frames_setTop _ hr', State.setTop_of_frames _ hr', State.setFrames_setFrames, hr]
      rfl
    have hsame : U.sameButNew ({ U with heap := s₂.heap, slotsUsed := s₂.slotsUsed } : State) L mc ms := by
      refine ⟨?_, q2, q3, q4, q5, q6⟩
      obtain ⟨t, ht, -⟩ := State.frames_cons hr
      show ({ U with heap := s₂.heap, slotsUsed := s₂.slotsUsed } : State) = { U.setFrames U.frames with heap := s₂.heap, slotsUsed := s₂.slotsUsed }
      rw [State.setFrames_self ht]
    subst hg
    refine Or.inr ⟨q, ⟨(({ U with heap := s₂.heap, slotsUsed := s₂.slotsUsed } : State).setVm s₂.vm), Ls ++ L, c0 + mc, s0 + ms⟩,
      ⟨X.admits, X.cas, X.clock, X.frames, X.room, X.hears, X.method, X.code, (X.here.setHeapUsed s₂.heap s₂.slotsUsed).setVm hW'.alike, X.tail, State.WarmedH.trans X.warmed hW', X.limits, X.bytes, X.same.trans (hsame.setVm s.vm)⟩,
      ⟨g, mk, s₂, L, E, ce, rfl, rfl, hx, hce, hcv, hcl, rfl, hL, rfl, rfl⟩, ?_⟩
    show Steps p.tables e below _ (((({ U with heap := s₂.heap, slotsUsed := s₂.slotsUsed } : State).setVm s₂.vm).setTop g).pushFrame (.throwing q))
    rw [← hs₂]
    exact hsteps
end Payer
section Calls
variable {p : Program} {l : Launch} {e : Env} {R : Room} {s : State} {m : MethodId} {args : Array Value} {below : List Frame} {meth : Method} {c : Code} {T : State} {locs : List Loc} {cells slots : Nat}
theorem vx_callV (X : Stand p l e R s m args below meth c T locs cells slots) (hexec : p.tables.exec = Jvm.exec) {own C : String} {index : Nat} {y : MethodName} {bytes : ByteArray} {maxL : Nat} {ret : Option FieldType}
    (hown : s.vm.findClass own = some m.cls) (hlink : (Cond.methodLink own index y).before args s = true) (hinst : (Cond.instanceMethod y).before args s = true) (hsel : (Cond.selects C y y).before args s = true)
    (hcode : (Cond.code y bytes maxL ret).before args s = true) (hy : y.cls ≠ "java/lang/invoke/MethodHandle" ∧ y.cls ≠ "java/lang/invoke/VarHandle")
    {W9 : Nat} {Pre : Pt → Array Value → Prop} {Post : Pt → Array Value → Option Value → Pt → Prop} {PostX : Pt → Array Value → Addr → Pt → Prop} (hK : vx_Back l R p e below s args y 3 W9 Pre Post PostX)
    {b : Addr} {cellB : Cell} (hcell : T.heap[b]? = some cellB) (hobj : cellB.vm.isStatics = false) (hcls : s.vm.findClass C = some cellB.cls)
    {g : JFrame} (hg : g.method = m) (hsize : g.locals.size = c.maxLocals) {argsL rest : List Value} (hlen : ∀ sig, parseMethodDescriptor y.desc = some sig → argsL.length = sig.parameters.length)
    (hstack : g.stack = argsL.reverse ++ .ref b :: rest) (hW : 2 * g.monitorRoom + (rest.map fun v => v.category).sum ≤ W9) (hdg : decode c.code g.pc = .ok (.invokevirtual index, 3))
    (hpre : ∀ vm₁, s.WarmedH vm₁ → Pre ⟨T.setVm vm₁, locs, cells, slots⟩ (Value.ref b :: argsL).toArray) :
    (∃ (v : Option Value) (vm₁ : Vm) (B : Pt), s.WarmedH vm₁ ∧ Stand p l e R s m args below meth c B.U B.locs B.cells B.slots ∧ Post ⟨T.setVm vm₁, locs, cells, slots⟩ (Value.ref b :: argsL).toArray v B ∧
      ∀ target, Steps p.tables e below (B.U.setTop { g with pc := g.pc + 3, stack := v.toList ++ rest }) target → Steps p.tables e below (T.setTop g) target) ∨
    (∃ (q : Addr) (vm₁ : Vm) (B : Pt), s.WarmedH vm₁ ∧ Stand p l e R s m args below meth c B.U B.locs B.cells B.slots ∧ PostX ⟨T.setVm vm₁, locs, cells, slots⟩ (Value.ref b :: argsL).toArray q B ∧
      Steps p.tables e below (T.setTop g) ((B.U.setTop { g with stack := rest }).pushFrame (.throwing q))) := by
  obtain ⟨mk, methM, hnamed, hmethM, hstM, habM⟩ := Cond.instanceMethod_spec hinst
  obtain ⟨methM', cM, hmethM', -, -, -, -, -, -, hsigM⟩ := Cond.code_spec hnamed hcode
  cases hmethM.symm.trans hmethM'
  obtain ⟨c2, r2, m2, q1, q2, q3, q4, kP, hkP, hkPi⟩ := Cond.selects_spec hsel
  cases hcls.symm.trans q1
  cases (State.methodFound?_of_named hnamed hy).symm.trans q2
  cases hnamed.symm.trans q3
  have hselP : selectMethod e.platform s.vm cellB.cls mk = .method mk := by rw [Launch.admits_selectMethod X.admits]; exact q4
  obtain ⟨vm₁, X₁, hstep₁⟩ := X.invokevirtual hexec hown hlink hnamed hmethM hstM hkP hkPi hy (a := b) (cell := cellB) hcell
    (fun z h => by rw [h] at hobj; cases hobj) hselP hmethM habM hkP hkPi (g := g) hg (argsL := argsL) (rest := rest) (hlen _ hsigM) hstack hdg
  rcases hK m meth c ⟨T.setVm vm₁, locs, cells, slots⟩ { g with stack := rest } (.invokevirtual index) mk (Value.ref b :: argsL).toArray X₁ hg hsize hdg hW (X₁.named hnamed) (hpre vm₁ X₁.warmed) with ⟨v, B, X', hpost, hsteps⟩ | ⟨q, B, X', hpost, hsteps⟩
  · exact Or.inl ⟨v, vm₁, B, X₁.warmed, X', hpost, fun target h => hstep₁ _ fun acts => by rw [doInvoke_state]; exact hsteps.trans h⟩
  · exact Or.inr ⟨q, vm₁, B, X₁.warmed, X', hpost, hstep₁ _ fun acts => by rw [doInvoke_state]; exact hsteps⟩
theorem vx_callS (X : Stand p l e R s m args below meth c T locs cells slots) (hexec : p.tables.exec = Jvm.exec) {own : String} {index : Nat} {y : MethodName} {bytes : ByteArray} {maxL : Nat} {ret : Option FieldType}
    (hown : s.vm.findClass own = some m.cls) (hlink : (Cond.methodLink own index y).before args s = true) (hstat : (Cond.static y).before args s = true) (hinit : (Cond.initialized y.cls).before args s = true)
    (hcode : (Cond.code y bytes maxL ret).before args s = true) (hy : y.cls ≠ "java/lang/invoke/MethodHandle" ∧ y.cls ≠ "java/lang/invoke/VarHandle")
    {W9 : Nat} {Pre : Pt → Array Value → Prop} {Post : Pt → Array Value → Option Value → Pt → Prop} {PostX : Pt → Array Value → Addr → Pt → Prop} (hK : vx_Back l R p e below s args y 3 W9 Pre Post PostX)
    {g : JFrame} (hg : g.method = m) (hsize : g.locals.size = c.maxLocals) {argsL rest : List Value} (hlen : ∀ sig, parseMethodDescriptor y.desc = some sig → argsL.length = sig.parameters.length)
    (hstack : g.stack = argsL.reverse ++ rest) (hW : 2 * g.monitorRoom + (rest.map fun v => v.category).sum ≤ W9) (hdg : decode c.code g.pc = .ok (.invokestatic index, 3))
    (hpre : ∀ vm₁, s.WarmedH vm₁ → Pre ⟨T.setVm vm₁, locs, cells, slots⟩ argsL.toArray) :
    (∃ (v : Option Value) (vm₁ : Vm) (B : Pt), s.WarmedH vm₁ ∧ Stand p l e R s m args below meth c B.U B.locs B.cells B.slots ∧ Post ⟨T.setVm vm₁, locs, cells, slots⟩ argsL.toArray v B ∧
      ∀ target, Steps p.tables e below (B.U.setTop { g with pc := g.pc + 3, stack := v.toList ++ rest }) target → Steps p.tables e below (T.setTop g) target) ∨
    (∃ (q : Addr) (vm₁ : Vm) (B : Pt), s.WarmedH vm₁ ∧ Stand p l e R s m args below meth c B.U B.locs B.cells B.slots ∧ PostX ⟨T.setVm vm₁, locs, cells, slots⟩ argsL.toArray q B ∧
      Steps p.tables e below (T.setTop g) ((B.U.setTop { g with stack := rest }).pushFrame (.throwing q))) := by
  obtain ⟨mk, hnamed⟩ := Cond.code_named hcode
  obtain ⟨methM, cM, hmethM, -, -, -, -, -, -, hsigM⟩ := Cond.code_spec hnamed hcode
  have hstatic : methM.isStatic = true := Cond.static_spec hnamed hmethM hstat
  obtain ⟨kP, hkP, -⟩ := className_of_methodNamed hnamed
  have hinitP : kP.init = .initialized := Cond.initialized_spec (findClass_of_methodNamed hnamed) hkP hinit
  obtain ⟨vm₁, X₁, hstep₁⟩ := X.invokestatic hexec hown hlink hnamed hmethM hstatic hkP hinitP hy (g := g) hg (argsL := argsL) (rest := rest) (hlen _ hsigM) hstack hdg
  rcases hK m meth c ⟨T.setVm vm₁, locs, cells, slots⟩ { g with stack := rest } (.invokestatic index) mk argsL.toArray X₁ hg hsize hdg hW (X₁.named hnamed) (hpre vm₁ X₁.warmed) with ⟨v, B, X', hpost, hsteps⟩ | ⟨q, B, X', hpost, hsteps⟩
  · exact Or.inl ⟨v, vm₁, B, X₁.warmed, X', hpost, fun target h => hstep₁ _ fun acts => by rw [doInvoke_state]; exact hsteps.trans h⟩
  · exact Or.inr ⟨q, vm₁, B, X₁.warmed, X', hpost, hstep₁ _ fun acts => by rw [doInvoke_state]; exact hsteps⟩
end Calls
theorem vx_cls {s : State} {T : State} {vm₁ : Vm} {E : String} {k : ClassId} (hW : s.WarmedH vm₁) (h : (T.setVm vm₁).vm.findClass E = some k) : s.vm.findClass E = some k := by
  have h1 : vm₁.findClass E = some k := h
  rw [hW.alike.findClass] at h1
  exact h1
/-- the method's frame g, with q thrown over it -/
def vx_W (p : Program) (l : Launch) (e : Env) (R : Room) (s : State) (m : MethodId) (args : Array Value) (below : List Frame) (meth : Method) (c : Code) (H : Heap) (locs : List Loc) (cells slots : Nat) (Q : State → Prop) (g : JFrame) (q : Addr) : Prop :=
  ∀ T : State, T.heap = H → Stand p l e R s m args below meth c T locs cells slots → ∃ t, Steps p.tables e below ((T.setTop g).pushFrame (.throwing q)) t ∧ Q t
def vx_Run (p : Program) (l : Launch) (e : Env) (R : Room) (s : State) (m : MethodId) (args : Array Value) (below : List Frame) (meth : Method) (c : Code) (H : Heap) (locs : List Loc) (cells slots mc ms : Nat) (g : JFrame) (rest : List Value) (Qa : State → Outcome → State → Prop) (XC : String → State → State → Prop) (free : Addr → Prop) : Prop :=
  ∀ T : State, T.heap = H → Stand p l e R s m args below meth c T locs cells slots →
    (∃ (v : Option Value) (st₀ t T' : State) (L : List Loc), st₀.heap = H ∧ Stand p l e R s m args below meth c T' (locs ++ L) (cells + mc) (slots + ms) ∧ (∀ q ∈ L, free q.base) ∧ T'.heap = t.heap ∧ T'.vm = t.vm ∧ Qa st₀ (.returned v) t ∧
      Goes p e below T g T' { g with pc := g.pc + 3, stack := v.toList ++ rest }) ∨
    (∃ (q : Addr) (st₀ t T' : State) (L : List Loc) (E : String) (ce : Cell), st₀.heap = H ∧ Stand p l e R s m args below meth c T' (locs ++ L) (cells + mc) (slots + ms) ∧ (∀ z ∈ L, free z.base) ∧ T'.heap = t.heap ∧ T'.vm = t.vm ∧ XC E st₀ t ∧ t.heap[q]? = some ce ∧ ce.vm = .none ∧ s.vm.findClass E = some ce.cls ∧
      Steps p.tables e below (T.setTop g) ((T'.setTop { g with stack := rest }).pushFrame (.throwing q)))
def vx_X {S : Type} (px : S → Prop) (B : String → S → State → Prop) (A : Nat → Prop) : String → State → State → Prop := fun E st t => ∃ u : S, px u ∧ B E u t ∧ va_F A st t
section Runs
variable {p : Program} {l : Launch} {e : Env} {R : Room} {s : State} {m : MethodId} {args : Array Value} {below : List Frame} {meth : Method} {c : Code} {H : Heap} {locs : List Loc} {cells slots : Nat}
variable {y : MethodName} {bytes cc : ByteArray} {maxL nL mc ms n index : Nat} {ret : Option FieldType} {ws : List Cond} {rm : Room} {Pc : Array Value → State → Prop} {Qc : Array Value → State → Outcome → State → Prop} {XC : String → State → State → Prop} {free : Addr → Prop} {Ts : List Cond} {own C : String} {b : Addr} {As rest : List Value} {g : JFrame}
theorem vx_callBack (cb : CallB R s args own index y bytes maxL ret ws rm mc ms n) (hM : vx_Met l y ws rm Pc Qc XC mc ms free) (hbl : FrameBlind Pc) : vx_Back l R p e below s args y 3 8 (PreOf R mc ms Pc) (PostOf Qc mc ms free) (vx_Post XC mc ms free) := by
  obtain ⟨hrc, hrs, hfr, hlo, hws, hcw, -, hini, -⟩ := cb
  exact vx_back (bytes := bytes) (maxL := maxL) (ret := ret) hM hbl hrc hrs hfr hlo hws hcw (fun a' U hW => word_at hW (Or.inl (by first | rfl | simp [Cond.onTables, Cond.keeps, Cond.steady])) hini)
theorem vx_runV (S : CallFix p m c cc nL s args Ts own) (hM : vx_Met l y ws rm Pc Qc XC mc ms free) (cw : CallW R s args own C index y bytes maxL ret ws rm mc ms n) (hp : PreV s H C b Pc As)
    (hg : g.method = m) (hn : As.length = n) (hsize : g.locals.size = nL) (hstack : g.stack = As.reverse ++ .ref b :: rest) (hW : 2 * g.monitorRoom + (rest.map fun v => v.category).sum ≤ 8) (hdg : decode cc g.pc = .ok (.invokevirtual index, 3)) (hf : cells + mc ≤ R.cells ∧ slots + ms ≤ R.slots) :
    vx_Run p l e R s m args below meth c H locs cells slots mc ms g rest (Qc (Value.ref b :: As).toArray) XC free := by
  have hK : vx_Back l R p e below s args y 3 8 (PreOf R mc ms Pc) (PostOf Qc mc ms free) (vx_Post XC mc ms free) := vx_callBack cw.1 hM hp.1
  obtain ⟨⟨-, -, -, -, -, -, hcode, -, hy, hlen, hl⟩, hin, hse⟩ := cw
  obtain ⟨hx, hb, hml, ho, -⟩ := S
  obtain ⟨-, ⟨cellB, hcB, hoB, hclB⟩, hPc⟩ := hp
  intro T hT X
  rcases vx_callV X hx (C := C) (bytes := bytes) (maxL := maxL) (ret := ret) ho hl hin hse hcode hy hK (by rw [hT]; exact hcB) hoB hclB hg (hsize.trans hml.symm) (argsL := As) (rest := rest) (fun sig h => hn.trans (hlen sig h)) hstack hW (by rw [hb]; exact hdg)
    (fun vm₁ hW₁ => ⟨hf.1, hf.2, hPc (T.setVm vm₁) hT hW₁⟩) with ⟨v, vm₁, ⟨U', l2, c2, s2⟩, hW₁, X', ⟨g', mk, t, L, e1, e2, hq, h1, hL, h2, h3⟩, st⟩ | ⟨q, vm₁, ⟨U', l2, c2, s2⟩, hW₁, X', ⟨g', mk, t, L, E, ce, e1, e2, hq, hce, hcv, hcl, h1, hL, h2, h3⟩, st⟩
  · dsimp only [Pt.U, Pt.locs, Pt.cells, Pt.slots] at X' e1 e2 h1 h2 h3 st
    subst h1; subst h2; subst h3
    exact Or.inl ⟨v, (T.setVm vm₁).calling g' mk (Value.ref b :: As).toArray, t, U', L, hT, X', hL, e1, e2, hq, st⟩
  · dsimp only [Pt.U, Pt.locs, Pt.cells, Pt.slots] at X' e1 e2 h1 h2 h3 st hcl
    subst h1; subst h2; subst h3
    exact Or.inr ⟨q, (T.setVm vm₁).calling g' mk (Value.ref b :: As).toArray, t, U', L, E, ce, hT, X', hL, e1, e2, hq, hce, hcv, vx_cls hW₁ hcl, st⟩
theorem vx_runS (S : CallFix p m c cc nL s args Ts own) (hM : vx_Met l y ws rm Pc Qc XC mc ms free) (cw : CallB R s args own index y bytes maxL ret ws rm mc ms n ∧ (Cond.static y).before args s = true) (hp : PreS s H Pc As)
    (hg : g.method = m) (hn : As.length = n) (hsize : g.locals.size = nL) (hstack : g.stack = As.reverse ++ rest) (hW : 2 * g.monitorRoom + (rest.map fun v => v.category).sum ≤ 8) (hdg : decode cc g.pc = .ok (.invokestatic index, 3)) (hf : cells + mc ≤ R.cells ∧ slots + ms ≤ R.slots) :
    vx_Run p l e R s m args below meth c H locs cells slots mc ms g rest (Qc As.toArray) XC free := by
  have hK : vx_Back l R p e below s args y 3 8 (PreOf R mc ms Pc) (PostOf Qc mc ms free) (vx_Post XC mc ms free) := vx_callBack cw.1 hM hp.1
  obtain ⟨⟨-, -, -, -, -, -, hcode, hini, hy, hlen, hl⟩, hstt⟩ := cw
  obtain ⟨hx, hb, hml, ho, -⟩ := S
  intro T hT X
  rcases vx_callS X hx (bytes := bytes) (maxL := maxL) (ret := ret) ho hl hstt hini hcode hy hK hg (hsize.trans hml.symm) (argsL := As) (rest := rest) (fun sig h => hn.trans (hlen sig h)) hstack hW (by rw [hb]; exact hdg)
    (fun vm₁ hW₁ => ⟨hf.1, hf.2, hp.2 (T.setVm vm₁) hT hW₁⟩) with ⟨v, vm₁, ⟨U', l2, c2, s2⟩, hW₁, X', ⟨g', mk, t, L, e1, e2, hq, h1, hL, h2, h3⟩, st⟩ | ⟨q, vm₁, ⟨U', l2, c2, s2⟩, hW₁, X', ⟨g', mk, t, L, E, ce, e1, e2, hq, hce, hcv, hcl, h1, hL, h2, h3⟩, st⟩
  · dsimp only [Pt.U, Pt.locs, Pt.cells, Pt.slots] at X' e1 e2 h1 h2 h3 st
    subst h1; subst h2; subst h3
    exact Or.inl ⟨v, (T.setVm vm₁).calling g' mk As.toArray, t, U', L, hT, X', hL, e1, e2, hq, st⟩
  · dsimp only [Pt.U, Pt.locs, Pt.cells, Pt.slots] at X' e1 e2 h1 h2 h3 st hcl
    subst h1; subst h2; subst h3
    exact Or.inr ⟨q, (T.setVm vm₁).calling g' mk As.toArray, t, U', L, E, ce, hT, X', hL, e1, e2, hq, hce, hcv, vx_cls hW₁ hcl, st⟩
end Runs
section Rows
variable {p : Program} {l : Launch} {e : Env} {R : Room} {s : State} {m : MethodId} {args : Array Value} {below : List Frame} {meth : Method} {c : Code} {H : Heap} {locs : List Loc} {cells slots : Nat} {Q : State → Prop}
variable {mc ms : Nat} {free : Addr → Prop} {A0 A1 : Nat → Prop} {H0 : Heap} {a : Array Value} {pc : Nat} {ls : Array Slot} {st0 rest : List Value}
theorem vx_keep {st₀ t T' : State} {L : List Loc} (h0 : st₀.heap = H) (e1 : T'.heap = t.heap) (hS : va_S A0 H0 H locs) (hA : ∀ q, q < H.size → A1 q → A0 q) (hf : ∀ q, free q → A0 q) (hL : ∀ q ∈ L, free q.base) (hF : va_F A1 st₀ t) :
    H.size ≤ T'.heap.size ∧ (∀ q : Nat, q < H.size → ¬ A1 q → T'.heap[q]? = H[q]?) ∧ va_S A0 H0 T'.heap (locs ++ L) := by
  obtain ⟨hz, hk⟩ := hF
  rw [h0] at hz hk
  exact ⟨by rw [e1]; exact hz, fun q h1 h2 => by rw [e1]; exact hk q h1 h2,
    ⟨Nat.le_trans hS.1 (by rw [e1]; exact hz), fun q h1 h2 => by rw [e1, hk q (Nat.lt_of_lt_of_le h1 hS.1) (fun z => h2 (hA q (Nat.lt_of_lt_of_le h1 hS.1) z))]; exact hS.2.1 q h1 h2, fun q hq => by
      rcases List.mem_append.mp hq with h | h
      · exact hS.2.2 q h
      · exact hf _ (hL q h)⟩⟩
theorem vx_calli {S SX : Type} {post : Int32 → S → Prop} {px : SX → Prop} {B : S → State → Prop} {BX : String → SX → State → Prop} {AX : Nat → Prop} (hr : vx_Run p l e R s m args below meth c H locs cells slots mc ms (F0 m pc ls st0) rest (va_Qi post B A1 a) (vx_X px BX AX) free) (hS : va_S A0 H0 H locs) (hA : ∀ q, q < H.size → A1 q → A0 q) (hf : ∀ q, free q → A0 q) (hAX : ∀ q, q < H.size → AX q → A0 q)
    (kx : ∀ (E : String) (ce : Cell) (q9 : Addr) (u : SX) (t : State) (H1 : Heap) (locs1 : List Loc), t.heap = H1 → s.vm.Alike t.vm → px u → BX E u t → H.size ≤ H1.size → (∀ q : Nat, q < H.size → ¬ AX q → H1[q]? = H[q]?) → va_S A0 H0 H1 locs1 → H1[q9]? = some ce → ce.vm = .none → s.vm.findClass E = some ce.cls → vx_W p l e R s m args below meth c H1 locs1 (cells + mc) (slots + ms) Q (F0 m pc ls rest) q9)
    (kk : ∀ (r : Int32) (u : S) (t : State) (H1 : Heap) (locs1 : List Loc), t.heap = H1 → s.vm.Alike t.vm → post r u → B u t → H.size ≤ H1.size → (∀ q : Nat, q < H.size → ¬ A1 q → H1[q]? = H[q]?) → va_S A0 H0 H1 locs1 → W p l e R s m args below meth c H1 locs1 (cells + mc) (slots + ms) Q (F0 m (pc + 3) ls (.int r :: rest))) : W p l e R s m args below meth c H locs cells slots Q (F0 m pc ls st0) := by
  intro T hT X
  rcases hr T hT X with ⟨v, st₀, t, T', L, h0, X', hL, e1, e2, ⟨⟨r, u, hv, hp, hb⟩, hF⟩, st⟩ | ⟨q, st₀, t, T', L, E, ce, h0, X', hL, e1, e2, ⟨u, hp, hb, hF⟩, hce, hcv, hcl, st⟩
  · cases hv
    obtain ⟨k1, k2, k3⟩ := vx_keep h0 e1 hS hA hf hL hF
    obtain ⟨t2, a1, b1⟩ := kk r u t T'.heap (locs ++ L) e1.symm (by rw [← e2]; exact X'.warmed.alike) hp hb k1 k2 k3 T' rfl X'
    exact ⟨t2, st t2 a1, b1⟩
  · obtain ⟨k1, k2, k3⟩ := vx_keep h0 e1 hS hAX hf hL hF
    obtain ⟨t2, a1, b1⟩ := kx E ce q u t T'.heap (locs ++ L) e1.symm (by rw [← e2]; exact X'.warmed.alike) hp hb k1 k2 k3 (by rw [e1]; exact hce) hcv hcl T' rfl X'
    exact ⟨t2, st.trans a1, b1⟩
theorem vx_calll {S SX : Type} {post : Int64 → S → Prop} {px : SX → Prop} {B : S → State → Prop} {BX : String → SX → State → Prop} {AX : Nat → Prop} (hr : vx_Run p l e R s m args below meth c H locs cells slots mc ms (F0 m pc ls st0) rest (va_Ql post B A1 a) (vx_X px BX AX) free) (hS : va_S A0 H0 H locs) (hA : ∀ q, q < H.size → A1 q → A0 q) (hf : ∀ q, free q → A0 q) (hAX : ∀ q, q < H.size → AX q → A0 q)
    (kx : ∀ (E : String) (ce : Cell) (q9 : Addr) (u : SX) (t : State) (H1 : Heap) (locs1 : List Loc), t.heap = H1 → s.vm.Alike t.vm → px u → BX E u t → H.size ≤ H1.size → (∀ q : Nat, q < H.size → ¬ AX q → H1[q]? = H[q]?) → va_S A0 H0 H1 locs1 → H1[q9]? = some ce → ce.vm = .none → s.vm.findClass E = some ce.cls → vx_W p l e R s m args below meth c H1 locs1 (cells + mc) (slots + ms) Q (F0 m pc ls rest) q9)
    (kk : ∀ (r : Int64) (u : S) (t : State) (H1 : Heap) (locs1 : List Loc), t.heap = H1 → s.vm.Alike t.vm → post r u → B u t → H.size ≤ H1.size → (∀ q : Nat, q < H.size → ¬ A1 q → H1[q]? = H[q]?) → va_S A0 H0 H1 locs1 → W p l e R s m args below meth c H1 locs1 (cells + mc) (slots + ms) Q (F0 m (pc + 3) ls (.long r :: rest))) : W p l e R s m args below meth c H locs cells slots Q (F0 m pc ls st0) := by
  intro T hT X
  rcases hr T hT X with ⟨v, st₀, t, T', L, h0, X', hL, e1, e2, ⟨⟨r, u, hv, hp, hb⟩, hF⟩, st⟩ | ⟨q, st₀, t, T', L, E, ce, h0, X', hL, e1, e2, ⟨u, hp, hb, hF⟩, hce, hcv, hcl, st⟩
  · cases hv
    obtain ⟨k1, k2, k3⟩ := vx_keep h0 e1 hS hA hf hL hF
    obtain ⟨t2, a1, b1⟩ := kk r u t T'.heap (locs ++ L) e1.symm (by rw [← e2]; exact X'.warmed.alike) hp hb k1 k2 k3 T' rfl X'
    exact ⟨t2, st t2 a1, b1⟩
  · obtain ⟨k1, k2, k3⟩ := vx_keep h0 e1 hS hAX hf hL hF
    obtain ⟨t2, a1, b1⟩ := kx E ce q u t T'.heap (locs ++ L) e1.symm (by rw [← e2]; exact X'.warmed.alike) hp hb k1 k2 k3 (by rw [e1]; exact hce) hcv hcl T' rfl X'
    exact ⟨t2, st.trans a1, b1⟩
theorem vx_callf {S SX : Type} {post : UInt32 → S → Prop} {px : SX → Prop} {B : S → State → Prop} {BX : String → SX → State → Prop} {AX : Nat → Prop} (hr : vx_Run p l e R s m args below meth c H locs cells slots mc ms (F0 m pc ls st0) rest (va_Qf post B A1 a) (vx_X px BX AX) free) (hS : va_S A0 H0 H locs) (hA : ∀ q, q < H.size → A1 q → A0 q) (hf : ∀ q, free q → A0 q) (hAX : ∀ q, q < H.size → AX q → A0 q)
    (kx : ∀ (E : String) (ce : Cell) (q9 : Addr) (u : SX) (t : State) (H1 : Heap) (locs1 : List Loc), t.heap = H1 → s.vm.Alike t.vm → px u → BX E u t → H.size ≤ H1.size → (∀ q : Nat, q < H.size → ¬ AX q → H1[q]? = H[q]?) → va_S A0 H0 H1 locs1 → H1[q9]? = some ce → ce.vm = .none → s.vm.findClass E = some ce.cls → vx_W p l e R s m args below meth c H1 locs1 (cells + mc) (slots + ms) Q (F0 m pc ls rest) q9)
    (kk : ∀ (r : UInt32) (u : S) (t : State) (H1 : Heap) (locs1 : List Loc), t.heap = H1 → s.vm.Alike t.vm → post r u → B u t → H.size ≤ H1.size → (∀ q : Nat, q < H.size → ¬ A1 q → H1[q]? = H[q]?) → va_S A0 H0 H1 locs1 → W p l e R s m args below meth c H1 locs1 (cells + mc) (slots + ms) Q (F0 m (pc + 3) ls (.float r :: rest))) : W p l e R s m args below meth c H locs cells slots Q (F0 m pc ls st0) := by
  intro T hT X
  rcases hr T hT X with ⟨v, st₀, t, T', L, h0, X', hL, e1, e2, ⟨⟨r, u, hv, hp, hb⟩, hF⟩, st⟩ | ⟨q, st₀, t, T', L, E, ce, h0, X', hL, e1, e2, ⟨u, hp, hb, hF⟩, hce, hcv, hcl, st⟩
  · cases hv
    obtain ⟨k1, k2, k3⟩ := vx_keep h0 e1 hS hA hf hL hF
    obtain ⟨t2, a1, b1⟩ := kk r u t T'.heap (locs ++ L) e1.symm (by rw [← e2]; exact X'.warmed.alike) hp hb k1 k2 k3 T' rfl X'
    exact ⟨t2, st t2 a1, b1⟩
  · obtain ⟨k1, k2, k3⟩ := vx_keep h0 e1 hS hAX hf hL hF
    obtain ⟨t2, a1, b1⟩ := kx E ce q u t T'.heap (locs ++ L) e1.symm (by rw [← e2]; exact X'.warmed.alike) hp hb k1 k2 k3 (by rw [e1]; exact hce) hcv hcl T' rfl X'
    exact ⟨t2, st.trans a1, b1⟩
theorem vx_calld {S SX : Type} {post : UInt64 → S → Prop} {px : SX → Prop} {B : S → State → Prop} {BX : String → SX → State → Prop} {AX : Nat → Prop} (hr : vx_Run p l e R s m args below meth c H locs cells slots mc ms (F0 m pc ls st0) rest (va_Qd post B A1 a) (vx_X px BX AX) free) (hS : va_S A0 H0 H locs) (hA : ∀ q, q < H.size → A1 q → A0 q) (hf : ∀ q, free q → A0 q) (hAX : ∀ q, q < H.size → AX q → A0 q)
    (kx : ∀ (E : String) (ce : Cell) (q9 : Addr) (u : SX) (t : State) (H1 : Heap) (locs1 : List Loc), t.heap = H1 → s.vm.Alike t.vm → px u → BX E u t → H.size ≤ H1.size → (∀ q : Nat, q < H.size → ¬ AX q → H1[q]? = H[q]?) → va_S A0 H0 H1 locs1 → H1[q9]? = some ce → ce.vm = .none → s.vm.findClass E = some ce.cls → vx_W p l e R s m args below meth c H1 locs1 (cells + mc) (slots + ms) Q (F0 m pc ls rest) q9)
    (kk : ∀ (r : UInt64) (u : S) (t : State) (H1 : Heap) (locs1 : List Loc), t.heap = H1 → s.vm.Alike t.vm → post r u → B u t → H.size ≤ H1.size → (∀ q : Nat, q < H.size → ¬ A1 q → H1[q]? = H[q]?) → va_S A0 H0 H1 locs1 → W p l e R s m args below meth c H1 locs1 (cells + mc) (slots + ms) Q (F0 m (pc + 3) ls (.double r :: rest))) : W p l e R s m args below meth c H locs cells slots Q (F0 m pc ls st0) := by
  intro T hT X
  rcases hr T hT X with ⟨v, st₀, t, T', L, h0, X', hL, e1, e2, ⟨⟨r, u, hv, hp, hb⟩, hF⟩, st⟩ | ⟨q, st₀, t, T', L, E, ce, h0, X', hL, e1, e2, ⟨u, hp, hb, hF⟩, hce, hcv, hcl, st⟩
  · cases hv
    obtain ⟨k1, k2, k3⟩ := vx_keep h0 e1 hS hA hf hL hF
    obtain ⟨t2, a1, b1⟩ := kk r u t T'.heap (locs ++ L) e1.symm (by rw [← e2]; exact X'.warmed.alike) hp hb k1 k2 k3 T' rfl X'
    exact ⟨t2, st t2 a1, b1⟩
  · obtain ⟨k1, k2, k3⟩ := vx_keep h0 e1 hS hAX hf hL hF
    obtain ⟨t2, a1, b1⟩ := kx E ce q u t T'.heap (locs ++ L) e1.symm (by rw [← e2]; exact X'.warmed.alike) hp hb k1 k2 k3 (by rw [e1]; exact hce) hcv hcl T' rfl X'
    exact ⟨t2, st.trans a1, b1⟩
theorem vx_callv {S SX : Type} {post : S → Prop} {px : SX → Prop} {B : S → State → Prop} {BX : String → SX → State → Prop} {AX : Nat → Prop} (hr : vx_Run p l e R s m args below meth c H locs cells slots mc ms (F0 m pc ls st0) rest (va_Qv post B A1 a) (vx_X px BX AX) free) (hS : va_S A0 H0 H locs) (hA : ∀ q, q < H.size → A1 q → A0 q) (hf : ∀ q, free q → A0 q) (hAX : ∀ q, q < H.size → AX q → A0 q)
    (kx : ∀ (E : String) (ce : Cell) (q9 : Addr) (u : SX) (t : State) (H1 : Heap) (locs1 : List Loc), t.heap = H1 → s.vm.Alike t.vm → px u → BX E u t → H.size ≤ H1.size → (∀ q : Nat, q < H.size → ¬ AX q → H1[q]? = H[q]?) → va_S A0 H0 H1 locs1 → H1[q9]? = some ce → ce.vm = .none → s.vm.findClass E = some ce.cls → vx_W p l e R s m args below meth c H1 locs1 (cells + mc) (slots + ms) Q (F0 m pc ls rest) q9)
    (kk : ∀ (u : S) (t : State) (H1 : Heap) (locs1 : List Loc), t.heap = H1 → s.vm.Alike t.vm → post u → B u t → H.size ≤ H1.size → (∀ q : Nat, q < H.size → ¬ A1 q → H1[q]? = H[q]?) → va_S A0 H0 H1 locs1 → W p l e R s m args below meth c H1 locs1 (cells + mc) (slots + ms) Q (F0 m (pc + 3) ls (rest))) : W p l e R s m args below meth c H locs cells slots Q (F0 m pc ls st0) := by
  intro T hT X
  rcases hr T hT X with ⟨v, st₀, t, T', L, h0, X', hL, e1, e2, ⟨⟨u, hv, hp, hb⟩, hF⟩, st⟩ | ⟨q, st₀, t, T', L, E, ce, h0, X', hL, e1, e2, ⟨u, hp, hb, hF⟩, hce, hcv, hcl, st⟩
  · cases hv
    obtain ⟨k1, k2, k3⟩ := vx_keep h0 e1 hS hA hf hL hF
    obtain ⟨t2, a1, b1⟩ := kk u t T'.heap (locs ++ L) e1.symm (by rw [← e2]; exact X'.warmed.alike) hp hb k1 k2 k3 T' rfl X'
    exact ⟨t2, st t2 a1, b1⟩
  · obtain ⟨k1, k2, k3⟩ := vx_keep h0 e1 hS hAX hf hL hF
    obtain ⟨t2, a1, b1⟩ := kx E ce q u t T'.heap (locs ++ L) e1.symm (by rw [← e2]; exact X'.warmed.alike) hp hb k1 k2 k3 (by rw [e1]; exact hce) hcv hcl T' rfl X'
    exact ⟨t2, st.trans a1, b1⟩
/-- caught by the row x of this method's table; the rows ahead don't take it -/
theorem vx_catch {own name : String} {E : String} {ce : Cell} {q : Addr} (hown : s.vm.findClass own = some m.cls) (pre : List ExceptionTableEntry) (x : ExceptionTableEntry) (suf : List ExceptionTableEntry) (hsplit : c.exceptionTable.toList = pre ++ x :: suf)
    (hpass : ∀ z ∈ pre, covers z pc = false ∨ (z.catchType ≠ 0 ∧ ∃ nm : String, (Cond.classLink own z.catchType nm).before args s = true ∧ va_Nc E nm s)) (hx : covers x pc = true) (h0 : x.catchType ≠ 0)
    (hlink : (Cond.classLink own x.catchType name).before args s = true) (hcast : (Cond.castable E name).before args s = true) (hcell : H[q]? = some ce) (hv : ce.vm = .none) (hcl : s.vm.findClass E = some ce.cls)
    (kk : W p l e R s m args below meth c H locs cells slots Q (F0 m x.handlerPc ls [.ref q])) : vx_W p l e R s m args below meth c H locs cells slots Q (F0 m pc ls rest) q := by
  intro T hT X
  have hpl : e.platform.magicAccessors = ({} : Platform).magicAccessors := by rw [X.admits.platform]
  obtain ⟨c3, c4, hc3, hc4, hasg⟩ := Cond.castable_spec hcast
  cases Option.some.inj (hc3.symm.trans hcl)
  obtain ⟨c5, hc5, hcl5⟩ := Cond.classLink_spec hown hlink e.platform hpl
  cases Option.some.inj (hc4.symm.trans hc5)
  obtain ⟨vm', X', st⟩ := X.thenCaughtThrough q (g := F0 m pc ls rest) rfl (Steps.refl _) (by rw [hT]; exact hcell) (by rw [hv]; rfl) (by obtain ⟨k9, h9, -⟩ := Vm.findClass_spec hcl; exact ⟨k9, h9⟩) pre x suf hsplit
    (fun z hz => by
      rcases hpass z hz with h | ⟨hz0, nm, hl1, hn1⟩
      · exact Or.inl h
      · obtain ⟨c6, hc6, hcl6⟩ := Cond.classLink_spec hown hl1 e.platform hpl
        obtain ⟨a8, b8, h1, h2, h3⟩ := hn1
        cases Option.some.inj (h1.symm.trans hcl)
        cases Option.some.inj (h2.symm.trans hc6)
        exact Or.inr ⟨hz0, _, hcl6, h3⟩) hx (Or.inr ⟨h0, c4, hcl5, hasg⟩)
  obtain ⟨t, a1, b1⟩ := kk (T.setVm vm') hT X'
  exact ⟨t, st.trans a1, b1⟩
end Rows
section Ends
variable {p : Program} {l : Launch} {e : Env} {R : Room} {s : State} {m : MethodId} {args : Array Value} {below : List Frame} {meth : Method} {c : Code} {H : Heap} {locs : List Loc} {cells slots : Nat} {Q : State → Prop}
variable {mc ms : Nat} {free : Addr → Prop} {A0 A1 : Nat → Prop} {H0 : Heap} {a : Array Value} {ls : Array Slot} {st0 rest : List Value}
variable {Qc : Array Value → State → Outcome → State → Prop} {XC : String → State → State → Prop}
/-- what a body that may throw owes at its end -/
def vx_MQ (below : List Frame) (Qc : Array Value → State → Outcome → State → Prop) (XC : String → State → State → Prop) (a : Array Value) (s : State) (mc ms : Nat) (free : Addr → Prop) : State → Prop := fun t =>
  ∃ o, t.status = .running ∧ Ended t below o ∧ vx_Q Qc XC mc ms free a s o t
theorem vx_ret {g : JFrame} {mc ms : Nat} (k : W p l e R s m args below meth c H locs cells slots (MQ below Qc args s mc ms free) g) : W p l e R s m args below meth c H locs cells slots (vx_MQ below Qc XC args s mc ms free) g := by
  intro T hT X
  obtain ⟨t, a1, o, b1, b2, b3, b4⟩ := k T hT X
  exact ⟨t, a1, o, b1, b2, Or.inl ⟨b3, b4⟩⟩
/-- not caught here: it goes on to the caller -/
theorem vx_widen {g : JFrame} {q : Addr} {k n : Nat} (h1 : cells ≤ k) (h2 : slots ≤ n) (kk : vx_W p l e R s m args below meth c H locs k n Q g q) : vx_W p l e R s m args below meth c H locs cells slots Q g q := fun T hT X => kk T hT (stand_widen X h1 h2)
theorem vx_out {pc : Nat} {E : String} {ce : Cell} {q : Addr} {mc ms : Nat} (hout : ∀ x ∈ c.exceptionTable.toList, covers x pc = false) (hlocks : meth.locks = false) (hcell : H[q]? = some ce) (hv : ce.vm = .none) (hcl : s.vm.findClass E = some ce.cls)
    (hx : ∀ t : State, t.heap = H → s.vm.Alike t.vm → XC E s t) (hf : ∀ z ∈ locs, free z.base) (hc : cells ≤ mc) (hs : slots ≤ ms) :
    vx_W p l e R s m args below meth c H locs cells slots (vx_MQ below Qc XC args s mc ms free) (F0 m pc ls rest) q := by
  intro T hT X
  obtain ⟨st1, hrun, hend, hW, hsm⟩ := X.leaveThrown q (g := F0 m pc ls rest) rfl rfl rfl hout hlocks
  have hcell9 : (T.setFrames (.throwing q :: below)).heap[q]? = some ce := by
    show T.heap[q]? = some ce
    rw [hT]; exact hcell
  exact ⟨_, st1, .threw q, hrun, hend, Or.inr ⟨q, rfl, E, ce, locs, hx _ hT hW.alike, hcell9, hv, hcl, hW, hsm.mono hc hs, hf⟩⟩
theorem vx_frame {U : State} {k n : Nat} (h : s.sameButNew ({ U with vm := s.vm } : State) locs k n) : s.heap.size ≤ U.heap.size ∧ ∀ q : Nat, q < s.heap.size → (∀ z ∈ locs, z.base ≠ q) → U.heap[q]? = s.heap[q]? := by
  obtain ⟨-, h2, -, -, -, h6⟩ := h
  refine ⟨h2, fun q hq hz => ?_⟩
  obtain ⟨c9, e1, e2, e3, e4⟩ := h6 q _ (Array.getElem?_eq_getElem hq)
  have hs : c9.slots = (s.heap[q]).slots := Array.ext_getElem? fun i => e4 i fun hm => hz _ hm rfl
  have h9 : c9 = s.heap[q] := by
    rw [hs] at e2
    exact e2
  have e5 : U.heap[q]? = some c9 := e1
  rw [e5, h9, Array.getElem?_eq_getElem hq]
/-- the words of a throw but the four that speak of the heap -/
def vx_no (w : Cond) : Bool := decide (w ≠ .isRef (.static Bundle.tN "UNASSIGNED_STACK" Bundle.steD)) && decide (w ≠ .isRef (.static Bundle.tN "SUPPRESSED_SENTINEL" Bundle.listD)) && decide (w ≠ .laysStatic Bundle.tN "UNASSIGNED_STACK" Bundle.steD) && decide (w ≠ .laysStatic Bundle.tN "SUPPRESSED_SENTINEL" Bundle.listD)
def vx_at0 (own : String) (ic : Nat) (X : String) (names : List String) : List Cond := (Bundle.ownAtoms0 own ic X names).filter vx_no
def vx_atS (own : String) (ic : Nat) (X : String) (names : List String) : List Cond := (Bundle.ownAtoms own ic X names).filter vx_no
/-- a word that the tables alone decide, or a good one -/
def vx_ot (w : Cond) : Bool := w.onTables || goodWord w
theorem vx_ot_at {args a' : Array Value} {s U : State} {w : Cond} (hW : s.WarmedH U.vm) (hvm : s.vm = U.vm) (hg : vx_ot w = true) (h : w.before args s = true) : w.before a' U = true := by
  simp only [vx_ot, Bool.or_eq_true] at hg
  rcases hg with hg | hg
  · exact va_tabs hg hvm h
  · exact word_at hW (good_of_word hg) h
/-- a list's words: the good ones out of the method's own list, the others by premises of their own -/
theorem vx_hat {args : Array Value} {s : State} {L B : List Cond} (h1 : ∀ w ∈ L.filter goodWord, w.before args s = true) (h2 : ∀ w ∈ L.filter (fun w => !goodWord w), w ∈ B) (h3 : ∀ w ∈ B, w.before args s = true) : ∀ w ∈ L, w.before args s = true := by
  intro w hw
  by_cases g : goodWord w = true
  · exact h1 w (List.mem_filter.mpr ⟨hw, g⟩)
  · refine h3 w (h2 w (List.mem_filter.mpr ⟨hw, ?_⟩))
    show (!goodWord w) = true
    cases hgw : goodWord w
    · rfl
    · exact absurd hgw g
theorem vx_c {args : Array Value} {s : State} {w : Cond} {B : List Cond} (h : w.before args s = true) (t : ∀ w ∈ B, w.before args s = true) : ∀ w' ∈ w :: B, w'.before args s = true := fun w' h' => (List.mem_cons.mp h').elim (fun e => by rw [e]; exact h) (t w')
theorem vx_n {args : Array Value} {s : State} : ∀ w ∈ ([] : List Cond), w.before args s = true := fun _ h => nomatch h
theorem vx_own {args : Array Value} {s : State} {L : List Cond} (h1 : ∀ w ∈ L.filter vx_no, w.before args s = true)
    (hU : (Cond.isRef (.static Bundle.tN "UNASSIGNED_STACK" Bundle.steD)).before args s = true) (hN : (Cond.isRef (.static Bundle.tN "SUPPRESSED_SENTINEL" Bundle.listD)).before args s = true)
    (lU : (Cond.laysStatic Bundle.tN "UNASSIGNED_STACK" Bundle.steD).before args s = true) (lN : (Cond.laysStatic Bundle.tN "SUPPRESSED_SENTINEL" Bundle.listD).before args s = true) : ∀ w ∈ L, w.before args s = true := by
  intro w hw
  by_cases e1 : w = .isRef (.static Bundle.tN "UNASSIGNED_STACK" Bundle.steD)
  · rw [e1]; exact hU
  · by_cases e2 : w = .isRef (.static Bundle.tN "SUPPRESSED_SENTINEL" Bundle.listD)
    · rw [e2]; exact hN
    · by_cases e3 : w = .laysStatic Bundle.tN "UNASSIGNED_STACK" Bundle.steD
      · rw [e3]; exact lU
      · by_cases e4 : w = .laysStatic Bundle.tN "SUPPRESSED_SENTINEL" Bundle.listD
        · rw [e4]; exact lN
        · exact h1 w (List.mem_filter.mpr ⟨hw, by unfold vx_no; rw [decide_eq_true e1, decide_eq_true e2, decide_eq_true e3, decide_eq_true e4]; rfl⟩)
/-- where a static field lies, its class's statics cell in H -/
def vx_L (C n d : String) (A : Nat → Prop) (U : State) (H : Heap) : Prop := ∃ (c : ClassId) (k : Class) (i : Nat) (f : Field) (a : Nat) (cell : Cell), U.vm.findClass C = some c ∧ U.fieldFound? C n d = some (c, k, i, f) ∧ f.isStatic = true ∧ k.statics = some a ∧ H[a]? = some cell ∧ cell.vm.isStatics = true ∧ cell.cls = c ∧ f.slot < cell.slots.size ∧ k.staticTypes[f.slot]? = some f.type ∧ ¬ A a
theorem vx_L.moved {C n d : String} {A : Nat → Prop} {u U : State} {H : Heap} (hvm : u.vm.Alike U.vm) (h : vx_L C n d A u H) : vx_L C n d A U H := by
  obtain ⟨c, k, i, f, a, cell, h1, h2, h3, h4, h5, h6, h7, h8, h9, h10⟩ := h
  obtain ⟨k', hi', he⟩ := State.fieldFound?_setVm hvm h2
  exact ⟨c, k', i, f, a, cell, by rw [hvm.findClass]; exact h1, hi', h3, by rw [he]; exact h4, h5, h6, h7, h8, by rw [he]; exact h9, h10⟩
theorem vx_L.kept {C n d : String} {A : Nat → Prop} {U : State} {H H1 : Heap} (h : vx_L C n d A U H) (hq : ∀ a : Nat, a < H.size → ¬ A a → H1[a]? = H[a]?) : vx_L C n d A U H1 := by
  obtain ⟨c, k, i, f, a, cell, h1, h2, h3, h4, h5, h6, h7, h8, h9, h10⟩ := h
  exact ⟨c, k, i, f, a, cell, h1, h2, h3, h4, by rw [hq a (Array.getElem?_eq_some_iff.mp h5).1 h10]; exact h5, h6, h7, h8, h9, h10⟩
theorem vx_L.narrow {C n d : String} {A B : Nat → Prop} {U : State} {H : Heap} (h : vx_L C n d A U H) (hAB : ∀ q, B q → A q) : vx_L C n d B U H := by
  obtain ⟨c, k, i, f, a, cell, h1, h2, h3, h4, h5, h6, h7, h8, h9, h10⟩ := h
  exact ⟨c, k, i, f, a, cell, h1, h2, h3, h4, h5, h6, h7, h8, h9, fun z => h10 (hAB _ z)⟩
theorem vx_L.word {C n d : String} {A : Nat → Prop} {s : State} {args : Array Value} (h : vx_L C n d A s s.heap) : (Cond.laysStatic C n d).before args s = true := by
  obtain ⟨c, k, i, f, a, cell, h1, h2, h3, h4, h5, h6, h7, h8, h9, -⟩ := h
  show (Cond.laysStatic C n d).holds args s none s [] = true
  exact Cond.laysStatic_of h1 h2 h3 h4 h5 h6 h7 h8 h9
/-- .. and what it holds: null or some reference -/
def vx_Zq (C n d : String) (A : Nat → Prop) (U : State) (H : Heap) : Prop := va_Zq C n d A U H ∧ vx_L C n d A U H
theorem vx_Zq.moved {C n d : String} {A : Nat → Prop} {u U : State} {H : Heap} (hvm : u.vm.Alike U.vm) (h : vx_Zq C n d A u H) : vx_Zq C n d A U H := ⟨va_Zq.moved hvm h.1, vx_L.moved hvm h.2⟩
theorem vx_Zq.kept {C n d : String} {A : Nat → Prop} {U : State} {H H1 : Heap} (h : vx_Zq C n d A U H) (hq : ∀ a : Nat, a < H.size → ¬ A a → H1[a]? = H[a]?) : vx_Zq C n d A U H1 := ⟨va_Zq.kept h.1 hq, vx_L.kept h.2 hq⟩
theorem vx_Zq.narrow {C n d : String} {A B : Nat → Prop} {U : State} {H : Heap} (h : vx_Zq C n d A U H) (hAB : ∀ q, B q → A q) : vx_Zq C n d B U H := ⟨va_Zq.narrow h.1 hAB, vx_L.narrow h.2 hAB⟩
theorem vx_Zqof {args : Array Value} {s : State} {C n d : String} {A : Nat → Prop} (hl : (Cond.laysStatic C n d).before args s = true) (hini : (Cond.initialized C).before args s = true) (h : (Cond.isRef (.static C n d)).before args s = true) (hA : ∀ a : Nat, a < s.heap.size → ¬ A a) : vx_Zq C n d A s s.heap := by
  refine ⟨va_Zqof hl hini h hA, ?_⟩
  obtain ⟨c, k, i, f, a, cell, h1, h2, h3, h4, h5, h6, h7, h8, h9⟩ := Cond.laysStatic_spec hl
  exact ⟨c, k, i, f, a, cell, h1, h2, h3, h4, h5, h6, h7, h8, h9, hA a (Array.getElem?_eq_some_iff.mp h5).1⟩
theorem vx_isRef {C n d : String} {v : Value} {A : Nat → Prop} {s : State} {args : Array Value} (h : va_Z C n d v A s s.heap) (hv : v.isRef = true) : (Cond.isRef (.static C n d)).before args s = true := by
  obtain ⟨cf, kf, fi, f, a, cell, h1, h2, h3, h4, h5, h6, h7, -⟩ := h
  have he : (Term.static C n d).eval args s none [] s = some v := by
    simp [Term.eval, State.fieldNamed?, h1, h2, h4, h5, h6, h7]
  simp only [Cond.before, Cond.holds, Cond.value, he]
  cases v <;> simp_all [Value.isRef]
theorem vx_isRefq {C n d : String} {A : Nat → Prop} {s : State} {args : Array Value} (h : va_Zq C n d A s s.heap) : (Cond.isRef (.static C n d)).before args s = true := by
  rcases h with h | ⟨t, h⟩
  · exact vx_isRef h rfl
  · exact vx_isRef h rfl
/-- the same frame, seen from here: as if the method were called anew in this heap -/
theorem vx_rebase {T : State} (X : Stand p l e R s m args below meth c T locs cells slots) {R' : Room} (hf : R'.frames ≤ R.frames) (hl : R'.locals ≤ R.locals) (hc : cells + R'.cells ≤ R.cells) (hs : slots + R'.slots ≤ R.slots) :
    Stand p l e R' ((T.setVm s.vm).setFrames (.invoking m args :: below)) m args below meth c T [] 0 0 := by
  have htop : (T.setVm s.vm).topJava?.isSome := X.here.top
  have hF : ((T.setVm s.vm).setFrames (.invoking m args :: below)).frames = .invoking m args :: below := State.frames_setFrames _ (State.cur_lt_of_top htop)
  obtain ⟨g₀, hg0⟩ := Option.isSome_iff_exists.mp htop
  obtain ⟨r, hr⟩ := State.topJava?_eq_some.mp hg0
  have hl9 : e.platform.stackLimits (T.setVm s.vm).me = e.platform.stackLimits s.me := X.limits
  have hb9 : (T.setVm s.vm).me.stackBytes = s.me.stackBytes := X.bytes
  refine ⟨X.admits, X.cas, X.clock, hF, ?_, X.hears, X.method, X.code, X.here, X.tail, X.warmed, ?_, ?_, ?_⟩
  · have h := X.room
    have hU : ((T.setVm s.vm).setFrames (.invoking m args :: below)).localsInUse = s.localsInUse := by
      rw [State.localsInUse_invoking hF (meth := meth) (c := c) X.method X.code, State.localsInUse_invoking X.frames X.method X.code]
    simp only [State.hasRoom, Bool.and_eq_true, decide_eq_true_eq] at h ⊢
    obtain ⟨⟨⟨⟨h1, h2, h3, h4, h5, h6⟩, h7⟩, h8⟩, h9⟩ := h
    rw [X.frames, List.length_cons] at h2 h3
    have q1 := X.heapSize
    have q2 := X.used
    simp only [hF, hU, List.length_cons, State.stackLimits_setFrames, State.stackBytes_setFrames, hl9, hb9]
    refine ⟨⟨⟨⟨by omega, by omega, by omega, by omega, by omega, h6⟩, ?_⟩, ?_⟩, X.book⟩
    · show T.heap.size + R'.cells ≤ e.platform.maxCells
      omega
    · show T.slotsUsed + R'.slots ≤ e.platform.maxSlots
      omega
  · rw [State.stackLimits_setFrames]; rfl
  · rw [State.stackBytes_setFrames]; rfl
  · refine ⟨?_, Nat.le_refl _, Nat.le_refl _, ?_, ?_, fun a c9 h9 => ⟨c9, h9, rfl, rfl, fun _ _ => rfl⟩⟩
    · obtain ⟨t, ht, -⟩ := State.frames_cons hr
      show T.setVm s.vm = { ((T.setVm s.vm).setFrames (.invoking m args :: below)).setFrames (T.setVm s.vm).frames with heap := T.heap, slotsUsed := T.slotsUsed }
      rw [State.setFrames_setFrames, State.setFrames_self ht]
      rfl
    · show T.slotsUsed = T.slotsUsed + ((T.heap.toList.drop T.heap.size).map (·.slots.size)).sum
      rw [List.drop_eq_nil_of_le (Nat.le_of_eq Array.length_toList)]
      rfl
    · show ((T.heap.toList.drop T.heap.size).map (·.slots.size)).sum ≤ 0
      rw [List.drop_eq_nil_of_le (Nat.le_of_eq Array.length_toList)]
      exact Nat.le_refl _
/-- 'throw new E()': new; dup; invokespecial; athrow -/
theorem vx_throw0 {cc : ByteArray} {pc : Nat} (hexec : p.tables.exec = Jvm.exec) (hb : c.code = cc) (hl : l.stackTraces = false) {own cls : String} {names : List String} {ik ic mc ms : Nat} {A : Nat → Prop}
    (hown : s.vm.findClass own = some m.cls) (hcls : Bundle.fit cls = true) (hnames : ∀ n ∈ names, Bundle.fit n = true)
    (hk : (Cond.classLink own ik cls).before args s = true) (hini : (Cond.initialized cls).before args s = true) (hat : ∀ w ∈ vx_at0 own ic cls names, w.before args s = true)
    (hgood : ∀ w ∈ Cond.classLink own ik cls :: Cond.initialized cls :: vx_at0 own ic cls names, vx_ot w = true)
    (hU : vx_Zq Bundle.tN "UNASSIGNED_STACK" Bundle.steD A s s.heap) (hN : vx_Zq Bundle.tN "SUPPRESSED_SENTINEL" Bundle.listD A s s.heap) (hS : va_S A s.heap H locs) (hsize : ls.size = c.maxLocals)
    (d0 : decode cc pc = .ok (.new ik, 3)) (d3 : decode cc (pc + 3) = .ok (.dup, 1)) (d4 : decode cc (pc + 4) = .ok (.invokespecial ic, 3)) (d7 : decode cc (pc + 7) = .ok (.athrow, 1))
    (hout : ∀ x ∈ c.exceptionTable.toList, covers x (pc + 7) = false)
    (hRframes : names.length + 3 < R.frames) (hRlocals : (rest.map fun v => v.category).sum + (13 * (names.length + 1) + 42) ≤ R.locals) (hRcells : cells + 1 ≤ R.cells) (hRslots : slots + 6 ≤ R.slots) (hlocks : meth.locks = false)
    (hx : ∀ t : State, s.vm.Alike t.vm → H.size ≤ t.heap.size → (∀ q : Nat, q < H.size → t.heap[q]? = H[q]?) → XC cls s t)
    (hf : ∀ z ∈ locs, free z.base) (hc : cells + 1 ≤ mc) (hs : slots + 6 ≤ ms) :
    W p l e R s m args below meth c H locs cells slots (vx_MQ below Qc XC args s mc ms free) (F0 m pc ls rest) := by
  intro T hT X
  have htr : e.platform.stackTraces = false := (show e.platform.stackTraces = l.stackTraces by rw [X.admits.platform]).trans hl
  have Y := vx_rebase X (R' := { frames := R.frames, locals := R.locals, cells := 1, slots := 6 }) (Nat.le_refl _) (Nat.le_refl _) hRcells hRslots
  obtain ⟨s', hA⟩ : ∃ z, z = (T.setVm s.vm).setFrames (.invoking m args :: below) := ⟨_, rfl⟩
  rw [← hA] at Y
  have hvm : s'.vm = s.vm := by rw [hA]; rfl
  have hhp : s'.heap = H := by rw [hA]; exact hT
  have hW0 : s.WarmedH s'.vm := by rw [hvm]; exact State.WarmedH.refl s
  have hat' : ∀ w ∈ vx_at0 own ic cls names, w.before args s' = true := fun w hw => vx_ot_at hW0 hvm.symm (hgood w (List.mem_cons_of_mem _ (List.mem_cons_of_mem _ hw))) (hat w hw)
  have hk' : (Cond.classLink own ik cls).before args s' = true := vx_ot_at hW0 hvm.symm (hgood _ List.mem_cons_self) hk
  have hini' : (Cond.initialized cls).before args s' = true := vx_ot_at hW0 hvm.symm (hgood _ (List.mem_cons_of_mem _ List.mem_cons_self)) hini
  have hU' : vx_Zq Bundle.tN "UNASSIGNED_STACK" Bundle.steD A s' s'.heap := by rw [hhp]; exact vx_Zq.moved hW0.alike (hU.kept hS.2.1)
  have hN' : vx_Zq Bundle.tN "SUPPRESSED_SENTINEL" Bundle.listD A s' s'.heap := by rw [hhp]; exact vx_Zq.moved hW0.alike (hN.kept hS.2.1)
  have h : ∀ w ∈ Bundle.ownAtoms0 own ic cls names, w.before args s' = true := vx_own hat' (vx_isRefq hU'.1) (vx_isRefq hN'.1) hU'.2.word hN'.2.word
  have hown' : s'.vm.findClass own = some m.cls := by rw [hvm]; exact hown
  have hins : (Cond.instantiable cls 6).before args s' = true := h _ (by simp [Bundle.ownAtoms0])
  obtain ⟨vm₁, cX, kX, hfX, hkX, -, -, X₁, st1⟩ := Y.newCold hexec (own := own) (C := cls) (index := ik) (n := 6) hown' hk' hins hini'
    (g := F0 m pc ls rest) rfl (by rw [hb]; exact d0) (Nat.le_refl _) (Nat.le_refl _)
  generalize hT1 : (T.setVm vm₁).pushCell { cls := cX, slots := kX.instanceTypes.map defaultValue, vm := .none } = T1 at X₁ st1
  have hcat : (Value.ref T.heap.size).category = 1 := rfl
  have hcellA : T1.heap[T.heap.size]? = some (freshCell cX kX) := by rw [← hT1]; exact State.heap_pushCell_size _ _
  have d3' : decode c.code (pc + 3) = .ok (.dup, 1) := by rw [hb]; exact d3
  obtain ⟨U, hsteps, hrun, hend, hW, hsame, ce, hce, hO⟩ := X₁.ctorThrow0 hexec htr (own := own) (cls := cls) (names := names) (ic := ic) hown' hcls hnames h (fun x hx => nomatch hx) hfX hkX hcellA (by rw [hhp, hT]; exact Nat.le_refl _)
    (g := { method := m, pc := pc + 4, locals := ls, stack := .ref T.heap.size :: .ref T.heap.size :: rest, locked := none }) rfl hsize rfl rfl (rest := rest) rfl
    (by rw [hb]; exact d4) (by rw [hb]; exact d7) hout hRframes (by simp only [List.map_cons, List.sum_cons, hcat]; omega) hlocks
  obtain ⟨f1, f2⟩ := vx_frame hsame
  rw [hhp] at f1 f2
  have hWs : s.WarmedH U.vm := State.WarmedH.trans hW0 hW
  have hcl : s.vm.findClass cls = some ce.cls := by
    have h9 := hO.cls
    rw [hvm] at h9
    exact h9
  have hall : s.sameButNew ({ U with vm := s.vm } : State) locs mc ms := by
    subst hA
    obtain ⟨e1, e2⟩ := hsame
    rw [State.setFrames_setFrames] at e1
    have h2 : (T.setVm s.vm).sameButNew ({ U with vm := s.vm } : State) [] (0 + 1) (0 + 6) := ⟨e1, e2⟩
    have h3 := X.same.trans h2
    rw [List.append_nil] at h3
    exact h3.mono hc hs
  refine ⟨U, ?_, .threw T.heap.size, hrun, hend, Or.inr ⟨T.heap.size, rfl, cls, ce, locs, hx U hWs.alike f1 (fun q hq => f2 q hq (fun z hz => nomatch hz)), hce, hO.vm, hcl, hWs, hall, hf⟩⟩
  refine st1 _ ?_
  show Steps p.tables e below (T1.setTop { method := m, pc := pc + 3, locals := ls, stack := .ref T.heap.size :: rest, locked := none }) _
  jvm_step X₁.here [X₁.here.top, hexec, d3', Value.category]
  exact hsteps
/-- 'throw new E("text")': new; dup; ldc; invokespecial; athrow -/
theorem vx_throwS {cc : ByteArray} {pc : Nat} (hexec : p.tables.exec = Jvm.exec) (hb : c.code = cc) (hl : l.stackTraces = false) {own cls text : String} {names : List String} {ik is ic mc ms sa : Nat} {A : Nat → Prop}
    (hown : s.vm.findClass own = some m.cls) (hcls : Bundle.fit cls = true) (hnames : ∀ n ∈ names, Bundle.fit n = true)
    (hk : (Cond.classLink own ik cls).before args s = true) (hini : (Cond.initialized cls).before args s = true) (hstr : vk_R own is text sa s) (hat : ∀ w ∈ vx_atS own ic cls names, w.before args s = true)
    (hgood : ∀ w ∈ Cond.classLink own ik cls :: Cond.initialized cls :: vx_atS own ic cls names, vx_ot w = true)
    (hU : vx_Zq Bundle.tN "UNASSIGNED_STACK" Bundle.steD A s s.heap) (hN : vx_Zq Bundle.tN "SUPPRESSED_SENTINEL" Bundle.listD A s s.heap) (hS : va_S A s.heap H locs) (hsize : ls.size = c.maxLocals)
    (d0 : decode cc pc = .ok (.new ik, 3)) (d3 : decode cc (pc + 3) = .ok (.dup, 1)) (d4 : decode cc (pc + 4) = .ok (.ldc is, 2)) (d6 : decode cc (pc + 6) = .ok (.invokespecial ic, 3)) (d9 : decode cc (pc + 9) = .ok (.athrow, 1))
    (hout : ∀ x ∈ c.exceptionTable.toList, covers x (pc + 9) = false)
    (hRframes : names.length + 3 < R.frames) (hRlocals : (rest.map fun v => v.category).sum + (13 * (names.length + 1) + 43) ≤ R.locals) (hRcells : cells + 1 ≤ R.cells) (hRslots : slots + 6 ≤ R.slots) (hlocks : meth.locks = false)
    (hx : ∀ t : State, s.vm.Alike t.vm → H.size ≤ t.heap.size → (∀ q : Nat, q < H.size → t.heap[q]? = H[q]?) → XC cls s t)
    (hf : ∀ z ∈ locs, free z.base) (hc : cells + 1 ≤ mc) (hs : slots + 6 ≤ ms) :
    W p l e R s m args below meth c H locs cells slots (vx_MQ below Qc XC args s mc ms free) (F0 m pc ls rest) := by
  intro T hT X
  have htr : e.platform.stackTraces = false := (show e.platform.stackTraces = l.stackTraces by rw [X.admits.platform]).trans hl
  have Y := vx_rebase X (R' := { frames := R.frames, locals := R.locals, cells := 1, slots := 6 }) (Nat.le_refl _) (Nat.le_refl _) hRcells hRslots
  obtain ⟨s', hA⟩ : ∃ z, z = (T.setVm s.vm).setFrames (.invoking m args :: below) := ⟨_, rfl⟩
  rw [← hA] at Y
  have hvm : s'.vm = s.vm := by rw [hA]; rfl
  have hhp : s'.heap = H := by rw [hA]; exact hT
  have hW0 : s.WarmedH s'.vm := by rw [hvm]; exact State.WarmedH.refl s
  have hat' : ∀ w ∈ vx_atS own ic cls names, w.before args s' = true := fun w hw => vx_ot_at hW0 hvm.symm (hgood w (List.mem_cons_of_mem _ (List.mem_cons_of_mem _ hw))) (hat w hw)
  have hk' : (Cond.classLink own ik cls).before args s' = true := vx_ot_at hW0 hvm.symm (hgood _ List.mem_cons_self) hk
  have hini' : (Cond.initialized cls).before args s' = true := vx_ot_at hW0 hvm.symm (hgood _ (List.mem_cons_of_mem _ List.mem_cons_self)) hini
  have hU' : vx_Zq Bundle.tN "UNASSIGNED_STACK" Bundle.steD A s' s'.heap := by rw [hhp]; exact vx_Zq.moved hW0.alike (hU.kept hS.2.1)
  have hN' : vx_Zq Bundle.tN "SUPPRESSED_SENTINEL" Bundle.listD A s' s'.heap := by rw [hhp]; exact vx_Zq.moved hW0.alike (hN.kept hS.2.1)
  have h : ∀ w ∈ Bundle.ownAtoms own ic cls names, w.before args s' = true := vx_own hat' (vx_isRefq hU'.1) (vx_isRefq hN'.1) hU'.2.word hN'.2.word
  have hown' : s'.vm.findClass own = some m.cls := by rw [hvm]; exact hown
  have hins : (Cond.instantiable cls 6).before args s' = true := h _ (by simp [Bundle.ownAtoms])
  obtain ⟨vm₁, cX, kX, hfX, hkX, -, -, X₁, st1⟩ := Y.newCold hexec (own := own) (C := cls) (index := ik) (n := 6) hown' hk' hins hini'
    (g := F0 m pc ls rest) rfl (by rw [hb]; exact d0) (Nat.le_refl _) (Nat.le_refl _)
  generalize hT1 : (T.setVm vm₁).pushCell { cls := cX, slots := kX.instanceTypes.map defaultValue, vm := .none } = T1 at X₁ st1
  have hcat : (Value.ref T.heap.size).category = 1 := rfl
  have hcellA : T1.heap[T.heap.size]? = some (freshCell cX kX) := by rw [← hT1]; exact State.heap_pushCell_size _ _
  have d3' : decode c.code (pc + 3) = .ok (.dup, 1) := by rw [hb]; exact d3
  have d4' : decode c.code (pc + 4) = .ok (.ldc is, 2) := by rw [hb]; exact d4
  have hstr' : vk_R own is text sa s' := vk_R.warm hW0 hstr
  obtain ⟨U, hsteps, hrun, hend, hW, hsame, ce, hce, hO⟩ := X₁.ctorThrowS hexec htr (own := own) (cls := cls) (names := names) (ic := ic) hown' hcls hnames h (fun x hx => nomatch hx) hfX hkX hcellA (by rw [hhp, hT]; exact Nat.le_refl _) (msg := .ref sa) rfl
    (g := { method := m, pc := pc + 6, locals := ls, stack := .ref sa :: .ref T.heap.size :: .ref T.heap.size :: rest, locked := none }) rfl hsize rfl rfl (rest := rest) rfl
    (by rw [hb]; exact d6) (by rw [hb]; exact d9) hout hRframes (by simp only [List.map_cons, List.sum_cons, hcat]; omega) hlocks
  obtain ⟨f1, f2⟩ := vx_frame hsame
  rw [hhp] at f1 f2
  have hWs : s.WarmedH U.vm := State.WarmedH.trans hW0 hW
  have hcl : s.vm.findClass cls = some ce.cls := by
    have h9 := hO.cls
    rw [hvm] at h9
    exact h9
  have hall : s.sameButNew ({ U with vm := s.vm } : State) locs mc ms := by
    subst hA
    obtain ⟨e1, e2⟩ := hsame
    rw [State.setFrames_setFrames] at e1
    have h2 : (T.setVm s.vm).sameButNew ({ U with vm := s.vm } : State) [] (0 + 1) (0 + 6) := ⟨e1, e2⟩
    have h3 := X.same.trans h2
    rw [List.append_nil] at h3
    exact h3.mono hc hs
  refine ⟨U, ?_, .threw T.heap.size, hrun, hend, Or.inr ⟨T.heap.size, rfl, cls, ce, locs, hx U hWs.alike f1 (fun q hq => f2 q hq (fun z hz => nomatch hz)), hce, hO.vm, hcl, hWs, hall, hf⟩⟩
  refine st1 _ ?_
  show Steps p.tables e below (T1.setTop { method := m, pc := pc + 3, locals := ls, stack := .ref T.heap.size :: rest, locked := none }) _
  jvm_step X₁.here [X₁.here.top, hexec, d3', Value.category]
  exact X₁.ldcString hexec (own := own) (text := text) (index := is) (a := sa) hown' hstr'.1 hstr'.2
    (g := { method := m, pc := pc + 4, locals := ls, stack := .ref T.heap.size :: .ref T.heap.size :: rest, locked := none }) rfl d4' _ hsteps
/-- 'throw new E("text")', the text by a wide index -/
theorem vx_throwSW {cc : ByteArray} {pc : Nat} (hexec : p.tables.exec = Jvm.exec) (hb : c.code = cc) (hl : l.stackTraces = false) {own cls text : String} {names : List String} {ik is ic mc ms sa : Nat} {A : Nat → Prop}
    (hown : s.vm.findClass own = some m.cls) (hcls : Bundle.fit cls = true) (hnames : ∀ n ∈ names, Bundle.fit n = true)
    (hk : (Cond.classLink own ik cls).before args s = true) (hini : (Cond.initialized cls).before args s = true) (hstr : vk_R own is text sa s) (hat : ∀ w ∈ vx_atS own ic cls names, w.before args s = true)
    (hgood : ∀ w ∈ Cond.classLink own ik cls :: Cond.initialized cls :: vx_atS own ic cls names, vx_ot w = true)
    (hU : vx_Zq Bundle.tN "UNASSIGNED_STACK" Bundle.steD A s s.heap) (hN : vx_Zq Bundle.tN "SUPPRESSED_SENTINEL" Bundle.listD A s s.heap) (hS : va_S A s.heap H locs) (hsize : ls.size = c.maxLocals)
    (d0 : decode cc pc = .ok (.new ik, 3)) (d3 : decode cc (pc + 3) = .ok (.dup, 1)) (d4 : decode cc (pc + 4) = .ok (.ldc_w is, 3)) (d7 : decode cc (pc + 7) = .ok (.invokespecial ic, 3)) (d10 : decode cc (pc + 10) = .ok (.athrow, 1))
    (hout : ∀ x ∈ c.exceptionTable.toList, covers x (pc + 10) = false)
    (hRframes : names.length + 3 < R.frames) (hRlocals : (rest.map fun v => v.category).sum + (13 * (names.length + 1) + 43) ≤ R.locals) (hRcells : cells + 1 ≤ R.cells) (hRslots : slots + 6 ≤ R.slots) (hlocks : meth.locks = false)
    (hx : ∀ t : State, s.vm.Alike t.vm → H.size ≤ t.heap.size → (∀ q : Nat, q < H.size → t.heap[q]? = H[q]?) → XC cls s t)
    (hf : ∀ z ∈ locs, free z.base) (hc : cells + 1 ≤ mc) (hs : slots + 6 ≤ ms) :
    W p l e R s m args below meth c H locs cells slots (vx_MQ below Qc XC args s mc ms free) (F0 m pc ls rest) := by
  intro T hT X
  have htr : e.platform.stackTraces = false := (show e.platform.stackTraces = l.stackTraces by rw [X.admits.platform]).trans hl
  have Y := vx_rebase X (R' := { frames := R.frames, locals := R.locals, cells := 1, slots := 6 }) (Nat.le_refl _) (Nat.le_refl _) hRcells hRslots
  obtain ⟨s', hA⟩ : ∃ z, z = (T.setVm s.vm).setFrames (.invoking m args :: below) := ⟨_, rfl⟩
  rw [← hA] at Y
  have hvm : s'.vm = s.vm := by rw [hA]; rfl
  have hhp : s'.heap = H := by rw [hA]; exact hT
  have hW0 : s.WarmedH s'.vm := by rw [hvm]; exact State.WarmedH.refl s
  have hat' : ∀ w ∈ vx_atS own ic cls names, w.before args s' = true := fun w hw => vx_ot_at hW0 hvm.symm (hgood w (List.mem_cons_of_mem _ (List.mem_cons_of_mem _ hw))) (hat w hw)
  have hk' : (Cond.classLink own ik cls).before args s' = true := vx_ot_at hW0 hvm.symm (hgood _ List.mem_cons_self) hk
  have hini' : (Cond.initialized cls).before args s' = true := vx_ot_at hW0 hvm.symm (hgood _ (List.mem_cons_of_mem _ List.mem_cons_self)) hini
  have hU' : vx_Zq Bundle.tN "UNASSIGNED_STACK" Bundle.steD A s' s'.heap := by rw [hhp]; exact vx_Zq.moved hW0.alike (hU.kept hS.2.1)
  have hN' : vx_Zq Bundle.tN "SUPPRESSED_SENTINEL" Bundle.listD A s' s'.heap := by rw [hhp]; exact vx_Zq.moved hW0.alike (hN.kept hS.2.1)
  have h : ∀ w ∈ Bundle.ownAtoms own ic cls names, w.before args s' = true := vx_own hat' (vx_isRefq hU'.1) (vx_isRefq hN'.1) hU'.2.word hN'.2.word
  have hown' : s'.vm.findClass own = some m.cls := by rw [hvm]; exact hown
  have hins : (Cond.instantiable cls 6).before args s' = true := h _ (by simp [Bundle.ownAtoms])
  obtain ⟨vm₁, cX, kX, hfX, hkX, -, -, X₁, st1⟩ := Y.newCold hexec (own := own) (C := cls) (index := ik) (n := 6) hown' hk' hins hini'
    (g := F0 m pc ls rest) rfl (by rw [hb]; exact d0) (Nat.le_refl _) (Nat.le_refl _)
  generalize hT1 : (T.setVm vm₁).pushCell { cls := cX, slots := kX.instanceTypes.map defaultValue, vm := .none } = T1 at X₁ st1
  have hcat : (Value.ref T.heap.size).category = 1 := rfl
  have hcellA : T1.heap[T.heap.size]? = some (freshCell cX kX) := by rw [← hT1]; exact State.heap_pushCell_size _ _
  have d3' : decode c.code (pc + 3) = .ok (.dup, 1) := by rw [hb]; exact d3
  have d4' : decode c.code (pc + 4) = .ok (.ldc_w is, 3) := by rw [hb]; exact d4
  have hstr' : vk_R own is text sa s' := vk_R.warm hW0 hstr
  obtain ⟨U, hsteps, hrun, hend, hW, hsame, ce, hce, hO⟩ := X₁.ctorThrowS hexec htr (own := own) (cls := cls) (names := names) (ic := ic) hown' hcls hnames h (fun x hx => nomatch hx) hfX hkX hcellA (by rw [hhp, hT]; exact Nat.le_refl _) (msg := .ref sa) rfl
    (g := { method := m, pc := pc + 7, locals := ls, stack := .ref sa :: .ref T.heap.size :: .ref T.heap.size :: rest, locked := none }) rfl hsize rfl rfl (rest := rest) rfl
    (by rw [hb]; exact d7) (by rw [hb]; exact d10) hout hRframes (by simp only [List.map_cons, List.sum_cons, hcat]; omega) hlocks
  obtain ⟨f1, f2⟩ := vx_frame hsame
  rw [hhp] at f1 f2
  have hWs : s.WarmedH U.vm := State.WarmedH.trans hW0 hW
  have hcl : s.vm.findClass cls = some ce.cls := by
    have h9 := hO.cls
    rw [hvm] at h9
    exact h9
  have hall : s.sameButNew ({ U with vm := s.vm } : State) locs mc ms := by
    subst hA
    obtain ⟨e1, e2⟩ := hsame
    rw [State.setFrames_setFrames] at e1
    have h2 : (T.setVm s.vm).sameButNew ({ U with vm := s.vm } : State) [] (0 + 1) (0 + 6) := ⟨e1, e2⟩
    have h3 := X.same.trans h2
    rw [List.append_nil] at h3
    exact h3.mono hc hs
  refine ⟨U, ?_, .threw T.heap.size, hrun, hend, Or.inr ⟨T.heap.size, rfl, cls, ce, locs, hx U hWs.alike f1 (fun q hq => f2 q hq (fun z hz => nomatch hz)), hce, hO.vm, hcl, hWs, hall, hf⟩⟩
  refine st1 _ ?_
  show Steps p.tables e below (T1.setTop { method := m, pc := pc + 3, locals := ls, stack := .ref T.heap.size :: rest, locked := none }) _
  jvm_step X₁.here [X₁.here.top, hexec, d3', Value.category]
  exact X₁.ldcStringW hexec (own := own) (text := text) (index := is) (a := sa) hown' hstr'.1 hstr'.2
    (g := { method := m, pc := pc + 4, locals := ls, stack := .ref T.heap.size :: .ref T.heap.size :: rest, locked := none }) rfl d4' _ hsteps
end Ends
section Bodies
variable {l : Launch}
theorem vx_ofW {y : MethodName} {ws ws' : List Cond} {rm : Room} {Pc : Array Value → State → Prop} {Qc : Array Value → State → Outcome → State → Prop} {XC : String → State → State → Prop} {mc ms : Nat} {free : Addr → Prop} {cc : ByteArray} {maxL : Nat} {ret : Option FieldType}
    (hy : plainName y.cls = true) (hw : ws = Cond.code y cc maxL ret :: ws')
    (body : ∀ p e s m args below meth c s₁, BodyLoose p l y (headSpec ws rm) cc maxL ret e s m args below meth c s₁ → c.maxLocals = maxL → (∀ x ∈ c.exceptionTable.toList, False) → Pc args s →
      W p l e (headSpec ws rm).room s m args below meth c s.heap [] 0 0 (vx_MQ below Qc XC args s mc ms free) (entryFrame m args maxL)) : vx_Met l y ws rm Pc Qc XC mc ms free := by
  refine MetFree.of_bodyS (code := cc) (maxLocals := maxL) (ret := ret) hy ?_ ?_
  · intro args s m h hn
    obtain ⟨meth, c, h1, h2, h3, h4, h5, h6, -, -⟩ := Cond.code_spec hn (atoms_spec (ws := ws) h _ (by rw [hw]; exact List.mem_cons_self))
    exact ⟨meth, c, h1, h2, h3, h4, h5, h6⟩
  · intro p e s m args below meth c s₁ B hml hP _
    have hh0 : s₁.heap = s.heap := by rw [B.state]; rfl
    have ht : ∀ x ∈ c.exceptionTable.toList, False := by
      obtain ⟨meth9, c9, h1, h2, -, -, -, -, h7, -⟩ := Cond.code_spec B.named (atoms_spec (ws := ws) B.pre _ (by rw [hw]; exact List.mem_cons_self))
      cases Option.some.inj (h1.symm.trans B.method)
      cases Option.some.inj (h2.symm.trans (Stand.of_body B).code)
      intro x hx
      rw [Array.isEmpty_iff.mp h7] at hx
      cases hx
    obtain ⟨t, a1, o, b1, b2, b3⟩ := body p e s m args below meth c s₁ B hml ht hP s₁ hh0 (Stand.of_body B)
    exact ⟨t, o, a1, b1, b2, b3⟩
/-- the table of a body with handlers -/
theorem vx_table {p : Program} {x y : MethodName} {S : Spec} {cc bytes : ByteArray} {maxL maxL' : Nat} {ret ret' : Option FieldType} {e : Env} {s s₁ : State} {m : MethodId} {args : Array Value} {below : List Frame} {meth : Method} {c : Code} {hh : List (Nat × Nat × Nat × Nat)}
    (B : BodyLoose p l y S cc maxL ret e s m args below meth c s₁) (h : (Cond.codeWith y bytes maxL' ret' hh).before args s = true) : c.exceptionTable.toList = tableOf hh := by
  obtain ⟨m9, meth9, c9, hn9, h1, h2, -, -, h6, -⟩ := Cond.codeWith_spec h
  cases Option.some.inj (hn9.symm.trans B.named)
  cases Option.some.inj (h1.symm.trans B.method)
  cases Option.some.inj (h2.symm.trans (Stand.of_body B).code)
  rw [← h6, table_eq]
end Bodies
end VXA
/-! ===== END ===== -/
/-! ===== BEGIN a static call of a method with an exception table ===== -/
section VXS
variable {p : Program} {l : Launch} {e : Env} {R : Room} {s : State} {m : MethodId} {args : Array Value} {below : List Frame} {meth : Method} {c : Code} {T : State} {H : Heap} {locs : List Loc} {cells slots : Nat}
abbrev vx_CSW (R : Room) (s : State) (args : Array Value) (own : String) (index : Nat) (y : MethodName) (bytes : ByteArray) (maxL : Nat) (ret : Option FieldType) (hh : List (Nat × Nat × Nat × Nat)) (ws : List Cond) (rm : Room) (mc ms n : Nat) : Prop :=
  (rm.cells = mc ∧ rm.slots = ms ∧ rm.frames + 1 ≤ R.frames ∧ 8 + (maxL + 11) + rm.locals ≤ R.locals ∧ (∀ w ∈ ws, ∀ (a' : Array Value) (U : State), s.WarmedH U.vm → w.before a' U = true) ∧ Cond.codeWith y bytes maxL ret hh ∈ ws) ∧
  (Cond.codeWith y bytes maxL ret hh).before args s = true ∧ (Cond.initialized y.cls).before args s = true ∧ (y.cls ≠ "java/lang/invoke/MethodHandle" ∧ y.cls ≠ "java/lang/invoke/VarHandle") ∧
  (∀ sig, parseMethodDescriptor y.desc = some sig → n = sig.parameters.length) ∧ (Cond.methodLink own index y).before args s = true ∧ (Cond.static y).before args s = true
theorem vx_cwSW {own : String} {index maxL mc ms : Nat} {y : MethodName} {bytes : ByteArray} {ret : Option FieldType} {hh : List (Nat × Nat × Nat × Nat)} {Ts ws ws' : List Cond} {rm : Room} (n : Nat) (ht : ∀ w ∈ Ts, w.before args s = true) (hT : GoodIn Ts (va_wsS own index y ws)) (hw : ws = Cond.codeWith y bytes maxL ret hh :: ws') (hrc : rm.cells = mc) (hrs : rm.slots = ms)
    (hd : y.cls ≠ "java/lang/invoke/MethodHandle" ∧ y.cls ≠ "java/lang/invoke/VarHandle" ∧ (parseMethodDescriptor y.desc).map (fun d => d.parameters.length) = some n) (hR : rm.frames + 1 ≤ R.frames ∧ 8 + (maxL + 11) + rm.locals ≤ R.locals) :
    vx_CSW R s args own index y bytes maxL ret hh ws rm mc ms n := by
  have ok : ∀ w ∈ va_wsS own index y ws, w.before args s = true := fun w h => ht w (hT w h).1
  have hG : GoodIn Ts ws := fun w h => hT w (by unfold va_wsS; exact List.mem_append_right _ h)
  have hc : Cond.codeWith y bytes maxL ret hh ∈ ws := by rw [hw]; exact List.mem_cons_self
  refine ⟨⟨hrc, hrs, hR.1, hR.2, pay_in ht hG, hc⟩, ht _ (hG _ hc).1, ok _ (by simp [va_wsS]), ⟨hd.1, hd.2.1⟩, fun sig h => ?_, ok _ (by simp [va_wsS]), ok _ (by simp [va_wsS])⟩
  have h2 := hd.2.2
  rw [h] at h2
  exact (Option.some.inj h2).symm
theorem vx_callSW (X : Stand p l e R s m args below meth c T locs cells slots) (hexec : p.tables.exec = Jvm.exec) {own : String} {index : Nat} {y : MethodName} {bytes : ByteArray} {maxL : Nat} {ret : Option FieldType} {hh : List (Nat × Nat × Nat × Nat)}
    (hown : s.vm.findClass own = some m.cls) (hlink : (Cond.methodLink own index y).before args s = true) (hstat : (Cond.static y).before args s = true) (hinit : (Cond.initialized y.cls).before args s = true)
    (hcode : (Cond.codeWith y bytes maxL ret hh).before args s = true) (hy : y.cls ≠ "java/lang/invoke/MethodHandle" ∧ y.cls ≠ "java/lang/invoke/VarHandle")
    {W9 : Nat} {Pre : Pt → Array Value → Prop} {Post : Pt → Array Value → Option Value → Pt → Prop} (hK : Back l R p e below s args y 3 W9 Pre Post)
    {g : JFrame} (hg : g.method = m) (hsize : g.locals.size = c.maxLocals) {argsL rest : List Value} (hlen : ∀ sig, parseMethodDescriptor y.desc = some sig → argsL.length = sig.parameters.length)
    (hstack : g.stack = argsL.reverse ++ rest) (hW : 2 * g.monitorRoom + (rest.map fun v => v.category).sum ≤ W9) (hdg : decode c.code g.pc = .ok (.invokestatic index, 3))
    (hpre : ∀ vm₁, s.WarmedH vm₁ → Pre ⟨T.setVm vm₁, locs, cells, slots⟩ argsL.toArray) :
    ∃ (v : Option Value) (vm₁ : Vm) (B : Pt), s.WarmedH vm₁ ∧ Stand p l e R s m args below meth c B.U B.locs B.cells B.slots ∧ Post ⟨T.setVm vm₁, locs, cells, slots⟩ argsL.toArray v B ∧
      ∀ target, Steps p.tables e below (B.U.setTop { g with pc := g.pc + 3, stack := v.toList ++ rest }) target → Steps p.tables e below (T.setTop g) target := by
  obtain ⟨mk, methM, cM, hnamed, hmethM, -, -, -, -, -, -, hsigM⟩ := Cond.codeWith_spec hcode
  have hstatic : methM.isStatic = true := Cond.static_spec hnamed hmethM hstat
  obtain ⟨kP, hkP, -⟩ := className_of_methodNamed hnamed
  have hinitP : kP.init = .initialized := Cond.initialized_spec (findClass_of_methodNamed hnamed) hkP hinit
  obtain ⟨vm₁, X₁, hstep₁⟩ := X.invokestatic hexec hown hlink hnamed hmethM hstatic hkP hinitP hy (g := g) hg (argsL := argsL) (rest := rest) (hlen _ hsigM) hstack hdg
  obtain ⟨v, B, X', hpost, hsteps⟩ := hK m meth c ⟨T.setVm vm₁, locs, cells, slots⟩ { g with stack := rest } (.invokestatic index) mk argsL.toArray X₁ hg hsize hdg hW (X₁.named hnamed) (hpre vm₁ X₁.warmed)
  exact ⟨v, vm₁, B, X₁.warmed, X', hpost, fun target h => hstep₁ _ fun acts => by rw [doInvoke_state]; exact hsteps.trans h⟩
theorem vx_runSW {y : MethodName} {bytes cc : ByteArray} {maxL nL mc ms n index : Nat} {ret : Option FieldType} {hh : List (Nat × Nat × Nat × Nat)} {ws : List Cond} {rm : Room} {Pc : Array Value → State → Prop} {Qc : Array Value → State → Outcome → State → Prop} {free : Addr → Prop} {Ts : List Cond} {own : String} {As rest : List Value} {g : JFrame}
    (S : CallFix p m c cc nL s args Ts own) (hM : Met l y ws rm Pc Qc mc ms free) (cw : vx_CSW R s args own index y bytes maxL ret hh ws rm mc ms n) (hp : PreS s H Pc As)
    (hg : g.method = m) (hn : As.length = n) (hsize : g.locals.size = nL) (hstack : g.stack = As.reverse ++ rest) (hW : 2 * g.monitorRoom + (rest.map fun v => v.category).sum ≤ 8) (hdg : decode cc g.pc = .ok (.invokestatic index, 3)) (hf : cells + mc ≤ R.cells ∧ slots + ms ≤ R.slots) :
    va_Run p l e R s m args below meth c H locs cells slots mc ms g rest (Qc As.toArray) (free) := by
  obtain ⟨⟨hrc, hrs, hfr, hlo, hws, hcw⟩, hcode, hini, hy, hlen, hl, hstt⟩ := cw
  have hK : Back l R p e below s args y 3 8 (PreOf R mc ms Pc) (PostOf Qc mc ms free) := va_backW (hh := hh) (bytes := bytes) (maxL := maxL) (ret := ret) hM hp.1 hrc hrs hfr hlo hws hcw (fun a' U hW => word_at hW (Or.inl (by first | rfl | simp [Cond.onTables, Cond.keeps, Cond.steady])) hini)
  obtain ⟨hx, hb, hml, ho, -⟩ := S
  intro T hT X
  obtain ⟨v, vm₁, ⟨U', l2, c2, s2⟩, hW₁, X', ⟨g', mk, t, L, e1, e2, hq, h1, hL, h2, h3⟩, st⟩ := vx_callSW X hx (hh := hh) (bytes := bytes) (maxL := maxL) (ret := ret) ho hl hstt hini hcode hy hK hg (hsize.trans hml.symm) (argsL := As) (rest := rest) (fun sig h => hn.trans (hlen sig h)) hstack hW (by rw [hb]; exact hdg)
    (fun vm₁ hW₁ => ⟨hf.1, hf.2, hp.2 (T.setVm vm₁) hT hW₁⟩)
  dsimp only [Pt.U, Pt.locs, Pt.cells, Pt.slots] at X' e1 e2 h1 h2 h3 st
  subst h1; subst h2; subst h3
  exact ⟨v, (T.setVm vm₁).calling g' mk As.toArray, t, U', L, hT, X', hL, e1, e2, hq, st⟩
/-- not caught here, past rows that name other classes: it goes on to the caller -/
theorem vx_outP {p : Program} {l : Launch} {e : Env} {R : Room} {s : State} {m : MethodId} {args : Array Value} {below : List Frame} {meth : Method} {c : Code} {H : Heap} {locs : List Loc} {cells slots : Nat} {free : Addr → Prop} {ls : Array Slot} {rest : List Value} {Qc : Array Value → State → Outcome → State → Prop} {XC : String → State → State → Prop}
    {pc : Nat} {own E : String} {ce : Cell} {q : Addr} {mc ms : Nat} (hown : s.vm.findClass own = some m.cls) (hlocks : meth.locks = false)
    (hpass : ∀ z ∈ c.exceptionTable.toList, covers z pc = false ∨ (z.catchType ≠ 0 ∧ ∃ nm : String, (Cond.classLink own z.catchType nm).before args s = true ∧ va_Nc E nm s)) (hcell : H[q]? = some ce) (hv : ce.vm = .none) (hcl : s.vm.findClass E = some ce.cls)
    (hx : ∀ t : State, t.heap = H → s.vm.Alike t.vm → XC E s t) (hf : ∀ z ∈ locs, free z.base) (hc : cells ≤ mc) (hs : slots ≤ ms) :
    vx_W p l e R s m args below meth c H locs cells slots (vx_MQ below Qc XC args s mc ms free) (F0 m pc ls rest) q := by
  intro T hT X
  have hpl : e.platform.magicAccessors = ({} : Platform).magicAccessors := by rw [X.admits.platform]
  obtain ⟨vm', hW', X', st⟩ := X.outThrough hlocks q (g := F0 m pc ls rest) rfl rfl rfl (cell := ce) (by rw [hT]; exact hcell) (by rw [hv]; rfl)
    (by obtain ⟨k9, h9, -⟩ := Vm.findClass_spec hcl; exact ⟨k9, h9⟩) (fun z hz => by
      rcases hpass z hz with h | ⟨hz0, nm, hl1, hn1⟩
      · exact Or.inl h
      · obtain ⟨c6, hc6, hcl6⟩ := Cond.classLink_spec hown hl1 e.platform hpl
        obtain ⟨a8, b8, h1, h2, h3⟩ := hn1
        cases Option.some.inj (h1.symm.trans hcl)
        cases Option.some.inj (h2.symm.trans hc6)
        exact Or.inr ⟨hz0, _, hcl6, h3⟩)
  obtain ⟨g₀, hfr⟩ := X'.frames_eq
  have hcell9 : ((T.setVm vm').setFrames (.throwing q :: below)).heap[q]? = some ce := by
    show T.heap[q]? = some ce
    rw [hT]; exact hcell
  have hend : Ended ((T.setVm vm').setFrames (.throwing q :: below)) below (.threw q) := State.frames_setFrames _ (State.cur_lt_of_frames hfr)
  refine ⟨(T.setVm vm').setFrames (.throwing q :: below), ?_, .threw q, X'.here.running, hend, Or.inr ⟨q, rfl, E, ce, locs, hx _ hT (X'.ends _).1.alike, hcell9, hv, hcl, (X'.ends _).1, (X'.ends _).2.mono hc hs, hf⟩⟩
  rw [X.pushThrowing_eq]
  exact st
/-- a thing of a world lies in the heap -/
theorem vx_lt {D : va_G} {cl : List vw_C} {ws : va_W} {H1 : Heap} (h : va_P D cl ws H1) {k : Nat} {q : Nat × va_E} (hk : ws[k]? = some q) : q.1 < H1.size := (h k q hk).lt
end VXS
/-! ===== END ===== -/
/-! ===== BEGIN methods with a table of their own: called by a name, returning or throwing ===== -/
section VXH
/-! vx_backW, vx_callVX, vx_callSX, vx_callVW, vx_runVW, vx_runVX, vx_runSX, vx_ofWH follow the same proofs as their sisters above (Free/Laws.lean, Shelf42/LK1.lean); vx_outP calls Shelf42/NT130.lean (outThrough). -/
section
variable {l : Launch} {R : Room} {p : Program} {e : Env} {below : List Frame} {s : State} {sargs : Array Value} {y : MethodName} {len W9 : Nat}
theorem vx_backW {ws : List Cond} {rm : Room} {Pc : Array Value → State → Prop} {Qc : Array Value → State → Outcome → State → Prop} {XC : String → State → State → Prop} {mc ms : Nat} {free : Addr → Prop} {bytes : ByteArray} {maxL : Nat} {ret : Option FieldType} {hh : List (Nat × Nat × Nat × Nat)}
    (hM : vx_Met l y ws rm Pc Qc XC mc ms free) (hblind : FrameBlind Pc) (hrc : rm.cells = mc) (hrs : rm.slots = ms)
    (hframes : rm.frames + 1 ≤ R.frames) (hlocals : W9 + (maxL + 11) + rm.locals ≤ R.locals)
    (hws : ∀ w ∈ ws, ∀ a' U, s.WarmedH U.vm → w.before a' U = true) (hcode : Cond.codeWith y bytes maxL ret hh ∈ ws) (hinit : ∀ a' U, s.WarmedH U.vm → (Cond.initialized y.cls).before a' U = true) :
    vx_Back l R p e below s sargs y len W9 (PreOf R mc ms Pc) (PostOf Qc mc ms free) (vx_Post XC mc ms free) := by
  intro m meth c A g ig mk a X hg hsize hdg hW hn hp
  have h1 : (headSpec ws rm).pre.before a A.U = true := atoms_intro fun w hw => hws w hw _ _ X.warmed
  have h2 : (Cond.codeWith y bytes maxL ret hh).before a A.U = true := hws _ hcode _ _ X.warmed
  have h3 : (Cond.initialized y.cls).before a A.U = true := hinit _ _ X.warmed
  have h4 : A.cells + (headSpec ws rm).room.cells ≤ R.cells := by rw [show (headSpec ws rm).room.cells = mc from hrc]; exact hp.1
  have h5 : A.slots + (headSpec ws rm).room.slots ≤ R.slots := by rw [show (headSpec ws rm).room.slots = ms from hrs]; exact hp.2.1
  have hPc : Pc a (A.U.calling g mk a) := hblind _ _ _ _ hp.2.2
  obtain ⟨U, Ls, c0, s0⟩ := A
  dsimp only [Pt.U, Pt.locs, Pt.cells, Pt.slots] at h1 h2 h3 h4 h5 X hn hPc ⊢
  obtain ⟨m9, methY, cY, hn9, hmY, hcY, -, hlY, -⟩ := Cond.codeWith_spec h2
  cases Option.some.inj (hn9.symm.trans hn)
  obtain ⟨kY, hkY, -⟩ := className_of_methodNamed hn
  have hinitY : kY.init = .initialized := Cond.initialized_spec (findClass_of_methodNamed hn) hkY h3
  have h : At U g.method c below := by rw [hg]; exact X.here
  have hlocals9 : W9 + (maxL + 11) + (headSpec ws rm).room.locals ≤ R.locals := hlocals
  have happ : (headSpec ws rm).appliesLoose y e.platform (U.calling g mk a) = true :=
    Spec.appliesLoose_calling (g := g) h hdg hn hkY hinitY
      (X.room_calling (g := g) (R' := (headSpec ws rm).room) hsize hmY hcY hframes (by rw [hlY]; omega) h4 h5) h1
  obtain ⟨mid, hmid⟩ := h.above
  have hfr : (U.setTop g).frames = (.java g :: mid) ++ below := by rw [State.frames_setTop' g h.top, hmid]; rfl
  obtain ⟨o, s₂, hsteps, -, hend, hq⟩ := Steps.callFree hM p X.admits X.cas X.clock (acts := []) hfr happ hPc trivial
  have hq' : vx_Q Qc XC mc ms free a (U.calling g mk a) o s₂ := hq
  rw [State.frames_setTop' g h.top] at hend
  obtain ⟨g₀, hg0⟩ := Option.isSome_iff_exists.mp h.top
  obtain ⟨r, hr⟩ := State.topJava?_eq_some.mp hg0
  have hr' : (({ U with heap := s₂.heap, slotsUsed := s₂.slotsUsed } : State).setVm s₂.vm).frames = .java g₀ :: r := hr
  rcases hq' with ⟨hqc, L, hfe, hL⟩ | ⟨q, rfl, E, ce, L, hx, hce, hcv, hcl, hW₂, hsm, hL⟩
  · obtain ⟨⟨v, rfl⟩, hW₂, e2, q2, q3, q4, q5, q6⟩ := id hfe
    have e3 : s₂ = ({ (U.calling g mk a).setFrames s₂.frames with heap := s₂.heap, slotsUsed := s₂.slotsUsed } : State).setVm s₂.vm := by
      have : s₂ = ({ s₂ with vm := (U.calling g mk a).vm } : State).setVm s₂.vm := rfl
      rw [e2] at this
      exact this
    obtain ⟨c₂, i₂, len₂, hc₂, hd₂, hf₂⟩ := hend
    have hW' : U.WarmedH s₂.vm := hW₂
    have hcc : c₂ = c := by
      have h1 : s₂.code? g.method = U.code? g.method := by
        rw [State.code?_eq, State.code?_eq, hW'.alike.method?]
      exact Option.some.inj (hc₂.symm.trans (h1.trans h.code))
    subst hcc
    have hlen : len₂ = len := by rw [hdg] at hd₂; cases hd₂; rfl
    subst hlen
    have hs₂ : s₂ = (({ U with heap := s₂.heap, slotsUsed := s₂.slotsUsed } : State).setVm s₂.vm).setTop { g with pc := g.pc + len₂, stack := v.toList ++ g.stack } := by
      refine e3.trans ?_
      rw [hf₂, State.calling_eq h.top, State.setFrames_setFrames, State.setTop_of_frames _ hr', hr]
      rfl
    have hsame : U.sameButNew ({ U with heap := s₂.heap, slotsUsed := s₂.slotsUsed } : State) L mc ms := by
      refine ⟨?_, q2, q3, q4, q5, q6⟩
      obtain ⟨t, ht, -⟩ := State.frames_cons hr
      show ({ U with heap := s₂.heap, slotsUsed := s₂.slotsUsed } : State) = { U.setFrames U.frames with heap := s₂.heap, slotsUsed := s₂.slotsUsed }
      rw [State.setFrames_self ht]
    subst hg
    refine Or.inl ⟨v, ⟨(({ U with heap := s₂.heap, slotsUsed := s₂.slotsUsed } : State).setVm s₂.vm), Ls ++ L, c0 + mc, s0 + ms⟩,
      ⟨X.admits, X.cas, X.clock, X.frames, X.room, X.hears, X.method, X.code, (X.here.setHeapUsed s₂.heap s₂.slotsUsed).setVm hW'.alike, X.tail, State.WarmedH.trans X.warmed hW', X.limits, X.bytes, X.same.trans (hsame.setVm s.vm)⟩,
      ⟨g, mk, s₂, L, rfl, rfl, hqc, rfl, hL, rfl, rfl⟩, ?_⟩
    show Steps p.tables e below _ ((({ U with heap := s₂.heap, slotsUsed := s₂.slotsUsed } : State).setVm s₂.vm).setTop { g with pc := g.pc + len₂, stack := v.toList ++ g.stack })
    rw [← hs₂]
    exact hsteps
  · obtain ⟨e2, q2, q3, q4, q5, q6⟩ := id hsm
    have e3 : s₂ = ({ (U.calling g mk a).setFrames s₂.frames with heap := s₂.heap, slotsUsed := s₂.slotsUsed } : State).setVm s₂.vm := by
      have : s₂ = ({ s₂ with vm := (U.calling g mk a).vm } : State).setVm s₂.vm := rfl
      rw [e2] at this
      exact this
    have hf₂ : s₂.frames = .throwing q :: .java g :: U.frames.tail := hend
    have hW' : U.WarmedH s₂.vm := hW₂
    have hs₂ : s₂ = ((({ U with heap := s₂.heap, slotsUsed := s₂.slotsUsed } : State).setVm s₂.vm).setTop g).pushFrame (.throwing q) := by
      refine e3.trans ?_
      rw [hf₂, State.calling_eq h.top, State.setFrames_setFrames, State.pushFrame, State.frames_setTop _ hr', State.setTop_of_frames _ hr', State.setFrames_setFrames, hr]
      rfl
    have hsame : U.sameButNew ({ U with heap := s₂.heap, slotsUsed := s₂.slotsUsed } : State) L mc ms := by
      refine ⟨?_, q2, q3, q4, q5, q6⟩
      obtain ⟨t, ht, -⟩ := State.frames_cons hr
      show ({ U with heap := s₂.heap, slotsUsed := s₂.slotsUsed } : State) = { U.setFrames U.frames with heap := s₂.heap, slotsUsed := s₂.slotsUsed }
      rw [State.setFrames_self ht]
    subst hg
    refine Or.inr ⟨q, ⟨(({ U with heap := s₂.heap, slotsUsed := s₂.slotsUsed } : State).setVm s₂.vm), Ls ++ L, c0 + mc, s0 + ms⟩,
      ⟨X.admits, X.cas, X.clock, X.frames, X.room, X.hears, X.method, X.code, (X.here.setHeapUsed s₂.heap s₂.slotsUsed).setVm hW'.alike, X.tail, State.WarmedH.trans X.warmed hW', X.limits, X.bytes, X.same.trans (hsame.setVm s.vm)⟩,
      ⟨g, mk, s₂, L, E, ce, rfl, rfl, hx, hce, hcv, hcl, rfl, hL, rfl, rfl⟩, ?_⟩
    show Steps p.tables e below _ (((({ U with heap := s₂.heap, slotsUsed := s₂.slotsUsed } : State).setVm s₂.vm).setTop g).pushFrame (.throwing q))
    rw [← hs₂]
    exact hsteps
end
variable {p : Program} {l : Launch} {e : Env} {R : Room} {s : State} {m : MethodId} {args : Array Value} {below : List Frame} {meth : Method} {c : Code} {T : State} {H : Heap} {locs : List Loc} {cells slots : Nat}
theorem vx_callVX (X : Stand p l e R s m args below meth c T locs cells slots) (hexec : p.tables.exec = Jvm.exec) {own C : String} {index : Nat} {y : MethodName} {bytes : ByteArray} {maxL : Nat} {ret : Option FieldType} {hh : List (Nat × Nat × Nat × Nat)}
    (hown : s.vm.findClass own = some m.cls) (hlink : (Cond.methodLink own index y).before args s = true) (hinst : (Cond.instanceMethod y).before args s = true) (hsel : (Cond.selects C y y).before args s = true)
    (hcode : (Cond.codeWith y bytes maxL ret hh).before args s = true) (hy : y.cls ≠ "java/lang/invoke/MethodHandle" ∧ y.cls ≠ "java/lang/invoke/VarHandle")
    {W9 : Nat} {Pre : Pt → Array Value → Prop} {Post : Pt → Array Value → Option Value → Pt → Prop} {PostX : Pt → Array Value → Addr → Pt → Prop} (hK : vx_Back l R p e below s args y 3 W9 Pre Post PostX)
    {b : Addr} {cellB : Cell} (hcell : T.heap[b]? = some cellB) (hobj : cellB.vm.isStatics = false) (hcls : s.vm.findClass C = some cellB.cls)
    {g : JFrame} (hg : g.method = m) (hsize : g.locals.size = c.maxLocals) {argsL rest : List Value} (hlen : ∀ sig, parseMethodDescriptor y.desc = some sig → argsL.length = sig.parameters.length)
    (hstack : g.stack = argsL.reverse ++ .ref b :: rest) (hW : 2 * g.monitorRoom + (rest.map fun v => v.category).sum ≤ W9) (hdg : decode c.code g.pc = .ok (.invokevirtual index, 3))
    (hpre : ∀ vm₁, s.WarmedH vm₁ → Pre ⟨T.setVm vm₁, locs, cells, slots⟩ (Value.ref b :: argsL).toArray) :
    (∃ (v : Option Value) (vm₁ : Vm) (B : Pt), s.WarmedH vm₁ ∧ Stand p l e R s m args below meth c B.U B.locs B.cells B.slots ∧ Post ⟨T.setVm vm₁, locs, cells, slots⟩ (Value.ref b :: argsL).toArray v B ∧
      ∀ target, Steps p.tables e below (B.U.setTop { g with pc := g.pc + 3, stack := v.toList ++ rest }) target → Steps p.tables e below (T.setTop g) target) ∨
    (∃ (q : Addr) (vm₁ : Vm) (B : Pt), s.WarmedH vm₁ ∧ Stand p l e R s m args below meth c B.U B.locs B.cells B.slots ∧ PostX ⟨T.setVm vm₁, locs, cells, slots⟩ (Value.ref b :: argsL).toArray q B ∧
      Steps p.tables e below (T.setTop g) ((B.U.setTop { g with stack := rest }).pushFrame (.throwing q))) := by
  obtain ⟨mk, methM, hnamed, hmethM, hstM, habM⟩ := Cond.instanceMethod_spec hinst
  obtain ⟨m8, methM', cM, hn8, hmethM', -, -, -, -, -, -, hsigM⟩ := Cond.codeWith_spec hcode
  cases Option.some.inj (hn8.symm.trans hnamed)
  cases hmethM.symm.trans hmethM'
  obtain ⟨c2, r2, m2, q1, q2, q3, q4, kP, hkP, hkPi⟩ := Cond.selects_spec hsel
  cases hcls.symm.trans q1
  cases (State.methodFound?_of_named hnamed hy).symm.trans q2
  cases hnamed.symm.trans q3
  have hselP : selectMethod e.platform s.vm cellB.cls mk = .method mk := by rw [Launch.admits_selectMethod X.admits]; exact q4
  obtain ⟨vm₁, X₁, hstep₁⟩ := X.invokevirtual hexec hown hlink hnamed hmethM hstM hkP hkPi hy (a := b) (cell := cellB) hcell
    (fun z h => by rw [h] at hobj; cases hobj) hselP hmethM habM hkP hkPi (g := g) hg (argsL := argsL) (rest := rest) (hlen _ hsigM) hstack hdg
  rcases hK m meth c ⟨T.setVm vm₁, locs, cells, slots⟩ { g with stack := rest } (.invokevirtual index) mk (Value.ref b :: argsL).toArray X₁ hg hsize hdg hW (X₁.named hnamed) (hpre vm₁ X₁.warmed) with ⟨v, B, X', hpost, hsteps⟩ | ⟨q, B, X', hpost, hsteps⟩
  · exact Or.inl ⟨v, vm₁, B, X₁.warmed, X', hpost, fun target h => hstep₁ _ fun acts => by rw [doInvoke_state]; exact hsteps.trans h⟩
  · exact Or.inr ⟨q, vm₁, B, X₁.warmed, X', hpost, hstep₁ _ fun acts => by rw [doInvoke_state]; exact hsteps⟩
theorem vx_callSX (X : Stand p l e R s m args below meth c T locs cells slots) (hexec : p.tables.exec = Jvm.exec) {own : String} {index : Nat} {y : MethodName} {bytes : ByteArray} {maxL : Nat} {ret : Option FieldType} {hh : List (Nat × Nat × Nat × Nat)}
    (hown : s.vm.findClass own = some m.cls) (hlink : (Cond.methodLink own index y).before args s = true) (hstat : (Cond.static y).before args s = true) (hinit : (Cond.initialized y.cls).before args s = true)
    (hcode : (Cond.codeWith y bytes maxL ret hh).before args s = true) (hy : y.cls ≠ "java/lang/invoke/MethodHandle" ∧ y.cls ≠ "java/lang/invoke/VarHandle")
    {W9 : Nat} {Pre : Pt → Array Value → Prop} {Post : Pt → Array Value → Option Value → Pt → Prop} {PostX : Pt → Array Value → Addr → Pt → Prop} (hK : vx_Back l R p e below s args y 3 W9 Pre Post PostX)
    {g : JFrame} (hg : g.method = m) (hsize : g.locals.size = c.maxLocals) {argsL rest : List Value} (hlen : ∀ sig, parseMethodDescriptor y.desc = some sig → argsL.length = sig.parameters.length)
    (hstack : g.stack = argsL.reverse ++ rest) (hW : 2 * g.monitorRoom + (rest.map fun v => v.category).sum ≤ W9) (hdg : decode c.code g.pc = .ok (.invokestatic index, 3))
    (hpre : ∀ vm₁, s.WarmedH vm₁ → Pre ⟨T.setVm vm₁, locs, cells, slots⟩ argsL.toArray) :
    (∃ (v : Option Value) (vm₁ : Vm) (B : Pt), s.WarmedH vm₁ ∧ Stand p l e R s m args below meth c B.U B.locs B.cells B.slots ∧ Post ⟨T.setVm vm₁, locs, cells, slots⟩ argsL.toArray v B ∧
      ∀ target, Steps p.tables e below (B.U.setTop { g with pc := g.pc + 3, stack := v.toList ++ rest }) target → Steps p.tables e below (T.setTop g) target) ∨
    (∃ (q : Addr) (vm₁ : Vm) (B : Pt), s.WarmedH vm₁ ∧ Stand p l e R s m args below meth c B.U B.locs B.cells B.slots ∧ PostX ⟨T.setVm vm₁, locs, cells, slots⟩ argsL.toArray q B ∧
      Steps p.tables e below (T.setTop g) ((B.U.setTop { g with stack := rest }).pushFrame (.throwing q))) := by
  obtain ⟨mk, methM, cM, hnamed, hmethM, -, -, -, -, -, -, hsigM⟩ := Cond.codeWith_spec hcode
  have hstatic : methM.isStatic = true := Cond.static_spec hnamed hmethM hstat
  obtain ⟨kP, hkP, -⟩ := className_of_methodNamed hnamed
  have hinitP : kP.init = .initialized := Cond.initialized_spec (findClass_of_methodNamed hnamed) hkP hinit
  obtain ⟨vm₁, X₁, hstep₁⟩ := X.invokestatic hexec hown hlink hnamed hmethM hstatic hkP hinitP hy (g := g) hg (argsL := argsL) (rest := rest) (hlen _ hsigM) hstack hdg
  rcases hK m meth c ⟨T.setVm vm₁, locs, cells, slots⟩ { g with stack := rest } (.invokestatic index) mk argsL.toArray X₁ hg hsize hdg hW (X₁.named hnamed) (hpre vm₁ X₁.warmed) with ⟨v, B, X', hpost, hsteps⟩ | ⟨q, B, X', hpost, hsteps⟩
  · exact Or.inl ⟨v, vm₁, B, X₁.warmed, X', hpost, fun target h => hstep₁ _ fun acts => by rw [doInvoke_state]; exact hsteps.trans h⟩
  · exact Or.inr ⟨q, vm₁, B, X₁.warmed, X', hpost, hstep₁ _ fun acts => by rw [doInvoke_state]; exact hsteps⟩
theorem vx_callVW (X : Stand p l e R s m args below meth c T locs cells slots) (hexec : p.tables.exec = Jvm.exec) {own C : String} {index : Nat} {y : MethodName} {bytes : ByteArray} {maxL : Nat} {ret : Option FieldType} {hh : List (Nat × Nat × Nat × Nat)}
    (hown : s.vm.findClass own = some m.cls) (hlink : (Cond.methodLink own index y).before args s = true) (hinst : (Cond.instanceMethod y).before args s = true) (hsel : (Cond.selects C y y).before args s = true)
    (hcode : (Cond.codeWith y bytes maxL ret hh).before args s = true) (hy : y.cls ≠ "java/lang/invoke/MethodHandle" ∧ y.cls ≠ "java/lang/invoke/VarHandle")
    {W9 : Nat} {Pre : Pt → Array Value → Prop} {Post : Pt → Array Value → Option Value → Pt → Prop} (hK : Back l R p e below s args y 3 W9 Pre Post)
    {b : Addr} {cellB : Cell} (hcell : T.heap[b]? = some cellB) (hobj : cellB.vm.isStatics = false) (hcls : s.vm.findClass C = some cellB.cls)
    {g : JFrame} (hg : g.method = m) (hsize : g.locals.size = c.maxLocals) {argsL rest : List Value} (hlen : ∀ sig, parseMethodDescriptor y.desc = some sig → argsL.length = sig.parameters.length)
    (hstack : g.stack = argsL.reverse ++ .ref b :: rest) (hW : 2 * g.monitorRoom + (rest.map fun v => v.category).sum ≤ W9) (hdg : decode c.code g.pc = .ok (.invokevirtual index, 3))
    (hpre : ∀ vm₁, s.WarmedH vm₁ → Pre ⟨T.setVm vm₁, locs, cells, slots⟩ (Value.ref b :: argsL).toArray) :
    ∃ (v : Option Value) (vm₁ : Vm) (B : Pt), s.WarmedH vm₁ ∧ Stand p l e R s m args below meth c B.U B.locs B.cells B.slots ∧ Post ⟨T.setVm vm₁, locs, cells, slots⟩ (Value.ref b :: argsL).toArray v B ∧
      ∀ target, Steps p.tables e below (B.U.setTop { g with pc := g.pc + 3, stack := v.toList ++ rest }) target → Steps p.tables e below (T.setTop g) target := by
  obtain ⟨mk, methM, hnamed, hmethM, hstM, habM⟩ := Cond.instanceMethod_spec hinst
  obtain ⟨m8, methM', cM, hn8, hmethM', -, -, -, -, -, -, hsigM⟩ := Cond.codeWith_spec hcode
  cases Option.some.inj (hn8.symm.trans hnamed)
  cases hmethM.symm.trans hmethM'
  obtain ⟨c2, r2, m2, q1, q2, q3, q4, kP, hkP, hkPi⟩ := Cond.selects_spec hsel
  cases hcls.symm.trans q1
  cases (State.methodFound?_of_named hnamed hy).symm.trans q2
  cases hnamed.symm.trans q3
  have hselP : selectMethod e.platform s.vm cellB.cls mk = .method mk := by rw [Launch.admits_selectMethod X.admits]; exact q4
  obtain ⟨vm₁, X₁, hstep₁⟩ := X.invokevirtual hexec hown hlink hnamed hmethM hstM hkP hkPi hy (a := b) (cell := cellB) hcell
    (fun z h => by rw [h] at hobj; cases hobj) hselP hmethM habM hkP hkPi (g := g) hg (argsL := argsL) (rest := rest) (hlen _ hsigM) hstack hdg
  obtain ⟨v, B, X', hpost, hsteps⟩ := hK m meth c ⟨T.setVm vm₁, locs, cells, slots⟩ { g with stack := rest } (.invokevirtual index) mk (Value.ref b :: argsL).toArray X₁ hg hsize hdg hW (X₁.named hnamed) (hpre vm₁ X₁.warmed)
  exact ⟨v, vm₁, B, X₁.warmed, X', hpost, fun target h => hstep₁ _ fun acts => by rw [doInvoke_state]; exact hsteps.trans h⟩
abbrev vx_CVW (R : Room) (s : State) (args : Array Value) (own C : String) (index : Nat) (y : MethodName) (bytes : ByteArray) (maxL : Nat) (ret : Option FieldType) (hh : List (Nat × Nat × Nat × Nat)) (ws : List Cond) (rm : Room) (mc ms n : Nat) : Prop :=
  (rm.cells = mc ∧ rm.slots = ms ∧ rm.frames + 1 ≤ R.frames ∧ 8 + (maxL + 11) + rm.locals ≤ R.locals ∧ (∀ w ∈ ws, ∀ (a' : Array Value) (U : State), s.WarmedH U.vm → w.before a' U = true) ∧ Cond.codeWith y bytes maxL ret hh ∈ ws) ∧
  (Cond.codeWith y bytes maxL ret hh).before args s = true ∧ (Cond.initialized y.cls).before args s = true ∧ (y.cls ≠ "java/lang/invoke/MethodHandle" ∧ y.cls ≠ "java/lang/invoke/VarHandle") ∧
  (∀ sig, parseMethodDescriptor y.desc = some sig → n = sig.parameters.length) ∧ (Cond.methodLink own index y).before args s = true ∧ (Cond.instanceMethod y).before args s = true ∧ (Cond.selects C y y).before args s = true
theorem vx_cwVW {own C : String} {index maxL mc ms : Nat} {y : MethodName} {bytes : ByteArray} {ret : Option FieldType} {hh : List (Nat × Nat × Nat × Nat)} {Ts ws ws' : List Cond} {rm : Room} (n : Nat) (ht : ∀ w ∈ Ts, w.before args s = true) (hT : GoodIn Ts (wsV own index C y ws)) (hw : ws = Cond.codeWith y bytes maxL ret hh :: ws') (hrc : rm.cells = mc) (hrs : rm.slots = ms)
    (hd : y.cls = C ∧ y.cls ≠ "java/lang/invoke/MethodHandle" ∧ y.cls ≠ "java/lang/invoke/VarHandle" ∧ (parseMethodDescriptor y.desc).map (fun d => d.parameters.length) = some n) (hR : rm.frames + 1 ≤ R.frames ∧ 8 + (maxL + 11) + rm.locals ≤ R.locals) :
    vx_CVW R s args own C index y bytes maxL ret hh ws rm mc ms n := by
  obtain ⟨hC, hd⟩ := hd
  subst hC
  have ok : ∀ w ∈ wsV own index y.cls y ws, w.before args s = true := fun w h => ht w (hT w h).1
  have hG : GoodIn Ts ws := fun w h => hT w (by unfold wsV; exact List.mem_append_right _ h)
  have hc : Cond.codeWith y bytes maxL ret hh ∈ ws := by rw [hw]; exact List.mem_cons_self
  refine ⟨⟨hrc, hrs, hR.1, hR.2, pay_in ht hG, hc⟩, ht _ (hG _ hc).1, ok _ (by simp [wsV]), ⟨hd.1, hd.2.1⟩, fun sig h => ?_, ok _ (by simp [wsV]), ok _ (by simp [wsV]), ok _ (by simp [wsV])⟩
  have h2 := hd.2.2
  rw [h] at h2
  exact (Option.some.inj h2).symm
theorem vx_runVW {y : MethodName} {bytes cc : ByteArray} {maxL nL mc ms n index : Nat} {ret : Option FieldType} {hh : List (Nat × Nat × Nat × Nat)} {ws : List Cond} {rm : Room} {Pc : Array Value → State → Prop} {Qc : Array Value → State → Outcome → State → Prop} {free : Addr → Prop} {Ts : List Cond} {own C : String} {b : Addr} {As rest : List Value} {g : JFrame}
    (S : CallFix p m c cc nL s args Ts own) (hM : Met l y ws rm Pc Qc mc ms free) (cw : vx_CVW R s args own C index y bytes maxL ret hh ws rm mc ms n) (hp : PreV s H C b Pc As)
    (hg : g.method = m) (hn : As.length = n) (hsize : g.locals.size = nL) (hstack : g.stack = As.reverse ++ .ref b :: rest) (hW : 2 * g.monitorRoom + (rest.map fun v => v.category).sum ≤ 8) (hdg : decode cc g.pc = .ok (.invokevirtual index, 3)) (hf : cells + mc ≤ R.cells ∧ slots + ms ≤ R.slots) :
    va_Run p l e R s m args below meth c H locs cells slots mc ms g rest (Qc (Value.ref b :: As).toArray) free := by
  obtain ⟨⟨hrc, hrs, hfr, hlo, hws, hcw⟩, hcode, hini, hy, hlen, hl, hin, hse⟩ := cw
  have hK : Back l R p e below s args y 3 8 (PreOf R mc ms Pc) (PostOf Qc mc ms free) := va_backW (hh := hh) (bytes := bytes) (maxL := maxL) (ret := ret) hM hp.1 hrc hrs hfr hlo hws hcw (fun a' U hW => word_at hW (Or.inl (by first | rfl | simp [Cond.onTables, Cond.keeps, Cond.steady])) hini)
  obtain ⟨hx, hb, hml, ho, -⟩ := S
  obtain ⟨-, ⟨cellB, hcB, hoB, hclB⟩, hPc⟩ := hp
  intro T hT X
  obtain ⟨v, vm₁, ⟨U', l2, c2, s2⟩, hW₁, X', ⟨g', mk, t, L, e1, e2, hq, h1, hL, h2, h3⟩, st⟩ := vx_callVW X hx (C := C) (hh := hh) (bytes := bytes) (maxL := maxL) (ret := ret) ho hl hin hse hcode hy hK (by rw [hT]; exact hcB) hoB hclB hg (hsize.trans hml.symm) (argsL := As) (rest := rest) (fun sig h => hn.trans (hlen sig h)) hstack hW (by rw [hb]; exact hdg)
    (fun vm₁ hW₁ => ⟨hf.1, hf.2, hPc (T.setVm vm₁) hT hW₁⟩)
  dsimp only [Pt.U, Pt.locs, Pt.cells, Pt.slots] at X' e1 e2 h1 h2 h3 st
  subst h1; subst h2; subst h3
  exact ⟨v, (T.setVm vm₁).calling g' mk (Value.ref b :: As).toArray, t, U', L, hT, X', hL, e1, e2, hq, st⟩
section
variable {y : MethodName} {bytes cc : ByteArray} {maxL nL mc ms n index : Nat} {ret : Option FieldType} {ws : List Cond} {rm : Room} {Pc : Array Value → State → Prop} {Qc : Array Value → State → Outcome → State → Prop} {XC : String → State → State → Prop} {free : Addr → Prop} {Ts : List Cond} {own C : String} {b : Addr} {As rest : List Value} {g : JFrame}
theorem vx_runVX {hh : List (Nat × Nat × Nat × Nat)} (S : CallFix p m c cc nL s args Ts own) (hM : vx_Met l y ws rm Pc Qc XC mc ms free) (cw : vx_CVW R s args own C index y bytes maxL ret hh ws rm mc ms n) (hp : PreV s H C b Pc As)
    (hg : g.method = m) (hn : As.length = n) (hsize : g.locals.size = nL) (hstack : g.stack = As.reverse ++ .ref b :: rest) (hW : 2 * g.monitorRoom + (rest.map fun v => v.category).sum ≤ 8) (hdg : decode cc g.pc = .ok (.invokevirtual index, 3)) (hf : cells + mc ≤ R.cells ∧ slots + ms ≤ R.slots) :
    vx_Run p l e R s m args below meth c H locs cells slots mc ms g rest (Qc (Value.ref b :: As).toArray) XC free := by
  obtain ⟨⟨hrc, hrs, hfr, hlo, hws, hcw⟩, hcode, hini, hy, hlen, hl, hin, hse⟩ := cw
  have hK : vx_Back l R p e below s args y 3 8 (PreOf R mc ms Pc) (PostOf Qc mc ms free) (vx_Post XC mc ms free) := vx_backW (hh := hh) (bytes := bytes) (maxL := maxL) (ret := ret) hM hp.1 hrc hrs hfr hlo hws hcw (fun a' U hW => word_at hW (Or.inl (by first | rfl | simp [Cond.onTables, Cond.keeps, Cond.steady])) hini)
  obtain ⟨hx, hb, hml, ho, -⟩ := S
  obtain ⟨-, ⟨cellB, hcB, hoB, hclB⟩, hPc⟩ := hp
  intro T hT X
  rcases vx_callVX X hx (C := C) (hh := hh) (bytes := bytes) (maxL := maxL) (ret := ret) ho hl hin hse hcode hy hK (by rw [hT]; exact hcB) hoB hclB hg (hsize.trans hml.symm) (argsL := As) (rest := rest) (fun sig h => hn.trans (hlen sig h)) hstack hW (by rw [hb]; exact hdg)
    (fun vm₁ hW₁ => ⟨hf.1, hf.2, hPc (T.setVm vm₁) hT hW₁⟩) with ⟨v, vm₁, ⟨U', l2, c2, s2⟩, hW₁, X', ⟨g', mk, t, L, e1, e2, hq, h1, hL, h2, h3⟩, st⟩ | ⟨q, vm₁, ⟨U', l2, c2, s2⟩, hW₁, X', ⟨g', mk, t, L, E, ce, e1, e2, hq, hce, hcv, hcl, h1, hL, h2, h3⟩, st⟩
  · dsimp only [Pt.U, Pt.locs, Pt.cells, Pt.slots] at X' e1 e2 h1 h2 h3 st
    subst h1; subst h2; subst h3
    exact Or.inl ⟨v, (T.setVm vm₁).calling g' mk (Value.ref b :: As).toArray, t, U', L, hT, X', hL, e1, e2, hq, st⟩
  · dsimp only [Pt.U, Pt.locs, Pt.cells, Pt.slots] at X' e1 e2 h1 h2 h3 st hcl
    subst h1; subst h2; subst h3
    exact Or.inr ⟨q, (T.setVm vm₁).calling g' mk (Value.ref b :: As).toArray, t, U', L, E, ce, hT, X', hL, e1, e2, hq, hce, hcv, vx_cls hW₁ hcl, st⟩
theorem vx_runSX {hh : List (Nat × Nat × Nat × Nat)} (S : CallFix p m c cc nL s args Ts own) (hM : vx_Met l y ws rm Pc Qc XC mc ms free) (cw : vx_CSW R s args own index y bytes maxL ret hh ws rm mc ms n) (hp : PreS s H Pc As)
    (hg : g.method = m) (hn : As.length = n) (hsize : g.locals.size = nL) (hstack : g.stack = As.reverse ++ rest) (hW : 2 * g.monitorRoom + (rest.map fun v => v.category).sum ≤ 8) (hdg : decode cc g.pc = .ok (.invokestatic index, 3)) (hf : cells + mc ≤ R.cells ∧ slots + ms ≤ R.slots) :
    vx_Run p l e R s m args below meth c H locs cells slots mc ms g rest (Qc As.toArray) XC free := by
  obtain ⟨⟨hrc, hrs, hfr, hlo, hws, hcw⟩, hcode, hini, hy, hlen, hl, hstt⟩ := cw
  have hK : vx_Back l R p e below s args y 3 8 (PreOf R mc ms Pc) (PostOf Qc mc ms free) (vx_Post XC mc ms free) := vx_backW (hh := hh) (bytes := bytes) (maxL := maxL) (ret := ret) hM hp.1 hrc hrs hfr hlo hws hcw (fun a' U hW => word_at hW (Or.inl (by first | rfl | simp [Cond.onTables, Cond.keeps, Cond.steady])) hini)
  obtain ⟨hx, hb, hml, ho, -⟩ := S
  intro T hT X
  rcases vx_callSX X hx (hh := hh) (bytes := bytes) (maxL := maxL) (ret := ret) ho hl hstt hini hcode hy hK hg (hsize.trans hml.symm) (argsL := As) (rest := rest) (fun sig h => hn.trans (hlen sig h)) hstack hW (by rw [hb]; exact hdg)
    (fun vm₁ hW₁ => ⟨hf.1, hf.2, hp.2 (T.setVm vm₁) hT hW₁⟩) with ⟨v, vm₁, ⟨U', l2, c2, s2⟩, hW₁, X', ⟨g', mk, t, L, e1, e2, hq, h1, hL, h2, h3⟩, st⟩ | ⟨q, vm₁, ⟨U', l2, c2, s2⟩, hW₁, X', ⟨g', mk, t, L, E, ce, e1, e2, hq, hce, hcv, hcl, h1, hL, h2, h3⟩, st⟩
  · dsimp only [Pt.U, Pt.locs, Pt.cells, Pt.slots] at X' e1 e2 h1 h2 h3 st
    subst h1; subst h2; subst h3
    exact Or.inl ⟨v, (T.setVm vm₁).calling g' mk As.toArray, t, U', L, hT, X', hL, e1, e2, hq, st⟩
  · dsimp only [Pt.U, Pt.locs, Pt.cells, Pt.slots] at X' e1 e2 h1 h2 h3 st hcl
    subst h1; subst h2; subst h3
    exact Or.inr ⟨q, (T.setVm vm₁).calling g' mk As.toArray, t, U', L, E, ce, hT, X', hL, e1, e2, hq, hce, hcv, vx_cls hW₁ hcl, st⟩
end
end VXH
theorem vx_ofWH {l : Launch} {y : MethodName} {ws ws' : List Cond} {rm : Room} {Pc : Array Value → State → Prop} {Qc : Array Value → State → Outcome → State → Prop} {XC : String → State → State → Prop} {mc ms : Nat} {free : Addr → Prop} {cc : ByteArray} {maxL : Nat} {ret : Option FieldType} {hh : List (Nat × Nat × Nat × Nat)}
    (hy : plainName y.cls = true) (hw : ws = Cond.codeWith y cc maxL ret hh :: ws')
    (body : ∀ p e s m args below meth c s₁, BodyLoose p l y (headSpec ws rm) cc maxL ret e s m args below meth c s₁ → c.maxLocals = maxL → Pc args s →
      W p l e (headSpec ws rm).room s m args below meth c s.heap [] 0 0 (vx_MQ below Qc XC args s mc ms free) (entryFrame m args maxL)) : vx_Met l y ws rm Pc Qc XC mc ms free := by
  refine MetFree.of_bodyS (code := cc) (maxLocals := maxL) (ret := ret) hy ?_ ?_
  · intro args s m h hn
    obtain ⟨m9, meth, c, hn9, h1, h2, h3, h4, -, h5, h6, -⟩ := Cond.codeWith_spec (atoms_spec (ws := ws) h _ (by rw [hw]; exact List.mem_cons_self))
    cases hn.symm.trans hn9
    exact ⟨meth, c, h1, h2, h3, h4, h5, h6⟩
  · intro p e s m args below meth c s₁ B hml hP _
    have hh0 : s₁.heap = s.heap := by rw [B.state]; rfl
    obtain ⟨t, a1, o, b1, b2, b3⟩ := body p e s m args below meth c s₁ B hml hP s₁ hh0 (Stand.of_body B)
    exact ⟨t, o, a1, b1, b2, b3⟩
/-! ===== END ===== -/
end
section
/-! ===== BEGIN printed: names, fields, word lists, decode rows ===== -/
def RX0 : String := "Stormroof$Board"
def TX0 : u_T := fun k => match k with
  | 0 => ("Stormroof$Board", "neighbours", "[I", true)
  | 1 => ("Stormroof$Board", "storeys", "[I", true)
  | 2 => ("Stormroof$Board", "holders", "[I", true)
  | 3 => ("Stormroof$Board", "spots", "[I", true)
  | 4 => ("Stormroof$Board", "past", "[I", true)
  | 5 => ("Stormroof$Board", "cells", "I", false)
  | 6 => ("Stormroof$Board", "builders", "I", false)
  | 7 => ("Stormroof$Board", "firstPower", "I", false)
  | 8 => ("Stormroof$Board", "secondPower", "I", false)
  | 9 => ("Stormroof$Board", "placed", "I", false)
  | 10 => ("Stormroof$Board", "turnsPlayed", "I", false)
  | 11 => ("Stormroof$Board", "victor", "I", false)
  | _ => ("Stormroof$Board", "climbingBarred", "Z", false)
def tyX0 : Nat → FieldType := fun k => match k with
  | 0 => .array .int
  | 1 => .array .int
  | 2 => .array .int
  | 3 => .array .int
  | 4 => .array .int
  | 5 => .int
  | 6 => .int
  | 7 => .int
  | 8 => .int
  | 9 => .int
  | 10 => .int
  | 11 => .int
  | _ => .boolean
abbrev wsX00 : List Cond := u_ws RX0 TX0 13
theorem nmX0 : ∀ a, a < 13 → ∀ b, b < 13 → a ≠ b → (TX0 a).2.1 ≠ (TX0 b).2.1 := by decide +kernel
theorem tyX0_ok : ∀ k, k < 13 → parseFieldDescriptor (TX0 k).2.2.1 = some (tyX0 k) := by decide +kernel
abbrev cX0_init : ByteArray := prog_2_method_1_code
def yX0_init : MethodName := ⟨RX0, "<init>", "()V"⟩
abbrev cX0_start : ByteArray := prog_2_method_2_code
def yX0_start : MethodName := ⟨RX0, "start", "(IIIII)V"⟩
abbrev cX0_joinNeighbours : ByteArray := prog_2_method_3_code
def yX0_joinNeighbours : MethodName := ⟨RX0, "joinNeighbours", "(IIII)V"⟩
abbrev cX0_storeysOf : ByteArray := prog_2_method_4_code
def yX0_storeysOf : MethodName := ⟨RX0, "storeysOf", "(I)I"⟩
abbrev cX0_holderOf : ByteArray := prog_2_method_5_code
def yX0_holderOf : MethodName := ⟨RX0, "holderOf", "(I)I"⟩
abbrev cX0_isOpen : ByteArray := prog_2_method_6_code
def yX0_isOpen : MethodName := ⟨RX0, "isOpen", "(I)Z"⟩
abbrev cX0_isSet : ByteArray := prog_2_method_7_code
def yX0_isSet : MethodName := ⟨RX0, "isSet", "()Z"⟩
abbrev cX0_mover : ByteArray := prog_2_method_8_code
def yX0_mover : MethodName := ⟨RX0, "mover", "()I"⟩
abbrev cX0_storeysUnder : ByteArray := prog_2_method_9_code
def yX0_storeysUnder : MethodName := ⟨RX0, "storeysUnder", "(I)I"⟩
abbrev cX0_setStoreys : ByteArray := prog_2_method_10_code
def yX0_setStoreys : MethodName := ⟨RX0, "setStoreys", "(II)V"⟩
abbrev cX0_addBuilder : ByteArray := prog_2_method_11_code
def yX0_addBuilder : MethodName := ⟨RX0, "addBuilder", "(I)V"⟩
abbrev cX0_listTurns : ByteArray := prog_2_method_12_code
def yX0_listTurns : MethodName := ⟨RX0, "listTurns", "(LStormroof$TurnList;)V"⟩
abbrev cX0_perform : ByteArray := prog_2_method_13_code
def yX0_perform : MethodName := ⟨RX0, "perform", "(I)V"⟩
abbrev cX0_undo : ByteArray := prog_2_method_14_code
def yX0_undo : MethodName := ⟨RX0, "undo", "()V"⟩
abbrev cX0_remember : ByteArray := prog_2_method_15_code
def yX0_remember : MethodName := ⟨RX0, "remember", "(III)V"⟩
abbrev cX0_carry : ByteArray := prog_2_method_16_code
def yX0_carry : MethodName := ⟨RX0, "carry", "(III)V"⟩
abbrev cX0_carryBack : ByteArray := prog_2_method_17_code
def yX0_carryBack : MethodName := ⟨RX0, "carryBack", "(III)V"⟩
abbrev cX0_put : ByteArray := prog_2_method_18_code
def yX0_put : MethodName := ⟨RX0, "put", "(II)V"⟩
abbrev cX0_clear : ByteArray := prog_2_method_19_code
def yX0_clear : MethodName := ⟨RX0, "clear", "(I)V"⟩
abbrev cX0_destinationOf : ByteArray := prog_2_method_20_code
def yX0_destinationOf : MethodName := ⟨RX0, "destinationOf", "(I)I"⟩
abbrev cX0_builtCellOf : ByteArray := prog_2_method_21_code
def yX0_builtCellOf : MethodName := ⟨RX0, "builtCellOf", "(I)I"⟩
abbrev cX0_powerOf : ByteArray := prog_2_method_22_code
def yX0_powerOf : MethodName := ⟨RX0, "powerOf", "(I)I"⟩
abbrev cX0_spotOf : ByteArray := prog_2_method_23_code
def yX0_spotOf : MethodName := ⟨RX0, "spotOf", "(II)I"⟩
abbrev cX0_neighbourOf : ByteArray := prog_2_method_24_code
def yX0_neighbourOf : MethodName := ⟨RX0, "neighbourOf", "(II)I"⟩
abbrev cX0_asideOf : ByteArray := prog_2_method_25_code
def yX0_asideOf : MethodName := ⟨RX0, "asideOf", "(III)I"⟩
abbrev cX0_hasTurn : ByteArray := prog_2_method_26_code
def yX0_hasTurn : MethodName := ⟨RX0, "hasTurn", "(I)Z"⟩
abbrev cX0_reachOf : ByteArray := prog_2_method_27_code
def yX0_reachOf : MethodName := ⟨RX0, "reachOf", "(II)J"⟩
abbrev cX0_stepOf : ByteArray := prog_2_method_28_code
def yX0_stepOf : MethodName := ⟨RX0, "stepOf", "(III)J"⟩
abbrev cX0_canEnter : ByteArray := prog_2_method_29_code
def yX0_canEnter : MethodName := ⟨RX0, "canEnter", "(III)Z"⟩
abbrev cX0_canBuild : ByteArray := prog_2_method_30_code
def yX0_canBuild : MethodName := ⟨RX0, "canBuild", "(III)Z"⟩
abbrev cX0_listBuildings : ByteArray := prog_2_method_31_code
def yX0_listBuildings : MethodName := ⟨RX0, "listBuildings", "(LStormroof$TurnList;III)V"⟩
abbrev cX0_isOpenBehind : ByteArray := prog_2_method_32_code
def yX0_isOpenBehind : MethodName := ⟨RX0, "isOpenBehind", "(III)Z"⟩
def RX1 : String := "Stormroof$Outlook"
def TX1 : u_T := fun k => match k with
  | 0 => ("Stormroof$Outlook", "lastTurns", "LStormroof$TurnList;", true)
  | 1 => ("Stormroof$Outlook", "nextTurns", "LStormroof$TurnList;", true)
  | _ => ("Stormroof$Outlook", "firstTurns", "LStormroof$TurnList;", true)
def tyX1 : Nat → FieldType := fun k => match k with
  | 0 => .object "Stormroof$TurnList"
  | 1 => .object "Stormroof$TurnList"
  | _ => .object "Stormroof$TurnList"
abbrev wsX10 : List Cond := u_ws RX1 TX1 3
theorem nmX1 : ∀ a, a < 3 → ∀ b, b < 3 → a ≠ b → (TX1 a).2.1 ≠ (TX1 b).2.1 := by decide +kernel
theorem tyX1_ok : ∀ k, k < 3 → parseFieldDescriptor (TX1 k).2.2.1 = some (tyX1 k) := by decide +kernel
abbrev cX1_init : ByteArray := prog_3_method_1_code
def yX1_init : MethodName := ⟨RX1, "<init>", "()V"⟩
abbrev cX1_look : ByteArray := prog_3_method_2_code
def yX1_look : MethodName := ⟨RX1, "look", "(LStormroof$Board;I)I"⟩
abbrev cX1_worthOf : ByteArray := prog_3_method_3_code
def yX1_worthOf : MethodName := ⟨RX1, "worthOf", "(LStormroof$Board;II)I"⟩
abbrev cX1_listFor : ByteArray := prog_3_method_4_code
def yX1_listFor : MethodName := ⟨RX1, "listFor", "(I)LStormroof$TurnList;"⟩
def RX2 : String := "Stormroof$TurnList"
def TX2 : u_T := fun k => match k with
  | 0 => ("Stormroof$TurnList", "numbers", "[I", true)
  | _ => ("Stormroof$TurnList", "size", "I", false)
def tyX2 : Nat → FieldType := fun k => match k with
  | 0 => .array .int
  | _ => .int
abbrev wsX20 : List Cond := u_ws RX2 TX2 2
theorem nmX2 : ∀ a, a < 2 → ∀ b, b < 2 → a ≠ b → (TX2 a).2.1 ≠ (TX2 b).2.1 := by decide +kernel
theorem tyX2_ok : ∀ k, k < 2 → parseFieldDescriptor (TX2 k).2.2.1 = some (tyX2 k) := by decide +kernel
abbrev cX2_init : ByteArray := prog_4_method_1_code
def yX2_init : MethodName := ⟨RX2, "<init>", "()V"⟩
abbrev cX2_clear : ByteArray := prog_4_method_2_code
def yX2_clear : MethodName := ⟨RX2, "clear", "()V"⟩
abbrev cX2_add : ByteArray := prog_4_method_3_code
def yX2_add : MethodName := ⟨RX2, "add", "(I)V"⟩
abbrev cX2_at : ByteArray := prog_4_method_4_code
def yX2_at : MethodName := ⟨RX2, "at", "(I)I"⟩
abbrev cX2_holds : ByteArray := prog_4_method_5_code
def yX2_holds : MethodName := ⟨RX2, "holds", "(I)Z"⟩
def RX3 : String := "Stormroof"
def TX3 : u_T := fun k => match k with
  | 0 => ("Stormroof", "board", "LStormroof$Board;", true)
  | 1 => ("Stormroof", "listed", "LStormroof$TurnList;", true)
  | _ => ("Stormroof", "outlook", "LStormroof$Outlook;", true)
def tyX3 : Nat → FieldType := fun k => match k with
  | 0 => .object "Stormroof$Board"
  | 1 => .object "Stormroof$TurnList"
  | _ => .object "Stormroof$Outlook"
abbrev wsX30 : List Cond := u_ws RX3 TX3 3
theorem nmX3 : ∀ a, a < 3 → ∀ b, b < 3 → a ≠ b → (TX3 a).2.1 ≠ (TX3 b).2.1 := by decide +kernel
theorem tyX3_ok : ∀ k, k < 3 → parseFieldDescriptor (TX3 k).2.2.1 = some (tyX3 k) := by decide +kernel
abbrev cX3_init : ByteArray := prog_1_method_1_code
def yX3_init : MethodName := ⟨RX3, "<init>", "()V"⟩
abbrev cX3_begin : ByteArray := prog_1_method_2_code
def yX3_begin : MethodName := ⟨RX3, "begin", "(IIIII)I"⟩
abbrev cX3_place : ByteArray := prog_1_method_3_code
def yX3_place : MethodName := ⟨RX3, "place", "(I)I"⟩
abbrev cX3_raise : ByteArray := prog_1_method_4_code
def yX3_raise : MethodName := ⟨RX3, "raise", "(II)I"⟩
abbrev cX3_onTurn : ByteArray := prog_1_method_5_code
def yX3_onTurn : MethodName := ⟨RX3, "onTurn", "()I"⟩
abbrev cX3_winner : ByteArray := prog_1_method_6_code
def yX3_winner : MethodName := ⟨RX3, "winner", "()I"⟩
abbrev cX3_height : ByteArray := prog_1_method_7_code
def yX3_height : MethodName := ⟨RX3, "height", "(I)I"⟩
abbrev cX3_builderAt : ByteArray := prog_1_method_8_code
def yX3_builderAt : MethodName := ⟨RX3, "builderAt", "(I)I"⟩
abbrev cX3_played : ByteArray := prog_1_method_9_code
def yX3_played : MethodName := ⟨RX3, "played", "()I"⟩
abbrev cX3_turnCount : ByteArray := prog_1_method_10_code
def yX3_turnCount : MethodName := ⟨RX3, "turnCount", "()I"⟩
abbrev cX3_turnAt : ByteArray := prog_1_method_11_code
def yX3_turnAt : MethodName := ⟨RX3, "turnAt", "(I)I"⟩
abbrev cX3_play : ByteArray := prog_1_method_12_code
def yX3_play : MethodName := ⟨RX3, "play", "(I)I"⟩
abbrev cX3_takeBack : ByteArray := prog_1_method_13_code
def yX3_takeBack : MethodName := ⟨RX3, "takeBack", "()I"⟩
abbrev cX3_worth : ByteArray := prog_1_method_14_code
def yX3_worth : MethodName := ⟨RX3, "worth", "(I)I"⟩
abbrev cX3_best : ByteArray := prog_1_method_15_code
def yX3_best : MethodName := ⟨RX3, "best", "(I)I"⟩
abbrev cX3_reached : ByteArray := prog_1_method_16_code
def yX3_reached : MethodName := ⟨RX3, "reached", "(I)I"⟩
abbrev cX3_isOutside : ByteArray := prog_1_method_17_code
def yX3_isOutside : MethodName := ⟨RX3, "isOutside", "(III)Z"⟩
abbrev cX3_requireCell : ByteArray := prog_1_method_18_code
def yX3_requireCell : MethodName := ⟨RX3, "requireCell", "(I)V"⟩
abbrev cX3_requireAllPlaced : ByteArray := prog_1_method_19_code
def yX3_requireAllPlaced : MethodName := ⟨RX3, "requireAllPlaced", "()V"⟩
abbrev cX3_requireAhead : ByteArray := prog_1_method_20_code
def yX3_requireAhead : MethodName := ⟨RX3, "requireAhead", "(II)V"⟩
def RX4 : String := "StormroofModel"
def TX4 : u_T := fun k => match k with
  | 0 => ("StormroofModel", "thrown", "I", false)
  | 1 => ("StormroofModel", "rows", "I", false)
  | 2 => ("StormroofModel", "columns", "I", false)
  | 3 => ("StormroofModel", "builders", "I", false)
  | 4 => ("StormroofModel", "powers", "[I", true)
  | 5 => ("StormroofModel", "heights", "[I", true)
  | 6 => ("StormroofModel", "at", "[I", true)
  | 7 => ("StormroofModel", "movers", "[I", true)
  | 8 => ("StormroofModel", "hasClimbed", "[Z", true)
  | 9 => ("StormroofModel", "placed", "I", false)
  | 10 => ("StormroofModel", "winner", "I", false)
  | 11 => ("StormroofModel", "kept", "[I", true)
  | 12 => ("StormroofModel", "played", "I", false)
  | 13 => ("StormroofModel", "numbers", "[I", true)
  | 14 => ("StormroofModel", "bests", "[I", true)
  | _ => ("StormroofModel", "found", "I", false)
def tyX4 : Nat → FieldType := fun k => match k with
  | 0 => .int
  | 1 => .int
  | 2 => .int
  | 3 => .int
  | 4 => .array .int
  | 5 => .array .int
  | 6 => .array .int
  | 7 => .array .int
  | 8 => .array .boolean
  | 9 => .int
  | 10 => .int
  | 11 => .array .int
  | 12 => .int
  | 13 => .array .int
  | 14 => .array .int
  | _ => .int
abbrev wsX40 : List Cond := u_ws RX4 TX4 16
theorem nmX4 : ∀ a, a < 16 → ∀ b, b < 16 → a ≠ b → (TX4 a).2.1 ≠ (TX4 b).2.1 := by decide +kernel
theorem tyX4_ok : ∀ k, k < 16 → parseFieldDescriptor (TX4 k).2.2.1 = some (tyX4 k) := by decide +kernel
abbrev cX4_init : ByteArray := prog_6_method_1_code
def yX4_init : MethodName := ⟨RX4, "<init>", "()V"⟩
abbrev cX4_thrown : ByteArray := prog_6_method_2_code
def yX4_thrown : MethodName := ⟨RX4, "thrown", "()I"⟩
abbrev cX4_goesWell : ByteArray := prog_6_method_3_code
def yX4_goesWell : MethodName := ⟨RX4, "goesWell", "(I)Z"⟩
abbrev cX4_in : ByteArray := prog_6_method_4_code
def yX4_in : MethodName := ⟨RX4, "in", "(III)Z"⟩
abbrev cX4_cells : ByteArray := prog_6_method_5_code
def yX4_cells : MethodName := ⟨RX4, "cells", "()I"⟩
abbrev cX4_isCell : ByteArray := prog_6_method_6_code
def yX4_isCell : MethodName := ⟨RX4, "isCell", "(I)Z"⟩
abbrev cX4_isPlaced : ByteArray := prog_6_method_7_code
def yX4_isPlaced : MethodName := ⟨RX4, "isPlaced", "()Z"⟩
abbrev cX4_lay : ByteArray := prog_6_method_8_code
def yX4_lay : MethodName := ⟨RX4, "lay", "()V"⟩
abbrev cX4_begin : ByteArray := prog_6_method_9_code
def yX4_begin : MethodName := ⟨RX4, "begin", "(IIIII)I"⟩
abbrev cX4_high : ByteArray := prog_6_method_10_code
def yX4_high : MethodName := ⟨RX4, "high", "(II)I"⟩
abbrev cX4_builderIn : ByteArray := prog_6_method_11_code
def yX4_builderIn : MethodName := ⟨RX4, "builderIn", "(II)I"⟩
abbrev cX4_areBeside : ByteArray := prog_6_method_12_code
def yX4_areBeside : MethodName := ⟨RX4, "areBeside", "(II)Z"⟩
abbrev cX4_beyond : ByteArray := prog_6_method_13_code
def yX4_beyond : MethodName := ⟨RX4, "beyond", "(II)I"⟩
abbrev cX4_isStep : ByteArray := prog_6_method_14_code
def yX4_isStep : MethodName := ⟨RX4, "isStep", "(III)Z"⟩
abbrev cX4_isWinning : ByteArray := prog_6_method_15_code
def yX4_isWinning : MethodName := ⟨RX4, "isWinning", "(III)Z"⟩
abbrev cX4_mayEnter : ByteArray := prog_6_method_16_code
def yX4_mayEnter : MethodName := ⟨RX4, "mayEnter", "(III)Z"⟩
abbrev cX4_canCome : ByteArray := prog_6_method_17_code
def yX4_canCome : MethodName := ⟨RX4, "canCome", "(IIIZ)Z"⟩
abbrev cX4_canBuild : ByteArray := prog_6_method_18_code
def yX4_canBuild : MethodName := ⟨RX4, "canBuild", "(IIIIZ)Z"⟩
abbrev cX4_isTurn : ByteArray := prog_6_method_19_code
def yX4_isTurn : MethodName := ⟨RX4, "isTurn", "(II)Z"⟩
abbrev cX4_nextTurn : ByteArray := prog_6_method_20_code
def yX4_nextTurn : MethodName := ⟨RX4, "nextTurn", "(II)I"⟩
abbrev cX4_copy : ByteArray := prog_6_method_21_code
def yX4_copy : MethodName := ⟨RX4, "copy", "(II)V"⟩
abbrev cX4_act : ByteArray := prog_6_method_22_code
def yX4_act : MethodName := ⟨RX4, "act", "(II)V"⟩
abbrev cX4_judge : ByteArray := prog_6_method_23_code
def yX4_judge : MethodName := ⟨RX4, "judge", "()V"⟩
abbrev cX4_onTurnNow : ByteArray := prog_6_method_24_code
def yX4_onTurnNow : MethodName := ⟨RX4, "onTurnNow", "()I"⟩
abbrev cX4_place : ByteArray := prog_6_method_25_code
def yX4_place : MethodName := ⟨RX4, "place", "(I)I"⟩
abbrev cX4_raise : ByteArray := prog_6_method_26_code
def yX4_raise : MethodName := ⟨RX4, "raise", "(II)I"⟩
abbrev cX4_onTurn : ByteArray := prog_6_method_27_code
def yX4_onTurn : MethodName := ⟨RX4, "onTurn", "()I"⟩
abbrev cX4_winner : ByteArray := prog_6_method_28_code
def yX4_winner : MethodName := ⟨RX4, "winner", "()I"⟩
abbrev cX4_height : ByteArray := prog_6_method_29_code
def yX4_height : MethodName := ⟨RX4, "height", "(I)I"⟩
abbrev cX4_builderAt : ByteArray := prog_6_method_30_code
def yX4_builderAt : MethodName := ⟨RX4, "builderAt", "(I)I"⟩
abbrev cX4_played : ByteArray := prog_6_method_31_code
def yX4_played : MethodName := ⟨RX4, "played", "()I"⟩
abbrev cX4_countTurns : ByteArray := prog_6_method_32_code
def yX4_countTurns : MethodName := ⟨RX4, "countTurns", "()I"⟩
abbrev cX4_turnCount : ByteArray := prog_6_method_33_code
def yX4_turnCount : MethodName := ⟨RX4, "turnCount", "()I"⟩
abbrev cX4_turnAt : ByteArray := prog_6_method_34_code
def yX4_turnAt : MethodName := ⟨RX4, "turnAt", "(I)I"⟩
abbrev cX4_keep : ByteArray := prog_6_method_35_code
def yX4_keep : MethodName := ⟨RX4, "keep", "()V"⟩
abbrev cX4_play : ByteArray := prog_6_method_36_code
def yX4_play : MethodName := ⟨RX4, "play", "(I)I"⟩
abbrev cX4_takeBack : ByteArray := prog_6_method_37_code
def yX4_takeBack : MethodName := ⟨RX4, "takeBack", "()I"⟩
abbrev cX4_open : ByteArray := prog_6_method_38_code
def yX4_open : MethodName := ⟨RX4, "open", "(I)V"⟩
abbrev cX4_take : ByteArray := prog_6_method_39_code
def yX4_take : MethodName := ⟨RX4, "take", "(II)V"⟩
abbrev cX4_look : ByteArray := prog_6_method_40_code
def yX4_look : MethodName := ⟨RX4, "look", "(I)I"⟩
abbrev cX4_canLook : ByteArray := prog_6_method_41_code
def yX4_canLook : MethodName := ⟨RX4, "canLook", "(I)Z"⟩
abbrev cX4_worth : ByteArray := prog_6_method_42_code
def yX4_worth : MethodName := ⟨RX4, "worth", "(I)I"⟩
abbrev cX4_best : ByteArray := prog_6_method_43_code
def yX4_best : MethodName := ⟨RX4, "best", "(I)I"⟩
abbrev cX4_reached : ByteArray := prog_6_method_44_code
def yX4_reached : MethodName := ⟨RX4, "reached", "(I)I"⟩
def RJx145de : String := "java/io/Serializable"
def TJx145de : u_T := fun k => match k with
  | _ => ("", "", "", false)
def tyJx145de : Nat → FieldType := fun k => match k with
  | _ => .int
abbrev wsJx145de0 : List Cond := u_ws RJx145de TJx145de 0
theorem nmJx145de : ∀ a, a < 0 → ∀ b, b < 0 → a ≠ b → (TJx145de a).2.1 ≠ (TJx145de b).2.1 := by decide +kernel
theorem tyJx145de_ok : ∀ k, k < 0 → parseFieldDescriptor (TJx145de k).2.2.1 = some (tyJx145de k) := by decide +kernel
def RJ9 : String := "java/lang/Math"
def TJ9 : u_T := fun k => match k with
  | _ => ("", "", "", false)
def tyJ9 : Nat → FieldType := fun k => match k with
  | _ => .int
abbrev wsJ90 : List Cond := u_ws RJ9 TJ9 0
theorem nmJ9 : ∀ a, a < 0 → ∀ b, b < 0 → a ≠ b → (TJ9 a).2.1 ≠ (TJ9 b).2.1 := by decide +kernel
theorem tyJ9_ok : ∀ k, k < 0 → parseFieldDescriptor (TJ9 k).2.2.1 = some (tyJ9 k) := by decide +kernel
abbrev cJ9_max_7cf53 : ByteArray := prog_11_method_65_code
def yJ9_max_7cf53 : MethodName := ⟨RJ9, "max", "(II)I"⟩
def RJ0 : String := "java/lang/String"
def TJ0 : u_T := fun k => match k with
  | _ => ("", "", "", false)
def tyJ0 : Nat → FieldType := fun k => match k with
  | _ => .int
abbrev wsJ00 : List Cond := u_ws RJ0 TJ0 0
theorem nmJ0 : ∀ a, a < 0 → ∀ b, b < 0 → a ≠ b → (TJ0 a).2.1 ≠ (TJ0 b).2.1 := by decide +kernel
theorem tyJ0_ok : ∀ k, k < 0 → parseFieldDescriptor (TJ0 k).2.2.1 = some (tyJ0 k) := by decide +kernel
def RJ7 : String := "java/util/Arrays"
def TJ7 : u_T := fun k => match k with
  | _ => ("", "", "", false)
def tyJ7 : Nat → FieldType := fun k => match k with
  | _ => .int
abbrev wsJ70 : List Cond := u_ws RJ7 TJ7 0
theorem nmJ7 : ∀ a, a < 0 → ∀ b, b < 0 → a ≠ b → (TJ7 a).2.1 ≠ (TJ7 b).2.1 := by decide +kernel
theorem tyJ7_ok : ∀ k, k < 0 → parseFieldDescriptor (TJ7 k).2.2.1 = some (tyJ7 k) := by decide +kernel
abbrev cJ7_fill_53178 : ByteArray := prog_15_method_103_code
def yJ7_fill_53178 : MethodName := ⟨RJ7, "fill", "([II)V"⟩
def RL : String := "StormroofLaw"
abbrev cL_begin : ByteArray := method_3_code
def yL_begin : MethodName := ⟨RL, "begin", "(LStormroof;IIIII[J)I"⟩
abbrev cL_place : ByteArray := method_4_code
def yL_place : MethodName := ⟨RL, "place", "(LStormroof;I[J)I"⟩
abbrev cL_raise : ByteArray := method_5_code
def yL_raise : MethodName := ⟨RL, "raise", "(LStormroof;II[J)I"⟩
abbrev cL_height : ByteArray := method_6_code
def yL_height : MethodName := ⟨RL, "height", "(LStormroof;I[J)I"⟩
abbrev cL_builderAt : ByteArray := method_7_code
def yL_builderAt : MethodName := ⟨RL, "builderAt", "(LStormroof;I[J)I"⟩
abbrev cL_turnCount : ByteArray := method_8_code
def yL_turnCount : MethodName := ⟨RL, "turnCount", "(LStormroof;[J)I"⟩
abbrev cL_turnAt : ByteArray := method_9_code
def yL_turnAt : MethodName := ⟨RL, "turnAt", "(LStormroof;I[J)I"⟩
abbrev cL_play : ByteArray := method_10_code
def yL_play : MethodName := ⟨RL, "play", "(LStormroof;I[J)I"⟩
abbrev cL_takeBack : ByteArray := method_11_code
def yL_takeBack : MethodName := ⟨RL, "takeBack", "(LStormroof;[J)I"⟩
abbrev cL_worth : ByteArray := method_12_code
def yL_worth : MethodName := ⟨RL, "worth", "(LStormroof;I[J)I"⟩
abbrev cL_best : ByteArray := method_13_code
def yL_best : MethodName := ⟨RL, "best", "(LStormroof;I[J)I"⟩
abbrev cL_reached : ByteArray := method_14_code
def yL_reached : MethodName := ⟨RL, "reached", "(LStormroof;I[J)I"⟩
abbrev cL_law : ByteArray := code
def yL_law : MethodName := ⟨RL, "law", "([I)Z"⟩
def wsX0_init : List Cond := .code yX0_init cX0_init 1 none :: ([.methodLink RX0 3 objectInit, .instanceMethod objectInit, .code objectInit ⟨#[0xb1]⟩ 1 none, .arrayClass .int, .fieldLink RX0 11 "Stormroof$Board" "neighbours" "[I", .fieldLink RX0 15 "Stormroof$Board" "storeys" "[I", .fieldLink RX0 18 "Stormroof$Board" "holders" "[I", .fieldLink RX0 21 "Stormroof$Board" "spots" "[I", .fieldLink RX0 24 "Stormroof$Board" "past" "[I"] ++ wsX00)
def wsJ7_fill_53178 : List Cond := .code yJ7_fill_53178 cJ7_fill_53178 4 none :: ([])
def wsX0_joinNeighbours : List Cond := .code yX0_joinNeighbours cX0_joinNeighbours 10 none :: ([.fieldLink RX0 63 "Stormroof$Board" "DOWN" "[I", .fieldLink RX0 66 "Stormroof$Board" "ACROSS" "[I", .fieldLink RX0 11 "Stormroof$Board" "neighbours" "[I"] ++ wsX00)
def wsX0_start : List Cond := .code yX0_start cX0_start 8 none :: ([.fieldLink RX0 27 "Stormroof$Board" "cells" "I", .fieldLink RX0 31 "Stormroof$Board" "builders" "I", .fieldLink RX0 34 "Stormroof$Board" "firstPower" "I", .fieldLink RX0 37 "Stormroof$Board" "secondPower" "I", .fieldLink RX0 40 "Stormroof$Board" "placed" "I", .fieldLink RX0 43 "Stormroof$Board" "turnsPlayed" "I", .fieldLink RX0 46 "Stormroof$Board" "victor" "I", .fieldLink RX0 49 "Stormroof$Board" "climbingBarred" "Z", .fieldLink RX0 15 "Stormroof$Board" "storeys" "[I", .fieldLink RX0 18 "Stormroof$Board" "holders" "[I", .fieldLink RX0 21 "Stormroof$Board" "spots" "[I", .methodLink RX0 53 yJ7_fill_53178, .static yJ7_fill_53178, .initialized RJ7, .code yJ7_fill_53178 cJ7_fill_53178 4 none, .methodLink RX0 59 yX0_joinNeighbours, .instanceMethod yX0_joinNeighbours, .selects RX0 yX0_joinNeighbours yX0_joinNeighbours, .initialized RX0, .code yX0_joinNeighbours cX0_joinNeighbours 10 none, .fieldLink RX0 63 "Stormroof$Board" "DOWN" "[I", .fieldLink RX0 66 "Stormroof$Board" "ACROSS" "[I", .fieldLink RX0 11 "Stormroof$Board" "neighbours" "[I"] ++ wsX00)
def wsX0_storeysOf : List Cond := .code yX0_storeysOf cX0_storeysOf 2 (some .int) :: ([.fieldLink RX0 15 "Stormroof$Board" "storeys" "[I"] ++ wsX00)
def wsX0_holderOf : List Cond := .code yX0_holderOf cX0_holderOf 2 (some .int) :: ([.fieldLink RX0 18 "Stormroof$Board" "holders" "[I"] ++ wsX00)
def wsX0_isOpen : List Cond := .code yX0_isOpen cX0_isOpen 2 (some .boolean) :: ([.fieldLink RX0 18 "Stormroof$Board" "holders" "[I", .fieldLink RX0 15 "Stormroof$Board" "storeys" "[I"] ++ wsX00)
def wsX0_isSet : List Cond := .code yX0_isSet cX0_isSet 1 (some .boolean) :: ([.fieldLink RX0 40 "Stormroof$Board" "placed" "I", .fieldLink RX0 31 "Stormroof$Board" "builders" "I"] ++ wsX00)
def wsX0_mover : List Cond := .code yX0_mover cX0_mover 1 (some .int) :: ([.fieldLink RX0 46 "Stormroof$Board" "victor" "I", .fieldLink RX0 43 "Stormroof$Board" "turnsPlayed" "I", .fieldLink RX0 40 "Stormroof$Board" "placed" "I", .fieldLink RX0 31 "Stormroof$Board" "builders" "I", .methodLink RX0 69 yX0_isSet, .instanceMethod yX0_isSet, .selects RX0 yX0_isSet yX0_isSet, .initialized RX0, .code yX0_isSet cX0_isSet 1 (some .boolean)] ++ wsX00)
def wsX0_spotOf : List Cond := .code yX0_spotOf cX0_spotOf 4 (some .int) :: ([.fieldLink RX0 21 "Stormroof$Board" "spots" "[I"] ++ wsX00)
def wsX0_storeysUnder : List Cond := .code yX0_storeysUnder cX0_storeysUnder 4 (some .int) :: ([.fieldLink RX0 31 "Stormroof$Board" "builders" "I", .methodLink RX0 73 yX0_spotOf, .instanceMethod yX0_spotOf, .selects RX0 yX0_spotOf yX0_spotOf, .initialized RX0, .code yX0_spotOf cX0_spotOf 4 (some .int), .fieldLink RX0 21 "Stormroof$Board" "spots" "[I", .methodLink RX0 77 yX0_storeysOf, .instanceMethod yX0_storeysOf, .selects RX0 yX0_storeysOf yX0_storeysOf, .code yX0_storeysOf cX0_storeysOf 2 (some .int), .fieldLink RX0 15 "Stormroof$Board" "storeys" "[I"] ++ wsX00)
def wsX0_setStoreys : List Cond := .code yX0_setStoreys cX0_setStoreys 3 none :: ([.fieldLink RX0 15 "Stormroof$Board" "storeys" "[I"] ++ wsX00)
def wsX0_put : List Cond := .code yX0_put cX0_put 4 none :: ([.fieldLink RX0 18 "Stormroof$Board" "holders" "[I", .fieldLink RX0 21 "Stormroof$Board" "spots" "[I"] ++ wsX00)
def wsX0_neighbourOf : List Cond := .code yX0_neighbourOf cX0_neighbourOf 4 (some .int) :: ([.fieldLink RX0 11 "Stormroof$Board" "neighbours" "[I"] ++ wsX00)
def wsX0_powerOf : List Cond := .code yX0_powerOf cX0_powerOf 2 (some .int) :: ([.fieldLink RX0 34 "Stormroof$Board" "firstPower" "I", .fieldLink RX0 37 "Stormroof$Board" "secondPower" "I"] ++ wsX00)
def wsX0_canEnter : List Cond := .code yX0_canEnter cX0_canEnter 5 (some .boolean) :: ([.methodLink RX0 132 yX0_holderOf, .instanceMethod yX0_holderOf, .selects RX0 yX0_holderOf yX0_holderOf, .initialized RX0, .code yX0_holderOf cX0_holderOf 2 (some .int), .fieldLink RX0 18 "Stormroof$Board" "holders" "[I", .methodLink RX0 151 yX0_isOpen, .instanceMethod yX0_isOpen, .selects RX0 yX0_isOpen yX0_isOpen, .code yX0_isOpen cX0_isOpen 2 (some .boolean), .fieldLink RX0 15 "Stormroof$Board" "storeys" "[I", .methodLink RX0 117 yX0_powerOf, .instanceMethod yX0_powerOf, .selects RX0 yX0_powerOf yX0_powerOf, .code yX0_powerOf cX0_powerOf 2 (some .int), .fieldLink RX0 34 "Stormroof$Board" "firstPower" "I", .fieldLink RX0 37 "Stormroof$Board" "secondPower" "I", .methodLink RX0 141 yX0_neighbourOf, .instanceMethod yX0_neighbourOf, .selects RX0 yX0_neighbourOf yX0_neighbourOf, .code yX0_neighbourOf cX0_neighbourOf 4 (some .int), .fieldLink RX0 11 "Stormroof$Board" "neighbours" "[I"] ++ wsX00)
def wsX0_stepOf_r1 : List Cond := [Cond.fieldLink RX0 49 "Stormroof$Board" "climbingBarred" "Z", Cond.methodLink RX0 141 yX0_neighbourOf, Cond.instanceMethod yX0_neighbourOf, Cond.selects RX0 yX0_neighbourOf yX0_neighbourOf, Cond.initialized RX0, Cond.code yX0_neighbourOf cX0_neighbourOf 4 (some .int), Cond.fieldLink RX0 11 "Stormroof$Board" "neighbours" "[I", Cond.methodLink RX0 77 yX0_storeysOf, Cond.instanceMethod yX0_storeysOf, Cond.selects RX0 yX0_storeysOf yX0_storeysOf, Cond.code yX0_storeysOf cX0_storeysOf 2 (some .int), Cond.fieldLink RX0 15 "Stormroof$Board" "storeys" "[I", Cond.methodLink RX0 148 yX0_canEnter, Cond.instanceMethod yX0_canEnter, Cond.selects RX0 yX0_canEnter yX0_canEnter, Cond.code yX0_canEnter cX0_canEnter 5 (some .boolean), Cond.methodLink RX0 132 yX0_holderOf, Cond.instanceMethod yX0_holderOf, Cond.selects RX0 yX0_holderOf yX0_holderOf, Cond.code yX0_holderOf cX0_holderOf 2 (some .int), Cond.fieldLink RX0 18 "Stormroof$Board" "holders" "[I", Cond.methodLink RX0 151 yX0_isOpen, Cond.instanceMethod yX0_isOpen, Cond.selects RX0 yX0_isOpen yX0_isOpen]
def wsX0_stepOf_r2 : List Cond := [Cond.code yX0_isOpen cX0_isOpen 2 (some .boolean), Cond.methodLink RX0 117 yX0_powerOf, Cond.instanceMethod yX0_powerOf, Cond.selects RX0 yX0_powerOf yX0_powerOf, Cond.code yX0_powerOf cX0_powerOf 2 (some .int), Cond.fieldLink RX0 34 "Stormroof$Board" "firstPower" "I", Cond.fieldLink RX0 37 "Stormroof$Board" "secondPower" "I"]
def wsX0_stepOf : List Cond := .code yX0_stepOf cX0_stepOf 8 (some .long) :: ((wsX0_stepOf_r1 ++ wsX0_stepOf_r2) ++ wsX00)
def wsX0_asideOf : List Cond := .code yX0_asideOf cX0_asideOf 4 (some .int) :: ([.methodLink RX0 132 yX0_holderOf, .instanceMethod yX0_holderOf, .selects RX0 yX0_holderOf yX0_holderOf, .initialized RX0, .code yX0_holderOf cX0_holderOf 2 (some .int), .fieldLink RX0 18 "Stormroof$Board" "holders" "[I", .methodLink RX0 117 yX0_powerOf, .instanceMethod yX0_powerOf, .selects RX0 yX0_powerOf yX0_powerOf, .code yX0_powerOf cX0_powerOf 2 (some .int), .fieldLink RX0 34 "Stormroof$Board" "firstPower" "I", .fieldLink RX0 37 "Stormroof$Board" "secondPower" "I"] ++ wsX00)
def wsX0_isOpenBehind : List Cond := .code yX0_isOpenBehind cX0_isOpenBehind 4 (some .boolean) :: ([.methodLink RX0 151 yX0_isOpen, .instanceMethod yX0_isOpen, .selects RX0 yX0_isOpen yX0_isOpen, .initialized RX0, .code yX0_isOpen cX0_isOpen 2 (some .boolean), .fieldLink RX0 18 "Stormroof$Board" "holders" "[I", .fieldLink RX0 15 "Stormroof$Board" "storeys" "[I"] ++ wsX00)
def wsX0_canBuild_r1 : List Cond := [Cond.methodLink RX0 109 yX0_asideOf, Cond.instanceMethod yX0_asideOf, Cond.selects RX0 yX0_asideOf yX0_asideOf, Cond.initialized RX0, Cond.code yX0_asideOf cX0_asideOf 4 (some .int), Cond.methodLink RX0 132 yX0_holderOf, Cond.instanceMethod yX0_holderOf, Cond.selects RX0 yX0_holderOf yX0_holderOf, Cond.code yX0_holderOf cX0_holderOf 2 (some .int), Cond.fieldLink RX0 18 "Stormroof$Board" "holders" "[I", Cond.methodLink RX0 117 yX0_powerOf, Cond.instanceMethod yX0_powerOf, Cond.selects RX0 yX0_powerOf yX0_powerOf, Cond.code yX0_powerOf cX0_powerOf 2 (some .int), Cond.fieldLink RX0 34 "Stormroof$Board" "firstPower" "I", Cond.fieldLink RX0 37 "Stormroof$Board" "secondPower" "I", Cond.methodLink RX0 141 yX0_neighbourOf, Cond.instanceMethod yX0_neighbourOf, Cond.selects RX0 yX0_neighbourOf yX0_neighbourOf, Cond.code yX0_neighbourOf cX0_neighbourOf 4 (some .int), Cond.fieldLink RX0 11 "Stormroof$Board" "neighbours" "[I", Cond.methodLink RX0 154 yX0_isOpenBehind, Cond.instanceMethod yX0_isOpenBehind, Cond.selects RX0 yX0_isOpenBehind yX0_isOpenBehind]
def wsX0_canBuild_r2 : List Cond := [Cond.code yX0_isOpenBehind cX0_isOpenBehind 4 (some .boolean), Cond.methodLink RX0 151 yX0_isOpen, Cond.instanceMethod yX0_isOpen, Cond.selects RX0 yX0_isOpen yX0_isOpen, Cond.code yX0_isOpen cX0_isOpen 2 (some .boolean), Cond.fieldLink RX0 15 "Stormroof$Board" "storeys" "[I"]
def wsX0_canBuild : List Cond := .code yX0_canBuild cX0_canBuild 6 (some .boolean) :: ((wsX0_canBuild_r1 ++ wsX0_canBuild_r2) ++ wsX00)
def wsX0_hasTurn_r1 : List Cond := [Cond.fieldLink RX0 31 "Stormroof$Board" "builders" "I", Cond.methodLink RX0 73 yX0_spotOf, Cond.instanceMethod yX0_spotOf, Cond.selects RX0 yX0_spotOf yX0_spotOf, Cond.initialized RX0, Cond.code yX0_spotOf cX0_spotOf 4 (some .int), Cond.fieldLink RX0 21 "Stormroof$Board" "spots" "[I", Cond.methodLink RX0 137 yX0_stepOf, Cond.instanceMethod yX0_stepOf, Cond.selects RX0 yX0_stepOf yX0_stepOf, Cond.code yX0_stepOf cX0_stepOf 8 (some .long), Cond.fieldLink RX0 49 "Stormroof$Board" "climbingBarred" "Z", Cond.methodLink RX0 141 yX0_neighbourOf, Cond.instanceMethod yX0_neighbourOf, Cond.selects RX0 yX0_neighbourOf yX0_neighbourOf, Cond.code yX0_neighbourOf cX0_neighbourOf 4 (some .int), Cond.fieldLink RX0 11 "Stormroof$Board" "neighbours" "[I", Cond.methodLink RX0 77 yX0_storeysOf, Cond.instanceMethod yX0_storeysOf, Cond.selects RX0 yX0_storeysOf yX0_storeysOf, Cond.code yX0_storeysOf cX0_storeysOf 2 (some .int), Cond.fieldLink RX0 15 "Stormroof$Board" "storeys" "[I", Cond.methodLink RX0 148 yX0_canEnter, Cond.instanceMethod yX0_canEnter]
def wsX0_hasTurn_r2 : List Cond := [Cond.selects RX0 yX0_canEnter yX0_canEnter, Cond.code yX0_canEnter cX0_canEnter 5 (some .boolean), Cond.methodLink RX0 132 yX0_holderOf, Cond.instanceMethod yX0_holderOf, Cond.selects RX0 yX0_holderOf yX0_holderOf, Cond.code yX0_holderOf cX0_holderOf 2 (some .int), Cond.fieldLink RX0 18 "Stormroof$Board" "holders" "[I", Cond.methodLink RX0 151 yX0_isOpen, Cond.instanceMethod yX0_isOpen, Cond.selects RX0 yX0_isOpen yX0_isOpen, Cond.code yX0_isOpen cX0_isOpen 2 (some .boolean), Cond.methodLink RX0 117 yX0_powerOf, Cond.instanceMethod yX0_powerOf, Cond.selects RX0 yX0_powerOf yX0_powerOf, Cond.code yX0_powerOf cX0_powerOf 2 (some .int), Cond.fieldLink RX0 34 "Stormroof$Board" "firstPower" "I", Cond.fieldLink RX0 37 "Stormroof$Board" "secondPower" "I", Cond.methodLink RX0 144 yX0_canBuild, Cond.instanceMethod yX0_canBuild, Cond.selects RX0 yX0_canBuild yX0_canBuild, Cond.code yX0_canBuild cX0_canBuild 6 (some .boolean), Cond.methodLink RX0 109 yX0_asideOf, Cond.instanceMethod yX0_asideOf, Cond.selects RX0 yX0_asideOf yX0_asideOf]
def wsX0_hasTurn_r3 : List Cond := [Cond.code yX0_asideOf cX0_asideOf 4 (some .int), Cond.methodLink RX0 154 yX0_isOpenBehind, Cond.instanceMethod yX0_isOpenBehind, Cond.selects RX0 yX0_isOpenBehind yX0_isOpenBehind, Cond.code yX0_isOpenBehind cX0_isOpenBehind 4 (some .boolean)]
def wsX0_hasTurn : List Cond := .code yX0_hasTurn cX0_hasTurn 7 (some .boolean) :: ((wsX0_hasTurn_r1 ++ (wsX0_hasTurn_r2 ++ wsX0_hasTurn_r3)) ++ wsX00)
def wsX0_addBuilder_r1 : List Cond := [Cond.fieldLink RX0 40 "Stormroof$Board" "placed" "I", Cond.fieldLink RX0 31 "Stormroof$Board" "builders" "I", Cond.fieldLink RX0 46 "Stormroof$Board" "victor" "I", Cond.methodLink RX0 81 yX0_put, Cond.instanceMethod yX0_put, Cond.selects RX0 yX0_put yX0_put, Cond.initialized RX0, Cond.code yX0_put cX0_put 4 none, Cond.fieldLink RX0 18 "Stormroof$Board" "holders" "[I", Cond.fieldLink RX0 21 "Stormroof$Board" "spots" "[I", Cond.methodLink RX0 69 yX0_isSet, Cond.instanceMethod yX0_isSet, Cond.selects RX0 yX0_isSet yX0_isSet, Cond.code yX0_isSet cX0_isSet 1 (some .boolean), Cond.methodLink RX0 85 yX0_hasTurn, Cond.instanceMethod yX0_hasTurn, Cond.selects RX0 yX0_hasTurn yX0_hasTurn, Cond.code yX0_hasTurn cX0_hasTurn 7 (some .boolean), Cond.methodLink RX0 73 yX0_spotOf, Cond.instanceMethod yX0_spotOf, Cond.selects RX0 yX0_spotOf yX0_spotOf, Cond.code yX0_spotOf cX0_spotOf 4 (some .int), Cond.methodLink RX0 137 yX0_stepOf, Cond.instanceMethod yX0_stepOf]
def wsX0_addBuilder_r2 : List Cond := [Cond.selects RX0 yX0_stepOf yX0_stepOf, Cond.code yX0_stepOf cX0_stepOf 8 (some .long), Cond.fieldLink RX0 49 "Stormroof$Board" "climbingBarred" "Z", Cond.methodLink RX0 141 yX0_neighbourOf, Cond.instanceMethod yX0_neighbourOf, Cond.selects RX0 yX0_neighbourOf yX0_neighbourOf, Cond.code yX0_neighbourOf cX0_neighbourOf 4 (some .int), Cond.fieldLink RX0 11 "Stormroof$Board" "neighbours" "[I", Cond.methodLink RX0 77 yX0_storeysOf, Cond.instanceMethod yX0_storeysOf, Cond.selects RX0 yX0_storeysOf yX0_storeysOf, Cond.code yX0_storeysOf cX0_storeysOf 2 (some .int), Cond.fieldLink RX0 15 "Stormroof$Board" "storeys" "[I", Cond.methodLink RX0 148 yX0_canEnter, Cond.instanceMethod yX0_canEnter, Cond.selects RX0 yX0_canEnter yX0_canEnter, Cond.code yX0_canEnter cX0_canEnter 5 (some .boolean), Cond.methodLink RX0 132 yX0_holderOf, Cond.instanceMethod yX0_holderOf, Cond.selects RX0 yX0_holderOf yX0_holderOf, Cond.code yX0_holderOf cX0_holderOf 2 (some .int), Cond.methodLink RX0 151 yX0_isOpen, Cond.instanceMethod yX0_isOpen, Cond.selects RX0 yX0_isOpen yX0_isOpen]
def wsX0_addBuilder_r3 : List Cond := [Cond.code yX0_isOpen cX0_isOpen 2 (some .boolean), Cond.methodLink RX0 117 yX0_powerOf, Cond.instanceMethod yX0_powerOf, Cond.selects RX0 yX0_powerOf yX0_powerOf, Cond.code yX0_powerOf cX0_powerOf 2 (some .int), Cond.fieldLink RX0 34 "Stormroof$Board" "firstPower" "I", Cond.fieldLink RX0 37 "Stormroof$Board" "secondPower" "I", Cond.methodLink RX0 144 yX0_canBuild, Cond.instanceMethod yX0_canBuild, Cond.selects RX0 yX0_canBuild yX0_canBuild, Cond.code yX0_canBuild cX0_canBuild 6 (some .boolean), Cond.methodLink RX0 109 yX0_asideOf, Cond.instanceMethod yX0_asideOf, Cond.selects RX0 yX0_asideOf yX0_asideOf, Cond.code yX0_asideOf cX0_asideOf 4 (some .int), Cond.methodLink RX0 154 yX0_isOpenBehind, Cond.instanceMethod yX0_isOpenBehind, Cond.selects RX0 yX0_isOpenBehind yX0_isOpenBehind, Cond.code yX0_isOpenBehind cX0_isOpenBehind 4 (some .boolean)]
def wsX0_addBuilder : List Cond := .code yX0_addBuilder cX0_addBuilder 4 none :: ((wsX0_addBuilder_r1 ++ (wsX0_addBuilder_r2 ++ wsX0_addBuilder_r3)) ++ wsX00)
def wsX2_clear : List Cond := .code yX2_clear cX2_clear 1 none :: ([.fieldLink RX2 15 "Stormroof$TurnList" "size" "I"] ++ wsX20)
def wsX0_reachOf_r1 : List Cond := [Cond.fieldLink RX0 27 "Stormroof$Board" "cells" "I", Cond.methodLink RX0 137 yX0_stepOf, Cond.instanceMethod yX0_stepOf, Cond.selects RX0 yX0_stepOf yX0_stepOf, Cond.initialized RX0, Cond.code yX0_stepOf cX0_stepOf 8 (some .long), Cond.fieldLink RX0 49 "Stormroof$Board" "climbingBarred" "Z", Cond.methodLink RX0 141 yX0_neighbourOf, Cond.instanceMethod yX0_neighbourOf, Cond.selects RX0 yX0_neighbourOf yX0_neighbourOf, Cond.code yX0_neighbourOf cX0_neighbourOf 4 (some .int), Cond.fieldLink RX0 11 "Stormroof$Board" "neighbours" "[I", Cond.methodLink RX0 77 yX0_storeysOf, Cond.instanceMethod yX0_storeysOf, Cond.selects RX0 yX0_storeysOf yX0_storeysOf, Cond.code yX0_storeysOf cX0_storeysOf 2 (some .int), Cond.fieldLink RX0 15 "Stormroof$Board" "storeys" "[I", Cond.methodLink RX0 148 yX0_canEnter, Cond.instanceMethod yX0_canEnter, Cond.selects RX0 yX0_canEnter yX0_canEnter, Cond.code yX0_canEnter cX0_canEnter 5 (some .boolean), Cond.methodLink RX0 132 yX0_holderOf, Cond.instanceMethod yX0_holderOf, Cond.selects RX0 yX0_holderOf yX0_holderOf]
def wsX0_reachOf_r2 : List Cond := [Cond.code yX0_holderOf cX0_holderOf 2 (some .int), Cond.fieldLink RX0 18 "Stormroof$Board" "holders" "[I", Cond.methodLink RX0 151 yX0_isOpen, Cond.instanceMethod yX0_isOpen, Cond.selects RX0 yX0_isOpen yX0_isOpen, Cond.code yX0_isOpen cX0_isOpen 2 (some .boolean), Cond.methodLink RX0 117 yX0_powerOf, Cond.instanceMethod yX0_powerOf, Cond.selects RX0 yX0_powerOf yX0_powerOf, Cond.code yX0_powerOf cX0_powerOf 2 (some .int), Cond.fieldLink RX0 34 "Stormroof$Board" "firstPower" "I", Cond.fieldLink RX0 37 "Stormroof$Board" "secondPower" "I"]
def wsX0_reachOf : List Cond := .code yX0_reachOf cX0_reachOf 9 (some .long) :: ((wsX0_reachOf_r1 ++ wsX0_reachOf_r2) ++ wsX00)
def wsX2_add : List Cond := .code yX2_add cX2_add 2 none :: ([.fieldLink RX2 15 "Stormroof$TurnList" "size" "I", .fieldLink RX2 11 "Stormroof$TurnList" "numbers" "[I"] ++ wsX20)
def wsX0_listBuildings_r1 : List Cond := [Cond.fieldLink RX0 43 "Stormroof$Board" "turnsPlayed" "I", Cond.methodLink RX0 109 yX0_asideOf, Cond.instanceMethod yX0_asideOf, Cond.selects RX0 yX0_asideOf yX0_asideOf, Cond.initialized RX0, Cond.code yX0_asideOf cX0_asideOf 4 (some .int), Cond.methodLink RX0 132 yX0_holderOf, Cond.instanceMethod yX0_holderOf, Cond.selects RX0 yX0_holderOf yX0_holderOf, Cond.code yX0_holderOf cX0_holderOf 2 (some .int), Cond.fieldLink RX0 18 "Stormroof$Board" "holders" "[I", Cond.methodLink RX0 117 yX0_powerOf, Cond.instanceMethod yX0_powerOf, Cond.selects RX0 yX0_powerOf yX0_powerOf, Cond.code yX0_powerOf cX0_powerOf 2 (some .int), Cond.fieldLink RX0 34 "Stormroof$Board" "firstPower" "I", Cond.fieldLink RX0 37 "Stormroof$Board" "secondPower" "I", Cond.methodLink RX0 141 yX0_neighbourOf, Cond.instanceMethod yX0_neighbourOf, Cond.selects RX0 yX0_neighbourOf yX0_neighbourOf, Cond.code yX0_neighbourOf cX0_neighbourOf 4 (some .int), Cond.fieldLink RX0 11 "Stormroof$Board" "neighbours" "[I", Cond.methodLink RX0 154 yX0_isOpenBehind, Cond.instanceMethod yX0_isOpenBehind]
def wsX0_listBuildings_r2 : List Cond := [Cond.selects RX0 yX0_isOpenBehind yX0_isOpenBehind, Cond.code yX0_isOpenBehind cX0_isOpenBehind 4 (some .boolean), Cond.methodLink RX0 151 yX0_isOpen, Cond.instanceMethod yX0_isOpen, Cond.selects RX0 yX0_isOpen yX0_isOpen, Cond.code yX0_isOpen cX0_isOpen 2 (some .boolean), Cond.fieldLink RX0 15 "Stormroof$Board" "storeys" "[I", Cond.methodLink RX0 102 yX2_add, Cond.instanceMethod yX2_add, Cond.selects RX2 yX2_add yX2_add, Cond.initialized RX2, Cond.code yX2_add cX2_add 2 none, Cond.fieldLink RX2 15 "Stormroof$TurnList" "size" "I", Cond.fieldLink RX2 11 "Stormroof$TurnList" "numbers" "[I", Cond.methodLink RX0 77 yX0_storeysOf, Cond.instanceMethod yX0_storeysOf, Cond.selects RX0 yX0_storeysOf yX0_storeysOf, Cond.code yX0_storeysOf cX0_storeysOf 2 (some .int)]
def wsX0_listBuildings : List Cond := .code yX0_listBuildings cX0_listBuildings 9 none :: ((wsX0_listBuildings_r1 ++ wsX0_listBuildings_r2) ++ wsX00 ++ wsX20)
def wsX0_listTurns_r1 : List Cond := [Cond.fieldLink RX0 46 "Stormroof$Board" "victor" "I", Cond.fieldLink RX0 43 "Stormroof$Board" "turnsPlayed" "I", Cond.fieldLink RX0 31 "Stormroof$Board" "builders" "I", Cond.fieldLink RX0 27 "Stormroof$Board" "cells" "I", Cond.methodLink RX0 89 yX2_clear, Cond.instanceMethod yX2_clear, Cond.selects RX2 yX2_clear yX2_clear, Cond.initialized RX2, Cond.code yX2_clear cX2_clear 1 none, Cond.fieldLink RX2 15 "Stormroof$TurnList" "size" "I", Cond.methodLink RX0 73 yX0_spotOf, Cond.instanceMethod yX0_spotOf, Cond.selects RX0 yX0_spotOf yX0_spotOf, Cond.initialized RX0, Cond.code yX0_spotOf cX0_spotOf 4 (some .int), Cond.fieldLink RX0 21 "Stormroof$Board" "spots" "[I", Cond.methodLink RX0 94 yX0_reachOf, Cond.instanceMethod yX0_reachOf, Cond.selects RX0 yX0_reachOf yX0_reachOf, Cond.code yX0_reachOf cX0_reachOf 9 (some .long), Cond.methodLink RX0 137 yX0_stepOf, Cond.instanceMethod yX0_stepOf, Cond.selects RX0 yX0_stepOf yX0_stepOf, Cond.code yX0_stepOf cX0_stepOf 8 (some .long)]
def wsX0_listTurns_r2 : List Cond := [Cond.fieldLink RX0 49 "Stormroof$Board" "climbingBarred" "Z", Cond.methodLink RX0 141 yX0_neighbourOf, Cond.instanceMethod yX0_neighbourOf, Cond.selects RX0 yX0_neighbourOf yX0_neighbourOf, Cond.code yX0_neighbourOf cX0_neighbourOf 4 (some .int), Cond.fieldLink RX0 11 "Stormroof$Board" "neighbours" "[I", Cond.methodLink RX0 77 yX0_storeysOf, Cond.instanceMethod yX0_storeysOf, Cond.selects RX0 yX0_storeysOf yX0_storeysOf, Cond.code yX0_storeysOf cX0_storeysOf 2 (some .int), Cond.fieldLink RX0 15 "Stormroof$Board" "storeys" "[I", Cond.methodLink RX0 148 yX0_canEnter, Cond.instanceMethod yX0_canEnter, Cond.selects RX0 yX0_canEnter yX0_canEnter, Cond.code yX0_canEnter cX0_canEnter 5 (some .boolean), Cond.methodLink RX0 132 yX0_holderOf, Cond.instanceMethod yX0_holderOf, Cond.selects RX0 yX0_holderOf yX0_holderOf, Cond.code yX0_holderOf cX0_holderOf 2 (some .int), Cond.fieldLink RX0 18 "Stormroof$Board" "holders" "[I", Cond.methodLink RX0 151 yX0_isOpen, Cond.instanceMethod yX0_isOpen, Cond.selects RX0 yX0_isOpen yX0_isOpen, Cond.code yX0_isOpen cX0_isOpen 2 (some .boolean)]
def wsX0_listTurns_r3 : List Cond := [Cond.methodLink RX0 117 yX0_powerOf, Cond.instanceMethod yX0_powerOf, Cond.selects RX0 yX0_powerOf yX0_powerOf, Cond.code yX0_powerOf cX0_powerOf 2 (some .int), Cond.fieldLink RX0 34 "Stormroof$Board" "firstPower" "I", Cond.fieldLink RX0 37 "Stormroof$Board" "secondPower" "I", Cond.methodLink RX0 98 yX0_listBuildings, Cond.instanceMethod yX0_listBuildings, Cond.selects RX0 yX0_listBuildings yX0_listBuildings, Cond.code yX0_listBuildings cX0_listBuildings 9 none, Cond.methodLink RX0 109 yX0_asideOf, Cond.instanceMethod yX0_asideOf, Cond.selects RX0 yX0_asideOf yX0_asideOf, Cond.code yX0_asideOf cX0_asideOf 4 (some .int), Cond.methodLink RX0 154 yX0_isOpenBehind, Cond.instanceMethod yX0_isOpenBehind, Cond.selects RX0 yX0_isOpenBehind yX0_isOpenBehind, Cond.code yX0_isOpenBehind cX0_isOpenBehind 4 (some .boolean), Cond.methodLink RX0 102 yX2_add, Cond.instanceMethod yX2_add, Cond.selects RX2 yX2_add yX2_add, Cond.code yX2_add cX2_add 2 none, Cond.fieldLink RX2 11 "Stormroof$TurnList" "numbers" "[I"]
def wsX0_listTurns : List Cond := .code yX0_listTurns cX0_listTurns 9 none :: ((wsX0_listTurns_r1 ++ (wsX0_listTurns_r2 ++ wsX0_listTurns_r3)) ++ wsX00 ++ wsX20)
def wsX0_destinationOf : List Cond := .code yX0_destinationOf cX0_destinationOf 1 (some .int) :: ([])
def wsX0_builtCellOf : List Cond := .code yX0_builtCellOf cX0_builtCellOf 2 (some .int) :: ([])
def wsX0_remember : List Cond := .code yX0_remember cX0_remember 5 none :: ([.fieldLink RX0 43 "Stormroof$Board" "turnsPlayed" "I", .fieldLink RX0 24 "Stormroof$Board" "past" "[I", .fieldLink RX0 49 "Stormroof$Board" "climbingBarred" "Z", .methodLink RX0 126 yX0_builtCellOf, .static yX0_builtCellOf, .initialized RX0, .code yX0_builtCellOf cX0_builtCellOf 2 (some .int), .methodLink RX0 77 yX0_storeysOf, .instanceMethod yX0_storeysOf, .selects RX0 yX0_storeysOf yX0_storeysOf, .code yX0_storeysOf cX0_storeysOf 2 (some .int), .fieldLink RX0 15 "Stormroof$Board" "storeys" "[I"] ++ wsX00)
def wsX0_clear : List Cond := .code yX0_clear cX0_clear 2 none :: ([.fieldLink RX0 18 "Stormroof$Board" "holders" "[I"] ++ wsX00)
def wsX0_carry : List Cond := .code yX0_carry cX0_carry 6 none :: ([.methodLink RX0 132 yX0_holderOf, .instanceMethod yX0_holderOf, .selects RX0 yX0_holderOf yX0_holderOf, .initialized RX0, .code yX0_holderOf cX0_holderOf 2 (some .int), .fieldLink RX0 18 "Stormroof$Board" "holders" "[I", .methodLink RX0 135 yX0_clear, .instanceMethod yX0_clear, .selects RX0 yX0_clear yX0_clear, .code yX0_clear cX0_clear 2 none, .methodLink RX0 81 yX0_put, .instanceMethod yX0_put, .selects RX0 yX0_put yX0_put, .code yX0_put cX0_put 4 none, .fieldLink RX0 21 "Stormroof$Board" "spots" "[I"] ++ wsX00)
def wsX0_perform_r1 : List Cond := [Cond.fieldLink RX0 43 "Stormroof$Board" "turnsPlayed" "I", Cond.fieldLink RX0 49 "Stormroof$Board" "climbingBarred" "Z", Cond.fieldLink RX0 46 "Stormroof$Board" "victor" "I", Cond.methodLink RX0 73 yX0_spotOf, Cond.instanceMethod yX0_spotOf, Cond.selects RX0 yX0_spotOf yX0_spotOf, Cond.initialized RX0, Cond.code yX0_spotOf cX0_spotOf 4 (some .int), Cond.fieldLink RX0 21 "Stormroof$Board" "spots" "[I", Cond.methodLink RX0 106 yX0_destinationOf, Cond.static yX0_destinationOf, Cond.code yX0_destinationOf cX0_destinationOf 1 (some .int), Cond.methodLink RX0 109 yX0_asideOf, Cond.instanceMethod yX0_asideOf, Cond.selects RX0 yX0_asideOf yX0_asideOf, Cond.code yX0_asideOf cX0_asideOf 4 (some .int), Cond.methodLink RX0 132 yX0_holderOf, Cond.instanceMethod yX0_holderOf, Cond.selects RX0 yX0_holderOf yX0_holderOf, Cond.code yX0_holderOf cX0_holderOf 2 (some .int), Cond.fieldLink RX0 18 "Stormroof$Board" "holders" "[I", Cond.methodLink RX0 117 yX0_powerOf, Cond.instanceMethod yX0_powerOf, Cond.selects RX0 yX0_powerOf yX0_powerOf]
def wsX0_perform_r2 : List Cond := [Cond.code yX0_powerOf cX0_powerOf 2 (some .int), Cond.fieldLink RX0 34 "Stormroof$Board" "firstPower" "I", Cond.fieldLink RX0 37 "Stormroof$Board" "secondPower" "I", Cond.methodLink RX0 113 yX0_remember, Cond.instanceMethod yX0_remember, Cond.selects RX0 yX0_remember yX0_remember, Cond.code yX0_remember cX0_remember 5 none, Cond.fieldLink RX0 24 "Stormroof$Board" "past" "[I", Cond.methodLink RX0 126 yX0_builtCellOf, Cond.static yX0_builtCellOf, Cond.code yX0_builtCellOf cX0_builtCellOf 2 (some .int), Cond.methodLink RX0 77 yX0_storeysOf, Cond.instanceMethod yX0_storeysOf, Cond.selects RX0 yX0_storeysOf yX0_storeysOf, Cond.code yX0_storeysOf cX0_storeysOf 2 (some .int), Cond.fieldLink RX0 15 "Stormroof$Board" "storeys" "[I", Cond.methodLink RX0 120 yX0_carry, Cond.instanceMethod yX0_carry, Cond.selects RX0 yX0_carry yX0_carry, Cond.code yX0_carry cX0_carry 6 none, Cond.methodLink RX0 135 yX0_clear, Cond.instanceMethod yX0_clear, Cond.selects RX0 yX0_clear yX0_clear, Cond.code yX0_clear cX0_clear 2 none]
def wsX0_perform_r3 : List Cond := [Cond.methodLink RX0 81 yX0_put, Cond.instanceMethod yX0_put, Cond.selects RX0 yX0_put yX0_put, Cond.code yX0_put cX0_put 4 none, Cond.methodLink RX0 123 yX0_setStoreys, Cond.instanceMethod yX0_setStoreys, Cond.selects RX0 yX0_setStoreys yX0_setStoreys, Cond.code yX0_setStoreys cX0_setStoreys 3 none, Cond.methodLink RX0 85 yX0_hasTurn, Cond.instanceMethod yX0_hasTurn, Cond.selects RX0 yX0_hasTurn yX0_hasTurn, Cond.code yX0_hasTurn cX0_hasTurn 7 (some .boolean), Cond.fieldLink RX0 31 "Stormroof$Board" "builders" "I", Cond.methodLink RX0 137 yX0_stepOf, Cond.instanceMethod yX0_stepOf, Cond.selects RX0 yX0_stepOf yX0_stepOf, Cond.code yX0_stepOf cX0_stepOf 8 (some .long), Cond.methodLink RX0 141 yX0_neighbourOf, Cond.instanceMethod yX0_neighbourOf, Cond.selects RX0 yX0_neighbourOf yX0_neighbourOf, Cond.code yX0_neighbourOf cX0_neighbourOf 4 (some .int), Cond.fieldLink RX0 11 "Stormroof$Board" "neighbours" "[I", Cond.methodLink RX0 148 yX0_canEnter, Cond.instanceMethod yX0_canEnter]
def wsX0_perform_r4 : List Cond := [Cond.selects RX0 yX0_canEnter yX0_canEnter, Cond.code yX0_canEnter cX0_canEnter 5 (some .boolean), Cond.methodLink RX0 151 yX0_isOpen, Cond.instanceMethod yX0_isOpen, Cond.selects RX0 yX0_isOpen yX0_isOpen, Cond.code yX0_isOpen cX0_isOpen 2 (some .boolean), Cond.methodLink RX0 144 yX0_canBuild, Cond.instanceMethod yX0_canBuild, Cond.selects RX0 yX0_canBuild yX0_canBuild, Cond.code yX0_canBuild cX0_canBuild 6 (some .boolean), Cond.methodLink RX0 154 yX0_isOpenBehind, Cond.instanceMethod yX0_isOpenBehind, Cond.selects RX0 yX0_isOpenBehind yX0_isOpenBehind, Cond.code yX0_isOpenBehind cX0_isOpenBehind 4 (some .boolean)]
def wsX0_perform : List Cond := .code yX0_perform cX0_perform 7 none :: ((wsX0_perform_r1 ++ (wsX0_perform_r2 ++ (wsX0_perform_r3 ++ wsX0_perform_r4))) ++ wsX00)
def wsX0_carryBack : List Cond := .code yX0_carryBack cX0_carryBack 6 none :: ([.methodLink RX0 132 yX0_holderOf, .instanceMethod yX0_holderOf, .selects RX0 yX0_holderOf yX0_holderOf, .initialized RX0, .code yX0_holderOf cX0_holderOf 2 (some .int), .fieldLink RX0 18 "Stormroof$Board" "holders" "[I", .methodLink RX0 135 yX0_clear, .instanceMethod yX0_clear, .selects RX0 yX0_clear yX0_clear, .code yX0_clear cX0_clear 2 none, .methodLink RX0 81 yX0_put, .instanceMethod yX0_put, .selects RX0 yX0_put yX0_put, .code yX0_put cX0_put 4 none, .fieldLink RX0 21 "Stormroof$Board" "spots" "[I"] ++ wsX00)
def wsX0_undo_r1 : List Cond := [Cond.fieldLink RX0 43 "Stormroof$Board" "turnsPlayed" "I", Cond.fieldLink RX0 24 "Stormroof$Board" "past" "[I", Cond.fieldLink RX0 46 "Stormroof$Board" "victor" "I", Cond.fieldLink RX0 49 "Stormroof$Board" "climbingBarred" "Z", Cond.methodLink RX0 126 yX0_builtCellOf, Cond.static yX0_builtCellOf, Cond.initialized RX0, Cond.code yX0_builtCellOf cX0_builtCellOf 2 (some .int), Cond.methodLink RX0 123 yX0_setStoreys, Cond.instanceMethod yX0_setStoreys, Cond.selects RX0 yX0_setStoreys yX0_setStoreys, Cond.code yX0_setStoreys cX0_setStoreys 3 none, Cond.fieldLink RX0 15 "Stormroof$Board" "storeys" "[I", Cond.methodLink RX0 106 yX0_destinationOf, Cond.static yX0_destinationOf, Cond.code yX0_destinationOf cX0_destinationOf 1 (some .int), Cond.methodLink RX0 129 yX0_carryBack, Cond.instanceMethod yX0_carryBack, Cond.selects RX0 yX0_carryBack yX0_carryBack, Cond.code yX0_carryBack cX0_carryBack 6 none, Cond.methodLink RX0 132 yX0_holderOf, Cond.instanceMethod yX0_holderOf, Cond.selects RX0 yX0_holderOf yX0_holderOf, Cond.code yX0_holderOf cX0_holderOf 2 (some .int)]
def wsX0_undo_r2 : List Cond := [Cond.fieldLink RX0 18 "Stormroof$Board" "holders" "[I", Cond.methodLink RX0 135 yX0_clear, Cond.instanceMethod yX0_clear, Cond.selects RX0 yX0_clear yX0_clear, Cond.code yX0_clear cX0_clear 2 none, Cond.methodLink RX0 81 yX0_put, Cond.instanceMethod yX0_put, Cond.selects RX0 yX0_put yX0_put, Cond.code yX0_put cX0_put 4 none, Cond.fieldLink RX0 21 "Stormroof$Board" "spots" "[I"]
def wsX0_undo : List Cond := .code yX0_undo cX0_undo 3 none :: ((wsX0_undo_r1 ++ wsX0_undo_r2) ++ wsX00)
def wsX2_init : List Cond := .code yX2_init cX2_init 1 none :: ([.methodLink RX2 3 objectInit, .instanceMethod objectInit, .code objectInit ⟨#[0xb1]⟩ 1 none, .arrayClass .int, .fieldLink RX2 11 "Stormroof$TurnList" "numbers" "[I"] ++ wsX20)
def wsX1_init : List Cond := .code yX1_init cX1_init 1 none :: ([.methodLink RX1 3 objectInit, .instanceMethod objectInit, .code objectInit ⟨#[0xb1]⟩ 1 none, .classLink RX1 9 RX2, .instantiable RX2 2, .initialized RX2, .fieldLink RX1 12 "Stormroof$Outlook" "lastTurns" "LStormroof$TurnList;", .fieldLink RX1 18 "Stormroof$Outlook" "nextTurns" "LStormroof$TurnList;", .fieldLink RX1 21 "Stormroof$Outlook" "firstTurns" "LStormroof$TurnList;", .instanceMethod yX2_init, .code yX2_init cX2_init 1 none, .methodLink RX2 3 objectInit, .arrayClass .int, .fieldLink RX2 11 "Stormroof$TurnList" "numbers" "[I"] ++ wsX20 ++ wsX10)
def wsX1_listFor : List Cond := .code yX1_listFor cX1_listFor 2 (some (.object "Stormroof$TurnList")) :: ([.fieldLink RX1 12 "Stormroof$Outlook" "lastTurns" "LStormroof$TurnList;", .fieldLink RX1 18 "Stormroof$Outlook" "nextTurns" "LStormroof$TurnList;", .fieldLink RX1 21 "Stormroof$Outlook" "firstTurns" "LStormroof$TurnList;"] ++ wsX10)
def wsX2_at : List Cond := .code yX2_at cX2_at 2 (some .int) :: ([.fieldLink RX2 11 "Stormroof$TurnList" "numbers" "[I"] ++ wsX20)
def wsX1_look_r1 : List Cond := [Cond.methodLink RX1 46 Lib.Math.max.name, Cond.static Lib.Math.max.name, Cond.initialized "java/lang/Math", Cond.code Lib.Math.max.name Lib.Math.max.code 2 (some .int), Cond.methodLink RX1 24 yX1_listFor, Cond.instanceMethod yX1_listFor, Cond.selects RX1 yX1_listFor yX1_listFor, Cond.initialized RX1, Cond.code yX1_listFor cX1_listFor 2 (some (.object "Stormroof$TurnList")), Cond.fieldLink RX1 12 "Stormroof$Outlook" "lastTurns" "LStormroof$TurnList;", Cond.fieldLink RX1 18 "Stormroof$Outlook" "nextTurns" "LStormroof$TurnList;", Cond.fieldLink RX1 21 "Stormroof$Outlook" "firstTurns" "LStormroof$TurnList;", Cond.methodLink RX1 28 yX0_listTurns, Cond.instanceMethod yX0_listTurns, Cond.selects RX0 yX0_listTurns yX0_listTurns, Cond.initialized RX0, Cond.code yX0_listTurns cX0_listTurns 9 none, Cond.fieldLink RX0 46 "Stormroof$Board" "victor" "I", Cond.fieldLink RX0 43 "Stormroof$Board" "turnsPlayed" "I", Cond.fieldLink RX0 31 "Stormroof$Board" "builders" "I", Cond.fieldLink RX0 27 "Stormroof$Board" "cells" "I", Cond.methodLink RX0 89 yX2_clear, Cond.instanceMethod yX2_clear, Cond.selects RX2 yX2_clear yX2_clear]
def wsX1_look_r2 : List Cond := [Cond.initialized RX2, Cond.code yX2_clear cX2_clear 1 none, Cond.fieldLink RX2 15 "Stormroof$TurnList" "size" "I", Cond.methodLink RX0 73 yX0_spotOf, Cond.instanceMethod yX0_spotOf, Cond.selects RX0 yX0_spotOf yX0_spotOf, Cond.code yX0_spotOf cX0_spotOf 4 (some .int), Cond.fieldLink RX0 21 "Stormroof$Board" "spots" "[I", Cond.methodLink RX0 94 yX0_reachOf, Cond.instanceMethod yX0_reachOf, Cond.selects RX0 yX0_reachOf yX0_reachOf, Cond.code yX0_reachOf cX0_reachOf 9 (some .long), Cond.methodLink RX0 137 yX0_stepOf, Cond.instanceMethod yX0_stepOf, Cond.selects RX0 yX0_stepOf yX0_stepOf, Cond.code yX0_stepOf cX0_stepOf 8 (some .long), Cond.fieldLink RX0 49 "Stormroof$Board" "climbingBarred" "Z", Cond.methodLink RX0 141 yX0_neighbourOf, Cond.instanceMethod yX0_neighbourOf, Cond.selects RX0 yX0_neighbourOf yX0_neighbourOf, Cond.code yX0_neighbourOf cX0_neighbourOf 4 (some .int), Cond.fieldLink RX0 11 "Stormroof$Board" "neighbours" "[I", Cond.methodLink RX0 77 yX0_storeysOf, Cond.instanceMethod yX0_storeysOf]
def wsX1_look_r3 : List Cond := [Cond.selects RX0 yX0_storeysOf yX0_storeysOf, Cond.code yX0_storeysOf cX0_storeysOf 2 (some .int), Cond.fieldLink RX0 15 "Stormroof$Board" "storeys" "[I", Cond.methodLink RX0 148 yX0_canEnter, Cond.instanceMethod yX0_canEnter, Cond.selects RX0 yX0_canEnter yX0_canEnter, Cond.code yX0_canEnter cX0_canEnter 5 (some .boolean), Cond.methodLink RX0 132 yX0_holderOf, Cond.instanceMethod yX0_holderOf, Cond.selects RX0 yX0_holderOf yX0_holderOf, Cond.code yX0_holderOf cX0_holderOf 2 (some .int), Cond.fieldLink RX0 18 "Stormroof$Board" "holders" "[I", Cond.methodLink RX0 151 yX0_isOpen, Cond.instanceMethod yX0_isOpen, Cond.selects RX0 yX0_isOpen yX0_isOpen, Cond.code yX0_isOpen cX0_isOpen 2 (some .boolean), Cond.methodLink RX0 117 yX0_powerOf, Cond.instanceMethod yX0_powerOf, Cond.selects RX0 yX0_powerOf yX0_powerOf, Cond.code yX0_powerOf cX0_powerOf 2 (some .int), Cond.fieldLink RX0 34 "Stormroof$Board" "firstPower" "I", Cond.fieldLink RX0 37 "Stormroof$Board" "secondPower" "I", Cond.methodLink RX0 98 yX0_listBuildings, Cond.instanceMethod yX0_listBuildings]
def wsX1_look_r4 : List Cond := [Cond.selects RX0 yX0_listBuildings yX0_listBuildings, Cond.code yX0_listBuildings cX0_listBuildings 9 none, Cond.methodLink RX0 109 yX0_asideOf, Cond.instanceMethod yX0_asideOf, Cond.selects RX0 yX0_asideOf yX0_asideOf, Cond.code yX0_asideOf cX0_asideOf 4 (some .int), Cond.methodLink RX0 154 yX0_isOpenBehind, Cond.instanceMethod yX0_isOpenBehind, Cond.selects RX0 yX0_isOpenBehind yX0_isOpenBehind, Cond.code yX0_isOpenBehind cX0_isOpenBehind 4 (some .boolean), Cond.methodLink RX0 102 yX2_add, Cond.instanceMethod yX2_add, Cond.selects RX2 yX2_add yX2_add, Cond.code yX2_add cX2_add 2 none, Cond.fieldLink RX2 11 "Stormroof$TurnList" "numbers" "[I", Cond.methodLink RX1 38 yX2_at, Cond.instanceMethod yX2_at, Cond.selects RX2 yX2_at yX2_at, Cond.code yX2_at cX2_at 2 (some .int), Cond.methodLink RX1 42 yX1_worthOf, Cond.instanceMethod yX1_worthOf, Cond.selects RX1 yX1_worthOf yX1_worthOf, Cond.code yX1_worthOf cX1_worthOf 5 (some .int), Cond.methodLink RX1 52 yX0_perform]
def wsX1_look_r5 : List Cond := [Cond.instanceMethod yX0_perform, Cond.selects RX0 yX0_perform yX0_perform, Cond.code yX0_perform cX0_perform 7 none, Cond.methodLink RX0 106 yX0_destinationOf, Cond.static yX0_destinationOf, Cond.code yX0_destinationOf cX0_destinationOf 1 (some .int), Cond.methodLink RX0 113 yX0_remember, Cond.instanceMethod yX0_remember, Cond.selects RX0 yX0_remember yX0_remember, Cond.code yX0_remember cX0_remember 5 none, Cond.fieldLink RX0 24 "Stormroof$Board" "past" "[I", Cond.methodLink RX0 126 yX0_builtCellOf, Cond.static yX0_builtCellOf, Cond.code yX0_builtCellOf cX0_builtCellOf 2 (some .int), Cond.methodLink RX0 120 yX0_carry, Cond.instanceMethod yX0_carry, Cond.selects RX0 yX0_carry yX0_carry, Cond.code yX0_carry cX0_carry 6 none, Cond.methodLink RX0 135 yX0_clear, Cond.instanceMethod yX0_clear, Cond.selects RX0 yX0_clear yX0_clear, Cond.code yX0_clear cX0_clear 2 none, Cond.methodLink RX0 81 yX0_put, Cond.instanceMethod yX0_put]
def wsX1_look_r6 : List Cond := [Cond.selects RX0 yX0_put yX0_put, Cond.code yX0_put cX0_put 4 none, Cond.methodLink RX0 123 yX0_setStoreys, Cond.instanceMethod yX0_setStoreys, Cond.selects RX0 yX0_setStoreys yX0_setStoreys, Cond.code yX0_setStoreys cX0_setStoreys 3 none, Cond.methodLink RX0 85 yX0_hasTurn, Cond.instanceMethod yX0_hasTurn, Cond.selects RX0 yX0_hasTurn yX0_hasTurn, Cond.code yX0_hasTurn cX0_hasTurn 7 (some .boolean), Cond.methodLink RX0 144 yX0_canBuild, Cond.instanceMethod yX0_canBuild, Cond.selects RX0 yX0_canBuild yX0_canBuild, Cond.code yX0_canBuild cX0_canBuild 6 (some .boolean), Cond.methodLink RX1 59 yX1_look, Cond.instanceMethod yX1_look, Cond.selects RX1 yX1_look yX1_look, Cond.methodLink RX1 63 yX0_undo, Cond.instanceMethod yX0_undo, Cond.selects RX0 yX0_undo yX0_undo, Cond.code yX0_undo cX0_undo 3 none, Cond.methodLink RX0 129 yX0_carryBack, Cond.instanceMethod yX0_carryBack, Cond.selects RX0 yX0_carryBack yX0_carryBack]
def wsX1_look_r7 : List Cond := [Cond.code yX0_carryBack cX0_carryBack 6 none]
def wsX1_look : List Cond := .code yX1_look cX1_look 7 (some .int) :: ((wsX1_look_r1 ++ (wsX1_look_r2 ++ (wsX1_look_r3 ++ (wsX1_look_r4 ++ (wsX1_look_r5 ++ (wsX1_look_r6 ++ wsX1_look_r7)))))) ++ wsX20 ++ wsX10 ++ wsX00)
def wsX1_worthOf_r1 : List Cond := [Cond.methodLink RX1 52 yX0_perform, Cond.instanceMethod yX0_perform, Cond.selects RX0 yX0_perform yX0_perform, Cond.initialized RX0, Cond.code yX0_perform cX0_perform 7 none, Cond.fieldLink RX0 43 "Stormroof$Board" "turnsPlayed" "I", Cond.fieldLink RX0 49 "Stormroof$Board" "climbingBarred" "Z", Cond.fieldLink RX0 46 "Stormroof$Board" "victor" "I", Cond.methodLink RX0 73 yX0_spotOf, Cond.instanceMethod yX0_spotOf, Cond.selects RX0 yX0_spotOf yX0_spotOf, Cond.code yX0_spotOf cX0_spotOf 4 (some .int), Cond.fieldLink RX0 21 "Stormroof$Board" "spots" "[I", Cond.methodLink RX0 106 yX0_destinationOf, Cond.static yX0_destinationOf, Cond.code yX0_destinationOf cX0_destinationOf 1 (some .int), Cond.methodLink RX0 109 yX0_asideOf, Cond.instanceMethod yX0_asideOf, Cond.selects RX0 yX0_asideOf yX0_asideOf, Cond.code yX0_asideOf cX0_asideOf 4 (some .int), Cond.methodLink RX0 132 yX0_holderOf, Cond.instanceMethod yX0_holderOf, Cond.selects RX0 yX0_holderOf yX0_holderOf, Cond.code yX0_holderOf cX0_holderOf 2 (some .int)]
def wsX1_worthOf_r2 : List Cond := [Cond.fieldLink RX0 18 "Stormroof$Board" "holders" "[I", Cond.methodLink RX0 117 yX0_powerOf, Cond.instanceMethod yX0_powerOf, Cond.selects RX0 yX0_powerOf yX0_powerOf, Cond.code yX0_powerOf cX0_powerOf 2 (some .int), Cond.fieldLink RX0 34 "Stormroof$Board" "firstPower" "I", Cond.fieldLink RX0 37 "Stormroof$Board" "secondPower" "I", Cond.methodLink RX0 113 yX0_remember, Cond.instanceMethod yX0_remember, Cond.selects RX0 yX0_remember yX0_remember, Cond.code yX0_remember cX0_remember 5 none, Cond.fieldLink RX0 24 "Stormroof$Board" "past" "[I", Cond.methodLink RX0 126 yX0_builtCellOf, Cond.static yX0_builtCellOf, Cond.code yX0_builtCellOf cX0_builtCellOf 2 (some .int), Cond.methodLink RX0 77 yX0_storeysOf, Cond.instanceMethod yX0_storeysOf, Cond.selects RX0 yX0_storeysOf yX0_storeysOf, Cond.code yX0_storeysOf cX0_storeysOf 2 (some .int), Cond.fieldLink RX0 15 "Stormroof$Board" "storeys" "[I", Cond.methodLink RX0 120 yX0_carry, Cond.instanceMethod yX0_carry, Cond.selects RX0 yX0_carry yX0_carry, Cond.code yX0_carry cX0_carry 6 none]
def wsX1_worthOf_r3 : List Cond := [Cond.methodLink RX0 135 yX0_clear, Cond.instanceMethod yX0_clear, Cond.selects RX0 yX0_clear yX0_clear, Cond.code yX0_clear cX0_clear 2 none, Cond.methodLink RX0 81 yX0_put, Cond.instanceMethod yX0_put, Cond.selects RX0 yX0_put yX0_put, Cond.code yX0_put cX0_put 4 none, Cond.methodLink RX0 123 yX0_setStoreys, Cond.instanceMethod yX0_setStoreys, Cond.selects RX0 yX0_setStoreys yX0_setStoreys, Cond.code yX0_setStoreys cX0_setStoreys 3 none, Cond.methodLink RX0 85 yX0_hasTurn, Cond.instanceMethod yX0_hasTurn, Cond.selects RX0 yX0_hasTurn yX0_hasTurn, Cond.code yX0_hasTurn cX0_hasTurn 7 (some .boolean), Cond.fieldLink RX0 31 "Stormroof$Board" "builders" "I", Cond.methodLink RX0 137 yX0_stepOf, Cond.instanceMethod yX0_stepOf, Cond.selects RX0 yX0_stepOf yX0_stepOf, Cond.code yX0_stepOf cX0_stepOf 8 (some .long), Cond.methodLink RX0 141 yX0_neighbourOf, Cond.instanceMethod yX0_neighbourOf, Cond.selects RX0 yX0_neighbourOf yX0_neighbourOf]
def wsX1_worthOf_r4 : List Cond := [Cond.code yX0_neighbourOf cX0_neighbourOf 4 (some .int), Cond.fieldLink RX0 11 "Stormroof$Board" "neighbours" "[I", Cond.methodLink RX0 148 yX0_canEnter, Cond.instanceMethod yX0_canEnter, Cond.selects RX0 yX0_canEnter yX0_canEnter, Cond.code yX0_canEnter cX0_canEnter 5 (some .boolean), Cond.methodLink RX0 151 yX0_isOpen, Cond.instanceMethod yX0_isOpen, Cond.selects RX0 yX0_isOpen yX0_isOpen, Cond.code yX0_isOpen cX0_isOpen 2 (some .boolean), Cond.methodLink RX0 144 yX0_canBuild, Cond.instanceMethod yX0_canBuild, Cond.selects RX0 yX0_canBuild yX0_canBuild, Cond.code yX0_canBuild cX0_canBuild 6 (some .boolean), Cond.methodLink RX0 154 yX0_isOpenBehind, Cond.instanceMethod yX0_isOpenBehind, Cond.selects RX0 yX0_isOpenBehind yX0_isOpenBehind, Cond.code yX0_isOpenBehind cX0_isOpenBehind 4 (some .boolean), Cond.methodLink RX1 59 yX1_look, Cond.instanceMethod yX1_look, Cond.selects RX1 yX1_look yX1_look, Cond.initialized RX1, Cond.methodLink RX1 63 yX0_undo, Cond.instanceMethod yX0_undo]
def wsX1_worthOf_r5 : List Cond := [Cond.selects RX0 yX0_undo yX0_undo, Cond.code yX0_undo cX0_undo 3 none, Cond.methodLink RX0 129 yX0_carryBack, Cond.instanceMethod yX0_carryBack, Cond.selects RX0 yX0_carryBack yX0_carryBack, Cond.code yX0_carryBack cX0_carryBack 6 none, Cond.code yX1_look cX1_look 7 (some .int), Cond.methodLink RX1 46 Lib.Math.max.name, Cond.static Lib.Math.max.name, Cond.initialized "java/lang/Math", Cond.code Lib.Math.max.name Lib.Math.max.code 2 (some .int), Cond.methodLink RX1 24 yX1_listFor, Cond.instanceMethod yX1_listFor, Cond.selects RX1 yX1_listFor yX1_listFor, Cond.code yX1_listFor cX1_listFor 2 (some (.object "Stormroof$TurnList")), Cond.fieldLink RX1 12 "Stormroof$Outlook" "lastTurns" "LStormroof$TurnList;", Cond.fieldLink RX1 18 "Stormroof$Outlook" "nextTurns" "LStormroof$TurnList;", Cond.fieldLink RX1 21 "Stormroof$Outlook" "firstTurns" "LStormroof$TurnList;", Cond.methodLink RX1 28 yX0_listTurns, Cond.instanceMethod yX0_listTurns, Cond.selects RX0 yX0_listTurns yX0_listTurns, Cond.code yX0_listTurns cX0_listTurns 9 none, Cond.fieldLink RX0 27 "Stormroof$Board" "cells" "I", Cond.methodLink RX0 89 yX2_clear]
def wsX1_worthOf_r6 : List Cond := [Cond.instanceMethod yX2_clear, Cond.selects RX2 yX2_clear yX2_clear, Cond.initialized RX2, Cond.code yX2_clear cX2_clear 1 none, Cond.fieldLink RX2 15 "Stormroof$TurnList" "size" "I", Cond.methodLink RX0 94 yX0_reachOf, Cond.instanceMethod yX0_reachOf, Cond.selects RX0 yX0_reachOf yX0_reachOf, Cond.code yX0_reachOf cX0_reachOf 9 (some .long), Cond.methodLink RX0 98 yX0_listBuildings, Cond.instanceMethod yX0_listBuildings, Cond.selects RX0 yX0_listBuildings yX0_listBuildings, Cond.code yX0_listBuildings cX0_listBuildings 9 none, Cond.methodLink RX0 102 yX2_add, Cond.instanceMethod yX2_add, Cond.selects RX2 yX2_add yX2_add, Cond.code yX2_add cX2_add 2 none, Cond.fieldLink RX2 11 "Stormroof$TurnList" "numbers" "[I", Cond.methodLink RX1 38 yX2_at, Cond.instanceMethod yX2_at, Cond.selects RX2 yX2_at yX2_at, Cond.code yX2_at cX2_at 2 (some .int), Cond.methodLink RX1 42 yX1_worthOf, Cond.instanceMethod yX1_worthOf]
def wsX1_worthOf_r7 : List Cond := [Cond.selects RX1 yX1_worthOf yX1_worthOf]
def wsX1_worthOf : List Cond := .code yX1_worthOf cX1_worthOf 5 (some .int) :: ((wsX1_worthOf_r1 ++ (wsX1_worthOf_r2 ++ (wsX1_worthOf_r3 ++ (wsX1_worthOf_r4 ++ (wsX1_worthOf_r5 ++ (wsX1_worthOf_r6 ++ wsX1_worthOf_r7)))))) ++ wsX20 ++ wsX10 ++ wsX00)
def wsX2_holds : List Cond := .code yX2_holds cX2_holds 3 (some .boolean) :: ([.fieldLink RX2 15 "Stormroof$TurnList" "size" "I", .methodLink RX2 19 yX2_at, .instanceMethod yX2_at, .selects RX2 yX2_at yX2_at, .initialized RX2, .code yX2_at cX2_at 2 (some .int), .fieldLink RX2 11 "Stormroof$TurnList" "numbers" "[I"] ++ wsX20)
def wsX3_init_r1 : List Cond := [Cond.methodLink RX3 3 objectInit, Cond.instanceMethod objectInit, Cond.code objectInit ⟨#[0xb1]⟩ 1 none, Cond.classLink RX3 9 RX0, Cond.instantiable RX0 13, Cond.initialized RX0, Cond.fieldLink RX3 12 "Stormroof" "board" "LStormroof$Board;", Cond.classLink RX3 16 RX2, Cond.instantiable RX2 2, Cond.initialized RX2, Cond.fieldLink RX3 19 "Stormroof" "listed" "LStormroof$TurnList;", Cond.classLink RX3 23 RX1, Cond.instantiable RX1 3, Cond.initialized RX1, Cond.fieldLink RX3 26 "Stormroof" "outlook" "LStormroof$Outlook;", Cond.instanceMethod yX0_init, Cond.code yX0_init cX0_init 1 none, Cond.methodLink RX0 3 objectInit, Cond.arrayClass .int, Cond.fieldLink RX0 11 "Stormroof$Board" "neighbours" "[I", Cond.fieldLink RX0 15 "Stormroof$Board" "storeys" "[I", Cond.fieldLink RX0 18 "Stormroof$Board" "holders" "[I", Cond.fieldLink RX0 21 "Stormroof$Board" "spots" "[I", Cond.fieldLink RX0 24 "Stormroof$Board" "past" "[I"]
def wsX3_init_r2 : List Cond := [Cond.instanceMethod yX2_init, Cond.code yX2_init cX2_init 1 none, Cond.methodLink RX2 3 objectInit, Cond.fieldLink RX2 11 "Stormroof$TurnList" "numbers" "[I", Cond.instanceMethod yX1_init, Cond.code yX1_init cX1_init 1 none, Cond.methodLink RX1 3 objectInit, Cond.classLink RX1 9 RX2, Cond.fieldLink RX1 12 "Stormroof$Outlook" "lastTurns" "LStormroof$TurnList;", Cond.fieldLink RX1 18 "Stormroof$Outlook" "nextTurns" "LStormroof$TurnList;", Cond.fieldLink RX1 21 "Stormroof$Outlook" "firstTurns" "LStormroof$TurnList;", Cond.methodLink RX3 30 yX0_start, Cond.instanceMethod yX0_start, Cond.selects RX0 yX0_start yX0_start, Cond.code yX0_start cX0_start 8 none, Cond.fieldLink RX0 27 "Stormroof$Board" "cells" "I", Cond.fieldLink RX0 31 "Stormroof$Board" "builders" "I", Cond.fieldLink RX0 34 "Stormroof$Board" "firstPower" "I", Cond.fieldLink RX0 37 "Stormroof$Board" "secondPower" "I", Cond.fieldLink RX0 40 "Stormroof$Board" "placed" "I", Cond.fieldLink RX0 43 "Stormroof$Board" "turnsPlayed" "I", Cond.fieldLink RX0 46 "Stormroof$Board" "victor" "I", Cond.fieldLink RX0 49 "Stormroof$Board" "climbingBarred" "Z", Cond.methodLink RX0 53 yJ7_fill_53178]
def wsX3_init_r3 : List Cond := [Cond.static yJ7_fill_53178, Cond.initialized RJ7, Cond.code yJ7_fill_53178 cJ7_fill_53178 4 none, Cond.methodLink RX0 59 yX0_joinNeighbours, Cond.instanceMethod yX0_joinNeighbours, Cond.selects RX0 yX0_joinNeighbours yX0_joinNeighbours, Cond.code yX0_joinNeighbours cX0_joinNeighbours 10 none, Cond.fieldLink RX0 63 "Stormroof$Board" "DOWN" "[I", Cond.fieldLink RX0 66 "Stormroof$Board" "ACROSS" "[I"]
def wsX3_init : List Cond := .code yX3_init cX3_init 1 none :: ((wsX3_init_r1 ++ (wsX3_init_r2 ++ wsX3_init_r3)) ++ wsX00 ++ wsX30 ++ wsX20 ++ wsX10)
def wsX3_isOutside : List Cond := .code yX3_isOutside cX3_isOutside 3 (some .boolean) :: ([])
def wsX3_begin_r1 : List Cond := [Cond.classLink RX3 38 "java/lang/IllegalArgumentException", Cond.initialized "java/lang/IllegalArgumentException", Cond.fieldLink RX3 12 "Stormroof" "board" "LStormroof$Board;", Cond.methodLink RX3 34 yX3_isOutside, Cond.static yX3_isOutside, Cond.initialized RX3, Cond.code yX3_isOutside cX3_isOutside 3 (some .boolean), Cond.methodLink RX3 30 yX0_start, Cond.instanceMethod yX0_start, Cond.selects RX0 yX0_start yX0_start, Cond.initialized RX0, Cond.code yX0_start cX0_start 8 none, Cond.fieldLink RX0 27 "Stormroof$Board" "cells" "I", Cond.fieldLink RX0 31 "Stormroof$Board" "builders" "I", Cond.fieldLink RX0 34 "Stormroof$Board" "firstPower" "I", Cond.fieldLink RX0 37 "Stormroof$Board" "secondPower" "I", Cond.fieldLink RX0 40 "Stormroof$Board" "placed" "I", Cond.fieldLink RX0 43 "Stormroof$Board" "turnsPlayed" "I", Cond.fieldLink RX0 46 "Stormroof$Board" "victor" "I", Cond.fieldLink RX0 49 "Stormroof$Board" "climbingBarred" "Z", Cond.fieldLink RX0 15 "Stormroof$Board" "storeys" "[I", Cond.fieldLink RX0 18 "Stormroof$Board" "holders" "[I", Cond.fieldLink RX0 21 "Stormroof$Board" "spots" "[I", Cond.methodLink RX0 53 yJ7_fill_53178]
def wsX3_begin_r2 : List Cond := [Cond.static yJ7_fill_53178, Cond.initialized RJ7, Cond.code yJ7_fill_53178 cJ7_fill_53178 4 none, Cond.methodLink RX0 59 yX0_joinNeighbours, Cond.instanceMethod yX0_joinNeighbours, Cond.selects RX0 yX0_joinNeighbours yX0_joinNeighbours, Cond.code yX0_joinNeighbours cX0_joinNeighbours 10 none, Cond.fieldLink RX0 63 "Stormroof$Board" "DOWN" "[I", Cond.fieldLink RX0 66 "Stormroof$Board" "ACROSS" "[I", Cond.fieldLink RX0 11 "Stormroof$Board" "neighbours" "[I"]
def wsX3_begin : List Cond := .code yX3_begin cX3_begin 6 (some .int) :: ((wsX3_begin_r1 ++ wsX3_begin_r2) ++ wsX30 ++ wsX00 ++ (vx_atS RX3 42 "java/lang/IllegalArgumentException" ["java/lang/RuntimeException", "java/lang/Exception"]).filter goodWord)
def wsX3_requireCell : List Cond := .code yX3_requireCell cX3_requireCell 2 none :: ([.classLink RX3 108 "java/lang/IndexOutOfBoundsException", .initialized "java/lang/IndexOutOfBoundsException", .fieldLink RX3 12 "Stormroof" "board" "LStormroof$Board;", .methodLink RX3 34 yX3_isOutside, .static yX3_isOutside, .initialized RX3, .code yX3_isOutside cX3_isOutside 3 (some .boolean)] ++ wsX30 ++ wsX00 ++ (vx_atS RX3 112 "java/lang/IndexOutOfBoundsException" ["java/lang/RuntimeException", "java/lang/Exception"]).filter goodWord)
def wsX3_place_r1 : List Cond := [Cond.classLink RX3 65 "java/lang/IllegalStateException", Cond.initialized "java/lang/IllegalStateException", Cond.fieldLink RX3 12 "Stormroof" "board" "LStormroof$Board;", Cond.methodLink RX3 53 yX3_requireCell, Cond.instanceMethod yX3_requireCell, Cond.selects RX3 yX3_requireCell yX3_requireCell, Cond.initialized RX3, Cond.code yX3_requireCell cX3_requireCell 2 none, Cond.classLink RX3 108 "java/lang/IndexOutOfBoundsException", Cond.initialized "java/lang/IndexOutOfBoundsException", Cond.methodLink RX3 34 yX3_isOutside, Cond.static yX3_isOutside, Cond.code yX3_isOutside cX3_isOutside 3 (some .boolean), Cond.methodLink RX3 57 yX0_isSet, Cond.instanceMethod yX0_isSet, Cond.selects RX0 yX0_isSet yX0_isSet, Cond.initialized RX0, Cond.code yX0_isSet cX0_isSet 1 (some .boolean), Cond.fieldLink RX0 40 "Stormroof$Board" "placed" "I", Cond.fieldLink RX0 31 "Stormroof$Board" "builders" "I", Cond.methodLink RX3 61 yX0_isOpen, Cond.instanceMethod yX0_isOpen, Cond.selects RX0 yX0_isOpen yX0_isOpen, Cond.code yX0_isOpen cX0_isOpen 2 (some .boolean)]
def wsX3_place_r2 : List Cond := [Cond.fieldLink RX0 18 "Stormroof$Board" "holders" "[I", Cond.fieldLink RX0 15 "Stormroof$Board" "storeys" "[I", Cond.methodLink RX3 70 yX0_addBuilder, Cond.instanceMethod yX0_addBuilder, Cond.selects RX0 yX0_addBuilder yX0_addBuilder, Cond.code yX0_addBuilder cX0_addBuilder 4 none, Cond.fieldLink RX0 46 "Stormroof$Board" "victor" "I", Cond.methodLink RX0 81 yX0_put, Cond.instanceMethod yX0_put, Cond.selects RX0 yX0_put yX0_put, Cond.code yX0_put cX0_put 4 none, Cond.fieldLink RX0 21 "Stormroof$Board" "spots" "[I", Cond.methodLink RX0 69 yX0_isSet, Cond.methodLink RX0 85 yX0_hasTurn, Cond.instanceMethod yX0_hasTurn, Cond.selects RX0 yX0_hasTurn yX0_hasTurn, Cond.code yX0_hasTurn cX0_hasTurn 7 (some .boolean), Cond.methodLink RX0 73 yX0_spotOf, Cond.instanceMethod yX0_spotOf, Cond.selects RX0 yX0_spotOf yX0_spotOf, Cond.code yX0_spotOf cX0_spotOf 4 (some .int), Cond.methodLink RX0 137 yX0_stepOf, Cond.instanceMethod yX0_stepOf, Cond.selects RX0 yX0_stepOf yX0_stepOf]
def wsX3_place_r3 : List Cond := [Cond.code yX0_stepOf cX0_stepOf 8 (some .long), Cond.fieldLink RX0 49 "Stormroof$Board" "climbingBarred" "Z", Cond.methodLink RX0 141 yX0_neighbourOf, Cond.instanceMethod yX0_neighbourOf, Cond.selects RX0 yX0_neighbourOf yX0_neighbourOf, Cond.code yX0_neighbourOf cX0_neighbourOf 4 (some .int), Cond.fieldLink RX0 11 "Stormroof$Board" "neighbours" "[I", Cond.methodLink RX0 77 yX0_storeysOf, Cond.instanceMethod yX0_storeysOf, Cond.selects RX0 yX0_storeysOf yX0_storeysOf, Cond.code yX0_storeysOf cX0_storeysOf 2 (some .int), Cond.methodLink RX0 148 yX0_canEnter, Cond.instanceMethod yX0_canEnter, Cond.selects RX0 yX0_canEnter yX0_canEnter, Cond.code yX0_canEnter cX0_canEnter 5 (some .boolean), Cond.methodLink RX0 132 yX0_holderOf, Cond.instanceMethod yX0_holderOf, Cond.selects RX0 yX0_holderOf yX0_holderOf, Cond.code yX0_holderOf cX0_holderOf 2 (some .int), Cond.methodLink RX0 151 yX0_isOpen, Cond.methodLink RX0 117 yX0_powerOf, Cond.instanceMethod yX0_powerOf, Cond.selects RX0 yX0_powerOf yX0_powerOf, Cond.code yX0_powerOf cX0_powerOf 2 (some .int)]
def wsX3_place_r4 : List Cond := [Cond.fieldLink RX0 34 "Stormroof$Board" "firstPower" "I", Cond.fieldLink RX0 37 "Stormroof$Board" "secondPower" "I", Cond.methodLink RX0 144 yX0_canBuild, Cond.instanceMethod yX0_canBuild, Cond.selects RX0 yX0_canBuild yX0_canBuild, Cond.code yX0_canBuild cX0_canBuild 6 (some .boolean), Cond.methodLink RX0 109 yX0_asideOf, Cond.instanceMethod yX0_asideOf, Cond.selects RX0 yX0_asideOf yX0_asideOf, Cond.code yX0_asideOf cX0_asideOf 4 (some .int), Cond.methodLink RX0 154 yX0_isOpenBehind, Cond.instanceMethod yX0_isOpenBehind, Cond.selects RX0 yX0_isOpenBehind yX0_isOpenBehind, Cond.code yX0_isOpenBehind cX0_isOpenBehind 4 (some .boolean), Cond.methodLink RX3 73 yX0_mover, Cond.instanceMethod yX0_mover, Cond.selects RX0 yX0_mover yX0_mover, Cond.code yX0_mover cX0_mover 1 (some .int), Cond.fieldLink RX0 43 "Stormroof$Board" "turnsPlayed" "I"]
def wsX3_place : List Cond := .code yX3_place cX3_place 2 (some .int) :: ((wsX3_place_r1 ++ (wsX3_place_r2 ++ (wsX3_place_r3 ++ wsX3_place_r4))) ++ wsX30 ++ wsX00 ++ (vx_atS RX3 69 "java/lang/IllegalStateException" ["java/lang/RuntimeException", "java/lang/Exception"]).filter goodWord ++ (vx_atS RX3 112 "java/lang/IndexOutOfBoundsException" ["java/lang/RuntimeException", "java/lang/Exception"]).filter goodWord)
def wsX3_raise_r1 : List Cond := [Cond.classLink RX3 38 "java/lang/IllegalArgumentException", Cond.initialized "java/lang/IllegalArgumentException", Cond.classLink RX3 65 "java/lang/IllegalStateException", Cond.initialized "java/lang/IllegalStateException", Cond.fieldLink RX3 12 "Stormroof" "board" "LStormroof$Board;", Cond.methodLink RX3 53 yX3_requireCell, Cond.instanceMethod yX3_requireCell, Cond.selects RX3 yX3_requireCell yX3_requireCell, Cond.initialized RX3, Cond.code yX3_requireCell cX3_requireCell 2 none, Cond.classLink RX3 108 "java/lang/IndexOutOfBoundsException", Cond.initialized "java/lang/IndexOutOfBoundsException", Cond.methodLink RX3 34 yX3_isOutside, Cond.static yX3_isOutside, Cond.code yX3_isOutside cX3_isOutside 3 (some .boolean), Cond.methodLink RX3 57 yX0_isSet, Cond.instanceMethod yX0_isSet, Cond.selects RX0 yX0_isSet yX0_isSet, Cond.initialized RX0, Cond.code yX0_isSet cX0_isSet 1 (some .boolean), Cond.fieldLink RX0 40 "Stormroof$Board" "placed" "I", Cond.fieldLink RX0 31 "Stormroof$Board" "builders" "I", Cond.methodLink RX3 79 yX0_holderOf, Cond.instanceMethod yX0_holderOf]
def wsX3_raise_r2 : List Cond := [Cond.selects RX0 yX0_holderOf yX0_holderOf, Cond.code yX0_holderOf cX0_holderOf 2 (some .int), Cond.fieldLink RX0 18 "Stormroof$Board" "holders" "[I", Cond.methodLink RX3 85 yX0_storeysOf, Cond.instanceMethod yX0_storeysOf, Cond.selects RX0 yX0_storeysOf yX0_storeysOf, Cond.code yX0_storeysOf cX0_storeysOf 2 (some .int), Cond.fieldLink RX0 15 "Stormroof$Board" "storeys" "[I", Cond.methodLink RX3 88 yX0_setStoreys, Cond.instanceMethod yX0_setStoreys, Cond.selects RX0 yX0_setStoreys yX0_setStoreys, Cond.code yX0_setStoreys cX0_setStoreys 3 none]
def wsX3_raise : List Cond := .code yX3_raise cX3_raise 4 (some .int) :: ((wsX3_raise_r1 ++ wsX3_raise_r2) ++ wsX30 ++ wsX00 ++ (vx_atS RX3 42 "java/lang/IllegalArgumentException" ["java/lang/RuntimeException", "java/lang/Exception"]).filter goodWord ++ (vx_atS RX3 69 "java/lang/IllegalStateException" ["java/lang/RuntimeException", "java/lang/Exception"]).filter goodWord ++ (vx_atS RX3 112 "java/lang/IndexOutOfBoundsException" ["java/lang/RuntimeException", "java/lang/Exception"]).filter goodWord)
def wsX3_onTurn : List Cond := .code yX3_onTurn cX3_onTurn 1 (some .int) :: ([.fieldLink RX3 12 "Stormroof" "board" "LStormroof$Board;", .methodLink RX3 73 yX0_mover, .instanceMethod yX0_mover, .selects RX0 yX0_mover yX0_mover, .initialized RX0, .code yX0_mover cX0_mover 1 (some .int), .fieldLink RX0 46 "Stormroof$Board" "victor" "I", .fieldLink RX0 43 "Stormroof$Board" "turnsPlayed" "I", .fieldLink RX0 40 "Stormroof$Board" "placed" "I", .fieldLink RX0 31 "Stormroof$Board" "builders" "I", .methodLink RX0 69 yX0_isSet, .instanceMethod yX0_isSet, .selects RX0 yX0_isSet yX0_isSet, .code yX0_isSet cX0_isSet 1 (some .boolean)] ++ wsX30 ++ wsX00)
def wsX3_winner : List Cond := .code yX3_winner cX3_winner 1 (some .int) :: ([.fieldLink RX3 12 "Stormroof" "board" "LStormroof$Board;"] ++ wsX30 ++ wsX00)
def wsX3_height : List Cond := .code yX3_height cX3_height 2 (some .int) :: ([.fieldLink RX3 12 "Stormroof" "board" "LStormroof$Board;", .methodLink RX3 53 yX3_requireCell, .instanceMethod yX3_requireCell, .selects RX3 yX3_requireCell yX3_requireCell, .initialized RX3, .code yX3_requireCell cX3_requireCell 2 none, .classLink RX3 108 "java/lang/IndexOutOfBoundsException", .initialized "java/lang/IndexOutOfBoundsException", .methodLink RX3 34 yX3_isOutside, .static yX3_isOutside, .code yX3_isOutside cX3_isOutside 3 (some .boolean), .methodLink RX3 85 yX0_storeysOf, .instanceMethod yX0_storeysOf, .selects RX0 yX0_storeysOf yX0_storeysOf, .initialized RX0, .code yX0_storeysOf cX0_storeysOf 2 (some .int), .fieldLink RX0 15 "Stormroof$Board" "storeys" "[I"] ++ wsX30 ++ wsX00 ++ (vx_atS RX3 112 "java/lang/IndexOutOfBoundsException" ["java/lang/RuntimeException", "java/lang/Exception"]).filter goodWord)
def wsX3_builderAt : List Cond := .code yX3_builderAt cX3_builderAt 2 (some .int) :: ([.fieldLink RX3 12 "Stormroof" "board" "LStormroof$Board;", .methodLink RX3 53 yX3_requireCell, .instanceMethod yX3_requireCell, .selects RX3 yX3_requireCell yX3_requireCell, .initialized RX3, .code yX3_requireCell cX3_requireCell 2 none, .classLink RX3 108 "java/lang/IndexOutOfBoundsException", .initialized "java/lang/IndexOutOfBoundsException", .methodLink RX3 34 yX3_isOutside, .static yX3_isOutside, .code yX3_isOutside cX3_isOutside 3 (some .boolean), .methodLink RX3 79 yX0_holderOf, .instanceMethod yX0_holderOf, .selects RX0 yX0_holderOf yX0_holderOf, .initialized RX0, .code yX0_holderOf cX0_holderOf 2 (some .int), .fieldLink RX0 18 "Stormroof$Board" "holders" "[I"] ++ wsX30 ++ wsX00 ++ (vx_atS RX3 112 "java/lang/IndexOutOfBoundsException" ["java/lang/RuntimeException", "java/lang/Exception"]).filter goodWord)
def wsX3_played : List Cond := .code yX3_played cX3_played 1 (some .int) :: ([.fieldLink RX3 12 "Stormroof" "board" "LStormroof$Board;"] ++ wsX30 ++ wsX00)
def wsX3_requireAllPlaced : List Cond := .code yX3_requireAllPlaced cX3_requireAllPlaced 1 none :: ([.classLink RX3 65 "java/lang/IllegalStateException", .initialized "java/lang/IllegalStateException", .fieldLink RX3 12 "Stormroof" "board" "LStormroof$Board;", .methodLink RX3 57 yX0_isSet, .instanceMethod yX0_isSet, .selects RX0 yX0_isSet yX0_isSet, .initialized RX0, .code yX0_isSet cX0_isSet 1 (some .boolean), .fieldLink RX0 40 "Stormroof$Board" "placed" "I", .fieldLink RX0 31 "Stormroof$Board" "builders" "I"] ++ wsX30 ++ wsX00 ++ (vx_atS RX3 69 "java/lang/IllegalStateException" ["java/lang/RuntimeException", "java/lang/Exception"]).filter goodWord)
def wsX3_turnCount_r1 : List Cond := [Cond.fieldLink RX3 12 "Stormroof" "board" "LStormroof$Board;", Cond.fieldLink RX3 19 "Stormroof" "listed" "LStormroof$TurnList;", Cond.methodLink RX3 98 yX3_requireAllPlaced, Cond.instanceMethod yX3_requireAllPlaced, Cond.selects RX3 yX3_requireAllPlaced yX3_requireAllPlaced, Cond.initialized RX3, Cond.code yX3_requireAllPlaced cX3_requireAllPlaced 1 none, Cond.classLink RX3 65 "java/lang/IllegalStateException", Cond.initialized "java/lang/IllegalStateException", Cond.methodLink RX3 57 yX0_isSet, Cond.instanceMethod yX0_isSet, Cond.selects RX0 yX0_isSet yX0_isSet, Cond.initialized RX0, Cond.code yX0_isSet cX0_isSet 1 (some .boolean), Cond.fieldLink RX0 40 "Stormroof$Board" "placed" "I", Cond.fieldLink RX0 31 "Stormroof$Board" "builders" "I", Cond.methodLink RX3 101 yX0_listTurns, Cond.instanceMethod yX0_listTurns, Cond.selects RX0 yX0_listTurns yX0_listTurns, Cond.code yX0_listTurns cX0_listTurns 9 none, Cond.fieldLink RX0 46 "Stormroof$Board" "victor" "I", Cond.fieldLink RX0 43 "Stormroof$Board" "turnsPlayed" "I", Cond.fieldLink RX0 27 "Stormroof$Board" "cells" "I", Cond.methodLink RX0 89 yX2_clear]
def wsX3_turnCount_r2 : List Cond := [Cond.instanceMethod yX2_clear, Cond.selects RX2 yX2_clear yX2_clear, Cond.initialized RX2, Cond.code yX2_clear cX2_clear 1 none, Cond.fieldLink RX2 15 "Stormroof$TurnList" "size" "I", Cond.methodLink RX0 73 yX0_spotOf, Cond.instanceMethod yX0_spotOf, Cond.selects RX0 yX0_spotOf yX0_spotOf, Cond.code yX0_spotOf cX0_spotOf 4 (some .int), Cond.fieldLink RX0 21 "Stormroof$Board" "spots" "[I", Cond.methodLink RX0 94 yX0_reachOf, Cond.instanceMethod yX0_reachOf, Cond.selects RX0 yX0_reachOf yX0_reachOf, Cond.code yX0_reachOf cX0_reachOf 9 (some .long), Cond.methodLink RX0 137 yX0_stepOf, Cond.instanceMethod yX0_stepOf, Cond.selects RX0 yX0_stepOf yX0_stepOf, Cond.code yX0_stepOf cX0_stepOf 8 (some .long), Cond.fieldLink RX0 49 "Stormroof$Board" "climbingBarred" "Z", Cond.methodLink RX0 141 yX0_neighbourOf, Cond.instanceMethod yX0_neighbourOf, Cond.selects RX0 yX0_neighbourOf yX0_neighbourOf, Cond.code yX0_neighbourOf cX0_neighbourOf 4 (some .int), Cond.fieldLink RX0 11 "Stormroof$Board" "neighbours" "[I"]
def wsX3_turnCount_r3 : List Cond := [Cond.methodLink RX0 77 yX0_storeysOf, Cond.instanceMethod yX0_storeysOf, Cond.selects RX0 yX0_storeysOf yX0_storeysOf, Cond.code yX0_storeysOf cX0_storeysOf 2 (some .int), Cond.fieldLink RX0 15 "Stormroof$Board" "storeys" "[I", Cond.methodLink RX0 148 yX0_canEnter, Cond.instanceMethod yX0_canEnter, Cond.selects RX0 yX0_canEnter yX0_canEnter, Cond.code yX0_canEnter cX0_canEnter 5 (some .boolean), Cond.methodLink RX0 132 yX0_holderOf, Cond.instanceMethod yX0_holderOf, Cond.selects RX0 yX0_holderOf yX0_holderOf, Cond.code yX0_holderOf cX0_holderOf 2 (some .int), Cond.fieldLink RX0 18 "Stormroof$Board" "holders" "[I", Cond.methodLink RX0 151 yX0_isOpen, Cond.instanceMethod yX0_isOpen, Cond.selects RX0 yX0_isOpen yX0_isOpen, Cond.code yX0_isOpen cX0_isOpen 2 (some .boolean), Cond.methodLink RX0 117 yX0_powerOf, Cond.instanceMethod yX0_powerOf, Cond.selects RX0 yX0_powerOf yX0_powerOf, Cond.code yX0_powerOf cX0_powerOf 2 (some .int), Cond.fieldLink RX0 34 "Stormroof$Board" "firstPower" "I", Cond.fieldLink RX0 37 "Stormroof$Board" "secondPower" "I"]
def wsX3_turnCount_r4 : List Cond := [Cond.methodLink RX0 98 yX0_listBuildings, Cond.instanceMethod yX0_listBuildings, Cond.selects RX0 yX0_listBuildings yX0_listBuildings, Cond.code yX0_listBuildings cX0_listBuildings 9 none, Cond.methodLink RX0 109 yX0_asideOf, Cond.instanceMethod yX0_asideOf, Cond.selects RX0 yX0_asideOf yX0_asideOf, Cond.code yX0_asideOf cX0_asideOf 4 (some .int), Cond.methodLink RX0 154 yX0_isOpenBehind, Cond.instanceMethod yX0_isOpenBehind, Cond.selects RX0 yX0_isOpenBehind yX0_isOpenBehind, Cond.code yX0_isOpenBehind cX0_isOpenBehind 4 (some .boolean), Cond.methodLink RX0 102 yX2_add, Cond.instanceMethod yX2_add, Cond.selects RX2 yX2_add yX2_add, Cond.code yX2_add cX2_add 2 none, Cond.fieldLink RX2 11 "Stormroof$TurnList" "numbers" "[I"]
def wsX3_turnCount : List Cond := .code yX3_turnCount cX3_turnCount 1 (some .int) :: ((wsX3_turnCount_r1 ++ (wsX3_turnCount_r2 ++ (wsX3_turnCount_r3 ++ wsX3_turnCount_r4))) ++ wsX30 ++ wsX20 ++ wsX00 ++ (vx_atS RX3 69 "java/lang/IllegalStateException" ["java/lang/RuntimeException", "java/lang/Exception"]).filter goodWord)
def wsX3_turnAt_r1 : List Cond := [Cond.classLink RX3 108 "java/lang/IndexOutOfBoundsException", Cond.initialized "java/lang/IndexOutOfBoundsException", Cond.fieldLink RX3 12 "Stormroof" "board" "LStormroof$Board;", Cond.fieldLink RX3 19 "Stormroof" "listed" "LStormroof$TurnList;", Cond.methodLink RX3 98 yX3_requireAllPlaced, Cond.instanceMethod yX3_requireAllPlaced, Cond.selects RX3 yX3_requireAllPlaced yX3_requireAllPlaced, Cond.initialized RX3, Cond.code yX3_requireAllPlaced cX3_requireAllPlaced 1 none, Cond.classLink RX3 65 "java/lang/IllegalStateException", Cond.initialized "java/lang/IllegalStateException", Cond.methodLink RX3 57 yX0_isSet, Cond.instanceMethod yX0_isSet, Cond.selects RX0 yX0_isSet yX0_isSet, Cond.initialized RX0, Cond.code yX0_isSet cX0_isSet 1 (some .boolean), Cond.fieldLink RX0 40 "Stormroof$Board" "placed" "I", Cond.fieldLink RX0 31 "Stormroof$Board" "builders" "I", Cond.methodLink RX3 101 yX0_listTurns, Cond.instanceMethod yX0_listTurns, Cond.selects RX0 yX0_listTurns yX0_listTurns, Cond.code yX0_listTurns cX0_listTurns 9 none, Cond.fieldLink RX0 46 "Stormroof$Board" "victor" "I", Cond.fieldLink RX0 43 "Stormroof$Board" "turnsPlayed" "I"]
def wsX3_turnAt_r2 : List Cond := [Cond.fieldLink RX0 27 "Stormroof$Board" "cells" "I", Cond.methodLink RX0 89 yX2_clear, Cond.instanceMethod yX2_clear, Cond.selects RX2 yX2_clear yX2_clear, Cond.initialized RX2, Cond.code yX2_clear cX2_clear 1 none, Cond.fieldLink RX2 15 "Stormroof$TurnList" "size" "I", Cond.methodLink RX0 73 yX0_spotOf, Cond.instanceMethod yX0_spotOf, Cond.selects RX0 yX0_spotOf yX0_spotOf, Cond.code yX0_spotOf cX0_spotOf 4 (some .int), Cond.fieldLink RX0 21 "Stormroof$Board" "spots" "[I", Cond.methodLink RX0 94 yX0_reachOf, Cond.instanceMethod yX0_reachOf, Cond.selects RX0 yX0_reachOf yX0_reachOf, Cond.code yX0_reachOf cX0_reachOf 9 (some .long), Cond.methodLink RX0 137 yX0_stepOf, Cond.instanceMethod yX0_stepOf, Cond.selects RX0 yX0_stepOf yX0_stepOf, Cond.code yX0_stepOf cX0_stepOf 8 (some .long), Cond.fieldLink RX0 49 "Stormroof$Board" "climbingBarred" "Z", Cond.methodLink RX0 141 yX0_neighbourOf, Cond.instanceMethod yX0_neighbourOf, Cond.selects RX0 yX0_neighbourOf yX0_neighbourOf]
def wsX3_turnAt_r3 : List Cond := [Cond.code yX0_neighbourOf cX0_neighbourOf 4 (some .int), Cond.fieldLink RX0 11 "Stormroof$Board" "neighbours" "[I", Cond.methodLink RX0 77 yX0_storeysOf, Cond.instanceMethod yX0_storeysOf, Cond.selects RX0 yX0_storeysOf yX0_storeysOf, Cond.code yX0_storeysOf cX0_storeysOf 2 (some .int), Cond.fieldLink RX0 15 "Stormroof$Board" "storeys" "[I", Cond.methodLink RX0 148 yX0_canEnter, Cond.instanceMethod yX0_canEnter, Cond.selects RX0 yX0_canEnter yX0_canEnter, Cond.code yX0_canEnter cX0_canEnter 5 (some .boolean), Cond.methodLink RX0 132 yX0_holderOf, Cond.instanceMethod yX0_holderOf, Cond.selects RX0 yX0_holderOf yX0_holderOf, Cond.code yX0_holderOf cX0_holderOf 2 (some .int), Cond.fieldLink RX0 18 "Stormroof$Board" "holders" "[I", Cond.methodLink RX0 151 yX0_isOpen, Cond.instanceMethod yX0_isOpen, Cond.selects RX0 yX0_isOpen yX0_isOpen, Cond.code yX0_isOpen cX0_isOpen 2 (some .boolean), Cond.methodLink RX0 117 yX0_powerOf, Cond.instanceMethod yX0_powerOf, Cond.selects RX0 yX0_powerOf yX0_powerOf, Cond.code yX0_powerOf cX0_powerOf 2 (some .int)]
def wsX3_turnAt_r4 : List Cond := [Cond.fieldLink RX0 34 "Stormroof$Board" "firstPower" "I", Cond.fieldLink RX0 37 "Stormroof$Board" "secondPower" "I", Cond.methodLink RX0 98 yX0_listBuildings, Cond.instanceMethod yX0_listBuildings, Cond.selects RX0 yX0_listBuildings yX0_listBuildings, Cond.code yX0_listBuildings cX0_listBuildings 9 none, Cond.methodLink RX0 109 yX0_asideOf, Cond.instanceMethod yX0_asideOf, Cond.selects RX0 yX0_asideOf yX0_asideOf, Cond.code yX0_asideOf cX0_asideOf 4 (some .int), Cond.methodLink RX0 154 yX0_isOpenBehind, Cond.instanceMethod yX0_isOpenBehind, Cond.selects RX0 yX0_isOpenBehind yX0_isOpenBehind, Cond.code yX0_isOpenBehind cX0_isOpenBehind 4 (some .boolean), Cond.methodLink RX0 102 yX2_add, Cond.instanceMethod yX2_add, Cond.selects RX2 yX2_add yX2_add, Cond.code yX2_add cX2_add 2 none, Cond.fieldLink RX2 11 "Stormroof$TurnList" "numbers" "[I", Cond.methodLink RX3 34 yX3_isOutside, Cond.static yX3_isOutside, Cond.code yX3_isOutside cX3_isOutside 3 (some .boolean), Cond.methodLink RX3 113 yX2_at, Cond.instanceMethod yX2_at]
def wsX3_turnAt_r5 : List Cond := [Cond.selects RX2 yX2_at yX2_at, Cond.code yX2_at cX2_at 2 (some .int)]
def wsX3_turnAt : List Cond := .code yX3_turnAt cX3_turnAt 2 (some .int) :: ((wsX3_turnAt_r1 ++ (wsX3_turnAt_r2 ++ (wsX3_turnAt_r3 ++ (wsX3_turnAt_r4 ++ wsX3_turnAt_r5)))) ++ wsX30 ++ wsX20 ++ wsX00 ++ (vx_atS RX3 112 "java/lang/IndexOutOfBoundsException" ["java/lang/RuntimeException", "java/lang/Exception"]).filter goodWord ++ (vx_atS RX3 69 "java/lang/IllegalStateException" ["java/lang/RuntimeException", "java/lang/Exception"]).filter goodWord)
def wsX3_play_r1 : List Cond := [Cond.classLink RX3 65 "java/lang/IllegalStateException", Cond.initialized "java/lang/IllegalStateException", Cond.fieldLink RX3 12 "Stormroof" "board" "LStormroof$Board;", Cond.fieldLink RX3 19 "Stormroof" "listed" "LStormroof$TurnList;", Cond.methodLink RX3 98 yX3_requireAllPlaced, Cond.instanceMethod yX3_requireAllPlaced, Cond.selects RX3 yX3_requireAllPlaced yX3_requireAllPlaced, Cond.initialized RX3, Cond.code yX3_requireAllPlaced cX3_requireAllPlaced 1 none, Cond.methodLink RX3 57 yX0_isSet, Cond.instanceMethod yX0_isSet, Cond.selects RX0 yX0_isSet yX0_isSet, Cond.initialized RX0, Cond.code yX0_isSet cX0_isSet 1 (some .boolean), Cond.fieldLink RX0 40 "Stormroof$Board" "placed" "I", Cond.fieldLink RX0 31 "Stormroof$Board" "builders" "I", Cond.methodLink RX3 101 yX0_listTurns, Cond.instanceMethod yX0_listTurns, Cond.selects RX0 yX0_listTurns yX0_listTurns, Cond.code yX0_listTurns cX0_listTurns 9 none, Cond.fieldLink RX0 46 "Stormroof$Board" "victor" "I", Cond.fieldLink RX0 43 "Stormroof$Board" "turnsPlayed" "I", Cond.fieldLink RX0 27 "Stormroof$Board" "cells" "I", Cond.methodLink RX0 89 yX2_clear]
def wsX3_play_r2 : List Cond := [Cond.instanceMethod yX2_clear, Cond.selects RX2 yX2_clear yX2_clear, Cond.initialized RX2, Cond.code yX2_clear cX2_clear 1 none, Cond.fieldLink RX2 15 "Stormroof$TurnList" "size" "I", Cond.methodLink RX0 73 yX0_spotOf, Cond.instanceMethod yX0_spotOf, Cond.selects RX0 yX0_spotOf yX0_spotOf, Cond.code yX0_spotOf cX0_spotOf 4 (some .int), Cond.fieldLink RX0 21 "Stormroof$Board" "spots" "[I", Cond.methodLink RX0 94 yX0_reachOf, Cond.instanceMethod yX0_reachOf, Cond.selects RX0 yX0_reachOf yX0_reachOf, Cond.code yX0_reachOf cX0_reachOf 9 (some .long), Cond.methodLink RX0 137 yX0_stepOf, Cond.instanceMethod yX0_stepOf, Cond.selects RX0 yX0_stepOf yX0_stepOf, Cond.code yX0_stepOf cX0_stepOf 8 (some .long), Cond.fieldLink RX0 49 "Stormroof$Board" "climbingBarred" "Z", Cond.methodLink RX0 141 yX0_neighbourOf, Cond.instanceMethod yX0_neighbourOf, Cond.selects RX0 yX0_neighbourOf yX0_neighbourOf, Cond.code yX0_neighbourOf cX0_neighbourOf 4 (some .int), Cond.fieldLink RX0 11 "Stormroof$Board" "neighbours" "[I"]
def wsX3_play_r3 : List Cond := [Cond.methodLink RX0 77 yX0_storeysOf, Cond.instanceMethod yX0_storeysOf, Cond.selects RX0 yX0_storeysOf yX0_storeysOf, Cond.code yX0_storeysOf cX0_storeysOf 2 (some .int), Cond.fieldLink RX0 15 "Stormroof$Board" "storeys" "[I", Cond.methodLink RX0 148 yX0_canEnter, Cond.instanceMethod yX0_canEnter, Cond.selects RX0 yX0_canEnter yX0_canEnter, Cond.code yX0_canEnter cX0_canEnter 5 (some .boolean), Cond.methodLink RX0 132 yX0_holderOf, Cond.instanceMethod yX0_holderOf, Cond.selects RX0 yX0_holderOf yX0_holderOf, Cond.code yX0_holderOf cX0_holderOf 2 (some .int), Cond.fieldLink RX0 18 "Stormroof$Board" "holders" "[I", Cond.methodLink RX0 151 yX0_isOpen, Cond.instanceMethod yX0_isOpen, Cond.selects RX0 yX0_isOpen yX0_isOpen, Cond.code yX0_isOpen cX0_isOpen 2 (some .boolean), Cond.methodLink RX0 117 yX0_powerOf, Cond.instanceMethod yX0_powerOf, Cond.selects RX0 yX0_powerOf yX0_powerOf, Cond.code yX0_powerOf cX0_powerOf 2 (some .int), Cond.fieldLink RX0 34 "Stormroof$Board" "firstPower" "I", Cond.fieldLink RX0 37 "Stormroof$Board" "secondPower" "I"]
def wsX3_play_r4 : List Cond := [Cond.methodLink RX0 98 yX0_listBuildings, Cond.instanceMethod yX0_listBuildings, Cond.selects RX0 yX0_listBuildings yX0_listBuildings, Cond.code yX0_listBuildings cX0_listBuildings 9 none, Cond.methodLink RX0 109 yX0_asideOf, Cond.instanceMethod yX0_asideOf, Cond.selects RX0 yX0_asideOf yX0_asideOf, Cond.code yX0_asideOf cX0_asideOf 4 (some .int), Cond.methodLink RX0 154 yX0_isOpenBehind, Cond.instanceMethod yX0_isOpenBehind, Cond.selects RX0 yX0_isOpenBehind yX0_isOpenBehind, Cond.code yX0_isOpenBehind cX0_isOpenBehind 4 (some .boolean), Cond.methodLink RX0 102 yX2_add, Cond.instanceMethod yX2_add, Cond.selects RX2 yX2_add yX2_add, Cond.code yX2_add cX2_add 2 none, Cond.fieldLink RX2 11 "Stormroof$TurnList" "numbers" "[I", Cond.methodLink RX3 116 yX2_holds, Cond.instanceMethod yX2_holds, Cond.selects RX2 yX2_holds yX2_holds, Cond.code yX2_holds cX2_holds 3 (some .boolean), Cond.methodLink RX2 19 yX2_at, Cond.instanceMethod yX2_at, Cond.selects RX2 yX2_at yX2_at]
def wsX3_play_r5 : List Cond := [Cond.code yX2_at cX2_at 2 (some .int), Cond.methodLink RX3 121 yX0_perform, Cond.instanceMethod yX0_perform, Cond.selects RX0 yX0_perform yX0_perform, Cond.code yX0_perform cX0_perform 7 none, Cond.methodLink RX0 106 yX0_destinationOf, Cond.static yX0_destinationOf, Cond.code yX0_destinationOf cX0_destinationOf 1 (some .int), Cond.methodLink RX0 113 yX0_remember, Cond.instanceMethod yX0_remember, Cond.selects RX0 yX0_remember yX0_remember, Cond.code yX0_remember cX0_remember 5 none, Cond.fieldLink RX0 24 "Stormroof$Board" "past" "[I", Cond.methodLink RX0 126 yX0_builtCellOf, Cond.static yX0_builtCellOf, Cond.code yX0_builtCellOf cX0_builtCellOf 2 (some .int), Cond.methodLink RX0 120 yX0_carry, Cond.instanceMethod yX0_carry, Cond.selects RX0 yX0_carry yX0_carry, Cond.code yX0_carry cX0_carry 6 none, Cond.methodLink RX0 135 yX0_clear, Cond.instanceMethod yX0_clear, Cond.selects RX0 yX0_clear yX0_clear, Cond.code yX0_clear cX0_clear 2 none]
def wsX3_play_r6 : List Cond := [Cond.methodLink RX0 81 yX0_put, Cond.instanceMethod yX0_put, Cond.selects RX0 yX0_put yX0_put, Cond.code yX0_put cX0_put 4 none, Cond.methodLink RX0 123 yX0_setStoreys, Cond.instanceMethod yX0_setStoreys, Cond.selects RX0 yX0_setStoreys yX0_setStoreys, Cond.code yX0_setStoreys cX0_setStoreys 3 none, Cond.methodLink RX0 85 yX0_hasTurn, Cond.instanceMethod yX0_hasTurn, Cond.selects RX0 yX0_hasTurn yX0_hasTurn, Cond.code yX0_hasTurn cX0_hasTurn 7 (some .boolean), Cond.methodLink RX0 144 yX0_canBuild, Cond.instanceMethod yX0_canBuild, Cond.selects RX0 yX0_canBuild yX0_canBuild, Cond.code yX0_canBuild cX0_canBuild 6 (some .boolean)]
def wsX3_play : List Cond := .code yX3_play cX3_play 2 (some .int) :: ((wsX3_play_r1 ++ (wsX3_play_r2 ++ (wsX3_play_r3 ++ (wsX3_play_r4 ++ (wsX3_play_r5 ++ wsX3_play_r6))))) ++ wsX30 ++ wsX00 ++ wsX20 ++ (vx_atS RX3 69 "java/lang/IllegalStateException" ["java/lang/RuntimeException", "java/lang/Exception"]).filter goodWord)
def wsX3_takeBack_r1 : List Cond := [Cond.classLink RX3 65 "java/lang/IllegalStateException", Cond.initialized "java/lang/IllegalStateException", Cond.fieldLink RX3 12 "Stormroof" "board" "LStormroof$Board;", Cond.methodLink RX3 126 yX0_undo, Cond.instanceMethod yX0_undo, Cond.selects RX0 yX0_undo yX0_undo, Cond.initialized RX0, Cond.code yX0_undo cX0_undo 3 none, Cond.fieldLink RX0 43 "Stormroof$Board" "turnsPlayed" "I", Cond.fieldLink RX0 24 "Stormroof$Board" "past" "[I", Cond.fieldLink RX0 46 "Stormroof$Board" "victor" "I", Cond.fieldLink RX0 49 "Stormroof$Board" "climbingBarred" "Z", Cond.methodLink RX0 126 yX0_builtCellOf, Cond.static yX0_builtCellOf, Cond.code yX0_builtCellOf cX0_builtCellOf 2 (some .int), Cond.methodLink RX0 123 yX0_setStoreys, Cond.instanceMethod yX0_setStoreys, Cond.selects RX0 yX0_setStoreys yX0_setStoreys, Cond.code yX0_setStoreys cX0_setStoreys 3 none, Cond.fieldLink RX0 15 "Stormroof$Board" "storeys" "[I", Cond.methodLink RX0 106 yX0_destinationOf, Cond.static yX0_destinationOf, Cond.code yX0_destinationOf cX0_destinationOf 1 (some .int), Cond.methodLink RX0 129 yX0_carryBack]
def wsX3_takeBack_r2 : List Cond := [Cond.instanceMethod yX0_carryBack, Cond.selects RX0 yX0_carryBack yX0_carryBack, Cond.code yX0_carryBack cX0_carryBack 6 none, Cond.methodLink RX0 132 yX0_holderOf, Cond.instanceMethod yX0_holderOf, Cond.selects RX0 yX0_holderOf yX0_holderOf, Cond.code yX0_holderOf cX0_holderOf 2 (some .int), Cond.fieldLink RX0 18 "Stormroof$Board" "holders" "[I", Cond.methodLink RX0 135 yX0_clear, Cond.instanceMethod yX0_clear, Cond.selects RX0 yX0_clear yX0_clear, Cond.code yX0_clear cX0_clear 2 none, Cond.methodLink RX0 81 yX0_put, Cond.instanceMethod yX0_put, Cond.selects RX0 yX0_put yX0_put, Cond.code yX0_put cX0_put 4 none, Cond.fieldLink RX0 21 "Stormroof$Board" "spots" "[I"]
def wsX3_takeBack : List Cond := .code yX3_takeBack cX3_takeBack 1 (some .int) :: ((wsX3_takeBack_r1 ++ wsX3_takeBack_r2) ++ wsX30 ++ wsX00 ++ (vx_atS RX3 69 "java/lang/IllegalStateException" ["java/lang/RuntimeException", "java/lang/Exception"]).filter goodWord)
def wsX3_requireAhead : List Cond := .code yX3_requireAhead cX3_requireAhead 3 none :: ([.classLink RX3 38 "java/lang/IllegalArgumentException", .initialized "java/lang/IllegalArgumentException", .classLink RX3 65 "java/lang/IllegalStateException", .initialized "java/lang/IllegalStateException", .fieldLink RX3 12 "Stormroof" "board" "LStormroof$Board;", .methodLink RX3 34 yX3_isOutside, .static yX3_isOutside, .initialized RX3, .code yX3_isOutside cX3_isOutside 3 (some .boolean), .methodLink RX3 98 yX3_requireAllPlaced, .instanceMethod yX3_requireAllPlaced, .selects RX3 yX3_requireAllPlaced yX3_requireAllPlaced, .code yX3_requireAllPlaced cX3_requireAllPlaced 1 none, .methodLink RX3 57 yX0_isSet, .instanceMethod yX0_isSet, .selects RX0 yX0_isSet yX0_isSet, .initialized RX0, .code yX0_isSet cX0_isSet 1 (some .boolean), .fieldLink RX0 40 "Stormroof$Board" "placed" "I", .fieldLink RX0 31 "Stormroof$Board" "builders" "I"] ++ wsX30 ++ wsX00 ++ (vx_atS RX3 42 "java/lang/IllegalArgumentException" ["java/lang/RuntimeException", "java/lang/Exception"]).filter goodWord ++ (vx_atS RX3 69 "java/lang/IllegalStateException" ["java/lang/RuntimeException", "java/lang/Exception"]).filter goodWord)
def wsX3_worth_r1 : List Cond := [Cond.fieldLink RX3 26 "Stormroof" "outlook" "LStormroof$Outlook;", Cond.fieldLink RX3 12 "Stormroof" "board" "LStormroof$Board;", Cond.methodLink RX3 129 yX3_requireAhead, Cond.instanceMethod yX3_requireAhead, Cond.selects RX3 yX3_requireAhead yX3_requireAhead, Cond.initialized RX3, Cond.code yX3_requireAhead cX3_requireAhead 3 none, Cond.classLink RX3 38 "java/lang/IllegalArgumentException", Cond.initialized "java/lang/IllegalArgumentException", Cond.classLink RX3 65 "java/lang/IllegalStateException", Cond.initialized "java/lang/IllegalStateException", Cond.methodLink RX3 34 yX3_isOutside, Cond.static yX3_isOutside, Cond.code yX3_isOutside cX3_isOutside 3 (some .boolean), Cond.methodLink RX3 98 yX3_requireAllPlaced, Cond.instanceMethod yX3_requireAllPlaced, Cond.selects RX3 yX3_requireAllPlaced yX3_requireAllPlaced, Cond.code yX3_requireAllPlaced cX3_requireAllPlaced 1 none, Cond.methodLink RX3 57 yX0_isSet, Cond.instanceMethod yX0_isSet, Cond.selects RX0 yX0_isSet yX0_isSet, Cond.initialized RX0, Cond.code yX0_isSet cX0_isSet 1 (some .boolean), Cond.fieldLink RX0 40 "Stormroof$Board" "placed" "I"]
def wsX3_worth_r2 : List Cond := [Cond.fieldLink RX0 31 "Stormroof$Board" "builders" "I", Cond.instanceMethod yX1_look, Cond.initialized RX1, Cond.selects RX1 yX1_look yX1_look, Cond.code yX1_look cX1_look 7 (some .int), Cond.methodLink RX1 46 Lib.Math.max.name, Cond.static Lib.Math.max.name, Cond.initialized "java/lang/Math", Cond.code Lib.Math.max.name Lib.Math.max.code 2 (some .int), Cond.methodLink RX1 24 yX1_listFor, Cond.instanceMethod yX1_listFor, Cond.selects RX1 yX1_listFor yX1_listFor, Cond.code yX1_listFor cX1_listFor 2 (some (.object "Stormroof$TurnList")), Cond.fieldLink RX1 12 "Stormroof$Outlook" "lastTurns" "LStormroof$TurnList;", Cond.fieldLink RX1 18 "Stormroof$Outlook" "nextTurns" "LStormroof$TurnList;", Cond.fieldLink RX1 21 "Stormroof$Outlook" "firstTurns" "LStormroof$TurnList;", Cond.methodLink RX1 28 yX0_listTurns, Cond.instanceMethod yX0_listTurns, Cond.selects RX0 yX0_listTurns yX0_listTurns, Cond.code yX0_listTurns cX0_listTurns 9 none, Cond.fieldLink RX0 46 "Stormroof$Board" "victor" "I", Cond.fieldLink RX0 43 "Stormroof$Board" "turnsPlayed" "I", Cond.fieldLink RX0 27 "Stormroof$Board" "cells" "I", Cond.methodLink RX0 89 yX2_clear]
def wsX3_worth_r3 : List Cond := [Cond.instanceMethod yX2_clear, Cond.selects RX2 yX2_clear yX2_clear, Cond.initialized RX2, Cond.code yX2_clear cX2_clear 1 none, Cond.fieldLink RX2 15 "Stormroof$TurnList" "size" "I", Cond.methodLink RX0 73 yX0_spotOf, Cond.instanceMethod yX0_spotOf, Cond.selects RX0 yX0_spotOf yX0_spotOf, Cond.code yX0_spotOf cX0_spotOf 4 (some .int), Cond.fieldLink RX0 21 "Stormroof$Board" "spots" "[I", Cond.methodLink RX0 94 yX0_reachOf, Cond.instanceMethod yX0_reachOf, Cond.selects RX0 yX0_reachOf yX0_reachOf, Cond.code yX0_reachOf cX0_reachOf 9 (some .long), Cond.methodLink RX0 137 yX0_stepOf, Cond.instanceMethod yX0_stepOf, Cond.selects RX0 yX0_stepOf yX0_stepOf, Cond.code yX0_stepOf cX0_stepOf 8 (some .long), Cond.fieldLink RX0 49 "Stormroof$Board" "climbingBarred" "Z", Cond.methodLink RX0 141 yX0_neighbourOf, Cond.instanceMethod yX0_neighbourOf, Cond.selects RX0 yX0_neighbourOf yX0_neighbourOf, Cond.code yX0_neighbourOf cX0_neighbourOf 4 (some .int), Cond.fieldLink RX0 11 "Stormroof$Board" "neighbours" "[I"]
def wsX3_worth_r4 : List Cond := [Cond.methodLink RX0 77 yX0_storeysOf, Cond.instanceMethod yX0_storeysOf, Cond.selects RX0 yX0_storeysOf yX0_storeysOf, Cond.code yX0_storeysOf cX0_storeysOf 2 (some .int), Cond.fieldLink RX0 15 "Stormroof$Board" "storeys" "[I", Cond.methodLink RX0 148 yX0_canEnter, Cond.instanceMethod yX0_canEnter, Cond.selects RX0 yX0_canEnter yX0_canEnter, Cond.code yX0_canEnter cX0_canEnter 5 (some .boolean), Cond.methodLink RX0 132 yX0_holderOf, Cond.instanceMethod yX0_holderOf, Cond.selects RX0 yX0_holderOf yX0_holderOf, Cond.code yX0_holderOf cX0_holderOf 2 (some .int), Cond.fieldLink RX0 18 "Stormroof$Board" "holders" "[I", Cond.methodLink RX0 151 yX0_isOpen, Cond.instanceMethod yX0_isOpen, Cond.selects RX0 yX0_isOpen yX0_isOpen, Cond.code yX0_isOpen cX0_isOpen 2 (some .boolean), Cond.methodLink RX0 117 yX0_powerOf, Cond.instanceMethod yX0_powerOf, Cond.selects RX0 yX0_powerOf yX0_powerOf, Cond.code yX0_powerOf cX0_powerOf 2 (some .int), Cond.fieldLink RX0 34 "Stormroof$Board" "firstPower" "I", Cond.fieldLink RX0 37 "Stormroof$Board" "secondPower" "I"]
def wsX3_worth_r5 : List Cond := [Cond.methodLink RX0 98 yX0_listBuildings, Cond.instanceMethod yX0_listBuildings, Cond.selects RX0 yX0_listBuildings yX0_listBuildings, Cond.code yX0_listBuildings cX0_listBuildings 9 none, Cond.methodLink RX0 109 yX0_asideOf, Cond.instanceMethod yX0_asideOf, Cond.selects RX0 yX0_asideOf yX0_asideOf, Cond.code yX0_asideOf cX0_asideOf 4 (some .int), Cond.methodLink RX0 154 yX0_isOpenBehind, Cond.instanceMethod yX0_isOpenBehind, Cond.selects RX0 yX0_isOpenBehind yX0_isOpenBehind, Cond.code yX0_isOpenBehind cX0_isOpenBehind 4 (some .boolean), Cond.methodLink RX0 102 yX2_add, Cond.instanceMethod yX2_add, Cond.selects RX2 yX2_add yX2_add, Cond.code yX2_add cX2_add 2 none, Cond.fieldLink RX2 11 "Stormroof$TurnList" "numbers" "[I", Cond.methodLink RX1 38 yX2_at, Cond.instanceMethod yX2_at, Cond.selects RX2 yX2_at yX2_at, Cond.code yX2_at cX2_at 2 (some .int), Cond.methodLink RX1 42 yX1_worthOf, Cond.instanceMethod yX1_worthOf, Cond.selects RX1 yX1_worthOf yX1_worthOf]
def wsX3_worth_r6 : List Cond := [Cond.code yX1_worthOf cX1_worthOf 5 (some .int), Cond.methodLink RX1 52 yX0_perform, Cond.instanceMethod yX0_perform, Cond.selects RX0 yX0_perform yX0_perform, Cond.code yX0_perform cX0_perform 7 none, Cond.methodLink RX0 106 yX0_destinationOf, Cond.static yX0_destinationOf, Cond.code yX0_destinationOf cX0_destinationOf 1 (some .int), Cond.methodLink RX0 113 yX0_remember, Cond.instanceMethod yX0_remember, Cond.selects RX0 yX0_remember yX0_remember, Cond.code yX0_remember cX0_remember 5 none, Cond.fieldLink RX0 24 "Stormroof$Board" "past" "[I", Cond.methodLink RX0 126 yX0_builtCellOf, Cond.static yX0_builtCellOf, Cond.code yX0_builtCellOf cX0_builtCellOf 2 (some .int), Cond.methodLink RX0 120 yX0_carry, Cond.instanceMethod yX0_carry, Cond.selects RX0 yX0_carry yX0_carry, Cond.code yX0_carry cX0_carry 6 none, Cond.methodLink RX0 135 yX0_clear, Cond.instanceMethod yX0_clear, Cond.selects RX0 yX0_clear yX0_clear, Cond.code yX0_clear cX0_clear 2 none]
def wsX3_worth_r7 : List Cond := [Cond.methodLink RX0 81 yX0_put, Cond.instanceMethod yX0_put, Cond.selects RX0 yX0_put yX0_put, Cond.code yX0_put cX0_put 4 none, Cond.methodLink RX0 123 yX0_setStoreys, Cond.instanceMethod yX0_setStoreys, Cond.selects RX0 yX0_setStoreys yX0_setStoreys, Cond.code yX0_setStoreys cX0_setStoreys 3 none, Cond.methodLink RX0 85 yX0_hasTurn, Cond.instanceMethod yX0_hasTurn, Cond.selects RX0 yX0_hasTurn yX0_hasTurn, Cond.code yX0_hasTurn cX0_hasTurn 7 (some .boolean), Cond.methodLink RX0 144 yX0_canBuild, Cond.instanceMethod yX0_canBuild, Cond.selects RX0 yX0_canBuild yX0_canBuild, Cond.code yX0_canBuild cX0_canBuild 6 (some .boolean), Cond.methodLink RX1 59 yX1_look, Cond.methodLink RX1 63 yX0_undo, Cond.instanceMethod yX0_undo, Cond.selects RX0 yX0_undo yX0_undo, Cond.code yX0_undo cX0_undo 3 none, Cond.methodLink RX0 129 yX0_carryBack, Cond.instanceMethod yX0_carryBack, Cond.selects RX0 yX0_carryBack yX0_carryBack]
def wsX3_worth_r8 : List Cond := [Cond.code yX0_carryBack cX0_carryBack 6 none]
def wsX3_worth : List Cond := .code yX3_worth cX3_worth 2 (some .int) :: ((wsX3_worth_r1 ++ (wsX3_worth_r2 ++ (wsX3_worth_r3 ++ (wsX3_worth_r4 ++ (wsX3_worth_r5 ++ (wsX3_worth_r6 ++ (wsX3_worth_r7 ++ wsX3_worth_r8))))))) ++ wsX30 ++ wsX00 ++ wsX20 ++ wsX10 ++ (vx_atS RX3 42 "java/lang/IllegalArgumentException" ["java/lang/RuntimeException", "java/lang/Exception"]).filter goodWord ++ (vx_atS RX3 69 "java/lang/IllegalStateException" ["java/lang/RuntimeException", "java/lang/Exception"]).filter goodWord)
def wsX3_best_r1 : List Cond := [Cond.fieldLink RX3 26 "Stormroof" "outlook" "LStormroof$Outlook;", Cond.fieldLink RX3 12 "Stormroof" "board" "LStormroof$Board;", Cond.fieldLink RX3 19 "Stormroof" "listed" "LStormroof$TurnList;", Cond.methodLink RX3 129 yX3_requireAhead, Cond.instanceMethod yX3_requireAhead, Cond.selects RX3 yX3_requireAhead yX3_requireAhead, Cond.initialized RX3, Cond.code yX3_requireAhead cX3_requireAhead 3 none, Cond.classLink RX3 38 "java/lang/IllegalArgumentException", Cond.initialized "java/lang/IllegalArgumentException", Cond.classLink RX3 65 "java/lang/IllegalStateException", Cond.initialized "java/lang/IllegalStateException", Cond.methodLink RX3 34 yX3_isOutside, Cond.static yX3_isOutside, Cond.code yX3_isOutside cX3_isOutside 3 (some .boolean), Cond.methodLink RX3 98 yX3_requireAllPlaced, Cond.instanceMethod yX3_requireAllPlaced, Cond.selects RX3 yX3_requireAllPlaced yX3_requireAllPlaced, Cond.code yX3_requireAllPlaced cX3_requireAllPlaced 1 none, Cond.methodLink RX3 57 yX0_isSet, Cond.instanceMethod yX0_isSet, Cond.selects RX0 yX0_isSet yX0_isSet, Cond.initialized RX0, Cond.code yX0_isSet cX0_isSet 1 (some .boolean)]
def wsX3_best_r2 : List Cond := [Cond.fieldLink RX0 40 "Stormroof$Board" "placed" "I", Cond.fieldLink RX0 31 "Stormroof$Board" "builders" "I", Cond.instanceMethod yX1_look, Cond.initialized RX1, Cond.selects RX1 yX1_look yX1_look, Cond.code yX1_look cX1_look 7 (some .int), Cond.methodLink RX1 46 Lib.Math.max.name, Cond.static Lib.Math.max.name, Cond.initialized "java/lang/Math", Cond.code Lib.Math.max.name Lib.Math.max.code 2 (some .int), Cond.methodLink RX1 24 yX1_listFor, Cond.instanceMethod yX1_listFor, Cond.selects RX1 yX1_listFor yX1_listFor, Cond.code yX1_listFor cX1_listFor 2 (some (.object "Stormroof$TurnList")), Cond.fieldLink RX1 12 "Stormroof$Outlook" "lastTurns" "LStormroof$TurnList;", Cond.fieldLink RX1 18 "Stormroof$Outlook" "nextTurns" "LStormroof$TurnList;", Cond.fieldLink RX1 21 "Stormroof$Outlook" "firstTurns" "LStormroof$TurnList;", Cond.methodLink RX1 28 yX0_listTurns, Cond.instanceMethod yX0_listTurns, Cond.selects RX0 yX0_listTurns yX0_listTurns, Cond.code yX0_listTurns cX0_listTurns 9 none, Cond.fieldLink RX0 46 "Stormroof$Board" "victor" "I", Cond.fieldLink RX0 43 "Stormroof$Board" "turnsPlayed" "I", Cond.fieldLink RX0 27 "Stormroof$Board" "cells" "I"]
def wsX3_best_r3 : List Cond := [Cond.methodLink RX0 89 yX2_clear, Cond.instanceMethod yX2_clear, Cond.selects RX2 yX2_clear yX2_clear, Cond.initialized RX2, Cond.code yX2_clear cX2_clear 1 none, Cond.fieldLink RX2 15 "Stormroof$TurnList" "size" "I", Cond.methodLink RX0 73 yX0_spotOf, Cond.instanceMethod yX0_spotOf, Cond.selects RX0 yX0_spotOf yX0_spotOf, Cond.code yX0_spotOf cX0_spotOf 4 (some .int), Cond.fieldLink RX0 21 "Stormroof$Board" "spots" "[I", Cond.methodLink RX0 94 yX0_reachOf, Cond.instanceMethod yX0_reachOf, Cond.selects RX0 yX0_reachOf yX0_reachOf, Cond.code yX0_reachOf cX0_reachOf 9 (some .long), Cond.methodLink RX0 137 yX0_stepOf, Cond.instanceMethod yX0_stepOf, Cond.selects RX0 yX0_stepOf yX0_stepOf, Cond.code yX0_stepOf cX0_stepOf 8 (some .long), Cond.fieldLink RX0 49 "Stormroof$Board" "climbingBarred" "Z", Cond.methodLink RX0 141 yX0_neighbourOf, Cond.instanceMethod yX0_neighbourOf, Cond.selects RX0 yX0_neighbourOf yX0_neighbourOf, Cond.code yX0_neighbourOf cX0_neighbourOf 4 (some .int)]
def wsX3_best_r4 : List Cond := [Cond.fieldLink RX0 11 "Stormroof$Board" "neighbours" "[I", Cond.methodLink RX0 77 yX0_storeysOf, Cond.instanceMethod yX0_storeysOf, Cond.selects RX0 yX0_storeysOf yX0_storeysOf, Cond.code yX0_storeysOf cX0_storeysOf 2 (some .int), Cond.fieldLink RX0 15 "Stormroof$Board" "storeys" "[I", Cond.methodLink RX0 148 yX0_canEnter, Cond.instanceMethod yX0_canEnter, Cond.selects RX0 yX0_canEnter yX0_canEnter, Cond.code yX0_canEnter cX0_canEnter 5 (some .boolean), Cond.methodLink RX0 132 yX0_holderOf, Cond.instanceMethod yX0_holderOf, Cond.selects RX0 yX0_holderOf yX0_holderOf, Cond.code yX0_holderOf cX0_holderOf 2 (some .int), Cond.fieldLink RX0 18 "Stormroof$Board" "holders" "[I", Cond.methodLink RX0 151 yX0_isOpen, Cond.instanceMethod yX0_isOpen, Cond.selects RX0 yX0_isOpen yX0_isOpen, Cond.code yX0_isOpen cX0_isOpen 2 (some .boolean), Cond.methodLink RX0 117 yX0_powerOf, Cond.instanceMethod yX0_powerOf, Cond.selects RX0 yX0_powerOf yX0_powerOf, Cond.code yX0_powerOf cX0_powerOf 2 (some .int), Cond.fieldLink RX0 34 "Stormroof$Board" "firstPower" "I"]
def wsX3_best_r5 : List Cond := [Cond.fieldLink RX0 37 "Stormroof$Board" "secondPower" "I", Cond.methodLink RX0 98 yX0_listBuildings, Cond.instanceMethod yX0_listBuildings, Cond.selects RX0 yX0_listBuildings yX0_listBuildings, Cond.code yX0_listBuildings cX0_listBuildings 9 none, Cond.methodLink RX0 109 yX0_asideOf, Cond.instanceMethod yX0_asideOf, Cond.selects RX0 yX0_asideOf yX0_asideOf, Cond.code yX0_asideOf cX0_asideOf 4 (some .int), Cond.methodLink RX0 154 yX0_isOpenBehind, Cond.instanceMethod yX0_isOpenBehind, Cond.selects RX0 yX0_isOpenBehind yX0_isOpenBehind, Cond.code yX0_isOpenBehind cX0_isOpenBehind 4 (some .boolean), Cond.methodLink RX0 102 yX2_add, Cond.instanceMethod yX2_add, Cond.selects RX2 yX2_add yX2_add, Cond.code yX2_add cX2_add 2 none, Cond.fieldLink RX2 11 "Stormroof$TurnList" "numbers" "[I", Cond.methodLink RX1 38 yX2_at, Cond.instanceMethod yX2_at, Cond.selects RX2 yX2_at yX2_at, Cond.code yX2_at cX2_at 2 (some .int), Cond.methodLink RX1 42 yX1_worthOf, Cond.instanceMethod yX1_worthOf]
def wsX3_best_r6 : List Cond := [Cond.selects RX1 yX1_worthOf yX1_worthOf, Cond.code yX1_worthOf cX1_worthOf 5 (some .int), Cond.methodLink RX1 52 yX0_perform, Cond.instanceMethod yX0_perform, Cond.selects RX0 yX0_perform yX0_perform, Cond.code yX0_perform cX0_perform 7 none, Cond.methodLink RX0 106 yX0_destinationOf, Cond.static yX0_destinationOf, Cond.code yX0_destinationOf cX0_destinationOf 1 (some .int), Cond.methodLink RX0 113 yX0_remember, Cond.instanceMethod yX0_remember, Cond.selects RX0 yX0_remember yX0_remember, Cond.code yX0_remember cX0_remember 5 none, Cond.fieldLink RX0 24 "Stormroof$Board" "past" "[I", Cond.methodLink RX0 126 yX0_builtCellOf, Cond.static yX0_builtCellOf, Cond.code yX0_builtCellOf cX0_builtCellOf 2 (some .int), Cond.methodLink RX0 120 yX0_carry, Cond.instanceMethod yX0_carry, Cond.selects RX0 yX0_carry yX0_carry, Cond.code yX0_carry cX0_carry 6 none, Cond.methodLink RX0 135 yX0_clear, Cond.instanceMethod yX0_clear, Cond.selects RX0 yX0_clear yX0_clear]
def wsX3_best_r7 : List Cond := [Cond.code yX0_clear cX0_clear 2 none, Cond.methodLink RX0 81 yX0_put, Cond.instanceMethod yX0_put, Cond.selects RX0 yX0_put yX0_put, Cond.code yX0_put cX0_put 4 none, Cond.methodLink RX0 123 yX0_setStoreys, Cond.instanceMethod yX0_setStoreys, Cond.selects RX0 yX0_setStoreys yX0_setStoreys, Cond.code yX0_setStoreys cX0_setStoreys 3 none, Cond.methodLink RX0 85 yX0_hasTurn, Cond.instanceMethod yX0_hasTurn, Cond.selects RX0 yX0_hasTurn yX0_hasTurn, Cond.code yX0_hasTurn cX0_hasTurn 7 (some .boolean), Cond.methodLink RX0 144 yX0_canBuild, Cond.instanceMethod yX0_canBuild, Cond.selects RX0 yX0_canBuild yX0_canBuild, Cond.code yX0_canBuild cX0_canBuild 6 (some .boolean), Cond.methodLink RX1 59 yX1_look, Cond.methodLink RX1 63 yX0_undo, Cond.instanceMethod yX0_undo, Cond.selects RX0 yX0_undo yX0_undo, Cond.code yX0_undo cX0_undo 3 none, Cond.methodLink RX0 129 yX0_carryBack, Cond.instanceMethod yX0_carryBack]
def wsX3_best_r8 : List Cond := [Cond.selects RX0 yX0_carryBack yX0_carryBack, Cond.code yX0_carryBack cX0_carryBack 6 none, Cond.methodLink RX3 101 yX0_listTurns, Cond.methodLink RX3 113 yX2_at]
def wsX3_best : List Cond := .code yX3_best cX3_best 5 (some .int) :: ((wsX3_best_r1 ++ (wsX3_best_r2 ++ (wsX3_best_r3 ++ (wsX3_best_r4 ++ (wsX3_best_r5 ++ (wsX3_best_r6 ++ (wsX3_best_r7 ++ wsX3_best_r8))))))) ++ wsX30 ++ wsX20 ++ wsX00 ++ wsX10 ++ (vx_atS RX3 42 "java/lang/IllegalArgumentException" ["java/lang/RuntimeException", "java/lang/Exception"]).filter goodWord ++ (vx_atS RX3 69 "java/lang/IllegalStateException" ["java/lang/RuntimeException", "java/lang/Exception"]).filter goodWord)
def wsX3_reached : List Cond := .code yX3_reached cX3_reached 2 (some .int) :: ([.classLink RX3 108 "java/lang/IndexOutOfBoundsException", .initialized "java/lang/IndexOutOfBoundsException", .fieldLink RX3 12 "Stormroof" "board" "LStormroof$Board;", .methodLink RX3 34 yX3_isOutside, .static yX3_isOutside, .initialized RX3, .code yX3_isOutside cX3_isOutside 3 (some .boolean), .methodLink RX3 142 yX0_storeysUnder, .instanceMethod yX0_storeysUnder, .selects RX0 yX0_storeysUnder yX0_storeysUnder, .initialized RX0, .code yX0_storeysUnder cX0_storeysUnder 4 (some .int), .fieldLink RX0 31 "Stormroof$Board" "builders" "I", .methodLink RX0 73 yX0_spotOf, .instanceMethod yX0_spotOf, .selects RX0 yX0_spotOf yX0_spotOf, .code yX0_spotOf cX0_spotOf 4 (some .int), .fieldLink RX0 21 "Stormroof$Board" "spots" "[I", .methodLink RX0 77 yX0_storeysOf, .instanceMethod yX0_storeysOf, .selects RX0 yX0_storeysOf yX0_storeysOf, .code yX0_storeysOf cX0_storeysOf 2 (some .int), .fieldLink RX0 15 "Stormroof$Board" "storeys" "[I"] ++ wsX30 ++ wsX00 ++ (vx_atS RX3 112 "java/lang/IndexOutOfBoundsException" ["java/lang/RuntimeException", "java/lang/Exception"]).filter goodWord)
def wsX4_lay : List Cond := .code yX4_lay cX4_lay 2 none :: ([.fieldLink RX4 23 "StormroofModel" "heights" "[I", .fieldLink RX4 26 "StormroofModel" "at" "[I", .fieldLink RX4 29 "StormroofModel" "movers" "[I", .fieldLink RX4 32 "StormroofModel" "hasClimbed" "[Z", .fieldLink RX4 62 "StormroofModel" "placed" "I", .fieldLink RX4 36 "StormroofModel" "winner" "I", .fieldLink RX4 65 "StormroofModel" "played" "I"] ++ wsX40)
def wsX4_init : List Cond := .code yX4_init cX4_init 1 none :: ([.methodLink RX4 1 objectInit, .instanceMethod objectInit, .code objectInit ⟨#[0xb1]⟩ 1 none, .fieldLink RX4 7 "StormroofModel" "rows" "I", .fieldLink RX4 13 "StormroofModel" "columns" "I", .fieldLink RX4 16 "StormroofModel" "builders" "I", .arrayClass .int, .fieldLink RX4 19 "StormroofModel" "powers" "[I", .fieldLink RX4 23 "StormroofModel" "heights" "[I", .fieldLink RX4 26 "StormroofModel" "at" "[I", .fieldLink RX4 29 "StormroofModel" "movers" "[I", .arrayClass .boolean, .fieldLink RX4 32 "StormroofModel" "hasClimbed" "[Z", .fieldLink RX4 36 "StormroofModel" "winner" "I", .fieldLink RX4 39 "StormroofModel" "kept" "[I", .fieldLink RX4 42 "StormroofModel" "numbers" "[I", .fieldLink RX4 45 "StormroofModel" "bests" "[I", .methodLink RX4 48 yX4_lay, .instanceMethod yX4_lay, .selects RX4 yX4_lay yX4_lay, .initialized RX4, .code yX4_lay cX4_lay 2 none, .fieldLink RX4 62 "StormroofModel" "placed" "I", .fieldLink RX4 65 "StormroofModel" "played" "I"] ++ wsX40)
def wsX4_thrown : List Cond := .code yX4_thrown cX4_thrown 1 (some .int) :: ([.fieldLink RX4 51 "StormroofModel" "thrown" "I"] ++ wsX40)
def wsX4_goesWell : List Cond := .code yX4_goesWell cX4_goesWell 2 (some .boolean) :: ([.fieldLink RX4 51 "StormroofModel" "thrown" "I"] ++ wsX40)
def wsX4_in : List Cond := .code yX4_in cX4_in 3 (some .boolean) :: ([])
def wsX4_cells : List Cond := .code yX4_cells cX4_cells 1 (some .int) :: ([.fieldLink RX4 7 "StormroofModel" "rows" "I", .fieldLink RX4 13 "StormroofModel" "columns" "I"] ++ wsX40)
def wsX4_isCell : List Cond := .code yX4_isCell cX4_isCell 2 (some .boolean) :: ([.methodLink RX4 54 yX4_cells, .instanceMethod yX4_cells, .selects RX4 yX4_cells yX4_cells, .initialized RX4, .code yX4_cells cX4_cells 1 (some .int), .fieldLink RX4 7 "StormroofModel" "rows" "I", .fieldLink RX4 13 "StormroofModel" "columns" "I", .methodLink RX4 58 yX4_in, .static yX4_in, .code yX4_in cX4_in 3 (some .boolean)] ++ wsX40)
def wsX4_isPlaced : List Cond := .code yX4_isPlaced cX4_isPlaced 1 (some .boolean) :: ([.fieldLink RX4 62 "StormroofModel" "placed" "I", .fieldLink RX4 16 "StormroofModel" "builders" "I"] ++ wsX40)
def wsX4_begin_r1 : List Cond := [Cond.fieldLink RX4 7 "StormroofModel" "rows" "I", Cond.fieldLink RX4 13 "StormroofModel" "columns" "I", Cond.fieldLink RX4 16 "StormroofModel" "builders" "I", Cond.fieldLink RX4 19 "StormroofModel" "powers" "[I", Cond.methodLink RX4 58 yX4_in, Cond.static yX4_in, Cond.initialized RX4, Cond.code yX4_in cX4_in 3 (some .boolean), Cond.methodLink RX4 68 yX4_goesWell, Cond.instanceMethod yX4_goesWell, Cond.selects RX4 yX4_goesWell yX4_goesWell, Cond.code yX4_goesWell cX4_goesWell 2 (some .boolean), Cond.fieldLink RX4 51 "StormroofModel" "thrown" "I", Cond.methodLink RX4 48 yX4_lay, Cond.instanceMethod yX4_lay, Cond.selects RX4 yX4_lay yX4_lay, Cond.code yX4_lay cX4_lay 2 none, Cond.fieldLink RX4 23 "StormroofModel" "heights" "[I", Cond.fieldLink RX4 26 "StormroofModel" "at" "[I", Cond.fieldLink RX4 29 "StormroofModel" "movers" "[I", Cond.fieldLink RX4 32 "StormroofModel" "hasClimbed" "[Z", Cond.fieldLink RX4 62 "StormroofModel" "placed" "I", Cond.fieldLink RX4 36 "StormroofModel" "winner" "I", Cond.fieldLink RX4 65 "StormroofModel" "played" "I"]
def wsX4_begin_r2 : List Cond := [Cond.methodLink RX4 54 yX4_cells, Cond.instanceMethod yX4_cells, Cond.selects RX4 yX4_cells yX4_cells, Cond.code yX4_cells cX4_cells 1 (some .int)]
def wsX4_begin : List Cond := .code yX4_begin cX4_begin 8 (some .int) :: ((wsX4_begin_r1 ++ wsX4_begin_r2) ++ wsX40)
def wsX4_high : List Cond := .code yX4_high cX4_high 3 (some .int) :: ([.fieldLink RX4 23 "StormroofModel" "heights" "[I"] ++ wsX40)
def wsX4_builderIn : List Cond := .code yX4_builderIn cX4_builderIn 5 (some .int) :: ([.fieldLink RX4 26 "StormroofModel" "at" "[I"] ++ wsX40)
def wsX4_areBeside : List Cond := .code yX4_areBeside cX4_areBeside 5 (some .boolean) :: ([.fieldLink RX4 13 "StormroofModel" "columns" "I", .methodLink RX4 58 yX4_in, .static yX4_in, .initialized RX4, .code yX4_in cX4_in 3 (some .boolean)] ++ wsX40)
def wsX4_beyond : List Cond := .code yX4_beyond cX4_beyond 5 (some .int) :: ([.fieldLink RX4 13 "StormroofModel" "columns" "I", .fieldLink RX4 7 "StormroofModel" "rows" "I", .methodLink RX4 58 yX4_in, .static yX4_in, .initialized RX4, .code yX4_in cX4_in 3 (some .boolean)] ++ wsX40)
def wsX4_isStep : List Cond := .code yX4_isStep cX4_isStep 5 (some .boolean) :: ([.fieldLink RX4 32 "StormroofModel" "hasClimbed" "[Z", .methodLink RX4 72 yX4_high, .instanceMethod yX4_high, .selects RX4 yX4_high yX4_high, .initialized RX4, .code yX4_high cX4_high 3 (some .int), .fieldLink RX4 23 "StormroofModel" "heights" "[I", .methodLink RX4 76 yX4_areBeside, .instanceMethod yX4_areBeside, .selects RX4 yX4_areBeside yX4_areBeside, .code yX4_areBeside cX4_areBeside 5 (some .boolean), .fieldLink RX4 13 "StormroofModel" "columns" "I", .methodLink RX4 58 yX4_in, .static yX4_in, .code yX4_in cX4_in 3 (some .boolean)] ++ wsX40)
def wsX4_isWinning : List Cond := .code yX4_isWinning cX4_isWinning 5 (some .boolean) :: ([.fieldLink RX4 19 "StormroofModel" "powers" "[I", .fieldLink RX4 29 "StormroofModel" "movers" "[I", .methodLink RX4 72 yX4_high, .instanceMethod yX4_high, .selects RX4 yX4_high yX4_high, .initialized RX4, .code yX4_high cX4_high 3 (some .int), .fieldLink RX4 23 "StormroofModel" "heights" "[I"] ++ wsX40)
def wsX4_mayEnter : List Cond := .code yX4_mayEnter cX4_mayEnter 7 (some .boolean) :: ([.fieldLink RX4 19 "StormroofModel" "powers" "[I", .fieldLink RX4 29 "StormroofModel" "movers" "[I", .methodLink RX4 80 yX4_builderIn, .instanceMethod yX4_builderIn, .selects RX4 yX4_builderIn yX4_builderIn, .initialized RX4, .code yX4_builderIn cX4_builderIn 5 (some .int), .fieldLink RX4 26 "StormroofModel" "at" "[I", .methodLink RX4 83 yX4_beyond, .instanceMethod yX4_beyond, .selects RX4 yX4_beyond yX4_beyond, .code yX4_beyond cX4_beyond 5 (some .int), .fieldLink RX4 13 "StormroofModel" "columns" "I", .fieldLink RX4 7 "StormroofModel" "rows" "I", .methodLink RX4 58 yX4_in, .static yX4_in, .code yX4_in cX4_in 3 (some .boolean), .methodLink RX4 72 yX4_high, .instanceMethod yX4_high, .selects RX4 yX4_high yX4_high, .code yX4_high cX4_high 3 (some .int), .fieldLink RX4 23 "StormroofModel" "heights" "[I"] ++ wsX40)
def wsX4_canCome_r1 : List Cond := [Cond.fieldLink RX4 26 "StormroofModel" "at" "[I", Cond.fieldLink RX4 29 "StormroofModel" "movers" "[I", Cond.fieldLink RX4 19 "StormroofModel" "powers" "[I", Cond.methodLink RX4 86 yX4_isStep, Cond.instanceMethod yX4_isStep, Cond.selects RX4 yX4_isStep yX4_isStep, Cond.initialized RX4, Cond.code yX4_isStep cX4_isStep 5 (some .boolean), Cond.fieldLink RX4 32 "StormroofModel" "hasClimbed" "[Z", Cond.methodLink RX4 72 yX4_high, Cond.instanceMethod yX4_high, Cond.selects RX4 yX4_high yX4_high, Cond.code yX4_high cX4_high 3 (some .int), Cond.fieldLink RX4 23 "StormroofModel" "heights" "[I", Cond.methodLink RX4 76 yX4_areBeside, Cond.instanceMethod yX4_areBeside, Cond.selects RX4 yX4_areBeside yX4_areBeside, Cond.code yX4_areBeside cX4_areBeside 5 (some .boolean), Cond.fieldLink RX4 13 "StormroofModel" "columns" "I", Cond.methodLink RX4 58 yX4_in, Cond.static yX4_in, Cond.code yX4_in cX4_in 3 (some .boolean), Cond.methodLink RX4 89 yX4_mayEnter, Cond.instanceMethod yX4_mayEnter]
def wsX4_canCome_r2 : List Cond := [Cond.selects RX4 yX4_mayEnter yX4_mayEnter, Cond.code yX4_mayEnter cX4_mayEnter 7 (some .boolean), Cond.methodLink RX4 80 yX4_builderIn, Cond.instanceMethod yX4_builderIn, Cond.selects RX4 yX4_builderIn yX4_builderIn, Cond.code yX4_builderIn cX4_builderIn 5 (some .int), Cond.methodLink RX4 83 yX4_beyond, Cond.instanceMethod yX4_beyond, Cond.selects RX4 yX4_beyond yX4_beyond, Cond.code yX4_beyond cX4_beyond 5 (some .int), Cond.fieldLink RX4 7 "StormroofModel" "rows" "I", Cond.methodLink RX4 92 yX4_isWinning, Cond.instanceMethod yX4_isWinning, Cond.selects RX4 yX4_isWinning yX4_isWinning, Cond.code yX4_isWinning cX4_isWinning 5 (some .boolean), Cond.methodLink RX4 54 yX4_cells, Cond.instanceMethod yX4_cells, Cond.selects RX4 yX4_cells yX4_cells, Cond.code yX4_cells cX4_cells 1 (some .int)]
def wsX4_canCome : List Cond := .code yX4_canCome cX4_canCome 9 (some .boolean) :: ((wsX4_canCome_r1 ++ wsX4_canCome_r2) ++ wsX40)
def wsX4_canBuild_r1 : List Cond := [Cond.fieldLink RX4 19 "StormroofModel" "powers" "[I", Cond.fieldLink RX4 29 "StormroofModel" "movers" "[I", Cond.methodLink RX4 76 yX4_areBeside, Cond.instanceMethod yX4_areBeside, Cond.selects RX4 yX4_areBeside yX4_areBeside, Cond.initialized RX4, Cond.code yX4_areBeside cX4_areBeside 5 (some .boolean), Cond.fieldLink RX4 13 "StormroofModel" "columns" "I", Cond.methodLink RX4 58 yX4_in, Cond.static yX4_in, Cond.code yX4_in cX4_in 3 (some .boolean), Cond.methodLink RX4 72 yX4_high, Cond.instanceMethod yX4_high, Cond.selects RX4 yX4_high yX4_high, Cond.code yX4_high cX4_high 3 (some .int), Cond.fieldLink RX4 23 "StormroofModel" "heights" "[I", Cond.methodLink RX4 80 yX4_builderIn, Cond.instanceMethod yX4_builderIn, Cond.selects RX4 yX4_builderIn yX4_builderIn, Cond.code yX4_builderIn cX4_builderIn 5 (some .int), Cond.fieldLink RX4 26 "StormroofModel" "at" "[I", Cond.methodLink RX4 83 yX4_beyond, Cond.instanceMethod yX4_beyond, Cond.selects RX4 yX4_beyond yX4_beyond]
def wsX4_canBuild_r2 : List Cond := [Cond.code yX4_beyond cX4_beyond 5 (some .int), Cond.fieldLink RX4 7 "StormroofModel" "rows" "I"]
def wsX4_canBuild : List Cond := .code yX4_canBuild cX4_canBuild 8 (some .boolean) :: ((wsX4_canBuild_r1 ++ wsX4_canBuild_r2) ++ wsX40)
def wsX4_isTurn_r1 : List Cond := [Cond.fieldLink RX4 16 "StormroofModel" "builders" "I", Cond.fieldLink RX4 26 "StormroofModel" "at" "[I", Cond.fieldLink RX4 29 "StormroofModel" "movers" "[I", Cond.methodLink RX4 95 yX4_isCell, Cond.instanceMethod yX4_isCell, Cond.selects RX4 yX4_isCell yX4_isCell, Cond.initialized RX4, Cond.code yX4_isCell cX4_isCell 2 (some .boolean), Cond.methodLink RX4 54 yX4_cells, Cond.instanceMethod yX4_cells, Cond.selects RX4 yX4_cells yX4_cells, Cond.code yX4_cells cX4_cells 1 (some .int), Cond.fieldLink RX4 7 "StormroofModel" "rows" "I", Cond.fieldLink RX4 13 "StormroofModel" "columns" "I", Cond.methodLink RX4 58 yX4_in, Cond.static yX4_in, Cond.code yX4_in cX4_in 3 (some .boolean), Cond.methodLink RX4 98 yX4_canCome, Cond.instanceMethod yX4_canCome, Cond.selects RX4 yX4_canCome yX4_canCome, Cond.code yX4_canCome cX4_canCome 9 (some .boolean), Cond.fieldLink RX4 19 "StormroofModel" "powers" "[I", Cond.methodLink RX4 86 yX4_isStep, Cond.instanceMethod yX4_isStep]
def wsX4_isTurn_r2 : List Cond := [Cond.selects RX4 yX4_isStep yX4_isStep, Cond.code yX4_isStep cX4_isStep 5 (some .boolean), Cond.fieldLink RX4 32 "StormroofModel" "hasClimbed" "[Z", Cond.methodLink RX4 72 yX4_high, Cond.instanceMethod yX4_high, Cond.selects RX4 yX4_high yX4_high, Cond.code yX4_high cX4_high 3 (some .int), Cond.fieldLink RX4 23 "StormroofModel" "heights" "[I", Cond.methodLink RX4 76 yX4_areBeside, Cond.instanceMethod yX4_areBeside, Cond.selects RX4 yX4_areBeside yX4_areBeside, Cond.code yX4_areBeside cX4_areBeside 5 (some .boolean), Cond.methodLink RX4 89 yX4_mayEnter, Cond.instanceMethod yX4_mayEnter, Cond.selects RX4 yX4_mayEnter yX4_mayEnter, Cond.code yX4_mayEnter cX4_mayEnter 7 (some .boolean), Cond.methodLink RX4 80 yX4_builderIn, Cond.instanceMethod yX4_builderIn, Cond.selects RX4 yX4_builderIn yX4_builderIn, Cond.code yX4_builderIn cX4_builderIn 5 (some .int), Cond.methodLink RX4 83 yX4_beyond, Cond.instanceMethod yX4_beyond, Cond.selects RX4 yX4_beyond yX4_beyond, Cond.code yX4_beyond cX4_beyond 5 (some .int)]
def wsX4_isTurn_r3 : List Cond := [Cond.methodLink RX4 92 yX4_isWinning, Cond.instanceMethod yX4_isWinning, Cond.selects RX4 yX4_isWinning yX4_isWinning, Cond.code yX4_isWinning cX4_isWinning 5 (some .boolean), Cond.methodLink RX4 102 yX4_canBuild, Cond.instanceMethod yX4_canBuild, Cond.selects RX4 yX4_canBuild yX4_canBuild, Cond.code yX4_canBuild cX4_canBuild 8 (some .boolean)]
def wsX4_isTurn : List Cond := .code yX4_isTurn cX4_isTurn 9 (some .boolean) :: ((wsX4_isTurn_r1 ++ (wsX4_isTurn_r2 ++ wsX4_isTurn_r3)) ++ wsX40)
def wsX4_nextTurn_r1 : List Cond := [Cond.fieldLink RX4 16 "StormroofModel" "builders" "I", Cond.methodLink RX4 54 yX4_cells, Cond.instanceMethod yX4_cells, Cond.selects RX4 yX4_cells yX4_cells, Cond.initialized RX4, Cond.code yX4_cells cX4_cells 1 (some .int), Cond.fieldLink RX4 7 "StormroofModel" "rows" "I", Cond.fieldLink RX4 13 "StormroofModel" "columns" "I", Cond.methodLink RX4 98 yX4_canCome, Cond.instanceMethod yX4_canCome, Cond.selects RX4 yX4_canCome yX4_canCome, Cond.code yX4_canCome cX4_canCome 9 (some .boolean), Cond.fieldLink RX4 26 "StormroofModel" "at" "[I", Cond.fieldLink RX4 29 "StormroofModel" "movers" "[I", Cond.fieldLink RX4 19 "StormroofModel" "powers" "[I", Cond.methodLink RX4 86 yX4_isStep, Cond.instanceMethod yX4_isStep, Cond.selects RX4 yX4_isStep yX4_isStep, Cond.code yX4_isStep cX4_isStep 5 (some .boolean), Cond.fieldLink RX4 32 "StormroofModel" "hasClimbed" "[Z", Cond.methodLink RX4 72 yX4_high, Cond.instanceMethod yX4_high, Cond.selects RX4 yX4_high yX4_high, Cond.code yX4_high cX4_high 3 (some .int)]
def wsX4_nextTurn_r2 : List Cond := [Cond.fieldLink RX4 23 "StormroofModel" "heights" "[I", Cond.methodLink RX4 76 yX4_areBeside, Cond.instanceMethod yX4_areBeside, Cond.selects RX4 yX4_areBeside yX4_areBeside, Cond.code yX4_areBeside cX4_areBeside 5 (some .boolean), Cond.methodLink RX4 58 yX4_in, Cond.static yX4_in, Cond.code yX4_in cX4_in 3 (some .boolean), Cond.methodLink RX4 89 yX4_mayEnter, Cond.instanceMethod yX4_mayEnter, Cond.selects RX4 yX4_mayEnter yX4_mayEnter, Cond.code yX4_mayEnter cX4_mayEnter 7 (some .boolean), Cond.methodLink RX4 80 yX4_builderIn, Cond.instanceMethod yX4_builderIn, Cond.selects RX4 yX4_builderIn yX4_builderIn, Cond.code yX4_builderIn cX4_builderIn 5 (some .int), Cond.methodLink RX4 83 yX4_beyond, Cond.instanceMethod yX4_beyond, Cond.selects RX4 yX4_beyond yX4_beyond, Cond.code yX4_beyond cX4_beyond 5 (some .int), Cond.methodLink RX4 92 yX4_isWinning, Cond.instanceMethod yX4_isWinning, Cond.selects RX4 yX4_isWinning yX4_isWinning, Cond.code yX4_isWinning cX4_isWinning 5 (some .boolean)]
def wsX4_nextTurn_r3 : List Cond := [Cond.methodLink RX4 106 yX4_isTurn, Cond.instanceMethod yX4_isTurn, Cond.selects RX4 yX4_isTurn yX4_isTurn, Cond.code yX4_isTurn cX4_isTurn 9 (some .boolean), Cond.methodLink RX4 95 yX4_isCell, Cond.instanceMethod yX4_isCell, Cond.selects RX4 yX4_isCell yX4_isCell, Cond.code yX4_isCell cX4_isCell 2 (some .boolean), Cond.methodLink RX4 102 yX4_canBuild, Cond.instanceMethod yX4_canBuild, Cond.selects RX4 yX4_canBuild yX4_canBuild, Cond.code yX4_canBuild cX4_canBuild 8 (some .boolean)]
def wsX4_nextTurn : List Cond := .code yX4_nextTurn cX4_nextTurn 5 (some .int) :: ((wsX4_nextTurn_r1 ++ (wsX4_nextTurn_r2 ++ wsX4_nextTurn_r3)) ++ wsX40)
def wsX4_copy : List Cond := .code yX4_copy cX4_copy 4 none :: ([.fieldLink RX4 23 "StormroofModel" "heights" "[I", .fieldLink RX4 26 "StormroofModel" "at" "[I", .fieldLink RX4 29 "StormroofModel" "movers" "[I", .fieldLink RX4 32 "StormroofModel" "hasClimbed" "[Z"] ++ wsX40)
def wsX4_act : List Cond := .code yX4_act cX4_act 9 none :: ([.fieldLink RX4 29 "StormroofModel" "movers" "[I", .fieldLink RX4 26 "StormroofModel" "at" "[I", .fieldLink RX4 19 "StormroofModel" "powers" "[I", .fieldLink RX4 32 "StormroofModel" "hasClimbed" "[Z", .fieldLink RX4 23 "StormroofModel" "heights" "[I", .methodLink RX4 80 yX4_builderIn, .instanceMethod yX4_builderIn, .selects RX4 yX4_builderIn yX4_builderIn, .initialized RX4, .code yX4_builderIn cX4_builderIn 5 (some .int), .methodLink RX4 83 yX4_beyond, .instanceMethod yX4_beyond, .selects RX4 yX4_beyond yX4_beyond, .code yX4_beyond cX4_beyond 5 (some .int), .fieldLink RX4 13 "StormroofModel" "columns" "I", .fieldLink RX4 7 "StormroofModel" "rows" "I", .methodLink RX4 58 yX4_in, .static yX4_in, .code yX4_in cX4_in 3 (some .boolean), .methodLink RX4 72 yX4_high, .instanceMethod yX4_high, .selects RX4 yX4_high yX4_high, .code yX4_high cX4_high 3 (some .int)] ++ wsX40)
def wsX4_judge_r1 : List Cond := [Cond.fieldLink RX4 29 "StormroofModel" "movers" "[I", Cond.fieldLink RX4 36 "StormroofModel" "winner" "I", Cond.methodLink RX4 109 yX4_isPlaced, Cond.instanceMethod yX4_isPlaced, Cond.selects RX4 yX4_isPlaced yX4_isPlaced, Cond.initialized RX4, Cond.code yX4_isPlaced cX4_isPlaced 1 (some .boolean), Cond.fieldLink RX4 62 "StormroofModel" "placed" "I", Cond.fieldLink RX4 16 "StormroofModel" "builders" "I", Cond.methodLink RX4 113 yX4_nextTurn, Cond.instanceMethod yX4_nextTurn, Cond.selects RX4 yX4_nextTurn yX4_nextTurn, Cond.code yX4_nextTurn cX4_nextTurn 5 (some .int), Cond.methodLink RX4 54 yX4_cells, Cond.instanceMethod yX4_cells, Cond.selects RX4 yX4_cells yX4_cells, Cond.code yX4_cells cX4_cells 1 (some .int), Cond.fieldLink RX4 7 "StormroofModel" "rows" "I", Cond.fieldLink RX4 13 "StormroofModel" "columns" "I", Cond.methodLink RX4 98 yX4_canCome, Cond.instanceMethod yX4_canCome, Cond.selects RX4 yX4_canCome yX4_canCome, Cond.code yX4_canCome cX4_canCome 9 (some .boolean), Cond.fieldLink RX4 26 "StormroofModel" "at" "[I"]
def wsX4_judge_r2 : List Cond := [Cond.fieldLink RX4 19 "StormroofModel" "powers" "[I", Cond.methodLink RX4 86 yX4_isStep, Cond.instanceMethod yX4_isStep, Cond.selects RX4 yX4_isStep yX4_isStep, Cond.code yX4_isStep cX4_isStep 5 (some .boolean), Cond.fieldLink RX4 32 "StormroofModel" "hasClimbed" "[Z", Cond.methodLink RX4 72 yX4_high, Cond.instanceMethod yX4_high, Cond.selects RX4 yX4_high yX4_high, Cond.code yX4_high cX4_high 3 (some .int), Cond.fieldLink RX4 23 "StormroofModel" "heights" "[I", Cond.methodLink RX4 76 yX4_areBeside, Cond.instanceMethod yX4_areBeside, Cond.selects RX4 yX4_areBeside yX4_areBeside, Cond.code yX4_areBeside cX4_areBeside 5 (some .boolean), Cond.methodLink RX4 58 yX4_in, Cond.static yX4_in, Cond.code yX4_in cX4_in 3 (some .boolean), Cond.methodLink RX4 89 yX4_mayEnter, Cond.instanceMethod yX4_mayEnter, Cond.selects RX4 yX4_mayEnter yX4_mayEnter, Cond.code yX4_mayEnter cX4_mayEnter 7 (some .boolean), Cond.methodLink RX4 80 yX4_builderIn, Cond.instanceMethod yX4_builderIn]
def wsX4_judge_r3 : List Cond := [Cond.selects RX4 yX4_builderIn yX4_builderIn, Cond.code yX4_builderIn cX4_builderIn 5 (some .int), Cond.methodLink RX4 83 yX4_beyond, Cond.instanceMethod yX4_beyond, Cond.selects RX4 yX4_beyond yX4_beyond, Cond.code yX4_beyond cX4_beyond 5 (some .int), Cond.methodLink RX4 92 yX4_isWinning, Cond.instanceMethod yX4_isWinning, Cond.selects RX4 yX4_isWinning yX4_isWinning, Cond.code yX4_isWinning cX4_isWinning 5 (some .boolean), Cond.methodLink RX4 106 yX4_isTurn, Cond.instanceMethod yX4_isTurn, Cond.selects RX4 yX4_isTurn yX4_isTurn, Cond.code yX4_isTurn cX4_isTurn 9 (some .boolean), Cond.methodLink RX4 95 yX4_isCell, Cond.instanceMethod yX4_isCell, Cond.selects RX4 yX4_isCell yX4_isCell, Cond.code yX4_isCell cX4_isCell 2 (some .boolean), Cond.methodLink RX4 102 yX4_canBuild, Cond.instanceMethod yX4_canBuild, Cond.selects RX4 yX4_canBuild yX4_canBuild, Cond.code yX4_canBuild cX4_canBuild 8 (some .boolean)]
def wsX4_judge : List Cond := .code yX4_judge cX4_judge 1 none :: ((wsX4_judge_r1 ++ (wsX4_judge_r2 ++ wsX4_judge_r3)) ++ wsX40)
def wsX4_onTurnNow : List Cond := .code yX4_onTurnNow cX4_onTurnNow 1 (some .int) :: ([.fieldLink RX4 36 "StormroofModel" "winner" "I", .fieldLink RX4 29 "StormroofModel" "movers" "[I", .fieldLink RX4 62 "StormroofModel" "placed" "I", .fieldLink RX4 16 "StormroofModel" "builders" "I", .methodLink RX4 109 yX4_isPlaced, .instanceMethod yX4_isPlaced, .selects RX4 yX4_isPlaced yX4_isPlaced, .initialized RX4, .code yX4_isPlaced cX4_isPlaced 1 (some .boolean)] ++ wsX40)
def wsX4_place_r1 : List Cond := [Cond.fieldLink RX4 23 "StormroofModel" "heights" "[I", Cond.fieldLink RX4 26 "StormroofModel" "at" "[I", Cond.fieldLink RX4 62 "StormroofModel" "placed" "I", Cond.fieldLink RX4 16 "StormroofModel" "builders" "I", Cond.methodLink RX4 95 yX4_isCell, Cond.instanceMethod yX4_isCell, Cond.selects RX4 yX4_isCell yX4_isCell, Cond.initialized RX4, Cond.code yX4_isCell cX4_isCell 2 (some .boolean), Cond.methodLink RX4 54 yX4_cells, Cond.instanceMethod yX4_cells, Cond.selects RX4 yX4_cells yX4_cells, Cond.code yX4_cells cX4_cells 1 (some .int), Cond.fieldLink RX4 7 "StormroofModel" "rows" "I", Cond.fieldLink RX4 13 "StormroofModel" "columns" "I", Cond.methodLink RX4 58 yX4_in, Cond.static yX4_in, Cond.code yX4_in cX4_in 3 (some .boolean), Cond.methodLink RX4 109 yX4_isPlaced, Cond.instanceMethod yX4_isPlaced, Cond.selects RX4 yX4_isPlaced yX4_isPlaced, Cond.code yX4_isPlaced cX4_isPlaced 1 (some .boolean), Cond.methodLink RX4 80 yX4_builderIn, Cond.instanceMethod yX4_builderIn]
def wsX4_place_r2 : List Cond := [Cond.selects RX4 yX4_builderIn yX4_builderIn, Cond.code yX4_builderIn cX4_builderIn 5 (some .int), Cond.methodLink RX4 68 yX4_goesWell, Cond.instanceMethod yX4_goesWell, Cond.selects RX4 yX4_goesWell yX4_goesWell, Cond.code yX4_goesWell cX4_goesWell 2 (some .boolean), Cond.fieldLink RX4 51 "StormroofModel" "thrown" "I", Cond.methodLink RX4 116 yX4_judge, Cond.instanceMethod yX4_judge, Cond.selects RX4 yX4_judge yX4_judge, Cond.code yX4_judge cX4_judge 1 none, Cond.fieldLink RX4 29 "StormroofModel" "movers" "[I", Cond.fieldLink RX4 36 "StormroofModel" "winner" "I", Cond.methodLink RX4 113 yX4_nextTurn, Cond.instanceMethod yX4_nextTurn, Cond.selects RX4 yX4_nextTurn yX4_nextTurn, Cond.code yX4_nextTurn cX4_nextTurn 5 (some .int), Cond.methodLink RX4 98 yX4_canCome, Cond.instanceMethod yX4_canCome, Cond.selects RX4 yX4_canCome yX4_canCome, Cond.code yX4_canCome cX4_canCome 9 (some .boolean), Cond.fieldLink RX4 19 "StormroofModel" "powers" "[I", Cond.methodLink RX4 86 yX4_isStep, Cond.instanceMethod yX4_isStep]
def wsX4_place_r3 : List Cond := [Cond.selects RX4 yX4_isStep yX4_isStep, Cond.code yX4_isStep cX4_isStep 5 (some .boolean), Cond.fieldLink RX4 32 "StormroofModel" "hasClimbed" "[Z", Cond.methodLink RX4 72 yX4_high, Cond.instanceMethod yX4_high, Cond.selects RX4 yX4_high yX4_high, Cond.code yX4_high cX4_high 3 (some .int), Cond.methodLink RX4 76 yX4_areBeside, Cond.instanceMethod yX4_areBeside, Cond.selects RX4 yX4_areBeside yX4_areBeside, Cond.code yX4_areBeside cX4_areBeside 5 (some .boolean), Cond.methodLink RX4 89 yX4_mayEnter, Cond.instanceMethod yX4_mayEnter, Cond.selects RX4 yX4_mayEnter yX4_mayEnter, Cond.code yX4_mayEnter cX4_mayEnter 7 (some .boolean), Cond.methodLink RX4 83 yX4_beyond, Cond.instanceMethod yX4_beyond, Cond.selects RX4 yX4_beyond yX4_beyond, Cond.code yX4_beyond cX4_beyond 5 (some .int), Cond.methodLink RX4 92 yX4_isWinning, Cond.instanceMethod yX4_isWinning, Cond.selects RX4 yX4_isWinning yX4_isWinning, Cond.code yX4_isWinning cX4_isWinning 5 (some .boolean), Cond.methodLink RX4 106 yX4_isTurn]
def wsX4_place_r4 : List Cond := [Cond.instanceMethod yX4_isTurn, Cond.selects RX4 yX4_isTurn yX4_isTurn, Cond.code yX4_isTurn cX4_isTurn 9 (some .boolean), Cond.methodLink RX4 102 yX4_canBuild, Cond.instanceMethod yX4_canBuild, Cond.selects RX4 yX4_canBuild yX4_canBuild, Cond.code yX4_canBuild cX4_canBuild 8 (some .boolean), Cond.methodLink RX4 119 yX4_onTurnNow, Cond.instanceMethod yX4_onTurnNow, Cond.selects RX4 yX4_onTurnNow yX4_onTurnNow, Cond.code yX4_onTurnNow cX4_onTurnNow 1 (some .int)]
def wsX4_place : List Cond := .code yX4_place cX4_place 3 (some .int) :: ((wsX4_place_r1 ++ (wsX4_place_r2 ++ (wsX4_place_r3 ++ wsX4_place_r4))) ++ wsX40)
def wsX4_raise_r1 : List Cond := [Cond.fieldLink RX4 23 "StormroofModel" "heights" "[I", Cond.methodLink RX4 95 yX4_isCell, Cond.instanceMethod yX4_isCell, Cond.selects RX4 yX4_isCell yX4_isCell, Cond.initialized RX4, Cond.code yX4_isCell cX4_isCell 2 (some .boolean), Cond.methodLink RX4 54 yX4_cells, Cond.instanceMethod yX4_cells, Cond.selects RX4 yX4_cells yX4_cells, Cond.code yX4_cells cX4_cells 1 (some .int), Cond.fieldLink RX4 7 "StormroofModel" "rows" "I", Cond.fieldLink RX4 13 "StormroofModel" "columns" "I", Cond.methodLink RX4 58 yX4_in, Cond.static yX4_in, Cond.code yX4_in cX4_in 3 (some .boolean), Cond.methodLink RX4 109 yX4_isPlaced, Cond.instanceMethod yX4_isPlaced, Cond.selects RX4 yX4_isPlaced yX4_isPlaced, Cond.code yX4_isPlaced cX4_isPlaced 1 (some .boolean), Cond.fieldLink RX4 62 "StormroofModel" "placed" "I", Cond.fieldLink RX4 16 "StormroofModel" "builders" "I", Cond.methodLink RX4 80 yX4_builderIn, Cond.instanceMethod yX4_builderIn, Cond.selects RX4 yX4_builderIn yX4_builderIn]
def wsX4_raise_r2 : List Cond := [Cond.code yX4_builderIn cX4_builderIn 5 (some .int), Cond.fieldLink RX4 26 "StormroofModel" "at" "[I", Cond.methodLink RX4 68 yX4_goesWell, Cond.instanceMethod yX4_goesWell, Cond.selects RX4 yX4_goesWell yX4_goesWell, Cond.code yX4_goesWell cX4_goesWell 2 (some .boolean), Cond.fieldLink RX4 51 "StormroofModel" "thrown" "I"]
def wsX4_raise : List Cond := .code yX4_raise cX4_raise 5 (some .int) :: ((wsX4_raise_r1 ++ wsX4_raise_r2) ++ wsX40)
def wsX4_onTurn : List Cond := .code yX4_onTurn cX4_onTurn 1 (some .int) :: ([.fieldLink RX4 51 "StormroofModel" "thrown" "I", .methodLink RX4 119 yX4_onTurnNow, .instanceMethod yX4_onTurnNow, .selects RX4 yX4_onTurnNow yX4_onTurnNow, .initialized RX4, .code yX4_onTurnNow cX4_onTurnNow 1 (some .int), .fieldLink RX4 36 "StormroofModel" "winner" "I", .fieldLink RX4 29 "StormroofModel" "movers" "[I", .fieldLink RX4 62 "StormroofModel" "placed" "I", .fieldLink RX4 16 "StormroofModel" "builders" "I", .methodLink RX4 109 yX4_isPlaced, .instanceMethod yX4_isPlaced, .selects RX4 yX4_isPlaced yX4_isPlaced, .code yX4_isPlaced cX4_isPlaced 1 (some .boolean)] ++ wsX40)
def wsX4_winner : List Cond := .code yX4_winner cX4_winner 1 (some .int) :: ([.fieldLink RX4 51 "StormroofModel" "thrown" "I", .fieldLink RX4 36 "StormroofModel" "winner" "I"] ++ wsX40)
def wsX4_height : List Cond := .code yX4_height cX4_height 2 (some .int) :: ([.fieldLink RX4 23 "StormroofModel" "heights" "[I", .methodLink RX4 95 yX4_isCell, .instanceMethod yX4_isCell, .selects RX4 yX4_isCell yX4_isCell, .initialized RX4, .code yX4_isCell cX4_isCell 2 (some .boolean), .methodLink RX4 54 yX4_cells, .instanceMethod yX4_cells, .selects RX4 yX4_cells yX4_cells, .code yX4_cells cX4_cells 1 (some .int), .fieldLink RX4 7 "StormroofModel" "rows" "I", .fieldLink RX4 13 "StormroofModel" "columns" "I", .methodLink RX4 58 yX4_in, .static yX4_in, .code yX4_in cX4_in 3 (some .boolean), .methodLink RX4 68 yX4_goesWell, .instanceMethod yX4_goesWell, .selects RX4 yX4_goesWell yX4_goesWell, .code yX4_goesWell cX4_goesWell 2 (some .boolean), .fieldLink RX4 51 "StormroofModel" "thrown" "I"] ++ wsX40)
def wsX4_builderAt : List Cond := .code yX4_builderAt cX4_builderAt 3 (some .int) :: ([.methodLink RX4 95 yX4_isCell, .instanceMethod yX4_isCell, .selects RX4 yX4_isCell yX4_isCell, .initialized RX4, .code yX4_isCell cX4_isCell 2 (some .boolean), .methodLink RX4 54 yX4_cells, .instanceMethod yX4_cells, .selects RX4 yX4_cells yX4_cells, .code yX4_cells cX4_cells 1 (some .int), .fieldLink RX4 7 "StormroofModel" "rows" "I", .fieldLink RX4 13 "StormroofModel" "columns" "I", .methodLink RX4 58 yX4_in, .static yX4_in, .code yX4_in cX4_in 3 (some .boolean), .methodLink RX4 68 yX4_goesWell, .instanceMethod yX4_goesWell, .selects RX4 yX4_goesWell yX4_goesWell, .code yX4_goesWell cX4_goesWell 2 (some .boolean), .fieldLink RX4 51 "StormroofModel" "thrown" "I", .methodLink RX4 80 yX4_builderIn, .instanceMethod yX4_builderIn, .selects RX4 yX4_builderIn yX4_builderIn, .code yX4_builderIn cX4_builderIn 5 (some .int), .fieldLink RX4 26 "StormroofModel" "at" "[I"] ++ wsX40)
def wsX4_played : List Cond := .code yX4_played cX4_played 1 (some .int) :: ([.fieldLink RX4 51 "StormroofModel" "thrown" "I", .fieldLink RX4 65 "StormroofModel" "played" "I"] ++ wsX40)
def wsX4_countTurns_r1 : List Cond := [Cond.fieldLink RX4 36 "StormroofModel" "winner" "I", Cond.methodLink RX4 113 yX4_nextTurn, Cond.instanceMethod yX4_nextTurn, Cond.selects RX4 yX4_nextTurn yX4_nextTurn, Cond.initialized RX4, Cond.code yX4_nextTurn cX4_nextTurn 5 (some .int), Cond.fieldLink RX4 16 "StormroofModel" "builders" "I", Cond.methodLink RX4 54 yX4_cells, Cond.instanceMethod yX4_cells, Cond.selects RX4 yX4_cells yX4_cells, Cond.code yX4_cells cX4_cells 1 (some .int), Cond.fieldLink RX4 7 "StormroofModel" "rows" "I", Cond.fieldLink RX4 13 "StormroofModel" "columns" "I", Cond.methodLink RX4 98 yX4_canCome, Cond.instanceMethod yX4_canCome, Cond.selects RX4 yX4_canCome yX4_canCome, Cond.code yX4_canCome cX4_canCome 9 (some .boolean), Cond.fieldLink RX4 26 "StormroofModel" "at" "[I", Cond.fieldLink RX4 29 "StormroofModel" "movers" "[I", Cond.fieldLink RX4 19 "StormroofModel" "powers" "[I", Cond.methodLink RX4 86 yX4_isStep, Cond.instanceMethod yX4_isStep, Cond.selects RX4 yX4_isStep yX4_isStep, Cond.code yX4_isStep cX4_isStep 5 (some .boolean)]
def wsX4_countTurns_r2 : List Cond := [Cond.fieldLink RX4 32 "StormroofModel" "hasClimbed" "[Z", Cond.methodLink RX4 72 yX4_high, Cond.instanceMethod yX4_high, Cond.selects RX4 yX4_high yX4_high, Cond.code yX4_high cX4_high 3 (some .int), Cond.fieldLink RX4 23 "StormroofModel" "heights" "[I", Cond.methodLink RX4 76 yX4_areBeside, Cond.instanceMethod yX4_areBeside, Cond.selects RX4 yX4_areBeside yX4_areBeside, Cond.code yX4_areBeside cX4_areBeside 5 (some .boolean), Cond.methodLink RX4 58 yX4_in, Cond.static yX4_in, Cond.code yX4_in cX4_in 3 (some .boolean), Cond.methodLink RX4 89 yX4_mayEnter, Cond.instanceMethod yX4_mayEnter, Cond.selects RX4 yX4_mayEnter yX4_mayEnter, Cond.code yX4_mayEnter cX4_mayEnter 7 (some .boolean), Cond.methodLink RX4 80 yX4_builderIn, Cond.instanceMethod yX4_builderIn, Cond.selects RX4 yX4_builderIn yX4_builderIn, Cond.code yX4_builderIn cX4_builderIn 5 (some .int), Cond.methodLink RX4 83 yX4_beyond, Cond.instanceMethod yX4_beyond, Cond.selects RX4 yX4_beyond yX4_beyond]
def wsX4_countTurns_r3 : List Cond := [Cond.code yX4_beyond cX4_beyond 5 (some .int), Cond.methodLink RX4 92 yX4_isWinning, Cond.instanceMethod yX4_isWinning, Cond.selects RX4 yX4_isWinning yX4_isWinning, Cond.code yX4_isWinning cX4_isWinning 5 (some .boolean), Cond.methodLink RX4 106 yX4_isTurn, Cond.instanceMethod yX4_isTurn, Cond.selects RX4 yX4_isTurn yX4_isTurn, Cond.code yX4_isTurn cX4_isTurn 9 (some .boolean), Cond.methodLink RX4 95 yX4_isCell, Cond.instanceMethod yX4_isCell, Cond.selects RX4 yX4_isCell yX4_isCell, Cond.code yX4_isCell cX4_isCell 2 (some .boolean), Cond.methodLink RX4 102 yX4_canBuild, Cond.instanceMethod yX4_canBuild, Cond.selects RX4 yX4_canBuild yX4_canBuild, Cond.code yX4_canBuild cX4_canBuild 8 (some .boolean)]
def wsX4_countTurns : List Cond := .code yX4_countTurns cX4_countTurns 3 (some .int) :: ((wsX4_countTurns_r1 ++ (wsX4_countTurns_r2 ++ wsX4_countTurns_r3)) ++ wsX40)
def wsX4_turnCount_r1 : List Cond := [Cond.methodLink RX4 109 yX4_isPlaced, Cond.instanceMethod yX4_isPlaced, Cond.selects RX4 yX4_isPlaced yX4_isPlaced, Cond.initialized RX4, Cond.code yX4_isPlaced cX4_isPlaced 1 (some .boolean), Cond.fieldLink RX4 62 "StormroofModel" "placed" "I", Cond.fieldLink RX4 16 "StormroofModel" "builders" "I", Cond.methodLink RX4 68 yX4_goesWell, Cond.instanceMethod yX4_goesWell, Cond.selects RX4 yX4_goesWell yX4_goesWell, Cond.code yX4_goesWell cX4_goesWell 2 (some .boolean), Cond.fieldLink RX4 51 "StormroofModel" "thrown" "I", Cond.methodLink RX4 122 yX4_countTurns, Cond.instanceMethod yX4_countTurns, Cond.selects RX4 yX4_countTurns yX4_countTurns, Cond.code yX4_countTurns cX4_countTurns 3 (some .int), Cond.fieldLink RX4 36 "StormroofModel" "winner" "I", Cond.methodLink RX4 113 yX4_nextTurn, Cond.instanceMethod yX4_nextTurn, Cond.selects RX4 yX4_nextTurn yX4_nextTurn, Cond.code yX4_nextTurn cX4_nextTurn 5 (some .int), Cond.methodLink RX4 54 yX4_cells, Cond.instanceMethod yX4_cells, Cond.selects RX4 yX4_cells yX4_cells]
def wsX4_turnCount_r2 : List Cond := [Cond.code yX4_cells cX4_cells 1 (some .int), Cond.fieldLink RX4 7 "StormroofModel" "rows" "I", Cond.fieldLink RX4 13 "StormroofModel" "columns" "I", Cond.methodLink RX4 98 yX4_canCome, Cond.instanceMethod yX4_canCome, Cond.selects RX4 yX4_canCome yX4_canCome, Cond.code yX4_canCome cX4_canCome 9 (some .boolean), Cond.fieldLink RX4 26 "StormroofModel" "at" "[I", Cond.fieldLink RX4 29 "StormroofModel" "movers" "[I", Cond.fieldLink RX4 19 "StormroofModel" "powers" "[I", Cond.methodLink RX4 86 yX4_isStep, Cond.instanceMethod yX4_isStep, Cond.selects RX4 yX4_isStep yX4_isStep, Cond.code yX4_isStep cX4_isStep 5 (some .boolean), Cond.fieldLink RX4 32 "StormroofModel" "hasClimbed" "[Z", Cond.methodLink RX4 72 yX4_high, Cond.instanceMethod yX4_high, Cond.selects RX4 yX4_high yX4_high, Cond.code yX4_high cX4_high 3 (some .int), Cond.fieldLink RX4 23 "StormroofModel" "heights" "[I", Cond.methodLink RX4 76 yX4_areBeside, Cond.instanceMethod yX4_areBeside, Cond.selects RX4 yX4_areBeside yX4_areBeside, Cond.code yX4_areBeside cX4_areBeside 5 (some .boolean)]
def wsX4_turnCount_r3 : List Cond := [Cond.methodLink RX4 58 yX4_in, Cond.static yX4_in, Cond.code yX4_in cX4_in 3 (some .boolean), Cond.methodLink RX4 89 yX4_mayEnter, Cond.instanceMethod yX4_mayEnter, Cond.selects RX4 yX4_mayEnter yX4_mayEnter, Cond.code yX4_mayEnter cX4_mayEnter 7 (some .boolean), Cond.methodLink RX4 80 yX4_builderIn, Cond.instanceMethod yX4_builderIn, Cond.selects RX4 yX4_builderIn yX4_builderIn, Cond.code yX4_builderIn cX4_builderIn 5 (some .int), Cond.methodLink RX4 83 yX4_beyond, Cond.instanceMethod yX4_beyond, Cond.selects RX4 yX4_beyond yX4_beyond, Cond.code yX4_beyond cX4_beyond 5 (some .int), Cond.methodLink RX4 92 yX4_isWinning, Cond.instanceMethod yX4_isWinning, Cond.selects RX4 yX4_isWinning yX4_isWinning, Cond.code yX4_isWinning cX4_isWinning 5 (some .boolean), Cond.methodLink RX4 106 yX4_isTurn, Cond.instanceMethod yX4_isTurn, Cond.selects RX4 yX4_isTurn yX4_isTurn, Cond.code yX4_isTurn cX4_isTurn 9 (some .boolean), Cond.methodLink RX4 95 yX4_isCell]
def wsX4_turnCount_r4 : List Cond := [Cond.instanceMethod yX4_isCell, Cond.selects RX4 yX4_isCell yX4_isCell, Cond.code yX4_isCell cX4_isCell 2 (some .boolean), Cond.methodLink RX4 102 yX4_canBuild, Cond.instanceMethod yX4_canBuild, Cond.selects RX4 yX4_canBuild yX4_canBuild, Cond.code yX4_canBuild cX4_canBuild 8 (some .boolean)]
def wsX4_turnCount : List Cond := .code yX4_turnCount cX4_turnCount 1 (some .int) :: ((wsX4_turnCount_r1 ++ (wsX4_turnCount_r2 ++ (wsX4_turnCount_r3 ++ wsX4_turnCount_r4))) ++ wsX40)
def wsX4_turnAt_r1 : List Cond := [Cond.methodLink RX4 109 yX4_isPlaced, Cond.instanceMethod yX4_isPlaced, Cond.selects RX4 yX4_isPlaced yX4_isPlaced, Cond.initialized RX4, Cond.code yX4_isPlaced cX4_isPlaced 1 (some .boolean), Cond.fieldLink RX4 62 "StormroofModel" "placed" "I", Cond.fieldLink RX4 16 "StormroofModel" "builders" "I", Cond.methodLink RX4 122 yX4_countTurns, Cond.instanceMethod yX4_countTurns, Cond.selects RX4 yX4_countTurns yX4_countTurns, Cond.code yX4_countTurns cX4_countTurns 3 (some .int), Cond.fieldLink RX4 36 "StormroofModel" "winner" "I", Cond.methodLink RX4 113 yX4_nextTurn, Cond.instanceMethod yX4_nextTurn, Cond.selects RX4 yX4_nextTurn yX4_nextTurn, Cond.code yX4_nextTurn cX4_nextTurn 5 (some .int), Cond.methodLink RX4 54 yX4_cells, Cond.instanceMethod yX4_cells, Cond.selects RX4 yX4_cells yX4_cells, Cond.code yX4_cells cX4_cells 1 (some .int), Cond.fieldLink RX4 7 "StormroofModel" "rows" "I", Cond.fieldLink RX4 13 "StormroofModel" "columns" "I", Cond.methodLink RX4 98 yX4_canCome, Cond.instanceMethod yX4_canCome]
def wsX4_turnAt_r2 : List Cond := [Cond.selects RX4 yX4_canCome yX4_canCome, Cond.code yX4_canCome cX4_canCome 9 (some .boolean), Cond.fieldLink RX4 26 "StormroofModel" "at" "[I", Cond.fieldLink RX4 29 "StormroofModel" "movers" "[I", Cond.fieldLink RX4 19 "StormroofModel" "powers" "[I", Cond.methodLink RX4 86 yX4_isStep, Cond.instanceMethod yX4_isStep, Cond.selects RX4 yX4_isStep yX4_isStep, Cond.code yX4_isStep cX4_isStep 5 (some .boolean), Cond.fieldLink RX4 32 "StormroofModel" "hasClimbed" "[Z", Cond.methodLink RX4 72 yX4_high, Cond.instanceMethod yX4_high, Cond.selects RX4 yX4_high yX4_high, Cond.code yX4_high cX4_high 3 (some .int), Cond.fieldLink RX4 23 "StormroofModel" "heights" "[I", Cond.methodLink RX4 76 yX4_areBeside, Cond.instanceMethod yX4_areBeside, Cond.selects RX4 yX4_areBeside yX4_areBeside, Cond.code yX4_areBeside cX4_areBeside 5 (some .boolean), Cond.methodLink RX4 58 yX4_in, Cond.static yX4_in, Cond.code yX4_in cX4_in 3 (some .boolean), Cond.methodLink RX4 89 yX4_mayEnter, Cond.instanceMethod yX4_mayEnter]
def wsX4_turnAt_r3 : List Cond := [Cond.selects RX4 yX4_mayEnter yX4_mayEnter, Cond.code yX4_mayEnter cX4_mayEnter 7 (some .boolean), Cond.methodLink RX4 80 yX4_builderIn, Cond.instanceMethod yX4_builderIn, Cond.selects RX4 yX4_builderIn yX4_builderIn, Cond.code yX4_builderIn cX4_builderIn 5 (some .int), Cond.methodLink RX4 83 yX4_beyond, Cond.instanceMethod yX4_beyond, Cond.selects RX4 yX4_beyond yX4_beyond, Cond.code yX4_beyond cX4_beyond 5 (some .int), Cond.methodLink RX4 92 yX4_isWinning, Cond.instanceMethod yX4_isWinning, Cond.selects RX4 yX4_isWinning yX4_isWinning, Cond.code yX4_isWinning cX4_isWinning 5 (some .boolean), Cond.methodLink RX4 106 yX4_isTurn, Cond.instanceMethod yX4_isTurn, Cond.selects RX4 yX4_isTurn yX4_isTurn, Cond.code yX4_isTurn cX4_isTurn 9 (some .boolean), Cond.methodLink RX4 95 yX4_isCell, Cond.instanceMethod yX4_isCell, Cond.selects RX4 yX4_isCell yX4_isCell, Cond.code yX4_isCell cX4_isCell 2 (some .boolean), Cond.methodLink RX4 102 yX4_canBuild, Cond.instanceMethod yX4_canBuild]
def wsX4_turnAt_r4 : List Cond := [Cond.selects RX4 yX4_canBuild yX4_canBuild, Cond.code yX4_canBuild cX4_canBuild 8 (some .boolean), Cond.methodLink RX4 68 yX4_goesWell, Cond.instanceMethod yX4_goesWell, Cond.selects RX4 yX4_goesWell yX4_goesWell, Cond.code yX4_goesWell cX4_goesWell 2 (some .boolean), Cond.fieldLink RX4 51 "StormroofModel" "thrown" "I"]
def wsX4_turnAt : List Cond := .code yX4_turnAt cX4_turnAt 5 (some .int) :: ((wsX4_turnAt_r1 ++ (wsX4_turnAt_r2 ++ (wsX4_turnAt_r3 ++ wsX4_turnAt_r4))) ++ wsX40)
def wsX4_keep : List Cond := .code yX4_keep cX4_keep 2 none :: ([.fieldLink RX4 39 "StormroofModel" "kept" "[I", .fieldLink RX4 65 "StormroofModel" "played" "I", .fieldLink RX4 23 "StormroofModel" "heights" "[I", .fieldLink RX4 26 "StormroofModel" "at" "[I", .fieldLink RX4 32 "StormroofModel" "hasClimbed" "[Z"] ++ wsX40)
def wsX4_play_r1 : List Cond := [Cond.fieldLink RX4 36 "StormroofModel" "winner" "I", Cond.fieldLink RX4 65 "StormroofModel" "played" "I", Cond.fieldLink RX4 29 "StormroofModel" "movers" "[I", Cond.methodLink RX4 109 yX4_isPlaced, Cond.instanceMethod yX4_isPlaced, Cond.selects RX4 yX4_isPlaced yX4_isPlaced, Cond.initialized RX4, Cond.code yX4_isPlaced cX4_isPlaced 1 (some .boolean), Cond.fieldLink RX4 62 "StormroofModel" "placed" "I", Cond.fieldLink RX4 16 "StormroofModel" "builders" "I", Cond.methodLink RX4 106 yX4_isTurn, Cond.instanceMethod yX4_isTurn, Cond.selects RX4 yX4_isTurn yX4_isTurn, Cond.code yX4_isTurn cX4_isTurn 9 (some .boolean), Cond.fieldLink RX4 26 "StormroofModel" "at" "[I", Cond.methodLink RX4 95 yX4_isCell, Cond.instanceMethod yX4_isCell, Cond.selects RX4 yX4_isCell yX4_isCell, Cond.code yX4_isCell cX4_isCell 2 (some .boolean), Cond.methodLink RX4 54 yX4_cells, Cond.instanceMethod yX4_cells, Cond.selects RX4 yX4_cells yX4_cells, Cond.code yX4_cells cX4_cells 1 (some .int), Cond.fieldLink RX4 7 "StormroofModel" "rows" "I"]
def wsX4_play_r2 : List Cond := [Cond.fieldLink RX4 13 "StormroofModel" "columns" "I", Cond.methodLink RX4 58 yX4_in, Cond.static yX4_in, Cond.code yX4_in cX4_in 3 (some .boolean), Cond.methodLink RX4 98 yX4_canCome, Cond.instanceMethod yX4_canCome, Cond.selects RX4 yX4_canCome yX4_canCome, Cond.code yX4_canCome cX4_canCome 9 (some .boolean), Cond.fieldLink RX4 19 "StormroofModel" "powers" "[I", Cond.methodLink RX4 86 yX4_isStep, Cond.instanceMethod yX4_isStep, Cond.selects RX4 yX4_isStep yX4_isStep, Cond.code yX4_isStep cX4_isStep 5 (some .boolean), Cond.fieldLink RX4 32 "StormroofModel" "hasClimbed" "[Z", Cond.methodLink RX4 72 yX4_high, Cond.instanceMethod yX4_high, Cond.selects RX4 yX4_high yX4_high, Cond.code yX4_high cX4_high 3 (some .int), Cond.fieldLink RX4 23 "StormroofModel" "heights" "[I", Cond.methodLink RX4 76 yX4_areBeside, Cond.instanceMethod yX4_areBeside, Cond.selects RX4 yX4_areBeside yX4_areBeside, Cond.code yX4_areBeside cX4_areBeside 5 (some .boolean), Cond.methodLink RX4 89 yX4_mayEnter]
def wsX4_play_r3 : List Cond := [Cond.instanceMethod yX4_mayEnter, Cond.selects RX4 yX4_mayEnter yX4_mayEnter, Cond.code yX4_mayEnter cX4_mayEnter 7 (some .boolean), Cond.methodLink RX4 80 yX4_builderIn, Cond.instanceMethod yX4_builderIn, Cond.selects RX4 yX4_builderIn yX4_builderIn, Cond.code yX4_builderIn cX4_builderIn 5 (some .int), Cond.methodLink RX4 83 yX4_beyond, Cond.instanceMethod yX4_beyond, Cond.selects RX4 yX4_beyond yX4_beyond, Cond.code yX4_beyond cX4_beyond 5 (some .int), Cond.methodLink RX4 92 yX4_isWinning, Cond.instanceMethod yX4_isWinning, Cond.selects RX4 yX4_isWinning yX4_isWinning, Cond.code yX4_isWinning cX4_isWinning 5 (some .boolean), Cond.methodLink RX4 102 yX4_canBuild, Cond.instanceMethod yX4_canBuild, Cond.selects RX4 yX4_canBuild yX4_canBuild, Cond.code yX4_canBuild cX4_canBuild 8 (some .boolean), Cond.methodLink RX4 68 yX4_goesWell, Cond.instanceMethod yX4_goesWell, Cond.selects RX4 yX4_goesWell yX4_goesWell, Cond.code yX4_goesWell cX4_goesWell 2 (some .boolean), Cond.fieldLink RX4 51 "StormroofModel" "thrown" "I"]
def wsX4_play_r4 : List Cond := [Cond.methodLink RX4 125 yX4_keep, Cond.instanceMethod yX4_keep, Cond.selects RX4 yX4_keep yX4_keep, Cond.code yX4_keep cX4_keep 2 none, Cond.fieldLink RX4 39 "StormroofModel" "kept" "[I", Cond.methodLink RX4 128 yX4_act, Cond.instanceMethod yX4_act, Cond.selects RX4 yX4_act yX4_act, Cond.code yX4_act cX4_act 9 none, Cond.methodLink RX4 116 yX4_judge, Cond.instanceMethod yX4_judge, Cond.selects RX4 yX4_judge yX4_judge, Cond.code yX4_judge cX4_judge 1 none, Cond.methodLink RX4 113 yX4_nextTurn, Cond.instanceMethod yX4_nextTurn, Cond.selects RX4 yX4_nextTurn yX4_nextTurn, Cond.code yX4_nextTurn cX4_nextTurn 5 (some .int)]
def wsX4_play : List Cond := .code yX4_play cX4_play 2 (some .int) :: ((wsX4_play_r1 ++ (wsX4_play_r2 ++ (wsX4_play_r3 ++ wsX4_play_r4))) ++ wsX40)
def wsX4_takeBack : List Cond := .code yX4_takeBack cX4_takeBack 2 (some .int) :: ([.fieldLink RX4 65 "StormroofModel" "played" "I", .fieldLink RX4 23 "StormroofModel" "heights" "[I", .fieldLink RX4 39 "StormroofModel" "kept" "[I", .fieldLink RX4 26 "StormroofModel" "at" "[I", .fieldLink RX4 32 "StormroofModel" "hasClimbed" "[Z", .fieldLink RX4 29 "StormroofModel" "movers" "[I", .fieldLink RX4 36 "StormroofModel" "winner" "I", .methodLink RX4 68 yX4_goesWell, .instanceMethod yX4_goesWell, .selects RX4 yX4_goesWell yX4_goesWell, .initialized RX4, .code yX4_goesWell cX4_goesWell 2 (some .boolean), .fieldLink RX4 51 "StormroofModel" "thrown" "I"] ++ wsX40)
def wsX4_open : List Cond := .code yX4_open cX4_open 2 none :: ([.fieldLink RX4 42 "StormroofModel" "numbers" "[I", .fieldLink RX4 45 "StormroofModel" "bests" "[I"] ++ wsX40)
def wsX4_take : List Cond := .code yX4_take cX4_take 3 none :: ([.fieldLink RX4 45 "StormroofModel" "bests" "[I", .fieldLink RX4 42 "StormroofModel" "numbers" "[I", .fieldLink RX4 132 "StormroofModel" "found" "I"] ++ wsX40)
def wsX4_look_r1 : List Cond := [Cond.fieldLink RX4 45 "StormroofModel" "bests" "[I", Cond.fieldLink RX4 42 "StormroofModel" "numbers" "[I", Cond.methodLink RX4 135 yX4_open, Cond.instanceMethod yX4_open, Cond.selects RX4 yX4_open yX4_open, Cond.initialized RX4, Cond.code yX4_open cX4_open 2 none, Cond.methodLink RX4 113 yX4_nextTurn, Cond.instanceMethod yX4_nextTurn, Cond.selects RX4 yX4_nextTurn yX4_nextTurn, Cond.code yX4_nextTurn cX4_nextTurn 5 (some .int), Cond.fieldLink RX4 16 "StormroofModel" "builders" "I", Cond.methodLink RX4 54 yX4_cells, Cond.instanceMethod yX4_cells, Cond.selects RX4 yX4_cells yX4_cells, Cond.code yX4_cells cX4_cells 1 (some .int), Cond.fieldLink RX4 7 "StormroofModel" "rows" "I", Cond.fieldLink RX4 13 "StormroofModel" "columns" "I", Cond.methodLink RX4 98 yX4_canCome, Cond.instanceMethod yX4_canCome, Cond.selects RX4 yX4_canCome yX4_canCome, Cond.code yX4_canCome cX4_canCome 9 (some .boolean), Cond.fieldLink RX4 26 "StormroofModel" "at" "[I", Cond.fieldLink RX4 29 "StormroofModel" "movers" "[I"]
def wsX4_look_r2 : List Cond := [Cond.fieldLink RX4 19 "StormroofModel" "powers" "[I", Cond.methodLink RX4 86 yX4_isStep, Cond.instanceMethod yX4_isStep, Cond.selects RX4 yX4_isStep yX4_isStep, Cond.code yX4_isStep cX4_isStep 5 (some .boolean), Cond.fieldLink RX4 32 "StormroofModel" "hasClimbed" "[Z", Cond.methodLink RX4 72 yX4_high, Cond.instanceMethod yX4_high, Cond.selects RX4 yX4_high yX4_high, Cond.code yX4_high cX4_high 3 (some .int), Cond.fieldLink RX4 23 "StormroofModel" "heights" "[I", Cond.methodLink RX4 76 yX4_areBeside, Cond.instanceMethod yX4_areBeside, Cond.selects RX4 yX4_areBeside yX4_areBeside, Cond.code yX4_areBeside cX4_areBeside 5 (some .boolean), Cond.methodLink RX4 58 yX4_in, Cond.static yX4_in, Cond.code yX4_in cX4_in 3 (some .boolean), Cond.methodLink RX4 89 yX4_mayEnter, Cond.instanceMethod yX4_mayEnter, Cond.selects RX4 yX4_mayEnter yX4_mayEnter, Cond.code yX4_mayEnter cX4_mayEnter 7 (some .boolean), Cond.methodLink RX4 80 yX4_builderIn, Cond.instanceMethod yX4_builderIn]
def wsX4_look_r3 : List Cond := [Cond.selects RX4 yX4_builderIn yX4_builderIn, Cond.code yX4_builderIn cX4_builderIn 5 (some .int), Cond.methodLink RX4 83 yX4_beyond, Cond.instanceMethod yX4_beyond, Cond.selects RX4 yX4_beyond yX4_beyond, Cond.code yX4_beyond cX4_beyond 5 (some .int), Cond.methodLink RX4 92 yX4_isWinning, Cond.instanceMethod yX4_isWinning, Cond.selects RX4 yX4_isWinning yX4_isWinning, Cond.code yX4_isWinning cX4_isWinning 5 (some .boolean), Cond.methodLink RX4 106 yX4_isTurn, Cond.instanceMethod yX4_isTurn, Cond.selects RX4 yX4_isTurn yX4_isTurn, Cond.code yX4_isTurn cX4_isTurn 9 (some .boolean), Cond.methodLink RX4 95 yX4_isCell, Cond.instanceMethod yX4_isCell, Cond.selects RX4 yX4_isCell yX4_isCell, Cond.code yX4_isCell cX4_isCell 2 (some .boolean), Cond.methodLink RX4 102 yX4_canBuild, Cond.instanceMethod yX4_canBuild, Cond.selects RX4 yX4_canBuild yX4_canBuild, Cond.code yX4_canBuild cX4_canBuild 8 (some .boolean), Cond.methodLink RX4 139 yX4_take, Cond.instanceMethod yX4_take]
def wsX4_look_r4 : List Cond := [Cond.selects RX4 yX4_take yX4_take, Cond.code yX4_take cX4_take 3 none, Cond.fieldLink RX4 132 "StormroofModel" "found" "I", Cond.methodLink RX4 142 yX4_copy, Cond.instanceMethod yX4_copy, Cond.selects RX4 yX4_copy yX4_copy, Cond.code yX4_copy cX4_copy 4 none, Cond.methodLink RX4 128 yX4_act, Cond.instanceMethod yX4_act, Cond.selects RX4 yX4_act yX4_act, Cond.code yX4_act cX4_act 9 none]
def wsX4_look : List Cond := .code yX4_look cX4_look 5 (some .int) :: ((wsX4_look_r1 ++ (wsX4_look_r2 ++ (wsX4_look_r3 ++ wsX4_look_r4))) ++ wsX40)
def wsX4_canLook : List Cond := .code yX4_canLook cX4_canLook 2 (some .boolean) :: ([.fieldLink RX4 36 "StormroofModel" "winner" "I", .methodLink RX4 109 yX4_isPlaced, .instanceMethod yX4_isPlaced, .selects RX4 yX4_isPlaced yX4_isPlaced, .initialized RX4, .code yX4_isPlaced cX4_isPlaced 1 (some .boolean), .fieldLink RX4 62 "StormroofModel" "placed" "I", .fieldLink RX4 16 "StormroofModel" "builders" "I", .methodLink RX4 54 yX4_cells, .instanceMethod yX4_cells, .selects RX4 yX4_cells yX4_cells, .code yX4_cells cX4_cells 1 (some .int), .fieldLink RX4 7 "StormroofModel" "rows" "I", .fieldLink RX4 13 "StormroofModel" "columns" "I"] ++ wsX40)
def wsX4_worth_r1 : List Cond := [Cond.methodLink RX4 58 yX4_in, Cond.static yX4_in, Cond.initialized RX4, Cond.code yX4_in cX4_in 3 (some .boolean), Cond.methodLink RX4 145 yX4_canLook, Cond.instanceMethod yX4_canLook, Cond.selects RX4 yX4_canLook yX4_canLook, Cond.code yX4_canLook cX4_canLook 2 (some .boolean), Cond.fieldLink RX4 36 "StormroofModel" "winner" "I", Cond.methodLink RX4 109 yX4_isPlaced, Cond.instanceMethod yX4_isPlaced, Cond.selects RX4 yX4_isPlaced yX4_isPlaced, Cond.code yX4_isPlaced cX4_isPlaced 1 (some .boolean), Cond.fieldLink RX4 62 "StormroofModel" "placed" "I", Cond.fieldLink RX4 16 "StormroofModel" "builders" "I", Cond.methodLink RX4 54 yX4_cells, Cond.instanceMethod yX4_cells, Cond.selects RX4 yX4_cells yX4_cells, Cond.code yX4_cells cX4_cells 1 (some .int), Cond.fieldLink RX4 7 "StormroofModel" "rows" "I", Cond.fieldLink RX4 13 "StormroofModel" "columns" "I", Cond.methodLink RX4 68 yX4_goesWell, Cond.instanceMethod yX4_goesWell, Cond.selects RX4 yX4_goesWell yX4_goesWell]
def wsX4_worth_r2 : List Cond := [Cond.code yX4_goesWell cX4_goesWell 2 (some .boolean), Cond.fieldLink RX4 51 "StormroofModel" "thrown" "I", Cond.methodLink RX4 148 yX4_look, Cond.instanceMethod yX4_look, Cond.selects RX4 yX4_look yX4_look, Cond.code yX4_look cX4_look 5 (some .int), Cond.fieldLink RX4 45 "StormroofModel" "bests" "[I", Cond.fieldLink RX4 42 "StormroofModel" "numbers" "[I", Cond.methodLink RX4 135 yX4_open, Cond.instanceMethod yX4_open, Cond.selects RX4 yX4_open yX4_open, Cond.code yX4_open cX4_open 2 none, Cond.methodLink RX4 113 yX4_nextTurn, Cond.instanceMethod yX4_nextTurn, Cond.selects RX4 yX4_nextTurn yX4_nextTurn, Cond.code yX4_nextTurn cX4_nextTurn 5 (some .int), Cond.methodLink RX4 98 yX4_canCome, Cond.instanceMethod yX4_canCome, Cond.selects RX4 yX4_canCome yX4_canCome, Cond.code yX4_canCome cX4_canCome 9 (some .boolean), Cond.fieldLink RX4 26 "StormroofModel" "at" "[I", Cond.fieldLink RX4 29 "StormroofModel" "movers" "[I", Cond.fieldLink RX4 19 "StormroofModel" "powers" "[I", Cond.methodLink RX4 86 yX4_isStep]
def wsX4_worth_r3 : List Cond := [Cond.instanceMethod yX4_isStep, Cond.selects RX4 yX4_isStep yX4_isStep, Cond.code yX4_isStep cX4_isStep 5 (some .boolean), Cond.fieldLink RX4 32 "StormroofModel" "hasClimbed" "[Z", Cond.methodLink RX4 72 yX4_high, Cond.instanceMethod yX4_high, Cond.selects RX4 yX4_high yX4_high, Cond.code yX4_high cX4_high 3 (some .int), Cond.fieldLink RX4 23 "StormroofModel" "heights" "[I", Cond.methodLink RX4 76 yX4_areBeside, Cond.instanceMethod yX4_areBeside, Cond.selects RX4 yX4_areBeside yX4_areBeside, Cond.code yX4_areBeside cX4_areBeside 5 (some .boolean), Cond.methodLink RX4 89 yX4_mayEnter, Cond.instanceMethod yX4_mayEnter, Cond.selects RX4 yX4_mayEnter yX4_mayEnter, Cond.code yX4_mayEnter cX4_mayEnter 7 (some .boolean), Cond.methodLink RX4 80 yX4_builderIn, Cond.instanceMethod yX4_builderIn, Cond.selects RX4 yX4_builderIn yX4_builderIn, Cond.code yX4_builderIn cX4_builderIn 5 (some .int), Cond.methodLink RX4 83 yX4_beyond, Cond.instanceMethod yX4_beyond, Cond.selects RX4 yX4_beyond yX4_beyond]
def wsX4_worth_r4 : List Cond := [Cond.code yX4_beyond cX4_beyond 5 (some .int), Cond.methodLink RX4 92 yX4_isWinning, Cond.instanceMethod yX4_isWinning, Cond.selects RX4 yX4_isWinning yX4_isWinning, Cond.code yX4_isWinning cX4_isWinning 5 (some .boolean), Cond.methodLink RX4 106 yX4_isTurn, Cond.instanceMethod yX4_isTurn, Cond.selects RX4 yX4_isTurn yX4_isTurn, Cond.code yX4_isTurn cX4_isTurn 9 (some .boolean), Cond.methodLink RX4 95 yX4_isCell, Cond.instanceMethod yX4_isCell, Cond.selects RX4 yX4_isCell yX4_isCell, Cond.code yX4_isCell cX4_isCell 2 (some .boolean), Cond.methodLink RX4 102 yX4_canBuild, Cond.instanceMethod yX4_canBuild, Cond.selects RX4 yX4_canBuild yX4_canBuild, Cond.code yX4_canBuild cX4_canBuild 8 (some .boolean), Cond.methodLink RX4 139 yX4_take, Cond.instanceMethod yX4_take, Cond.selects RX4 yX4_take yX4_take, Cond.code yX4_take cX4_take 3 none, Cond.fieldLink RX4 132 "StormroofModel" "found" "I", Cond.methodLink RX4 142 yX4_copy, Cond.instanceMethod yX4_copy]
def wsX4_worth_r5 : List Cond := [Cond.selects RX4 yX4_copy yX4_copy, Cond.code yX4_copy cX4_copy 4 none, Cond.methodLink RX4 128 yX4_act, Cond.instanceMethod yX4_act, Cond.selects RX4 yX4_act yX4_act, Cond.code yX4_act cX4_act 9 none]
def wsX4_worth : List Cond := .code yX4_worth cX4_worth 2 (some .int) :: ((wsX4_worth_r1 ++ (wsX4_worth_r2 ++ (wsX4_worth_r3 ++ (wsX4_worth_r4 ++ wsX4_worth_r5)))) ++ wsX40)
def wsX4_best_r1 : List Cond := [Cond.fieldLink RX4 132 "StormroofModel" "found" "I", Cond.methodLink RX4 58 yX4_in, Cond.static yX4_in, Cond.initialized RX4, Cond.code yX4_in cX4_in 3 (some .boolean), Cond.methodLink RX4 145 yX4_canLook, Cond.instanceMethod yX4_canLook, Cond.selects RX4 yX4_canLook yX4_canLook, Cond.code yX4_canLook cX4_canLook 2 (some .boolean), Cond.fieldLink RX4 36 "StormroofModel" "winner" "I", Cond.methodLink RX4 109 yX4_isPlaced, Cond.instanceMethod yX4_isPlaced, Cond.selects RX4 yX4_isPlaced yX4_isPlaced, Cond.code yX4_isPlaced cX4_isPlaced 1 (some .boolean), Cond.fieldLink RX4 62 "StormroofModel" "placed" "I", Cond.fieldLink RX4 16 "StormroofModel" "builders" "I", Cond.methodLink RX4 54 yX4_cells, Cond.instanceMethod yX4_cells, Cond.selects RX4 yX4_cells yX4_cells, Cond.code yX4_cells cX4_cells 1 (some .int), Cond.fieldLink RX4 7 "StormroofModel" "rows" "I", Cond.fieldLink RX4 13 "StormroofModel" "columns" "I", Cond.methodLink RX4 68 yX4_goesWell, Cond.instanceMethod yX4_goesWell]
def wsX4_best_r2 : List Cond := [Cond.selects RX4 yX4_goesWell yX4_goesWell, Cond.code yX4_goesWell cX4_goesWell 2 (some .boolean), Cond.fieldLink RX4 51 "StormroofModel" "thrown" "I", Cond.methodLink RX4 148 yX4_look, Cond.instanceMethod yX4_look, Cond.selects RX4 yX4_look yX4_look, Cond.code yX4_look cX4_look 5 (some .int), Cond.fieldLink RX4 45 "StormroofModel" "bests" "[I", Cond.fieldLink RX4 42 "StormroofModel" "numbers" "[I", Cond.methodLink RX4 135 yX4_open, Cond.instanceMethod yX4_open, Cond.selects RX4 yX4_open yX4_open, Cond.code yX4_open cX4_open 2 none, Cond.methodLink RX4 113 yX4_nextTurn, Cond.instanceMethod yX4_nextTurn, Cond.selects RX4 yX4_nextTurn yX4_nextTurn, Cond.code yX4_nextTurn cX4_nextTurn 5 (some .int), Cond.methodLink RX4 98 yX4_canCome, Cond.instanceMethod yX4_canCome, Cond.selects RX4 yX4_canCome yX4_canCome, Cond.code yX4_canCome cX4_canCome 9 (some .boolean), Cond.fieldLink RX4 26 "StormroofModel" "at" "[I", Cond.fieldLink RX4 29 "StormroofModel" "movers" "[I", Cond.fieldLink RX4 19 "StormroofModel" "powers" "[I"]
def wsX4_best_r3 : List Cond := [Cond.methodLink RX4 86 yX4_isStep, Cond.instanceMethod yX4_isStep, Cond.selects RX4 yX4_isStep yX4_isStep, Cond.code yX4_isStep cX4_isStep 5 (some .boolean), Cond.fieldLink RX4 32 "StormroofModel" "hasClimbed" "[Z", Cond.methodLink RX4 72 yX4_high, Cond.instanceMethod yX4_high, Cond.selects RX4 yX4_high yX4_high, Cond.code yX4_high cX4_high 3 (some .int), Cond.fieldLink RX4 23 "StormroofModel" "heights" "[I", Cond.methodLink RX4 76 yX4_areBeside, Cond.instanceMethod yX4_areBeside, Cond.selects RX4 yX4_areBeside yX4_areBeside, Cond.code yX4_areBeside cX4_areBeside 5 (some .boolean), Cond.methodLink RX4 89 yX4_mayEnter, Cond.instanceMethod yX4_mayEnter, Cond.selects RX4 yX4_mayEnter yX4_mayEnter, Cond.code yX4_mayEnter cX4_mayEnter 7 (some .boolean), Cond.methodLink RX4 80 yX4_builderIn, Cond.instanceMethod yX4_builderIn, Cond.selects RX4 yX4_builderIn yX4_builderIn, Cond.code yX4_builderIn cX4_builderIn 5 (some .int), Cond.methodLink RX4 83 yX4_beyond, Cond.instanceMethod yX4_beyond]
def wsX4_best_r4 : List Cond := [Cond.selects RX4 yX4_beyond yX4_beyond, Cond.code yX4_beyond cX4_beyond 5 (some .int), Cond.methodLink RX4 92 yX4_isWinning, Cond.instanceMethod yX4_isWinning, Cond.selects RX4 yX4_isWinning yX4_isWinning, Cond.code yX4_isWinning cX4_isWinning 5 (some .boolean), Cond.methodLink RX4 106 yX4_isTurn, Cond.instanceMethod yX4_isTurn, Cond.selects RX4 yX4_isTurn yX4_isTurn, Cond.code yX4_isTurn cX4_isTurn 9 (some .boolean), Cond.methodLink RX4 95 yX4_isCell, Cond.instanceMethod yX4_isCell, Cond.selects RX4 yX4_isCell yX4_isCell, Cond.code yX4_isCell cX4_isCell 2 (some .boolean), Cond.methodLink RX4 102 yX4_canBuild, Cond.instanceMethod yX4_canBuild, Cond.selects RX4 yX4_canBuild yX4_canBuild, Cond.code yX4_canBuild cX4_canBuild 8 (some .boolean), Cond.methodLink RX4 139 yX4_take, Cond.instanceMethod yX4_take, Cond.selects RX4 yX4_take yX4_take, Cond.code yX4_take cX4_take 3 none, Cond.methodLink RX4 142 yX4_copy, Cond.instanceMethod yX4_copy]
def wsX4_best_r5 : List Cond := [Cond.selects RX4 yX4_copy yX4_copy, Cond.code yX4_copy cX4_copy 4 none, Cond.methodLink RX4 128 yX4_act, Cond.instanceMethod yX4_act, Cond.selects RX4 yX4_act yX4_act, Cond.code yX4_act cX4_act 9 none]
def wsX4_best : List Cond := .code yX4_best cX4_best 3 (some .int) :: ((wsX4_best_r1 ++ (wsX4_best_r2 ++ (wsX4_best_r3 ++ (wsX4_best_r4 ++ wsX4_best_r5)))) ++ wsX40)
def wsX4_reached : List Cond := .code yX4_reached cX4_reached 5 (some .int) :: ([.fieldLink RX4 26 "StormroofModel" "at" "[I", .fieldLink RX4 23 "StormroofModel" "heights" "[I", .methodLink RX4 58 yX4_in, .static yX4_in, .initialized RX4, .code yX4_in cX4_in 3 (some .boolean), .methodLink RX4 68 yX4_goesWell, .instanceMethod yX4_goesWell, .selects RX4 yX4_goesWell yX4_goesWell, .code yX4_goesWell cX4_goesWell 2 (some .boolean), .fieldLink RX4 51 "StormroofModel" "thrown" "I"] ++ wsX40)
def wsJ9_max_7cf53 : List Cond := .code yJ9_max_7cf53 cJ9_max_7cf53 2 (some .int) :: ([])
def wsL_begin_r1 : List Cond := [Cond.classLink RL 13 "java/lang/IllegalArgumentException", Cond.methodLink RL 7 yX3_begin, Cond.instanceMethod yX3_begin, Cond.selects RX3 yX3_begin yX3_begin, Cond.initialized RX3, Cond.code yX3_begin cX3_begin 6 (some .int), Cond.classLink RX3 38 "java/lang/IllegalArgumentException", Cond.initialized "java/lang/IllegalArgumentException", Cond.fieldLink RX3 12 "Stormroof" "board" "LStormroof$Board;", Cond.methodLink RX3 34 yX3_isOutside, Cond.static yX3_isOutside, Cond.code yX3_isOutside cX3_isOutside 3 (some .boolean), Cond.methodLink RX3 30 yX0_start, Cond.instanceMethod yX0_start, Cond.selects RX0 yX0_start yX0_start, Cond.initialized RX0, Cond.code yX0_start cX0_start 8 none, Cond.fieldLink RX0 27 "Stormroof$Board" "cells" "I", Cond.fieldLink RX0 31 "Stormroof$Board" "builders" "I", Cond.fieldLink RX0 34 "Stormroof$Board" "firstPower" "I", Cond.fieldLink RX0 37 "Stormroof$Board" "secondPower" "I", Cond.fieldLink RX0 40 "Stormroof$Board" "placed" "I", Cond.fieldLink RX0 43 "Stormroof$Board" "turnsPlayed" "I", Cond.fieldLink RX0 46 "Stormroof$Board" "victor" "I"]
def wsL_begin_r2 : List Cond := [Cond.fieldLink RX0 49 "Stormroof$Board" "climbingBarred" "Z", Cond.fieldLink RX0 15 "Stormroof$Board" "storeys" "[I", Cond.fieldLink RX0 18 "Stormroof$Board" "holders" "[I", Cond.fieldLink RX0 21 "Stormroof$Board" "spots" "[I", Cond.methodLink RX0 53 yJ7_fill_53178, Cond.static yJ7_fill_53178, Cond.initialized RJ7, Cond.code yJ7_fill_53178 cJ7_fill_53178 4 none, Cond.methodLink RX0 59 yX0_joinNeighbours, Cond.instanceMethod yX0_joinNeighbours, Cond.selects RX0 yX0_joinNeighbours yX0_joinNeighbours, Cond.code yX0_joinNeighbours cX0_joinNeighbours 10 none, Cond.fieldLink RX0 63 "Stormroof$Board" "DOWN" "[I", Cond.fieldLink RX0 66 "Stormroof$Board" "ACROSS" "[I", Cond.fieldLink RX0 11 "Stormroof$Board" "neighbours" "[I"]
def wsL_begin : List Cond := .codeWith yL_begin cL_begin 8 (some .int) [(0, 16, 19, 13)] :: ((wsL_begin_r1 ++ wsL_begin_r2) ++ wsX30 ++ wsX00 ++ (vx_atS RX3 42 "java/lang/IllegalArgumentException" ["java/lang/RuntimeException", "java/lang/Exception"]).filter goodWord)
def wsL_place_r1 : List Cond := [Cond.classLink RL 19 "java/lang/IndexOutOfBoundsException", Cond.classLink RL 21 "java/lang/IllegalStateException", Cond.methodLink RL 15 yX3_place, Cond.instanceMethod yX3_place, Cond.selects RX3 yX3_place yX3_place, Cond.initialized RX3, Cond.code yX3_place cX3_place 2 (some .int), Cond.classLink RX3 65 "java/lang/IllegalStateException", Cond.initialized "java/lang/IllegalStateException", Cond.fieldLink RX3 12 "Stormroof" "board" "LStormroof$Board;", Cond.methodLink RX3 53 yX3_requireCell, Cond.instanceMethod yX3_requireCell, Cond.selects RX3 yX3_requireCell yX3_requireCell, Cond.code yX3_requireCell cX3_requireCell 2 none, Cond.classLink RX3 108 "java/lang/IndexOutOfBoundsException", Cond.initialized "java/lang/IndexOutOfBoundsException", Cond.methodLink RX3 34 yX3_isOutside, Cond.static yX3_isOutside, Cond.code yX3_isOutside cX3_isOutside 3 (some .boolean), Cond.methodLink RX3 57 yX0_isSet, Cond.instanceMethod yX0_isSet, Cond.selects RX0 yX0_isSet yX0_isSet, Cond.initialized RX0, Cond.code yX0_isSet cX0_isSet 1 (some .boolean)]
def wsL_place_r2 : List Cond := [Cond.fieldLink RX0 40 "Stormroof$Board" "placed" "I", Cond.fieldLink RX0 31 "Stormroof$Board" "builders" "I", Cond.methodLink RX3 61 yX0_isOpen, Cond.instanceMethod yX0_isOpen, Cond.selects RX0 yX0_isOpen yX0_isOpen, Cond.code yX0_isOpen cX0_isOpen 2 (some .boolean), Cond.fieldLink RX0 18 "Stormroof$Board" "holders" "[I", Cond.fieldLink RX0 15 "Stormroof$Board" "storeys" "[I", Cond.methodLink RX3 70 yX0_addBuilder, Cond.instanceMethod yX0_addBuilder, Cond.selects RX0 yX0_addBuilder yX0_addBuilder, Cond.code yX0_addBuilder cX0_addBuilder 4 none, Cond.fieldLink RX0 46 "Stormroof$Board" "victor" "I", Cond.methodLink RX0 81 yX0_put, Cond.instanceMethod yX0_put, Cond.selects RX0 yX0_put yX0_put, Cond.code yX0_put cX0_put 4 none, Cond.fieldLink RX0 21 "Stormroof$Board" "spots" "[I", Cond.methodLink RX0 69 yX0_isSet, Cond.methodLink RX0 85 yX0_hasTurn, Cond.instanceMethod yX0_hasTurn, Cond.selects RX0 yX0_hasTurn yX0_hasTurn, Cond.code yX0_hasTurn cX0_hasTurn 7 (some .boolean), Cond.methodLink RX0 73 yX0_spotOf]
def wsL_place_r3 : List Cond := [Cond.instanceMethod yX0_spotOf, Cond.selects RX0 yX0_spotOf yX0_spotOf, Cond.code yX0_spotOf cX0_spotOf 4 (some .int), Cond.methodLink RX0 137 yX0_stepOf, Cond.instanceMethod yX0_stepOf, Cond.selects RX0 yX0_stepOf yX0_stepOf, Cond.code yX0_stepOf cX0_stepOf 8 (some .long), Cond.fieldLink RX0 49 "Stormroof$Board" "climbingBarred" "Z", Cond.methodLink RX0 141 yX0_neighbourOf, Cond.instanceMethod yX0_neighbourOf, Cond.selects RX0 yX0_neighbourOf yX0_neighbourOf, Cond.code yX0_neighbourOf cX0_neighbourOf 4 (some .int), Cond.fieldLink RX0 11 "Stormroof$Board" "neighbours" "[I", Cond.methodLink RX0 77 yX0_storeysOf, Cond.instanceMethod yX0_storeysOf, Cond.selects RX0 yX0_storeysOf yX0_storeysOf, Cond.code yX0_storeysOf cX0_storeysOf 2 (some .int), Cond.methodLink RX0 148 yX0_canEnter, Cond.instanceMethod yX0_canEnter, Cond.selects RX0 yX0_canEnter yX0_canEnter, Cond.code yX0_canEnter cX0_canEnter 5 (some .boolean), Cond.methodLink RX0 132 yX0_holderOf, Cond.instanceMethod yX0_holderOf, Cond.selects RX0 yX0_holderOf yX0_holderOf]
def wsL_place_r4 : List Cond := [Cond.code yX0_holderOf cX0_holderOf 2 (some .int), Cond.methodLink RX0 151 yX0_isOpen, Cond.methodLink RX0 117 yX0_powerOf, Cond.instanceMethod yX0_powerOf, Cond.selects RX0 yX0_powerOf yX0_powerOf, Cond.code yX0_powerOf cX0_powerOf 2 (some .int), Cond.fieldLink RX0 34 "Stormroof$Board" "firstPower" "I", Cond.fieldLink RX0 37 "Stormroof$Board" "secondPower" "I", Cond.methodLink RX0 144 yX0_canBuild, Cond.instanceMethod yX0_canBuild, Cond.selects RX0 yX0_canBuild yX0_canBuild, Cond.code yX0_canBuild cX0_canBuild 6 (some .boolean), Cond.methodLink RX0 109 yX0_asideOf, Cond.instanceMethod yX0_asideOf, Cond.selects RX0 yX0_asideOf yX0_asideOf, Cond.code yX0_asideOf cX0_asideOf 4 (some .int), Cond.methodLink RX0 154 yX0_isOpenBehind, Cond.instanceMethod yX0_isOpenBehind, Cond.selects RX0 yX0_isOpenBehind yX0_isOpenBehind, Cond.code yX0_isOpenBehind cX0_isOpenBehind 4 (some .boolean), Cond.methodLink RX3 73 yX0_mover, Cond.instanceMethod yX0_mover, Cond.selects RX0 yX0_mover yX0_mover, Cond.code yX0_mover cX0_mover 1 (some .int)]
def wsL_place_r5 : List Cond := [Cond.fieldLink RX0 43 "Stormroof$Board" "turnsPlayed" "I"]
def wsL_place : List Cond := .codeWith yL_place cL_place 4 (some .int) [(0, 9, 12, 19), (0, 9, 15, 21)] :: ((wsL_place_r1 ++ (wsL_place_r2 ++ (wsL_place_r3 ++ (wsL_place_r4 ++ wsL_place_r5)))) ++ wsX30 ++ wsX00 ++ (vx_atS RX3 69 "java/lang/IllegalStateException" ["java/lang/RuntimeException", "java/lang/Exception"]).filter goodWord ++ (vx_atS RX3 112 "java/lang/IndexOutOfBoundsException" ["java/lang/RuntimeException", "java/lang/Exception"]).filter goodWord)
def wsL_raise_r1 : List Cond := [Cond.classLink RL 19 "java/lang/IndexOutOfBoundsException", Cond.classLink RL 13 "java/lang/IllegalArgumentException", Cond.classLink RL 21 "java/lang/IllegalStateException", Cond.methodLink RL 23 yX3_raise, Cond.instanceMethod yX3_raise, Cond.selects RX3 yX3_raise yX3_raise, Cond.initialized RX3, Cond.code yX3_raise cX3_raise 4 (some .int), Cond.classLink RX3 38 "java/lang/IllegalArgumentException", Cond.initialized "java/lang/IllegalArgumentException", Cond.classLink RX3 65 "java/lang/IllegalStateException", Cond.initialized "java/lang/IllegalStateException", Cond.fieldLink RX3 12 "Stormroof" "board" "LStormroof$Board;", Cond.methodLink RX3 53 yX3_requireCell, Cond.instanceMethod yX3_requireCell, Cond.selects RX3 yX3_requireCell yX3_requireCell, Cond.code yX3_requireCell cX3_requireCell 2 none, Cond.classLink RX3 108 "java/lang/IndexOutOfBoundsException", Cond.initialized "java/lang/IndexOutOfBoundsException", Cond.methodLink RX3 34 yX3_isOutside, Cond.static yX3_isOutside, Cond.code yX3_isOutside cX3_isOutside 3 (some .boolean), Cond.methodLink RX3 57 yX0_isSet, Cond.instanceMethod yX0_isSet]
def wsL_raise_r2 : List Cond := [Cond.selects RX0 yX0_isSet yX0_isSet, Cond.initialized RX0, Cond.code yX0_isSet cX0_isSet 1 (some .boolean), Cond.fieldLink RX0 40 "Stormroof$Board" "placed" "I", Cond.fieldLink RX0 31 "Stormroof$Board" "builders" "I", Cond.methodLink RX3 79 yX0_holderOf, Cond.instanceMethod yX0_holderOf, Cond.selects RX0 yX0_holderOf yX0_holderOf, Cond.code yX0_holderOf cX0_holderOf 2 (some .int), Cond.fieldLink RX0 18 "Stormroof$Board" "holders" "[I", Cond.methodLink RX3 85 yX0_storeysOf, Cond.instanceMethod yX0_storeysOf, Cond.selects RX0 yX0_storeysOf yX0_storeysOf, Cond.code yX0_storeysOf cX0_storeysOf 2 (some .int), Cond.fieldLink RX0 15 "Stormroof$Board" "storeys" "[I", Cond.methodLink RX3 88 yX0_setStoreys, Cond.instanceMethod yX0_setStoreys, Cond.selects RX0 yX0_setStoreys yX0_setStoreys, Cond.code yX0_setStoreys cX0_setStoreys 3 none]
def wsL_raise : List Cond := .codeWith yL_raise cL_raise 5 (some .int) [(0, 10, 13, 19), (0, 10, 17, 13), (0, 10, 21, 21)] :: ((wsL_raise_r1 ++ wsL_raise_r2) ++ wsX30 ++ wsX00 ++ (vx_atS RX3 42 "java/lang/IllegalArgumentException" ["java/lang/RuntimeException", "java/lang/Exception"]).filter goodWord ++ (vx_atS RX3 69 "java/lang/IllegalStateException" ["java/lang/RuntimeException", "java/lang/Exception"]).filter goodWord ++ (vx_atS RX3 112 "java/lang/IndexOutOfBoundsException" ["java/lang/RuntimeException", "java/lang/Exception"]).filter goodWord)
def wsL_height : List Cond := .codeWith yL_height cL_height 4 (some .int) [(0, 9, 12, 19)] :: ([.classLink RL 19 "java/lang/IndexOutOfBoundsException", .methodLink RL 27 yX3_height, .instanceMethod yX3_height, .selects RX3 yX3_height yX3_height, .initialized RX3, .code yX3_height cX3_height 2 (some .int), .fieldLink RX3 12 "Stormroof" "board" "LStormroof$Board;", .methodLink RX3 53 yX3_requireCell, .instanceMethod yX3_requireCell, .selects RX3 yX3_requireCell yX3_requireCell, .code yX3_requireCell cX3_requireCell 2 none, .classLink RX3 108 "java/lang/IndexOutOfBoundsException", .initialized "java/lang/IndexOutOfBoundsException", .methodLink RX3 34 yX3_isOutside, .static yX3_isOutside, .code yX3_isOutside cX3_isOutside 3 (some .boolean), .methodLink RX3 85 yX0_storeysOf, .instanceMethod yX0_storeysOf, .selects RX0 yX0_storeysOf yX0_storeysOf, .initialized RX0, .code yX0_storeysOf cX0_storeysOf 2 (some .int), .fieldLink RX0 15 "Stormroof$Board" "storeys" "[I"] ++ wsX30 ++ wsX00 ++ (vx_atS RX3 112 "java/lang/IndexOutOfBoundsException" ["java/lang/RuntimeException", "java/lang/Exception"]).filter goodWord)
def wsL_builderAt : List Cond := .codeWith yL_builderAt cL_builderAt 4 (some .int) [(0, 9, 12, 19)] :: ([.classLink RL 19 "java/lang/IndexOutOfBoundsException", .methodLink RL 30 yX3_builderAt, .instanceMethod yX3_builderAt, .selects RX3 yX3_builderAt yX3_builderAt, .initialized RX3, .code yX3_builderAt cX3_builderAt 2 (some .int), .fieldLink RX3 12 "Stormroof" "board" "LStormroof$Board;", .methodLink RX3 53 yX3_requireCell, .instanceMethod yX3_requireCell, .selects RX3 yX3_requireCell yX3_requireCell, .code yX3_requireCell cX3_requireCell 2 none, .classLink RX3 108 "java/lang/IndexOutOfBoundsException", .initialized "java/lang/IndexOutOfBoundsException", .methodLink RX3 34 yX3_isOutside, .static yX3_isOutside, .code yX3_isOutside cX3_isOutside 3 (some .boolean), .methodLink RX3 79 yX0_holderOf, .instanceMethod yX0_holderOf, .selects RX0 yX0_holderOf yX0_holderOf, .initialized RX0, .code yX0_holderOf cX0_holderOf 2 (some .int), .fieldLink RX0 18 "Stormroof$Board" "holders" "[I"] ++ wsX30 ++ wsX00 ++ (vx_atS RX3 112 "java/lang/IndexOutOfBoundsException" ["java/lang/RuntimeException", "java/lang/Exception"]).filter goodWord)
def wsL_turnCount_r1 : List Cond := [Cond.classLink RL 21 "java/lang/IllegalStateException", Cond.methodLink RL 33 yX3_turnCount, Cond.instanceMethod yX3_turnCount, Cond.selects RX3 yX3_turnCount yX3_turnCount, Cond.initialized RX3, Cond.code yX3_turnCount cX3_turnCount 1 (some .int), Cond.fieldLink RX3 12 "Stormroof" "board" "LStormroof$Board;", Cond.fieldLink RX3 19 "Stormroof" "listed" "LStormroof$TurnList;", Cond.methodLink RX3 98 yX3_requireAllPlaced, Cond.instanceMethod yX3_requireAllPlaced, Cond.selects RX3 yX3_requireAllPlaced yX3_requireAllPlaced, Cond.code yX3_requireAllPlaced cX3_requireAllPlaced 1 none, Cond.classLink RX3 65 "java/lang/IllegalStateException", Cond.initialized "java/lang/IllegalStateException", Cond.methodLink RX3 57 yX0_isSet, Cond.instanceMethod yX0_isSet, Cond.selects RX0 yX0_isSet yX0_isSet, Cond.initialized RX0, Cond.code yX0_isSet cX0_isSet 1 (some .boolean), Cond.fieldLink RX0 40 "Stormroof$Board" "placed" "I", Cond.fieldLink RX0 31 "Stormroof$Board" "builders" "I", Cond.methodLink RX3 101 yX0_listTurns, Cond.instanceMethod yX0_listTurns, Cond.selects RX0 yX0_listTurns yX0_listTurns]
def wsL_turnCount_r2 : List Cond := [Cond.code yX0_listTurns cX0_listTurns 9 none, Cond.fieldLink RX0 46 "Stormroof$Board" "victor" "I", Cond.fieldLink RX0 43 "Stormroof$Board" "turnsPlayed" "I", Cond.fieldLink RX0 27 "Stormroof$Board" "cells" "I", Cond.methodLink RX0 89 yX2_clear, Cond.instanceMethod yX2_clear, Cond.selects RX2 yX2_clear yX2_clear, Cond.initialized RX2, Cond.code yX2_clear cX2_clear 1 none, Cond.fieldLink RX2 15 "Stormroof$TurnList" "size" "I", Cond.methodLink RX0 73 yX0_spotOf, Cond.instanceMethod yX0_spotOf, Cond.selects RX0 yX0_spotOf yX0_spotOf, Cond.code yX0_spotOf cX0_spotOf 4 (some .int), Cond.fieldLink RX0 21 "Stormroof$Board" "spots" "[I", Cond.methodLink RX0 94 yX0_reachOf, Cond.instanceMethod yX0_reachOf, Cond.selects RX0 yX0_reachOf yX0_reachOf, Cond.code yX0_reachOf cX0_reachOf 9 (some .long), Cond.methodLink RX0 137 yX0_stepOf, Cond.instanceMethod yX0_stepOf, Cond.selects RX0 yX0_stepOf yX0_stepOf, Cond.code yX0_stepOf cX0_stepOf 8 (some .long), Cond.fieldLink RX0 49 "Stormroof$Board" "climbingBarred" "Z"]
def wsL_turnCount_r3 : List Cond := [Cond.methodLink RX0 141 yX0_neighbourOf, Cond.instanceMethod yX0_neighbourOf, Cond.selects RX0 yX0_neighbourOf yX0_neighbourOf, Cond.code yX0_neighbourOf cX0_neighbourOf 4 (some .int), Cond.fieldLink RX0 11 "Stormroof$Board" "neighbours" "[I", Cond.methodLink RX0 77 yX0_storeysOf, Cond.instanceMethod yX0_storeysOf, Cond.selects RX0 yX0_storeysOf yX0_storeysOf, Cond.code yX0_storeysOf cX0_storeysOf 2 (some .int), Cond.fieldLink RX0 15 "Stormroof$Board" "storeys" "[I", Cond.methodLink RX0 148 yX0_canEnter, Cond.instanceMethod yX0_canEnter, Cond.selects RX0 yX0_canEnter yX0_canEnter, Cond.code yX0_canEnter cX0_canEnter 5 (some .boolean), Cond.methodLink RX0 132 yX0_holderOf, Cond.instanceMethod yX0_holderOf, Cond.selects RX0 yX0_holderOf yX0_holderOf, Cond.code yX0_holderOf cX0_holderOf 2 (some .int), Cond.fieldLink RX0 18 "Stormroof$Board" "holders" "[I", Cond.methodLink RX0 151 yX0_isOpen, Cond.instanceMethod yX0_isOpen, Cond.selects RX0 yX0_isOpen yX0_isOpen, Cond.code yX0_isOpen cX0_isOpen 2 (some .boolean), Cond.methodLink RX0 117 yX0_powerOf]
def wsL_turnCount_r4 : List Cond := [Cond.instanceMethod yX0_powerOf, Cond.selects RX0 yX0_powerOf yX0_powerOf, Cond.code yX0_powerOf cX0_powerOf 2 (some .int), Cond.fieldLink RX0 34 "Stormroof$Board" "firstPower" "I", Cond.fieldLink RX0 37 "Stormroof$Board" "secondPower" "I", Cond.methodLink RX0 98 yX0_listBuildings, Cond.instanceMethod yX0_listBuildings, Cond.selects RX0 yX0_listBuildings yX0_listBuildings, Cond.code yX0_listBuildings cX0_listBuildings 9 none, Cond.methodLink RX0 109 yX0_asideOf, Cond.instanceMethod yX0_asideOf, Cond.selects RX0 yX0_asideOf yX0_asideOf, Cond.code yX0_asideOf cX0_asideOf 4 (some .int), Cond.methodLink RX0 154 yX0_isOpenBehind, Cond.instanceMethod yX0_isOpenBehind, Cond.selects RX0 yX0_isOpenBehind yX0_isOpenBehind, Cond.code yX0_isOpenBehind cX0_isOpenBehind 4 (some .boolean), Cond.methodLink RX0 102 yX2_add, Cond.instanceMethod yX2_add, Cond.selects RX2 yX2_add yX2_add, Cond.code yX2_add cX2_add 2 none, Cond.fieldLink RX2 11 "Stormroof$TurnList" "numbers" "[I"]
def wsL_turnCount : List Cond := .codeWith yL_turnCount cL_turnCount 3 (some .int) [(0, 8, 11, 21)] :: ((wsL_turnCount_r1 ++ (wsL_turnCount_r2 ++ (wsL_turnCount_r3 ++ wsL_turnCount_r4))) ++ wsX30 ++ wsX20 ++ wsX00 ++ (vx_atS RX3 69 "java/lang/IllegalStateException" ["java/lang/RuntimeException", "java/lang/Exception"]).filter goodWord)
def wsL_turnAt_r1 : List Cond := [Cond.classLink RL 19 "java/lang/IndexOutOfBoundsException", Cond.classLink RL 21 "java/lang/IllegalStateException", Cond.methodLink RL 37 yX3_turnAt, Cond.instanceMethod yX3_turnAt, Cond.selects RX3 yX3_turnAt yX3_turnAt, Cond.initialized RX3, Cond.code yX3_turnAt cX3_turnAt 2 (some .int), Cond.classLink RX3 108 "java/lang/IndexOutOfBoundsException", Cond.initialized "java/lang/IndexOutOfBoundsException", Cond.fieldLink RX3 12 "Stormroof" "board" "LStormroof$Board;", Cond.fieldLink RX3 19 "Stormroof" "listed" "LStormroof$TurnList;", Cond.methodLink RX3 98 yX3_requireAllPlaced, Cond.instanceMethod yX3_requireAllPlaced, Cond.selects RX3 yX3_requireAllPlaced yX3_requireAllPlaced, Cond.code yX3_requireAllPlaced cX3_requireAllPlaced 1 none, Cond.classLink RX3 65 "java/lang/IllegalStateException", Cond.initialized "java/lang/IllegalStateException", Cond.methodLink RX3 57 yX0_isSet, Cond.instanceMethod yX0_isSet, Cond.selects RX0 yX0_isSet yX0_isSet, Cond.initialized RX0, Cond.code yX0_isSet cX0_isSet 1 (some .boolean), Cond.fieldLink RX0 40 "Stormroof$Board" "placed" "I", Cond.fieldLink RX0 31 "Stormroof$Board" "builders" "I"]
def wsL_turnAt_r2 : List Cond := [Cond.methodLink RX3 101 yX0_listTurns, Cond.instanceMethod yX0_listTurns, Cond.selects RX0 yX0_listTurns yX0_listTurns, Cond.code yX0_listTurns cX0_listTurns 9 none, Cond.fieldLink RX0 46 "Stormroof$Board" "victor" "I", Cond.fieldLink RX0 43 "Stormroof$Board" "turnsPlayed" "I", Cond.fieldLink RX0 27 "Stormroof$Board" "cells" "I", Cond.methodLink RX0 89 yX2_clear, Cond.instanceMethod yX2_clear, Cond.selects RX2 yX2_clear yX2_clear, Cond.initialized RX2, Cond.code yX2_clear cX2_clear 1 none, Cond.fieldLink RX2 15 "Stormroof$TurnList" "size" "I", Cond.methodLink RX0 73 yX0_spotOf, Cond.instanceMethod yX0_spotOf, Cond.selects RX0 yX0_spotOf yX0_spotOf, Cond.code yX0_spotOf cX0_spotOf 4 (some .int), Cond.fieldLink RX0 21 "Stormroof$Board" "spots" "[I", Cond.methodLink RX0 94 yX0_reachOf, Cond.instanceMethod yX0_reachOf, Cond.selects RX0 yX0_reachOf yX0_reachOf, Cond.code yX0_reachOf cX0_reachOf 9 (some .long), Cond.methodLink RX0 137 yX0_stepOf, Cond.instanceMethod yX0_stepOf]
def wsL_turnAt_r3 : List Cond := [Cond.selects RX0 yX0_stepOf yX0_stepOf, Cond.code yX0_stepOf cX0_stepOf 8 (some .long), Cond.fieldLink RX0 49 "Stormroof$Board" "climbingBarred" "Z", Cond.methodLink RX0 141 yX0_neighbourOf, Cond.instanceMethod yX0_neighbourOf, Cond.selects RX0 yX0_neighbourOf yX0_neighbourOf, Cond.code yX0_neighbourOf cX0_neighbourOf 4 (some .int), Cond.fieldLink RX0 11 "Stormroof$Board" "neighbours" "[I", Cond.methodLink RX0 77 yX0_storeysOf, Cond.instanceMethod yX0_storeysOf, Cond.selects RX0 yX0_storeysOf yX0_storeysOf, Cond.code yX0_storeysOf cX0_storeysOf 2 (some .int), Cond.fieldLink RX0 15 "Stormroof$Board" "storeys" "[I", Cond.methodLink RX0 148 yX0_canEnter, Cond.instanceMethod yX0_canEnter, Cond.selects RX0 yX0_canEnter yX0_canEnter, Cond.code yX0_canEnter cX0_canEnter 5 (some .boolean), Cond.methodLink RX0 132 yX0_holderOf, Cond.instanceMethod yX0_holderOf, Cond.selects RX0 yX0_holderOf yX0_holderOf, Cond.code yX0_holderOf cX0_holderOf 2 (some .int), Cond.fieldLink RX0 18 "Stormroof$Board" "holders" "[I", Cond.methodLink RX0 151 yX0_isOpen, Cond.instanceMethod yX0_isOpen]
def wsL_turnAt_r4 : List Cond := [Cond.selects RX0 yX0_isOpen yX0_isOpen, Cond.code yX0_isOpen cX0_isOpen 2 (some .boolean), Cond.methodLink RX0 117 yX0_powerOf, Cond.instanceMethod yX0_powerOf, Cond.selects RX0 yX0_powerOf yX0_powerOf, Cond.code yX0_powerOf cX0_powerOf 2 (some .int), Cond.fieldLink RX0 34 "Stormroof$Board" "firstPower" "I", Cond.fieldLink RX0 37 "Stormroof$Board" "secondPower" "I", Cond.methodLink RX0 98 yX0_listBuildings, Cond.instanceMethod yX0_listBuildings, Cond.selects RX0 yX0_listBuildings yX0_listBuildings, Cond.code yX0_listBuildings cX0_listBuildings 9 none, Cond.methodLink RX0 109 yX0_asideOf, Cond.instanceMethod yX0_asideOf, Cond.selects RX0 yX0_asideOf yX0_asideOf, Cond.code yX0_asideOf cX0_asideOf 4 (some .int), Cond.methodLink RX0 154 yX0_isOpenBehind, Cond.instanceMethod yX0_isOpenBehind, Cond.selects RX0 yX0_isOpenBehind yX0_isOpenBehind, Cond.code yX0_isOpenBehind cX0_isOpenBehind 4 (some .boolean), Cond.methodLink RX0 102 yX2_add, Cond.instanceMethod yX2_add, Cond.selects RX2 yX2_add yX2_add, Cond.code yX2_add cX2_add 2 none]
def wsL_turnAt_r5 : List Cond := [Cond.fieldLink RX2 11 "Stormroof$TurnList" "numbers" "[I", Cond.methodLink RX3 34 yX3_isOutside, Cond.static yX3_isOutside, Cond.code yX3_isOutside cX3_isOutside 3 (some .boolean), Cond.methodLink RX3 113 yX2_at, Cond.instanceMethod yX2_at, Cond.selects RX2 yX2_at yX2_at, Cond.code yX2_at cX2_at 2 (some .int)]
def wsL_turnAt : List Cond := .codeWith yL_turnAt cL_turnAt 4 (some .int) [(0, 9, 12, 19), (0, 9, 15, 21)] :: ((wsL_turnAt_r1 ++ (wsL_turnAt_r2 ++ (wsL_turnAt_r3 ++ (wsL_turnAt_r4 ++ wsL_turnAt_r5)))) ++ wsX30 ++ wsX20 ++ wsX00 ++ (vx_atS RX3 112 "java/lang/IndexOutOfBoundsException" ["java/lang/RuntimeException", "java/lang/Exception"]).filter goodWord ++ (vx_atS RX3 69 "java/lang/IllegalStateException" ["java/lang/RuntimeException", "java/lang/Exception"]).filter goodWord)
def wsL_play_r1 : List Cond := [Cond.classLink RL 21 "java/lang/IllegalStateException", Cond.methodLink RL 40 yX3_play, Cond.instanceMethod yX3_play, Cond.selects RX3 yX3_play yX3_play, Cond.initialized RX3, Cond.code yX3_play cX3_play 2 (some .int), Cond.classLink RX3 65 "java/lang/IllegalStateException", Cond.initialized "java/lang/IllegalStateException", Cond.fieldLink RX3 12 "Stormroof" "board" "LStormroof$Board;", Cond.fieldLink RX3 19 "Stormroof" "listed" "LStormroof$TurnList;", Cond.methodLink RX3 98 yX3_requireAllPlaced, Cond.instanceMethod yX3_requireAllPlaced, Cond.selects RX3 yX3_requireAllPlaced yX3_requireAllPlaced, Cond.code yX3_requireAllPlaced cX3_requireAllPlaced 1 none, Cond.methodLink RX3 57 yX0_isSet, Cond.instanceMethod yX0_isSet, Cond.selects RX0 yX0_isSet yX0_isSet, Cond.initialized RX0, Cond.code yX0_isSet cX0_isSet 1 (some .boolean), Cond.fieldLink RX0 40 "Stormroof$Board" "placed" "I", Cond.fieldLink RX0 31 "Stormroof$Board" "builders" "I", Cond.methodLink RX3 101 yX0_listTurns, Cond.instanceMethod yX0_listTurns, Cond.selects RX0 yX0_listTurns yX0_listTurns]
def wsL_play_r2 : List Cond := [Cond.code yX0_listTurns cX0_listTurns 9 none, Cond.fieldLink RX0 46 "Stormroof$Board" "victor" "I", Cond.fieldLink RX0 43 "Stormroof$Board" "turnsPlayed" "I", Cond.fieldLink RX0 27 "Stormroof$Board" "cells" "I", Cond.methodLink RX0 89 yX2_clear, Cond.instanceMethod yX2_clear, Cond.selects RX2 yX2_clear yX2_clear, Cond.initialized RX2, Cond.code yX2_clear cX2_clear 1 none, Cond.fieldLink RX2 15 "Stormroof$TurnList" "size" "I", Cond.methodLink RX0 73 yX0_spotOf, Cond.instanceMethod yX0_spotOf, Cond.selects RX0 yX0_spotOf yX0_spotOf, Cond.code yX0_spotOf cX0_spotOf 4 (some .int), Cond.fieldLink RX0 21 "Stormroof$Board" "spots" "[I", Cond.methodLink RX0 94 yX0_reachOf, Cond.instanceMethod yX0_reachOf, Cond.selects RX0 yX0_reachOf yX0_reachOf, Cond.code yX0_reachOf cX0_reachOf 9 (some .long), Cond.methodLink RX0 137 yX0_stepOf, Cond.instanceMethod yX0_stepOf, Cond.selects RX0 yX0_stepOf yX0_stepOf, Cond.code yX0_stepOf cX0_stepOf 8 (some .long), Cond.fieldLink RX0 49 "Stormroof$Board" "climbingBarred" "Z"]
def wsL_play_r3 : List Cond := [Cond.methodLink RX0 141 yX0_neighbourOf, Cond.instanceMethod yX0_neighbourOf, Cond.selects RX0 yX0_neighbourOf yX0_neighbourOf, Cond.code yX0_neighbourOf cX0_neighbourOf 4 (some .int), Cond.fieldLink RX0 11 "Stormroof$Board" "neighbours" "[I", Cond.methodLink RX0 77 yX0_storeysOf, Cond.instanceMethod yX0_storeysOf, Cond.selects RX0 yX0_storeysOf yX0_storeysOf, Cond.code yX0_storeysOf cX0_storeysOf 2 (some .int), Cond.fieldLink RX0 15 "Stormroof$Board" "storeys" "[I", Cond.methodLink RX0 148 yX0_canEnter, Cond.instanceMethod yX0_canEnter, Cond.selects RX0 yX0_canEnter yX0_canEnter, Cond.code yX0_canEnter cX0_canEnter 5 (some .boolean), Cond.methodLink RX0 132 yX0_holderOf, Cond.instanceMethod yX0_holderOf, Cond.selects RX0 yX0_holderOf yX0_holderOf, Cond.code yX0_holderOf cX0_holderOf 2 (some .int), Cond.fieldLink RX0 18 "Stormroof$Board" "holders" "[I", Cond.methodLink RX0 151 yX0_isOpen, Cond.instanceMethod yX0_isOpen, Cond.selects RX0 yX0_isOpen yX0_isOpen, Cond.code yX0_isOpen cX0_isOpen 2 (some .boolean), Cond.methodLink RX0 117 yX0_powerOf]
def wsL_play_r4 : List Cond := [Cond.instanceMethod yX0_powerOf, Cond.selects RX0 yX0_powerOf yX0_powerOf, Cond.code yX0_powerOf cX0_powerOf 2 (some .int), Cond.fieldLink RX0 34 "Stormroof$Board" "firstPower" "I", Cond.fieldLink RX0 37 "Stormroof$Board" "secondPower" "I", Cond.methodLink RX0 98 yX0_listBuildings, Cond.instanceMethod yX0_listBuildings, Cond.selects RX0 yX0_listBuildings yX0_listBuildings, Cond.code yX0_listBuildings cX0_listBuildings 9 none, Cond.methodLink RX0 109 yX0_asideOf, Cond.instanceMethod yX0_asideOf, Cond.selects RX0 yX0_asideOf yX0_asideOf, Cond.code yX0_asideOf cX0_asideOf 4 (some .int), Cond.methodLink RX0 154 yX0_isOpenBehind, Cond.instanceMethod yX0_isOpenBehind, Cond.selects RX0 yX0_isOpenBehind yX0_isOpenBehind, Cond.code yX0_isOpenBehind cX0_isOpenBehind 4 (some .boolean), Cond.methodLink RX0 102 yX2_add, Cond.instanceMethod yX2_add, Cond.selects RX2 yX2_add yX2_add, Cond.code yX2_add cX2_add 2 none, Cond.fieldLink RX2 11 "Stormroof$TurnList" "numbers" "[I", Cond.methodLink RX3 116 yX2_holds, Cond.instanceMethod yX2_holds]
def wsL_play_r5 : List Cond := [Cond.selects RX2 yX2_holds yX2_holds, Cond.code yX2_holds cX2_holds 3 (some .boolean), Cond.methodLink RX2 19 yX2_at, Cond.instanceMethod yX2_at, Cond.selects RX2 yX2_at yX2_at, Cond.code yX2_at cX2_at 2 (some .int), Cond.methodLink RX3 121 yX0_perform, Cond.instanceMethod yX0_perform, Cond.selects RX0 yX0_perform yX0_perform, Cond.code yX0_perform cX0_perform 7 none, Cond.methodLink RX0 106 yX0_destinationOf, Cond.static yX0_destinationOf, Cond.code yX0_destinationOf cX0_destinationOf 1 (some .int), Cond.methodLink RX0 113 yX0_remember, Cond.instanceMethod yX0_remember, Cond.selects RX0 yX0_remember yX0_remember, Cond.code yX0_remember cX0_remember 5 none, Cond.fieldLink RX0 24 "Stormroof$Board" "past" "[I", Cond.methodLink RX0 126 yX0_builtCellOf, Cond.static yX0_builtCellOf, Cond.code yX0_builtCellOf cX0_builtCellOf 2 (some .int), Cond.methodLink RX0 120 yX0_carry, Cond.instanceMethod yX0_carry, Cond.selects RX0 yX0_carry yX0_carry]
def wsL_play_r6 : List Cond := [Cond.code yX0_carry cX0_carry 6 none, Cond.methodLink RX0 135 yX0_clear, Cond.instanceMethod yX0_clear, Cond.selects RX0 yX0_clear yX0_clear, Cond.code yX0_clear cX0_clear 2 none, Cond.methodLink RX0 81 yX0_put, Cond.instanceMethod yX0_put, Cond.selects RX0 yX0_put yX0_put, Cond.code yX0_put cX0_put 4 none, Cond.methodLink RX0 123 yX0_setStoreys, Cond.instanceMethod yX0_setStoreys, Cond.selects RX0 yX0_setStoreys yX0_setStoreys, Cond.code yX0_setStoreys cX0_setStoreys 3 none, Cond.methodLink RX0 85 yX0_hasTurn, Cond.instanceMethod yX0_hasTurn, Cond.selects RX0 yX0_hasTurn yX0_hasTurn, Cond.code yX0_hasTurn cX0_hasTurn 7 (some .boolean), Cond.methodLink RX0 144 yX0_canBuild, Cond.instanceMethod yX0_canBuild, Cond.selects RX0 yX0_canBuild yX0_canBuild, Cond.code yX0_canBuild cX0_canBuild 6 (some .boolean)]
def wsL_play : List Cond := .codeWith yL_play cL_play 4 (some .int) [(0, 9, 12, 21)] :: ((wsL_play_r1 ++ (wsL_play_r2 ++ (wsL_play_r3 ++ (wsL_play_r4 ++ (wsL_play_r5 ++ wsL_play_r6))))) ++ wsX30 ++ wsX00 ++ wsX20 ++ (vx_atS RX3 69 "java/lang/IllegalStateException" ["java/lang/RuntimeException", "java/lang/Exception"]).filter goodWord)
def wsL_takeBack_r1 : List Cond := [Cond.classLink RL 21 "java/lang/IllegalStateException", Cond.methodLink RL 43 yX3_takeBack, Cond.instanceMethod yX3_takeBack, Cond.selects RX3 yX3_takeBack yX3_takeBack, Cond.initialized RX3, Cond.code yX3_takeBack cX3_takeBack 1 (some .int), Cond.classLink RX3 65 "java/lang/IllegalStateException", Cond.initialized "java/lang/IllegalStateException", Cond.fieldLink RX3 12 "Stormroof" "board" "LStormroof$Board;", Cond.methodLink RX3 126 yX0_undo, Cond.instanceMethod yX0_undo, Cond.selects RX0 yX0_undo yX0_undo, Cond.initialized RX0, Cond.code yX0_undo cX0_undo 3 none, Cond.fieldLink RX0 43 "Stormroof$Board" "turnsPlayed" "I", Cond.fieldLink RX0 24 "Stormroof$Board" "past" "[I", Cond.fieldLink RX0 46 "Stormroof$Board" "victor" "I", Cond.fieldLink RX0 49 "Stormroof$Board" "climbingBarred" "Z", Cond.methodLink RX0 126 yX0_builtCellOf, Cond.static yX0_builtCellOf, Cond.code yX0_builtCellOf cX0_builtCellOf 2 (some .int), Cond.methodLink RX0 123 yX0_setStoreys, Cond.instanceMethod yX0_setStoreys, Cond.selects RX0 yX0_setStoreys yX0_setStoreys]
def wsL_takeBack_r2 : List Cond := [Cond.code yX0_setStoreys cX0_setStoreys 3 none, Cond.fieldLink RX0 15 "Stormroof$Board" "storeys" "[I", Cond.methodLink RX0 106 yX0_destinationOf, Cond.static yX0_destinationOf, Cond.code yX0_destinationOf cX0_destinationOf 1 (some .int), Cond.methodLink RX0 129 yX0_carryBack, Cond.instanceMethod yX0_carryBack, Cond.selects RX0 yX0_carryBack yX0_carryBack, Cond.code yX0_carryBack cX0_carryBack 6 none, Cond.methodLink RX0 132 yX0_holderOf, Cond.instanceMethod yX0_holderOf, Cond.selects RX0 yX0_holderOf yX0_holderOf, Cond.code yX0_holderOf cX0_holderOf 2 (some .int), Cond.fieldLink RX0 18 "Stormroof$Board" "holders" "[I", Cond.methodLink RX0 135 yX0_clear, Cond.instanceMethod yX0_clear, Cond.selects RX0 yX0_clear yX0_clear, Cond.code yX0_clear cX0_clear 2 none, Cond.methodLink RX0 81 yX0_put, Cond.instanceMethod yX0_put, Cond.selects RX0 yX0_put yX0_put, Cond.code yX0_put cX0_put 4 none, Cond.fieldLink RX0 21 "Stormroof$Board" "spots" "[I"]
def wsL_takeBack : List Cond := .codeWith yL_takeBack cL_takeBack 3 (some .int) [(0, 8, 11, 21)] :: ((wsL_takeBack_r1 ++ wsL_takeBack_r2) ++ wsX30 ++ wsX00 ++ (vx_atS RX3 69 "java/lang/IllegalStateException" ["java/lang/RuntimeException", "java/lang/Exception"]).filter goodWord)
def wsL_worth_r1 : List Cond := [Cond.classLink RL 13 "java/lang/IllegalArgumentException", Cond.classLink RL 21 "java/lang/IllegalStateException", Cond.methodLink RL 46 yX3_worth, Cond.instanceMethod yX3_worth, Cond.selects RX3 yX3_worth yX3_worth, Cond.initialized RX3, Cond.code yX3_worth cX3_worth 2 (some .int), Cond.fieldLink RX3 26 "Stormroof" "outlook" "LStormroof$Outlook;", Cond.fieldLink RX3 12 "Stormroof" "board" "LStormroof$Board;", Cond.methodLink RX3 129 yX3_requireAhead, Cond.instanceMethod yX3_requireAhead, Cond.selects RX3 yX3_requireAhead yX3_requireAhead, Cond.code yX3_requireAhead cX3_requireAhead 3 none, Cond.classLink RX3 38 "java/lang/IllegalArgumentException", Cond.initialized "java/lang/IllegalArgumentException", Cond.classLink RX3 65 "java/lang/IllegalStateException", Cond.initialized "java/lang/IllegalStateException", Cond.methodLink RX3 34 yX3_isOutside, Cond.static yX3_isOutside, Cond.code yX3_isOutside cX3_isOutside 3 (some .boolean), Cond.methodLink RX3 98 yX3_requireAllPlaced, Cond.instanceMethod yX3_requireAllPlaced, Cond.selects RX3 yX3_requireAllPlaced yX3_requireAllPlaced, Cond.code yX3_requireAllPlaced cX3_requireAllPlaced 1 none]
def wsL_worth_r2 : List Cond := [Cond.methodLink RX3 57 yX0_isSet, Cond.instanceMethod yX0_isSet, Cond.selects RX0 yX0_isSet yX0_isSet, Cond.initialized RX0, Cond.code yX0_isSet cX0_isSet 1 (some .boolean), Cond.fieldLink RX0 40 "Stormroof$Board" "placed" "I", Cond.fieldLink RX0 31 "Stormroof$Board" "builders" "I", Cond.instanceMethod yX1_look, Cond.initialized RX1, Cond.selects RX1 yX1_look yX1_look, Cond.code yX1_look cX1_look 7 (some .int), Cond.methodLink RX1 46 Lib.Math.max.name, Cond.static Lib.Math.max.name, Cond.initialized "java/lang/Math", Cond.code Lib.Math.max.name Lib.Math.max.code 2 (some .int), Cond.methodLink RX1 24 yX1_listFor, Cond.instanceMethod yX1_listFor, Cond.selects RX1 yX1_listFor yX1_listFor, Cond.code yX1_listFor cX1_listFor 2 (some (.object "Stormroof$TurnList")), Cond.fieldLink RX1 12 "Stormroof$Outlook" "lastTurns" "LStormroof$TurnList;", Cond.fieldLink RX1 18 "Stormroof$Outlook" "nextTurns" "LStormroof$TurnList;", Cond.fieldLink RX1 21 "Stormroof$Outlook" "firstTurns" "LStormroof$TurnList;", Cond.methodLink RX1 28 yX0_listTurns, Cond.instanceMethod yX0_listTurns]
def wsL_worth_r3 : List Cond := [Cond.selects RX0 yX0_listTurns yX0_listTurns, Cond.code yX0_listTurns cX0_listTurns 9 none, Cond.fieldLink RX0 46 "Stormroof$Board" "victor" "I", Cond.fieldLink RX0 43 "Stormroof$Board" "turnsPlayed" "I", Cond.fieldLink RX0 27 "Stormroof$Board" "cells" "I", Cond.methodLink RX0 89 yX2_clear, Cond.instanceMethod yX2_clear, Cond.selects RX2 yX2_clear yX2_clear, Cond.initialized RX2, Cond.code yX2_clear cX2_clear 1 none, Cond.fieldLink RX2 15 "Stormroof$TurnList" "size" "I", Cond.methodLink RX0 73 yX0_spotOf, Cond.instanceMethod yX0_spotOf, Cond.selects RX0 yX0_spotOf yX0_spotOf, Cond.code yX0_spotOf cX0_spotOf 4 (some .int), Cond.fieldLink RX0 21 "Stormroof$Board" "spots" "[I", Cond.methodLink RX0 94 yX0_reachOf, Cond.instanceMethod yX0_reachOf, Cond.selects RX0 yX0_reachOf yX0_reachOf, Cond.code yX0_reachOf cX0_reachOf 9 (some .long), Cond.methodLink RX0 137 yX0_stepOf, Cond.instanceMethod yX0_stepOf, Cond.selects RX0 yX0_stepOf yX0_stepOf, Cond.code yX0_stepOf cX0_stepOf 8 (some .long)]
def wsL_worth_r4 : List Cond := [Cond.fieldLink RX0 49 "Stormroof$Board" "climbingBarred" "Z", Cond.methodLink RX0 141 yX0_neighbourOf, Cond.instanceMethod yX0_neighbourOf, Cond.selects RX0 yX0_neighbourOf yX0_neighbourOf, Cond.code yX0_neighbourOf cX0_neighbourOf 4 (some .int), Cond.fieldLink RX0 11 "Stormroof$Board" "neighbours" "[I", Cond.methodLink RX0 77 yX0_storeysOf, Cond.instanceMethod yX0_storeysOf, Cond.selects RX0 yX0_storeysOf yX0_storeysOf, Cond.code yX0_storeysOf cX0_storeysOf 2 (some .int), Cond.fieldLink RX0 15 "Stormroof$Board" "storeys" "[I", Cond.methodLink RX0 148 yX0_canEnter, Cond.instanceMethod yX0_canEnter, Cond.selects RX0 yX0_canEnter yX0_canEnter, Cond.code yX0_canEnter cX0_canEnter 5 (some .boolean), Cond.methodLink RX0 132 yX0_holderOf, Cond.instanceMethod yX0_holderOf, Cond.selects RX0 yX0_holderOf yX0_holderOf, Cond.code yX0_holderOf cX0_holderOf 2 (some .int), Cond.fieldLink RX0 18 "Stormroof$Board" "holders" "[I", Cond.methodLink RX0 151 yX0_isOpen, Cond.instanceMethod yX0_isOpen, Cond.selects RX0 yX0_isOpen yX0_isOpen, Cond.code yX0_isOpen cX0_isOpen 2 (some .boolean)]
def wsL_worth_r5 : List Cond := [Cond.methodLink RX0 117 yX0_powerOf, Cond.instanceMethod yX0_powerOf, Cond.selects RX0 yX0_powerOf yX0_powerOf, Cond.code yX0_powerOf cX0_powerOf 2 (some .int), Cond.fieldLink RX0 34 "Stormroof$Board" "firstPower" "I", Cond.fieldLink RX0 37 "Stormroof$Board" "secondPower" "I", Cond.methodLink RX0 98 yX0_listBuildings, Cond.instanceMethod yX0_listBuildings, Cond.selects RX0 yX0_listBuildings yX0_listBuildings, Cond.code yX0_listBuildings cX0_listBuildings 9 none, Cond.methodLink RX0 109 yX0_asideOf, Cond.instanceMethod yX0_asideOf, Cond.selects RX0 yX0_asideOf yX0_asideOf, Cond.code yX0_asideOf cX0_asideOf 4 (some .int), Cond.methodLink RX0 154 yX0_isOpenBehind, Cond.instanceMethod yX0_isOpenBehind, Cond.selects RX0 yX0_isOpenBehind yX0_isOpenBehind, Cond.code yX0_isOpenBehind cX0_isOpenBehind 4 (some .boolean), Cond.methodLink RX0 102 yX2_add, Cond.instanceMethod yX2_add, Cond.selects RX2 yX2_add yX2_add, Cond.code yX2_add cX2_add 2 none, Cond.fieldLink RX2 11 "Stormroof$TurnList" "numbers" "[I", Cond.methodLink RX1 38 yX2_at]
def wsL_worth_r6 : List Cond := [Cond.instanceMethod yX2_at, Cond.selects RX2 yX2_at yX2_at, Cond.code yX2_at cX2_at 2 (some .int), Cond.methodLink RX1 42 yX1_worthOf, Cond.instanceMethod yX1_worthOf, Cond.selects RX1 yX1_worthOf yX1_worthOf, Cond.code yX1_worthOf cX1_worthOf 5 (some .int), Cond.methodLink RX1 52 yX0_perform, Cond.instanceMethod yX0_perform, Cond.selects RX0 yX0_perform yX0_perform, Cond.code yX0_perform cX0_perform 7 none, Cond.methodLink RX0 106 yX0_destinationOf, Cond.static yX0_destinationOf, Cond.code yX0_destinationOf cX0_destinationOf 1 (some .int), Cond.methodLink RX0 113 yX0_remember, Cond.instanceMethod yX0_remember, Cond.selects RX0 yX0_remember yX0_remember, Cond.code yX0_remember cX0_remember 5 none, Cond.fieldLink RX0 24 "Stormroof$Board" "past" "[I", Cond.methodLink RX0 126 yX0_builtCellOf, Cond.static yX0_builtCellOf, Cond.code yX0_builtCellOf cX0_builtCellOf 2 (some .int), Cond.methodLink RX0 120 yX0_carry, Cond.instanceMethod yX0_carry]
def wsL_worth_r7 : List Cond := [Cond.selects RX0 yX0_carry yX0_carry, Cond.code yX0_carry cX0_carry 6 none, Cond.methodLink RX0 135 yX0_clear, Cond.instanceMethod yX0_clear, Cond.selects RX0 yX0_clear yX0_clear, Cond.code yX0_clear cX0_clear 2 none, Cond.methodLink RX0 81 yX0_put, Cond.instanceMethod yX0_put, Cond.selects RX0 yX0_put yX0_put, Cond.code yX0_put cX0_put 4 none, Cond.methodLink RX0 123 yX0_setStoreys, Cond.instanceMethod yX0_setStoreys, Cond.selects RX0 yX0_setStoreys yX0_setStoreys, Cond.code yX0_setStoreys cX0_setStoreys 3 none, Cond.methodLink RX0 85 yX0_hasTurn, Cond.instanceMethod yX0_hasTurn, Cond.selects RX0 yX0_hasTurn yX0_hasTurn, Cond.code yX0_hasTurn cX0_hasTurn 7 (some .boolean), Cond.methodLink RX0 144 yX0_canBuild, Cond.instanceMethod yX0_canBuild, Cond.selects RX0 yX0_canBuild yX0_canBuild, Cond.code yX0_canBuild cX0_canBuild 6 (some .boolean), Cond.methodLink RX1 59 yX1_look, Cond.methodLink RX1 63 yX0_undo]
def wsL_worth_r8 : List Cond := [Cond.instanceMethod yX0_undo, Cond.selects RX0 yX0_undo yX0_undo, Cond.code yX0_undo cX0_undo 3 none, Cond.methodLink RX0 129 yX0_carryBack, Cond.instanceMethod yX0_carryBack, Cond.selects RX0 yX0_carryBack yX0_carryBack, Cond.code yX0_carryBack cX0_carryBack 6 none]
def wsL_worth : List Cond := .codeWith yL_worth cL_worth 4 (some .int) [(0, 9, 12, 13), (0, 9, 15, 21)] :: ((wsL_worth_r1 ++ (wsL_worth_r2 ++ (wsL_worth_r3 ++ (wsL_worth_r4 ++ (wsL_worth_r5 ++ (wsL_worth_r6 ++ (wsL_worth_r7 ++ wsL_worth_r8))))))) ++ wsX30 ++ wsX00 ++ wsX20 ++ wsX10 ++ (vx_atS RX3 42 "java/lang/IllegalArgumentException" ["java/lang/RuntimeException", "java/lang/Exception"]).filter goodWord ++ (vx_atS RX3 69 "java/lang/IllegalStateException" ["java/lang/RuntimeException", "java/lang/Exception"]).filter goodWord)
def wsL_best_r1 : List Cond := [Cond.classLink RL 13 "java/lang/IllegalArgumentException", Cond.classLink RL 21 "java/lang/IllegalStateException", Cond.methodLink RL 49 yX3_best, Cond.instanceMethod yX3_best, Cond.selects RX3 yX3_best yX3_best, Cond.initialized RX3, Cond.code yX3_best cX3_best 5 (some .int), Cond.fieldLink RX3 26 "Stormroof" "outlook" "LStormroof$Outlook;", Cond.fieldLink RX3 12 "Stormroof" "board" "LStormroof$Board;", Cond.fieldLink RX3 19 "Stormroof" "listed" "LStormroof$TurnList;", Cond.methodLink RX3 129 yX3_requireAhead, Cond.instanceMethod yX3_requireAhead, Cond.selects RX3 yX3_requireAhead yX3_requireAhead, Cond.code yX3_requireAhead cX3_requireAhead 3 none, Cond.classLink RX3 38 "java/lang/IllegalArgumentException", Cond.initialized "java/lang/IllegalArgumentException", Cond.classLink RX3 65 "java/lang/IllegalStateException", Cond.initialized "java/lang/IllegalStateException", Cond.methodLink RX3 34 yX3_isOutside, Cond.static yX3_isOutside, Cond.code yX3_isOutside cX3_isOutside 3 (some .boolean), Cond.methodLink RX3 98 yX3_requireAllPlaced, Cond.instanceMethod yX3_requireAllPlaced, Cond.selects RX3 yX3_requireAllPlaced yX3_requireAllPlaced]
def wsL_best_r2 : List Cond := [Cond.code yX3_requireAllPlaced cX3_requireAllPlaced 1 none, Cond.methodLink RX3 57 yX0_isSet, Cond.instanceMethod yX0_isSet, Cond.selects RX0 yX0_isSet yX0_isSet, Cond.initialized RX0, Cond.code yX0_isSet cX0_isSet 1 (some .boolean), Cond.fieldLink RX0 40 "Stormroof$Board" "placed" "I", Cond.fieldLink RX0 31 "Stormroof$Board" "builders" "I", Cond.instanceMethod yX1_look, Cond.initialized RX1, Cond.selects RX1 yX1_look yX1_look, Cond.code yX1_look cX1_look 7 (some .int), Cond.methodLink RX1 46 Lib.Math.max.name, Cond.static Lib.Math.max.name, Cond.initialized "java/lang/Math", Cond.code Lib.Math.max.name Lib.Math.max.code 2 (some .int), Cond.methodLink RX1 24 yX1_listFor, Cond.instanceMethod yX1_listFor, Cond.selects RX1 yX1_listFor yX1_listFor, Cond.code yX1_listFor cX1_listFor 2 (some (.object "Stormroof$TurnList")), Cond.fieldLink RX1 12 "Stormroof$Outlook" "lastTurns" "LStormroof$TurnList;", Cond.fieldLink RX1 18 "Stormroof$Outlook" "nextTurns" "LStormroof$TurnList;", Cond.fieldLink RX1 21 "Stormroof$Outlook" "firstTurns" "LStormroof$TurnList;", Cond.methodLink RX1 28 yX0_listTurns]
def wsL_best_r3 : List Cond := [Cond.instanceMethod yX0_listTurns, Cond.selects RX0 yX0_listTurns yX0_listTurns, Cond.code yX0_listTurns cX0_listTurns 9 none, Cond.fieldLink RX0 46 "Stormroof$Board" "victor" "I", Cond.fieldLink RX0 43 "Stormroof$Board" "turnsPlayed" "I", Cond.fieldLink RX0 27 "Stormroof$Board" "cells" "I", Cond.methodLink RX0 89 yX2_clear, Cond.instanceMethod yX2_clear, Cond.selects RX2 yX2_clear yX2_clear, Cond.initialized RX2, Cond.code yX2_clear cX2_clear 1 none, Cond.fieldLink RX2 15 "Stormroof$TurnList" "size" "I", Cond.methodLink RX0 73 yX0_spotOf, Cond.instanceMethod yX0_spotOf, Cond.selects RX0 yX0_spotOf yX0_spotOf, Cond.code yX0_spotOf cX0_spotOf 4 (some .int), Cond.fieldLink RX0 21 "Stormroof$Board" "spots" "[I", Cond.methodLink RX0 94 yX0_reachOf, Cond.instanceMethod yX0_reachOf, Cond.selects RX0 yX0_reachOf yX0_reachOf, Cond.code yX0_reachOf cX0_reachOf 9 (some .long), Cond.methodLink RX0 137 yX0_stepOf, Cond.instanceMethod yX0_stepOf, Cond.selects RX0 yX0_stepOf yX0_stepOf]
def wsL_best_r4 : List Cond := [Cond.code yX0_stepOf cX0_stepOf 8 (some .long), Cond.fieldLink RX0 49 "Stormroof$Board" "climbingBarred" "Z", Cond.methodLink RX0 141 yX0_neighbourOf, Cond.instanceMethod yX0_neighbourOf, Cond.selects RX0 yX0_neighbourOf yX0_neighbourOf, Cond.code yX0_neighbourOf cX0_neighbourOf 4 (some .int), Cond.fieldLink RX0 11 "Stormroof$Board" "neighbours" "[I", Cond.methodLink RX0 77 yX0_storeysOf, Cond.instanceMethod yX0_storeysOf, Cond.selects RX0 yX0_storeysOf yX0_storeysOf, Cond.code yX0_storeysOf cX0_storeysOf 2 (some .int), Cond.fieldLink RX0 15 "Stormroof$Board" "storeys" "[I", Cond.methodLink RX0 148 yX0_canEnter, Cond.instanceMethod yX0_canEnter, Cond.selects RX0 yX0_canEnter yX0_canEnter, Cond.code yX0_canEnter cX0_canEnter 5 (some .boolean), Cond.methodLink RX0 132 yX0_holderOf, Cond.instanceMethod yX0_holderOf, Cond.selects RX0 yX0_holderOf yX0_holderOf, Cond.code yX0_holderOf cX0_holderOf 2 (some .int), Cond.fieldLink RX0 18 "Stormroof$Board" "holders" "[I", Cond.methodLink RX0 151 yX0_isOpen, Cond.instanceMethod yX0_isOpen, Cond.selects RX0 yX0_isOpen yX0_isOpen]
def wsL_best_r5 : List Cond := [Cond.code yX0_isOpen cX0_isOpen 2 (some .boolean), Cond.methodLink RX0 117 yX0_powerOf, Cond.instanceMethod yX0_powerOf, Cond.selects RX0 yX0_powerOf yX0_powerOf, Cond.code yX0_powerOf cX0_powerOf 2 (some .int), Cond.fieldLink RX0 34 "Stormroof$Board" "firstPower" "I", Cond.fieldLink RX0 37 "Stormroof$Board" "secondPower" "I", Cond.methodLink RX0 98 yX0_listBuildings, Cond.instanceMethod yX0_listBuildings, Cond.selects RX0 yX0_listBuildings yX0_listBuildings, Cond.code yX0_listBuildings cX0_listBuildings 9 none, Cond.methodLink RX0 109 yX0_asideOf, Cond.instanceMethod yX0_asideOf, Cond.selects RX0 yX0_asideOf yX0_asideOf, Cond.code yX0_asideOf cX0_asideOf 4 (some .int), Cond.methodLink RX0 154 yX0_isOpenBehind, Cond.instanceMethod yX0_isOpenBehind, Cond.selects RX0 yX0_isOpenBehind yX0_isOpenBehind, Cond.code yX0_isOpenBehind cX0_isOpenBehind 4 (some .boolean), Cond.methodLink RX0 102 yX2_add, Cond.instanceMethod yX2_add, Cond.selects RX2 yX2_add yX2_add, Cond.code yX2_add cX2_add 2 none, Cond.fieldLink RX2 11 "Stormroof$TurnList" "numbers" "[I"]
def wsL_best_r6 : List Cond := [Cond.methodLink RX1 38 yX2_at, Cond.instanceMethod yX2_at, Cond.selects RX2 yX2_at yX2_at, Cond.code yX2_at cX2_at 2 (some .int), Cond.methodLink RX1 42 yX1_worthOf, Cond.instanceMethod yX1_worthOf, Cond.selects RX1 yX1_worthOf yX1_worthOf, Cond.code yX1_worthOf cX1_worthOf 5 (some .int), Cond.methodLink RX1 52 yX0_perform, Cond.instanceMethod yX0_perform, Cond.selects RX0 yX0_perform yX0_perform, Cond.code yX0_perform cX0_perform 7 none, Cond.methodLink RX0 106 yX0_destinationOf, Cond.static yX0_destinationOf, Cond.code yX0_destinationOf cX0_destinationOf 1 (some .int), Cond.methodLink RX0 113 yX0_remember, Cond.instanceMethod yX0_remember, Cond.selects RX0 yX0_remember yX0_remember, Cond.code yX0_remember cX0_remember 5 none, Cond.fieldLink RX0 24 "Stormroof$Board" "past" "[I", Cond.methodLink RX0 126 yX0_builtCellOf, Cond.static yX0_builtCellOf, Cond.code yX0_builtCellOf cX0_builtCellOf 2 (some .int), Cond.methodLink RX0 120 yX0_carry]
def wsL_best_r7 : List Cond := [Cond.instanceMethod yX0_carry, Cond.selects RX0 yX0_carry yX0_carry, Cond.code yX0_carry cX0_carry 6 none, Cond.methodLink RX0 135 yX0_clear, Cond.instanceMethod yX0_clear, Cond.selects RX0 yX0_clear yX0_clear, Cond.code yX0_clear cX0_clear 2 none, Cond.methodLink RX0 81 yX0_put, Cond.instanceMethod yX0_put, Cond.selects RX0 yX0_put yX0_put, Cond.code yX0_put cX0_put 4 none, Cond.methodLink RX0 123 yX0_setStoreys, Cond.instanceMethod yX0_setStoreys, Cond.selects RX0 yX0_setStoreys yX0_setStoreys, Cond.code yX0_setStoreys cX0_setStoreys 3 none, Cond.methodLink RX0 85 yX0_hasTurn, Cond.instanceMethod yX0_hasTurn, Cond.selects RX0 yX0_hasTurn yX0_hasTurn, Cond.code yX0_hasTurn cX0_hasTurn 7 (some .boolean), Cond.methodLink RX0 144 yX0_canBuild, Cond.instanceMethod yX0_canBuild, Cond.selects RX0 yX0_canBuild yX0_canBuild, Cond.code yX0_canBuild cX0_canBuild 6 (some .boolean), Cond.methodLink RX1 59 yX1_look]
def wsL_best_r8 : List Cond := [Cond.methodLink RX1 63 yX0_undo, Cond.instanceMethod yX0_undo, Cond.selects RX0 yX0_undo yX0_undo, Cond.code yX0_undo cX0_undo 3 none, Cond.methodLink RX0 129 yX0_carryBack, Cond.instanceMethod yX0_carryBack, Cond.selects RX0 yX0_carryBack yX0_carryBack, Cond.code yX0_carryBack cX0_carryBack 6 none, Cond.methodLink RX3 101 yX0_listTurns, Cond.methodLink RX3 113 yX2_at]
def wsL_best : List Cond := .codeWith yL_best cL_best 4 (some .int) [(0, 9, 12, 13), (0, 9, 15, 21)] :: ((wsL_best_r1 ++ (wsL_best_r2 ++ (wsL_best_r3 ++ (wsL_best_r4 ++ (wsL_best_r5 ++ (wsL_best_r6 ++ (wsL_best_r7 ++ wsL_best_r8))))))) ++ wsX30 ++ wsX20 ++ wsX00 ++ wsX10 ++ (vx_atS RX3 42 "java/lang/IllegalArgumentException" ["java/lang/RuntimeException", "java/lang/Exception"]).filter goodWord ++ (vx_atS RX3 69 "java/lang/IllegalStateException" ["java/lang/RuntimeException", "java/lang/Exception"]).filter goodWord)
def wsL_reached_r1 : List Cond := [Cond.classLink RL 19 "java/lang/IndexOutOfBoundsException", Cond.methodLink RL 52 yX3_reached, Cond.instanceMethod yX3_reached, Cond.selects RX3 yX3_reached yX3_reached, Cond.initialized RX3, Cond.code yX3_reached cX3_reached 2 (some .int), Cond.classLink RX3 108 "java/lang/IndexOutOfBoundsException", Cond.initialized "java/lang/IndexOutOfBoundsException", Cond.fieldLink RX3 12 "Stormroof" "board" "LStormroof$Board;", Cond.methodLink RX3 34 yX3_isOutside, Cond.static yX3_isOutside, Cond.code yX3_isOutside cX3_isOutside 3 (some .boolean), Cond.methodLink RX3 142 yX0_storeysUnder, Cond.instanceMethod yX0_storeysUnder, Cond.selects RX0 yX0_storeysUnder yX0_storeysUnder, Cond.initialized RX0, Cond.code yX0_storeysUnder cX0_storeysUnder 4 (some .int), Cond.fieldLink RX0 31 "Stormroof$Board" "builders" "I", Cond.methodLink RX0 73 yX0_spotOf, Cond.instanceMethod yX0_spotOf, Cond.selects RX0 yX0_spotOf yX0_spotOf, Cond.code yX0_spotOf cX0_spotOf 4 (some .int), Cond.fieldLink RX0 21 "Stormroof$Board" "spots" "[I", Cond.methodLink RX0 77 yX0_storeysOf]
def wsL_reached_r2 : List Cond := [Cond.instanceMethod yX0_storeysOf, Cond.selects RX0 yX0_storeysOf yX0_storeysOf, Cond.code yX0_storeysOf cX0_storeysOf 2 (some .int), Cond.fieldLink RX0 15 "Stormroof$Board" "storeys" "[I"]
def wsL_reached : List Cond := .codeWith yL_reached cL_reached 4 (some .int) [(0, 9, 12, 19)] :: ((wsL_reached_r1 ++ wsL_reached_r2) ++ wsX30 ++ wsX00 ++ (vx_atS RX3 112 "java/lang/IndexOutOfBoundsException" ["java/lang/RuntimeException", "java/lang/Exception"]).filter goodWord)
def wsL_law0_r1 : List Cond := [Cond.classLink RL 8 RX3, Cond.instantiable RX3 3, Cond.initialized RX3, Cond.classLink RL 56 RX4, Cond.instantiable RX4 16, Cond.initialized RX4, Cond.arrayClass .long, Cond.methodLink RL 55 yX3_init, Cond.instanceMethod yX3_init, Cond.code yX3_init cX3_init 1 none, Cond.methodLink RX3 3 objectInit, Cond.instanceMethod objectInit, Cond.code objectInit ⟨#[0xb1]⟩ 1 none, Cond.classLink RX3 9 RX0, Cond.instantiable RX0 13, Cond.initialized RX0, Cond.fieldLink RX3 12 "Stormroof" "board" "LStormroof$Board;", Cond.classLink RX3 16 RX2, Cond.instantiable RX2 2, Cond.initialized RX2, Cond.fieldLink RX3 19 "Stormroof" "listed" "LStormroof$TurnList;", Cond.classLink RX3 23 RX1, Cond.instantiable RX1 3, Cond.initialized RX1]
def wsL_law0_r2 : List Cond := [Cond.fieldLink RX3 26 "Stormroof" "outlook" "LStormroof$Outlook;", Cond.instanceMethod yX0_init, Cond.code yX0_init cX0_init 1 none, Cond.methodLink RX0 3 objectInit, Cond.arrayClass .int, Cond.fieldLink RX0 11 "Stormroof$Board" "neighbours" "[I", Cond.fieldLink RX0 15 "Stormroof$Board" "storeys" "[I", Cond.fieldLink RX0 18 "Stormroof$Board" "holders" "[I", Cond.fieldLink RX0 21 "Stormroof$Board" "spots" "[I", Cond.fieldLink RX0 24 "Stormroof$Board" "past" "[I", Cond.instanceMethod yX2_init, Cond.code yX2_init cX2_init 1 none, Cond.methodLink RX2 3 objectInit, Cond.fieldLink RX2 11 "Stormroof$TurnList" "numbers" "[I", Cond.instanceMethod yX1_init, Cond.code yX1_init cX1_init 1 none, Cond.methodLink RX1 3 objectInit, Cond.classLink RX1 9 RX2, Cond.fieldLink RX1 12 "Stormroof$Outlook" "lastTurns" "LStormroof$TurnList;", Cond.fieldLink RX1 18 "Stormroof$Outlook" "nextTurns" "LStormroof$TurnList;", Cond.fieldLink RX1 21 "Stormroof$Outlook" "firstTurns" "LStormroof$TurnList;", Cond.methodLink RX3 30 yX0_start, Cond.instanceMethod yX0_start, Cond.selects RX0 yX0_start yX0_start]
def wsL_law0_r3 : List Cond := [Cond.code yX0_start cX0_start 8 none, Cond.fieldLink RX0 27 "Stormroof$Board" "cells" "I", Cond.fieldLink RX0 31 "Stormroof$Board" "builders" "I", Cond.fieldLink RX0 34 "Stormroof$Board" "firstPower" "I", Cond.fieldLink RX0 37 "Stormroof$Board" "secondPower" "I", Cond.fieldLink RX0 40 "Stormroof$Board" "placed" "I", Cond.fieldLink RX0 43 "Stormroof$Board" "turnsPlayed" "I", Cond.fieldLink RX0 46 "Stormroof$Board" "victor" "I", Cond.fieldLink RX0 49 "Stormroof$Board" "climbingBarred" "Z", Cond.methodLink RX0 53 yJ7_fill_53178, Cond.static yJ7_fill_53178, Cond.initialized RJ7, Cond.code yJ7_fill_53178 cJ7_fill_53178 4 none, Cond.methodLink RX0 59 yX0_joinNeighbours, Cond.instanceMethod yX0_joinNeighbours, Cond.selects RX0 yX0_joinNeighbours yX0_joinNeighbours, Cond.code yX0_joinNeighbours cX0_joinNeighbours 10 none, Cond.fieldLink RX0 63 "Stormroof$Board" "DOWN" "[I", Cond.fieldLink RX0 66 "Stormroof$Board" "ACROSS" "[I", Cond.methodLink RL 58 yX4_init, Cond.instanceMethod yX4_init, Cond.code yX4_init cX4_init 1 none, Cond.methodLink RX4 1 objectInit, Cond.fieldLink RX4 7 "StormroofModel" "rows" "I"]
def wsL_law0_r4 : List Cond := [Cond.fieldLink RX4 13 "StormroofModel" "columns" "I", Cond.fieldLink RX4 16 "StormroofModel" "builders" "I", Cond.fieldLink RX4 19 "StormroofModel" "powers" "[I", Cond.fieldLink RX4 23 "StormroofModel" "heights" "[I", Cond.fieldLink RX4 26 "StormroofModel" "at" "[I", Cond.fieldLink RX4 29 "StormroofModel" "movers" "[I", Cond.arrayClass .boolean, Cond.fieldLink RX4 32 "StormroofModel" "hasClimbed" "[Z", Cond.fieldLink RX4 36 "StormroofModel" "winner" "I", Cond.fieldLink RX4 39 "StormroofModel" "kept" "[I", Cond.fieldLink RX4 42 "StormroofModel" "numbers" "[I", Cond.fieldLink RX4 45 "StormroofModel" "bests" "[I", Cond.methodLink RX4 48 yX4_lay, Cond.instanceMethod yX4_lay, Cond.selects RX4 yX4_lay yX4_lay, Cond.code yX4_lay cX4_lay 2 none, Cond.fieldLink RX4 62 "StormroofModel" "placed" "I", Cond.fieldLink RX4 65 "StormroofModel" "played" "I", Cond.methodLink RL 59 yL_begin, Cond.static yL_begin, Cond.initialized RL, Cond.codeWith yL_begin cL_begin 8 (some .int) [(0, 16, 19, 13)], Cond.classLink RL 13 "java/lang/IllegalArgumentException", Cond.methodLink RL 7 yX3_begin]
def wsL_law0_r5 : List Cond := [Cond.instanceMethod yX3_begin, Cond.selects RX3 yX3_begin yX3_begin, Cond.code yX3_begin cX3_begin 6 (some .int), Cond.classLink RX3 38 "java/lang/IllegalArgumentException", Cond.initialized "java/lang/IllegalArgumentException", Cond.methodLink RX3 34 yX3_isOutside, Cond.static yX3_isOutside, Cond.code yX3_isOutside cX3_isOutside 3 (some .boolean), Cond.methodLink RL 64 yX4_begin, Cond.instanceMethod yX4_begin, Cond.selects RX4 yX4_begin yX4_begin, Cond.code yX4_begin cX4_begin 8 (some .int), Cond.methodLink RX4 58 yX4_in, Cond.static yX4_in, Cond.code yX4_in cX4_in 3 (some .boolean), Cond.methodLink RX4 68 yX4_goesWell, Cond.instanceMethod yX4_goesWell, Cond.selects RX4 yX4_goesWell yX4_goesWell, Cond.code yX4_goesWell cX4_goesWell 2 (some .boolean), Cond.fieldLink RX4 51 "StormroofModel" "thrown" "I", Cond.methodLink RX4 54 yX4_cells, Cond.instanceMethod yX4_cells, Cond.selects RX4 yX4_cells yX4_cells, Cond.code yX4_cells cX4_cells 1 (some .int)]
def wsL_law0_r6 : List Cond := [Cond.methodLink RL 65 yX4_thrown, Cond.instanceMethod yX4_thrown, Cond.selects RX4 yX4_thrown yX4_thrown, Cond.code yX4_thrown cX4_thrown 1 (some .int), Cond.methodLink RL 68 yL_place, Cond.static yL_place, Cond.codeWith yL_place cL_place 4 (some .int) [(0, 9, 12, 19), (0, 9, 15, 21)], Cond.classLink RL 19 "java/lang/IndexOutOfBoundsException", Cond.classLink RL 21 "java/lang/IllegalStateException", Cond.methodLink RL 15 yX3_place, Cond.instanceMethod yX3_place, Cond.selects RX3 yX3_place yX3_place, Cond.code yX3_place cX3_place 2 (some .int), Cond.classLink RX3 65 "java/lang/IllegalStateException", Cond.initialized "java/lang/IllegalStateException", Cond.methodLink RX3 53 yX3_requireCell, Cond.instanceMethod yX3_requireCell, Cond.selects RX3 yX3_requireCell yX3_requireCell, Cond.code yX3_requireCell cX3_requireCell 2 none, Cond.classLink RX3 108 "java/lang/IndexOutOfBoundsException", Cond.initialized "java/lang/IndexOutOfBoundsException", Cond.methodLink RX3 57 yX0_isSet, Cond.instanceMethod yX0_isSet, Cond.selects RX0 yX0_isSet yX0_isSet]
def wsL_law0_r7 : List Cond := [Cond.code yX0_isSet cX0_isSet 1 (some .boolean), Cond.methodLink RX3 61 yX0_isOpen, Cond.instanceMethod yX0_isOpen, Cond.selects RX0 yX0_isOpen yX0_isOpen, Cond.code yX0_isOpen cX0_isOpen 2 (some .boolean), Cond.methodLink RX3 70 yX0_addBuilder, Cond.instanceMethod yX0_addBuilder, Cond.selects RX0 yX0_addBuilder yX0_addBuilder, Cond.code yX0_addBuilder cX0_addBuilder 4 none, Cond.methodLink RX0 81 yX0_put, Cond.instanceMethod yX0_put, Cond.selects RX0 yX0_put yX0_put, Cond.code yX0_put cX0_put 4 none, Cond.methodLink RX0 69 yX0_isSet, Cond.methodLink RX0 85 yX0_hasTurn, Cond.instanceMethod yX0_hasTurn, Cond.selects RX0 yX0_hasTurn yX0_hasTurn, Cond.code yX0_hasTurn cX0_hasTurn 7 (some .boolean), Cond.methodLink RX0 73 yX0_spotOf, Cond.instanceMethod yX0_spotOf, Cond.selects RX0 yX0_spotOf yX0_spotOf, Cond.code yX0_spotOf cX0_spotOf 4 (some .int), Cond.methodLink RX0 137 yX0_stepOf, Cond.instanceMethod yX0_stepOf]
def wsL_law0_r8 : List Cond := [Cond.selects RX0 yX0_stepOf yX0_stepOf, Cond.code yX0_stepOf cX0_stepOf 8 (some .long), Cond.methodLink RX0 141 yX0_neighbourOf, Cond.instanceMethod yX0_neighbourOf, Cond.selects RX0 yX0_neighbourOf yX0_neighbourOf, Cond.code yX0_neighbourOf cX0_neighbourOf 4 (some .int), Cond.methodLink RX0 77 yX0_storeysOf, Cond.instanceMethod yX0_storeysOf, Cond.selects RX0 yX0_storeysOf yX0_storeysOf, Cond.code yX0_storeysOf cX0_storeysOf 2 (some .int), Cond.methodLink RX0 148 yX0_canEnter, Cond.instanceMethod yX0_canEnter, Cond.selects RX0 yX0_canEnter yX0_canEnter, Cond.code yX0_canEnter cX0_canEnter 5 (some .boolean), Cond.methodLink RX0 132 yX0_holderOf, Cond.instanceMethod yX0_holderOf, Cond.selects RX0 yX0_holderOf yX0_holderOf, Cond.code yX0_holderOf cX0_holderOf 2 (some .int), Cond.methodLink RX0 151 yX0_isOpen, Cond.methodLink RX0 117 yX0_powerOf, Cond.instanceMethod yX0_powerOf, Cond.selects RX0 yX0_powerOf yX0_powerOf, Cond.code yX0_powerOf cX0_powerOf 2 (some .int), Cond.methodLink RX0 144 yX0_canBuild]
def wsL_law0_r9 : List Cond := [Cond.instanceMethod yX0_canBuild, Cond.selects RX0 yX0_canBuild yX0_canBuild, Cond.code yX0_canBuild cX0_canBuild 6 (some .boolean), Cond.methodLink RX0 109 yX0_asideOf, Cond.instanceMethod yX0_asideOf, Cond.selects RX0 yX0_asideOf yX0_asideOf, Cond.code yX0_asideOf cX0_asideOf 4 (some .int), Cond.methodLink RX0 154 yX0_isOpenBehind, Cond.instanceMethod yX0_isOpenBehind, Cond.selects RX0 yX0_isOpenBehind yX0_isOpenBehind, Cond.code yX0_isOpenBehind cX0_isOpenBehind 4 (some .boolean), Cond.methodLink RX3 73 yX0_mover, Cond.instanceMethod yX0_mover, Cond.selects RX0 yX0_mover yX0_mover, Cond.code yX0_mover cX0_mover 1 (some .int), Cond.methodLink RL 71 yX4_place, Cond.instanceMethod yX4_place, Cond.selects RX4 yX4_place yX4_place, Cond.code yX4_place cX4_place 3 (some .int), Cond.methodLink RX4 95 yX4_isCell, Cond.instanceMethod yX4_isCell, Cond.selects RX4 yX4_isCell yX4_isCell, Cond.code yX4_isCell cX4_isCell 2 (some .boolean), Cond.methodLink RX4 109 yX4_isPlaced]
def wsL_law0_r10 : List Cond := [Cond.instanceMethod yX4_isPlaced, Cond.selects RX4 yX4_isPlaced yX4_isPlaced, Cond.code yX4_isPlaced cX4_isPlaced 1 (some .boolean), Cond.methodLink RX4 80 yX4_builderIn, Cond.instanceMethod yX4_builderIn, Cond.selects RX4 yX4_builderIn yX4_builderIn, Cond.code yX4_builderIn cX4_builderIn 5 (some .int), Cond.methodLink RX4 116 yX4_judge, Cond.instanceMethod yX4_judge, Cond.selects RX4 yX4_judge yX4_judge, Cond.code yX4_judge cX4_judge 1 none, Cond.methodLink RX4 113 yX4_nextTurn, Cond.instanceMethod yX4_nextTurn, Cond.selects RX4 yX4_nextTurn yX4_nextTurn, Cond.code yX4_nextTurn cX4_nextTurn 5 (some .int), Cond.methodLink RX4 98 yX4_canCome, Cond.instanceMethod yX4_canCome, Cond.selects RX4 yX4_canCome yX4_canCome, Cond.code yX4_canCome cX4_canCome 9 (some .boolean), Cond.methodLink RX4 86 yX4_isStep, Cond.instanceMethod yX4_isStep, Cond.selects RX4 yX4_isStep yX4_isStep, Cond.code yX4_isStep cX4_isStep 5 (some .boolean), Cond.methodLink RX4 72 yX4_high]
def wsL_law0_r11 : List Cond := [Cond.instanceMethod yX4_high, Cond.selects RX4 yX4_high yX4_high, Cond.code yX4_high cX4_high 3 (some .int), Cond.methodLink RX4 76 yX4_areBeside, Cond.instanceMethod yX4_areBeside, Cond.selects RX4 yX4_areBeside yX4_areBeside, Cond.code yX4_areBeside cX4_areBeside 5 (some .boolean), Cond.methodLink RX4 89 yX4_mayEnter, Cond.instanceMethod yX4_mayEnter, Cond.selects RX4 yX4_mayEnter yX4_mayEnter, Cond.code yX4_mayEnter cX4_mayEnter 7 (some .boolean), Cond.methodLink RX4 83 yX4_beyond, Cond.instanceMethod yX4_beyond, Cond.selects RX4 yX4_beyond yX4_beyond, Cond.code yX4_beyond cX4_beyond 5 (some .int), Cond.methodLink RX4 92 yX4_isWinning, Cond.instanceMethod yX4_isWinning, Cond.selects RX4 yX4_isWinning yX4_isWinning, Cond.code yX4_isWinning cX4_isWinning 5 (some .boolean), Cond.methodLink RX4 106 yX4_isTurn, Cond.instanceMethod yX4_isTurn, Cond.selects RX4 yX4_isTurn yX4_isTurn, Cond.code yX4_isTurn cX4_isTurn 9 (some .boolean), Cond.methodLink RX4 102 yX4_canBuild]
def wsL_law0_r12 : List Cond := [Cond.instanceMethod yX4_canBuild, Cond.selects RX4 yX4_canBuild yX4_canBuild, Cond.code yX4_canBuild cX4_canBuild 8 (some .boolean), Cond.methodLink RX4 119 yX4_onTurnNow, Cond.instanceMethod yX4_onTurnNow, Cond.selects RX4 yX4_onTurnNow yX4_onTurnNow, Cond.code yX4_onTurnNow cX4_onTurnNow 1 (some .int), Cond.methodLink RL 72 yL_raise, Cond.static yL_raise, Cond.codeWith yL_raise cL_raise 5 (some .int) [(0, 10, 13, 19), (0, 10, 17, 13), (0, 10, 21, 21)], Cond.methodLink RL 23 yX3_raise, Cond.instanceMethod yX3_raise, Cond.selects RX3 yX3_raise yX3_raise, Cond.code yX3_raise cX3_raise 4 (some .int), Cond.methodLink RX3 79 yX0_holderOf, Cond.methodLink RX3 85 yX0_storeysOf, Cond.methodLink RX3 88 yX0_setStoreys, Cond.instanceMethod yX0_setStoreys, Cond.selects RX0 yX0_setStoreys yX0_setStoreys, Cond.code yX0_setStoreys cX0_setStoreys 3 none, Cond.methodLink RL 75 yX4_raise, Cond.instanceMethod yX4_raise, Cond.selects RX4 yX4_raise yX4_raise, Cond.code yX4_raise cX4_raise 5 (some .int)]
def wsL_law0_r13 : List Cond := [Cond.methodLink RL 76 yX3_onTurn, Cond.instanceMethod yX3_onTurn, Cond.selects RX3 yX3_onTurn yX3_onTurn, Cond.code yX3_onTurn cX3_onTurn 1 (some .int), Cond.methodLink RL 79 yX4_onTurn, Cond.instanceMethod yX4_onTurn, Cond.selects RX4 yX4_onTurn yX4_onTurn, Cond.code yX4_onTurn cX4_onTurn 1 (some .int), Cond.methodLink RL 80 yX3_winner, Cond.instanceMethod yX3_winner, Cond.selects RX3 yX3_winner yX3_winner, Cond.code yX3_winner cX3_winner 1 (some .int), Cond.methodLink RL 83 yX4_winner, Cond.instanceMethod yX4_winner, Cond.selects RX4 yX4_winner yX4_winner, Cond.code yX4_winner cX4_winner 1 (some .int), Cond.methodLink RL 84 yL_height, Cond.static yL_height, Cond.codeWith yL_height cL_height 4 (some .int) [(0, 9, 12, 19)], Cond.methodLink RL 27 yX3_height, Cond.instanceMethod yX3_height, Cond.selects RX3 yX3_height yX3_height, Cond.code yX3_height cX3_height 2 (some .int), Cond.methodLink RL 86 yX4_height]
def wsL_law0_r14 : List Cond := [Cond.instanceMethod yX4_height, Cond.selects RX4 yX4_height yX4_height, Cond.code yX4_height cX4_height 2 (some .int), Cond.methodLink RL 87 yL_builderAt, Cond.static yL_builderAt, Cond.codeWith yL_builderAt cL_builderAt 4 (some .int) [(0, 9, 12, 19)], Cond.methodLink RL 30 yX3_builderAt, Cond.instanceMethod yX3_builderAt, Cond.selects RX3 yX3_builderAt yX3_builderAt, Cond.code yX3_builderAt cX3_builderAt 2 (some .int), Cond.methodLink RL 89 yX4_builderAt, Cond.instanceMethod yX4_builderAt, Cond.selects RX4 yX4_builderAt yX4_builderAt, Cond.code yX4_builderAt cX4_builderAt 3 (some .int), Cond.methodLink RL 90 yX3_played, Cond.instanceMethod yX3_played, Cond.selects RX3 yX3_played yX3_played, Cond.code yX3_played cX3_played 1 (some .int), Cond.methodLink RL 93 yX4_played, Cond.instanceMethod yX4_played, Cond.selects RX4 yX4_played yX4_played, Cond.code yX4_played cX4_played 1 (some .int), Cond.methodLink RL 94 yL_turnCount, Cond.static yL_turnCount]
def wsL_law0_r15 : List Cond := [Cond.codeWith yL_turnCount cL_turnCount 3 (some .int) [(0, 8, 11, 21)], Cond.methodLink RL 33 yX3_turnCount, Cond.instanceMethod yX3_turnCount, Cond.selects RX3 yX3_turnCount yX3_turnCount, Cond.code yX3_turnCount cX3_turnCount 1 (some .int), Cond.methodLink RX3 98 yX3_requireAllPlaced, Cond.instanceMethod yX3_requireAllPlaced, Cond.selects RX3 yX3_requireAllPlaced yX3_requireAllPlaced, Cond.code yX3_requireAllPlaced cX3_requireAllPlaced 1 none, Cond.methodLink RX3 101 yX0_listTurns, Cond.instanceMethod yX0_listTurns, Cond.selects RX0 yX0_listTurns yX0_listTurns, Cond.code yX0_listTurns cX0_listTurns 9 none, Cond.methodLink RX0 89 yX2_clear, Cond.instanceMethod yX2_clear, Cond.selects RX2 yX2_clear yX2_clear, Cond.code yX2_clear cX2_clear 1 none, Cond.fieldLink RX2 15 "Stormroof$TurnList" "size" "I", Cond.methodLink RX0 94 yX0_reachOf, Cond.instanceMethod yX0_reachOf, Cond.selects RX0 yX0_reachOf yX0_reachOf, Cond.code yX0_reachOf cX0_reachOf 9 (some .long), Cond.methodLink RX0 98 yX0_listBuildings, Cond.instanceMethod yX0_listBuildings]
def wsL_law0_r16 : List Cond := [Cond.selects RX0 yX0_listBuildings yX0_listBuildings, Cond.code yX0_listBuildings cX0_listBuildings 9 none, Cond.methodLink RX0 102 yX2_add, Cond.instanceMethod yX2_add, Cond.selects RX2 yX2_add yX2_add, Cond.code yX2_add cX2_add 2 none, Cond.methodLink RL 97 yX4_turnCount, Cond.instanceMethod yX4_turnCount, Cond.selects RX4 yX4_turnCount yX4_turnCount, Cond.code yX4_turnCount cX4_turnCount 1 (some .int), Cond.methodLink RX4 122 yX4_countTurns, Cond.instanceMethod yX4_countTurns, Cond.selects RX4 yX4_countTurns yX4_countTurns, Cond.code yX4_countTurns cX4_countTurns 3 (some .int), Cond.methodLink RL 98 yL_turnAt, Cond.static yL_turnAt, Cond.codeWith yL_turnAt cL_turnAt 4 (some .int) [(0, 9, 12, 19), (0, 9, 15, 21)], Cond.methodLink RL 37 yX3_turnAt, Cond.instanceMethod yX3_turnAt, Cond.selects RX3 yX3_turnAt yX3_turnAt, Cond.code yX3_turnAt cX3_turnAt 2 (some .int), Cond.methodLink RX3 113 yX2_at, Cond.instanceMethod yX2_at, Cond.selects RX2 yX2_at yX2_at]
def wsL_law0_r17 : List Cond := [Cond.code yX2_at cX2_at 2 (some .int), Cond.methodLink RL 100 yX4_turnAt, Cond.instanceMethod yX4_turnAt, Cond.selects RX4 yX4_turnAt yX4_turnAt, Cond.code yX4_turnAt cX4_turnAt 5 (some .int), Cond.methodLink RL 101 yL_play, Cond.static yL_play, Cond.codeWith yL_play cL_play 4 (some .int) [(0, 9, 12, 21)], Cond.methodLink RL 40 yX3_play, Cond.instanceMethod yX3_play, Cond.selects RX3 yX3_play yX3_play, Cond.code yX3_play cX3_play 2 (some .int), Cond.methodLink RX3 116 yX2_holds, Cond.instanceMethod yX2_holds, Cond.selects RX2 yX2_holds yX2_holds, Cond.code yX2_holds cX2_holds 3 (some .boolean), Cond.methodLink RX2 19 yX2_at, Cond.methodLink RX3 121 yX0_perform, Cond.instanceMethod yX0_perform, Cond.selects RX0 yX0_perform yX0_perform, Cond.code yX0_perform cX0_perform 7 none, Cond.methodLink RX0 106 yX0_destinationOf, Cond.static yX0_destinationOf, Cond.code yX0_destinationOf cX0_destinationOf 1 (some .int)]
def wsL_law0_r18 : List Cond := [Cond.methodLink RX0 113 yX0_remember, Cond.instanceMethod yX0_remember, Cond.selects RX0 yX0_remember yX0_remember, Cond.code yX0_remember cX0_remember 5 none, Cond.methodLink RX0 126 yX0_builtCellOf, Cond.static yX0_builtCellOf, Cond.code yX0_builtCellOf cX0_builtCellOf 2 (some .int), Cond.methodLink RX0 120 yX0_carry, Cond.instanceMethod yX0_carry, Cond.selects RX0 yX0_carry yX0_carry, Cond.code yX0_carry cX0_carry 6 none, Cond.methodLink RX0 135 yX0_clear, Cond.instanceMethod yX0_clear, Cond.selects RX0 yX0_clear yX0_clear, Cond.code yX0_clear cX0_clear 2 none, Cond.methodLink RX0 123 yX0_setStoreys, Cond.methodLink RL 103 yX4_play, Cond.instanceMethod yX4_play, Cond.selects RX4 yX4_play yX4_play, Cond.code yX4_play cX4_play 2 (some .int), Cond.methodLink RX4 125 yX4_keep, Cond.instanceMethod yX4_keep, Cond.selects RX4 yX4_keep yX4_keep, Cond.code yX4_keep cX4_keep 2 none]
def wsL_law0_r19 : List Cond := [Cond.methodLink RX4 128 yX4_act, Cond.instanceMethod yX4_act, Cond.selects RX4 yX4_act yX4_act, Cond.code yX4_act cX4_act 9 none, Cond.methodLink RL 104 yL_takeBack, Cond.static yL_takeBack, Cond.codeWith yL_takeBack cL_takeBack 3 (some .int) [(0, 8, 11, 21)], Cond.methodLink RL 43 yX3_takeBack, Cond.instanceMethod yX3_takeBack, Cond.selects RX3 yX3_takeBack yX3_takeBack, Cond.code yX3_takeBack cX3_takeBack 1 (some .int), Cond.methodLink RX3 126 yX0_undo, Cond.instanceMethod yX0_undo, Cond.selects RX0 yX0_undo yX0_undo, Cond.code yX0_undo cX0_undo 3 none, Cond.methodLink RX0 129 yX0_carryBack, Cond.instanceMethod yX0_carryBack, Cond.selects RX0 yX0_carryBack yX0_carryBack, Cond.code yX0_carryBack cX0_carryBack 6 none, Cond.methodLink RL 106 yX4_takeBack, Cond.instanceMethod yX4_takeBack, Cond.selects RX4 yX4_takeBack yX4_takeBack, Cond.code yX4_takeBack cX4_takeBack 2 (some .int), Cond.methodLink RL 107 yL_worth]
def wsL_law0_r20 : List Cond := [Cond.static yL_worth, Cond.codeWith yL_worth cL_worth 4 (some .int) [(0, 9, 12, 13), (0, 9, 15, 21)], Cond.methodLink RL 46 yX3_worth, Cond.instanceMethod yX3_worth, Cond.selects RX3 yX3_worth yX3_worth, Cond.code yX3_worth cX3_worth 2 (some .int), Cond.methodLink RX3 129 yX3_requireAhead, Cond.instanceMethod yX3_requireAhead, Cond.selects RX3 yX3_requireAhead yX3_requireAhead, Cond.code yX3_requireAhead cX3_requireAhead 3 none, Cond.instanceMethod yX1_look, Cond.selects RX1 yX1_look yX1_look, Cond.code yX1_look cX1_look 7 (some .int), Cond.methodLink RX1 46 Lib.Math.max.name, Cond.static Lib.Math.max.name, Cond.initialized "java/lang/Math", Cond.code Lib.Math.max.name Lib.Math.max.code 2 (some .int), Cond.methodLink RX1 24 yX1_listFor, Cond.instanceMethod yX1_listFor, Cond.selects RX1 yX1_listFor yX1_listFor, Cond.code yX1_listFor cX1_listFor 2 (some (.object "Stormroof$TurnList")), Cond.methodLink RX1 28 yX0_listTurns, Cond.methodLink RX1 38 yX2_at, Cond.methodLink RX1 42 yX1_worthOf]
def wsL_law0_r21 : List Cond := [Cond.instanceMethod yX1_worthOf, Cond.selects RX1 yX1_worthOf yX1_worthOf, Cond.code yX1_worthOf cX1_worthOf 5 (some .int), Cond.methodLink RX1 52 yX0_perform, Cond.methodLink RX1 59 yX1_look, Cond.methodLink RX1 63 yX0_undo, Cond.methodLink RL 109 yX4_worth, Cond.instanceMethod yX4_worth, Cond.selects RX4 yX4_worth yX4_worth, Cond.code yX4_worth cX4_worth 2 (some .int), Cond.methodLink RX4 145 yX4_canLook, Cond.instanceMethod yX4_canLook, Cond.selects RX4 yX4_canLook yX4_canLook, Cond.code yX4_canLook cX4_canLook 2 (some .boolean), Cond.methodLink RX4 148 yX4_look, Cond.instanceMethod yX4_look, Cond.selects RX4 yX4_look yX4_look, Cond.code yX4_look cX4_look 5 (some .int), Cond.methodLink RX4 135 yX4_open, Cond.instanceMethod yX4_open, Cond.selects RX4 yX4_open yX4_open, Cond.code yX4_open cX4_open 2 none, Cond.methodLink RX4 139 yX4_take, Cond.instanceMethod yX4_take]
def wsL_law0_r22 : List Cond := [Cond.selects RX4 yX4_take yX4_take, Cond.code yX4_take cX4_take 3 none, Cond.fieldLink RX4 132 "StormroofModel" "found" "I", Cond.methodLink RX4 142 yX4_copy, Cond.instanceMethod yX4_copy, Cond.selects RX4 yX4_copy yX4_copy, Cond.code yX4_copy cX4_copy 4 none, Cond.methodLink RL 110 yL_best, Cond.static yL_best, Cond.codeWith yL_best cL_best 4 (some .int) [(0, 9, 12, 13), (0, 9, 15, 21)], Cond.methodLink RL 49 yX3_best, Cond.instanceMethod yX3_best, Cond.selects RX3 yX3_best yX3_best, Cond.code yX3_best cX3_best 5 (some .int), Cond.methodLink RL 112 yX4_best, Cond.instanceMethod yX4_best, Cond.selects RX4 yX4_best yX4_best, Cond.code yX4_best cX4_best 3 (some .int), Cond.methodLink RL 113 yL_reached, Cond.static yL_reached, Cond.codeWith yL_reached cL_reached 4 (some .int) [(0, 9, 12, 19)], Cond.methodLink RL 52 yX3_reached, Cond.instanceMethod yX3_reached, Cond.selects RX3 yX3_reached yX3_reached]
def wsL_law0_r23 : List Cond := [Cond.code yX3_reached cX3_reached 2 (some .int), Cond.methodLink RX3 142 yX0_storeysUnder, Cond.instanceMethod yX0_storeysUnder, Cond.selects RX0 yX0_storeysUnder yX0_storeysUnder, Cond.code yX0_storeysUnder cX0_storeysUnder 4 (some .int), Cond.methodLink RL 115 yX4_reached, Cond.instanceMethod yX4_reached, Cond.selects RX4 yX4_reached yX4_reached, Cond.code yX4_reached cX4_reached 5 (some .int)]
def wsL_law0 : List Cond := (wsL_law0_r1 ++ (wsL_law0_r2 ++ (wsL_law0_r3 ++ (wsL_law0_r4 ++ (wsL_law0_r5 ++ (wsL_law0_r6 ++ (wsL_law0_r7 ++ (wsL_law0_r8 ++ (wsL_law0_r9 ++ (wsL_law0_r10 ++ (wsL_law0_r11 ++ (wsL_law0_r12 ++ (wsL_law0_r13 ++ (wsL_law0_r14 ++ (wsL_law0_r15 ++ (wsL_law0_r16 ++ (wsL_law0_r17 ++ (wsL_law0_r18 ++ (wsL_law0_r19 ++ (wsL_law0_r20 ++ (wsL_law0_r21 ++ (wsL_law0_r22 ++ wsL_law0_r23)))))))))))))))))))))) ++ wsX30 ++ wsX40 ++ wsX00 ++ wsX20 ++ wsX10 ++ ([] : List Cond)
def wsL_law : List Cond := wsL_law0 ++ (vx_atS RX3 42 "java/lang/IllegalArgumentException" ["java/lang/RuntimeException", "java/lang/Exception"]).filter goodWord ++ (vx_atS RX3 69 "java/lang/IllegalStateException" ["java/lang/RuntimeException", "java/lang/Exception"]).filter goodWord ++ (vx_atS RX3 112 "java/lang/IndexOutOfBoundsException" ["java/lang/RuntimeException", "java/lang/Exception"]).filter goodWord
abbrev vwCl : List vw_C := [(RX0, TX0, 13), (RX1, TX1, 3), (RX2, TX2, 2), (RX3, TX3, 3), (RX4, TX4, 16)]
end
section
theorem dX0_init_0 : decode cX0_init 0 = .ok (.aload_n 0, 1) := by decide +kernel
theorem dX0_init_1 : decode cX0_init 1 = .ok (.invokespecial 3, 3) := by decide +kernel
theorem dX0_init_4 : decode cX0_init 4 = .ok (.aload_n 0, 1) := by decide +kernel
theorem dX0_init_5 : decode cX0_init 5 = .ok (.sipush 200, 3) := by decide +kernel
theorem dX0_init_8 : decode cX0_init 8 = .ok (.newarray .int, 2) := by decide +kernel
theorem dX0_init_10 : decode cX0_init 10 = .ok (.putfield 11, 3) := by decide +kernel
theorem dX0_init_13 : decode cX0_init 13 = .ok (.aload_n 0, 1) := by decide +kernel
theorem dX0_init_14 : decode cX0_init 14 = .ok (.bipush 25, 2) := by decide +kernel
theorem dX0_init_16 : decode cX0_init 16 = .ok (.newarray .int, 2) := by decide +kernel
theorem dX0_init_18 : decode cX0_init 18 = .ok (.putfield 15, 3) := by decide +kernel
theorem dX0_init_21 : decode cX0_init 21 = .ok (.aload_n 0, 1) := by decide +kernel
theorem dX0_init_22 : decode cX0_init 22 = .ok (.bipush 25, 2) := by decide +kernel
theorem dX0_init_24 : decode cX0_init 24 = .ok (.newarray .int, 2) := by decide +kernel
theorem dX0_init_26 : decode cX0_init 26 = .ok (.putfield 18, 3) := by decide +kernel
theorem dX0_init_29 : decode cX0_init 29 = .ok (.aload_n 0, 1) := by decide +kernel
theorem dX0_init_30 : decode cX0_init 30 = .ok (.iconst 4, 1) := by decide +kernel
theorem dX0_init_31 : decode cX0_init 31 = .ok (.newarray .int, 2) := by decide +kernel
theorem dX0_init_33 : decode cX0_init 33 = .ok (.putfield 21, 3) := by decide +kernel
theorem dX0_init_36 : decode cX0_init 36 = .ok (.aload_n 0, 1) := by decide +kernel
theorem dX0_init_37 : decode cX0_init 37 = .ok (.sipush 505, 3) := by decide +kernel
theorem dX0_init_40 : decode cX0_init 40 = .ok (.newarray .int, 2) := by decide +kernel
theorem dX0_init_42 : decode cX0_init 42 = .ok (.putfield 24, 3) := by decide +kernel
theorem dX0_init_45 : decode cX0_init 45 = .ok (.return_, 1) := by decide +kernel
set_option maxRecDepth 20000 in
theorem ggX0_start_J7_fill_53178 : GoodIn wsX0_start wsJ7_fill_53178 := goodIn_r _ [15] (by decide +kernel) (by decide +kernel)
set_option maxRecDepth 20000 in
theorem gX0_start_J7_fill_53178 : GoodIn wsX0_start (va_wsS RX0 53 yJ7_fill_53178 wsJ7_fill_53178) := goodIn_app (goodIn_of _ (by decide +kernel)) ggX0_start_J7_fill_53178
set_option maxRecDepth 20000 in
theorem ggX0_start_X0_joinNeighbours : GoodIn wsX0_start wsX0_joinNeighbours := goodIn_r _ [20, 21, 22, 23, 24, 25, 26, 27, 28, 29, 30, 31, 32, 33, 34, 35, 36] (by decide +kernel) (by decide +kernel)
set_option maxRecDepth 20000 in
theorem gX0_start_X0_joinNeighbours : GoodIn wsX0_start (wsV RX0 59 RX0 yX0_joinNeighbours wsX0_joinNeighbours) := goodIn_app (goodIn_of _ (by decide +kernel)) ggX0_start_X0_joinNeighbours
theorem dX0_start_0 : decode cX0_start 0 = .ok (.aload_n 0, 1) := by decide +kernel
theorem dX0_start_1 : decode cX0_start 1 = .ok (.iload_n 1, 1) := by decide +kernel
theorem dX0_start_2 : decode cX0_start 2 = .ok (.iload_n 2, 1) := by decide +kernel
theorem dX0_start_3 : decode cX0_start 3 = .ok (.imul, 1) := by decide +kernel
theorem dX0_start_4 : decode cX0_start 4 = .ok (.putfield 27, 3) := by decide +kernel
theorem dX0_start_7 : decode cX0_start 7 = .ok (.aload_n 0, 1) := by decide +kernel
theorem dX0_start_8 : decode cX0_start 8 = .ok (.iload_n 3, 1) := by decide +kernel
theorem dX0_start_9 : decode cX0_start 9 = .ok (.putfield 31, 3) := by decide +kernel
theorem dX0_start_12 : decode cX0_start 12 = .ok (.aload_n 0, 1) := by decide +kernel
theorem dX0_start_13 : decode cX0_start 13 = .ok (.iload 4, 2) := by decide +kernel
theorem dX0_start_15 : decode cX0_start 15 = .ok (.putfield 34, 3) := by decide +kernel
theorem dX0_start_18 : decode cX0_start 18 = .ok (.aload_n 0, 1) := by decide +kernel
theorem dX0_start_19 : decode cX0_start 19 = .ok (.iload 5, 2) := by decide +kernel
theorem dX0_start_21 : decode cX0_start 21 = .ok (.putfield 37, 3) := by decide +kernel
theorem dX0_start_24 : decode cX0_start 24 = .ok (.aload_n 0, 1) := by decide +kernel
theorem dX0_start_25 : decode cX0_start 25 = .ok (.iconst 0, 1) := by decide +kernel
theorem dX0_start_26 : decode cX0_start 26 = .ok (.putfield 40, 3) := by decide +kernel
theorem dX0_start_29 : decode cX0_start 29 = .ok (.aload_n 0, 1) := by decide +kernel
theorem dX0_start_30 : decode cX0_start 30 = .ok (.iconst 0, 1) := by decide +kernel
theorem dX0_start_31 : decode cX0_start 31 = .ok (.putfield 43, 3) := by decide +kernel
theorem dX0_start_34 : decode cX0_start 34 = .ok (.aload_n 0, 1) := by decide +kernel
theorem dX0_start_35 : decode cX0_start 35 = .ok (.iconst (-1), 1) := by decide +kernel
theorem dX0_start_36 : decode cX0_start 36 = .ok (.putfield 46, 3) := by decide +kernel
theorem dX0_start_39 : decode cX0_start 39 = .ok (.aload_n 0, 1) := by decide +kernel
theorem dX0_start_40 : decode cX0_start 40 = .ok (.iconst 0, 1) := by decide +kernel
theorem dX0_start_41 : decode cX0_start 41 = .ok (.putfield 49, 3) := by decide +kernel
theorem dX0_start_44 : decode cX0_start 44 = .ok (.aload_n 0, 1) := by decide +kernel
theorem dX0_start_45 : decode cX0_start 45 = .ok (.getfield 15, 3) := by decide +kernel
theorem dX0_start_48 : decode cX0_start 48 = .ok (.iconst 0, 1) := by decide +kernel
theorem dX0_start_49 : decode cX0_start 49 = .ok (.invokestatic 53, 3) := by decide +kernel
theorem dX0_start_52 : decode cX0_start 52 = .ok (.aload_n 0, 1) := by decide +kernel
theorem dX0_start_53 : decode cX0_start 53 = .ok (.getfield 18, 3) := by decide +kernel
theorem dX0_start_56 : decode cX0_start 56 = .ok (.iconst (-1), 1) := by decide +kernel
theorem dX0_start_57 : decode cX0_start 57 = .ok (.invokestatic 53, 3) := by decide +kernel
theorem dX0_start_60 : decode cX0_start 60 = .ok (.aload_n 0, 1) := by decide +kernel
theorem dX0_start_61 : decode cX0_start 61 = .ok (.getfield 21, 3) := by decide +kernel
theorem dX0_start_64 : decode cX0_start 64 = .ok (.iconst (-1), 1) := by decide +kernel
theorem dX0_start_65 : decode cX0_start 65 = .ok (.invokestatic 53, 3) := by decide +kernel
theorem dX0_start_68 : decode cX0_start 68 = .ok (.iconst 0, 1) := by decide +kernel
theorem dX0_start_69 : decode cX0_start 69 = .ok (.istore 6, 2) := by decide +kernel
theorem dX0_start_71 : decode cX0_start 71 = .ok (.iload 6, 2) := by decide +kernel
theorem dX0_start_73 : decode cX0_start 73 = .ok (.iload_n 1, 1) := by decide +kernel
theorem dX0_start_74 : decode cX0_start 74 = .ok (.if_icmp .ge 34, 3) := by decide +kernel
theorem dX0_start_77 : decode cX0_start 77 = .ok (.iconst 0, 1) := by decide +kernel
theorem dX0_start_78 : decode cX0_start 78 = .ok (.istore 7, 2) := by decide +kernel
theorem dX0_start_80 : decode cX0_start 80 = .ok (.iload 7, 2) := by decide +kernel
theorem dX0_start_82 : decode cX0_start 82 = .ok (.iload_n 2, 1) := by decide +kernel
theorem dX0_start_83 : decode cX0_start 83 = .ok (.if_icmp .ge 19, 3) := by decide +kernel
theorem dX0_start_86 : decode cX0_start 86 = .ok (.aload_n 0, 1) := by decide +kernel
theorem dX0_start_87 : decode cX0_start 87 = .ok (.iload 6, 2) := by decide +kernel
theorem dX0_start_89 : decode cX0_start 89 = .ok (.iload 7, 2) := by decide +kernel
theorem dX0_start_91 : decode cX0_start 91 = .ok (.iload_n 1, 1) := by decide +kernel
theorem dX0_start_92 : decode cX0_start 92 = .ok (.iload_n 2, 1) := by decide +kernel
theorem dX0_start_93 : decode cX0_start 93 = .ok (.invokevirtual 59, 3) := by decide +kernel
theorem dX0_start_96 : decode cX0_start 96 = .ok (.iinc 7 1, 3) := by decide +kernel
theorem dX0_start_99 : decode cX0_start 99 = .ok (.goto (-19), 3) := by decide +kernel
theorem dX0_start_102 : decode cX0_start 102 = .ok (.iinc 6 1, 3) := by decide +kernel
theorem dX0_start_105 : decode cX0_start 105 = .ok (.goto (-34), 3) := by decide +kernel
theorem dX0_start_108 : decode cX0_start 108 = .ok (.return_, 1) := by decide +kernel
theorem dX0_joinNeighbours_0 : decode cX0_joinNeighbours 0 = .ok (.iconst 0, 1) := by decide +kernel
theorem dX0_joinNeighbours_1 : decode cX0_joinNeighbours 1 = .ok (.istore 5, 2) := by decide +kernel
theorem dX0_joinNeighbours_3 : decode cX0_joinNeighbours 3 = .ok (.iload 5, 2) := by decide +kernel
theorem dX0_joinNeighbours_5 : decode cX0_joinNeighbours 5 = .ok (.bipush 8, 2) := by decide +kernel
theorem dX0_joinNeighbours_7 : decode cX0_joinNeighbours 7 = .ok (.if_icmp .ge 112, 3) := by decide +kernel
theorem dX0_joinNeighbours_10 : decode cX0_joinNeighbours 10 = .ok (.iload_n 1, 1) := by decide +kernel
theorem dX0_joinNeighbours_11 : decode cX0_joinNeighbours 11 = .ok (.getstatic 63, 3) := by decide +kernel
theorem dX0_joinNeighbours_14 : decode cX0_joinNeighbours 14 = .ok (.iload 5, 2) := by decide +kernel
theorem dX0_joinNeighbours_16 : decode cX0_joinNeighbours 16 = .ok (.iaload, 1) := by decide +kernel
theorem dX0_joinNeighbours_17 : decode cX0_joinNeighbours 17 = .ok (.iadd, 1) := by decide +kernel
theorem dX0_joinNeighbours_18 : decode cX0_joinNeighbours 18 = .ok (.istore 6, 2) := by decide +kernel
theorem dX0_joinNeighbours_20 : decode cX0_joinNeighbours 20 = .ok (.iload_n 2, 1) := by decide +kernel
theorem dX0_joinNeighbours_21 : decode cX0_joinNeighbours 21 = .ok (.getstatic 66, 3) := by decide +kernel
theorem dX0_joinNeighbours_24 : decode cX0_joinNeighbours 24 = .ok (.iload 5, 2) := by decide +kernel
theorem dX0_joinNeighbours_26 : decode cX0_joinNeighbours 26 = .ok (.iaload, 1) := by decide +kernel
theorem dX0_joinNeighbours_27 : decode cX0_joinNeighbours 27 = .ok (.iadd, 1) := by decide +kernel
theorem dX0_joinNeighbours_28 : decode cX0_joinNeighbours 28 = .ok (.istore 7, 2) := by decide +kernel
theorem dX0_joinNeighbours_30 : decode cX0_joinNeighbours 30 = .ok (.iload 6, 2) := by decide +kernel
theorem dX0_joinNeighbours_32 : decode cX0_joinNeighbours 32 = .ok (.ifCond .lt 25, 3) := by decide +kernel
theorem dX0_joinNeighbours_35 : decode cX0_joinNeighbours 35 = .ok (.iload 6, 2) := by decide +kernel
theorem dX0_joinNeighbours_37 : decode cX0_joinNeighbours 37 = .ok (.iload_n 3, 1) := by decide +kernel
theorem dX0_joinNeighbours_38 : decode cX0_joinNeighbours 38 = .ok (.if_icmp .ge 19, 3) := by decide +kernel
theorem dX0_joinNeighbours_41 : decode cX0_joinNeighbours 41 = .ok (.iload 7, 2) := by decide +kernel
theorem dX0_joinNeighbours_43 : decode cX0_joinNeighbours 43 = .ok (.ifCond .lt 14, 3) := by decide +kernel
theorem dX0_joinNeighbours_46 : decode cX0_joinNeighbours 46 = .ok (.iload 7, 2) := by decide +kernel
theorem dX0_joinNeighbours_48 : decode cX0_joinNeighbours 48 = .ok (.iload 4, 2) := by decide +kernel
theorem dX0_joinNeighbours_50 : decode cX0_joinNeighbours 50 = .ok (.if_icmp .ge 7, 3) := by decide +kernel
theorem dX0_joinNeighbours_53 : decode cX0_joinNeighbours 53 = .ok (.iconst 1, 1) := by decide +kernel
theorem dX0_joinNeighbours_54 : decode cX0_joinNeighbours 54 = .ok (.goto 4, 3) := by decide +kernel
theorem dX0_joinNeighbours_57 : decode cX0_joinNeighbours 57 = .ok (.iconst 0, 1) := by decide +kernel
theorem dX0_joinNeighbours_58 : decode cX0_joinNeighbours 58 = .ok (.istore 8, 2) := by decide +kernel
theorem dX0_joinNeighbours_60 : decode cX0_joinNeighbours 60 = .ok (.iload_n 1, 1) := by decide +kernel
theorem dX0_joinNeighbours_61 : decode cX0_joinNeighbours 61 = .ok (.iload 4, 2) := by decide +kernel
theorem dX0_joinNeighbours_63 : decode cX0_joinNeighbours 63 = .ok (.imul, 1) := by decide +kernel
theorem dX0_joinNeighbours_64 : decode cX0_joinNeighbours 64 = .ok (.iload_n 2, 1) := by decide +kernel
theorem dX0_joinNeighbours_65 : decode cX0_joinNeighbours 65 = .ok (.iadd, 1) := by decide +kernel
theorem dX0_joinNeighbours_66 : decode cX0_joinNeighbours 66 = .ok (.bipush 8, 2) := by decide +kernel
theorem dX0_joinNeighbours_68 : decode cX0_joinNeighbours 68 = .ok (.imul, 1) := by decide +kernel
theorem dX0_joinNeighbours_69 : decode cX0_joinNeighbours 69 = .ok (.iload 5, 2) := by decide +kernel
theorem dX0_joinNeighbours_71 : decode cX0_joinNeighbours 71 = .ok (.iadd, 1) := by decide +kernel
theorem dX0_joinNeighbours_72 : decode cX0_joinNeighbours 72 = .ok (.istore 9, 2) := by decide +kernel
theorem dX0_joinNeighbours_74 : decode cX0_joinNeighbours 74 = .ok (.iload 9, 2) := by decide +kernel
theorem dX0_joinNeighbours_76 : decode cX0_joinNeighbours 76 = .ok (.ifCond .lt 37, 3) := by decide +kernel
theorem dX0_joinNeighbours_79 : decode cX0_joinNeighbours 79 = .ok (.iload 9, 2) := by decide +kernel
theorem dX0_joinNeighbours_81 : decode cX0_joinNeighbours 81 = .ok (.aload_n 0, 1) := by decide +kernel
theorem dX0_joinNeighbours_82 : decode cX0_joinNeighbours 82 = .ok (.getfield 11, 3) := by decide +kernel
theorem dX0_joinNeighbours_85 : decode cX0_joinNeighbours 85 = .ok (.arraylength, 1) := by decide +kernel
theorem dX0_joinNeighbours_86 : decode cX0_joinNeighbours 86 = .ok (.if_icmp .ge 27, 3) := by decide +kernel
theorem dX0_joinNeighbours_89 : decode cX0_joinNeighbours 89 = .ok (.aload_n 0, 1) := by decide +kernel
theorem dX0_joinNeighbours_90 : decode cX0_joinNeighbours 90 = .ok (.getfield 11, 3) := by decide +kernel
theorem dX0_joinNeighbours_93 : decode cX0_joinNeighbours 93 = .ok (.iload 9, 2) := by decide +kernel
theorem dX0_joinNeighbours_95 : decode cX0_joinNeighbours 95 = .ok (.iload 8, 2) := by decide +kernel
theorem dX0_joinNeighbours_97 : decode cX0_joinNeighbours 97 = .ok (.ifCond .eq 14, 3) := by decide +kernel
theorem dX0_joinNeighbours_100 : decode cX0_joinNeighbours 100 = .ok (.iload 6, 2) := by decide +kernel
theorem dX0_joinNeighbours_102 : decode cX0_joinNeighbours 102 = .ok (.iload 4, 2) := by decide +kernel
theorem dX0_joinNeighbours_104 : decode cX0_joinNeighbours 104 = .ok (.imul, 1) := by decide +kernel
theorem dX0_joinNeighbours_105 : decode cX0_joinNeighbours 105 = .ok (.iload 7, 2) := by decide +kernel
theorem dX0_joinNeighbours_107 : decode cX0_joinNeighbours 107 = .ok (.iadd, 1) := by decide +kernel
theorem dX0_joinNeighbours_108 : decode cX0_joinNeighbours 108 = .ok (.goto 4, 3) := by decide +kernel
theorem dX0_joinNeighbours_111 : decode cX0_joinNeighbours 111 = .ok (.iconst (-1), 1) := by decide +kernel
theorem dX0_joinNeighbours_112 : decode cX0_joinNeighbours 112 = .ok (.iastore, 1) := by decide +kernel
theorem dX0_joinNeighbours_113 : decode cX0_joinNeighbours 113 = .ok (.iinc 5 1, 3) := by decide +kernel
theorem dX0_joinNeighbours_116 : decode cX0_joinNeighbours 116 = .ok (.goto (-113), 3) := by decide +kernel
theorem dX0_joinNeighbours_119 : decode cX0_joinNeighbours 119 = .ok (.return_, 1) := by decide +kernel
theorem dX0_storeysOf_0 : decode cX0_storeysOf 0 = .ok (.iload_n 1, 1) := by decide +kernel
theorem dX0_storeysOf_1 : decode cX0_storeysOf 1 = .ok (.ifCond .lt 21, 3) := by decide +kernel
theorem dX0_storeysOf_4 : decode cX0_storeysOf 4 = .ok (.iload_n 1, 1) := by decide +kernel
theorem dX0_storeysOf_5 : decode cX0_storeysOf 5 = .ok (.aload_n 0, 1) := by decide +kernel
theorem dX0_storeysOf_6 : decode cX0_storeysOf 6 = .ok (.getfield 15, 3) := by decide +kernel
theorem dX0_storeysOf_9 : decode cX0_storeysOf 9 = .ok (.arraylength, 1) := by decide +kernel
theorem dX0_storeysOf_10 : decode cX0_storeysOf 10 = .ok (.if_icmp .ge 12, 3) := by decide +kernel
theorem dX0_storeysOf_13 : decode cX0_storeysOf 13 = .ok (.aload_n 0, 1) := by decide +kernel
theorem dX0_storeysOf_14 : decode cX0_storeysOf 14 = .ok (.getfield 15, 3) := by decide +kernel
theorem dX0_storeysOf_17 : decode cX0_storeysOf 17 = .ok (.iload_n 1, 1) := by decide +kernel
theorem dX0_storeysOf_18 : decode cX0_storeysOf 18 = .ok (.iaload, 1) := by decide +kernel
theorem dX0_storeysOf_19 : decode cX0_storeysOf 19 = .ok (.goto 4, 3) := by decide +kernel
theorem dX0_storeysOf_22 : decode cX0_storeysOf 22 = .ok (.iconst 0, 1) := by decide +kernel
theorem dX0_storeysOf_23 : decode cX0_storeysOf 23 = .ok (.ireturn, 1) := by decide +kernel
theorem dX0_holderOf_0 : decode cX0_holderOf 0 = .ok (.iload_n 1, 1) := by decide +kernel
theorem dX0_holderOf_1 : decode cX0_holderOf 1 = .ok (.ifCond .lt 21, 3) := by decide +kernel
theorem dX0_holderOf_4 : decode cX0_holderOf 4 = .ok (.iload_n 1, 1) := by decide +kernel
theorem dX0_holderOf_5 : decode cX0_holderOf 5 = .ok (.aload_n 0, 1) := by decide +kernel
theorem dX0_holderOf_6 : decode cX0_holderOf 6 = .ok (.getfield 18, 3) := by decide +kernel
theorem dX0_holderOf_9 : decode cX0_holderOf 9 = .ok (.arraylength, 1) := by decide +kernel
theorem dX0_holderOf_10 : decode cX0_holderOf 10 = .ok (.if_icmp .ge 12, 3) := by decide +kernel
theorem dX0_holderOf_13 : decode cX0_holderOf 13 = .ok (.aload_n 0, 1) := by decide +kernel
theorem dX0_holderOf_14 : decode cX0_holderOf 14 = .ok (.getfield 18, 3) := by decide +kernel
theorem dX0_holderOf_17 : decode cX0_holderOf 17 = .ok (.iload_n 1, 1) := by decide +kernel
theorem dX0_holderOf_18 : decode cX0_holderOf 18 = .ok (.iaload, 1) := by decide +kernel
theorem dX0_holderOf_19 : decode cX0_holderOf 19 = .ok (.goto 4, 3) := by decide +kernel
theorem dX0_holderOf_22 : decode cX0_holderOf 22 = .ok (.iconst (-1), 1) := by decide +kernel
theorem dX0_holderOf_23 : decode cX0_holderOf 23 = .ok (.ireturn, 1) := by decide +kernel
theorem dX0_isOpen_0 : decode cX0_isOpen 0 = .ok (.iload_n 1, 1) := by decide +kernel
theorem dX0_isOpen_1 : decode cX0_isOpen 1 = .ok (.ifCond .lt 33, 3) := by decide +kernel
theorem dX0_isOpen_4 : decode cX0_isOpen 4 = .ok (.iload_n 1, 1) := by decide +kernel
theorem dX0_isOpen_5 : decode cX0_isOpen 5 = .ok (.bipush 25, 2) := by decide +kernel
theorem dX0_isOpen_7 : decode cX0_isOpen 7 = .ok (.if_icmp .ge 27, 3) := by decide +kernel
theorem dX0_isOpen_10 : decode cX0_isOpen 10 = .ok (.aload_n 0, 1) := by decide +kernel
theorem dX0_isOpen_11 : decode cX0_isOpen 11 = .ok (.getfield 18, 3) := by decide +kernel
theorem dX0_isOpen_14 : decode cX0_isOpen 14 = .ok (.iload_n 1, 1) := by decide +kernel
theorem dX0_isOpen_15 : decode cX0_isOpen 15 = .ok (.iaload, 1) := by decide +kernel
theorem dX0_isOpen_16 : decode cX0_isOpen 16 = .ok (.iconst (-1), 1) := by decide +kernel
theorem dX0_isOpen_17 : decode cX0_isOpen 17 = .ok (.if_icmp .ne 17, 3) := by decide +kernel
theorem dX0_isOpen_20 : decode cX0_isOpen 20 = .ok (.aload_n 0, 1) := by decide +kernel
theorem dX0_isOpen_21 : decode cX0_isOpen 21 = .ok (.getfield 15, 3) := by decide +kernel
theorem dX0_isOpen_24 : decode cX0_isOpen 24 = .ok (.iload_n 1, 1) := by decide +kernel
theorem dX0_isOpen_25 : decode cX0_isOpen 25 = .ok (.iaload, 1) := by decide +kernel
theorem dX0_isOpen_26 : decode cX0_isOpen 26 = .ok (.iconst 4, 1) := by decide +kernel
theorem dX0_isOpen_27 : decode cX0_isOpen 27 = .ok (.if_icmp .ge 7, 3) := by decide +kernel
theorem dX0_isOpen_30 : decode cX0_isOpen 30 = .ok (.iconst 1, 1) := by decide +kernel
theorem dX0_isOpen_31 : decode cX0_isOpen 31 = .ok (.goto 4, 3) := by decide +kernel
theorem dX0_isOpen_34 : decode cX0_isOpen 34 = .ok (.iconst 0, 1) := by decide +kernel
theorem dX0_isOpen_35 : decode cX0_isOpen 35 = .ok (.ireturn, 1) := by decide +kernel
theorem dX0_isSet_0 : decode cX0_isSet 0 = .ok (.aload_n 0, 1) := by decide +kernel
theorem dX0_isSet_1 : decode cX0_isSet 1 = .ok (.getfield 40, 3) := by decide +kernel
theorem dX0_isSet_4 : decode cX0_isSet 4 = .ok (.iconst 2, 1) := by decide +kernel
theorem dX0_isSet_5 : decode cX0_isSet 5 = .ok (.aload_n 0, 1) := by decide +kernel
theorem dX0_isSet_6 : decode cX0_isSet 6 = .ok (.getfield 31, 3) := by decide +kernel
theorem dX0_isSet_9 : decode cX0_isSet 9 = .ok (.imul, 1) := by decide +kernel
theorem dX0_isSet_10 : decode cX0_isSet 10 = .ok (.if_icmp .ne 7, 3) := by decide +kernel
theorem dX0_isSet_13 : decode cX0_isSet 13 = .ok (.iconst 1, 1) := by decide +kernel
theorem dX0_isSet_14 : decode cX0_isSet 14 = .ok (.goto 4, 3) := by decide +kernel
theorem dX0_isSet_17 : decode cX0_isSet 17 = .ok (.iconst 0, 1) := by decide +kernel
theorem dX0_isSet_18 : decode cX0_isSet 18 = .ok (.ireturn, 1) := by decide +kernel
set_option maxRecDepth 20000 in
theorem ggX0_mover_X0_isSet : GoodIn wsX0_mover wsX0_isSet := goodIn_r _ [9, 3, 4, 10, 11, 12, 13, 14, 15, 16, 17, 18, 19, 20, 21, 22] (by decide +kernel) (by decide +kernel)
set_option maxRecDepth 20000 in
theorem gX0_mover_X0_isSet : GoodIn wsX0_mover (wsV RX0 69 RX0 yX0_isSet wsX0_isSet) := goodIn_app (goodIn_of _ (by decide +kernel)) ggX0_mover_X0_isSet
theorem dX0_mover_0 : decode cX0_mover 0 = .ok (.aload_n 0, 1) := by decide +kernel
theorem dX0_mover_1 : decode cX0_mover 1 = .ok (.getfield 46, 3) := by decide +kernel
theorem dX0_mover_4 : decode cX0_mover 4 = .ok (.iconst (-1), 1) := by decide +kernel
theorem dX0_mover_5 : decode cX0_mover 5 = .ok (.if_icmp .eq 5, 3) := by decide +kernel
theorem dX0_mover_8 : decode cX0_mover 8 = .ok (.iconst (-1), 1) := by decide +kernel
theorem dX0_mover_9 : decode cX0_mover 9 = .ok (.ireturn, 1) := by decide +kernel
theorem dX0_mover_10 : decode cX0_mover 10 = .ok (.aload_n 0, 1) := by decide +kernel
theorem dX0_mover_11 : decode cX0_mover 11 = .ok (.invokevirtual 69, 3) := by decide +kernel
theorem dX0_mover_14 : decode cX0_mover 14 = .ok (.ifCond .eq 10, 3) := by decide +kernel
theorem dX0_mover_17 : decode cX0_mover 17 = .ok (.aload_n 0, 1) := by decide +kernel
theorem dX0_mover_18 : decode cX0_mover 18 = .ok (.getfield 43, 3) := by decide +kernel
theorem dX0_mover_21 : decode cX0_mover 21 = .ok (.iconst 2, 1) := by decide +kernel
theorem dX0_mover_22 : decode cX0_mover 22 = .ok (.irem, 1) := by decide +kernel
theorem dX0_mover_23 : decode cX0_mover 23 = .ok (.ireturn, 1) := by decide +kernel
theorem dX0_mover_24 : decode cX0_mover 24 = .ok (.aload_n 0, 1) := by decide +kernel
theorem dX0_mover_25 : decode cX0_mover 25 = .ok (.getfield 40, 3) := by decide +kernel
theorem dX0_mover_28 : decode cX0_mover 28 = .ok (.aload_n 0, 1) := by decide +kernel
theorem dX0_mover_29 : decode cX0_mover 29 = .ok (.getfield 31, 3) := by decide +kernel
theorem dX0_mover_32 : decode cX0_mover 32 = .ok (.if_icmp .ge 7, 3) := by decide +kernel
theorem dX0_mover_35 : decode cX0_mover 35 = .ok (.iconst 0, 1) := by decide +kernel
theorem dX0_mover_36 : decode cX0_mover 36 = .ok (.goto 4, 3) := by decide +kernel
theorem dX0_mover_39 : decode cX0_mover 39 = .ok (.iconst 1, 1) := by decide +kernel
theorem dX0_mover_40 : decode cX0_mover 40 = .ok (.ireturn, 1) := by decide +kernel
set_option maxRecDepth 20000 in
theorem ggX0_storeysUnder_X0_spotOf : GoodIn wsX0_storeysUnder wsX0_spotOf := goodIn_r _ [6, 7, 13, 14, 15, 16, 17, 18, 19, 20, 21, 22, 23, 24, 25] (by decide +kernel) (by decide +kernel)
set_option maxRecDepth 20000 in
theorem gX0_storeysUnder_X0_spotOf : GoodIn wsX0_storeysUnder (wsV RX0 73 RX0 yX0_spotOf wsX0_spotOf) := goodIn_app (goodIn_of _ (by decide +kernel)) ggX0_storeysUnder_X0_spotOf
set_option maxRecDepth 20000 in
theorem ggX0_storeysUnder_X0_storeysOf : GoodIn wsX0_storeysUnder wsX0_storeysOf := goodIn_r _ [11, 12, 13, 14, 15, 16, 17, 18, 19, 20, 21, 22, 23, 24, 25] (by decide +kernel) (by decide +kernel)
set_option maxRecDepth 20000 in
theorem gX0_storeysUnder_X0_storeysOf : GoodIn wsX0_storeysUnder (wsV RX0 77 RX0 yX0_storeysOf wsX0_storeysOf) := goodIn_app (goodIn_of _ (by decide +kernel)) ggX0_storeysUnder_X0_storeysOf
theorem dX0_storeysUnder_0 : decode cX0_storeysUnder 0 = .ok (.iconst 0, 1) := by decide +kernel
theorem dX0_storeysUnder_1 : decode cX0_storeysUnder 1 = .ok (.istore_n 2, 1) := by decide +kernel
theorem dX0_storeysUnder_2 : decode cX0_storeysUnder 2 = .ok (.iconst 0, 1) := by decide +kernel
theorem dX0_storeysUnder_3 : decode cX0_storeysUnder 3 = .ok (.istore_n 3, 1) := by decide +kernel
theorem dX0_storeysUnder_4 : decode cX0_storeysUnder 4 = .ok (.iload_n 3, 1) := by decide +kernel
theorem dX0_storeysUnder_5 : decode cX0_storeysUnder 5 = .ok (.aload_n 0, 1) := by decide +kernel
theorem dX0_storeysUnder_6 : decode cX0_storeysUnder 6 = .ok (.getfield 31, 3) := by decide +kernel
theorem dX0_storeysUnder_9 : decode cX0_storeysUnder 9 = .ok (.if_icmp .ge 22, 3) := by decide +kernel
theorem dX0_storeysUnder_12 : decode cX0_storeysUnder 12 = .ok (.iload_n 2, 1) := by decide +kernel
theorem dX0_storeysUnder_13 : decode cX0_storeysUnder 13 = .ok (.aload_n 0, 1) := by decide +kernel
theorem dX0_storeysUnder_14 : decode cX0_storeysUnder 14 = .ok (.aload_n 0, 1) := by decide +kernel
theorem dX0_storeysUnder_15 : decode cX0_storeysUnder 15 = .ok (.iload_n 1, 1) := by decide +kernel
theorem dX0_storeysUnder_16 : decode cX0_storeysUnder 16 = .ok (.iload_n 3, 1) := by decide +kernel
theorem dX0_storeysUnder_17 : decode cX0_storeysUnder 17 = .ok (.invokevirtual 73, 3) := by decide +kernel
theorem dX0_storeysUnder_20 : decode cX0_storeysUnder 20 = .ok (.invokevirtual 77, 3) := by decide +kernel
theorem dX0_storeysUnder_23 : decode cX0_storeysUnder 23 = .ok (.iadd, 1) := by decide +kernel
theorem dX0_storeysUnder_24 : decode cX0_storeysUnder 24 = .ok (.istore_n 2, 1) := by decide +kernel
theorem dX0_storeysUnder_25 : decode cX0_storeysUnder 25 = .ok (.iinc 3 1, 3) := by decide +kernel
theorem dX0_storeysUnder_28 : decode cX0_storeysUnder 28 = .ok (.goto (-24), 3) := by decide +kernel
theorem dX0_storeysUnder_31 : decode cX0_storeysUnder 31 = .ok (.iload_n 2, 1) := by decide +kernel
theorem dX0_storeysUnder_32 : decode cX0_storeysUnder 32 = .ok (.ireturn, 1) := by decide +kernel
theorem dX0_setStoreys_0 : decode cX0_setStoreys 0 = .ok (.iload_n 1, 1) := by decide +kernel
theorem dX0_setStoreys_1 : decode cX0_setStoreys 1 = .ok (.ifCond .lt 19, 3) := by decide +kernel
theorem dX0_setStoreys_4 : decode cX0_setStoreys 4 = .ok (.iload_n 1, 1) := by decide +kernel
theorem dX0_setStoreys_5 : decode cX0_setStoreys 5 = .ok (.aload_n 0, 1) := by decide +kernel
theorem dX0_setStoreys_6 : decode cX0_setStoreys 6 = .ok (.getfield 15, 3) := by decide +kernel
theorem dX0_setStoreys_9 : decode cX0_setStoreys 9 = .ok (.arraylength, 1) := by decide +kernel
theorem dX0_setStoreys_10 : decode cX0_setStoreys 10 = .ok (.if_icmp .ge 10, 3) := by decide +kernel
theorem dX0_setStoreys_13 : decode cX0_setStoreys 13 = .ok (.aload_n 0, 1) := by decide +kernel
theorem dX0_setStoreys_14 : decode cX0_setStoreys 14 = .ok (.getfield 15, 3) := by decide +kernel
theorem dX0_setStoreys_17 : decode cX0_setStoreys 17 = .ok (.iload_n 1, 1) := by decide +kernel
theorem dX0_setStoreys_18 : decode cX0_setStoreys 18 = .ok (.iload_n 2, 1) := by decide +kernel
theorem dX0_setStoreys_19 : decode cX0_setStoreys 19 = .ok (.iastore, 1) := by decide +kernel
theorem dX0_setStoreys_20 : decode cX0_setStoreys 20 = .ok (.return_, 1) := by decide +kernel
set_option maxRecDepth 20000 in
theorem ggX0_addBuilder_X0_put : GoodIn wsX0_addBuilder wsX0_put := goodIn_r _ [8, 9, 10, 68, 69, 70, 71, 72, 73, 74, 75, 76, 77, 78, 79, 80] (by decide +kernel) (by decide +kernel)
set_option maxRecDepth 20000 in
theorem gX0_addBuilder_X0_put : GoodIn wsX0_addBuilder (wsV RX0 81 RX0 yX0_put wsX0_put) := goodIn_app (goodIn_of _ (by decide +kernel)) ggX0_addBuilder_X0_put
set_option maxRecDepth 20000 in
theorem ggX0_addBuilder_X0_isSet : GoodIn wsX0_addBuilder wsX0_isSet := goodIn_r _ [14, 1, 2, 68, 69, 70, 71, 72, 73, 74, 75, 76, 77, 78, 79, 80] (by decide +kernel) (by decide +kernel)
set_option maxRecDepth 20000 in
theorem gX0_addBuilder_X0_isSet : GoodIn wsX0_addBuilder (wsV RX0 69 RX0 yX0_isSet wsX0_isSet) := goodIn_app (goodIn_of _ (by decide +kernel)) ggX0_addBuilder_X0_isSet
set_option maxRecDepth 20000 in
theorem ggX0_addBuilder_X0_hasTurn : GoodIn wsX0_addBuilder wsX0_hasTurn := goodIn_r _ [18, 2, 19, 20, 21, 7, 22, 10, 23, 24, 25, 26, 27, 28, 29, 30, 31, 32, 33, 34, 35, 36, 37, 38, 39, 40, 41, 42, 43, 44, 45, 9, 46, 47, 48, 49, 50, 51, 52, 53, 54, 55, 56, 57, 58, 59, 60, 61, 62, 63, 64, 65, 66, 67, 68, 69, 70, 71, 72, 73, 74, 75, 76, 77, 78, 79, 80] (by decide +kernel) (by decide +kernel)
set_option maxRecDepth 20000 in
theorem gX0_addBuilder_X0_hasTurn : GoodIn wsX0_addBuilder (wsV RX0 85 RX0 yX0_hasTurn wsX0_hasTurn) := goodIn_app (goodIn_of _ (by decide +kernel)) ggX0_addBuilder_X0_hasTurn
theorem dX0_addBuilder_0 : decode cX0_addBuilder 0 = .ok (.aload_n 0, 1) := by decide +kernel
theorem dX0_addBuilder_1 : decode cX0_addBuilder 1 = .ok (.getfield 40, 3) := by decide +kernel
theorem dX0_addBuilder_4 : decode cX0_addBuilder 4 = .ok (.aload_n 0, 1) := by decide +kernel
theorem dX0_addBuilder_5 : decode cX0_addBuilder 5 = .ok (.getfield 31, 3) := by decide +kernel
theorem dX0_addBuilder_8 : decode cX0_addBuilder 8 = .ok (.if_icmp .ge 7, 3) := by decide +kernel
theorem dX0_addBuilder_11 : decode cX0_addBuilder 11 = .ok (.iconst 0, 1) := by decide +kernel
theorem dX0_addBuilder_12 : decode cX0_addBuilder 12 = .ok (.goto 4, 3) := by decide +kernel
theorem dX0_addBuilder_15 : decode cX0_addBuilder 15 = .ok (.iconst 1, 1) := by decide +kernel
theorem dX0_addBuilder_16 : decode cX0_addBuilder 16 = .ok (.istore_n 2, 1) := by decide +kernel
theorem dX0_addBuilder_17 : decode cX0_addBuilder 17 = .ok (.aload_n 0, 1) := by decide +kernel
theorem dX0_addBuilder_18 : decode cX0_addBuilder 18 = .ok (.getfield 40, 3) := by decide +kernel
theorem dX0_addBuilder_21 : decode cX0_addBuilder 21 = .ok (.iload_n 2, 1) := by decide +kernel
theorem dX0_addBuilder_22 : decode cX0_addBuilder 22 = .ok (.aload_n 0, 1) := by decide +kernel
theorem dX0_addBuilder_23 : decode cX0_addBuilder 23 = .ok (.getfield 31, 3) := by decide +kernel
theorem dX0_addBuilder_26 : decode cX0_addBuilder 26 = .ok (.imul, 1) := by decide +kernel
theorem dX0_addBuilder_27 : decode cX0_addBuilder 27 = .ok (.isub, 1) := by decide +kernel
theorem dX0_addBuilder_28 : decode cX0_addBuilder 28 = .ok (.istore_n 3, 1) := by decide +kernel
theorem dX0_addBuilder_29 : decode cX0_addBuilder 29 = .ok (.aload_n 0, 1) := by decide +kernel
theorem dX0_addBuilder_30 : decode cX0_addBuilder 30 = .ok (.bipush 10, 2) := by decide +kernel
theorem dX0_addBuilder_32 : decode cX0_addBuilder 32 = .ok (.iload_n 2, 1) := by decide +kernel
theorem dX0_addBuilder_33 : decode cX0_addBuilder 33 = .ok (.imul, 1) := by decide +kernel
theorem dX0_addBuilder_34 : decode cX0_addBuilder 34 = .ok (.iload_n 3, 1) := by decide +kernel
theorem dX0_addBuilder_35 : decode cX0_addBuilder 35 = .ok (.iadd, 1) := by decide +kernel
theorem dX0_addBuilder_36 : decode cX0_addBuilder 36 = .ok (.iload_n 1, 1) := by decide +kernel
theorem dX0_addBuilder_37 : decode cX0_addBuilder 37 = .ok (.invokevirtual 81, 3) := by decide +kernel
theorem dX0_addBuilder_40 : decode cX0_addBuilder 40 = .ok (.aload_n 0, 1) := by decide +kernel
theorem dX0_addBuilder_41 : decode cX0_addBuilder 41 = .ok (.dup, 1) := by decide +kernel
theorem dX0_addBuilder_42 : decode cX0_addBuilder 42 = .ok (.getfield 40, 3) := by decide +kernel
theorem dX0_addBuilder_45 : decode cX0_addBuilder 45 = .ok (.iconst 1, 1) := by decide +kernel
theorem dX0_addBuilder_46 : decode cX0_addBuilder 46 = .ok (.iadd, 1) := by decide +kernel
theorem dX0_addBuilder_47 : decode cX0_addBuilder 47 = .ok (.putfield 40, 3) := by decide +kernel
theorem dX0_addBuilder_50 : decode cX0_addBuilder 50 = .ok (.aload_n 0, 1) := by decide +kernel
theorem dX0_addBuilder_51 : decode cX0_addBuilder 51 = .ok (.invokevirtual 69, 3) := by decide +kernel
theorem dX0_addBuilder_54 : decode cX0_addBuilder 54 = .ok (.ifCond .eq 16, 3) := by decide +kernel
theorem dX0_addBuilder_57 : decode cX0_addBuilder 57 = .ok (.aload_n 0, 1) := by decide +kernel
theorem dX0_addBuilder_58 : decode cX0_addBuilder 58 = .ok (.iconst 0, 1) := by decide +kernel
theorem dX0_addBuilder_59 : decode cX0_addBuilder 59 = .ok (.invokevirtual 85, 3) := by decide +kernel
theorem dX0_addBuilder_62 : decode cX0_addBuilder 62 = .ok (.ifCond .ne 8, 3) := by decide +kernel
theorem dX0_addBuilder_65 : decode cX0_addBuilder 65 = .ok (.aload_n 0, 1) := by decide +kernel
theorem dX0_addBuilder_66 : decode cX0_addBuilder 66 = .ok (.iconst 1, 1) := by decide +kernel
theorem dX0_addBuilder_67 : decode cX0_addBuilder 67 = .ok (.putfield 46, 3) := by decide +kernel
theorem dX0_addBuilder_70 : decode cX0_addBuilder 70 = .ok (.return_, 1) := by decide +kernel
set_option maxRecDepth 20000 in
theorem ggX0_listTurns_X2_clear : GoodIn wsX0_listTurns wsX2_clear := goodIn_r _ [9, 10, 85, 86] (by decide +kernel) (by decide +kernel)
set_option maxRecDepth 20000 in
theorem gX0_listTurns_X2_clear : GoodIn wsX0_listTurns (wsV RX0 89 RX2 yX2_clear wsX2_clear) := goodIn_app (goodIn_of _ (by decide +kernel)) ggX0_listTurns_X2_clear
set_option maxRecDepth 20000 in
theorem ggX0_listTurns_X0_spotOf : GoodIn wsX0_listTurns wsX0_spotOf := goodIn_r _ [15, 16, 72, 73, 74, 75, 76, 77, 78, 79, 80, 81, 82, 83, 84] (by decide +kernel) (by decide +kernel)
set_option maxRecDepth 20000 in
theorem gX0_listTurns_X0_spotOf : GoodIn wsX0_listTurns (wsV RX0 73 RX0 yX0_spotOf wsX0_spotOf) := goodIn_app (goodIn_of _ (by decide +kernel)) ggX0_listTurns_X0_spotOf
set_option maxRecDepth 20000 in
theorem ggX0_listTurns_X0_reachOf : GoodIn wsX0_listTurns wsX0_reachOf := goodIn_r _ [20, 4, 21, 22, 23, 14, 24, 25, 26, 27, 28, 29, 30, 31, 32, 33, 34, 35, 36, 37, 38, 39, 40, 41, 42, 43, 44, 45, 46, 47, 48, 49, 50, 51, 52, 53, 54, 72, 73, 74, 75, 76, 77, 78, 79, 80, 81, 82, 83, 84] (by decide +kernel) (by decide +kernel)
set_option maxRecDepth 20000 in
theorem gX0_listTurns_X0_reachOf : GoodIn wsX0_listTurns (wsV RX0 94 RX0 yX0_reachOf wsX0_reachOf) := goodIn_app (goodIn_of _ (by decide +kernel)) ggX0_listTurns_X0_reachOf
set_option maxRecDepth 20000 in
theorem ggX0_listTurns_X0_listBuildings : GoodIn wsX0_listTurns wsX0_listBuildings := goodIn_r _ [58, 2, 59, 60, 61, 14, 62, 40, 41, 42, 43, 44, 49, 50, 51, 52, 53, 54, 26, 27, 28, 29, 30, 63, 64, 65, 66, 45, 46, 47, 48, 35, 67, 68, 69, 8, 70, 10, 71, 31, 32, 33, 34, 72, 73, 74, 75, 76, 77, 78, 79, 80, 81, 82, 83, 84, 85, 86] (by decide +kernel) (by decide +kernel)
set_option maxRecDepth 20000 in
theorem gX0_listTurns_X0_listBuildings : GoodIn wsX0_listTurns (wsV RX0 98 RX0 yX0_listBuildings wsX0_listBuildings) := goodIn_app (goodIn_of _ (by decide +kernel)) ggX0_listTurns_X0_listBuildings
set_option maxRecDepth 20000 in
theorem ggX0_listTurns_X2_add : GoodIn wsX0_listTurns wsX2_add := goodIn_r _ [70, 10, 71, 85, 86] (by decide +kernel) (by decide +kernel)
set_option maxRecDepth 20000 in
theorem gX0_listTurns_X2_add : GoodIn wsX0_listTurns (wsV RX0 102 RX2 yX2_add wsX2_add) := goodIn_app (goodIn_of _ (by decide +kernel)) ggX0_listTurns_X2_add
theorem dX0_listTurns_0 : decode cX0_listTurns 0 = .ok (.aload_n 1, 1) := by decide +kernel
theorem dX0_listTurns_1 : decode cX0_listTurns 1 = .ok (.invokevirtual 89, 3) := by decide +kernel
theorem dX0_listTurns_4 : decode cX0_listTurns 4 = .ok (.aload_n 0, 1) := by decide +kernel
theorem dX0_listTurns_5 : decode cX0_listTurns 5 = .ok (.getfield 46, 3) := by decide +kernel
theorem dX0_listTurns_8 : decode cX0_listTurns 8 = .ok (.iconst (-1), 1) := by decide +kernel
theorem dX0_listTurns_9 : decode cX0_listTurns 9 = .ok (.if_icmp .eq 4, 3) := by decide +kernel
theorem dX0_listTurns_12 : decode cX0_listTurns 12 = .ok (.return_, 1) := by decide +kernel
theorem dX0_listTurns_13 : decode cX0_listTurns 13 = .ok (.aload_n 0, 1) := by decide +kernel
theorem dX0_listTurns_14 : decode cX0_listTurns 14 = .ok (.getfield 43, 3) := by decide +kernel
theorem dX0_listTurns_17 : decode cX0_listTurns 17 = .ok (.iconst 2, 1) := by decide +kernel
theorem dX0_listTurns_18 : decode cX0_listTurns 18 = .ok (.irem, 1) := by decide +kernel
theorem dX0_listTurns_19 : decode cX0_listTurns 19 = .ok (.istore_n 2, 1) := by decide +kernel
theorem dX0_listTurns_20 : decode cX0_listTurns 20 = .ok (.iconst 0, 1) := by decide +kernel
theorem dX0_listTurns_21 : decode cX0_listTurns 21 = .ok (.istore_n 3, 1) := by decide +kernel
theorem dX0_listTurns_22 : decode cX0_listTurns 22 = .ok (.iload_n 3, 1) := by decide +kernel
theorem dX0_listTurns_23 : decode cX0_listTurns 23 = .ok (.aload_n 0, 1) := by decide +kernel
theorem dX0_listTurns_24 : decode cX0_listTurns 24 = .ok (.getfield 31, 3) := by decide +kernel
theorem dX0_listTurns_27 : decode cX0_listTurns 27 = .ok (.if_icmp .ge 104, 3) := by decide +kernel
theorem dX0_listTurns_30 : decode cX0_listTurns 30 = .ok (.aload_n 0, 1) := by decide +kernel
theorem dX0_listTurns_31 : decode cX0_listTurns 31 = .ok (.iload_n 2, 1) := by decide +kernel
theorem dX0_listTurns_32 : decode cX0_listTurns 32 = .ok (.iload_n 3, 1) := by decide +kernel
theorem dX0_listTurns_33 : decode cX0_listTurns 33 = .ok (.invokevirtual 73, 3) := by decide +kernel
theorem dX0_listTurns_36 : decode cX0_listTurns 36 = .ok (.istore 4, 2) := by decide +kernel
theorem dX0_listTurns_38 : decode cX0_listTurns 38 = .ok (.aload_n 0, 1) := by decide +kernel
theorem dX0_listTurns_39 : decode cX0_listTurns 39 = .ok (.iload_n 2, 1) := by decide +kernel
theorem dX0_listTurns_40 : decode cX0_listTurns 40 = .ok (.iload 4, 2) := by decide +kernel
theorem dX0_listTurns_42 : decode cX0_listTurns 42 = .ok (.invokevirtual 94, 3) := by decide +kernel
theorem dX0_listTurns_45 : decode cX0_listTurns 45 = .ok (.lstore 5, 2) := by decide +kernel
theorem dX0_listTurns_47 : decode cX0_listTurns 47 = .ok (.iconst 0, 1) := by decide +kernel
theorem dX0_listTurns_48 : decode cX0_listTurns 48 = .ok (.istore 7, 2) := by decide +kernel
theorem dX0_listTurns_50 : decode cX0_listTurns 50 = .ok (.iload 7, 2) := by decide +kernel
theorem dX0_listTurns_52 : decode cX0_listTurns 52 = .ok (.aload_n 0, 1) := by decide +kernel
theorem dX0_listTurns_53 : decode cX0_listTurns 53 = .ok (.getfield 27, 3) := by decide +kernel
theorem dX0_listTurns_56 : decode cX0_listTurns 56 = .ok (.if_icmp .ge 69, 3) := by decide +kernel
theorem dX0_listTurns_59 : decode cX0_listTurns 59 = .ok (.sipush 10000, 3) := by decide +kernel
theorem dX0_listTurns_62 : decode cX0_listTurns 62 = .ok (.iload_n 3, 1) := by decide +kernel
theorem dX0_listTurns_63 : decode cX0_listTurns 63 = .ok (.imul, 1) := by decide +kernel
theorem dX0_listTurns_64 : decode cX0_listTurns 64 = .ok (.bipush 100, 2) := by decide +kernel
theorem dX0_listTurns_66 : decode cX0_listTurns 66 = .ok (.iload 7, 2) := by decide +kernel
theorem dX0_listTurns_68 : decode cX0_listTurns 68 = .ok (.imul, 1) := by decide +kernel
theorem dX0_listTurns_69 : decode cX0_listTurns 69 = .ok (.iadd, 1) := by decide +kernel
theorem dX0_listTurns_70 : decode cX0_listTurns 70 = .ok (.istore 8, 2) := by decide +kernel
theorem dX0_listTurns_72 : decode cX0_listTurns 72 = .ok (.lload 5, 2) := by decide +kernel
theorem dX0_listTurns_74 : decode cX0_listTurns 74 = .ok (.iload 7, 2) := by decide +kernel
theorem dX0_listTurns_76 : decode cX0_listTurns 76 = .ok (.lshr, 1) := by decide +kernel
theorem dX0_listTurns_77 : decode cX0_listTurns 77 = .ok (.lconst 1, 1) := by decide +kernel
theorem dX0_listTurns_78 : decode cX0_listTurns 78 = .ok (.land, 1) := by decide +kernel
theorem dX0_listTurns_79 : decode cX0_listTurns 79 = .ok (.lconst 0, 1) := by decide +kernel
theorem dX0_listTurns_80 : decode cX0_listTurns 80 = .ok (.lcmp, 1) := by decide +kernel
theorem dX0_listTurns_81 : decode cX0_listTurns 81 = .ok (.ifCond .eq 14, 3) := by decide +kernel
theorem dX0_listTurns_84 : decode cX0_listTurns 84 = .ok (.aload_n 0, 1) := by decide +kernel
theorem dX0_listTurns_85 : decode cX0_listTurns 85 = .ok (.aload_n 1, 1) := by decide +kernel
theorem dX0_listTurns_86 : decode cX0_listTurns 86 = .ok (.iload 8, 2) := by decide +kernel
theorem dX0_listTurns_88 : decode cX0_listTurns 88 = .ok (.iload 4, 2) := by decide +kernel
theorem dX0_listTurns_90 : decode cX0_listTurns 90 = .ok (.iload 7, 2) := by decide +kernel
theorem dX0_listTurns_92 : decode cX0_listTurns 92 = .ok (.invokevirtual 98, 3) := by decide +kernel
theorem dX0_listTurns_95 : decode cX0_listTurns 95 = .ok (.lload 5, 2) := by decide +kernel
theorem dX0_listTurns_97 : decode cX0_listTurns 97 = .ok (.iload 7, 2) := by decide +kernel
theorem dX0_listTurns_99 : decode cX0_listTurns 99 = .ok (.bipush 32, 2) := by decide +kernel
theorem dX0_listTurns_101 : decode cX0_listTurns 101 = .ok (.iadd, 1) := by decide +kernel
theorem dX0_listTurns_102 : decode cX0_listTurns 102 = .ok (.lshr, 1) := by decide +kernel
theorem dX0_listTurns_103 : decode cX0_listTurns 103 = .ok (.lconst 1, 1) := by decide +kernel
theorem dX0_listTurns_104 : decode cX0_listTurns 104 = .ok (.land, 1) := by decide +kernel
theorem dX0_listTurns_105 : decode cX0_listTurns 105 = .ok (.lconst 0, 1) := by decide +kernel
theorem dX0_listTurns_106 : decode cX0_listTurns 106 = .ok (.lcmp, 1) := by decide +kernel
theorem dX0_listTurns_107 : decode cX0_listTurns 107 = .ok (.ifCond .eq 12, 3) := by decide +kernel
theorem dX0_listTurns_110 : decode cX0_listTurns 110 = .ok (.aload_n 1, 1) := by decide +kernel
theorem dX0_listTurns_111 : decode cX0_listTurns 111 = .ok (.iload 8, 2) := by decide +kernel
theorem dX0_listTurns_113 : decode cX0_listTurns 113 = .ok (.bipush 99, 2) := by decide +kernel
theorem dX0_listTurns_115 : decode cX0_listTurns 115 = .ok (.iadd, 1) := by decide +kernel
theorem dX0_listTurns_116 : decode cX0_listTurns 116 = .ok (.invokevirtual 102, 3) := by decide +kernel
theorem dX0_listTurns_119 : decode cX0_listTurns 119 = .ok (.iinc 7 1, 3) := by decide +kernel
theorem dX0_listTurns_122 : decode cX0_listTurns 122 = .ok (.goto (-72), 3) := by decide +kernel
theorem dX0_listTurns_125 : decode cX0_listTurns 125 = .ok (.iinc 3 1, 3) := by decide +kernel
theorem dX0_listTurns_128 : decode cX0_listTurns 128 = .ok (.goto (-106), 3) := by decide +kernel
theorem dX0_listTurns_131 : decode cX0_listTurns 131 = .ok (.return_, 1) := by decide +kernel
set_option maxRecDepth 20000 in
theorem ggX0_perform_X0_spotOf : GoodIn wsX0_perform wsX0_spotOf := goodIn_r _ [8, 9, 87, 88, 89, 90, 91, 92, 93, 94, 95, 96, 97, 98, 99] (by decide +kernel) (by decide +kernel)
set_option maxRecDepth 20000 in
theorem gX0_perform_X0_spotOf : GoodIn wsX0_perform (wsV RX0 73 RX0 yX0_spotOf wsX0_spotOf) := goodIn_app (goodIn_of _ (by decide +kernel)) ggX0_perform_X0_spotOf
set_option maxRecDepth 20000 in
theorem ggX0_perform_X0_destinationOf : GoodIn wsX0_perform wsX0_destinationOf := goodIn_r _ [12] (by decide +kernel) (by decide +kernel)
set_option maxRecDepth 20000 in
theorem gX0_perform_X0_destinationOf : GoodIn wsX0_perform (va_wsS RX0 106 yX0_destinationOf wsX0_destinationOf) := goodIn_app (goodIn_of _ (by decide +kernel)) ggX0_perform_X0_destinationOf
set_option maxRecDepth 20000 in
theorem ggX0_perform_X0_asideOf : GoodIn wsX0_perform wsX0_asideOf := goodIn_r _ [16, 17, 18, 19, 7, 20, 21, 22, 23, 24, 25, 26, 27, 87, 88, 89, 90, 91, 92, 93, 94, 95, 96, 97, 98, 99] (by decide +kernel) (by decide +kernel)
set_option maxRecDepth 20000 in
theorem gX0_perform_X0_asideOf : GoodIn wsX0_perform (wsV RX0 109 RX0 yX0_asideOf wsX0_asideOf) := goodIn_app (goodIn_of _ (by decide +kernel)) ggX0_perform_X0_asideOf
set_option maxRecDepth 20000 in
theorem ggX0_perform_X0_remember : GoodIn wsX0_perform wsX0_remember := goodIn_r _ [31, 1, 32, 2, 33, 34, 7, 35, 36, 37, 38, 39, 40, 87, 88, 89, 90, 91, 92, 93, 94, 95, 96, 97, 98, 99] (by decide +kernel) (by decide +kernel)
set_option maxRecDepth 20000 in
theorem gX0_perform_X0_remember : GoodIn wsX0_perform (wsV RX0 113 RX0 yX0_remember wsX0_remember) := goodIn_app (goodIn_of _ (by decide +kernel)) ggX0_perform_X0_remember
set_option maxRecDepth 20000 in
theorem ggX0_perform_X0_powerOf : GoodIn wsX0_perform wsX0_powerOf := goodIn_r _ [25, 26, 27, 87, 88, 89, 90, 91, 92, 93, 94, 95, 96, 97, 98, 99] (by decide +kernel) (by decide +kernel)
set_option maxRecDepth 20000 in
theorem gX0_perform_X0_powerOf : GoodIn wsX0_perform (wsV RX0 117 RX0 yX0_powerOf wsX0_powerOf) := goodIn_app (goodIn_of _ (by decide +kernel)) ggX0_perform_X0_powerOf
set_option maxRecDepth 20000 in
theorem ggX0_perform_X0_storeysOf : GoodIn wsX0_perform wsX0_storeysOf := goodIn_r _ [39, 40, 87, 88, 89, 90, 91, 92, 93, 94, 95, 96, 97, 98, 99] (by decide +kernel) (by decide +kernel)
set_option maxRecDepth 20000 in
theorem gX0_perform_X0_storeysOf : GoodIn wsX0_perform (wsV RX0 77 RX0 yX0_storeysOf wsX0_storeysOf) := goodIn_app (goodIn_of _ (by decide +kernel)) ggX0_perform_X0_storeysOf
set_option maxRecDepth 20000 in
theorem ggX0_perform_X0_carry : GoodIn wsX0_perform wsX0_carry := goodIn_r _ [44, 17, 18, 19, 7, 20, 21, 45, 46, 47, 48, 49, 50, 51, 52, 9, 87, 88, 89, 90, 91, 92, 93, 94, 95, 96, 97, 98, 99] (by decide +kernel) (by decide +kernel)
set_option maxRecDepth 20000 in
theorem gX0_perform_X0_carry : GoodIn wsX0_perform (wsV RX0 120 RX0 yX0_carry wsX0_carry) := goodIn_app (goodIn_of _ (by decide +kernel)) ggX0_perform_X0_carry
set_option maxRecDepth 20000 in
theorem ggX0_perform_X0_setStoreys : GoodIn wsX0_perform wsX0_setStoreys := goodIn_r _ [56, 40, 87, 88, 89, 90, 91, 92, 93, 94, 95, 96, 97, 98, 99] (by decide +kernel) (by decide +kernel)
set_option maxRecDepth 20000 in
theorem gX0_perform_X0_setStoreys : GoodIn wsX0_perform (wsV RX0 123 RX0 yX0_setStoreys wsX0_setStoreys) := goodIn_app (goodIn_of _ (by decide +kernel)) ggX0_perform_X0_setStoreys
set_option maxRecDepth 20000 in
theorem ggX0_perform_X0_hasTurn : GoodIn wsX0_perform wsX0_hasTurn := goodIn_r _ [60, 61, 4, 5, 6, 7, 8, 9, 62, 63, 64, 65, 2, 66, 67, 68, 69, 70, 36, 37, 38, 39, 40, 71, 72, 73, 74, 17, 18, 19, 20, 21, 75, 76, 77, 78, 22, 23, 24, 25, 26, 27, 79, 80, 81, 82, 13, 14, 15, 16, 83, 84, 85, 86, 87, 88, 89, 90, 91, 92, 93, 94, 95, 96, 97, 98, 99] (by decide +kernel) (by decide +kernel)
set_option maxRecDepth 20000 in
theorem gX0_perform_X0_hasTurn : GoodIn wsX0_perform (wsV RX0 85 RX0 yX0_hasTurn wsX0_hasTurn) := goodIn_app (goodIn_of _ (by decide +kernel)) ggX0_perform_X0_hasTurn
theorem dX0_perform_0 : decode cX0_perform 0 = .ok (.aload_n 0, 1) := by decide +kernel
theorem dX0_perform_1 : decode cX0_perform 1 = .ok (.getfield 43, 3) := by decide +kernel
theorem dX0_perform_4 : decode cX0_perform 4 = .ok (.iconst 2, 1) := by decide +kernel
theorem dX0_perform_5 : decode cX0_perform 5 = .ok (.irem, 1) := by decide +kernel
theorem dX0_perform_6 : decode cX0_perform 6 = .ok (.istore_n 2, 1) := by decide +kernel
theorem dX0_perform_7 : decode cX0_perform 7 = .ok (.aload_n 0, 1) := by decide +kernel
theorem dX0_perform_8 : decode cX0_perform 8 = .ok (.iload_n 2, 1) := by decide +kernel
theorem dX0_perform_9 : decode cX0_perform 9 = .ok (.iload_n 1, 1) := by decide +kernel
theorem dX0_perform_10 : decode cX0_perform 10 = .ok (.sipush 10000, 3) := by decide +kernel
theorem dX0_perform_13 : decode cX0_perform 13 = .ok (.idiv, 1) := by decide +kernel
theorem dX0_perform_14 : decode cX0_perform 14 = .ok (.invokevirtual 73, 3) := by decide +kernel
theorem dX0_perform_17 : decode cX0_perform 17 = .ok (.istore_n 3, 1) := by decide +kernel
theorem dX0_perform_18 : decode cX0_perform 18 = .ok (.iload_n 1, 1) := by decide +kernel
theorem dX0_perform_19 : decode cX0_perform 19 = .ok (.invokestatic 106, 3) := by decide +kernel
theorem dX0_perform_22 : decode cX0_perform 22 = .ok (.istore 4, 2) := by decide +kernel
theorem dX0_perform_24 : decode cX0_perform 24 = .ok (.iload_n 1, 1) := by decide +kernel
theorem dX0_perform_25 : decode cX0_perform 25 = .ok (.bipush 100, 2) := by decide +kernel
theorem dX0_perform_27 : decode cX0_perform 27 = .ok (.irem, 1) := by decide +kernel
theorem dX0_perform_28 : decode cX0_perform 28 = .ok (.istore 5, 2) := by decide +kernel
theorem dX0_perform_30 : decode cX0_perform 30 = .ok (.aload_n 0, 1) := by decide +kernel
theorem dX0_perform_31 : decode cX0_perform 31 = .ok (.iload_n 2, 1) := by decide +kernel
theorem dX0_perform_32 : decode cX0_perform 32 = .ok (.iload_n 3, 1) := by decide +kernel
theorem dX0_perform_33 : decode cX0_perform 33 = .ok (.iload 4, 2) := by decide +kernel
theorem dX0_perform_35 : decode cX0_perform 35 = .ok (.invokevirtual 109, 3) := by decide +kernel
theorem dX0_perform_38 : decode cX0_perform 38 = .ok (.istore 6, 2) := by decide +kernel
theorem dX0_perform_40 : decode cX0_perform 40 = .ok (.aload_n 0, 1) := by decide +kernel
theorem dX0_perform_41 : decode cX0_perform 41 = .ok (.iload_n 1, 1) := by decide +kernel
theorem dX0_perform_42 : decode cX0_perform 42 = .ok (.iload_n 3, 1) := by decide +kernel
theorem dX0_perform_43 : decode cX0_perform 43 = .ok (.iload 6, 2) := by decide +kernel
theorem dX0_perform_45 : decode cX0_perform 45 = .ok (.invokevirtual 113, 3) := by decide +kernel
theorem dX0_perform_48 : decode cX0_perform 48 = .ok (.aload_n 0, 1) := by decide +kernel
theorem dX0_perform_49 : decode cX0_perform 49 = .ok (.aload_n 0, 1) := by decide +kernel
theorem dX0_perform_50 : decode cX0_perform 50 = .ok (.iload_n 2, 1) := by decide +kernel
theorem dX0_perform_51 : decode cX0_perform 51 = .ok (.invokevirtual 117, 3) := by decide +kernel
theorem dX0_perform_54 : decode cX0_perform 54 = .ok (.iconst 4, 1) := by decide +kernel
theorem dX0_perform_55 : decode cX0_perform 55 = .ok (.if_icmp .ne 21, 3) := by decide +kernel
theorem dX0_perform_58 : decode cX0_perform 58 = .ok (.aload_n 0, 1) := by decide +kernel
theorem dX0_perform_59 : decode cX0_perform 59 = .ok (.iload 4, 2) := by decide +kernel
theorem dX0_perform_61 : decode cX0_perform 61 = .ok (.invokevirtual 77, 3) := by decide +kernel
theorem dX0_perform_64 : decode cX0_perform 64 = .ok (.aload_n 0, 1) := by decide +kernel
theorem dX0_perform_65 : decode cX0_perform 65 = .ok (.iload_n 3, 1) := by decide +kernel
theorem dX0_perform_66 : decode cX0_perform 66 = .ok (.invokevirtual 77, 3) := by decide +kernel
theorem dX0_perform_69 : decode cX0_perform 69 = .ok (.if_icmp .le 7, 3) := by decide +kernel
theorem dX0_perform_72 : decode cX0_perform 72 = .ok (.iconst 1, 1) := by decide +kernel
theorem dX0_perform_73 : decode cX0_perform 73 = .ok (.goto 4, 3) := by decide +kernel
theorem dX0_perform_76 : decode cX0_perform 76 = .ok (.iconst 0, 1) := by decide +kernel
theorem dX0_perform_77 : decode cX0_perform 77 = .ok (.putfield 49, 3) := by decide +kernel
theorem dX0_perform_80 : decode cX0_perform 80 = .ok (.aload_n 0, 1) := by decide +kernel
theorem dX0_perform_81 : decode cX0_perform 81 = .ok (.iload_n 3, 1) := by decide +kernel
theorem dX0_perform_82 : decode cX0_perform 82 = .ok (.iload 4, 2) := by decide +kernel
theorem dX0_perform_84 : decode cX0_perform 84 = .ok (.iload 6, 2) := by decide +kernel
theorem dX0_perform_86 : decode cX0_perform 86 = .ok (.invokevirtual 120, 3) := by decide +kernel
theorem dX0_perform_89 : decode cX0_perform 89 = .ok (.aload_n 0, 1) := by decide +kernel
theorem dX0_perform_90 : decode cX0_perform 90 = .ok (.dup, 1) := by decide +kernel
theorem dX0_perform_91 : decode cX0_perform 91 = .ok (.getfield 43, 3) := by decide +kernel
theorem dX0_perform_94 : decode cX0_perform 94 = .ok (.iconst 1, 1) := by decide +kernel
theorem dX0_perform_95 : decode cX0_perform 95 = .ok (.iadd, 1) := by decide +kernel
theorem dX0_perform_96 : decode cX0_perform 96 = .ok (.putfield 43, 3) := by decide +kernel
theorem dX0_perform_99 : decode cX0_perform 99 = .ok (.iload 5, 2) := by decide +kernel
theorem dX0_perform_101 : decode cX0_perform 101 = .ok (.bipush 50, 2) := by decide +kernel
theorem dX0_perform_103 : decode cX0_perform 103 = .ok (.if_icmp .ge 20, 3) := by decide +kernel
theorem dX0_perform_106 : decode cX0_perform 106 = .ok (.aload_n 0, 1) := by decide +kernel
theorem dX0_perform_107 : decode cX0_perform 107 = .ok (.iload 5, 2) := by decide +kernel
theorem dX0_perform_109 : decode cX0_perform 109 = .ok (.aload_n 0, 1) := by decide +kernel
theorem dX0_perform_110 : decode cX0_perform 110 = .ok (.iload 5, 2) := by decide +kernel
theorem dX0_perform_112 : decode cX0_perform 112 = .ok (.invokevirtual 77, 3) := by decide +kernel
theorem dX0_perform_115 : decode cX0_perform 115 = .ok (.iconst 1, 1) := by decide +kernel
theorem dX0_perform_116 : decode cX0_perform 116 = .ok (.iadd, 1) := by decide +kernel
theorem dX0_perform_117 : decode cX0_perform 117 = .ok (.invokevirtual 123, 3) := by decide +kernel
theorem dX0_perform_120 : decode cX0_perform 120 = .ok (.goto 20, 3) := by decide +kernel
theorem dX0_perform_123 : decode cX0_perform 123 = .ok (.iload 5, 2) := by decide +kernel
theorem dX0_perform_125 : decode cX0_perform 125 = .ok (.bipush 99, 2) := by decide +kernel
theorem dX0_perform_127 : decode cX0_perform 127 = .ok (.if_icmp .ge 13, 3) := by decide +kernel
theorem dX0_perform_130 : decode cX0_perform 130 = .ok (.aload_n 0, 1) := by decide +kernel
theorem dX0_perform_131 : decode cX0_perform 131 = .ok (.iload 5, 2) := by decide +kernel
theorem dX0_perform_133 : decode cX0_perform 133 = .ok (.bipush 50, 2) := by decide +kernel
theorem dX0_perform_135 : decode cX0_perform 135 = .ok (.isub, 1) := by decide +kernel
theorem dX0_perform_136 : decode cX0_perform 136 = .ok (.iconst 4, 1) := by decide +kernel
theorem dX0_perform_137 : decode cX0_perform 137 = .ok (.invokevirtual 123, 3) := by decide +kernel
theorem dX0_perform_140 : decode cX0_perform 140 = .ok (.iload 5, 2) := by decide +kernel
theorem dX0_perform_142 : decode cX0_perform 142 = .ok (.bipush 99, 2) := by decide +kernel
theorem dX0_perform_144 : decode cX0_perform 144 = .ok (.if_icmp .eq 13, 3) := by decide +kernel
theorem dX0_perform_147 : decode cX0_perform 147 = .ok (.aload_n 0, 1) := by decide +kernel
theorem dX0_perform_148 : decode cX0_perform 148 = .ok (.iconst 1, 1) := by decide +kernel
theorem dX0_perform_149 : decode cX0_perform 149 = .ok (.iload_n 2, 1) := by decide +kernel
theorem dX0_perform_150 : decode cX0_perform 150 = .ok (.isub, 1) := by decide +kernel
theorem dX0_perform_151 : decode cX0_perform 151 = .ok (.invokevirtual 85, 3) := by decide +kernel
theorem dX0_perform_154 : decode cX0_perform 154 = .ok (.ifCond .ne 8, 3) := by decide +kernel
theorem dX0_perform_157 : decode cX0_perform 157 = .ok (.aload_n 0, 1) := by decide +kernel
theorem dX0_perform_158 : decode cX0_perform 158 = .ok (.iload_n 2, 1) := by decide +kernel
theorem dX0_perform_159 : decode cX0_perform 159 = .ok (.putfield 46, 3) := by decide +kernel
theorem dX0_perform_162 : decode cX0_perform 162 = .ok (.return_, 1) := by decide +kernel
set_option maxRecDepth 20000 in
theorem ggX0_undo_X0_builtCellOf : GoodIn wsX0_undo wsX0_builtCellOf := goodIn_r _ [8] (by decide +kernel) (by decide +kernel)
set_option maxRecDepth 20000 in
theorem gX0_undo_X0_builtCellOf : GoodIn wsX0_undo (va_wsS RX0 126 yX0_builtCellOf wsX0_builtCellOf) := goodIn_app (goodIn_of _ (by decide +kernel)) ggX0_undo_X0_builtCellOf
set_option maxRecDepth 20000 in
theorem ggX0_undo_X0_setStoreys : GoodIn wsX0_undo wsX0_setStoreys := goodIn_r _ [12, 13, 35, 36, 37, 38, 39, 40, 41, 42, 43, 44, 45, 46, 47] (by decide +kernel) (by decide +kernel)
set_option maxRecDepth 20000 in
theorem gX0_undo_X0_setStoreys : GoodIn wsX0_undo (wsV RX0 123 RX0 yX0_setStoreys wsX0_setStoreys) := goodIn_app (goodIn_of _ (by decide +kernel)) ggX0_undo_X0_setStoreys
set_option maxRecDepth 20000 in
theorem ggX0_undo_X0_destinationOf : GoodIn wsX0_undo wsX0_destinationOf := goodIn_r _ [16] (by decide +kernel) (by decide +kernel)
set_option maxRecDepth 20000 in
theorem gX0_undo_X0_destinationOf : GoodIn wsX0_undo (va_wsS RX0 106 yX0_destinationOf wsX0_destinationOf) := goodIn_app (goodIn_of _ (by decide +kernel)) ggX0_undo_X0_destinationOf
set_option maxRecDepth 20000 in
theorem ggX0_undo_X0_carryBack : GoodIn wsX0_undo wsX0_carryBack := goodIn_r _ [20, 21, 22, 23, 7, 24, 25, 26, 27, 28, 29, 30, 31, 32, 33, 34, 35, 36, 37, 38, 39, 40, 41, 42, 43, 44, 45, 46, 47] (by decide +kernel) (by decide +kernel)
set_option maxRecDepth 20000 in
theorem gX0_undo_X0_carryBack : GoodIn wsX0_undo (wsV RX0 129 RX0 yX0_carryBack wsX0_carryBack) := goodIn_app (goodIn_of _ (by decide +kernel)) ggX0_undo_X0_carryBack
theorem dX0_undo_0 : decode cX0_undo 0 = .ok (.aload_n 0, 1) := by decide +kernel
theorem dX0_undo_1 : decode cX0_undo 1 = .ok (.getfield 43, 3) := by decide +kernel
theorem dX0_undo_4 : decode cX0_undo 4 = .ok (.iconst 1, 1) := by decide +kernel
theorem dX0_undo_5 : decode cX0_undo 5 = .ok (.isub, 1) := by decide +kernel
theorem dX0_undo_6 : decode cX0_undo 6 = .ok (.iconst 5, 1) := by decide +kernel
theorem dX0_undo_7 : decode cX0_undo 7 = .ok (.imul, 1) := by decide +kernel
theorem dX0_undo_8 : decode cX0_undo 8 = .ok (.istore_n 1, 1) := by decide +kernel
theorem dX0_undo_9 : decode cX0_undo 9 = .ok (.iload_n 1, 1) := by decide +kernel
theorem dX0_undo_10 : decode cX0_undo 10 = .ok (.ifCond .lt 14, 3) := by decide +kernel
theorem dX0_undo_13 : decode cX0_undo 13 = .ok (.iload_n 1, 1) := by decide +kernel
theorem dX0_undo_14 : decode cX0_undo 14 = .ok (.iconst 5, 1) := by decide +kernel
theorem dX0_undo_15 : decode cX0_undo 15 = .ok (.iadd, 1) := by decide +kernel
theorem dX0_undo_16 : decode cX0_undo 16 = .ok (.aload_n 0, 1) := by decide +kernel
theorem dX0_undo_17 : decode cX0_undo 17 = .ok (.getfield 24, 3) := by decide +kernel
theorem dX0_undo_20 : decode cX0_undo 20 = .ok (.arraylength, 1) := by decide +kernel
theorem dX0_undo_21 : decode cX0_undo 21 = .ok (.if_icmp .le 4, 3) := by decide +kernel
theorem dX0_undo_24 : decode cX0_undo 24 = .ok (.return_, 1) := by decide +kernel
theorem dX0_undo_25 : decode cX0_undo 25 = .ok (.aload_n 0, 1) := by decide +kernel
theorem dX0_undo_26 : decode cX0_undo 26 = .ok (.dup, 1) := by decide +kernel
theorem dX0_undo_27 : decode cX0_undo 27 = .ok (.getfield 43, 3) := by decide +kernel
theorem dX0_undo_30 : decode cX0_undo 30 = .ok (.iconst 1, 1) := by decide +kernel
theorem dX0_undo_31 : decode cX0_undo 31 = .ok (.isub, 1) := by decide +kernel
theorem dX0_undo_32 : decode cX0_undo 32 = .ok (.putfield 43, 3) := by decide +kernel
theorem dX0_undo_35 : decode cX0_undo 35 = .ok (.aload_n 0, 1) := by decide +kernel
theorem dX0_undo_36 : decode cX0_undo 36 = .ok (.iconst (-1), 1) := by decide +kernel
theorem dX0_undo_37 : decode cX0_undo 37 = .ok (.putfield 46, 3) := by decide +kernel
theorem dX0_undo_40 : decode cX0_undo 40 = .ok (.aload_n 0, 1) := by decide +kernel
theorem dX0_undo_41 : decode cX0_undo 41 = .ok (.getfield 24, 3) := by decide +kernel
theorem dX0_undo_44 : decode cX0_undo 44 = .ok (.iload_n 1, 1) := by decide +kernel
theorem dX0_undo_45 : decode cX0_undo 45 = .ok (.iaload, 1) := by decide +kernel
theorem dX0_undo_46 : decode cX0_undo 46 = .ok (.istore_n 2, 1) := by decide +kernel
theorem dX0_undo_47 : decode cX0_undo 47 = .ok (.aload_n 0, 1) := by decide +kernel
theorem dX0_undo_48 : decode cX0_undo 48 = .ok (.iload_n 2, 1) := by decide +kernel
theorem dX0_undo_49 : decode cX0_undo 49 = .ok (.invokestatic 126, 3) := by decide +kernel
theorem dX0_undo_52 : decode cX0_undo 52 = .ok (.aload_n 0, 1) := by decide +kernel
theorem dX0_undo_53 : decode cX0_undo 53 = .ok (.getfield 24, 3) := by decide +kernel
theorem dX0_undo_56 : decode cX0_undo 56 = .ok (.iload_n 1, 1) := by decide +kernel
theorem dX0_undo_57 : decode cX0_undo 57 = .ok (.iconst 3, 1) := by decide +kernel
theorem dX0_undo_58 : decode cX0_undo 58 = .ok (.iadd, 1) := by decide +kernel
theorem dX0_undo_59 : decode cX0_undo 59 = .ok (.iaload, 1) := by decide +kernel
theorem dX0_undo_60 : decode cX0_undo 60 = .ok (.invokevirtual 123, 3) := by decide +kernel
theorem dX0_undo_63 : decode cX0_undo 63 = .ok (.aload_n 0, 1) := by decide +kernel
theorem dX0_undo_64 : decode cX0_undo 64 = .ok (.aload_n 0, 1) := by decide +kernel
theorem dX0_undo_65 : decode cX0_undo 65 = .ok (.getfield 24, 3) := by decide +kernel
theorem dX0_undo_68 : decode cX0_undo 68 = .ok (.iload_n 1, 1) := by decide +kernel
theorem dX0_undo_69 : decode cX0_undo 69 = .ok (.iconst 4, 1) := by decide +kernel
theorem dX0_undo_70 : decode cX0_undo 70 = .ok (.iadd, 1) := by decide +kernel
theorem dX0_undo_71 : decode cX0_undo 71 = .ok (.iaload, 1) := by decide +kernel
theorem dX0_undo_72 : decode cX0_undo 72 = .ok (.iconst 1, 1) := by decide +kernel
theorem dX0_undo_73 : decode cX0_undo 73 = .ok (.if_icmp .ne 7, 3) := by decide +kernel
theorem dX0_undo_76 : decode cX0_undo 76 = .ok (.iconst 1, 1) := by decide +kernel
theorem dX0_undo_77 : decode cX0_undo 77 = .ok (.goto 4, 3) := by decide +kernel
theorem dX0_undo_80 : decode cX0_undo 80 = .ok (.iconst 0, 1) := by decide +kernel
theorem dX0_undo_81 : decode cX0_undo 81 = .ok (.putfield 49, 3) := by decide +kernel
theorem dX0_undo_84 : decode cX0_undo 84 = .ok (.aload_n 0, 1) := by decide +kernel
theorem dX0_undo_85 : decode cX0_undo 85 = .ok (.aload_n 0, 1) := by decide +kernel
theorem dX0_undo_86 : decode cX0_undo 86 = .ok (.getfield 24, 3) := by decide +kernel
theorem dX0_undo_89 : decode cX0_undo 89 = .ok (.iload_n 1, 1) := by decide +kernel
theorem dX0_undo_90 : decode cX0_undo 90 = .ok (.iconst 1, 1) := by decide +kernel
theorem dX0_undo_91 : decode cX0_undo 91 = .ok (.iadd, 1) := by decide +kernel
theorem dX0_undo_92 : decode cX0_undo 92 = .ok (.iaload, 1) := by decide +kernel
theorem dX0_undo_93 : decode cX0_undo 93 = .ok (.iload_n 2, 1) := by decide +kernel
theorem dX0_undo_94 : decode cX0_undo 94 = .ok (.invokestatic 106, 3) := by decide +kernel
theorem dX0_undo_97 : decode cX0_undo 97 = .ok (.aload_n 0, 1) := by decide +kernel
theorem dX0_undo_98 : decode cX0_undo 98 = .ok (.getfield 24, 3) := by decide +kernel
theorem dX0_undo_101 : decode cX0_undo 101 = .ok (.iload_n 1, 1) := by decide +kernel
theorem dX0_undo_102 : decode cX0_undo 102 = .ok (.iconst 2, 1) := by decide +kernel
theorem dX0_undo_103 : decode cX0_undo 103 = .ok (.iadd, 1) := by decide +kernel
theorem dX0_undo_104 : decode cX0_undo 104 = .ok (.iaload, 1) := by decide +kernel
theorem dX0_undo_105 : decode cX0_undo 105 = .ok (.invokevirtual 129, 3) := by decide +kernel
theorem dX0_undo_108 : decode cX0_undo 108 = .ok (.return_, 1) := by decide +kernel
set_option maxRecDepth 20000 in
theorem ggX0_remember_X0_builtCellOf : GoodIn wsX0_remember wsX0_builtCellOf := goodIn_r _ [7] (by decide +kernel) (by decide +kernel)
set_option maxRecDepth 20000 in
theorem gX0_remember_X0_builtCellOf : GoodIn wsX0_remember (va_wsS RX0 126 yX0_builtCellOf wsX0_builtCellOf) := goodIn_app (goodIn_of _ (by decide +kernel)) ggX0_remember_X0_builtCellOf
set_option maxRecDepth 20000 in
theorem ggX0_remember_X0_storeysOf : GoodIn wsX0_remember wsX0_storeysOf := goodIn_r _ [11, 12, 13, 14, 15, 16, 17, 18, 19, 20, 21, 22, 23, 24, 25] (by decide +kernel) (by decide +kernel)
set_option maxRecDepth 20000 in
theorem gX0_remember_X0_storeysOf : GoodIn wsX0_remember (wsV RX0 77 RX0 yX0_storeysOf wsX0_storeysOf) := goodIn_app (goodIn_of _ (by decide +kernel)) ggX0_remember_X0_storeysOf
theorem dX0_remember_0 : decode cX0_remember 0 = .ok (.aload_n 0, 1) := by decide +kernel
theorem dX0_remember_1 : decode cX0_remember 1 = .ok (.getfield 43, 3) := by decide +kernel
theorem dX0_remember_4 : decode cX0_remember 4 = .ok (.iconst 5, 1) := by decide +kernel
theorem dX0_remember_5 : decode cX0_remember 5 = .ok (.imul, 1) := by decide +kernel
theorem dX0_remember_6 : decode cX0_remember 6 = .ok (.istore 4, 2) := by decide +kernel
theorem dX0_remember_8 : decode cX0_remember 8 = .ok (.iload 4, 2) := by decide +kernel
theorem dX0_remember_10 : decode cX0_remember 10 = .ok (.ifCond .lt 81, 3) := by decide +kernel
theorem dX0_remember_13 : decode cX0_remember 13 = .ok (.iload 4, 2) := by decide +kernel
theorem dX0_remember_15 : decode cX0_remember 15 = .ok (.iconst 5, 1) := by decide +kernel
theorem dX0_remember_16 : decode cX0_remember 16 = .ok (.iadd, 1) := by decide +kernel
theorem dX0_remember_17 : decode cX0_remember 17 = .ok (.aload_n 0, 1) := by decide +kernel
theorem dX0_remember_18 : decode cX0_remember 18 = .ok (.getfield 24, 3) := by decide +kernel
theorem dX0_remember_21 : decode cX0_remember 21 = .ok (.arraylength, 1) := by decide +kernel
theorem dX0_remember_22 : decode cX0_remember 22 = .ok (.if_icmp .gt 69, 3) := by decide +kernel
theorem dX0_remember_25 : decode cX0_remember 25 = .ok (.aload_n 0, 1) := by decide +kernel
theorem dX0_remember_26 : decode cX0_remember 26 = .ok (.getfield 24, 3) := by decide +kernel
theorem dX0_remember_29 : decode cX0_remember 29 = .ok (.iload 4, 2) := by decide +kernel
theorem dX0_remember_31 : decode cX0_remember 31 = .ok (.iload_n 1, 1) := by decide +kernel
theorem dX0_remember_32 : decode cX0_remember 32 = .ok (.iastore, 1) := by decide +kernel
theorem dX0_remember_33 : decode cX0_remember 33 = .ok (.aload_n 0, 1) := by decide +kernel
theorem dX0_remember_34 : decode cX0_remember 34 = .ok (.getfield 24, 3) := by decide +kernel
theorem dX0_remember_37 : decode cX0_remember 37 = .ok (.iload 4, 2) := by decide +kernel
theorem dX0_remember_39 : decode cX0_remember 39 = .ok (.iconst 1, 1) := by decide +kernel
theorem dX0_remember_40 : decode cX0_remember 40 = .ok (.iadd, 1) := by decide +kernel
theorem dX0_remember_41 : decode cX0_remember 41 = .ok (.iload_n 2, 1) := by decide +kernel
theorem dX0_remember_42 : decode cX0_remember 42 = .ok (.iastore, 1) := by decide +kernel
theorem dX0_remember_43 : decode cX0_remember 43 = .ok (.aload_n 0, 1) := by decide +kernel
theorem dX0_remember_44 : decode cX0_remember 44 = .ok (.getfield 24, 3) := by decide +kernel
theorem dX0_remember_47 : decode cX0_remember 47 = .ok (.iload 4, 2) := by decide +kernel
theorem dX0_remember_49 : decode cX0_remember 49 = .ok (.iconst 2, 1) := by decide +kernel
theorem dX0_remember_50 : decode cX0_remember 50 = .ok (.iadd, 1) := by decide +kernel
theorem dX0_remember_51 : decode cX0_remember 51 = .ok (.iload_n 3, 1) := by decide +kernel
theorem dX0_remember_52 : decode cX0_remember 52 = .ok (.iastore, 1) := by decide +kernel
theorem dX0_remember_53 : decode cX0_remember 53 = .ok (.aload_n 0, 1) := by decide +kernel
theorem dX0_remember_54 : decode cX0_remember 54 = .ok (.getfield 24, 3) := by decide +kernel
theorem dX0_remember_57 : decode cX0_remember 57 = .ok (.iload 4, 2) := by decide +kernel
theorem dX0_remember_59 : decode cX0_remember 59 = .ok (.iconst 3, 1) := by decide +kernel
theorem dX0_remember_60 : decode cX0_remember 60 = .ok (.iadd, 1) := by decide +kernel
theorem dX0_remember_61 : decode cX0_remember 61 = .ok (.aload_n 0, 1) := by decide +kernel
theorem dX0_remember_62 : decode cX0_remember 62 = .ok (.iload_n 1, 1) := by decide +kernel
theorem dX0_remember_63 : decode cX0_remember 63 = .ok (.invokestatic 126, 3) := by decide +kernel
theorem dX0_remember_66 : decode cX0_remember 66 = .ok (.invokevirtual 77, 3) := by decide +kernel
theorem dX0_remember_69 : decode cX0_remember 69 = .ok (.iastore, 1) := by decide +kernel
theorem dX0_remember_70 : decode cX0_remember 70 = .ok (.aload_n 0, 1) := by decide +kernel
theorem dX0_remember_71 : decode cX0_remember 71 = .ok (.getfield 24, 3) := by decide +kernel
theorem dX0_remember_74 : decode cX0_remember 74 = .ok (.iload 4, 2) := by decide +kernel
theorem dX0_remember_76 : decode cX0_remember 76 = .ok (.iconst 4, 1) := by decide +kernel
theorem dX0_remember_77 : decode cX0_remember 77 = .ok (.iadd, 1) := by decide +kernel
theorem dX0_remember_78 : decode cX0_remember 78 = .ok (.aload_n 0, 1) := by decide +kernel
theorem dX0_remember_79 : decode cX0_remember 79 = .ok (.getfield 49, 3) := by decide +kernel
theorem dX0_remember_82 : decode cX0_remember 82 = .ok (.ifCond .eq 7, 3) := by decide +kernel
theorem dX0_remember_85 : decode cX0_remember 85 = .ok (.iconst 1, 1) := by decide +kernel
theorem dX0_remember_86 : decode cX0_remember 86 = .ok (.goto 4, 3) := by decide +kernel
theorem dX0_remember_89 : decode cX0_remember 89 = .ok (.iconst 0, 1) := by decide +kernel
theorem dX0_remember_90 : decode cX0_remember 90 = .ok (.iastore, 1) := by decide +kernel
theorem dX0_remember_91 : decode cX0_remember 91 = .ok (.return_, 1) := by decide +kernel
set_option maxRecDepth 20000 in
theorem ggX0_carry_X0_holderOf : GoodIn wsX0_carry wsX0_holderOf := goodIn_r _ [5, 6, 16, 17, 18, 19, 20, 21, 22, 23, 24, 25, 26, 27, 28] (by decide +kernel) (by decide +kernel)
set_option maxRecDepth 20000 in
theorem gX0_carry_X0_holderOf : GoodIn wsX0_carry (wsV RX0 132 RX0 yX0_holderOf wsX0_holderOf) := goodIn_app (goodIn_of _ (by decide +kernel)) ggX0_carry_X0_holderOf
set_option maxRecDepth 20000 in
theorem ggX0_carry_X0_clear : GoodIn wsX0_carry wsX0_clear := goodIn_r _ [10, 6, 16, 17, 18, 19, 20, 21, 22, 23, 24, 25, 26, 27, 28] (by decide +kernel) (by decide +kernel)
set_option maxRecDepth 20000 in
theorem gX0_carry_X0_clear : GoodIn wsX0_carry (wsV RX0 135 RX0 yX0_clear wsX0_clear) := goodIn_app (goodIn_of _ (by decide +kernel)) ggX0_carry_X0_clear
set_option maxRecDepth 20000 in
theorem ggX0_carry_X0_put : GoodIn wsX0_carry wsX0_put := goodIn_r _ [14, 6, 15, 16, 17, 18, 19, 20, 21, 22, 23, 24, 25, 26, 27, 28] (by decide +kernel) (by decide +kernel)
set_option maxRecDepth 20000 in
theorem gX0_carry_X0_put : GoodIn wsX0_carry (wsV RX0 81 RX0 yX0_put wsX0_put) := goodIn_app (goodIn_of _ (by decide +kernel)) ggX0_carry_X0_put
theorem dX0_carry_0 : decode cX0_carry 0 = .ok (.aload_n 0, 1) := by decide +kernel
theorem dX0_carry_1 : decode cX0_carry 1 = .ok (.iload_n 1, 1) := by decide +kernel
theorem dX0_carry_2 : decode cX0_carry 2 = .ok (.invokevirtual 132, 3) := by decide +kernel
theorem dX0_carry_5 : decode cX0_carry 5 = .ok (.istore 4, 2) := by decide +kernel
theorem dX0_carry_7 : decode cX0_carry 7 = .ok (.aload_n 0, 1) := by decide +kernel
theorem dX0_carry_8 : decode cX0_carry 8 = .ok (.iload_n 2, 1) := by decide +kernel
theorem dX0_carry_9 : decode cX0_carry 9 = .ok (.invokevirtual 132, 3) := by decide +kernel
theorem dX0_carry_12 : decode cX0_carry 12 = .ok (.istore 5, 2) := by decide +kernel
theorem dX0_carry_14 : decode cX0_carry 14 = .ok (.aload_n 0, 1) := by decide +kernel
theorem dX0_carry_15 : decode cX0_carry 15 = .ok (.iload_n 1, 1) := by decide +kernel
theorem dX0_carry_16 : decode cX0_carry 16 = .ok (.invokevirtual 135, 3) := by decide +kernel
theorem dX0_carry_19 : decode cX0_carry 19 = .ok (.aload_n 0, 1) := by decide +kernel
theorem dX0_carry_20 : decode cX0_carry 20 = .ok (.iload 4, 2) := by decide +kernel
theorem dX0_carry_22 : decode cX0_carry 22 = .ok (.iload_n 2, 1) := by decide +kernel
theorem dX0_carry_23 : decode cX0_carry 23 = .ok (.invokevirtual 81, 3) := by decide +kernel
theorem dX0_carry_26 : decode cX0_carry 26 = .ok (.iload_n 3, 1) := by decide +kernel
theorem dX0_carry_27 : decode cX0_carry 27 = .ok (.iconst (-1), 1) := by decide +kernel
theorem dX0_carry_28 : decode cX0_carry 28 = .ok (.if_icmp .eq 10, 3) := by decide +kernel
theorem dX0_carry_31 : decode cX0_carry 31 = .ok (.aload_n 0, 1) := by decide +kernel
theorem dX0_carry_32 : decode cX0_carry 32 = .ok (.iload 5, 2) := by decide +kernel
theorem dX0_carry_34 : decode cX0_carry 34 = .ok (.iload_n 3, 1) := by decide +kernel
theorem dX0_carry_35 : decode cX0_carry 35 = .ok (.invokevirtual 81, 3) := by decide +kernel
theorem dX0_carry_38 : decode cX0_carry 38 = .ok (.return_, 1) := by decide +kernel
set_option maxRecDepth 20000 in
theorem ggX0_carryBack_X0_holderOf : GoodIn wsX0_carryBack wsX0_holderOf := goodIn_r _ [5, 6, 16, 17, 18, 19, 20, 21, 22, 23, 24, 25, 26, 27, 28] (by decide +kernel) (by decide +kernel)
set_option maxRecDepth 20000 in
theorem gX0_carryBack_X0_holderOf : GoodIn wsX0_carryBack (wsV RX0 132 RX0 yX0_holderOf wsX0_holderOf) := goodIn_app (goodIn_of _ (by decide +kernel)) ggX0_carryBack_X0_holderOf
set_option maxRecDepth 20000 in
theorem ggX0_carryBack_X0_clear : GoodIn wsX0_carryBack wsX0_clear := goodIn_r _ [10, 6, 16, 17, 18, 19, 20, 21, 22, 23, 24, 25, 26, 27, 28] (by decide +kernel) (by decide +kernel)
set_option maxRecDepth 20000 in
theorem gX0_carryBack_X0_clear : GoodIn wsX0_carryBack (wsV RX0 135 RX0 yX0_clear wsX0_clear) := goodIn_app (goodIn_of _ (by decide +kernel)) ggX0_carryBack_X0_clear
set_option maxRecDepth 20000 in
theorem ggX0_carryBack_X0_put : GoodIn wsX0_carryBack wsX0_put := goodIn_r _ [14, 6, 15, 16, 17, 18, 19, 20, 21, 22, 23, 24, 25, 26, 27, 28] (by decide +kernel) (by decide +kernel)
set_option maxRecDepth 20000 in
theorem gX0_carryBack_X0_put : GoodIn wsX0_carryBack (wsV RX0 81 RX0 yX0_put wsX0_put) := goodIn_app (goodIn_of _ (by decide +kernel)) ggX0_carryBack_X0_put
theorem dX0_carryBack_0 : decode cX0_carryBack 0 = .ok (.aload_n 0, 1) := by decide +kernel
theorem dX0_carryBack_1 : decode cX0_carryBack 1 = .ok (.iload_n 2, 1) := by decide +kernel
theorem dX0_carryBack_2 : decode cX0_carryBack 2 = .ok (.invokevirtual 132, 3) := by decide +kernel
theorem dX0_carryBack_5 : decode cX0_carryBack 5 = .ok (.istore 4, 2) := by decide +kernel
theorem dX0_carryBack_7 : decode cX0_carryBack 7 = .ok (.aload_n 0, 1) := by decide +kernel
theorem dX0_carryBack_8 : decode cX0_carryBack 8 = .ok (.iload_n 3, 1) := by decide +kernel
theorem dX0_carryBack_9 : decode cX0_carryBack 9 = .ok (.invokevirtual 132, 3) := by decide +kernel
theorem dX0_carryBack_12 : decode cX0_carryBack 12 = .ok (.istore 5, 2) := by decide +kernel
theorem dX0_carryBack_14 : decode cX0_carryBack 14 = .ok (.aload_n 0, 1) := by decide +kernel
theorem dX0_carryBack_15 : decode cX0_carryBack 15 = .ok (.iload_n 2, 1) := by decide +kernel
theorem dX0_carryBack_16 : decode cX0_carryBack 16 = .ok (.invokevirtual 135, 3) := by decide +kernel
theorem dX0_carryBack_19 : decode cX0_carryBack 19 = .ok (.iload_n 3, 1) := by decide +kernel
theorem dX0_carryBack_20 : decode cX0_carryBack 20 = .ok (.iconst (-1), 1) := by decide +kernel
theorem dX0_carryBack_21 : decode cX0_carryBack 21 = .ok (.if_icmp .eq 15, 3) := by decide +kernel
theorem dX0_carryBack_24 : decode cX0_carryBack 24 = .ok (.aload_n 0, 1) := by decide +kernel
theorem dX0_carryBack_25 : decode cX0_carryBack 25 = .ok (.iload_n 3, 1) := by decide +kernel
theorem dX0_carryBack_26 : decode cX0_carryBack 26 = .ok (.invokevirtual 135, 3) := by decide +kernel
theorem dX0_carryBack_29 : decode cX0_carryBack 29 = .ok (.aload_n 0, 1) := by decide +kernel
theorem dX0_carryBack_30 : decode cX0_carryBack 30 = .ok (.iload 5, 2) := by decide +kernel
theorem dX0_carryBack_32 : decode cX0_carryBack 32 = .ok (.iload_n 2, 1) := by decide +kernel
theorem dX0_carryBack_33 : decode cX0_carryBack 33 = .ok (.invokevirtual 81, 3) := by decide +kernel
theorem dX0_carryBack_36 : decode cX0_carryBack 36 = .ok (.aload_n 0, 1) := by decide +kernel
theorem dX0_carryBack_37 : decode cX0_carryBack 37 = .ok (.iload 4, 2) := by decide +kernel
theorem dX0_carryBack_39 : decode cX0_carryBack 39 = .ok (.iload_n 1, 1) := by decide +kernel
theorem dX0_carryBack_40 : decode cX0_carryBack 40 = .ok (.invokevirtual 81, 3) := by decide +kernel
theorem dX0_carryBack_43 : decode cX0_carryBack 43 = .ok (.return_, 1) := by decide +kernel
theorem dX0_put_0 : decode cX0_put 0 = .ok (.iconst 2, 1) := by decide +kernel
theorem dX0_put_1 : decode cX0_put 1 = .ok (.iload_n 1, 1) := by decide +kernel
theorem dX0_put_2 : decode cX0_put 2 = .ok (.bipush 10, 2) := by decide +kernel
theorem dX0_put_4 : decode cX0_put 4 = .ok (.idiv, 1) := by decide +kernel
theorem dX0_put_5 : decode cX0_put 5 = .ok (.imul, 1) := by decide +kernel
theorem dX0_put_6 : decode cX0_put 6 = .ok (.iload_n 1, 1) := by decide +kernel
theorem dX0_put_7 : decode cX0_put 7 = .ok (.bipush 10, 2) := by decide +kernel
theorem dX0_put_9 : decode cX0_put 9 = .ok (.irem, 1) := by decide +kernel
theorem dX0_put_10 : decode cX0_put 10 = .ok (.iadd, 1) := by decide +kernel
theorem dX0_put_11 : decode cX0_put 11 = .ok (.istore_n 3, 1) := by decide +kernel
theorem dX0_put_12 : decode cX0_put 12 = .ok (.iload_n 2, 1) := by decide +kernel
theorem dX0_put_13 : decode cX0_put 13 = .ok (.ifCond .lt 39, 3) := by decide +kernel
theorem dX0_put_16 : decode cX0_put 16 = .ok (.iload_n 2, 1) := by decide +kernel
theorem dX0_put_17 : decode cX0_put 17 = .ok (.aload_n 0, 1) := by decide +kernel
theorem dX0_put_18 : decode cX0_put 18 = .ok (.getfield 18, 3) := by decide +kernel
theorem dX0_put_21 : decode cX0_put 21 = .ok (.arraylength, 1) := by decide +kernel
theorem dX0_put_22 : decode cX0_put 22 = .ok (.if_icmp .ge 30, 3) := by decide +kernel
theorem dX0_put_25 : decode cX0_put 25 = .ok (.iload_n 3, 1) := by decide +kernel
theorem dX0_put_26 : decode cX0_put 26 = .ok (.ifCond .lt 26, 3) := by decide +kernel
theorem dX0_put_29 : decode cX0_put 29 = .ok (.iload_n 3, 1) := by decide +kernel
theorem dX0_put_30 : decode cX0_put 30 = .ok (.aload_n 0, 1) := by decide +kernel
theorem dX0_put_31 : decode cX0_put 31 = .ok (.getfield 21, 3) := by decide +kernel
theorem dX0_put_34 : decode cX0_put 34 = .ok (.arraylength, 1) := by decide +kernel
theorem dX0_put_35 : decode cX0_put 35 = .ok (.if_icmp .ge 17, 3) := by decide +kernel
theorem dX0_put_38 : decode cX0_put 38 = .ok (.aload_n 0, 1) := by decide +kernel
theorem dX0_put_39 : decode cX0_put 39 = .ok (.getfield 18, 3) := by decide +kernel
theorem dX0_put_42 : decode cX0_put 42 = .ok (.iload_n 2, 1) := by decide +kernel
theorem dX0_put_43 : decode cX0_put 43 = .ok (.iload_n 1, 1) := by decide +kernel
theorem dX0_put_44 : decode cX0_put 44 = .ok (.iastore, 1) := by decide +kernel
theorem dX0_put_45 : decode cX0_put 45 = .ok (.aload_n 0, 1) := by decide +kernel
theorem dX0_put_46 : decode cX0_put 46 = .ok (.getfield 21, 3) := by decide +kernel
theorem dX0_put_49 : decode cX0_put 49 = .ok (.iload_n 3, 1) := by decide +kernel
theorem dX0_put_50 : decode cX0_put 50 = .ok (.iload_n 2, 1) := by decide +kernel
theorem dX0_put_51 : decode cX0_put 51 = .ok (.iastore, 1) := by decide +kernel
theorem dX0_put_52 : decode cX0_put 52 = .ok (.return_, 1) := by decide +kernel
theorem dX0_clear_0 : decode cX0_clear 0 = .ok (.iload_n 1, 1) := by decide +kernel
theorem dX0_clear_1 : decode cX0_clear 1 = .ok (.ifCond .lt 19, 3) := by decide +kernel
theorem dX0_clear_4 : decode cX0_clear 4 = .ok (.iload_n 1, 1) := by decide +kernel
theorem dX0_clear_5 : decode cX0_clear 5 = .ok (.aload_n 0, 1) := by decide +kernel
theorem dX0_clear_6 : decode cX0_clear 6 = .ok (.getfield 18, 3) := by decide +kernel
theorem dX0_clear_9 : decode cX0_clear 9 = .ok (.arraylength, 1) := by decide +kernel
theorem dX0_clear_10 : decode cX0_clear 10 = .ok (.if_icmp .ge 10, 3) := by decide +kernel
theorem dX0_clear_13 : decode cX0_clear 13 = .ok (.aload_n 0, 1) := by decide +kernel
theorem dX0_clear_14 : decode cX0_clear 14 = .ok (.getfield 18, 3) := by decide +kernel
theorem dX0_clear_17 : decode cX0_clear 17 = .ok (.iload_n 1, 1) := by decide +kernel
theorem dX0_clear_18 : decode cX0_clear 18 = .ok (.iconst (-1), 1) := by decide +kernel
theorem dX0_clear_19 : decode cX0_clear 19 = .ok (.iastore, 1) := by decide +kernel
theorem dX0_clear_20 : decode cX0_clear 20 = .ok (.return_, 1) := by decide +kernel
theorem dX0_destinationOf_0 : decode cX0_destinationOf 0 = .ok (.iload_n 0, 1) := by decide +kernel
theorem dX0_destinationOf_1 : decode cX0_destinationOf 1 = .ok (.bipush 100, 2) := by decide +kernel
theorem dX0_destinationOf_3 : decode cX0_destinationOf 3 = .ok (.idiv, 1) := by decide +kernel
theorem dX0_destinationOf_4 : decode cX0_destinationOf 4 = .ok (.bipush 100, 2) := by decide +kernel
theorem dX0_destinationOf_6 : decode cX0_destinationOf 6 = .ok (.irem, 1) := by decide +kernel
theorem dX0_destinationOf_7 : decode cX0_destinationOf 7 = .ok (.ireturn, 1) := by decide +kernel
theorem dX0_builtCellOf_0 : decode cX0_builtCellOf 0 = .ok (.iload_n 0, 1) := by decide +kernel
theorem dX0_builtCellOf_1 : decode cX0_builtCellOf 1 = .ok (.bipush 100, 2) := by decide +kernel
theorem dX0_builtCellOf_3 : decode cX0_builtCellOf 3 = .ok (.irem, 1) := by decide +kernel
theorem dX0_builtCellOf_4 : decode cX0_builtCellOf 4 = .ok (.istore_n 1, 1) := by decide +kernel
theorem dX0_builtCellOf_5 : decode cX0_builtCellOf 5 = .ok (.iload_n 1, 1) := by decide +kernel
theorem dX0_builtCellOf_6 : decode cX0_builtCellOf 6 = .ok (.bipush 99, 2) := by decide +kernel
theorem dX0_builtCellOf_8 : decode cX0_builtCellOf 8 = .ok (.if_icmp .ne 5, 3) := by decide +kernel
theorem dX0_builtCellOf_11 : decode cX0_builtCellOf 11 = .ok (.iconst (-1), 1) := by decide +kernel
theorem dX0_builtCellOf_12 : decode cX0_builtCellOf 12 = .ok (.ireturn, 1) := by decide +kernel
theorem dX0_builtCellOf_13 : decode cX0_builtCellOf 13 = .ok (.iload_n 1, 1) := by decide +kernel
theorem dX0_builtCellOf_14 : decode cX0_builtCellOf 14 = .ok (.bipush 50, 2) := by decide +kernel
theorem dX0_builtCellOf_16 : decode cX0_builtCellOf 16 = .ok (.if_icmp .ge 7, 3) := by decide +kernel
theorem dX0_builtCellOf_19 : decode cX0_builtCellOf 19 = .ok (.iload_n 1, 1) := by decide +kernel
theorem dX0_builtCellOf_20 : decode cX0_builtCellOf 20 = .ok (.goto 7, 3) := by decide +kernel
theorem dX0_builtCellOf_23 : decode cX0_builtCellOf 23 = .ok (.iload_n 1, 1) := by decide +kernel
theorem dX0_builtCellOf_24 : decode cX0_builtCellOf 24 = .ok (.bipush 50, 2) := by decide +kernel
theorem dX0_builtCellOf_26 : decode cX0_builtCellOf 26 = .ok (.isub, 1) := by decide +kernel
theorem dX0_builtCellOf_27 : decode cX0_builtCellOf 27 = .ok (.ireturn, 1) := by decide +kernel
theorem dX0_powerOf_0 : decode cX0_powerOf 0 = .ok (.iload_n 1, 1) := by decide +kernel
theorem dX0_powerOf_1 : decode cX0_powerOf 1 = .ok (.ifCond .ne 10, 3) := by decide +kernel
theorem dX0_powerOf_4 : decode cX0_powerOf 4 = .ok (.aload_n 0, 1) := by decide +kernel
theorem dX0_powerOf_5 : decode cX0_powerOf 5 = .ok (.getfield 34, 3) := by decide +kernel
theorem dX0_powerOf_8 : decode cX0_powerOf 8 = .ok (.goto 7, 3) := by decide +kernel
theorem dX0_powerOf_11 : decode cX0_powerOf 11 = .ok (.aload_n 0, 1) := by decide +kernel
theorem dX0_powerOf_12 : decode cX0_powerOf 12 = .ok (.getfield 37, 3) := by decide +kernel
theorem dX0_powerOf_15 : decode cX0_powerOf 15 = .ok (.ireturn, 1) := by decide +kernel
theorem dX0_spotOf_0 : decode cX0_spotOf 0 = .ok (.iconst 2, 1) := by decide +kernel
theorem dX0_spotOf_1 : decode cX0_spotOf 1 = .ok (.iload_n 1, 1) := by decide +kernel
theorem dX0_spotOf_2 : decode cX0_spotOf 2 = .ok (.imul, 1) := by decide +kernel
theorem dX0_spotOf_3 : decode cX0_spotOf 3 = .ok (.iload_n 2, 1) := by decide +kernel
theorem dX0_spotOf_4 : decode cX0_spotOf 4 = .ok (.iadd, 1) := by decide +kernel
theorem dX0_spotOf_5 : decode cX0_spotOf 5 = .ok (.istore_n 3, 1) := by decide +kernel
theorem dX0_spotOf_6 : decode cX0_spotOf 6 = .ok (.iload_n 3, 1) := by decide +kernel
theorem dX0_spotOf_7 : decode cX0_spotOf 7 = .ok (.ifCond .lt 21, 3) := by decide +kernel
theorem dX0_spotOf_10 : decode cX0_spotOf 10 = .ok (.iload_n 3, 1) := by decide +kernel
theorem dX0_spotOf_11 : decode cX0_spotOf 11 = .ok (.aload_n 0, 1) := by decide +kernel
theorem dX0_spotOf_12 : decode cX0_spotOf 12 = .ok (.getfield 21, 3) := by decide +kernel
theorem dX0_spotOf_15 : decode cX0_spotOf 15 = .ok (.arraylength, 1) := by decide +kernel
theorem dX0_spotOf_16 : decode cX0_spotOf 16 = .ok (.if_icmp .ge 12, 3) := by decide +kernel
theorem dX0_spotOf_19 : decode cX0_spotOf 19 = .ok (.aload_n 0, 1) := by decide +kernel
theorem dX0_spotOf_20 : decode cX0_spotOf 20 = .ok (.getfield 21, 3) := by decide +kernel
theorem dX0_spotOf_23 : decode cX0_spotOf 23 = .ok (.iload_n 3, 1) := by decide +kernel
theorem dX0_spotOf_24 : decode cX0_spotOf 24 = .ok (.iaload, 1) := by decide +kernel
theorem dX0_spotOf_25 : decode cX0_spotOf 25 = .ok (.goto 4, 3) := by decide +kernel
theorem dX0_spotOf_28 : decode cX0_spotOf 28 = .ok (.iconst (-1), 1) := by decide +kernel
theorem dX0_spotOf_29 : decode cX0_spotOf 29 = .ok (.ireturn, 1) := by decide +kernel
theorem dX0_neighbourOf_0 : decode cX0_neighbourOf 0 = .ok (.iload_n 1, 1) := by decide +kernel
theorem dX0_neighbourOf_1 : decode cX0_neighbourOf 1 = .ok (.bipush 8, 2) := by decide +kernel
theorem dX0_neighbourOf_3 : decode cX0_neighbourOf 3 = .ok (.imul, 1) := by decide +kernel
theorem dX0_neighbourOf_4 : decode cX0_neighbourOf 4 = .ok (.iload_n 2, 1) := by decide +kernel
theorem dX0_neighbourOf_5 : decode cX0_neighbourOf 5 = .ok (.iadd, 1) := by decide +kernel
theorem dX0_neighbourOf_6 : decode cX0_neighbourOf 6 = .ok (.istore_n 3, 1) := by decide +kernel
theorem dX0_neighbourOf_7 : decode cX0_neighbourOf 7 = .ok (.iload_n 3, 1) := by decide +kernel
theorem dX0_neighbourOf_8 : decode cX0_neighbourOf 8 = .ok (.ifCond .lt 21, 3) := by decide +kernel
theorem dX0_neighbourOf_11 : decode cX0_neighbourOf 11 = .ok (.iload_n 3, 1) := by decide +kernel
theorem dX0_neighbourOf_12 : decode cX0_neighbourOf 12 = .ok (.aload_n 0, 1) := by decide +kernel
theorem dX0_neighbourOf_13 : decode cX0_neighbourOf 13 = .ok (.getfield 11, 3) := by decide +kernel
theorem dX0_neighbourOf_16 : decode cX0_neighbourOf 16 = .ok (.arraylength, 1) := by decide +kernel
theorem dX0_neighbourOf_17 : decode cX0_neighbourOf 17 = .ok (.if_icmp .ge 12, 3) := by decide +kernel
theorem dX0_neighbourOf_20 : decode cX0_neighbourOf 20 = .ok (.aload_n 0, 1) := by decide +kernel
theorem dX0_neighbourOf_21 : decode cX0_neighbourOf 21 = .ok (.getfield 11, 3) := by decide +kernel
theorem dX0_neighbourOf_24 : decode cX0_neighbourOf 24 = .ok (.iload_n 3, 1) := by decide +kernel
theorem dX0_neighbourOf_25 : decode cX0_neighbourOf 25 = .ok (.iaload, 1) := by decide +kernel
theorem dX0_neighbourOf_26 : decode cX0_neighbourOf 26 = .ok (.goto 4, 3) := by decide +kernel
theorem dX0_neighbourOf_29 : decode cX0_neighbourOf 29 = .ok (.iconst (-1), 1) := by decide +kernel
theorem dX0_neighbourOf_30 : decode cX0_neighbourOf 30 = .ok (.ireturn, 1) := by decide +kernel
set_option maxRecDepth 20000 in
theorem ggX0_asideOf_X0_holderOf : GoodIn wsX0_asideOf wsX0_holderOf := goodIn_r _ [5, 6, 13, 14, 15, 16, 17, 18, 19, 20, 21, 22, 23, 24, 25] (by decide +kernel) (by decide +kernel)
set_option maxRecDepth 20000 in
theorem gX0_asideOf_X0_holderOf : GoodIn wsX0_asideOf (wsV RX0 132 RX0 yX0_holderOf wsX0_holderOf) := goodIn_app (goodIn_of _ (by decide +kernel)) ggX0_asideOf_X0_holderOf
set_option maxRecDepth 20000 in
theorem ggX0_asideOf_X0_powerOf : GoodIn wsX0_asideOf wsX0_powerOf := goodIn_r _ [10, 11, 12, 13, 14, 15, 16, 17, 18, 19, 20, 21, 22, 23, 24, 25] (by decide +kernel) (by decide +kernel)
set_option maxRecDepth 20000 in
theorem gX0_asideOf_X0_powerOf : GoodIn wsX0_asideOf (wsV RX0 117 RX0 yX0_powerOf wsX0_powerOf) := goodIn_app (goodIn_of _ (by decide +kernel)) ggX0_asideOf_X0_powerOf
theorem dX0_asideOf_0 : decode cX0_asideOf 0 = .ok (.aload_n 0, 1) := by decide +kernel
theorem dX0_asideOf_1 : decode cX0_asideOf 1 = .ok (.iload_n 3, 1) := by decide +kernel
theorem dX0_asideOf_2 : decode cX0_asideOf 2 = .ok (.invokevirtual 132, 3) := by decide +kernel
theorem dX0_asideOf_5 : decode cX0_asideOf 5 = .ok (.iconst (-1), 1) := by decide +kernel
theorem dX0_asideOf_6 : decode cX0_asideOf 6 = .ok (.if_icmp .ne 5, 3) := by decide +kernel
theorem dX0_asideOf_9 : decode cX0_asideOf 9 = .ok (.iconst (-1), 1) := by decide +kernel
theorem dX0_asideOf_10 : decode cX0_asideOf 10 = .ok (.ireturn, 1) := by decide +kernel
theorem dX0_asideOf_11 : decode cX0_asideOf 11 = .ok (.aload_n 0, 1) := by decide +kernel
theorem dX0_asideOf_12 : decode cX0_asideOf 12 = .ok (.iload_n 1, 1) := by decide +kernel
theorem dX0_asideOf_13 : decode cX0_asideOf 13 = .ok (.invokevirtual 117, 3) := by decide +kernel
theorem dX0_asideOf_16 : decode cX0_asideOf 16 = .ok (.iconst 2, 1) := by decide +kernel
theorem dX0_asideOf_17 : decode cX0_asideOf 17 = .ok (.if_icmp .ne 7, 3) := by decide +kernel
theorem dX0_asideOf_20 : decode cX0_asideOf 20 = .ok (.iload_n 2, 1) := by decide +kernel
theorem dX0_asideOf_21 : decode cX0_asideOf 21 = .ok (.goto 8, 3) := by decide +kernel
theorem dX0_asideOf_24 : decode cX0_asideOf 24 = .ok (.iload_n 3, 1) := by decide +kernel
theorem dX0_asideOf_25 : decode cX0_asideOf 25 = .ok (.iload_n 3, 1) := by decide +kernel
theorem dX0_asideOf_26 : decode cX0_asideOf 26 = .ok (.iload_n 2, 1) := by decide +kernel
theorem dX0_asideOf_27 : decode cX0_asideOf 27 = .ok (.isub, 1) := by decide +kernel
theorem dX0_asideOf_28 : decode cX0_asideOf 28 = .ok (.iadd, 1) := by decide +kernel
theorem dX0_asideOf_29 : decode cX0_asideOf 29 = .ok (.ireturn, 1) := by decide +kernel
set_option maxRecDepth 20000 in
theorem ggX0_hasTurn_X0_spotOf : GoodIn wsX0_hasTurn wsX0_spotOf := goodIn_r _ [6, 7, 54, 55, 56, 57, 58, 59, 60, 61, 62, 63, 64, 65, 66] (by decide +kernel) (by decide +kernel)
set_option maxRecDepth 20000 in
theorem gX0_hasTurn_X0_spotOf : GoodIn wsX0_hasTurn (wsV RX0 73 RX0 yX0_spotOf wsX0_spotOf) := goodIn_app (goodIn_of _ (by decide +kernel)) ggX0_hasTurn_X0_spotOf
set_option maxRecDepth 20000 in
theorem ggX0_hasTurn_X0_stepOf : GoodIn wsX0_hasTurn wsX0_stepOf := goodIn_r _ [11, 12, 13, 14, 15, 5, 16, 17, 18, 19, 20, 21, 22, 23, 24, 25, 26, 27, 28, 29, 30, 31, 32, 33, 34, 35, 36, 37, 38, 39, 40, 41, 54, 55, 56, 57, 58, 59, 60, 61, 62, 63, 64, 65, 66] (by decide +kernel) (by decide +kernel)
set_option maxRecDepth 20000 in
theorem gX0_hasTurn_X0_stepOf : GoodIn wsX0_hasTurn (wsV RX0 137 RX0 yX0_stepOf wsX0_stepOf) := goodIn_app (goodIn_of _ (by decide +kernel)) ggX0_hasTurn_X0_stepOf
set_option maxRecDepth 20000 in
theorem ggX0_hasTurn_X0_neighbourOf : GoodIn wsX0_hasTurn wsX0_neighbourOf := goodIn_r _ [16, 17, 54, 55, 56, 57, 58, 59, 60, 61, 62, 63, 64, 65, 66] (by decide +kernel) (by decide +kernel)
set_option maxRecDepth 20000 in
theorem gX0_hasTurn_X0_neighbourOf : GoodIn wsX0_hasTurn (wsV RX0 141 RX0 yX0_neighbourOf wsX0_neighbourOf) := goodIn_app (goodIn_of _ (by decide +kernel)) ggX0_hasTurn_X0_neighbourOf
set_option maxRecDepth 20000 in
theorem ggX0_hasTurn_X0_canBuild : GoodIn wsX0_hasTurn wsX0_canBuild := goodIn_r _ [45, 46, 47, 48, 5, 49, 27, 28, 29, 30, 31, 36, 37, 38, 39, 40, 41, 13, 14, 15, 16, 17, 50, 51, 52, 53, 32, 33, 34, 35, 22, 54, 55, 56, 57, 58, 59, 60, 61, 62, 63, 64, 65, 66] (by decide +kernel) (by decide +kernel)
set_option maxRecDepth 20000 in
theorem gX0_hasTurn_X0_canBuild : GoodIn wsX0_hasTurn (wsV RX0 144 RX0 yX0_canBuild wsX0_canBuild) := goodIn_app (goodIn_of _ (by decide +kernel)) ggX0_hasTurn_X0_canBuild
theorem dX0_hasTurn_0 : decode cX0_hasTurn 0 = .ok (.iconst 0, 1) := by decide +kernel
theorem dX0_hasTurn_1 : decode cX0_hasTurn 1 = .ok (.istore_n 2, 1) := by decide +kernel
theorem dX0_hasTurn_2 : decode cX0_hasTurn 2 = .ok (.iload_n 2, 1) := by decide +kernel
theorem dX0_hasTurn_3 : decode cX0_hasTurn 3 = .ok (.aload_n 0, 1) := by decide +kernel
theorem dX0_hasTurn_4 : decode cX0_hasTurn 4 = .ok (.getfield 31, 3) := by decide +kernel
theorem dX0_hasTurn_7 : decode cX0_hasTurn 7 = .ok (.if_icmp .ge 77, 3) := by decide +kernel
theorem dX0_hasTurn_10 : decode cX0_hasTurn 10 = .ok (.aload_n 0, 1) := by decide +kernel
theorem dX0_hasTurn_11 : decode cX0_hasTurn 11 = .ok (.iload_n 1, 1) := by decide +kernel
theorem dX0_hasTurn_12 : decode cX0_hasTurn 12 = .ok (.iload_n 2, 1) := by decide +kernel
theorem dX0_hasTurn_13 : decode cX0_hasTurn 13 = .ok (.invokevirtual 73, 3) := by decide +kernel
theorem dX0_hasTurn_16 : decode cX0_hasTurn 16 = .ok (.istore_n 3, 1) := by decide +kernel
theorem dX0_hasTurn_17 : decode cX0_hasTurn 17 = .ok (.iconst 0, 1) := by decide +kernel
theorem dX0_hasTurn_18 : decode cX0_hasTurn 18 = .ok (.istore 4, 2) := by decide +kernel
theorem dX0_hasTurn_20 : decode cX0_hasTurn 20 = .ok (.iload 4, 2) := by decide +kernel
theorem dX0_hasTurn_22 : decode cX0_hasTurn 22 = .ok (.bipush 8, 2) := by decide +kernel
theorem dX0_hasTurn_24 : decode cX0_hasTurn 24 = .ok (.if_icmp .ge 54, 3) := by decide +kernel
theorem dX0_hasTurn_27 : decode cX0_hasTurn 27 = .ok (.aload_n 0, 1) := by decide +kernel
theorem dX0_hasTurn_28 : decode cX0_hasTurn 28 = .ok (.iload_n 1, 1) := by decide +kernel
theorem dX0_hasTurn_29 : decode cX0_hasTurn 29 = .ok (.iload_n 3, 1) := by decide +kernel
theorem dX0_hasTurn_30 : decode cX0_hasTurn 30 = .ok (.iload 4, 2) := by decide +kernel
theorem dX0_hasTurn_32 : decode cX0_hasTurn 32 = .ok (.invokevirtual 137, 3) := by decide +kernel
theorem dX0_hasTurn_35 : decode cX0_hasTurn 35 = .ok (.lstore 5, 2) := by decide +kernel
theorem dX0_hasTurn_37 : decode cX0_hasTurn 37 = .ok (.lload 5, 2) := by decide +kernel
theorem dX0_hasTurn_39 : decode cX0_hasTurn 39 = .ok (.bipush 32, 2) := by decide +kernel
theorem dX0_hasTurn_41 : decode cX0_hasTurn 41 = .ok (.lshr, 1) := by decide +kernel
theorem dX0_hasTurn_42 : decode cX0_hasTurn 42 = .ok (.lconst 0, 1) := by decide +kernel
theorem dX0_hasTurn_43 : decode cX0_hasTurn 43 = .ok (.lcmp, 1) := by decide +kernel
theorem dX0_hasTurn_44 : decode cX0_hasTurn 44 = .ok (.ifCond .ne 26, 3) := by decide +kernel
theorem dX0_hasTurn_47 : decode cX0_hasTurn 47 = .ok (.lload 5, 2) := by decide +kernel
theorem dX0_hasTurn_49 : decode cX0_hasTurn 49 = .ok (.lconst 0, 1) := by decide +kernel
theorem dX0_hasTurn_50 : decode cX0_hasTurn 50 = .ok (.lcmp, 1) := by decide +kernel
theorem dX0_hasTurn_51 : decode cX0_hasTurn 51 = .ok (.ifCond .eq 21, 3) := by decide +kernel
theorem dX0_hasTurn_54 : decode cX0_hasTurn 54 = .ok (.aload_n 0, 1) := by decide +kernel
theorem dX0_hasTurn_55 : decode cX0_hasTurn 55 = .ok (.iload_n 1, 1) := by decide +kernel
theorem dX0_hasTurn_56 : decode cX0_hasTurn 56 = .ok (.iload_n 3, 1) := by decide +kernel
theorem dX0_hasTurn_57 : decode cX0_hasTurn 57 = .ok (.aload_n 0, 1) := by decide +kernel
theorem dX0_hasTurn_58 : decode cX0_hasTurn 58 = .ok (.iload_n 3, 1) := by decide +kernel
theorem dX0_hasTurn_59 : decode cX0_hasTurn 59 = .ok (.iload 4, 2) := by decide +kernel
theorem dX0_hasTurn_61 : decode cX0_hasTurn 61 = .ok (.invokevirtual 141, 3) := by decide +kernel
theorem dX0_hasTurn_64 : decode cX0_hasTurn 64 = .ok (.invokevirtual 144, 3) := by decide +kernel
theorem dX0_hasTurn_67 : decode cX0_hasTurn 67 = .ok (.ifCond .eq 5, 3) := by decide +kernel
theorem dX0_hasTurn_70 : decode cX0_hasTurn 70 = .ok (.iconst 1, 1) := by decide +kernel
theorem dX0_hasTurn_71 : decode cX0_hasTurn 71 = .ok (.ireturn, 1) := by decide +kernel
theorem dX0_hasTurn_72 : decode cX0_hasTurn 72 = .ok (.iinc 4 1, 3) := by decide +kernel
theorem dX0_hasTurn_75 : decode cX0_hasTurn 75 = .ok (.goto (-55), 3) := by decide +kernel
theorem dX0_hasTurn_78 : decode cX0_hasTurn 78 = .ok (.iinc 2 1, 3) := by decide +kernel
theorem dX0_hasTurn_81 : decode cX0_hasTurn 81 = .ok (.goto (-79), 3) := by decide +kernel
theorem dX0_hasTurn_84 : decode cX0_hasTurn 84 = .ok (.iconst 0, 1) := by decide +kernel
theorem dX0_hasTurn_85 : decode cX0_hasTurn 85 = .ok (.ireturn, 1) := by decide +kernel
set_option maxRecDepth 20000 in
theorem ggX0_reachOf_X0_stepOf : GoodIn wsX0_reachOf wsX0_stepOf := goodIn_r _ [6, 7, 8, 9, 10, 5, 11, 12, 13, 14, 15, 16, 17, 18, 19, 20, 21, 22, 23, 24, 25, 26, 27, 28, 29, 30, 31, 32, 33, 34, 35, 36, 37, 38, 39, 40, 41, 42, 43, 44, 45, 46, 47, 48, 49] (by decide +kernel) (by decide +kernel)
set_option maxRecDepth 20000 in
theorem gX0_reachOf_X0_stepOf : GoodIn wsX0_reachOf (wsV RX0 137 RX0 yX0_stepOf wsX0_stepOf) := goodIn_app (goodIn_of _ (by decide +kernel)) ggX0_reachOf_X0_stepOf
set_option maxRecDepth 20000 in
theorem ggX0_reachOf_X0_powerOf : GoodIn wsX0_reachOf wsX0_powerOf := goodIn_r _ [34, 35, 36, 37, 38, 39, 40, 41, 42, 43, 44, 45, 46, 47, 48, 49] (by decide +kernel) (by decide +kernel)
set_option maxRecDepth 20000 in
theorem gX0_reachOf_X0_powerOf : GoodIn wsX0_reachOf (wsV RX0 117 RX0 yX0_powerOf wsX0_powerOf) := goodIn_app (goodIn_of _ (by decide +kernel)) ggX0_reachOf_X0_powerOf
theorem dX0_reachOf_0 : decode cX0_reachOf 0 = .ok (.lconst 0, 1) := by decide +kernel
theorem dX0_reachOf_1 : decode cX0_reachOf 1 = .ok (.lstore_n 3, 1) := by decide +kernel
theorem dX0_reachOf_2 : decode cX0_reachOf 2 = .ok (.iconst 0, 1) := by decide +kernel
theorem dX0_reachOf_3 : decode cX0_reachOf 3 = .ok (.istore 5, 2) := by decide +kernel
theorem dX0_reachOf_5 : decode cX0_reachOf 5 = .ok (.iload 5, 2) := by decide +kernel
theorem dX0_reachOf_7 : decode cX0_reachOf 7 = .ok (.bipush 8, 2) := by decide +kernel
theorem dX0_reachOf_9 : decode cX0_reachOf 9 = .ok (.if_icmp .ge 20, 3) := by decide +kernel
theorem dX0_reachOf_12 : decode cX0_reachOf 12 = .ok (.lload_n 3, 1) := by decide +kernel
theorem dX0_reachOf_13 : decode cX0_reachOf 13 = .ok (.aload_n 0, 1) := by decide +kernel
theorem dX0_reachOf_14 : decode cX0_reachOf 14 = .ok (.iload_n 1, 1) := by decide +kernel
theorem dX0_reachOf_15 : decode cX0_reachOf 15 = .ok (.iload_n 2, 1) := by decide +kernel
theorem dX0_reachOf_16 : decode cX0_reachOf 16 = .ok (.iload 5, 2) := by decide +kernel
theorem dX0_reachOf_18 : decode cX0_reachOf 18 = .ok (.invokevirtual 137, 3) := by decide +kernel
theorem dX0_reachOf_21 : decode cX0_reachOf 21 = .ok (.lor, 1) := by decide +kernel
theorem dX0_reachOf_22 : decode cX0_reachOf 22 = .ok (.lstore_n 3, 1) := by decide +kernel
theorem dX0_reachOf_23 : decode cX0_reachOf 23 = .ok (.iinc 5 1, 3) := by decide +kernel
theorem dX0_reachOf_26 : decode cX0_reachOf 26 = .ok (.goto (-21), 3) := by decide +kernel
theorem dX0_reachOf_29 : decode cX0_reachOf 29 = .ok (.aload_n 0, 1) := by decide +kernel
theorem dX0_reachOf_30 : decode cX0_reachOf 30 = .ok (.iload_n 1, 1) := by decide +kernel
theorem dX0_reachOf_31 : decode cX0_reachOf 31 = .ok (.invokevirtual 117, 3) := by decide +kernel
theorem dX0_reachOf_34 : decode cX0_reachOf 34 = .ok (.iconst 1, 1) := by decide +kernel
theorem dX0_reachOf_35 : decode cX0_reachOf 35 = .ok (.if_icmp .eq 5, 3) := by decide +kernel
theorem dX0_reachOf_38 : decode cX0_reachOf 38 = .ok (.lload_n 3, 1) := by decide +kernel
theorem dX0_reachOf_39 : decode cX0_reachOf 39 = .ok (.lreturn, 1) := by decide +kernel
theorem dX0_reachOf_40 : decode cX0_reachOf 40 = .ok (.lload_n 3, 1) := by decide +kernel
theorem dX0_reachOf_41 : decode cX0_reachOf 41 = .ok (.lstore 5, 2) := by decide +kernel
theorem dX0_reachOf_43 : decode cX0_reachOf 43 = .ok (.iconst 0, 1) := by decide +kernel
theorem dX0_reachOf_44 : decode cX0_reachOf 44 = .ok (.istore 7, 2) := by decide +kernel
theorem dX0_reachOf_46 : decode cX0_reachOf 46 = .ok (.iload 7, 2) := by decide +kernel
theorem dX0_reachOf_48 : decode cX0_reachOf 48 = .ok (.aload_n 0, 1) := by decide +kernel
theorem dX0_reachOf_49 : decode cX0_reachOf 49 = .ok (.getfield 27, 3) := by decide +kernel
theorem dX0_reachOf_52 : decode cX0_reachOf 52 = .ok (.if_icmp .ge 53, 3) := by decide +kernel
theorem dX0_reachOf_55 : decode cX0_reachOf 55 = .ok (.lload_n 3, 1) := by decide +kernel
theorem dX0_reachOf_56 : decode cX0_reachOf 56 = .ok (.iload 7, 2) := by decide +kernel
theorem dX0_reachOf_58 : decode cX0_reachOf 58 = .ok (.lshr, 1) := by decide +kernel
theorem dX0_reachOf_59 : decode cX0_reachOf 59 = .ok (.lconst 1, 1) := by decide +kernel
theorem dX0_reachOf_60 : decode cX0_reachOf 60 = .ok (.land, 1) := by decide +kernel
theorem dX0_reachOf_61 : decode cX0_reachOf 61 = .ok (.lconst 0, 1) := by decide +kernel
theorem dX0_reachOf_62 : decode cX0_reachOf 62 = .ok (.lcmp, 1) := by decide +kernel
theorem dX0_reachOf_63 : decode cX0_reachOf 63 = .ok (.ifCond .ne 6, 3) := by decide +kernel
theorem dX0_reachOf_66 : decode cX0_reachOf 66 = .ok (.goto 33, 3) := by decide +kernel
theorem dX0_reachOf_69 : decode cX0_reachOf 69 = .ok (.iconst 0, 1) := by decide +kernel
theorem dX0_reachOf_70 : decode cX0_reachOf 70 = .ok (.istore 8, 2) := by decide +kernel
theorem dX0_reachOf_72 : decode cX0_reachOf 72 = .ok (.iload 8, 2) := by decide +kernel
theorem dX0_reachOf_74 : decode cX0_reachOf 74 = .ok (.bipush 8, 2) := by decide +kernel
theorem dX0_reachOf_76 : decode cX0_reachOf 76 = .ok (.if_icmp .ge 23, 3) := by decide +kernel
theorem dX0_reachOf_79 : decode cX0_reachOf 79 = .ok (.lload 5, 2) := by decide +kernel
theorem dX0_reachOf_81 : decode cX0_reachOf 81 = .ok (.aload_n 0, 1) := by decide +kernel
theorem dX0_reachOf_82 : decode cX0_reachOf 82 = .ok (.iload_n 1, 1) := by decide +kernel
theorem dX0_reachOf_83 : decode cX0_reachOf 83 = .ok (.iload 7, 2) := by decide +kernel
theorem dX0_reachOf_85 : decode cX0_reachOf 85 = .ok (.iload 8, 2) := by decide +kernel
theorem dX0_reachOf_87 : decode cX0_reachOf 87 = .ok (.invokevirtual 137, 3) := by decide +kernel
theorem dX0_reachOf_90 : decode cX0_reachOf 90 = .ok (.lor, 1) := by decide +kernel
theorem dX0_reachOf_91 : decode cX0_reachOf 91 = .ok (.lstore 5, 2) := by decide +kernel
theorem dX0_reachOf_93 : decode cX0_reachOf 93 = .ok (.iinc 8 1, 3) := by decide +kernel
theorem dX0_reachOf_96 : decode cX0_reachOf 96 = .ok (.goto (-24), 3) := by decide +kernel
theorem dX0_reachOf_99 : decode cX0_reachOf 99 = .ok (.iinc 7 1, 3) := by decide +kernel
theorem dX0_reachOf_102 : decode cX0_reachOf 102 = .ok (.goto (-56), 3) := by decide +kernel
theorem dX0_reachOf_105 : decode cX0_reachOf 105 = .ok (.lload 5, 2) := by decide +kernel
theorem dX0_reachOf_107 : decode cX0_reachOf 107 = .ok (.lreturn, 1) := by decide +kernel
set_option maxRecDepth 20000 in
theorem ggX0_stepOf_X0_neighbourOf : GoodIn wsX0_stepOf wsX0_neighbourOf := goodIn_r _ [6, 7, 32, 33, 34, 35, 36, 37, 38, 39, 40, 41, 42, 43, 44] (by decide +kernel) (by decide +kernel)
set_option maxRecDepth 20000 in
theorem gX0_stepOf_X0_neighbourOf : GoodIn wsX0_stepOf (wsV RX0 141 RX0 yX0_neighbourOf wsX0_neighbourOf) := goodIn_app (goodIn_of _ (by decide +kernel)) ggX0_stepOf_X0_neighbourOf
set_option maxRecDepth 20000 in
theorem ggX0_stepOf_X0_storeysOf : GoodIn wsX0_stepOf wsX0_storeysOf := goodIn_r _ [11, 12, 32, 33, 34, 35, 36, 37, 38, 39, 40, 41, 42, 43, 44] (by decide +kernel) (by decide +kernel)
set_option maxRecDepth 20000 in
theorem gX0_stepOf_X0_storeysOf : GoodIn wsX0_stepOf (wsV RX0 77 RX0 yX0_storeysOf wsX0_storeysOf) := goodIn_app (goodIn_of _ (by decide +kernel)) ggX0_stepOf_X0_storeysOf
set_option maxRecDepth 20000 in
theorem ggX0_stepOf_X0_canEnter : GoodIn wsX0_stepOf wsX0_canEnter := goodIn_r _ [16, 17, 18, 19, 5, 20, 21, 22, 23, 24, 25, 12, 26, 27, 28, 29, 30, 31, 2, 3, 4, 6, 7, 32, 33, 34, 35, 36, 37, 38, 39, 40, 41, 42, 43, 44] (by decide +kernel) (by decide +kernel)
set_option maxRecDepth 20000 in
theorem gX0_stepOf_X0_canEnter : GoodIn wsX0_stepOf (wsV RX0 148 RX0 yX0_canEnter wsX0_canEnter) := goodIn_app (goodIn_of _ (by decide +kernel)) ggX0_stepOf_X0_canEnter
set_option maxRecDepth 20000 in
theorem ggX0_stepOf_X0_powerOf : GoodIn wsX0_stepOf wsX0_powerOf := goodIn_r _ [29, 30, 31, 32, 33, 34, 35, 36, 37, 38, 39, 40, 41, 42, 43, 44] (by decide +kernel) (by decide +kernel)
set_option maxRecDepth 20000 in
theorem gX0_stepOf_X0_powerOf : GoodIn wsX0_stepOf (wsV RX0 117 RX0 yX0_powerOf wsX0_powerOf) := goodIn_app (goodIn_of _ (by decide +kernel)) ggX0_stepOf_X0_powerOf
theorem dX0_stepOf_0 : decode cX0_stepOf 0 = .ok (.aload_n 0, 1) := by decide +kernel
theorem dX0_stepOf_1 : decode cX0_stepOf 1 = .ok (.iload_n 2, 1) := by decide +kernel
theorem dX0_stepOf_2 : decode cX0_stepOf 2 = .ok (.iload_n 3, 1) := by decide +kernel
theorem dX0_stepOf_3 : decode cX0_stepOf 3 = .ok (.invokevirtual 141, 3) := by decide +kernel
theorem dX0_stepOf_6 : decode cX0_stepOf 6 = .ok (.istore 4, 2) := by decide +kernel
theorem dX0_stepOf_8 : decode cX0_stepOf 8 = .ok (.aload_n 0, 1) := by decide +kernel
theorem dX0_stepOf_9 : decode cX0_stepOf 9 = .ok (.iload 4, 2) := by decide +kernel
theorem dX0_stepOf_11 : decode cX0_stepOf 11 = .ok (.invokevirtual 77, 3) := by decide +kernel
theorem dX0_stepOf_14 : decode cX0_stepOf 14 = .ok (.aload_n 0, 1) := by decide +kernel
theorem dX0_stepOf_15 : decode cX0_stepOf 15 = .ok (.iload_n 2, 1) := by decide +kernel
theorem dX0_stepOf_16 : decode cX0_stepOf 16 = .ok (.invokevirtual 77, 3) := by decide +kernel
theorem dX0_stepOf_19 : decode cX0_stepOf 19 = .ok (.isub, 1) := by decide +kernel
theorem dX0_stepOf_20 : decode cX0_stepOf 20 = .ok (.istore 5, 2) := by decide +kernel
theorem dX0_stepOf_22 : decode cX0_stepOf 22 = .ok (.aload_n 0, 1) := by decide +kernel
theorem dX0_stepOf_23 : decode cX0_stepOf 23 = .ok (.getfield 49, 3) := by decide +kernel
theorem dX0_stepOf_26 : decode cX0_stepOf 26 = .ok (.ifCond .eq 7, 3) := by decide +kernel
theorem dX0_stepOf_29 : decode cX0_stepOf 29 = .ok (.iconst 0, 1) := by decide +kernel
theorem dX0_stepOf_30 : decode cX0_stepOf 30 = .ok (.goto 4, 3) := by decide +kernel
theorem dX0_stepOf_33 : decode cX0_stepOf 33 = .ok (.iconst 1, 1) := by decide +kernel
theorem dX0_stepOf_34 : decode cX0_stepOf 34 = .ok (.istore 6, 2) := by decide +kernel
theorem dX0_stepOf_36 : decode cX0_stepOf 36 = .ok (.iload 4, 2) := by decide +kernel
theorem dX0_stepOf_38 : decode cX0_stepOf 38 = .ok (.iconst (-1), 1) := by decide +kernel
theorem dX0_stepOf_39 : decode cX0_stepOf 39 = .ok (.if_icmp .eq 21, 3) := by decide +kernel
theorem dX0_stepOf_42 : decode cX0_stepOf 42 = .ok (.iload 5, 2) := by decide +kernel
theorem dX0_stepOf_44 : decode cX0_stepOf 44 = .ok (.iload 6, 2) := by decide +kernel
theorem dX0_stepOf_46 : decode cX0_stepOf 46 = .ok (.if_icmp .gt 14, 3) := by decide +kernel
theorem dX0_stepOf_49 : decode cX0_stepOf 49 = .ok (.aload_n 0, 1) := by decide +kernel
theorem dX0_stepOf_50 : decode cX0_stepOf 50 = .ok (.iload_n 1, 1) := by decide +kernel
theorem dX0_stepOf_51 : decode cX0_stepOf 51 = .ok (.iload 4, 2) := by decide +kernel
theorem dX0_stepOf_53 : decode cX0_stepOf 53 = .ok (.iload_n 3, 1) := by decide +kernel
theorem dX0_stepOf_54 : decode cX0_stepOf 54 = .ok (.invokevirtual 148, 3) := by decide +kernel
theorem dX0_stepOf_57 : decode cX0_stepOf 57 = .ok (.ifCond .ne 5, 3) := by decide +kernel
theorem dX0_stepOf_60 : decode cX0_stepOf 60 = .ok (.lconst 0, 1) := by decide +kernel
theorem dX0_stepOf_61 : decode cX0_stepOf 61 = .ok (.lreturn, 1) := by decide +kernel
theorem dX0_stepOf_62 : decode cX0_stepOf 62 = .ok (.iload 5, 2) := by decide +kernel
theorem dX0_stepOf_64 : decode cX0_stepOf 64 = .ok (.ifCond .le 13, 3) := by decide +kernel
theorem dX0_stepOf_67 : decode cX0_stepOf 67 = .ok (.aload_n 0, 1) := by decide +kernel
theorem dX0_stepOf_68 : decode cX0_stepOf 68 = .ok (.iload 4, 2) := by decide +kernel
theorem dX0_stepOf_70 : decode cX0_stepOf 70 = .ok (.invokevirtual 77, 3) := by decide +kernel
theorem dX0_stepOf_73 : decode cX0_stepOf 73 = .ok (.iconst 3, 1) := by decide +kernel
theorem dX0_stepOf_74 : decode cX0_stepOf 74 = .ok (.if_icmp .eq 19, 3) := by decide +kernel
theorem dX0_stepOf_77 : decode cX0_stepOf 77 = .ok (.iload 5, 2) := by decide +kernel
theorem dX0_stepOf_79 : decode cX0_stepOf 79 = .ok (.bipush (-2), 2) := by decide +kernel
theorem dX0_stepOf_81 : decode cX0_stepOf 81 = .ok (.if_icmp .gt 16, 3) := by decide +kernel
theorem dX0_stepOf_84 : decode cX0_stepOf 84 = .ok (.aload_n 0, 1) := by decide +kernel
theorem dX0_stepOf_85 : decode cX0_stepOf 85 = .ok (.iload_n 1, 1) := by decide +kernel
theorem dX0_stepOf_86 : decode cX0_stepOf 86 = .ok (.invokevirtual 117, 3) := by decide +kernel
theorem dX0_stepOf_89 : decode cX0_stepOf 89 = .ok (.iconst 5, 1) := by decide +kernel
theorem dX0_stepOf_90 : decode cX0_stepOf 90 = .ok (.if_icmp .ne 7, 3) := by decide +kernel
theorem dX0_stepOf_93 : decode cX0_stepOf 93 = .ok (.iconst 1, 1) := by decide +kernel
theorem dX0_stepOf_94 : decode cX0_stepOf 94 = .ok (.goto 4, 3) := by decide +kernel
theorem dX0_stepOf_97 : decode cX0_stepOf 97 = .ok (.iconst 0, 1) := by decide +kernel
theorem dX0_stepOf_98 : decode cX0_stepOf 98 = .ok (.istore 7, 2) := by decide +kernel
theorem dX0_stepOf_100 : decode cX0_stepOf 100 = .ok (.lconst 1, 1) := by decide +kernel
theorem dX0_stepOf_101 : decode cX0_stepOf 101 = .ok (.iload 7, 2) := by decide +kernel
theorem dX0_stepOf_103 : decode cX0_stepOf 103 = .ok (.ifCond .eq 11, 3) := by decide +kernel
theorem dX0_stepOf_106 : decode cX0_stepOf 106 = .ok (.iload 4, 2) := by decide +kernel
theorem dX0_stepOf_108 : decode cX0_stepOf 108 = .ok (.bipush 32, 2) := by decide +kernel
theorem dX0_stepOf_110 : decode cX0_stepOf 110 = .ok (.iadd, 1) := by decide +kernel
theorem dX0_stepOf_111 : decode cX0_stepOf 111 = .ok (.goto 5, 3) := by decide +kernel
theorem dX0_stepOf_114 : decode cX0_stepOf 114 = .ok (.iload 4, 2) := by decide +kernel
theorem dX0_stepOf_116 : decode cX0_stepOf 116 = .ok (.lshl, 1) := by decide +kernel
theorem dX0_stepOf_117 : decode cX0_stepOf 117 = .ok (.lreturn, 1) := by decide +kernel
set_option maxRecDepth 20000 in
theorem ggX0_canEnter_X0_holderOf : GoodIn wsX0_canEnter wsX0_holderOf := goodIn_r _ [5, 6, 23, 24, 25, 26, 27, 28, 29, 30, 31, 32, 33, 34, 35] (by decide +kernel) (by decide +kernel)
set_option maxRecDepth 20000 in
theorem gX0_canEnter_X0_holderOf : GoodIn wsX0_canEnter (wsV RX0 132 RX0 yX0_holderOf wsX0_holderOf) := goodIn_app (goodIn_of _ (by decide +kernel)) ggX0_canEnter_X0_holderOf
set_option maxRecDepth 20000 in
theorem ggX0_canEnter_X0_isOpen : GoodIn wsX0_canEnter wsX0_isOpen := goodIn_r _ [10, 6, 11, 23, 24, 25, 26, 27, 28, 29, 30, 31, 32, 33, 34, 35] (by decide +kernel) (by decide +kernel)
set_option maxRecDepth 20000 in
theorem gX0_canEnter_X0_isOpen : GoodIn wsX0_canEnter (wsV RX0 151 RX0 yX0_isOpen wsX0_isOpen) := goodIn_app (goodIn_of _ (by decide +kernel)) ggX0_canEnter_X0_isOpen
set_option maxRecDepth 20000 in
theorem ggX0_canEnter_X0_powerOf : GoodIn wsX0_canEnter wsX0_powerOf := goodIn_r _ [15, 16, 17, 23, 24, 25, 26, 27, 28, 29, 30, 31, 32, 33, 34, 35] (by decide +kernel) (by decide +kernel)
set_option maxRecDepth 20000 in
theorem gX0_canEnter_X0_powerOf : GoodIn wsX0_canEnter (wsV RX0 117 RX0 yX0_powerOf wsX0_powerOf) := goodIn_app (goodIn_of _ (by decide +kernel)) ggX0_canEnter_X0_powerOf
set_option maxRecDepth 20000 in
theorem ggX0_canEnter_X0_neighbourOf : GoodIn wsX0_canEnter wsX0_neighbourOf := goodIn_r _ [21, 22, 23, 24, 25, 26, 27, 28, 29, 30, 31, 32, 33, 34, 35] (by decide +kernel) (by decide +kernel)
set_option maxRecDepth 20000 in
theorem gX0_canEnter_X0_neighbourOf : GoodIn wsX0_canEnter (wsV RX0 141 RX0 yX0_neighbourOf wsX0_neighbourOf) := goodIn_app (goodIn_of _ (by decide +kernel)) ggX0_canEnter_X0_neighbourOf
theorem dX0_canEnter_0 : decode cX0_canEnter 0 = .ok (.aload_n 0, 1) := by decide +kernel
theorem dX0_canEnter_1 : decode cX0_canEnter 1 = .ok (.iload_n 2, 1) := by decide +kernel
theorem dX0_canEnter_2 : decode cX0_canEnter 2 = .ok (.invokevirtual 132, 3) := by decide +kernel
theorem dX0_canEnter_5 : decode cX0_canEnter 5 = .ok (.istore 4, 2) := by decide +kernel
theorem dX0_canEnter_7 : decode cX0_canEnter 7 = .ok (.iload 4, 2) := by decide +kernel
theorem dX0_canEnter_9 : decode cX0_canEnter 9 = .ok (.iconst (-1), 1) := by decide +kernel
theorem dX0_canEnter_10 : decode cX0_canEnter 10 = .ok (.if_icmp .ne 9, 3) := by decide +kernel
theorem dX0_canEnter_13 : decode cX0_canEnter 13 = .ok (.aload_n 0, 1) := by decide +kernel
theorem dX0_canEnter_14 : decode cX0_canEnter 14 = .ok (.iload_n 2, 1) := by decide +kernel
theorem dX0_canEnter_15 : decode cX0_canEnter 15 = .ok (.invokevirtual 151, 3) := by decide +kernel
theorem dX0_canEnter_18 : decode cX0_canEnter 18 = .ok (.ireturn, 1) := by decide +kernel
theorem dX0_canEnter_19 : decode cX0_canEnter 19 = .ok (.iload 4, 2) := by decide +kernel
theorem dX0_canEnter_21 : decode cX0_canEnter 21 = .ok (.bipush 10, 2) := by decide +kernel
theorem dX0_canEnter_23 : decode cX0_canEnter 23 = .ok (.idiv, 1) := by decide +kernel
theorem dX0_canEnter_24 : decode cX0_canEnter 24 = .ok (.iload_n 1, 1) := by decide +kernel
theorem dX0_canEnter_25 : decode cX0_canEnter 25 = .ok (.if_icmp .ne 5, 3) := by decide +kernel
theorem dX0_canEnter_28 : decode cX0_canEnter 28 = .ok (.iconst 0, 1) := by decide +kernel
theorem dX0_canEnter_29 : decode cX0_canEnter 29 = .ok (.ireturn, 1) := by decide +kernel
theorem dX0_canEnter_30 : decode cX0_canEnter 30 = .ok (.aload_n 0, 1) := by decide +kernel
theorem dX0_canEnter_31 : decode cX0_canEnter 31 = .ok (.iload_n 1, 1) := by decide +kernel
theorem dX0_canEnter_32 : decode cX0_canEnter 32 = .ok (.invokevirtual 117, 3) := by decide +kernel
theorem dX0_canEnter_35 : decode cX0_canEnter 35 = .ok (.iconst 2, 1) := by decide +kernel
theorem dX0_canEnter_36 : decode cX0_canEnter 36 = .ok (.if_icmp .eq 25, 3) := by decide +kernel
theorem dX0_canEnter_39 : decode cX0_canEnter 39 = .ok (.aload_n 0, 1) := by decide +kernel
theorem dX0_canEnter_40 : decode cX0_canEnter 40 = .ok (.iload_n 1, 1) := by decide +kernel
theorem dX0_canEnter_41 : decode cX0_canEnter 41 = .ok (.invokevirtual 117, 3) := by decide +kernel
theorem dX0_canEnter_44 : decode cX0_canEnter 44 = .ok (.iconst 3, 1) := by decide +kernel
theorem dX0_canEnter_45 : decode cX0_canEnter 45 = .ok (.if_icmp .ne 20, 3) := by decide +kernel
theorem dX0_canEnter_48 : decode cX0_canEnter 48 = .ok (.aload_n 0, 1) := by decide +kernel
theorem dX0_canEnter_49 : decode cX0_canEnter 49 = .ok (.aload_n 0, 1) := by decide +kernel
theorem dX0_canEnter_50 : decode cX0_canEnter 50 = .ok (.iload_n 2, 1) := by decide +kernel
theorem dX0_canEnter_51 : decode cX0_canEnter 51 = .ok (.iload_n 3, 1) := by decide +kernel
theorem dX0_canEnter_52 : decode cX0_canEnter 52 = .ok (.invokevirtual 141, 3) := by decide +kernel
theorem dX0_canEnter_55 : decode cX0_canEnter 55 = .ok (.invokevirtual 151, 3) := by decide +kernel
theorem dX0_canEnter_58 : decode cX0_canEnter 58 = .ok (.ifCond .eq 7, 3) := by decide +kernel
theorem dX0_canEnter_61 : decode cX0_canEnter 61 = .ok (.iconst 1, 1) := by decide +kernel
theorem dX0_canEnter_62 : decode cX0_canEnter 62 = .ok (.goto 4, 3) := by decide +kernel
theorem dX0_canEnter_65 : decode cX0_canEnter 65 = .ok (.iconst 0, 1) := by decide +kernel
theorem dX0_canEnter_66 : decode cX0_canEnter 66 = .ok (.ireturn, 1) := by decide +kernel
set_option maxRecDepth 20000 in
theorem ggX0_canBuild_X0_asideOf : GoodIn wsX0_canBuild wsX0_asideOf := goodIn_r _ [5, 6, 7, 8, 4, 9, 10, 11, 12, 13, 14, 15, 16, 31, 32, 33, 34, 35, 36, 37, 38, 39, 40, 41, 42, 43] (by decide +kernel) (by decide +kernel)
set_option maxRecDepth 20000 in
theorem gX0_canBuild_X0_asideOf : GoodIn wsX0_canBuild (wsV RX0 109 RX0 yX0_asideOf wsX0_asideOf) := goodIn_app (goodIn_of _ (by decide +kernel)) ggX0_canBuild_X0_asideOf
set_option maxRecDepth 20000 in
theorem ggX0_canBuild_X0_neighbourOf : GoodIn wsX0_canBuild wsX0_neighbourOf := goodIn_r _ [20, 21, 31, 32, 33, 34, 35, 36, 37, 38, 39, 40, 41, 42, 43] (by decide +kernel) (by decide +kernel)
set_option maxRecDepth 20000 in
theorem gX0_canBuild_X0_neighbourOf : GoodIn wsX0_canBuild (wsV RX0 141 RX0 yX0_neighbourOf wsX0_neighbourOf) := goodIn_app (goodIn_of _ (by decide +kernel)) ggX0_canBuild_X0_neighbourOf
set_option maxRecDepth 20000 in
theorem ggX0_canBuild_X0_isOpenBehind : GoodIn wsX0_canBuild wsX0_isOpenBehind := goodIn_r _ [25, 26, 27, 28, 4, 29, 10, 30, 31, 32, 33, 34, 35, 36, 37, 38, 39, 40, 41, 42, 43] (by decide +kernel) (by decide +kernel)
set_option maxRecDepth 20000 in
theorem gX0_canBuild_X0_isOpenBehind : GoodIn wsX0_canBuild (wsV RX0 154 RX0 yX0_isOpenBehind wsX0_isOpenBehind) := goodIn_app (goodIn_of _ (by decide +kernel)) ggX0_canBuild_X0_isOpenBehind
theorem dX0_canBuild_0 : decode cX0_canBuild 0 = .ok (.aload_n 0, 1) := by decide +kernel
theorem dX0_canBuild_1 : decode cX0_canBuild 1 = .ok (.iload_n 1, 1) := by decide +kernel
theorem dX0_canBuild_2 : decode cX0_canBuild 2 = .ok (.iload_n 2, 1) := by decide +kernel
theorem dX0_canBuild_3 : decode cX0_canBuild 3 = .ok (.iload_n 3, 1) := by decide +kernel
theorem dX0_canBuild_4 : decode cX0_canBuild 4 = .ok (.invokevirtual 109, 3) := by decide +kernel
theorem dX0_canBuild_7 : decode cX0_canBuild 7 = .ok (.istore 4, 2) := by decide +kernel
theorem dX0_canBuild_9 : decode cX0_canBuild 9 = .ok (.iconst 0, 1) := by decide +kernel
theorem dX0_canBuild_10 : decode cX0_canBuild 10 = .ok (.istore 5, 2) := by decide +kernel
theorem dX0_canBuild_12 : decode cX0_canBuild 12 = .ok (.iload 5, 2) := by decide +kernel
theorem dX0_canBuild_14 : decode cX0_canBuild 14 = .ok (.bipush 8, 2) := by decide +kernel
theorem dX0_canBuild_16 : decode cX0_canBuild 16 = .ok (.if_icmp .ge 28, 3) := by decide +kernel
theorem dX0_canBuild_19 : decode cX0_canBuild 19 = .ok (.aload_n 0, 1) := by decide +kernel
theorem dX0_canBuild_20 : decode cX0_canBuild 20 = .ok (.iload_n 2, 1) := by decide +kernel
theorem dX0_canBuild_21 : decode cX0_canBuild 21 = .ok (.iload 4, 2) := by decide +kernel
theorem dX0_canBuild_23 : decode cX0_canBuild 23 = .ok (.aload_n 0, 1) := by decide +kernel
theorem dX0_canBuild_24 : decode cX0_canBuild 24 = .ok (.iload_n 3, 1) := by decide +kernel
theorem dX0_canBuild_25 : decode cX0_canBuild 25 = .ok (.iload 5, 2) := by decide +kernel
theorem dX0_canBuild_27 : decode cX0_canBuild 27 = .ok (.invokevirtual 141, 3) := by decide +kernel
theorem dX0_canBuild_30 : decode cX0_canBuild 30 = .ok (.invokevirtual 154, 3) := by decide +kernel
theorem dX0_canBuild_33 : decode cX0_canBuild 33 = .ok (.ifCond .eq 5, 3) := by decide +kernel
theorem dX0_canBuild_36 : decode cX0_canBuild 36 = .ok (.iconst 1, 1) := by decide +kernel
theorem dX0_canBuild_37 : decode cX0_canBuild 37 = .ok (.ireturn, 1) := by decide +kernel
theorem dX0_canBuild_38 : decode cX0_canBuild 38 = .ok (.iinc 5 1, 3) := by decide +kernel
theorem dX0_canBuild_41 : decode cX0_canBuild 41 = .ok (.goto (-29), 3) := by decide +kernel
theorem dX0_canBuild_44 : decode cX0_canBuild 44 = .ok (.iconst 0, 1) := by decide +kernel
theorem dX0_canBuild_45 : decode cX0_canBuild 45 = .ok (.ireturn, 1) := by decide +kernel
set_option maxRecDepth 20000 in
theorem ggX0_listBuildings_X0_asideOf : GoodIn wsX0_listBuildings wsX0_asideOf := goodIn_r _ [6, 7, 8, 9, 5, 10, 11, 12, 13, 14, 15, 16, 17, 43, 44, 45, 46, 47, 48, 49, 50, 51, 52, 53, 54, 55] (by decide +kernel) (by decide +kernel)
set_option maxRecDepth 20000 in
theorem gX0_listBuildings_X0_asideOf : GoodIn wsX0_listBuildings (wsV RX0 109 RX0 yX0_asideOf wsX0_asideOf) := goodIn_app (goodIn_of _ (by decide +kernel)) ggX0_listBuildings_X0_asideOf
set_option maxRecDepth 20000 in
theorem ggX0_listBuildings_X0_neighbourOf : GoodIn wsX0_listBuildings wsX0_neighbourOf := goodIn_r _ [21, 22, 43, 44, 45, 46, 47, 48, 49, 50, 51, 52, 53, 54, 55] (by decide +kernel) (by decide +kernel)
set_option maxRecDepth 20000 in
theorem gX0_listBuildings_X0_neighbourOf : GoodIn wsX0_listBuildings (wsV RX0 141 RX0 yX0_neighbourOf wsX0_neighbourOf) := goodIn_app (goodIn_of _ (by decide +kernel)) ggX0_listBuildings_X0_neighbourOf
set_option maxRecDepth 20000 in
theorem ggX0_listBuildings_X0_isOpenBehind : GoodIn wsX0_listBuildings wsX0_isOpenBehind := goodIn_r _ [26, 27, 28, 29, 5, 30, 11, 31, 43, 44, 45, 46, 47, 48, 49, 50, 51, 52, 53, 54, 55] (by decide +kernel) (by decide +kernel)
set_option maxRecDepth 20000 in
theorem gX0_listBuildings_X0_isOpenBehind : GoodIn wsX0_listBuildings (wsV RX0 154 RX0 yX0_isOpenBehind wsX0_isOpenBehind) := goodIn_app (goodIn_of _ (by decide +kernel)) ggX0_listBuildings_X0_isOpenBehind
set_option maxRecDepth 20000 in
theorem ggX0_listBuildings_X2_add : GoodIn wsX0_listBuildings wsX2_add := goodIn_r _ [36, 37, 38, 56, 57] (by decide +kernel) (by decide +kernel)
set_option maxRecDepth 20000 in
theorem gX0_listBuildings_X2_add : GoodIn wsX0_listBuildings (wsV RX0 102 RX2 yX2_add wsX2_add) := goodIn_app (goodIn_of _ (by decide +kernel)) ggX0_listBuildings_X2_add
set_option maxRecDepth 20000 in
theorem ggX0_listBuildings_X0_powerOf : GoodIn wsX0_listBuildings wsX0_powerOf := goodIn_r _ [15, 16, 17, 43, 44, 45, 46, 47, 48, 49, 50, 51, 52, 53, 54, 55] (by decide +kernel) (by decide +kernel)
set_option maxRecDepth 20000 in
theorem gX0_listBuildings_X0_powerOf : GoodIn wsX0_listBuildings (wsV RX0 117 RX0 yX0_powerOf wsX0_powerOf) := goodIn_app (goodIn_of _ (by decide +kernel)) ggX0_listBuildings_X0_powerOf
set_option maxRecDepth 20000 in
theorem ggX0_listBuildings_X0_storeysOf : GoodIn wsX0_listBuildings wsX0_storeysOf := goodIn_r _ [42, 31, 43, 44, 45, 46, 47, 48, 49, 50, 51, 52, 53, 54, 55] (by decide +kernel) (by decide +kernel)
set_option maxRecDepth 20000 in
theorem gX0_listBuildings_X0_storeysOf : GoodIn wsX0_listBuildings (wsV RX0 77 RX0 yX0_storeysOf wsX0_storeysOf) := goodIn_app (goodIn_of _ (by decide +kernel)) ggX0_listBuildings_X0_storeysOf
theorem dX0_listBuildings_0 : decode cX0_listBuildings 0 = .ok (.aload_n 0, 1) := by decide +kernel
theorem dX0_listBuildings_1 : decode cX0_listBuildings 1 = .ok (.getfield 43, 3) := by decide +kernel
theorem dX0_listBuildings_4 : decode cX0_listBuildings 4 = .ok (.iconst 2, 1) := by decide +kernel
theorem dX0_listBuildings_5 : decode cX0_listBuildings 5 = .ok (.irem, 1) := by decide +kernel
theorem dX0_listBuildings_6 : decode cX0_listBuildings 6 = .ok (.istore 5, 2) := by decide +kernel
theorem dX0_listBuildings_8 : decode cX0_listBuildings 8 = .ok (.aload_n 0, 1) := by decide +kernel
theorem dX0_listBuildings_9 : decode cX0_listBuildings 9 = .ok (.iload 5, 2) := by decide +kernel
theorem dX0_listBuildings_11 : decode cX0_listBuildings 11 = .ok (.iload_n 3, 1) := by decide +kernel
theorem dX0_listBuildings_12 : decode cX0_listBuildings 12 = .ok (.iload 4, 2) := by decide +kernel
theorem dX0_listBuildings_14 : decode cX0_listBuildings 14 = .ok (.invokevirtual 109, 3) := by decide +kernel
theorem dX0_listBuildings_17 : decode cX0_listBuildings 17 = .ok (.istore 6, 2) := by decide +kernel
theorem dX0_listBuildings_19 : decode cX0_listBuildings 19 = .ok (.iconst 0, 1) := by decide +kernel
theorem dX0_listBuildings_20 : decode cX0_listBuildings 20 = .ok (.istore 7, 2) := by decide +kernel
theorem dX0_listBuildings_22 : decode cX0_listBuildings 22 = .ok (.iload 7, 2) := by decide +kernel
theorem dX0_listBuildings_24 : decode cX0_listBuildings 24 = .ok (.bipush 8, 2) := by decide +kernel
theorem dX0_listBuildings_26 : decode cX0_listBuildings 26 = .ok (.if_icmp .ge 39, 3) := by decide +kernel
theorem dX0_listBuildings_29 : decode cX0_listBuildings 29 = .ok (.aload_n 0, 1) := by decide +kernel
theorem dX0_listBuildings_30 : decode cX0_listBuildings 30 = .ok (.iload 4, 2) := by decide +kernel
theorem dX0_listBuildings_32 : decode cX0_listBuildings 32 = .ok (.iload 7, 2) := by decide +kernel
theorem dX0_listBuildings_34 : decode cX0_listBuildings 34 = .ok (.invokevirtual 141, 3) := by decide +kernel
theorem dX0_listBuildings_37 : decode cX0_listBuildings 37 = .ok (.istore 8, 2) := by decide +kernel
theorem dX0_listBuildings_39 : decode cX0_listBuildings 39 = .ok (.aload_n 0, 1) := by decide +kernel
theorem dX0_listBuildings_40 : decode cX0_listBuildings 40 = .ok (.iload_n 3, 1) := by decide +kernel
theorem dX0_listBuildings_41 : decode cX0_listBuildings 41 = .ok (.iload 6, 2) := by decide +kernel
theorem dX0_listBuildings_43 : decode cX0_listBuildings 43 = .ok (.iload 8, 2) := by decide +kernel
theorem dX0_listBuildings_45 : decode cX0_listBuildings 45 = .ok (.invokevirtual 154, 3) := by decide +kernel
theorem dX0_listBuildings_48 : decode cX0_listBuildings 48 = .ok (.ifCond .eq 11, 3) := by decide +kernel
theorem dX0_listBuildings_51 : decode cX0_listBuildings 51 = .ok (.aload_n 1, 1) := by decide +kernel
theorem dX0_listBuildings_52 : decode cX0_listBuildings 52 = .ok (.iload_n 2, 1) := by decide +kernel
theorem dX0_listBuildings_53 : decode cX0_listBuildings 53 = .ok (.iload 8, 2) := by decide +kernel
theorem dX0_listBuildings_55 : decode cX0_listBuildings 55 = .ok (.iadd, 1) := by decide +kernel
theorem dX0_listBuildings_56 : decode cX0_listBuildings 56 = .ok (.invokevirtual 102, 3) := by decide +kernel
theorem dX0_listBuildings_59 : decode cX0_listBuildings 59 = .ok (.iinc 7 1, 3) := by decide +kernel
theorem dX0_listBuildings_62 : decode cX0_listBuildings 62 = .ok (.goto (-40), 3) := by decide +kernel
theorem dX0_listBuildings_65 : decode cX0_listBuildings 65 = .ok (.aload_n 0, 1) := by decide +kernel
theorem dX0_listBuildings_66 : decode cX0_listBuildings 66 = .ok (.iload 5, 2) := by decide +kernel
theorem dX0_listBuildings_68 : decode cX0_listBuildings 68 = .ok (.invokevirtual 117, 3) := by decide +kernel
theorem dX0_listBuildings_71 : decode cX0_listBuildings 71 = .ok (.bipush 6, 2) := by decide +kernel
theorem dX0_listBuildings_73 : decode cX0_listBuildings 73 = .ok (.if_icmp .eq 4, 3) := by decide +kernel
theorem dX0_listBuildings_76 : decode cX0_listBuildings 76 = .ok (.return_, 1) := by decide +kernel
theorem dX0_listBuildings_77 : decode cX0_listBuildings 77 = .ok (.iconst 0, 1) := by decide +kernel
theorem dX0_listBuildings_78 : decode cX0_listBuildings 78 = .ok (.istore 7, 2) := by decide +kernel
theorem dX0_listBuildings_80 : decode cX0_listBuildings 80 = .ok (.iload 7, 2) := by decide +kernel
theorem dX0_listBuildings_82 : decode cX0_listBuildings 82 = .ok (.bipush 8, 2) := by decide +kernel
theorem dX0_listBuildings_84 : decode cX0_listBuildings 84 = .ok (.if_icmp .ge 52, 3) := by decide +kernel
theorem dX0_listBuildings_87 : decode cX0_listBuildings 87 = .ok (.aload_n 0, 1) := by decide +kernel
theorem dX0_listBuildings_88 : decode cX0_listBuildings 88 = .ok (.iload 4, 2) := by decide +kernel
theorem dX0_listBuildings_90 : decode cX0_listBuildings 90 = .ok (.iload 7, 2) := by decide +kernel
theorem dX0_listBuildings_92 : decode cX0_listBuildings 92 = .ok (.invokevirtual 141, 3) := by decide +kernel
theorem dX0_listBuildings_95 : decode cX0_listBuildings 95 = .ok (.istore 8, 2) := by decide +kernel
theorem dX0_listBuildings_97 : decode cX0_listBuildings 97 = .ok (.aload_n 0, 1) := by decide +kernel
theorem dX0_listBuildings_98 : decode cX0_listBuildings 98 = .ok (.iload_n 3, 1) := by decide +kernel
theorem dX0_listBuildings_99 : decode cX0_listBuildings 99 = .ok (.iload 6, 2) := by decide +kernel
theorem dX0_listBuildings_101 : decode cX0_listBuildings 101 = .ok (.iload 8, 2) := by decide +kernel
theorem dX0_listBuildings_103 : decode cX0_listBuildings 103 = .ok (.invokevirtual 154, 3) := by decide +kernel
theorem dX0_listBuildings_106 : decode cX0_listBuildings 106 = .ok (.ifCond .eq 24, 3) := by decide +kernel
theorem dX0_listBuildings_109 : decode cX0_listBuildings 109 = .ok (.aload_n 0, 1) := by decide +kernel
theorem dX0_listBuildings_110 : decode cX0_listBuildings 110 = .ok (.iload 8, 2) := by decide +kernel
theorem dX0_listBuildings_112 : decode cX0_listBuildings 112 = .ok (.invokevirtual 77, 3) := by decide +kernel
theorem dX0_listBuildings_115 : decode cX0_listBuildings 115 = .ok (.iconst 3, 1) := by decide +kernel
theorem dX0_listBuildings_116 : decode cX0_listBuildings 116 = .ok (.if_icmp .ge 14, 3) := by decide +kernel
theorem dX0_listBuildings_119 : decode cX0_listBuildings 119 = .ok (.aload_n 1, 1) := by decide +kernel
theorem dX0_listBuildings_120 : decode cX0_listBuildings 120 = .ok (.iload_n 2, 1) := by decide +kernel
theorem dX0_listBuildings_121 : decode cX0_listBuildings 121 = .ok (.bipush 50, 2) := by decide +kernel
theorem dX0_listBuildings_123 : decode cX0_listBuildings 123 = .ok (.iadd, 1) := by decide +kernel
theorem dX0_listBuildings_124 : decode cX0_listBuildings 124 = .ok (.iload 8, 2) := by decide +kernel
theorem dX0_listBuildings_126 : decode cX0_listBuildings 126 = .ok (.iadd, 1) := by decide +kernel
theorem dX0_listBuildings_127 : decode cX0_listBuildings 127 = .ok (.invokevirtual 102, 3) := by decide +kernel
theorem dX0_listBuildings_130 : decode cX0_listBuildings 130 = .ok (.iinc 7 1, 3) := by decide +kernel
theorem dX0_listBuildings_133 : decode cX0_listBuildings 133 = .ok (.goto (-53), 3) := by decide +kernel
theorem dX0_listBuildings_136 : decode cX0_listBuildings 136 = .ok (.return_, 1) := by decide +kernel
set_option maxRecDepth 20000 in
theorem ggX0_isOpenBehind_X0_isOpen : GoodIn wsX0_isOpenBehind wsX0_isOpen := goodIn_r _ [5, 6, 7, 8, 9, 10, 11, 12, 13, 14, 15, 16, 17, 18, 19, 20] (by decide +kernel) (by decide +kernel)
set_option maxRecDepth 20000 in
theorem gX0_isOpenBehind_X0_isOpen : GoodIn wsX0_isOpenBehind (wsV RX0 151 RX0 yX0_isOpen wsX0_isOpen) := goodIn_app (goodIn_of _ (by decide +kernel)) ggX0_isOpenBehind_X0_isOpen
theorem dX0_isOpenBehind_0 : decode cX0_isOpenBehind 0 = .ok (.iload_n 3, 1) := by decide +kernel
theorem dX0_isOpenBehind_1 : decode cX0_isOpenBehind 1 = .ok (.iload_n 2, 1) := by decide +kernel
theorem dX0_isOpenBehind_2 : decode cX0_isOpenBehind 2 = .ok (.if_icmp .eq 20, 3) := by decide +kernel
theorem dX0_isOpenBehind_5 : decode cX0_isOpenBehind 5 = .ok (.iload_n 3, 1) := by decide +kernel
theorem dX0_isOpenBehind_6 : decode cX0_isOpenBehind 6 = .ok (.iload_n 1, 1) := by decide +kernel
theorem dX0_isOpenBehind_7 : decode cX0_isOpenBehind 7 = .ok (.if_icmp .eq 11, 3) := by decide +kernel
theorem dX0_isOpenBehind_10 : decode cX0_isOpenBehind 10 = .ok (.aload_n 0, 1) := by decide +kernel
theorem dX0_isOpenBehind_11 : decode cX0_isOpenBehind 11 = .ok (.iload_n 3, 1) := by decide +kernel
theorem dX0_isOpenBehind_12 : decode cX0_isOpenBehind 12 = .ok (.invokevirtual 151, 3) := by decide +kernel
theorem dX0_isOpenBehind_15 : decode cX0_isOpenBehind 15 = .ok (.ifCond .eq 7, 3) := by decide +kernel
theorem dX0_isOpenBehind_18 : decode cX0_isOpenBehind 18 = .ok (.iconst 1, 1) := by decide +kernel
theorem dX0_isOpenBehind_19 : decode cX0_isOpenBehind 19 = .ok (.goto 4, 3) := by decide +kernel
theorem dX0_isOpenBehind_22 : decode cX0_isOpenBehind 22 = .ok (.iconst 0, 1) := by decide +kernel
theorem dX0_isOpenBehind_23 : decode cX0_isOpenBehind 23 = .ok (.ireturn, 1) := by decide +kernel
end
section
/-! worlds that one value tells: a state is ints by their number and int rows by theirs -/
abbrev SC : Type := (Nat → Int32) × (Nat → Nat → Int32)
def setS (S : SC) (k : Nat) (v : Int32) : SC := (upd S.1 k v, S.2)
def setA (S : SC) (a : Nat) (i : Int32) (v : Int32) : SC := (S.1, fun j => if j = a then upd (S.2 j) i.toNatClampNeg v else S.2 j)
def tysW (cy : Nat → ClassId) : List (ClassId × FieldType) := [(cy 0, .int), (cy 1, .boolean), (cy 2, .long)]
/-- links between the classes of the nest -/
def nestW : List Cond := [.fieldLinkNest RX3 105 "Stormroof$TurnList" "size" "I" RX3, .fieldLinkNest RX3 49 "Stormroof$Board" "cells" "I" RX3, .fieldLinkNest RX3 92 "Stormroof$Board" "victor" "I" RX3, .fieldLinkNest RX3 95 "Stormroof$Board" "turnsPlayed" "I" RX3, .fieldLinkNest RX1 34 "Stormroof$TurnList" "size" "I" RX3, .fieldLinkNest RX1 56 "Stormroof$Board" "victor" "I" RX3, .methodLinkNest RX3 11 yX0_init RX3, .methodLinkNest RX3 132 yX1_look RX3, .methodLinkNest RX3 136 yX1_worthOf RX3, .methodLinkNest RX3 18 yX2_init RX3, .methodLinkNest RX3 25 yX1_init RX3, .methodLinkNest RX1 11 yX2_init RX3]
def KN (U : State) : Prop := ∀ w ∈ nestW, va_Nw w U
theorem KN.warm {s U : State} (hW : s.WarmedH U.vm) (h : KN s) : KN U := by
  refine List.forall_mem_cons.mpr ⟨va_Nw.warmF hW (h _ (List.mem_of_getElem? (i := 0) rfl)), List.forall_mem_cons.mpr ⟨va_Nw.warmF hW (h _ (List.mem_of_getElem? (i := 1) rfl)), List.forall_mem_cons.mpr ⟨va_Nw.warmF hW (h _ (List.mem_of_getElem? (i := 2) rfl)), List.forall_mem_cons.mpr ⟨va_Nw.warmF hW (h _ (List.mem_of_getElem? (i := 3) rfl)), List.forall_mem_cons.mpr ⟨va_Nw.warmF hW (h _ (List.mem_of_getElem? (i := 4) rfl)), List.forall_mem_cons.mpr ⟨va_Nw.warmF hW (h _ (List.mem_of_getElem? (i := 5) rfl)), List.forall_mem_cons.mpr ⟨va_Nw.warmM hW (h _ (List.mem_of_getElem? (i := 6) rfl)), List.forall_mem_cons.mpr ⟨va_Nw.warmM hW (h _ (List.mem_of_getElem? (i := 7) rfl)), List.forall_mem_cons.mpr ⟨va_Nw.warmM hW (h _ (List.mem_of_getElem? (i := 8) rfl)), List.forall_mem_cons.mpr ⟨va_Nw.warmM hW (h _ (List.mem_of_getElem? (i := 9) rfl)), List.forall_mem_cons.mpr ⟨va_Nw.warmM hW (h _ (List.mem_of_getElem? (i := 10) rfl)), List.forall_mem_cons.mpr ⟨va_Nw.warmM hW (h _ (List.mem_of_getElem? (i := 11) rfl)), fun _ h9 => absurd h9 List.not_mem_nil⟩⟩⟩⟩⟩⟩⟩⟩⟩⟩⟩⟩
theorem KN.same {u U : State} (hvm : u.vm = U.vm) (h : KN u) : KN U := by
  intro w hw
  refine va_Nw.same ?_ hvm (h w hw)
  revert w hw
  show ∀ w ∈ nestW, w.onTables = true
  decide +kernel
/-- what the tables say, in U -/
def KX (D : va_G) (cy : Nat → ClassId) (U : State) : Prop := va_K D vwCl (tysW cy) U ∧ KN U
theorem KX.warm {D : va_G} {cy : Nat → ClassId} {s U : State} (hW : s.WarmedH U.vm) (h : KX D cy s) : KX D cy U := ⟨va_K.moved hW.alike h.1, KN.warm hW h.2⟩
theorem KX.same {D : va_G} {cy : Nat → ClassId} {u U : State} (hvm : u.vm = U.vm) (h : KX D cy u) : KX D cy U := ⟨va_K.moved (by rw [hvm]; exact Vm.Alike.refl U.vm) h.1, KN.same hvm h.2⟩
/-- the world w S lies in the heap H -/
def PW (D : va_G) (w : SC → va_W) (S : SC) (H : Heap) : Prop := va_P D vwCl (w S) H ∧ va_D (fun _ => True) (w S)
/-- the cells that a method over the world w may change -/
def AW (w : SC → va_W) (sz : Nat) : Nat → Prop := fun q => (∃ (S : SC) (k : Nat) (e : va_E), (w S)[k]? = some (q, e)) ∨ sz ≤ q
theorem AW_mono {w : SC → va_W} {a b : Nat} (h : a ≤ b) : ∀ q, AW w b q → AW w a q := fun q hq => hq.elim Or.inl (fun h1 => Or.inr (Nat.le_trans h h1))
/-- here: the heap H, seen from the method's start s -/
def ST (D : va_G) (w : SC → va_W) (A : Nat → Prop) (s : State) (S : SC) (H : Heap) (locs : List Loc) : Prop := va_P D vwCl (w S) H ∧ va_D A (w S) ∧ va_S A s.heap H locs
/-- what holds all through a method's body -/
def CX (p : Program) (s : State) (m : MethodId) (args : Array Value) (meth : Method) (c : Code) (cc : ByteArray) (nL : Nat) (own : String) (Ts : List Cond) (D : va_G) (cy : Nat → ClassId) (w : SC → va_W) (A : Nat → Prop) : Prop :=
  p.tables.exec = Jvm.exec ∧ c.code = cc ∧ c.maxLocals = nL ∧ s.vm.findClass own = some m.cls ∧ (∀ w ∈ Ts, w.before args s = true) ∧ meth.locks = false ∧ KX D cy s ∧ (∀ q, s.heap.size ≤ q → A q) ∧ (∀ (S : SC) (k : Nat) (q : Nat × va_E), (w S)[k]? = some q → A q.1)
/-- a method returns v, and leaves the world at S' -/
def QG (D : va_G) (w : SC → va_W) (A : Nat → Prop) (v : Option Value) (S' : SC) : Array Value → State → Outcome → State → Prop := fun _ st oc t => oc = .returned v ∧ PW D w S' t.heap ∧ va_F A st t
def PG (D : va_G) (cy : Nat → ClassId) (w : SC → va_W) (sz : Nat) (av : List Value) (S : SC) : Array Value → State → Prop := va_Pc av (fun U => U.heap.size = sz ∧ PW D w S U.heap ∧ KX D cy U)
def CG (l : Launch) (D : va_G) (cy : Nat → ClassId) (w : SC → va_W) (y : MethodName) (ws : List Cond) (rm : Room) (av : List Value) (S : SC) (v : Option Value) (S' : SC) : Prop :=
  ∀ sz : Nat, Met l y ws rm (PG D cy w sz av S) (QG D w (AW w sz) v S') 0 0 (AW w sz)
theorem PG_blind {D : va_G} {cy : Nat → ClassId} {w : SC → va_W} {sz : Nat} {av : List Value} {S : SC} : FrameBlind (PG D cy w sz av S) := by
  intro a U g mk ⟨h1, h2, h3, h4⟩
  exact ⟨h1, h2, h3, KX.same (u := U) (U := U.calling g mk a) rfl h4⟩
section GO
variable {p : Program} {l : Launch} {e : Env} {R : Room} {s : State} {m : MethodId} {args : Array Value} {below : List Frame} {meth : Method} {c : Code} {H : Heap} {locs : List Loc} {cells slots : Nat} {Q : State → Prop}
variable {D : va_G} {cy : Nat → ClassId} {w : SC → va_W} {A : Nat → Prop} {pc nL : Nat} {ls : Array Slot} {rest st : List Value} {S S' : SC} {v : Option Value} {a : Array Value} {cc : ByteArray} {own : String} {Ts : List Cond}
theorem ST.back {H1 : Heap} (X : CX p s m args meth c cc nL own Ts D cy w A) (h : PW D w S H1) (hS : va_S A s.heap H1 locs) : ST D w A s S H1 locs :=
  ⟨h.1, ⟨h.2.1, fun k q hq => X.2.2.2.2.2.2.2.2 S k q hq⟩, hS⟩
theorem cg_go (X : CX p s m args meth c cc nL own Ts D cy w A) (hr : va_Run p l e R s m args below meth c H locs cells slots 0 0 (F0 m pc ls st) rest (QG D w (AW w H.size) v S' a) (AW w H.size)) (T : ST D w A s S H locs)
    (kk : ∀ (H1 : Heap) (locs1 : List Loc), ST D w A s S' H1 locs1 → W p l e R s m args below meth c H1 locs1 cells slots Q (F0 m (pc + 3) ls (v.toList ++ rest))) : W p l e R s m args below meth c H locs cells slots Q (F0 m pc ls st) := by
  intro T0 hT X0
  obtain ⟨v1, st₀, t, T', L, h0, X', hL, e1, e2, ⟨hv, hp, hz, hk⟩, stp⟩ := hr T0 hT X0
  cases hv
  rw [h0] at hz hk
  have hS := T.2.2
  have hAW : ∀ q, AW w H.size q → A q := fun q hq => hq.elim (fun ⟨S9, k, e9, h9⟩ => X.2.2.2.2.2.2.2.2 S9 k (q, e9) h9) (fun h9 => X.2.2.2.2.2.2.2.1 q (Nat.le_trans hS.1 h9))
  have hS2 : va_S A s.heap t.heap (locs ++ L) := ⟨Nat.le_trans hS.1 hz, fun q h1 h2 => by rw [hk q (Nat.lt_of_lt_of_le h1 hS.1) (fun z => h2 (hAW q z))]; exact hS.2.1 q h1 h2, fun q hq => by
      rcases List.mem_append.mp hq with h | h
      · exact hS.2.2 q h
      · exact hAW _ (hL q h)⟩
  obtain ⟨t2, a1, b1⟩ := kk T'.heap (locs ++ L) (by rw [e1]; exact ST.back X hp hS2) T' rfl X'
  exact ⟨t2, stp t2 a1, b1⟩
theorem PG_of {av : List Value} (X : CX p s m args meth c cc nL own Ts D cy w A) (T : ST D w A s S H locs) (U : State) (hU : U.heap = H) (hW : s.WarmedH U.vm) : PG D cy w H.size av S av.toArray U :=
  ⟨rfl, by rw [hU], ⟨by rw [hU]; exact T.1, T.2.1.weaken (fun _ _ _ _ => trivial)⟩, KX.warm hW X.2.2.2.2.2.2.1⟩
/-- a call of a method of an object of the world -/
theorem cg_V {y : MethodName} {ws : List Cond} {rm : Room} {As : List Value} {C : String} {index n maxL q0 ci b : Nat} {bytes : ByteArray} {ret : Option FieldType} {TT : u_T} {NN : Nat} {fs : List Value}
    (X : CX p s m args meth c cc nL own Ts D cy w A) (T : ST D w A s S H locs) (hM : CG l D cy w y ws rm (.ref b :: As) S v S') (cw : CallW R s args own C index y bytes maxL ret ws rm 0 0 n)
    (he : (w S)[q0]? = some (b, .inr (ci, fs))) (hc : vwCl[ci]? = some (C, TT, NN)) (hn : As.length = n) (hsz : ls.size = nL) (hst : st = As.reverse ++ .ref b :: rest) (hroom : (rest.map fun v => v.category).sum ≤ 8) (hdg : decode cc pc = .ok (.invokevirtual index, 3)) (hcs : cells ≤ R.cells ∧ slots ≤ R.slots)
    {st2 : List Value} {pc2 : Nat} (h2 : v.toList ++ rest = st2) (h3 : pc + 3 = pc2) (kk : ∀ (H1 : Heap) (locs1 : List Loc), ST D w A s S' H1 locs1 → W p l e R s m args below meth c H1 locs1 cells slots Q (F0 m pc2 ls st2)) : W p l e R s m args below meth c H locs cells slots Q (F0 m pc ls st) :=
  cg_go X (va_runV (As := As) (rest := rest) ⟨X.1, X.2.1, X.2.2.1, X.2.2.2.1, X.2.2.2.2.1⟩ (hM H.size) cw ⟨PG_blind, va_recv X.2.2.2.2.2.2.1.1 T.1 hc he, PG_of X T⟩ rfl hn hsz hst (lv_room hroom) hdg hcs) T (fun H1 locs1 T1 => by rw [h2, h3]; exact kk H1 locs1 T1)
/-- a call of a static method -/
theorem cg_S {y : MethodName} {ws : List Cond} {rm : Room} {As : List Value} {index n maxL : Nat} {bytes : ByteArray} {ret : Option FieldType}
    (X : CX p s m args meth c cc nL own Ts D cy w A) (T : ST D w A s S H locs) (hM : CG l D cy w y ws rm As S v S') (cw : CallB R s args own index y bytes maxL ret ws rm 0 0 n ∧ (Cond.static y).before args s = true)
    (hn : As.length = n) (hsz : ls.size = nL) (hst : st = As.reverse ++ rest) (hroom : (rest.map fun v => v.category).sum ≤ 8) (hdg : decode cc pc = .ok (.invokestatic index, 3)) (hcs : cells ≤ R.cells ∧ slots ≤ R.slots)
    {st2 : List Value} {pc2 : Nat} (h2 : v.toList ++ rest = st2) (h3 : pc + 3 = pc2) (kk : ∀ (H1 : Heap) (locs1 : List Loc), ST D w A s S' H1 locs1 → W p l e R s m args below meth c H1 locs1 cells slots Q (F0 m pc2 ls st2)) : W p l e R s m args below meth c H locs cells slots Q (F0 m pc ls st) :=
  cg_go X (va_runS (As := As) (rest := rest) ⟨X.1, X.2.1, X.2.2.1, X.2.2.2.1, X.2.2.2.2.1⟩ (hM H.size) cw ⟨PG_blind, PG_of X T⟩ rfl hn hsz hst (lv_room hroom) hdg hcs) T (fun H1 locs1 T1 => by rw [h2, h3]; exact kk H1 locs1 T1)
theorem qg_end {t : State} (T : ST D w A s S H locs) (ht : t.heap = H) : QG D w A v S args s (.returned v) t :=
  ⟨rfl, ⟨by rw [ht]; exact T.1, T.2.1.weaken (fun _ _ _ _ => trivial)⟩, T.2.2.F ht⟩
theorem rt_i {x : Int32} (X : CX p s m args meth c cc nL own Ts D cy w A) (T : ST D w A s S H locs) (hr : meth.sig.returnType = some .int) (hdg : decode cc pc = .ok (.ireturn, 1)) : W p l e R s m args below meth c H locs 0 0 (MQ below (QG D w A (some (.int x)) S) args s 0 0 A) (F0 m pc ls [.int x]) :=
  W.iret X.1 X.2.1 hr (fun t ht _ => qg_end T ht) T.2.2.2.2 hdg X.2.2.2.2.2.1
theorem rt_z {x : Int32} (X : CX p s m args meth c cc nL own Ts D cy w A) (T : ST D w A s S H locs) (hr : meth.sig.returnType = some .boolean) (hx : x = 0 ∨ x = 1) (hdg : decode cc pc = .ok (.ireturn, 1)) : W p l e R s m args below meth c H locs 0 0 (MQ below (QG D w A (some (.int x)) S) args s 0 0 A) (F0 m pc ls [.int x]) :=
  W.zret X.1 X.2.1 hr (by rcases hx with h | h <;> (rw [h]; rfl)) (fun t ht _ => qg_end T ht) T.2.2.2.2 hdg X.2.2.2.2.2.1
theorem rt_l {x : Int64} (X : CX p s m args meth c cc nL own Ts D cy w A) (T : ST D w A s S H locs) (hr : meth.sig.returnType = some .long) (hdg : decode cc pc = .ok (.lreturn, 1)) : W p l e R s m args below meth c H locs 0 0 (MQ below (QG D w A (some (.long x)) S) args s 0 0 A) (F0 m pc ls [.long x]) :=
  W.lret X.1 X.2.1 hr (fun t ht _ => qg_end T ht) T.2.2.2.2 hdg X.2.2.2.2.2.1
theorem rt_v (X : CX p s m args meth c cc nL own Ts D cy w A) (T : ST D w A s S H locs) (hr : meth.sig.returnType = none) (hdg : decode cc pc = .ok (.return_, 1)) : W p l e R s m args below meth c H locs 0 0 (MQ below (QG D w A none S) args s 0 0 A) (F0 m pc ls []) :=
  W.vret X.1 X.2.1 hr (fun t ht _ => qg_end T ht) T.2.2.2.2 hdg X.2.2.2.2.2.1
theorem rt_a {x : Nat} {ty : FieldType} (X : CX p s m args meth c cc nL own Ts D cy w A) (T : ST D w A s S H locs) (hr : meth.sig.returnType = some ty) (hty : (∃ n, ty = .object n) ∨ ∃ t, ty = .array t) (hdg : decode cc pc = .ok (.areturn, 1)) : W p l e R s m args below meth c H locs 0 0 (MQ below (QG D w A (some (.ref x)) S) args s 0 0 A) (F0 m pc ls [.ref x]) :=
  W.aret X.1 X.2.1 hr hty (Or.inr ⟨x, rfl⟩) (fun t ht _ => qg_end T ht) T.2.2.2.2 hdg X.2.2.2.2.2.1
end GO
/-- a contract out of a walk of the body -/
theorem CG.of {l : Launch} {D : va_G} {cy : Nat → ClassId} {w : SC → va_W} {y : MethodName} {ws ws' : List Cond} {rm : Room} {av : List Value} {S S' : SC} {v : Option Value} {cc : ByteArray} {maxL : Nat} {ret : Option FieldType}
    (hy : plainName y.cls = true) (hw : ws = Cond.code y cc maxL ret :: ws') (hent : (lg_sl av).length ≤ maxL)
    (body : ∀ (p : Program) (e : Env) (s : State) (m : MethodId) (below : List Frame) (meth : Method) (c : Code) (A : Nat → Prop) (ls : Array Slot), CX p s m av.toArray meth c cc maxL y.cls ws D cy w A → meth.sig.returnType = ret → ST D w A s S s.heap [] → lv_has ls maxL (lv_args 0 av) →
      W p l e rm s m av.toArray below meth c s.heap [] 0 0 (MQ below (QG D w A v S') av.toArray s 0 0 A) (F0 m 0 ls [])) : CG l D cy w y ws rm av S v S' := by
  intro sz
  refine Met.ofW (cc := cc) (maxL := maxL) (ret := ret) hy hw ?_
  intro p e s m args below meth c s₁ B hml hv
  obtain ⟨rfl, hsz, ⟨hP, hD0⟩, hK⟩ := hv
  subst hsz
  have hwA : ∀ (S : SC) (k : Nat) (q : Nat × va_E), (w S)[k]? = some q → AW w s.heap.size q.1 := fun S k q h => Or.inl ⟨S, k, q.2, h⟩
  rw [lg_entry_eq]
  exact body p e s m below meth c (AW w s.heap.size) _ ⟨B.exec, B.bytes, hml, findClass_of_methodNamed B.named, atoms_spec (ws := ws) B.pre, B.notSynchronized, hK, fun q h => Or.inr h, hwA⟩ B.returns ⟨hP, ⟨hD0.1, fun k q h => hwA S k q h⟩, va_S.rf⟩ (lv_entry av hent)
/-! what a decompiled method is made of -/
def nm {α β : Type} (x : α) (k : α → Option β) : Option β := k x
theorem nm_inv {α β : Type} {x : α} {k : α → Option β} {r : β} (h : nm x k = some r) : ∃ y, y = x ∧ k y = some r := ⟨x, rfl, h⟩
def bnd {α β : Type} (x : Option α) (k : α → Option β) : Option β := match x with | none => none | some y => k y
theorem bnd_inv {α β : Type} {x : Option α} {k : α → Option β} {r : β} (h : bnd x k = some r) : ∃ y, x = some y ∧ k y = some r := by
  cases x with
  | none => cases h
  | some y => exact ⟨y, rfl, h⟩
/-- an index is looked at -/
def ck {β : Type} (i : Int32) (n : Nat) (k : Option β) : Option β := if 0 ≤ i ∧ i.toNatClampNeg < n then k else none
theorem ck_inv {β : Type} {i : Int32} {n : Nat} {k : Option β} {r : β} (h : ck i n k = some r) : vp_in i n ∧ k = some r := by
  unfold ck at h
  split at h
  next hc =>
    refine ⟨fun q => ?_, h⟩
    rcases q with q | q
    · exact absurd hc.1 (Int32.not_le.mpr q)
    · omega
  next => cases h
/-- a condition that is wanted -/
def cp {β : Type} (P : Prop) [Decidable P] (k : Option β) : Option β := if P then k else none

/-- a loop of a decompiled method: s runs to the next round or out -/
def loop {σ ρ : Type} (b : σ → Option (σ ⊕ ρ)) : Nat → σ → Option ρ
  | 0, _ => none
  | n + 1, s => match b s with
    | none => none
    | some (.inl s') => loop b n s'
    | some (.inr r) => some r
theorem loop_inv {σ ρ : Type} {b : σ → Option (σ ⊕ ρ)} {n : Nat} {s : σ} {r : ρ} (h : loop b (n + 1) s = some r) : ∃ z, b s = some z ∧ (∀ s', z = .inl s' → loop b n s' = some r) ∧ (∀ r0, z = .inr r0 → r0 = r) := by
  unfold loop at h
  split at h
  next => cases h
  next s' e => exact ⟨_, e, fun t ht => (by cases ht; exact h), fun t ht => (by cases ht)⟩
  next r0 e => exact ⟨_, e, fun t ht => (by cases ht), fun t ht => (by cases ht; exact Option.some.inj h)⟩
/-- out of a loop, into what stands behind it -/
def ex {σ ρ : Type} (x : Option ρ) : Option (σ ⊕ ρ) := match x with | none => none | some r => some (.inr r)
theorem ex_inv {σ ρ : Type} {x : Option ρ} {z : σ ⊕ ρ} (h : ex x = some z) : ∃ r, x = some r ∧ z = .inr r := by
  cases x with
  | none => cases h
  | some r => exact ⟨r, rfl, (Option.some.inj h).symm⟩
theorem cp_inv {β : Type} {P : Prop} [Decidable P] {k : Option β} {r : β} (h : cp P k = some r) : P ∧ k = some r := by
  unfold cp at h
  split at h
  next hc => exact ⟨hc, h⟩
  next => cases h
theorem FUEL_ex : ∃ n : Nat, n = 1000000000000000000 := ⟨_, rfl⟩
/-- as many rounds as any loop can want -/
noncomputable def FUEL : Nat := FUEL_ex.choose
theorem FUEL_is : FUEL = 1000000000000000000 := FUEL_ex.choose_spec
end
section
/-! the class's world: the object 0, the board 1 with its rows 2 to 6, the lists of turns 7 to 14 (a list and its row, four times), the outlook 15 -/
/-- ints 0 to 7: cells, builders, firstPower, secondPower, placed, turnsPlayed, victor, climbingBarred; 8 to 11: the lists' sizes. Rows 0 to 4: neighbours, storeys, holders, spots, past; 5 to 8: the lists' numbers -/
def wC (cy : Nat → ClassId) (ad : Nat → Nat) (S : SC) : va_W := [
  (ad 0, .inr (3, [.ref (ad 1), .ref (ad 7), .ref (ad 15)])),
  (ad 1, .inr (0, [.ref (ad 2), .ref (ad 3), .ref (ad 4), .ref (ad 5), .ref (ad 6), .int (S.1 0), .int (S.1 1), .int (S.1 2), .int (S.1 3), .int (S.1 4), .int (S.1 5), .int (S.1 6), .int (S.1 7)])),
  (ad 2, .inl (cy 0, 200, .inl (S.2 0))), (ad 3, .inl (cy 0, 25, .inl (S.2 1))), (ad 4, .inl (cy 0, 25, .inl (S.2 2))), (ad 5, .inl (cy 0, 4, .inl (S.2 3))), (ad 6, .inl (cy 0, 505, .inl (S.2 4))),
  (ad 7, .inr (2, [.ref (ad 8), .int (S.1 8)])), (ad 8, .inl (cy 0, 338, .inl (S.2 5))),
  (ad 9, .inr (2, [.ref (ad 10), .int (S.1 9)])), (ad 10, .inl (cy 0, 338, .inl (S.2 6))),
  (ad 11, .inr (2, [.ref (ad 12), .int (S.1 10)])), (ad 12, .inl (cy 0, 338, .inl (S.2 7))),
  (ad 13, .inr (2, [.ref (ad 14), .int (S.1 11)])), (ad 14, .inl (cy 0, 338, .inl (S.2 8))),
  (ad 15, .inr (1, [.ref (ad 9), .ref (ad 11), .ref (ad 13)]))]
theorem lt4 {t : Nat} (h : t < 4) : t = 0 ∨ t = 1 ∨ t = 2 ∨ t = 3 := by omega
theorem wC_L (cy : Nat → ClassId) (ad : Nat → Nat) (S : SC) {t : Nat} (h : t < 4) : (wC cy ad S)[7 + 2 * t]? = some (ad (7 + 2 * t), .inr (2, [.ref (ad (8 + 2 * t)), .int (S.1 (8 + t))])) := by
  rcases lt4 h with rfl | rfl | rfl | rfl <;> rfl
theorem wC_N (cy : Nat → ClassId) (ad : Nat → Nat) (S : SC) {t : Nat} (h : t < 4) : (wC cy ad S)[8 + 2 * t]? = some (ad (8 + 2 * t), .inl (cy 0, 338, .inl (S.2 (5 + t)))) := by
  rcases lt4 h with rfl | rfl | rfl | rfl <;> rfl
theorem wC_L_set (cy : Nat → ClassId) (ad : Nat → Nat) (S : SC) (v : Int32) {t : Nat} (h : t < 4) : (wC cy ad S).set (7 + 2 * t) (ad (7 + 2 * t), .inr (2, [.ref (ad (8 + 2 * t)), .int v])) = wC cy ad (setS S (8 + t) v) := by
  rcases lt4 h with rfl | rfl | rfl | rfl <;> rfl
theorem wC_N_set (cy : Nat → ClassId) (ad : Nat → Nat) (S : SC) (i v : Int32) {t : Nat} (h : t < 4) : (wC cy ad S).set (8 + 2 * t) (ad (8 + 2 * t), .inl (cy 0, 338, .inl (upd (S.2 (5 + t)) i.toNatClampNeg v))) = wC cy ad (setA S (5 + t) i v) := by
  rcases lt4 h with rfl | rfl | rfl | rfl <;> rfl
def lenA (k : Nat) : Nat := match k with | 0 => 200 | 1 => 25 | 2 => 25 | 3 => 4 | _ => 505
theorem lt5 {t : Nat} (h : t < 5) : t = 0 ∨ t = 1 ∨ t = 2 ∨ t = 3 ∨ t = 4 := by omega
theorem wC_A (cy : Nat → ClassId) (ad : Nat → Nat) (S : SC) {k : Nat} (h : k < 5) : (wC cy ad S)[2 + k]? = some (ad (2 + k), .inl (cy 0, lenA k, .inl (S.2 k))) := by
  rcases lt5 h with rfl | rfl | rfl | rfl | rfl <;> rfl
theorem wC_A_set (cy : Nat → ClassId) (ad : Nat → Nat) (S : SC) (i v : Int32) {k : Nat} (h : k < 5) : (wC cy ad S).set (2 + k) (ad (2 + k), .inl (cy 0, lenA k, .inl (upd (S.2 k) i.toNatClampNeg v))) = wC cy ad (setA S k i v) := by
  rcases lt5 h with rfl | rfl | rfl | rfl | rfl <;> rfl
theorem ifp {β : Type} {c : Prop} [Decidable c] {a b : Option β} {r : β} (hc : c) (h : (if c then a else b) = some r) : a = some r := by rw [if_pos hc] at h; exact h
theorem ifn {β : Type} {c : Prop} [Decidable c] {a b : Option β} {r : β} (hc : ¬ c) (h : (if c then a else b) = some r) : b = some r := by rw [if_neg hc] at h; exact h
theorem nz_n {v : Int32} (h : v = 0 ∨ v = 1) : narrow .boolean (.int v) = .int v := by rcases h with h | h <;> (rw [h]; rfl)
theorem nz_f {v : Int32} (h : v = 0 ∨ v = 1) : fits .boolean (.int v) = true := by rcases h with h | h <;> (rw [h]; rfl)
end
section
set_option maxRecDepth 20000 in
theorem ggX1_init_X2_init : GoodIn wsX1_init wsX2_init := goodIn_r _ [11, 12, 2, 3, 13, 14, 15, 16] (by decide +kernel) (by decide +kernel)
set_option maxRecDepth 20000 in
theorem gX1_init_X2_init_n11 : GoodIn wsX1_init (wsX2_init) := ggX1_init_X2_init
theorem dX1_init_0 : decode cX1_init 0 = .ok (.aload_n 0, 1) := by decide +kernel
theorem dX1_init_1 : decode cX1_init 1 = .ok (.invokespecial 3, 3) := by decide +kernel
theorem dX1_init_4 : decode cX1_init 4 = .ok (.aload_n 0, 1) := by decide +kernel
theorem dX1_init_5 : decode cX1_init 5 = .ok (.new 9, 3) := by decide +kernel
theorem dX1_init_8 : decode cX1_init 8 = .ok (.dup, 1) := by decide +kernel
theorem dX1_init_9 : decode cX1_init 9 = .ok (.invokespecial 11, 3) := by decide +kernel
theorem dX1_init_12 : decode cX1_init 12 = .ok (.putfield 12, 3) := by decide +kernel
theorem dX1_init_15 : decode cX1_init 15 = .ok (.aload_n 0, 1) := by decide +kernel
theorem dX1_init_16 : decode cX1_init 16 = .ok (.new 9, 3) := by decide +kernel
theorem dX1_init_19 : decode cX1_init 19 = .ok (.dup, 1) := by decide +kernel
theorem dX1_init_20 : decode cX1_init 20 = .ok (.invokespecial 11, 3) := by decide +kernel
theorem dX1_init_23 : decode cX1_init 23 = .ok (.putfield 18, 3) := by decide +kernel
theorem dX1_init_26 : decode cX1_init 26 = .ok (.aload_n 0, 1) := by decide +kernel
theorem dX1_init_27 : decode cX1_init 27 = .ok (.new 9, 3) := by decide +kernel
theorem dX1_init_30 : decode cX1_init 30 = .ok (.dup, 1) := by decide +kernel
theorem dX1_init_31 : decode cX1_init 31 = .ok (.invokespecial 11, 3) := by decide +kernel
theorem dX1_init_34 : decode cX1_init 34 = .ok (.putfield 21, 3) := by decide +kernel
theorem dX1_init_37 : decode cX1_init 37 = .ok (.return_, 1) := by decide +kernel
set_option maxRecDepth 20000 in
theorem ggX1_look_X1_listFor : GoodIn wsX1_look wsX1_listFor := goodIn_r _ [9, 10, 11, 12, 148, 149, 150] (by decide +kernel) (by decide +kernel)
set_option maxRecDepth 20000 in
theorem gX1_look_X1_listFor : GoodIn wsX1_look (wsV RX1 24 RX1 yX1_listFor wsX1_listFor) := goodIn_app (goodIn_of _ (by decide +kernel)) ggX1_look_X1_listFor
set_option maxRecDepth 20000 in
theorem ggX1_look_X0_listTurns : GoodIn wsX1_look wsX0_listTurns := goodIn_r _ [17, 18, 19, 20, 21, 22, 23, 24, 25, 26, 27, 28, 29, 30, 16, 31, 32, 33, 34, 35, 36, 37, 38, 39, 40, 41, 42, 43, 44, 45, 46, 47, 48, 49, 50, 51, 52, 53, 54, 55, 56, 57, 58, 59, 60, 61, 62, 63, 64, 65, 66, 67, 68, 69, 70, 71, 72, 73, 74, 75, 76, 77, 78, 79, 80, 81, 82, 83, 84, 85, 86, 87, 151, 152, 153, 154, 155, 156, 157, 158, 159, 160, 161, 162, 163, 146, 147] (by decide +kernel) (by decide +kernel)
set_option maxRecDepth 20000 in
theorem gX1_look_X0_listTurns : GoodIn wsX1_look (wsV RX1 28 RX0 yX0_listTurns wsX0_listTurns) := goodIn_app (goodIn_of _ (by decide +kernel)) ggX1_look_X0_listTurns
set_option maxRecDepth 20000 in
theorem ggX1_look_X2_at : GoodIn wsX1_look wsX2_at := goodIn_r _ [91, 87, 146, 147] (by decide +kernel) (by decide +kernel)
set_option maxRecDepth 20000 in
theorem gX1_look_X2_at : GoodIn wsX1_look (wsV RX1 38 RX2 yX2_at wsX2_at) := goodIn_app (goodIn_of _ (by decide +kernel)) ggX1_look_X2_at
set_option maxRecDepth 20000 in
theorem ggX1_look_X1_worthOf : GoodIn wsX1_look wsX1_worthOf := goodIn_r _ [95, 96, 97, 98, 16, 99, 19, 41, 18, 28, 29, 30, 31, 32, 100, 101, 102, 75, 76, 77, 78, 56, 57, 58, 59, 60, 65, 66, 67, 68, 69, 70, 103, 104, 105, 106, 107, 108, 109, 110, 47, 48, 49, 50, 51, 111, 112, 113, 114, 115, 116, 117, 118, 119, 120, 121, 122, 123, 124, 125, 126, 127, 128, 129, 130, 20, 37, 38, 39, 40, 42, 43, 44, 45, 46, 52, 53, 54, 55, 61, 62, 63, 64, 131, 132, 133, 134, 79, 80, 81, 82, 135, 136, 137, 8, 138, 139, 140, 141, 142, 143, 144, 145, 0, 1, 2, 3, 4, 5, 6, 7, 9, 10, 11, 12, 13, 14, 15, 17, 21, 22, 23, 24, 25, 26, 27, 33, 34, 35, 36, 71, 72, 73, 74, 83, 84, 85, 86, 87, 88, 89, 90, 91, 92, 93, 94, 146, 147, 148, 149, 150, 151, 152, 153, 154, 155, 156, 157, 158, 159, 160, 161, 162, 163] (by decide +kernel) (by decide +kernel)
set_option maxRecDepth 20000 in
theorem gX1_look_X1_worthOf : GoodIn wsX1_look (wsV RX1 42 RX1 yX1_worthOf wsX1_worthOf) := goodIn_app (goodIn_of _ (by decide +kernel)) ggX1_look_X1_worthOf
theorem dX1_look_0 : decode cX1_look 0 = .ok (.iload_n 2, 1) := by decide +kernel
theorem dX1_look_1 : decode cX1_look 1 = .ok (.ifCond .le 8, 3) := by decide +kernel
theorem dX1_look_4 : decode cX1_look 4 = .ok (.iload_n 2, 1) := by decide +kernel
theorem dX1_look_5 : decode cX1_look 5 = .ok (.iconst 3, 1) := by decide +kernel
theorem dX1_look_6 : decode cX1_look 6 = .ok (.if_icmp .le 5, 3) := by decide +kernel
theorem dX1_look_9 : decode cX1_look 9 = .ok (.iconst 0, 1) := by decide +kernel
theorem dX1_look_10 : decode cX1_look 10 = .ok (.ireturn, 1) := by decide +kernel
theorem dX1_look_11 : decode cX1_look 11 = .ok (.aload_n 0, 1) := by decide +kernel
theorem dX1_look_12 : decode cX1_look 12 = .ok (.iload_n 2, 1) := by decide +kernel
theorem dX1_look_13 : decode cX1_look 13 = .ok (.invokevirtual 24, 3) := by decide +kernel
theorem dX1_look_16 : decode cX1_look 16 = .ok (.astore_n 3, 1) := by decide +kernel
theorem dX1_look_17 : decode cX1_look 17 = .ok (.aload_n 1, 1) := by decide +kernel
theorem dX1_look_18 : decode cX1_look 18 = .ok (.aload_n 3, 1) := by decide +kernel
theorem dX1_look_19 : decode cX1_look 19 = .ok (.invokevirtual 28, 3) := by decide +kernel
theorem dX1_look_22 : decode cX1_look 22 = .ok (.iconst (-1), 1) := by decide +kernel
theorem dX1_look_23 : decode cX1_look 23 = .ok (.istore 4, 2) := by decide +kernel
theorem dX1_look_25 : decode cX1_look 25 = .ok (.iconst 0, 1) := by decide +kernel
theorem dX1_look_26 : decode cX1_look 26 = .ok (.istore 5, 2) := by decide +kernel
theorem dX1_look_28 : decode cX1_look 28 = .ok (.iload 5, 2) := by decide +kernel
theorem dX1_look_30 : decode cX1_look 30 = .ok (.aload_n 3, 1) := by decide +kernel
theorem dX1_look_31 : decode cX1_look 31 = .ok (.getfield 34, 3) := by decide +kernel
theorem dX1_look_34 : decode cX1_look 34 = .ok (.if_icmp .ge 34, 3) := by decide +kernel
theorem dX1_look_37 : decode cX1_look 37 = .ok (.iload 4, 2) := by decide +kernel
theorem dX1_look_39 : decode cX1_look 39 = .ok (.iconst 1, 1) := by decide +kernel
theorem dX1_look_40 : decode cX1_look 40 = .ok (.if_icmp .ge 28, 3) := by decide +kernel
theorem dX1_look_43 : decode cX1_look 43 = .ok (.iload 4, 2) := by decide +kernel
theorem dX1_look_45 : decode cX1_look 45 = .ok (.aload_n 0, 1) := by decide +kernel
theorem dX1_look_46 : decode cX1_look 46 = .ok (.aload_n 1, 1) := by decide +kernel
theorem dX1_look_47 : decode cX1_look 47 = .ok (.aload_n 3, 1) := by decide +kernel
theorem dX1_look_48 : decode cX1_look 48 = .ok (.iload 5, 2) := by decide +kernel
theorem dX1_look_50 : decode cX1_look 50 = .ok (.invokevirtual 38, 3) := by decide +kernel
theorem dX1_look_53 : decode cX1_look 53 = .ok (.iconst 1, 1) := by decide +kernel
theorem dX1_look_54 : decode cX1_look 54 = .ok (.invokevirtual 42, 3) := by decide +kernel
theorem dX1_look_57 : decode cX1_look 57 = .ok (.invokestatic 46, 3) := by decide +kernel
theorem dX1_look_60 : decode cX1_look 60 = .ok (.istore 4, 2) := by decide +kernel
theorem dX1_look_62 : decode cX1_look 62 = .ok (.iinc 5 1, 3) := by decide +kernel
theorem dX1_look_65 : decode cX1_look 65 = .ok (.goto (-37), 3) := by decide +kernel
theorem dX1_look_68 : decode cX1_look 68 = .ok (.iload_n 2, 1) := by decide +kernel
theorem dX1_look_69 : decode cX1_look 69 = .ok (.iconst 1, 1) := by decide +kernel
theorem dX1_look_70 : decode cX1_look 70 = .ok (.if_icmp .eq 9, 3) := by decide +kernel
theorem dX1_look_73 : decode cX1_look 73 = .ok (.iload 4, 2) := by decide +kernel
theorem dX1_look_75 : decode cX1_look 75 = .ok (.iconst 1, 1) := by decide +kernel
theorem dX1_look_76 : decode cX1_look 76 = .ok (.if_icmp .ne 6, 3) := by decide +kernel
theorem dX1_look_79 : decode cX1_look 79 = .ok (.iload 4, 2) := by decide +kernel
theorem dX1_look_81 : decode cX1_look 81 = .ok (.ireturn, 1) := by decide +kernel
theorem dX1_look_82 : decode cX1_look 82 = .ok (.iload_n 2, 1) := by decide +kernel
theorem dX1_look_83 : decode cX1_look 83 = .ok (.iconst 2, 1) := by decide +kernel
theorem dX1_look_84 : decode cX1_look 84 = .ok (.if_icmp .ne 7, 3) := by decide +kernel
theorem dX1_look_87 : decode cX1_look 87 = .ok (.iconst 0, 1) := by decide +kernel
theorem dX1_look_88 : decode cX1_look 88 = .ok (.goto 4, 3) := by decide +kernel
theorem dX1_look_91 : decode cX1_look 91 = .ok (.iconst 1, 1) := by decide +kernel
theorem dX1_look_92 : decode cX1_look 92 = .ok (.istore 5, 2) := by decide +kernel
theorem dX1_look_94 : decode cX1_look 94 = .ok (.iconst (-1), 1) := by decide +kernel
theorem dX1_look_95 : decode cX1_look 95 = .ok (.istore 4, 2) := by decide +kernel
theorem dX1_look_97 : decode cX1_look 97 = .ok (.iconst 0, 1) := by decide +kernel
theorem dX1_look_98 : decode cX1_look 98 = .ok (.istore 6, 2) := by decide +kernel
theorem dX1_look_100 : decode cX1_look 100 = .ok (.iload 6, 2) := by decide +kernel
theorem dX1_look_102 : decode cX1_look 102 = .ok (.aload_n 3, 1) := by decide +kernel
theorem dX1_look_103 : decode cX1_look 103 = .ok (.getfield 34, 3) := by decide +kernel
theorem dX1_look_106 : decode cX1_look 106 = .ok (.if_icmp .ge 35, 3) := by decide +kernel
theorem dX1_look_109 : decode cX1_look 109 = .ok (.iload 4, 2) := by decide +kernel
theorem dX1_look_111 : decode cX1_look 111 = .ok (.iload 5, 2) := by decide +kernel
theorem dX1_look_113 : decode cX1_look 113 = .ok (.if_icmp .ge 28, 3) := by decide +kernel
theorem dX1_look_116 : decode cX1_look 116 = .ok (.iload 4, 2) := by decide +kernel
theorem dX1_look_118 : decode cX1_look 118 = .ok (.aload_n 0, 1) := by decide +kernel
theorem dX1_look_119 : decode cX1_look 119 = .ok (.aload_n 1, 1) := by decide +kernel
theorem dX1_look_120 : decode cX1_look 120 = .ok (.aload_n 3, 1) := by decide +kernel
theorem dX1_look_121 : decode cX1_look 121 = .ok (.iload 6, 2) := by decide +kernel
theorem dX1_look_123 : decode cX1_look 123 = .ok (.invokevirtual 38, 3) := by decide +kernel
theorem dX1_look_126 : decode cX1_look 126 = .ok (.iload_n 2, 1) := by decide +kernel
theorem dX1_look_127 : decode cX1_look 127 = .ok (.invokevirtual 42, 3) := by decide +kernel
theorem dX1_look_130 : decode cX1_look 130 = .ok (.invokestatic 46, 3) := by decide +kernel
theorem dX1_look_133 : decode cX1_look 133 = .ok (.istore 4, 2) := by decide +kernel
theorem dX1_look_135 : decode cX1_look 135 = .ok (.iinc 6 1, 3) := by decide +kernel
theorem dX1_look_138 : decode cX1_look 138 = .ok (.goto (-38), 3) := by decide +kernel
theorem dX1_look_141 : decode cX1_look 141 = .ok (.iload 4, 2) := by decide +kernel
theorem dX1_look_143 : decode cX1_look 143 = .ok (.ireturn, 1) := by decide +kernel
set_option maxRecDepth 20000 in
theorem ggX1_worthOf_X0_perform : GoodIn wsX1_worthOf wsX0_perform := goodIn_r _ [5, 6, 7, 8, 9, 10, 11, 4, 12, 13, 14, 15, 16, 17, 18, 19, 20, 21, 22, 23, 24, 25, 26, 27, 28, 29, 30, 31, 32, 33, 34, 35, 36, 37, 38, 39, 40, 41, 42, 43, 44, 45, 46, 47, 48, 49, 50, 51, 52, 53, 54, 55, 56, 57, 58, 59, 60, 61, 62, 63, 64, 65, 66, 67, 68, 69, 70, 71, 72, 73, 74, 75, 76, 77, 78, 79, 80, 81, 82, 83, 84, 85, 86, 87, 88, 89, 90, 151, 152, 153, 154, 155, 156, 157, 158, 159, 160, 161, 162, 163] (by decide +kernel) (by decide +kernel)
set_option maxRecDepth 20000 in
theorem gX1_worthOf_X0_perform : GoodIn wsX1_worthOf (wsV RX1 52 RX0 yX0_perform wsX0_perform) := goodIn_app (goodIn_of _ (by decide +kernel)) ggX1_worthOf_X0_perform
set_option maxRecDepth 20000 in
theorem ggX1_worthOf_X1_look : GoodIn wsX1_worthOf wsX1_look := goodIn_r _ [103, 104, 105, 106, 107, 108, 109, 110, 94, 111, 112, 113, 114, 115, 116, 117, 4, 118, 8, 6, 65, 119, 120, 121, 122, 123, 124, 125, 9, 10, 11, 12, 13, 126, 127, 128, 129, 66, 67, 68, 69, 7, 70, 71, 72, 73, 74, 40, 41, 42, 43, 44, 75, 76, 77, 78, 21, 22, 23, 24, 25, 79, 80, 81, 82, 26, 27, 28, 29, 30, 31, 130, 131, 132, 133, 17, 18, 19, 20, 87, 88, 89, 90, 134, 135, 136, 137, 138, 139, 140, 141, 142, 143, 144, 145, 0, 1, 2, 3, 5, 14, 15, 16, 32, 33, 34, 35, 36, 37, 38, 39, 45, 46, 47, 48, 49, 50, 51, 52, 53, 54, 55, 56, 57, 58, 59, 60, 61, 62, 63, 64, 83, 84, 85, 86, 91, 92, 93, 95, 96, 97, 98, 99, 100, 101, 102, 146, 147, 148, 149, 150, 151, 152, 153, 154, 155, 156, 157, 158, 159, 160, 161, 162, 163] (by decide +kernel) (by decide +kernel)
set_option maxRecDepth 20000 in
theorem gX1_worthOf_X1_look : GoodIn wsX1_worthOf (wsV RX1 59 RX1 yX1_look wsX1_look) := goodIn_app (goodIn_of _ (by decide +kernel)) ggX1_worthOf_X1_look
set_option maxRecDepth 20000 in
theorem ggX1_worthOf_X0_undo : GoodIn wsX1_worthOf wsX0_undo := goodIn_r _ [98, 6, 36, 8, 7, 37, 38, 4, 39, 57, 58, 59, 60, 44, 14, 15, 16, 99, 100, 101, 102, 21, 22, 23, 24, 25, 49, 50, 51, 52, 53, 54, 55, 56, 13, 151, 152, 153, 154, 155, 156, 157, 158, 159, 160, 161, 162, 163] (by decide +kernel) (by decide +kernel)
set_option maxRecDepth 20000 in
theorem gX1_worthOf_X0_undo : GoodIn wsX1_worthOf (wsV RX1 63 RX0 yX0_undo wsX0_undo) := goodIn_app (goodIn_of _ (by decide +kernel)) ggX1_worthOf_X0_undo
theorem dX1_worthOf_0 : decode cX1_worthOf 0 = .ok (.aload_n 1, 1) := by decide +kernel
theorem dX1_worthOf_1 : decode cX1_worthOf 1 = .ok (.iload_n 2, 1) := by decide +kernel
theorem dX1_worthOf_2 : decode cX1_worthOf 2 = .ok (.invokevirtual 52, 3) := by decide +kernel
theorem dX1_worthOf_5 : decode cX1_worthOf 5 = .ok (.aload_n 1, 1) := by decide +kernel
theorem dX1_worthOf_6 : decode cX1_worthOf 6 = .ok (.getfield 56, 3) := by decide +kernel
theorem dX1_worthOf_9 : decode cX1_worthOf 9 = .ok (.iconst (-1), 1) := by decide +kernel
theorem dX1_worthOf_10 : decode cX1_worthOf 10 = .ok (.if_icmp .eq 7, 3) := by decide +kernel
theorem dX1_worthOf_13 : decode cX1_worthOf 13 = .ok (.iconst 1, 1) := by decide +kernel
theorem dX1_worthOf_14 : decode cX1_worthOf 14 = .ok (.goto 12, 3) := by decide +kernel
theorem dX1_worthOf_17 : decode cX1_worthOf 17 = .ok (.aload_n 0, 1) := by decide +kernel
theorem dX1_worthOf_18 : decode cX1_worthOf 18 = .ok (.aload_n 1, 1) := by decide +kernel
theorem dX1_worthOf_19 : decode cX1_worthOf 19 = .ok (.iload_n 3, 1) := by decide +kernel
theorem dX1_worthOf_20 : decode cX1_worthOf 20 = .ok (.iconst 1, 1) := by decide +kernel
theorem dX1_worthOf_21 : decode cX1_worthOf 21 = .ok (.isub, 1) := by decide +kernel
theorem dX1_worthOf_22 : decode cX1_worthOf 22 = .ok (.invokevirtual 59, 3) := by decide +kernel
theorem dX1_worthOf_25 : decode cX1_worthOf 25 = .ok (.ineg, 1) := by decide +kernel
theorem dX1_worthOf_26 : decode cX1_worthOf 26 = .ok (.istore 4, 2) := by decide +kernel
theorem dX1_worthOf_28 : decode cX1_worthOf 28 = .ok (.aload_n 1, 1) := by decide +kernel
theorem dX1_worthOf_29 : decode cX1_worthOf 29 = .ok (.invokevirtual 63, 3) := by decide +kernel
theorem dX1_worthOf_32 : decode cX1_worthOf 32 = .ok (.iload 4, 2) := by decide +kernel
theorem dX1_worthOf_34 : decode cX1_worthOf 34 = .ok (.ireturn, 1) := by decide +kernel
theorem dX1_listFor_0 : decode cX1_listFor 0 = .ok (.iload_n 1, 1) := by decide +kernel
theorem dX1_listFor_1 : decode cX1_listFor 1 = .ok (.iconst 1, 1) := by decide +kernel
theorem dX1_listFor_2 : decode cX1_listFor 2 = .ok (.if_icmp .ne 8, 3) := by decide +kernel
theorem dX1_listFor_5 : decode cX1_listFor 5 = .ok (.aload_n 0, 1) := by decide +kernel
theorem dX1_listFor_6 : decode cX1_listFor 6 = .ok (.getfield 12, 3) := by decide +kernel
theorem dX1_listFor_9 : decode cX1_listFor 9 = .ok (.areturn, 1) := by decide +kernel
theorem dX1_listFor_10 : decode cX1_listFor 10 = .ok (.iload_n 1, 1) := by decide +kernel
theorem dX1_listFor_11 : decode cX1_listFor 11 = .ok (.iconst 2, 1) := by decide +kernel
theorem dX1_listFor_12 : decode cX1_listFor 12 = .ok (.if_icmp .ne 10, 3) := by decide +kernel
theorem dX1_listFor_15 : decode cX1_listFor 15 = .ok (.aload_n 0, 1) := by decide +kernel
theorem dX1_listFor_16 : decode cX1_listFor 16 = .ok (.getfield 18, 3) := by decide +kernel
theorem dX1_listFor_19 : decode cX1_listFor 19 = .ok (.goto 7, 3) := by decide +kernel
theorem dX1_listFor_22 : decode cX1_listFor 22 = .ok (.aload_n 0, 1) := by decide +kernel
theorem dX1_listFor_23 : decode cX1_listFor 23 = .ok (.getfield 21, 3) := by decide +kernel
theorem dX1_listFor_26 : decode cX1_listFor 26 = .ok (.areturn, 1) := by decide +kernel
theorem dX2_init_0 : decode cX2_init 0 = .ok (.aload_n 0, 1) := by decide +kernel
theorem dX2_init_1 : decode cX2_init 1 = .ok (.invokespecial 3, 3) := by decide +kernel
theorem dX2_init_4 : decode cX2_init 4 = .ok (.aload_n 0, 1) := by decide +kernel
theorem dX2_init_5 : decode cX2_init 5 = .ok (.sipush 338, 3) := by decide +kernel
theorem dX2_init_8 : decode cX2_init 8 = .ok (.newarray .int, 2) := by decide +kernel
theorem dX2_init_10 : decode cX2_init 10 = .ok (.putfield 11, 3) := by decide +kernel
theorem dX2_init_13 : decode cX2_init 13 = .ok (.return_, 1) := by decide +kernel
theorem dX2_clear_0 : decode cX2_clear 0 = .ok (.aload_n 0, 1) := by decide +kernel
theorem dX2_clear_1 : decode cX2_clear 1 = .ok (.iconst 0, 1) := by decide +kernel
theorem dX2_clear_2 : decode cX2_clear 2 = .ok (.putfield 15, 3) := by decide +kernel
theorem dX2_clear_5 : decode cX2_clear 5 = .ok (.return_, 1) := by decide +kernel
theorem dX2_add_0 : decode cX2_add 0 = .ok (.aload_n 0, 1) := by decide +kernel
theorem dX2_add_1 : decode cX2_add 1 = .ok (.getfield 15, 3) := by decide +kernel
theorem dX2_add_4 : decode cX2_add 4 = .ok (.ifCond .lt 35, 3) := by decide +kernel
theorem dX2_add_7 : decode cX2_add 7 = .ok (.aload_n 0, 1) := by decide +kernel
theorem dX2_add_8 : decode cX2_add 8 = .ok (.getfield 15, 3) := by decide +kernel
theorem dX2_add_11 : decode cX2_add 11 = .ok (.aload_n 0, 1) := by decide +kernel
theorem dX2_add_12 : decode cX2_add 12 = .ok (.getfield 11, 3) := by decide +kernel
theorem dX2_add_15 : decode cX2_add 15 = .ok (.arraylength, 1) := by decide +kernel
theorem dX2_add_16 : decode cX2_add 16 = .ok (.if_icmp .ge 23, 3) := by decide +kernel
theorem dX2_add_19 : decode cX2_add 19 = .ok (.aload_n 0, 1) := by decide +kernel
theorem dX2_add_20 : decode cX2_add 20 = .ok (.getfield 11, 3) := by decide +kernel
theorem dX2_add_23 : decode cX2_add 23 = .ok (.aload_n 0, 1) := by decide +kernel
theorem dX2_add_24 : decode cX2_add 24 = .ok (.getfield 15, 3) := by decide +kernel
theorem dX2_add_27 : decode cX2_add 27 = .ok (.iload_n 1, 1) := by decide +kernel
theorem dX2_add_28 : decode cX2_add 28 = .ok (.iastore, 1) := by decide +kernel
theorem dX2_add_29 : decode cX2_add 29 = .ok (.aload_n 0, 1) := by decide +kernel
theorem dX2_add_30 : decode cX2_add 30 = .ok (.dup, 1) := by decide +kernel
theorem dX2_add_31 : decode cX2_add 31 = .ok (.getfield 15, 3) := by decide +kernel
theorem dX2_add_34 : decode cX2_add 34 = .ok (.iconst 1, 1) := by decide +kernel
theorem dX2_add_35 : decode cX2_add 35 = .ok (.iadd, 1) := by decide +kernel
theorem dX2_add_36 : decode cX2_add 36 = .ok (.putfield 15, 3) := by decide +kernel
theorem dX2_add_39 : decode cX2_add 39 = .ok (.return_, 1) := by decide +kernel
theorem dX2_at_0 : decode cX2_at 0 = .ok (.iload_n 1, 1) := by decide +kernel
theorem dX2_at_1 : decode cX2_at 1 = .ok (.ifCond .lt 21, 3) := by decide +kernel
theorem dX2_at_4 : decode cX2_at 4 = .ok (.iload_n 1, 1) := by decide +kernel
theorem dX2_at_5 : decode cX2_at 5 = .ok (.aload_n 0, 1) := by decide +kernel
theorem dX2_at_6 : decode cX2_at 6 = .ok (.getfield 11, 3) := by decide +kernel
theorem dX2_at_9 : decode cX2_at 9 = .ok (.arraylength, 1) := by decide +kernel
theorem dX2_at_10 : decode cX2_at 10 = .ok (.if_icmp .ge 12, 3) := by decide +kernel
theorem dX2_at_13 : decode cX2_at 13 = .ok (.aload_n 0, 1) := by decide +kernel
theorem dX2_at_14 : decode cX2_at 14 = .ok (.getfield 11, 3) := by decide +kernel
theorem dX2_at_17 : decode cX2_at 17 = .ok (.iload_n 1, 1) := by decide +kernel
theorem dX2_at_18 : decode cX2_at 18 = .ok (.iaload, 1) := by decide +kernel
theorem dX2_at_19 : decode cX2_at 19 = .ok (.goto 4, 3) := by decide +kernel
theorem dX2_at_22 : decode cX2_at 22 = .ok (.iconst (-1), 1) := by decide +kernel
theorem dX2_at_23 : decode cX2_at 23 = .ok (.ireturn, 1) := by decide +kernel
set_option maxRecDepth 20000 in
theorem ggX2_holds_X2_at : GoodIn wsX2_holds wsX2_at := goodIn_r _ [6, 7, 8, 9] (by decide +kernel) (by decide +kernel)
set_option maxRecDepth 20000 in
theorem gX2_holds_X2_at : GoodIn wsX2_holds (wsV RX2 19 RX2 yX2_at wsX2_at) := goodIn_app (goodIn_of _ (by decide +kernel)) ggX2_holds_X2_at
theorem dX2_holds_0 : decode cX2_holds 0 = .ok (.iconst 0, 1) := by decide +kernel
theorem dX2_holds_1 : decode cX2_holds 1 = .ok (.istore_n 2, 1) := by decide +kernel
theorem dX2_holds_2 : decode cX2_holds 2 = .ok (.iload_n 2, 1) := by decide +kernel
theorem dX2_holds_3 : decode cX2_holds 3 = .ok (.aload_n 0, 1) := by decide +kernel
theorem dX2_holds_4 : decode cX2_holds 4 = .ok (.getfield 15, 3) := by decide +kernel
theorem dX2_holds_7 : decode cX2_holds 7 = .ok (.if_icmp .ge 20, 3) := by decide +kernel
theorem dX2_holds_10 : decode cX2_holds 10 = .ok (.aload_n 0, 1) := by decide +kernel
theorem dX2_holds_11 : decode cX2_holds 11 = .ok (.iload_n 2, 1) := by decide +kernel
theorem dX2_holds_12 : decode cX2_holds 12 = .ok (.invokevirtual 19, 3) := by decide +kernel
theorem dX2_holds_15 : decode cX2_holds 15 = .ok (.iload_n 1, 1) := by decide +kernel
theorem dX2_holds_16 : decode cX2_holds 16 = .ok (.if_icmp .ne 5, 3) := by decide +kernel
theorem dX2_holds_19 : decode cX2_holds 19 = .ok (.iconst 1, 1) := by decide +kernel
theorem dX2_holds_20 : decode cX2_holds 20 = .ok (.ireturn, 1) := by decide +kernel
theorem dX2_holds_21 : decode cX2_holds 21 = .ok (.iinc 2 1, 3) := by decide +kernel
theorem dX2_holds_24 : decode cX2_holds 24 = .ok (.goto (-22), 3) := by decide +kernel
theorem dX2_holds_27 : decode cX2_holds 27 = .ok (.iconst 0, 1) := by decide +kernel
theorem dX2_holds_28 : decode cX2_holds 28 = .ok (.ireturn, 1) := by decide +kernel
set_option maxRecDepth 20000 in
theorem ggX3_init_X0_init : GoodIn wsX3_init wsX0_init := goodIn_r _ [17, 18, 2, 3, 19, 20, 21, 22, 23, 24, 58, 59, 60, 61, 62, 63, 64, 65, 66, 67, 68, 69, 70] (by decide +kernel) (by decide +kernel)
set_option maxRecDepth 20000 in
theorem gX3_init_X0_init_n11 : GoodIn wsX3_init (wsX0_init) := ggX3_init_X0_init
set_option maxRecDepth 20000 in
theorem ggX3_init_X2_init : GoodIn wsX3_init wsX2_init := goodIn_r _ [26, 27, 2, 3, 19, 28, 74, 75] (by decide +kernel) (by decide +kernel)
set_option maxRecDepth 20000 in
theorem gX3_init_X2_init_n18 : GoodIn wsX3_init (wsX2_init) := ggX3_init_X2_init
set_option maxRecDepth 20000 in
theorem ggX3_init_X1_init : GoodIn wsX3_init wsX1_init := goodIn_r _ [30, 31, 2, 3, 32, 9, 10, 33, 34, 35, 25, 26, 27, 19, 28, 74, 75, 76, 77, 78] (by decide +kernel) (by decide +kernel)
set_option maxRecDepth 20000 in
theorem gX3_init_X1_init_n25 : GoodIn wsX3_init (wsX1_init) := ggX3_init_X1_init
set_option maxRecDepth 20000 in
theorem ggX3_init_X0_start : GoodIn wsX3_init wsX0_start := goodIn_r _ [39, 40, 41, 42, 43, 44, 45, 46, 47, 21, 22, 23, 48, 49, 50, 51, 52, 53, 54, 6, 55, 56, 57, 20, 58, 59, 60, 61, 62, 63, 64, 65, 66, 67, 68, 69, 70] (by decide +kernel) (by decide +kernel)
set_option maxRecDepth 20000 in
theorem gX3_init_X0_start : GoodIn wsX3_init (wsV RX3 30 RX0 yX0_start wsX0_start) := goodIn_app (goodIn_of _ (by decide +kernel)) ggX3_init_X0_start
theorem dX3_init_0 : decode cX3_init 0 = .ok (.aload_n 0, 1) := by decide +kernel
theorem dX3_init_1 : decode cX3_init 1 = .ok (.invokespecial 3, 3) := by decide +kernel
theorem dX3_init_4 : decode cX3_init 4 = .ok (.aload_n 0, 1) := by decide +kernel
theorem dX3_init_5 : decode cX3_init 5 = .ok (.new 9, 3) := by decide +kernel
theorem dX3_init_8 : decode cX3_init 8 = .ok (.dup, 1) := by decide +kernel
theorem dX3_init_9 : decode cX3_init 9 = .ok (.invokespecial 11, 3) := by decide +kernel
theorem dX3_init_12 : decode cX3_init 12 = .ok (.putfield 12, 3) := by decide +kernel
theorem dX3_init_15 : decode cX3_init 15 = .ok (.aload_n 0, 1) := by decide +kernel
theorem dX3_init_16 : decode cX3_init 16 = .ok (.new 16, 3) := by decide +kernel
theorem dX3_init_19 : decode cX3_init 19 = .ok (.dup, 1) := by decide +kernel
theorem dX3_init_20 : decode cX3_init 20 = .ok (.invokespecial 18, 3) := by decide +kernel
theorem dX3_init_23 : decode cX3_init 23 = .ok (.putfield 19, 3) := by decide +kernel
theorem dX3_init_26 : decode cX3_init 26 = .ok (.aload_n 0, 1) := by decide +kernel
theorem dX3_init_27 : decode cX3_init 27 = .ok (.new 23, 3) := by decide +kernel
theorem dX3_init_30 : decode cX3_init 30 = .ok (.dup, 1) := by decide +kernel
theorem dX3_init_31 : decode cX3_init 31 = .ok (.invokespecial 25, 3) := by decide +kernel
theorem dX3_init_34 : decode cX3_init 34 = .ok (.putfield 26, 3) := by decide +kernel
theorem dX3_init_37 : decode cX3_init 37 = .ok (.aload_n 0, 1) := by decide +kernel
theorem dX3_init_38 : decode cX3_init 38 = .ok (.getfield 12, 3) := by decide +kernel
theorem dX3_init_41 : decode cX3_init 41 = .ok (.iconst 5, 1) := by decide +kernel
theorem dX3_init_42 : decode cX3_init 42 = .ok (.iconst 5, 1) := by decide +kernel
theorem dX3_init_43 : decode cX3_init 43 = .ok (.iconst 2, 1) := by decide +kernel
theorem dX3_init_44 : decode cX3_init 44 = .ok (.iconst 0, 1) := by decide +kernel
theorem dX3_init_45 : decode cX3_init 45 = .ok (.iconst 0, 1) := by decide +kernel
theorem dX3_init_46 : decode cX3_init 46 = .ok (.invokevirtual 30, 3) := by decide +kernel
theorem dX3_init_49 : decode cX3_init 49 = .ok (.return_, 1) := by decide +kernel
set_option maxRecDepth 20000 in
theorem ggX3_begin_X3_isOutside : GoodIn wsX3_begin wsX3_isOutside := goodIn_r _ [7] (by decide +kernel) (by decide +kernel)
set_option maxRecDepth 20000 in
theorem gX3_begin_X3_isOutside : GoodIn wsX3_begin (va_wsS RX3 34 yX3_isOutside wsX3_isOutside) := goodIn_app (goodIn_of _ (by decide +kernel)) ggX3_begin_X3_isOutside
set_option maxRecDepth 20000 in
theorem ggX3_begin_X0_start : GoodIn wsX3_begin wsX0_start := goodIn_r _ [12, 13, 14, 15, 16, 17, 18, 19, 20, 21, 22, 23, 24, 25, 26, 27, 28, 29, 30, 11, 31, 32, 33, 34, 38, 39, 40, 41, 42, 43, 44, 45, 46, 47, 48, 49, 50] (by decide +kernel) (by decide +kernel)
set_option maxRecDepth 20000 in
theorem gX3_begin_X0_start : GoodIn wsX3_begin (wsV RX3 30 RX0 yX0_start wsX0_start) := goodIn_app (goodIn_of _ (by decide +kernel)) ggX3_begin_X0_start
theorem dX3_begin_0 : decode cX3_begin 0 = .ok (.iload_n 1, 1) := by decide +kernel
theorem dX3_begin_1 : decode cX3_begin 1 = .ok (.iconst 2, 1) := by decide +kernel
theorem dX3_begin_2 : decode cX3_begin 2 = .ok (.iconst 5, 1) := by decide +kernel
theorem dX3_begin_3 : decode cX3_begin 3 = .ok (.invokestatic 34, 3) := by decide +kernel
theorem dX3_begin_6 : decode cX3_begin 6 = .ok (.ifCond .ne 12, 3) := by decide +kernel
theorem dX3_begin_9 : decode cX3_begin 9 = .ok (.iload_n 2, 1) := by decide +kernel
theorem dX3_begin_10 : decode cX3_begin 10 = .ok (.iconst 2, 1) := by decide +kernel
theorem dX3_begin_11 : decode cX3_begin 11 = .ok (.iconst 5, 1) := by decide +kernel
theorem dX3_begin_12 : decode cX3_begin 12 = .ok (.invokestatic 34, 3) := by decide +kernel
theorem dX3_begin_15 : decode cX3_begin 15 = .ok (.ifCond .eq 13, 3) := by decide +kernel
theorem dX3_begin_18 : decode cX3_begin 18 = .ok (.new 38, 3) := by decide +kernel
theorem dX3_begin_21 : decode cX3_begin 21 = .ok (.dup, 1) := by decide +kernel
theorem dX3_begin_22 : decode cX3_begin 22 = .ok (.ldc 40, 2) := by decide +kernel
theorem dX3_begin_24 : decode cX3_begin 24 = .ok (.invokespecial 42, 3) := by decide +kernel
theorem dX3_begin_27 : decode cX3_begin 27 = .ok (.athrow, 1) := by decide +kernel
theorem dX3_begin_28 : decode cX3_begin 28 = .ok (.iload_n 3, 1) := by decide +kernel
theorem dX3_begin_29 : decode cX3_begin 29 = .ok (.iconst 1, 1) := by decide +kernel
theorem dX3_begin_30 : decode cX3_begin 30 = .ok (.iconst 2, 1) := by decide +kernel
theorem dX3_begin_31 : decode cX3_begin 31 = .ok (.invokestatic 34, 3) := by decide +kernel
theorem dX3_begin_34 : decode cX3_begin 34 = .ok (.ifCond .ne 12, 3) := by decide +kernel
theorem dX3_begin_37 : decode cX3_begin 37 = .ok (.iconst 2, 1) := by decide +kernel
theorem dX3_begin_38 : decode cX3_begin 38 = .ok (.iload_n 3, 1) := by decide +kernel
theorem dX3_begin_39 : decode cX3_begin 39 = .ok (.imul, 1) := by decide +kernel
theorem dX3_begin_40 : decode cX3_begin 40 = .ok (.iload_n 1, 1) := by decide +kernel
theorem dX3_begin_41 : decode cX3_begin 41 = .ok (.iload_n 2, 1) := by decide +kernel
theorem dX3_begin_42 : decode cX3_begin 42 = .ok (.imul, 1) := by decide +kernel
theorem dX3_begin_43 : decode cX3_begin 43 = .ok (.if_icmp .lt 13, 3) := by decide +kernel
theorem dX3_begin_46 : decode cX3_begin 46 = .ok (.new 38, 3) := by decide +kernel
theorem dX3_begin_49 : decode cX3_begin 49 = .ok (.dup, 1) := by decide +kernel
theorem dX3_begin_50 : decode cX3_begin 50 = .ok (.ldc 45, 2) := by decide +kernel
theorem dX3_begin_52 : decode cX3_begin 52 = .ok (.invokespecial 42, 3) := by decide +kernel
theorem dX3_begin_55 : decode cX3_begin 55 = .ok (.athrow, 1) := by decide +kernel
theorem dX3_begin_56 : decode cX3_begin 56 = .ok (.iload 4, 2) := by decide +kernel
theorem dX3_begin_58 : decode cX3_begin 58 = .ok (.iconst 0, 1) := by decide +kernel
theorem dX3_begin_59 : decode cX3_begin 59 = .ok (.bipush 6, 2) := by decide +kernel
theorem dX3_begin_61 : decode cX3_begin 61 = .ok (.invokestatic 34, 3) := by decide +kernel
theorem dX3_begin_64 : decode cX3_begin 64 = .ok (.ifCond .ne 14, 3) := by decide +kernel
theorem dX3_begin_67 : decode cX3_begin 67 = .ok (.iload 5, 2) := by decide +kernel
theorem dX3_begin_69 : decode cX3_begin 69 = .ok (.iconst 0, 1) := by decide +kernel
theorem dX3_begin_70 : decode cX3_begin 70 = .ok (.bipush 6, 2) := by decide +kernel
theorem dX3_begin_72 : decode cX3_begin 72 = .ok (.invokestatic 34, 3) := by decide +kernel
theorem dX3_begin_75 : decode cX3_begin 75 = .ok (.ifCond .eq 13, 3) := by decide +kernel
theorem dX3_begin_78 : decode cX3_begin 78 = .ok (.new 38, 3) := by decide +kernel
theorem dX3_begin_81 : decode cX3_begin 81 = .ok (.dup, 1) := by decide +kernel
theorem dX3_begin_82 : decode cX3_begin 82 = .ok (.ldc 47, 2) := by decide +kernel
theorem dX3_begin_84 : decode cX3_begin 84 = .ok (.invokespecial 42, 3) := by decide +kernel
theorem dX3_begin_87 : decode cX3_begin 87 = .ok (.athrow, 1) := by decide +kernel
theorem dX3_begin_88 : decode cX3_begin 88 = .ok (.aload_n 0, 1) := by decide +kernel
theorem dX3_begin_89 : decode cX3_begin 89 = .ok (.getfield 12, 3) := by decide +kernel
theorem dX3_begin_92 : decode cX3_begin 92 = .ok (.iload_n 1, 1) := by decide +kernel
theorem dX3_begin_93 : decode cX3_begin 93 = .ok (.iload_n 2, 1) := by decide +kernel
theorem dX3_begin_94 : decode cX3_begin 94 = .ok (.iload_n 3, 1) := by decide +kernel
theorem dX3_begin_95 : decode cX3_begin 95 = .ok (.iload 4, 2) := by decide +kernel
theorem dX3_begin_97 : decode cX3_begin 97 = .ok (.iload 5, 2) := by decide +kernel
theorem dX3_begin_99 : decode cX3_begin 99 = .ok (.invokevirtual 30, 3) := by decide +kernel
theorem dX3_begin_102 : decode cX3_begin 102 = .ok (.aload_n 0, 1) := by decide +kernel
theorem dX3_begin_103 : decode cX3_begin 103 = .ok (.getfield 12, 3) := by decide +kernel
theorem dX3_begin_106 : decode cX3_begin 106 = .ok (.getfield 49, 3) := by decide +kernel
theorem dX3_begin_109 : decode cX3_begin 109 = .ok (.ireturn, 1) := by decide +kernel
set_option maxRecDepth 20000 in
theorem ggX3_place_X3_requireCell : GoodIn wsX3_place wsX3_requireCell := goodIn_ca (goodIn_r _ [8, 9, 10, 3, 11, 12, 7, 13, 92, 93, 94, 95, 96, 97, 98, 99, 100, 101, 102, 103, 104, 105, 106, 107] (by decide +kernel) (by decide +kernel)) (goodIn_sub (fun _ h => List.mem_cons_of_mem _ (List.mem_append_right _ h)) (by decide +kernel))
set_option maxRecDepth 20000 in
theorem gX3_place_X3_requireCell : GoodIn wsX3_place (wsV RX3 53 RX3 yX3_requireCell wsX3_requireCell) := goodIn_app (goodIn_of _ (by decide +kernel)) ggX3_place_X3_requireCell
set_option maxRecDepth 20000 in
theorem ggX3_place_X0_isSet : GoodIn wsX3_place wsX0_isSet := goodIn_r _ [18, 19, 20, 95, 96, 97, 98, 99, 100, 101, 102, 103, 104, 105, 106, 107] (by decide +kernel) (by decide +kernel)
set_option maxRecDepth 20000 in
theorem gX3_place_X0_isSet : GoodIn wsX3_place (wsV RX3 57 RX0 yX0_isSet wsX0_isSet) := goodIn_app (goodIn_of _ (by decide +kernel)) ggX3_place_X0_isSet
set_option maxRecDepth 20000 in
theorem ggX3_place_X0_isOpen : GoodIn wsX3_place wsX0_isOpen := goodIn_r _ [24, 25, 26, 95, 96, 97, 98, 99, 100, 101, 102, 103, 104, 105, 106, 107] (by decide +kernel) (by decide +kernel)
set_option maxRecDepth 20000 in
theorem gX3_place_X0_isOpen : GoodIn wsX3_place (wsV RX3 61 RX0 yX0_isOpen wsX0_isOpen) := goodIn_app (goodIn_of _ (by decide +kernel)) ggX3_place_X0_isOpen
set_option maxRecDepth 20000 in
theorem ggX3_place_X0_addBuilder : GoodIn wsX3_place wsX0_addBuilder := goodIn_r _ [30, 19, 20, 31, 32, 33, 34, 17, 35, 25, 36, 37, 15, 16, 18, 38, 39, 40, 41, 42, 43, 44, 45, 46, 47, 48, 49, 50, 51, 52, 53, 54, 55, 56, 57, 58, 59, 26, 60, 61, 62, 63, 64, 65, 66, 67, 68, 22, 23, 24, 69, 70, 71, 72, 73, 74, 75, 76, 77, 78, 79, 80, 81, 82, 83, 84, 85, 86, 95, 96, 97, 98, 99, 100, 101, 102, 103, 104, 105, 106, 107] (by decide +kernel) (by decide +kernel)
set_option maxRecDepth 20000 in
theorem gX3_place_X0_addBuilder : GoodIn wsX3_place (wsV RX3 70 RX0 yX0_addBuilder wsX0_addBuilder) := goodIn_app (goodIn_of _ (by decide +kernel)) ggX3_place_X0_addBuilder
set_option maxRecDepth 20000 in
theorem ggX3_place_X0_mover : GoodIn wsX3_place wsX0_mover := goodIn_r _ [90, 31, 91, 19, 20, 37, 15, 16, 17, 18, 95, 96, 97, 98, 99, 100, 101, 102, 103, 104, 105, 106, 107] (by decide +kernel) (by decide +kernel)
set_option maxRecDepth 20000 in
theorem gX3_place_X0_mover : GoodIn wsX3_place (wsV RX3 73 RX0 yX0_mover wsX0_mover) := goodIn_app (goodIn_of _ (by decide +kernel)) ggX3_place_X0_mover
theorem dX3_place_0 : decode cX3_place 0 = .ok (.aload_n 0, 1) := by decide +kernel
theorem dX3_place_1 : decode cX3_place 1 = .ok (.iload_n 1, 1) := by decide +kernel
theorem dX3_place_2 : decode cX3_place 2 = .ok (.invokevirtual 53, 3) := by decide +kernel
theorem dX3_place_5 : decode cX3_place 5 = .ok (.aload_n 0, 1) := by decide +kernel
theorem dX3_place_6 : decode cX3_place 6 = .ok (.getfield 12, 3) := by decide +kernel
theorem dX3_place_9 : decode cX3_place 9 = .ok (.invokevirtual 57, 3) := by decide +kernel
theorem dX3_place_12 : decode cX3_place 12 = .ok (.ifCond .ne 14, 3) := by decide +kernel
theorem dX3_place_15 : decode cX3_place 15 = .ok (.aload_n 0, 1) := by decide +kernel
theorem dX3_place_16 : decode cX3_place 16 = .ok (.getfield 12, 3) := by decide +kernel
theorem dX3_place_19 : decode cX3_place 19 = .ok (.iload_n 1, 1) := by decide +kernel
theorem dX3_place_20 : decode cX3_place 20 = .ok (.invokevirtual 61, 3) := by decide +kernel
theorem dX3_place_23 : decode cX3_place 23 = .ok (.ifCond .ne 13, 3) := by decide +kernel
theorem dX3_place_26 : decode cX3_place 26 = .ok (.new 65, 3) := by decide +kernel
theorem dX3_place_29 : decode cX3_place 29 = .ok (.dup, 1) := by decide +kernel
theorem dX3_place_30 : decode cX3_place 30 = .ok (.ldc 67, 2) := by decide +kernel
theorem dX3_place_32 : decode cX3_place 32 = .ok (.invokespecial 69, 3) := by decide +kernel
theorem dX3_place_35 : decode cX3_place 35 = .ok (.athrow, 1) := by decide +kernel
theorem dX3_place_36 : decode cX3_place 36 = .ok (.aload_n 0, 1) := by decide +kernel
theorem dX3_place_37 : decode cX3_place 37 = .ok (.getfield 12, 3) := by decide +kernel
theorem dX3_place_40 : decode cX3_place 40 = .ok (.iload_n 1, 1) := by decide +kernel
theorem dX3_place_41 : decode cX3_place 41 = .ok (.invokevirtual 70, 3) := by decide +kernel
theorem dX3_place_44 : decode cX3_place 44 = .ok (.aload_n 0, 1) := by decide +kernel
theorem dX3_place_45 : decode cX3_place 45 = .ok (.getfield 12, 3) := by decide +kernel
theorem dX3_place_48 : decode cX3_place 48 = .ok (.invokevirtual 73, 3) := by decide +kernel
theorem dX3_place_51 : decode cX3_place 51 = .ok (.ireturn, 1) := by decide +kernel
set_option maxRecDepth 20000 in
theorem ggX3_raise_X3_requireCell : GoodIn wsX3_raise wsX3_requireCell := goodIn_ca (goodIn_r _ [10, 11, 12, 5, 13, 14, 9, 15, 37, 38, 39, 40, 41, 42, 43, 44, 45, 46, 47, 48, 49, 50, 51, 52] (by decide +kernel) (by decide +kernel)) (goodIn_sub (fun _ h => List.mem_cons_of_mem _ (List.mem_append_right _ h)) (by decide +kernel))
set_option maxRecDepth 20000 in
theorem gX3_raise_X3_requireCell : GoodIn wsX3_raise (wsV RX3 53 RX3 yX3_requireCell wsX3_requireCell) := goodIn_app (goodIn_of _ (by decide +kernel)) ggX3_raise_X3_requireCell
set_option maxRecDepth 20000 in
theorem ggX3_raise_X3_isOutside : GoodIn wsX3_raise wsX3_isOutside := goodIn_r _ [15] (by decide +kernel) (by decide +kernel)
set_option maxRecDepth 20000 in
theorem gX3_raise_X3_isOutside : GoodIn wsX3_raise (va_wsS RX3 34 yX3_isOutside wsX3_isOutside) := goodIn_app (goodIn_of _ (by decide +kernel)) ggX3_raise_X3_isOutside
set_option maxRecDepth 20000 in
theorem ggX3_raise_X0_isSet : GoodIn wsX3_raise wsX0_isSet := goodIn_r _ [20, 21, 22, 40, 41, 42, 43, 44, 45, 46, 47, 48, 49, 50, 51, 52] (by decide +kernel) (by decide +kernel)
set_option maxRecDepth 20000 in
theorem gX3_raise_X0_isSet : GoodIn wsX3_raise (wsV RX3 57 RX0 yX0_isSet wsX0_isSet) := goodIn_app (goodIn_of _ (by decide +kernel)) ggX3_raise_X0_isSet
set_option maxRecDepth 20000 in
theorem ggX3_raise_X0_holderOf : GoodIn wsX3_raise wsX0_holderOf := goodIn_r _ [26, 27, 40, 41, 42, 43, 44, 45, 46, 47, 48, 49, 50, 51, 52] (by decide +kernel) (by decide +kernel)
set_option maxRecDepth 20000 in
theorem gX3_raise_X0_holderOf : GoodIn wsX3_raise (wsV RX3 79 RX0 yX0_holderOf wsX0_holderOf) := goodIn_app (goodIn_of _ (by decide +kernel)) ggX3_raise_X0_holderOf
set_option maxRecDepth 20000 in
theorem ggX3_raise_X0_storeysOf : GoodIn wsX3_raise wsX0_storeysOf := goodIn_r _ [31, 32, 40, 41, 42, 43, 44, 45, 46, 47, 48, 49, 50, 51, 52] (by decide +kernel) (by decide +kernel)
set_option maxRecDepth 20000 in
theorem gX3_raise_X0_storeysOf : GoodIn wsX3_raise (wsV RX3 85 RX0 yX0_storeysOf wsX0_storeysOf) := goodIn_app (goodIn_of _ (by decide +kernel)) ggX3_raise_X0_storeysOf
set_option maxRecDepth 20000 in
theorem ggX3_raise_X0_setStoreys : GoodIn wsX3_raise wsX0_setStoreys := goodIn_r _ [36, 32, 40, 41, 42, 43, 44, 45, 46, 47, 48, 49, 50, 51, 52] (by decide +kernel) (by decide +kernel)
set_option maxRecDepth 20000 in
theorem gX3_raise_X0_setStoreys : GoodIn wsX3_raise (wsV RX3 88 RX0 yX0_setStoreys wsX0_setStoreys) := goodIn_app (goodIn_of _ (by decide +kernel)) ggX3_raise_X0_setStoreys
theorem dX3_raise_0 : decode cX3_raise 0 = .ok (.aload_n 0, 1) := by decide +kernel
theorem dX3_raise_1 : decode cX3_raise 1 = .ok (.iload_n 1, 1) := by decide +kernel
theorem dX3_raise_2 : decode cX3_raise 2 = .ok (.invokevirtual 53, 3) := by decide +kernel
theorem dX3_raise_5 : decode cX3_raise 5 = .ok (.iload_n 2, 1) := by decide +kernel
theorem dX3_raise_6 : decode cX3_raise 6 = .ok (.iconst 0, 1) := by decide +kernel
theorem dX3_raise_7 : decode cX3_raise 7 = .ok (.iconst 4, 1) := by decide +kernel
theorem dX3_raise_8 : decode cX3_raise 8 = .ok (.invokestatic 34, 3) := by decide +kernel
theorem dX3_raise_11 : decode cX3_raise 11 = .ok (.ifCond .eq 13, 3) := by decide +kernel
theorem dX3_raise_14 : decode cX3_raise 14 = .ok (.new 38, 3) := by decide +kernel
theorem dX3_raise_17 : decode cX3_raise 17 = .ok (.dup, 1) := by decide +kernel
theorem dX3_raise_18 : decode cX3_raise 18 = .ok (.ldc 77, 2) := by decide +kernel
theorem dX3_raise_20 : decode cX3_raise 20 = .ok (.invokespecial 42, 3) := by decide +kernel
theorem dX3_raise_23 : decode cX3_raise 23 = .ok (.athrow, 1) := by decide +kernel
theorem dX3_raise_24 : decode cX3_raise 24 = .ok (.aload_n 0, 1) := by decide +kernel
theorem dX3_raise_25 : decode cX3_raise 25 = .ok (.getfield 12, 3) := by decide +kernel
theorem dX3_raise_28 : decode cX3_raise 28 = .ok (.invokevirtual 57, 3) := by decide +kernel
theorem dX3_raise_31 : decode cX3_raise 31 = .ok (.ifCond .ne 15, 3) := by decide +kernel
theorem dX3_raise_34 : decode cX3_raise 34 = .ok (.aload_n 0, 1) := by decide +kernel
theorem dX3_raise_35 : decode cX3_raise 35 = .ok (.getfield 12, 3) := by decide +kernel
theorem dX3_raise_38 : decode cX3_raise 38 = .ok (.iload_n 1, 1) := by decide +kernel
theorem dX3_raise_39 : decode cX3_raise 39 = .ok (.invokevirtual 79, 3) := by decide +kernel
theorem dX3_raise_42 : decode cX3_raise 42 = .ok (.iconst (-1), 1) := by decide +kernel
theorem dX3_raise_43 : decode cX3_raise 43 = .ok (.if_icmp .eq 13, 3) := by decide +kernel
theorem dX3_raise_46 : decode cX3_raise 46 = .ok (.new 65, 3) := by decide +kernel
theorem dX3_raise_49 : decode cX3_raise 49 = .ok (.dup, 1) := by decide +kernel
theorem dX3_raise_50 : decode cX3_raise 50 = .ok (.ldc 83, 2) := by decide +kernel
theorem dX3_raise_52 : decode cX3_raise 52 = .ok (.invokespecial 69, 3) := by decide +kernel
theorem dX3_raise_55 : decode cX3_raise 55 = .ok (.athrow, 1) := by decide +kernel
theorem dX3_raise_56 : decode cX3_raise 56 = .ok (.aload_n 0, 1) := by decide +kernel
theorem dX3_raise_57 : decode cX3_raise 57 = .ok (.getfield 12, 3) := by decide +kernel
theorem dX3_raise_60 : decode cX3_raise 60 = .ok (.iload_n 1, 1) := by decide +kernel
theorem dX3_raise_61 : decode cX3_raise 61 = .ok (.invokevirtual 85, 3) := by decide +kernel
theorem dX3_raise_64 : decode cX3_raise 64 = .ok (.istore_n 3, 1) := by decide +kernel
theorem dX3_raise_65 : decode cX3_raise 65 = .ok (.aload_n 0, 1) := by decide +kernel
theorem dX3_raise_66 : decode cX3_raise 66 = .ok (.getfield 12, 3) := by decide +kernel
theorem dX3_raise_69 : decode cX3_raise 69 = .ok (.iload_n 1, 1) := by decide +kernel
theorem dX3_raise_70 : decode cX3_raise 70 = .ok (.iload_n 2, 1) := by decide +kernel
theorem dX3_raise_71 : decode cX3_raise 71 = .ok (.invokevirtual 88, 3) := by decide +kernel
theorem dX3_raise_74 : decode cX3_raise 74 = .ok (.iload_n 3, 1) := by decide +kernel
theorem dX3_raise_75 : decode cX3_raise 75 = .ok (.ireturn, 1) := by decide +kernel
set_option maxRecDepth 20000 in
theorem ggX3_onTurn_X0_mover : GoodIn wsX3_onTurn wsX0_mover := goodIn_r _ [6, 7, 8, 9, 10, 11, 12, 13, 5, 14, 18, 19, 20, 21, 22, 23, 24, 25, 26, 27, 28, 29, 30] (by decide +kernel) (by decide +kernel)
set_option maxRecDepth 20000 in
theorem gX3_onTurn_X0_mover : GoodIn wsX3_onTurn (wsV RX3 73 RX0 yX0_mover wsX0_mover) := goodIn_app (goodIn_of _ (by decide +kernel)) ggX3_onTurn_X0_mover
theorem dX3_onTurn_0 : decode cX3_onTurn 0 = .ok (.aload_n 0, 1) := by decide +kernel
theorem dX3_onTurn_1 : decode cX3_onTurn 1 = .ok (.getfield 12, 3) := by decide +kernel
theorem dX3_onTurn_4 : decode cX3_onTurn 4 = .ok (.invokevirtual 73, 3) := by decide +kernel
theorem dX3_onTurn_7 : decode cX3_onTurn 7 = .ok (.ireturn, 1) := by decide +kernel
theorem dX3_winner_0 : decode cX3_winner 0 = .ok (.aload_n 0, 1) := by decide +kernel
theorem dX3_winner_1 : decode cX3_winner 1 = .ok (.getfield 12, 3) := by decide +kernel
theorem dX3_winner_4 : decode cX3_winner 4 = .ok (.getfield 92, 3) := by decide +kernel
theorem dX3_winner_7 : decode cX3_winner 7 = .ok (.ireturn, 1) := by decide +kernel
set_option maxRecDepth 20000 in
theorem ggX3_height_X3_requireCell : GoodIn wsX3_height wsX3_requireCell := goodIn_ca (goodIn_r _ [6, 7, 8, 1, 9, 10, 5, 11, 18, 19, 20, 21, 22, 23, 24, 25, 26, 27, 28, 29, 30, 31, 32, 33] (by decide +kernel) (by decide +kernel)) (goodIn_sub (fun _ h => List.mem_cons_of_mem _ (List.mem_append_right _ h)) (by decide +kernel))
set_option maxRecDepth 20000 in
theorem gX3_height_X3_requireCell : GoodIn wsX3_height (wsV RX3 53 RX3 yX3_requireCell wsX3_requireCell) := goodIn_app (goodIn_of _ (by decide +kernel)) ggX3_height_X3_requireCell
set_option maxRecDepth 20000 in
theorem ggX3_height_X0_storeysOf : GoodIn wsX3_height wsX0_storeysOf := goodIn_r _ [16, 17, 21, 22, 23, 24, 25, 26, 27, 28, 29, 30, 31, 32, 33] (by decide +kernel) (by decide +kernel)
set_option maxRecDepth 20000 in
theorem gX3_height_X0_storeysOf : GoodIn wsX3_height (wsV RX3 85 RX0 yX0_storeysOf wsX0_storeysOf) := goodIn_app (goodIn_of _ (by decide +kernel)) ggX3_height_X0_storeysOf
theorem dX3_height_0 : decode cX3_height 0 = .ok (.aload_n 0, 1) := by decide +kernel
theorem dX3_height_1 : decode cX3_height 1 = .ok (.iload_n 1, 1) := by decide +kernel
theorem dX3_height_2 : decode cX3_height 2 = .ok (.invokevirtual 53, 3) := by decide +kernel
theorem dX3_height_5 : decode cX3_height 5 = .ok (.aload_n 0, 1) := by decide +kernel
theorem dX3_height_6 : decode cX3_height 6 = .ok (.getfield 12, 3) := by decide +kernel
theorem dX3_height_9 : decode cX3_height 9 = .ok (.iload_n 1, 1) := by decide +kernel
theorem dX3_height_10 : decode cX3_height 10 = .ok (.invokevirtual 85, 3) := by decide +kernel
theorem dX3_height_13 : decode cX3_height 13 = .ok (.ireturn, 1) := by decide +kernel
set_option maxRecDepth 20000 in
theorem ggX3_builderAt_X3_requireCell : GoodIn wsX3_builderAt wsX3_requireCell := goodIn_ca (goodIn_r _ [6, 7, 8, 1, 9, 10, 5, 11, 18, 19, 20, 21, 22, 23, 24, 25, 26, 27, 28, 29, 30, 31, 32, 33] (by decide +kernel) (by decide +kernel)) (goodIn_sub (fun _ h => List.mem_cons_of_mem _ (List.mem_append_right _ h)) (by decide +kernel))
set_option maxRecDepth 20000 in
theorem gX3_builderAt_X3_requireCell : GoodIn wsX3_builderAt (wsV RX3 53 RX3 yX3_requireCell wsX3_requireCell) := goodIn_app (goodIn_of _ (by decide +kernel)) ggX3_builderAt_X3_requireCell
set_option maxRecDepth 20000 in
theorem ggX3_builderAt_X0_holderOf : GoodIn wsX3_builderAt wsX0_holderOf := goodIn_r _ [16, 17, 21, 22, 23, 24, 25, 26, 27, 28, 29, 30, 31, 32, 33] (by decide +kernel) (by decide +kernel)
set_option maxRecDepth 20000 in
theorem gX3_builderAt_X0_holderOf : GoodIn wsX3_builderAt (wsV RX3 79 RX0 yX0_holderOf wsX0_holderOf) := goodIn_app (goodIn_of _ (by decide +kernel)) ggX3_builderAt_X0_holderOf
theorem dX3_builderAt_0 : decode cX3_builderAt 0 = .ok (.aload_n 0, 1) := by decide +kernel
theorem dX3_builderAt_1 : decode cX3_builderAt 1 = .ok (.iload_n 1, 1) := by decide +kernel
theorem dX3_builderAt_2 : decode cX3_builderAt 2 = .ok (.invokevirtual 53, 3) := by decide +kernel
theorem dX3_builderAt_5 : decode cX3_builderAt 5 = .ok (.aload_n 0, 1) := by decide +kernel
theorem dX3_builderAt_6 : decode cX3_builderAt 6 = .ok (.getfield 12, 3) := by decide +kernel
theorem dX3_builderAt_9 : decode cX3_builderAt 9 = .ok (.iload_n 1, 1) := by decide +kernel
theorem dX3_builderAt_10 : decode cX3_builderAt 10 = .ok (.invokevirtual 79, 3) := by decide +kernel
theorem dX3_builderAt_13 : decode cX3_builderAt 13 = .ok (.ireturn, 1) := by decide +kernel
theorem dX3_played_0 : decode cX3_played 0 = .ok (.aload_n 0, 1) := by decide +kernel
theorem dX3_played_1 : decode cX3_played 1 = .ok (.getfield 12, 3) := by decide +kernel
theorem dX3_played_4 : decode cX3_played 4 = .ok (.getfield 95, 3) := by decide +kernel
theorem dX3_played_7 : decode cX3_played 7 = .ok (.ireturn, 1) := by decide +kernel
set_option maxRecDepth 20000 in
theorem ggX3_turnCount_X3_requireAllPlaced : GoodIn wsX3_turnCount wsX3_requireAllPlaced := goodIn_ca (goodIn_r _ [7, 8, 9, 1, 10, 11, 12, 13, 14, 15, 16, 90, 91, 92, 95, 96, 97, 98, 99, 100, 101, 102, 103, 104, 105, 106, 107] (by decide +kernel) (by decide +kernel)) (goodIn_sub (fun _ h => List.mem_cons_of_mem _ (List.mem_append_right _ h)) (by decide +kernel))
set_option maxRecDepth 20000 in
theorem gX3_turnCount_X3_requireAllPlaced : GoodIn wsX3_turnCount (wsV RX3 98 RX3 yX3_requireAllPlaced wsX3_requireAllPlaced) := goodIn_app (goodIn_of _ (by decide +kernel)) ggX3_turnCount_X3_requireAllPlaced
set_option maxRecDepth 20000 in
theorem ggX3_turnCount_X0_listTurns : GoodIn wsX3_turnCount wsX0_listTurns := goodIn_r _ [20, 21, 22, 16, 23, 24, 25, 26, 27, 28, 29, 30, 31, 32, 13, 33, 34, 35, 36, 37, 38, 39, 40, 41, 42, 43, 44, 45, 46, 47, 48, 49, 50, 51, 52, 53, 54, 55, 56, 57, 58, 59, 60, 61, 62, 63, 64, 65, 66, 67, 68, 69, 70, 71, 72, 73, 74, 75, 76, 77, 78, 79, 80, 81, 82, 83, 84, 85, 86, 87, 88, 89, 95, 96, 97, 98, 99, 100, 101, 102, 103, 104, 105, 106, 107, 93, 94] (by decide +kernel) (by decide +kernel)
set_option maxRecDepth 20000 in
theorem gX3_turnCount_X0_listTurns : GoodIn wsX3_turnCount (wsV RX3 101 RX0 yX0_listTurns wsX0_listTurns) := goodIn_app (goodIn_of _ (by decide +kernel)) ggX3_turnCount_X0_listTurns
theorem dX3_turnCount_0 : decode cX3_turnCount 0 = .ok (.aload_n 0, 1) := by decide +kernel
theorem dX3_turnCount_1 : decode cX3_turnCount 1 = .ok (.invokevirtual 98, 3) := by decide +kernel
theorem dX3_turnCount_4 : decode cX3_turnCount 4 = .ok (.aload_n 0, 1) := by decide +kernel
theorem dX3_turnCount_5 : decode cX3_turnCount 5 = .ok (.getfield 12, 3) := by decide +kernel
theorem dX3_turnCount_8 : decode cX3_turnCount 8 = .ok (.aload_n 0, 1) := by decide +kernel
theorem dX3_turnCount_9 : decode cX3_turnCount 9 = .ok (.getfield 19, 3) := by decide +kernel
theorem dX3_turnCount_12 : decode cX3_turnCount 12 = .ok (.invokevirtual 101, 3) := by decide +kernel
theorem dX3_turnCount_15 : decode cX3_turnCount 15 = .ok (.aload_n 0, 1) := by decide +kernel
theorem dX3_turnCount_16 : decode cX3_turnCount 16 = .ok (.getfield 19, 3) := by decide +kernel
theorem dX3_turnCount_19 : decode cX3_turnCount 19 = .ok (.getfield 105, 3) := by decide +kernel
theorem dX3_turnCount_22 : decode cX3_turnCount 22 = .ok (.ireturn, 1) := by decide +kernel
set_option maxRecDepth 20000 in
theorem ggX3_turnAt_X3_requireAllPlaced : GoodIn wsX3_turnAt wsX3_requireAllPlaced := goodIn_ca (goodIn_r _ [9, 10, 11, 3, 12, 13, 14, 15, 16, 17, 18, 99, 100, 101, 104, 105, 106, 107, 108, 109, 110, 111, 112, 113, 114, 115, 116] (by decide +kernel) (by decide +kernel)) (goodIn_sub (fun _ h => List.mem_cons_of_mem _ (List.mem_append_right _ h)) (by decide +kernel))
set_option maxRecDepth 20000 in
theorem gX3_turnAt_X3_requireAllPlaced : GoodIn wsX3_turnAt (wsV RX3 98 RX3 yX3_requireAllPlaced wsX3_requireAllPlaced) := goodIn_app (goodIn_of _ (by decide +kernel)) ggX3_turnAt_X3_requireAllPlaced
set_option maxRecDepth 20000 in
theorem ggX3_turnAt_X0_listTurns : GoodIn wsX3_turnAt wsX0_listTurns := goodIn_r _ [22, 23, 24, 18, 25, 26, 27, 28, 29, 30, 31, 32, 33, 34, 15, 35, 36, 37, 38, 39, 40, 41, 42, 43, 44, 45, 46, 47, 48, 49, 50, 51, 52, 53, 54, 55, 56, 57, 58, 59, 60, 61, 62, 63, 64, 65, 66, 67, 68, 69, 70, 71, 72, 73, 74, 75, 76, 77, 78, 79, 80, 81, 82, 83, 84, 85, 86, 87, 88, 89, 90, 91, 104, 105, 106, 107, 108, 109, 110, 111, 112, 113, 114, 115, 116, 102, 103] (by decide +kernel) (by decide +kernel)
set_option maxRecDepth 20000 in
theorem gX3_turnAt_X0_listTurns : GoodIn wsX3_turnAt (wsV RX3 101 RX0 yX0_listTurns wsX0_listTurns) := goodIn_app (goodIn_of _ (by decide +kernel)) ggX3_turnAt_X0_listTurns
set_option maxRecDepth 20000 in
theorem ggX3_turnAt_X3_isOutside : GoodIn wsX3_turnAt wsX3_isOutside := goodIn_r _ [94] (by decide +kernel) (by decide +kernel)
set_option maxRecDepth 20000 in
theorem gX3_turnAt_X3_isOutside : GoodIn wsX3_turnAt (va_wsS RX3 34 yX3_isOutside wsX3_isOutside) := goodIn_app (goodIn_of _ (by decide +kernel)) ggX3_turnAt_X3_isOutside
set_option maxRecDepth 20000 in
theorem ggX3_turnAt_X2_at : GoodIn wsX3_turnAt wsX2_at := goodIn_r _ [98, 91, 102, 103] (by decide +kernel) (by decide +kernel)
set_option maxRecDepth 20000 in
theorem gX3_turnAt_X2_at : GoodIn wsX3_turnAt (wsV RX3 113 RX2 yX2_at wsX2_at) := goodIn_app (goodIn_of _ (by decide +kernel)) ggX3_turnAt_X2_at
theorem dX3_turnAt_0 : decode cX3_turnAt 0 = .ok (.aload_n 0, 1) := by decide +kernel
theorem dX3_turnAt_1 : decode cX3_turnAt 1 = .ok (.invokevirtual 98, 3) := by decide +kernel
theorem dX3_turnAt_4 : decode cX3_turnAt 4 = .ok (.aload_n 0, 1) := by decide +kernel
theorem dX3_turnAt_5 : decode cX3_turnAt 5 = .ok (.getfield 12, 3) := by decide +kernel
theorem dX3_turnAt_8 : decode cX3_turnAt 8 = .ok (.aload_n 0, 1) := by decide +kernel
theorem dX3_turnAt_9 : decode cX3_turnAt 9 = .ok (.getfield 19, 3) := by decide +kernel
theorem dX3_turnAt_12 : decode cX3_turnAt 12 = .ok (.invokevirtual 101, 3) := by decide +kernel
theorem dX3_turnAt_15 : decode cX3_turnAt 15 = .ok (.iload_n 1, 1) := by decide +kernel
theorem dX3_turnAt_16 : decode cX3_turnAt 16 = .ok (.iconst 0, 1) := by decide +kernel
theorem dX3_turnAt_17 : decode cX3_turnAt 17 = .ok (.aload_n 0, 1) := by decide +kernel
theorem dX3_turnAt_18 : decode cX3_turnAt 18 = .ok (.getfield 19, 3) := by decide +kernel
theorem dX3_turnAt_21 : decode cX3_turnAt 21 = .ok (.getfield 105, 3) := by decide +kernel
theorem dX3_turnAt_24 : decode cX3_turnAt 24 = .ok (.iconst 1, 1) := by decide +kernel
theorem dX3_turnAt_25 : decode cX3_turnAt 25 = .ok (.isub, 1) := by decide +kernel
theorem dX3_turnAt_26 : decode cX3_turnAt 26 = .ok (.invokestatic 34, 3) := by decide +kernel
theorem dX3_turnAt_29 : decode cX3_turnAt 29 = .ok (.ifCond .eq 13, 3) := by decide +kernel
theorem dX3_turnAt_32 : decode cX3_turnAt 32 = .ok (.new 108, 3) := by decide +kernel
theorem dX3_turnAt_35 : decode cX3_turnAt 35 = .ok (.dup, 1) := by decide +kernel
theorem dX3_turnAt_36 : decode cX3_turnAt 36 = .ok (.ldc 110, 2) := by decide +kernel
theorem dX3_turnAt_38 : decode cX3_turnAt 38 = .ok (.invokespecial 112, 3) := by decide +kernel
theorem dX3_turnAt_41 : decode cX3_turnAt 41 = .ok (.athrow, 1) := by decide +kernel
theorem dX3_turnAt_42 : decode cX3_turnAt 42 = .ok (.aload_n 0, 1) := by decide +kernel
theorem dX3_turnAt_43 : decode cX3_turnAt 43 = .ok (.getfield 19, 3) := by decide +kernel
theorem dX3_turnAt_46 : decode cX3_turnAt 46 = .ok (.iload_n 1, 1) := by decide +kernel
theorem dX3_turnAt_47 : decode cX3_turnAt 47 = .ok (.invokevirtual 113, 3) := by decide +kernel
theorem dX3_turnAt_50 : decode cX3_turnAt 50 = .ok (.ireturn, 1) := by decide +kernel
set_option maxRecDepth 20000 in
theorem ggX3_play_X3_requireAllPlaced : GoodIn wsX3_play wsX3_requireAllPlaced := goodIn_ca (goodIn_r _ [9, 1, 2, 3, 10, 11, 12, 13, 14, 15, 16, 137, 138, 139, 140, 141, 142, 143, 144, 145, 146, 147, 148, 149, 150, 151, 152] (by decide +kernel) (by decide +kernel)) (goodIn_sub (fun _ h => List.mem_cons_of_mem _ (List.mem_append_right _ h)) (by decide +kernel))
set_option maxRecDepth 20000 in
theorem gX3_play_X3_requireAllPlaced : GoodIn wsX3_play (wsV RX3 98 RX3 yX3_requireAllPlaced wsX3_requireAllPlaced) := goodIn_app (goodIn_of _ (by decide +kernel)) ggX3_play_X3_requireAllPlaced
set_option maxRecDepth 20000 in
theorem ggX3_play_X0_listTurns : GoodIn wsX3_play wsX0_listTurns := goodIn_r _ [20, 21, 22, 16, 23, 24, 25, 26, 27, 28, 29, 30, 31, 32, 13, 33, 34, 35, 36, 37, 38, 39, 40, 41, 42, 43, 44, 45, 46, 47, 48, 49, 50, 51, 52, 53, 54, 55, 56, 57, 58, 59, 60, 61, 62, 63, 64, 65, 66, 67, 68, 69, 70, 71, 72, 73, 74, 75, 76, 77, 78, 79, 80, 81, 82, 83, 84, 85, 86, 87, 88, 89, 140, 141, 142, 143, 144, 145, 146, 147, 148, 149, 150, 151, 152, 153, 154] (by decide +kernel) (by decide +kernel)
set_option maxRecDepth 20000 in
theorem gX3_play_X0_listTurns : GoodIn wsX3_play (wsV RX3 101 RX0 yX0_listTurns wsX0_listTurns) := goodIn_app (goodIn_of _ (by decide +kernel)) ggX3_play_X0_listTurns
set_option maxRecDepth 20000 in
theorem ggX3_play_X2_holds : GoodIn wsX3_play wsX2_holds := goodIn_r _ [93, 29, 94, 95, 96, 27, 97, 89, 153, 154] (by decide +kernel) (by decide +kernel)
set_option maxRecDepth 20000 in
theorem gX3_play_X2_holds : GoodIn wsX3_play (wsV RX3 116 RX2 yX2_holds wsX2_holds) := goodIn_app (goodIn_of _ (by decide +kernel)) ggX3_play_X2_holds
set_option maxRecDepth 20000 in
theorem ggX3_play_X0_perform : GoodIn wsX3_play wsX0_perform := goodIn_r _ [101, 22, 43, 21, 30, 31, 32, 13, 33, 34, 102, 103, 104, 77, 78, 79, 80, 58, 59, 60, 61, 62, 67, 68, 69, 70, 71, 72, 105, 106, 107, 108, 109, 110, 111, 112, 49, 50, 51, 52, 53, 113, 114, 115, 116, 117, 118, 119, 120, 121, 122, 123, 124, 125, 126, 127, 128, 129, 130, 131, 132, 16, 39, 40, 41, 42, 44, 45, 46, 47, 48, 54, 55, 56, 57, 63, 64, 65, 66, 133, 134, 135, 136, 81, 82, 83, 84, 140, 141, 142, 143, 144, 145, 146, 147, 148, 149, 150, 151, 152] (by decide +kernel) (by decide +kernel)
set_option maxRecDepth 20000 in
theorem gX3_play_X0_perform : GoodIn wsX3_play (wsV RX3 121 RX0 yX0_perform wsX0_perform) := goodIn_app (goodIn_of _ (by decide +kernel)) ggX3_play_X0_perform
theorem dX3_play_0 : decode cX3_play 0 = .ok (.aload_n 0, 1) := by decide +kernel
theorem dX3_play_1 : decode cX3_play 1 = .ok (.invokevirtual 98, 3) := by decide +kernel
theorem dX3_play_4 : decode cX3_play 4 = .ok (.aload_n 0, 1) := by decide +kernel
theorem dX3_play_5 : decode cX3_play 5 = .ok (.getfield 12, 3) := by decide +kernel
theorem dX3_play_8 : decode cX3_play 8 = .ok (.aload_n 0, 1) := by decide +kernel
theorem dX3_play_9 : decode cX3_play 9 = .ok (.getfield 19, 3) := by decide +kernel
theorem dX3_play_12 : decode cX3_play 12 = .ok (.invokevirtual 101, 3) := by decide +kernel
theorem dX3_play_15 : decode cX3_play 15 = .ok (.aload_n 0, 1) := by decide +kernel
theorem dX3_play_16 : decode cX3_play 16 = .ok (.getfield 19, 3) := by decide +kernel
theorem dX3_play_19 : decode cX3_play 19 = .ok (.iload_n 1, 1) := by decide +kernel
theorem dX3_play_20 : decode cX3_play 20 = .ok (.invokevirtual 116, 3) := by decide +kernel
theorem dX3_play_23 : decode cX3_play 23 = .ok (.ifCond .ne 13, 3) := by decide +kernel
theorem dX3_play_26 : decode cX3_play 26 = .ok (.new 65, 3) := by decide +kernel
theorem dX3_play_29 : decode cX3_play 29 = .ok (.dup, 1) := by decide +kernel
theorem dX3_play_30 : decode cX3_play 30 = .ok (.ldc 119, 2) := by decide +kernel
theorem dX3_play_32 : decode cX3_play 32 = .ok (.invokespecial 69, 3) := by decide +kernel
theorem dX3_play_35 : decode cX3_play 35 = .ok (.athrow, 1) := by decide +kernel
theorem dX3_play_36 : decode cX3_play 36 = .ok (.aload_n 0, 1) := by decide +kernel
theorem dX3_play_37 : decode cX3_play 37 = .ok (.getfield 12, 3) := by decide +kernel
theorem dX3_play_40 : decode cX3_play 40 = .ok (.iload_n 1, 1) := by decide +kernel
theorem dX3_play_41 : decode cX3_play 41 = .ok (.invokevirtual 121, 3) := by decide +kernel
theorem dX3_play_44 : decode cX3_play 44 = .ok (.aload_n 0, 1) := by decide +kernel
theorem dX3_play_45 : decode cX3_play 45 = .ok (.getfield 12, 3) := by decide +kernel
theorem dX3_play_48 : decode cX3_play 48 = .ok (.getfield 92, 3) := by decide +kernel
theorem dX3_play_51 : decode cX3_play 51 = .ok (.ireturn, 1) := by decide +kernel
set_option maxRecDepth 20000 in
theorem ggX3_takeBack_X0_undo : GoodIn wsX3_takeBack wsX0_undo := goodIn_r _ [8, 9, 10, 11, 12, 13, 14, 7, 15, 16, 17, 18, 19, 20, 21, 22, 23, 24, 25, 26, 27, 28, 29, 30, 31, 32, 33, 34, 35, 36, 37, 38, 39, 40, 41, 45, 46, 47, 48, 49, 50, 51, 52, 53, 54, 55, 56, 57] (by decide +kernel) (by decide +kernel)
set_option maxRecDepth 20000 in
theorem gX3_takeBack_X0_undo : GoodIn wsX3_takeBack (wsV RX3 126 RX0 yX0_undo wsX0_undo) := goodIn_app (goodIn_of _ (by decide +kernel)) ggX3_takeBack_X0_undo
theorem dX3_takeBack_0 : decode cX3_takeBack 0 = .ok (.aload_n 0, 1) := by decide +kernel
theorem dX3_takeBack_1 : decode cX3_takeBack 1 = .ok (.getfield 12, 3) := by decide +kernel
theorem dX3_takeBack_4 : decode cX3_takeBack 4 = .ok (.getfield 95, 3) := by decide +kernel
theorem dX3_takeBack_7 : decode cX3_takeBack 7 = .ok (.ifCond .ne 13, 3) := by decide +kernel
theorem dX3_takeBack_10 : decode cX3_takeBack 10 = .ok (.new 65, 3) := by decide +kernel
theorem dX3_takeBack_13 : decode cX3_takeBack 13 = .ok (.dup, 1) := by decide +kernel
theorem dX3_takeBack_14 : decode cX3_takeBack 14 = .ok (.ldc 124, 2) := by decide +kernel
theorem dX3_takeBack_16 : decode cX3_takeBack 16 = .ok (.invokespecial 69, 3) := by decide +kernel
theorem dX3_takeBack_19 : decode cX3_takeBack 19 = .ok (.athrow, 1) := by decide +kernel
theorem dX3_takeBack_20 : decode cX3_takeBack 20 = .ok (.aload_n 0, 1) := by decide +kernel
theorem dX3_takeBack_21 : decode cX3_takeBack 21 = .ok (.getfield 12, 3) := by decide +kernel
theorem dX3_takeBack_24 : decode cX3_takeBack 24 = .ok (.invokevirtual 126, 3) := by decide +kernel
theorem dX3_takeBack_27 : decode cX3_takeBack 27 = .ok (.aload_n 0, 1) := by decide +kernel
theorem dX3_takeBack_28 : decode cX3_takeBack 28 = .ok (.getfield 12, 3) := by decide +kernel
theorem dX3_takeBack_31 : decode cX3_takeBack 31 = .ok (.getfield 95, 3) := by decide +kernel
theorem dX3_takeBack_34 : decode cX3_takeBack 34 = .ok (.ireturn, 1) := by decide +kernel
set_option maxRecDepth 20000 in
theorem ggX3_worth_X3_requireAhead : GoodIn wsX3_worth wsX3_requireAhead := goodIn_ca (goodIn_ca (goodIn_r _ [7, 8, 9, 10, 11, 2, 12, 13, 6, 14, 15, 16, 17, 18, 19, 20, 21, 22, 23, 24, 25, 170, 171, 172, 173, 174, 175, 176, 177, 178, 179, 180, 181, 182, 183, 184, 185] (by decide +kernel) (by decide +kernel)) (goodIn_sub (fun _ h => List.mem_cons_of_mem _ (List.mem_append_left _ (List.mem_append_right _ h))) (by decide +kernel))) (goodIn_sub (fun _ h => List.mem_cons_of_mem _ (List.mem_append_right _ h)) (by decide +kernel))
set_option maxRecDepth 20000 in
theorem gX3_worth_X3_requireAhead : GoodIn wsX3_worth (wsV RX3 129 RX3 yX3_requireAhead wsX3_requireAhead) := goodIn_app (goodIn_of _ (by decide +kernel)) ggX3_worth_X3_requireAhead
set_option maxRecDepth 20000 in
theorem ggX3_worth_X1_look : GoodIn wsX3_worth wsX1_look := goodIn_r _ [29, 30, 31, 32, 33, 34, 35, 36, 27, 37, 38, 39, 40, 41, 42, 43, 22, 44, 45, 46, 25, 47, 48, 49, 50, 51, 52, 53, 54, 55, 56, 57, 58, 59, 60, 61, 62, 63, 64, 65, 66, 67, 68, 69, 70, 71, 72, 73, 74, 75, 76, 77, 78, 79, 80, 81, 82, 83, 84, 85, 86, 87, 88, 89, 90, 91, 92, 93, 94, 95, 96, 97, 98, 99, 100, 101, 102, 103, 104, 105, 106, 107, 108, 109, 110, 111, 112, 113, 114, 115, 116, 117, 118, 119, 120, 121, 122, 123, 124, 125, 126, 127, 128, 129, 130, 131, 132, 133, 134, 135, 136, 137, 138, 139, 140, 141, 142, 143, 144, 145, 146, 147, 148, 149, 150, 151, 152, 153, 154, 155, 156, 157, 158, 159, 160, 161, 26, 28, 162, 163, 164, 165, 166, 167, 168, 169, 186, 187, 188, 189, 190, 173, 174, 175, 176, 177, 178, 179, 180, 181, 182, 183, 184, 185] (by decide +kernel) (by decide +kernel)
set_option maxRecDepth 20000 in
theorem gX3_worth_X1_look_n132 : GoodIn wsX3_worth (wsX1_look) := ggX3_worth_X1_look
theorem dX3_worth_0 : decode cX3_worth 0 = .ok (.aload_n 0, 1) := by decide +kernel
theorem dX3_worth_1 : decode cX3_worth 1 = .ok (.iload_n 1, 1) := by decide +kernel
theorem dX3_worth_2 : decode cX3_worth 2 = .ok (.iconst 0, 1) := by decide +kernel
theorem dX3_worth_3 : decode cX3_worth 3 = .ok (.invokevirtual 129, 3) := by decide +kernel
theorem dX3_worth_6 : decode cX3_worth 6 = .ok (.aload_n 0, 1) := by decide +kernel
theorem dX3_worth_7 : decode cX3_worth 7 = .ok (.getfield 26, 3) := by decide +kernel
theorem dX3_worth_10 : decode cX3_worth 10 = .ok (.aload_n 0, 1) := by decide +kernel
theorem dX3_worth_11 : decode cX3_worth 11 = .ok (.getfield 12, 3) := by decide +kernel
theorem dX3_worth_14 : decode cX3_worth 14 = .ok (.iload_n 1, 1) := by decide +kernel
theorem dX3_worth_15 : decode cX3_worth 15 = .ok (.invokevirtual 132, 3) := by decide +kernel
theorem dX3_worth_18 : decode cX3_worth 18 = .ok (.ireturn, 1) := by decide +kernel
set_option maxRecDepth 20000 in
theorem ggX3_best_X3_requireAhead : GoodIn wsX3_best wsX3_requireAhead := goodIn_ca (goodIn_ca (goodIn_r _ [8, 9, 10, 11, 12, 2, 13, 14, 7, 15, 16, 17, 18, 19, 20, 21, 22, 23, 24, 25, 26, 173, 174, 175, 178, 179, 180, 181, 182, 183, 184, 185, 186, 187, 188, 189, 190] (by decide +kernel) (by decide +kernel)) (goodIn_sub (fun _ h => List.mem_cons_of_mem _ (List.mem_append_left _ (List.mem_append_right _ h))) (by decide +kernel))) (goodIn_sub (fun _ h => List.mem_cons_of_mem _ (List.mem_append_right _ h)) (by decide +kernel))
set_option maxRecDepth 20000 in
theorem gX3_best_X3_requireAhead : GoodIn wsX3_best (wsV RX3 129 RX3 yX3_requireAhead wsX3_requireAhead) := goodIn_app (goodIn_of _ (by decide +kernel)) ggX3_best_X3_requireAhead
set_option maxRecDepth 20000 in
theorem ggX3_best_X1_look : GoodIn wsX3_best wsX1_look := goodIn_r _ [30, 31, 32, 33, 34, 35, 36, 37, 28, 38, 39, 40, 41, 42, 43, 44, 23, 45, 46, 47, 26, 48, 49, 50, 51, 52, 53, 54, 55, 56, 57, 58, 59, 60, 61, 62, 63, 64, 65, 66, 67, 68, 69, 70, 71, 72, 73, 74, 75, 76, 77, 78, 79, 80, 81, 82, 83, 84, 85, 86, 87, 88, 89, 90, 91, 92, 93, 94, 95, 96, 97, 98, 99, 100, 101, 102, 103, 104, 105, 106, 107, 108, 109, 110, 111, 112, 113, 114, 115, 116, 117, 118, 119, 120, 121, 122, 123, 124, 125, 126, 127, 128, 129, 130, 131, 132, 133, 134, 135, 136, 137, 138, 139, 140, 141, 142, 143, 144, 145, 146, 147, 148, 149, 150, 151, 152, 153, 154, 155, 156, 157, 158, 159, 160, 161, 162, 27, 29, 163, 164, 165, 166, 167, 168, 169, 170, 176, 177, 191, 192, 193, 178, 179, 180, 181, 182, 183, 184, 185, 186, 187, 188, 189, 190] (by decide +kernel) (by decide +kernel)
set_option maxRecDepth 20000 in
theorem gX3_best_X1_look_n132 : GoodIn wsX3_best (wsX1_look) := ggX3_best_X1_look
set_option maxRecDepth 20000 in
theorem ggX3_best_X0_listTurns : GoodIn wsX3_best wsX0_listTurns := goodIn_r _ [45, 46, 47, 26, 48, 49, 50, 51, 52, 53, 54, 55, 56, 57, 23, 58, 59, 60, 61, 62, 63, 64, 65, 66, 67, 68, 69, 70, 71, 72, 73, 74, 75, 76, 77, 78, 79, 80, 81, 82, 83, 84, 85, 86, 87, 88, 89, 90, 91, 92, 93, 94, 95, 96, 97, 98, 99, 100, 101, 102, 103, 104, 105, 106, 107, 108, 109, 110, 111, 112, 113, 114, 178, 179, 180, 181, 182, 183, 184, 185, 186, 187, 188, 189, 190, 176, 177] (by decide +kernel) (by decide +kernel)
set_option maxRecDepth 20000 in
theorem gX3_best_X0_listTurns : GoodIn wsX3_best (wsV RX3 101 RX0 yX0_listTurns wsX0_listTurns) := goodIn_app (goodIn_of _ (by decide +kernel)) ggX3_best_X0_listTurns
set_option maxRecDepth 20000 in
theorem ggX3_best_X2_at : GoodIn wsX3_best wsX2_at := goodIn_r _ [118, 114, 176, 177] (by decide +kernel) (by decide +kernel)
set_option maxRecDepth 20000 in
theorem gX3_best_X2_at : GoodIn wsX3_best (wsV RX3 113 RX2 yX2_at wsX2_at) := goodIn_app (goodIn_of _ (by decide +kernel)) ggX3_best_X2_at
set_option maxRecDepth 20000 in
theorem ggX3_best_X1_worthOf : GoodIn wsX3_best wsX1_worthOf := goodIn_r _ [122, 123, 124, 125, 23, 126, 47, 68, 46, 55, 56, 57, 58, 59, 127, 128, 129, 102, 103, 104, 105, 83, 84, 85, 86, 87, 92, 93, 94, 95, 96, 97, 130, 131, 132, 133, 134, 135, 136, 137, 74, 75, 76, 77, 78, 138, 139, 140, 141, 142, 143, 144, 145, 146, 147, 148, 149, 150, 151, 152, 153, 154, 155, 156, 157, 26, 64, 65, 66, 67, 69, 70, 71, 72, 73, 79, 80, 81, 82, 88, 89, 90, 91, 158, 159, 160, 161, 106, 107, 108, 109, 162, 27, 29, 28, 163, 164, 165, 166, 167, 168, 169, 170, 30, 31, 32, 33, 34, 35, 36, 37, 38, 39, 40, 41, 42, 43, 44, 45, 48, 49, 50, 51, 52, 53, 54, 60, 61, 62, 63, 98, 99, 100, 101, 110, 111, 112, 113, 114, 115, 116, 117, 118, 119, 120, 121, 176, 177, 191, 192, 193, 178, 179, 180, 181, 182, 183, 184, 185, 186, 187, 188, 189, 190] (by decide +kernel) (by decide +kernel)
set_option maxRecDepth 20000 in
theorem gX3_best_X1_worthOf_n136 : GoodIn wsX3_best (wsX1_worthOf) := ggX3_best_X1_worthOf
theorem dX3_best_0 : decode cX3_best 0 = .ok (.aload_n 0, 1) := by decide +kernel
theorem dX3_best_1 : decode cX3_best 1 = .ok (.iload_n 1, 1) := by decide +kernel
theorem dX3_best_2 : decode cX3_best 2 = .ok (.iconst 1, 1) := by decide +kernel
theorem dX3_best_3 : decode cX3_best 3 = .ok (.invokevirtual 129, 3) := by decide +kernel
theorem dX3_best_6 : decode cX3_best 6 = .ok (.aload_n 0, 1) := by decide +kernel
theorem dX3_best_7 : decode cX3_best 7 = .ok (.getfield 26, 3) := by decide +kernel
theorem dX3_best_10 : decode cX3_best 10 = .ok (.aload_n 0, 1) := by decide +kernel
theorem dX3_best_11 : decode cX3_best 11 = .ok (.getfield 12, 3) := by decide +kernel
theorem dX3_best_14 : decode cX3_best 14 = .ok (.iload_n 1, 1) := by decide +kernel
theorem dX3_best_15 : decode cX3_best 15 = .ok (.invokevirtual 132, 3) := by decide +kernel
theorem dX3_best_18 : decode cX3_best 18 = .ok (.istore_n 2, 1) := by decide +kernel
theorem dX3_best_19 : decode cX3_best 19 = .ok (.aload_n 0, 1) := by decide +kernel
theorem dX3_best_20 : decode cX3_best 20 = .ok (.getfield 12, 3) := by decide +kernel
theorem dX3_best_23 : decode cX3_best 23 = .ok (.aload_n 0, 1) := by decide +kernel
theorem dX3_best_24 : decode cX3_best 24 = .ok (.getfield 19, 3) := by decide +kernel
theorem dX3_best_27 : decode cX3_best 27 = .ok (.invokevirtual 101, 3) := by decide +kernel
theorem dX3_best_30 : decode cX3_best 30 = .ok (.iconst 0, 1) := by decide +kernel
theorem dX3_best_31 : decode cX3_best 31 = .ok (.istore_n 3, 1) := by decide +kernel
theorem dX3_best_32 : decode cX3_best 32 = .ok (.iload_n 3, 1) := by decide +kernel
theorem dX3_best_33 : decode cX3_best 33 = .ok (.aload_n 0, 1) := by decide +kernel
theorem dX3_best_34 : decode cX3_best 34 = .ok (.getfield 19, 3) := by decide +kernel
theorem dX3_best_37 : decode cX3_best 37 = .ok (.getfield 105, 3) := by decide +kernel
theorem dX3_best_40 : decode cX3_best 40 = .ok (.if_icmp .ge 40, 3) := by decide +kernel
theorem dX3_best_43 : decode cX3_best 43 = .ok (.aload_n 0, 1) := by decide +kernel
theorem dX3_best_44 : decode cX3_best 44 = .ok (.getfield 19, 3) := by decide +kernel
theorem dX3_best_47 : decode cX3_best 47 = .ok (.iload_n 3, 1) := by decide +kernel
theorem dX3_best_48 : decode cX3_best 48 = .ok (.invokevirtual 113, 3) := by decide +kernel
theorem dX3_best_51 : decode cX3_best 51 = .ok (.istore 4, 2) := by decide +kernel
theorem dX3_best_53 : decode cX3_best 53 = .ok (.aload_n 0, 1) := by decide +kernel
theorem dX3_best_54 : decode cX3_best 54 = .ok (.getfield 26, 3) := by decide +kernel
theorem dX3_best_57 : decode cX3_best 57 = .ok (.aload_n 0, 1) := by decide +kernel
theorem dX3_best_58 : decode cX3_best 58 = .ok (.getfield 12, 3) := by decide +kernel
theorem dX3_best_61 : decode cX3_best 61 = .ok (.iload 4, 2) := by decide +kernel
theorem dX3_best_63 : decode cX3_best 63 = .ok (.iload_n 1, 1) := by decide +kernel
theorem dX3_best_64 : decode cX3_best 64 = .ok (.invokevirtual 136, 3) := by decide +kernel
theorem dX3_best_67 : decode cX3_best 67 = .ok (.iload_n 2, 1) := by decide +kernel
theorem dX3_best_68 : decode cX3_best 68 = .ok (.if_icmp .ne 6, 3) := by decide +kernel
theorem dX3_best_71 : decode cX3_best 71 = .ok (.iload 4, 2) := by decide +kernel
theorem dX3_best_73 : decode cX3_best 73 = .ok (.ireturn, 1) := by decide +kernel
theorem dX3_best_74 : decode cX3_best 74 = .ok (.iinc 3 1, 3) := by decide +kernel
theorem dX3_best_77 : decode cX3_best 77 = .ok (.goto (-45), 3) := by decide +kernel
theorem dX3_best_80 : decode cX3_best 80 = .ok (.iconst (-1), 1) := by decide +kernel
theorem dX3_best_81 : decode cX3_best 81 = .ok (.ireturn, 1) := by decide +kernel
set_option maxRecDepth 20000 in
theorem ggX3_reached_X3_isOutside : GoodIn wsX3_reached wsX3_isOutside := goodIn_r _ [7] (by decide +kernel) (by decide +kernel)
set_option maxRecDepth 20000 in
theorem gX3_reached_X3_isOutside : GoodIn wsX3_reached (va_wsS RX3 34 yX3_isOutside wsX3_isOutside) := goodIn_app (goodIn_of _ (by decide +kernel)) ggX3_reached_X3_isOutside
set_option maxRecDepth 20000 in
theorem ggX3_reached_X0_storeysUnder : GoodIn wsX3_reached wsX0_storeysUnder := goodIn_r _ [12, 13, 14, 15, 16, 11, 17, 18, 19, 20, 21, 22, 23, 27, 28, 29, 30, 31, 32, 33, 34, 35, 36, 37, 38, 39] (by decide +kernel) (by decide +kernel)
set_option maxRecDepth 20000 in
theorem gX3_reached_X0_storeysUnder : GoodIn wsX3_reached (wsV RX3 142 RX0 yX0_storeysUnder wsX0_storeysUnder) := goodIn_app (goodIn_of _ (by decide +kernel)) ggX3_reached_X0_storeysUnder
theorem dX3_reached_0 : decode cX3_reached 0 = .ok (.iload_n 1, 1) := by decide +kernel
theorem dX3_reached_1 : decode cX3_reached 1 = .ok (.iconst 0, 1) := by decide +kernel
theorem dX3_reached_2 : decode cX3_reached 2 = .ok (.iconst 1, 1) := by decide +kernel
theorem dX3_reached_3 : decode cX3_reached 3 = .ok (.invokestatic 34, 3) := by decide +kernel
theorem dX3_reached_6 : decode cX3_reached 6 = .ok (.ifCond .eq 13, 3) := by decide +kernel
theorem dX3_reached_9 : decode cX3_reached 9 = .ok (.new 108, 3) := by decide +kernel
theorem dX3_reached_12 : decode cX3_reached 12 = .ok (.dup, 1) := by decide +kernel
theorem dX3_reached_13 : decode cX3_reached 13 = .ok (.ldc 140, 2) := by decide +kernel
theorem dX3_reached_15 : decode cX3_reached 15 = .ok (.invokespecial 112, 3) := by decide +kernel
theorem dX3_reached_18 : decode cX3_reached 18 = .ok (.athrow, 1) := by decide +kernel
theorem dX3_reached_19 : decode cX3_reached 19 = .ok (.aload_n 0, 1) := by decide +kernel
theorem dX3_reached_20 : decode cX3_reached 20 = .ok (.getfield 12, 3) := by decide +kernel
theorem dX3_reached_23 : decode cX3_reached 23 = .ok (.iload_n 1, 1) := by decide +kernel
theorem dX3_reached_24 : decode cX3_reached 24 = .ok (.invokevirtual 142, 3) := by decide +kernel
theorem dX3_reached_27 : decode cX3_reached 27 = .ok (.ireturn, 1) := by decide +kernel
theorem dX3_isOutside_0 : decode cX3_isOutside 0 = .ok (.iload_n 0, 1) := by decide +kernel
theorem dX3_isOutside_1 : decode cX3_isOutside 1 = .ok (.iload_n 1, 1) := by decide +kernel
theorem dX3_isOutside_2 : decode cX3_isOutside 2 = .ok (.if_icmp .lt 8, 3) := by decide +kernel
theorem dX3_isOutside_5 : decode cX3_isOutside 5 = .ok (.iload_n 0, 1) := by decide +kernel
theorem dX3_isOutside_6 : decode cX3_isOutside 6 = .ok (.iload_n 2, 1) := by decide +kernel
theorem dX3_isOutside_7 : decode cX3_isOutside 7 = .ok (.if_icmp .le 7, 3) := by decide +kernel
theorem dX3_isOutside_10 : decode cX3_isOutside 10 = .ok (.iconst 1, 1) := by decide +kernel
theorem dX3_isOutside_11 : decode cX3_isOutside 11 = .ok (.goto 4, 3) := by decide +kernel
theorem dX3_isOutside_14 : decode cX3_isOutside 14 = .ok (.iconst 0, 1) := by decide +kernel
theorem dX3_isOutside_15 : decode cX3_isOutside 15 = .ok (.ireturn, 1) := by decide +kernel
set_option maxRecDepth 20000 in
theorem ggX3_requireCell_X3_isOutside : GoodIn wsX3_requireCell wsX3_isOutside := goodIn_r _ [7] (by decide +kernel) (by decide +kernel)
set_option maxRecDepth 20000 in
theorem gX3_requireCell_X3_isOutside : GoodIn wsX3_requireCell (va_wsS RX3 34 yX3_isOutside wsX3_isOutside) := goodIn_app (goodIn_of _ (by decide +kernel)) ggX3_requireCell_X3_isOutside
theorem dX3_requireCell_0 : decode cX3_requireCell 0 = .ok (.iload_n 1, 1) := by decide +kernel
theorem dX3_requireCell_1 : decode cX3_requireCell 1 = .ok (.iconst 0, 1) := by decide +kernel
theorem dX3_requireCell_2 : decode cX3_requireCell 2 = .ok (.aload_n 0, 1) := by decide +kernel
theorem dX3_requireCell_3 : decode cX3_requireCell 3 = .ok (.getfield 12, 3) := by decide +kernel
theorem dX3_requireCell_6 : decode cX3_requireCell 6 = .ok (.getfield 49, 3) := by decide +kernel
theorem dX3_requireCell_9 : decode cX3_requireCell 9 = .ok (.iconst 1, 1) := by decide +kernel
theorem dX3_requireCell_10 : decode cX3_requireCell 10 = .ok (.isub, 1) := by decide +kernel
theorem dX3_requireCell_11 : decode cX3_requireCell 11 = .ok (.invokestatic 34, 3) := by decide +kernel
theorem dX3_requireCell_14 : decode cX3_requireCell 14 = .ok (.ifCond .eq 13, 3) := by decide +kernel
theorem dX3_requireCell_17 : decode cX3_requireCell 17 = .ok (.new 108, 3) := by decide +kernel
theorem dX3_requireCell_20 : decode cX3_requireCell 20 = .ok (.dup, 1) := by decide +kernel
theorem dX3_requireCell_21 : decode cX3_requireCell 21 = .ok (.ldc 145, 2) := by decide +kernel
theorem dX3_requireCell_23 : decode cX3_requireCell 23 = .ok (.invokespecial 112, 3) := by decide +kernel
theorem dX3_requireCell_26 : decode cX3_requireCell 26 = .ok (.athrow, 1) := by decide +kernel
theorem dX3_requireCell_27 : decode cX3_requireCell 27 = .ok (.return_, 1) := by decide +kernel
set_option maxRecDepth 20000 in
theorem ggX3_requireAllPlaced_X0_isSet : GoodIn wsX3_requireAllPlaced wsX0_isSet := goodIn_r _ [8, 9, 10, 14, 15, 16, 17, 18, 19, 20, 21, 22, 23, 24, 25, 26] (by decide +kernel) (by decide +kernel)
set_option maxRecDepth 20000 in
theorem gX3_requireAllPlaced_X0_isSet : GoodIn wsX3_requireAllPlaced (wsV RX3 57 RX0 yX0_isSet wsX0_isSet) := goodIn_app (goodIn_of _ (by decide +kernel)) ggX3_requireAllPlaced_X0_isSet
theorem dX3_requireAllPlaced_0 : decode cX3_requireAllPlaced 0 = .ok (.aload_n 0, 1) := by decide +kernel
theorem dX3_requireAllPlaced_1 : decode cX3_requireAllPlaced 1 = .ok (.getfield 12, 3) := by decide +kernel
theorem dX3_requireAllPlaced_4 : decode cX3_requireAllPlaced 4 = .ok (.invokevirtual 57, 3) := by decide +kernel
theorem dX3_requireAllPlaced_7 : decode cX3_requireAllPlaced 7 = .ok (.ifCond .ne 13, 3) := by decide +kernel
theorem dX3_requireAllPlaced_10 : decode cX3_requireAllPlaced 10 = .ok (.new 65, 3) := by decide +kernel
theorem dX3_requireAllPlaced_13 : decode cX3_requireAllPlaced 13 = .ok (.dup, 1) := by decide +kernel
theorem dX3_requireAllPlaced_14 : decode cX3_requireAllPlaced 14 = .ok (.ldc 147, 2) := by decide +kernel
theorem dX3_requireAllPlaced_16 : decode cX3_requireAllPlaced 16 = .ok (.invokespecial 69, 3) := by decide +kernel
theorem dX3_requireAllPlaced_19 : decode cX3_requireAllPlaced 19 = .ok (.athrow, 1) := by decide +kernel
theorem dX3_requireAllPlaced_20 : decode cX3_requireAllPlaced 20 = .ok (.return_, 1) := by decide +kernel
set_option maxRecDepth 20000 in
theorem ggX3_requireAhead_X3_isOutside : GoodIn wsX3_requireAhead wsX3_isOutside := goodIn_r _ [9] (by decide +kernel) (by decide +kernel)
set_option maxRecDepth 20000 in
theorem gX3_requireAhead_X3_isOutside : GoodIn wsX3_requireAhead (va_wsS RX3 34 yX3_isOutside wsX3_isOutside) := goodIn_app (goodIn_of _ (by decide +kernel)) ggX3_requireAhead_X3_isOutside
set_option maxRecDepth 20000 in
theorem ggX3_requireAhead_X3_requireAllPlaced : GoodIn wsX3_requireAhead wsX3_requireAllPlaced := goodIn_ca (goodIn_r _ [13, 3, 4, 5, 14, 15, 16, 17, 18, 19, 20, 21, 22, 23, 24, 25, 26, 27, 28, 29, 30, 31, 32, 33, 34, 35, 36] (by decide +kernel) (by decide +kernel)) (goodIn_sub (fun _ h => List.mem_cons_of_mem _ (List.mem_append_right _ h)) (by decide +kernel))
set_option maxRecDepth 20000 in
theorem gX3_requireAhead_X3_requireAllPlaced : GoodIn wsX3_requireAhead (wsV RX3 98 RX3 yX3_requireAllPlaced wsX3_requireAllPlaced) := goodIn_app (goodIn_of _ (by decide +kernel)) ggX3_requireAhead_X3_requireAllPlaced
theorem dX3_requireAhead_0 : decode cX3_requireAhead 0 = .ok (.iload_n 1, 1) := by decide +kernel
theorem dX3_requireAhead_1 : decode cX3_requireAhead 1 = .ok (.iload_n 2, 1) := by decide +kernel
theorem dX3_requireAhead_2 : decode cX3_requireAhead 2 = .ok (.iconst 3, 1) := by decide +kernel
theorem dX3_requireAhead_3 : decode cX3_requireAhead 3 = .ok (.invokestatic 34, 3) := by decide +kernel
theorem dX3_requireAhead_6 : decode cX3_requireAhead 6 = .ok (.ifCond .eq 13, 3) := by decide +kernel
theorem dX3_requireAhead_9 : decode cX3_requireAhead 9 = .ok (.new 38, 3) := by decide +kernel
theorem dX3_requireAhead_12 : decode cX3_requireAhead 12 = .ok (.dup, 1) := by decide +kernel
theorem dX3_requireAhead_13 : decode cX3_requireAhead 13 = .ok (.ldc 149, 2) := by decide +kernel
theorem dX3_requireAhead_15 : decode cX3_requireAhead 15 = .ok (.invokespecial 42, 3) := by decide +kernel
theorem dX3_requireAhead_18 : decode cX3_requireAhead 18 = .ok (.athrow, 1) := by decide +kernel
theorem dX3_requireAhead_19 : decode cX3_requireAhead 19 = .ok (.aload_n 0, 1) := by decide +kernel
theorem dX3_requireAhead_20 : decode cX3_requireAhead 20 = .ok (.invokevirtual 98, 3) := by decide +kernel
theorem dX3_requireAhead_23 : decode cX3_requireAhead 23 = .ok (.aload_n 0, 1) := by decide +kernel
theorem dX3_requireAhead_24 : decode cX3_requireAhead 24 = .ok (.getfield 12, 3) := by decide +kernel
theorem dX3_requireAhead_27 : decode cX3_requireAhead 27 = .ok (.getfield 92, 3) := by decide +kernel
theorem dX3_requireAhead_30 : decode cX3_requireAhead 30 = .ok (.iconst (-1), 1) := by decide +kernel
theorem dX3_requireAhead_31 : decode cX3_requireAhead 31 = .ok (.if_icmp .eq 13, 3) := by decide +kernel
theorem dX3_requireAhead_34 : decode cX3_requireAhead 34 = .ok (.new 65, 3) := by decide +kernel
theorem dX3_requireAhead_37 : decode cX3_requireAhead 37 = .ok (.dup, 1) := by decide +kernel
theorem dX3_requireAhead_38 : decode cX3_requireAhead 38 = .ok (.ldc 151, 2) := by decide +kernel
theorem dX3_requireAhead_40 : decode cX3_requireAhead 40 = .ok (.invokespecial 69, 3) := by decide +kernel
theorem dX3_requireAhead_43 : decode cX3_requireAhead 43 = .ok (.athrow, 1) := by decide +kernel
theorem dX3_requireAhead_44 : decode cX3_requireAhead 44 = .ok (.iload_n 1, 1) := by decide +kernel
theorem dX3_requireAhead_45 : decode cX3_requireAhead 45 = .ok (.iconst 3, 1) := by decide +kernel
theorem dX3_requireAhead_46 : decode cX3_requireAhead 46 = .ok (.if_icmp .ne 25, 3) := by decide +kernel
theorem dX3_requireAhead_49 : decode cX3_requireAhead 49 = .ok (.aload_n 0, 1) := by decide +kernel
theorem dX3_requireAhead_50 : decode cX3_requireAhead 50 = .ok (.getfield 12, 3) := by decide +kernel
theorem dX3_requireAhead_53 : decode cX3_requireAhead 53 = .ok (.getfield 49, 3) := by decide +kernel
theorem dX3_requireAhead_56 : decode cX3_requireAhead 56 = .ok (.bipush 8, 2) := by decide +kernel
theorem dX3_requireAhead_58 : decode cX3_requireAhead 58 = .ok (.if_icmp .le 13, 3) := by decide +kernel
theorem dX3_requireAhead_61 : decode cX3_requireAhead 61 = .ok (.new 65, 3) := by decide +kernel
theorem dX3_requireAhead_64 : decode cX3_requireAhead 64 = .ok (.dup, 1) := by decide +kernel
theorem dX3_requireAhead_65 : decode cX3_requireAhead 65 = .ok (.ldc 153, 2) := by decide +kernel
theorem dX3_requireAhead_67 : decode cX3_requireAhead 67 = .ok (.invokespecial 69, 3) := by decide +kernel
theorem dX3_requireAhead_70 : decode cX3_requireAhead 70 = .ok (.athrow, 1) := by decide +kernel
theorem dX3_requireAhead_71 : decode cX3_requireAhead 71 = .ok (.return_, 1) := by decide +kernel
end
section
theorem dJ9_max_7cf53_0 : decode cJ9_max_7cf53 0 = .ok (.iload_n 0, 1) := by decide +kernel
theorem dJ9_max_7cf53_1 : decode cJ9_max_7cf53 1 = .ok (.iload_n 1, 1) := by decide +kernel
theorem dJ9_max_7cf53_2 : decode cJ9_max_7cf53 2 = .ok (.if_icmp .lt 7, 3) := by decide +kernel
theorem dJ9_max_7cf53_5 : decode cJ9_max_7cf53 5 = .ok (.iload_n 0, 1) := by decide +kernel
theorem dJ9_max_7cf53_6 : decode cJ9_max_7cf53 6 = .ok (.goto 4, 3) := by decide +kernel
theorem dJ9_max_7cf53_9 : decode cJ9_max_7cf53 9 = .ok (.iload_n 1, 1) := by decide +kernel
theorem dJ9_max_7cf53_10 : decode cJ9_max_7cf53 10 = .ok (.ireturn, 1) := by decide +kernel
theorem dJ7_fill_53178_0 : decode cJ7_fill_53178 0 = .ok (.iconst 0, 1) := by decide +kernel
theorem dJ7_fill_53178_1 : decode cJ7_fill_53178 1 = .ok (.istore_n 2, 1) := by decide +kernel
theorem dJ7_fill_53178_2 : decode cJ7_fill_53178 2 = .ok (.aload_n 0, 1) := by decide +kernel
theorem dJ7_fill_53178_3 : decode cJ7_fill_53178 3 = .ok (.arraylength, 1) := by decide +kernel
theorem dJ7_fill_53178_4 : decode cJ7_fill_53178 4 = .ok (.istore_n 3, 1) := by decide +kernel
theorem dJ7_fill_53178_5 : decode cJ7_fill_53178 5 = .ok (.iload_n 2, 1) := by decide +kernel
theorem dJ7_fill_53178_6 : decode cJ7_fill_53178 6 = .ok (.iload_n 3, 1) := by decide +kernel
theorem dJ7_fill_53178_7 : decode cJ7_fill_53178 7 = .ok (.if_icmp .ge 13, 3) := by decide +kernel
theorem dJ7_fill_53178_10 : decode cJ7_fill_53178 10 = .ok (.aload_n 0, 1) := by decide +kernel
theorem dJ7_fill_53178_11 : decode cJ7_fill_53178 11 = .ok (.iload_n 2, 1) := by decide +kernel
theorem dJ7_fill_53178_12 : decode cJ7_fill_53178 12 = .ok (.iload_n 1, 1) := by decide +kernel
theorem dJ7_fill_53178_13 : decode cJ7_fill_53178 13 = .ok (.iastore, 1) := by decide +kernel
theorem dJ7_fill_53178_14 : decode cJ7_fill_53178 14 = .ok (.iinc 2 1, 3) := by decide +kernel
theorem dJ7_fill_53178_17 : decode cJ7_fill_53178 17 = .ok (.goto (-12), 3) := by decide +kernel
theorem dJ7_fill_53178_20 : decode cJ7_fill_53178 20 = .ok (.return_, 1) := by decide +kernel
end
section
noncomputable def fX0_storeysOf (S : SC) (x1 : Int32) : Option Int32 :=
  if x1 < 0 then
    some 0
  else
    if (25 : Int32) ≤ x1 then
      some 0
    else
      ck x1 25 <|
      some (S.2 1 x1.toNatClampNeg)
set_option maxHeartbeats 4000000 in
set_option maxRecDepth 100000 in
theorem kX0_storeysOf (l : Launch) (D : va_G) (cy : Nat → ClassId) (ad : Nat → Nat) (S : SC) (x1 : Int32) (r : Int32) (hf : fX0_storeysOf S x1 = some r) : CG l D cy (wC cy ad) yX0_storeysOf wsX0_storeysOf ({ frames := 0, cells := 0, slots := 0, locals := 0 } : Room) [.ref (ad 1), .int x1] S (some (.int r)) S := by
  refine CG.of (cc := cX0_storeysOf) (maxL := 2) (ret := (some .int)) (by decide +kernel) rfl (Nat.le_of_ble_eq_true rfl) ?_
  intro p e s m below meth c A ls X hr T hl
  obtain ⟨hx, hb, hml, hown, hts, hlk, hK, hA, hwA⟩ := id X
  have hl : lv_has ls 2 [(0, .ref (ad 1)), (1, .int x1)] := hl
  have hin_X0 : ∀ w ∈ u_ws RX0 TX0 13, w ∈ wsX0_storeysOf := by decide +kernel
  unfold fX0_storeysOf at hf
  refine lv_iload_n hx hb dX0_storeysOf_0 rfl (lv_at hl 1 rfl) ?_
  refine lv_if_lt (tgt := 22) hx hb dX0_storeysOf_1 (by decide) (fun hc => ?_) (fun hc => ?_)
  · replace hf := ifp hc hf
    refine lv_iconst (v := 0) hx hb dX0_storeysOf_22 (by decide) ?_
    obtain rfl := Option.some.inj hf
    exact rt_i X T hr dX0_storeysOf_23
  · replace hf := ifn hc hf
    refine lv_iload_n hx hb dX0_storeysOf_4 rfl (lv_at hl 1 rfl) ?_
    refine lv_aload_n hx hb dX0_storeysOf_5 rfl (lv_at hl 0 rfl) ?_
    refine va_get (D := D) (ci := 0) (v := .ref (ad 3)) (C := RX0) (T := TX0) (N := 13) hx hb hts hin_X0 hown hK.1 T.1 1 rfl rfl 1 (by decide) (hts _ (List.mem_of_getElem? (i := 1) rfl)) (fun _ h9 => h9) rfl dX0_storeysOf_6 ?_
    refine va_alen (v := 25) hx hb hK.1 T.1 3 0 rfl rfl rfl dX0_storeysOf_9 ?_
    refine lv_icmp_ge (tgt := 22) hx hb dX0_storeysOf_10 (by decide) (fun hc => ?_) (fun hc => ?_)
    · replace hf := ifp hc hf
      refine lv_iconst (v := 0) hx hb dX0_storeysOf_22 (by decide) ?_
      obtain rfl := Option.some.inj hf
      exact rt_i X T hr dX0_storeysOf_23
    · replace hf := ifn hc hf
      refine lv_aload_n hx hb dX0_storeysOf_13 rfl (lv_at hl 0 rfl) ?_
      refine va_get (D := D) (ci := 0) (v := .ref (ad 3)) (C := RX0) (T := TX0) (N := 13) hx hb hts hin_X0 hown hK.1 T.1 1 rfl rfl 1 (by decide) (hts _ (List.mem_of_getElem? (i := 1) rfl)) (fun _ h9 => h9) rfl dX0_storeysOf_14 ?_
      refine lv_iload_n hx hb dX0_storeysOf_17 rfl (lv_at hl 1 rfl) ?_
      obtain ⟨hin, hf⟩ := ck_inv hf
      refine va_iald hx hb hK.1 T.1 3 0 rfl rfl hin dX0_storeysOf_18 ?_
      refine lv_goto (tgt := 23) hx hb dX0_storeysOf_19 (by decide) ?_
      obtain rfl := Option.some.inj hf
      exact rt_i X T hr dX0_storeysOf_23

noncomputable def fX0_holderOf (S : SC) (x1 : Int32) : Option Int32 :=
  if x1 < 0 then
    some (-1)
  else
    if (25 : Int32) ≤ x1 then
      some (-1)
    else
      ck x1 25 <|
      some (S.2 2 x1.toNatClampNeg)
set_option maxHeartbeats 4000000 in
set_option maxRecDepth 100000 in
theorem kX0_holderOf (l : Launch) (D : va_G) (cy : Nat → ClassId) (ad : Nat → Nat) (S : SC) (x1 : Int32) (r : Int32) (hf : fX0_holderOf S x1 = some r) : CG l D cy (wC cy ad) yX0_holderOf wsX0_holderOf ({ frames := 0, cells := 0, slots := 0, locals := 0 } : Room) [.ref (ad 1), .int x1] S (some (.int r)) S := by
  refine CG.of (cc := cX0_holderOf) (maxL := 2) (ret := (some .int)) (by decide +kernel) rfl (Nat.le_of_ble_eq_true rfl) ?_
  intro p e s m below meth c A ls X hr T hl
  obtain ⟨hx, hb, hml, hown, hts, hlk, hK, hA, hwA⟩ := id X
  have hl : lv_has ls 2 [(0, .ref (ad 1)), (1, .int x1)] := hl
  have hin_X0 : ∀ w ∈ u_ws RX0 TX0 13, w ∈ wsX0_holderOf := by decide +kernel
  unfold fX0_holderOf at hf
  refine lv_iload_n hx hb dX0_holderOf_0 rfl (lv_at hl 1 rfl) ?_
  refine lv_if_lt (tgt := 22) hx hb dX0_holderOf_1 (by decide) (fun hc => ?_) (fun hc => ?_)
  · replace hf := ifp hc hf
    refine lv_iconst (v := (-1)) hx hb dX0_holderOf_22 (by decide) ?_
    obtain rfl := Option.some.inj hf
    exact rt_i X T hr dX0_holderOf_23
  · replace hf := ifn hc hf
    refine lv_iload_n hx hb dX0_holderOf_4 rfl (lv_at hl 1 rfl) ?_
    refine lv_aload_n hx hb dX0_holderOf_5 rfl (lv_at hl 0 rfl) ?_
    refine va_get (D := D) (ci := 0) (v := .ref (ad 4)) (C := RX0) (T := TX0) (N := 13) hx hb hts hin_X0 hown hK.1 T.1 1 rfl rfl 2 (by decide) (hts _ (List.mem_of_getElem? (i := 1) rfl)) (fun _ h9 => h9) rfl dX0_holderOf_6 ?_
    refine va_alen (v := 25) hx hb hK.1 T.1 4 0 rfl rfl rfl dX0_holderOf_9 ?_
    refine lv_icmp_ge (tgt := 22) hx hb dX0_holderOf_10 (by decide) (fun hc => ?_) (fun hc => ?_)
    · replace hf := ifp hc hf
      refine lv_iconst (v := (-1)) hx hb dX0_holderOf_22 (by decide) ?_
      obtain rfl := Option.some.inj hf
      exact rt_i X T hr dX0_holderOf_23
    · replace hf := ifn hc hf
      refine lv_aload_n hx hb dX0_holderOf_13 rfl (lv_at hl 0 rfl) ?_
      refine va_get (D := D) (ci := 0) (v := .ref (ad 4)) (C := RX0) (T := TX0) (N := 13) hx hb hts hin_X0 hown hK.1 T.1 1 rfl rfl 2 (by decide) (hts _ (List.mem_of_getElem? (i := 1) rfl)) (fun _ h9 => h9) rfl dX0_holderOf_14 ?_
      refine lv_iload_n hx hb dX0_holderOf_17 rfl (lv_at hl 1 rfl) ?_
      obtain ⟨hin, hf⟩ := ck_inv hf
      refine va_iald hx hb hK.1 T.1 4 0 rfl rfl hin dX0_holderOf_18 ?_
      refine lv_goto (tgt := 23) hx hb dX0_holderOf_19 (by decide) ?_
      obtain rfl := Option.some.inj hf
      exact rt_i X T hr dX0_holderOf_23

noncomputable def fX0_isOpen (S : SC) (x1 : Int32) : Option Int32 :=
  if x1 < 0 then
    some 0
  else
    if (25 : Int32) ≤ x1 then
      some 0
    else
      ck x1 25 <|
      if S.2 2 x1.toNatClampNeg = (-1) then
        ck x1 25 <|
        if (4 : Int32) ≤ S.2 1 x1.toNatClampNeg then
          some 0
        else
          some 1
      else
        some 0
set_option maxHeartbeats 4000000 in
set_option maxRecDepth 100000 in
theorem kX0_isOpen (l : Launch) (D : va_G) (cy : Nat → ClassId) (ad : Nat → Nat) (S : SC) (x1 : Int32) (r : Int32) (hf : fX0_isOpen S x1 = some r) : CG l D cy (wC cy ad) yX0_isOpen wsX0_isOpen ({ frames := 0, cells := 0, slots := 0, locals := 0 } : Room) [.ref (ad 1), .int x1] S (some (.int r)) S := by
  refine CG.of (cc := cX0_isOpen) (maxL := 2) (ret := (some .boolean)) (by decide +kernel) rfl (Nat.le_of_ble_eq_true rfl) ?_
  intro p e s m below meth c A ls X hr T hl
  obtain ⟨hx, hb, hml, hown, hts, hlk, hK, hA, hwA⟩ := id X
  have hl : lv_has ls 2 [(0, .ref (ad 1)), (1, .int x1)] := hl
  have hin_X0 : ∀ w ∈ u_ws RX0 TX0 13, w ∈ wsX0_isOpen := by decide +kernel
  unfold fX0_isOpen at hf
  refine lv_iload_n hx hb dX0_isOpen_0 rfl (lv_at hl 1 rfl) ?_
  refine lv_if_lt (tgt := 34) hx hb dX0_isOpen_1 (by decide) (fun hc => ?_) (fun hc => ?_)
  · replace hf := ifp hc hf
    refine lv_iconst (v := 0) hx hb dX0_isOpen_34 (by decide) ?_
    obtain rfl := Option.some.inj hf
    exact rt_z X T hr (Or.inl rfl) dX0_isOpen_35
  · replace hf := ifn hc hf
    refine lv_iload_n hx hb dX0_isOpen_4 rfl (lv_at hl 1 rfl) ?_
    refine lv_bipush (v := 25) hx hb dX0_isOpen_5 (by decide) ?_
    refine lv_icmp_ge (tgt := 34) hx hb dX0_isOpen_7 (by decide) (fun hc => ?_) (fun hc => ?_)
    · replace hf := ifp hc hf
      refine lv_iconst (v := 0) hx hb dX0_isOpen_34 (by decide) ?_
      obtain rfl := Option.some.inj hf
      exact rt_z X T hr (Or.inl rfl) dX0_isOpen_35
    · replace hf := ifn hc hf
      refine lv_aload_n hx hb dX0_isOpen_10 rfl (lv_at hl 0 rfl) ?_
      refine va_get (D := D) (ci := 0) (v := .ref (ad 4)) (C := RX0) (T := TX0) (N := 13) hx hb hts hin_X0 hown hK.1 T.1 1 rfl rfl 2 (by decide) (hts _ (List.mem_of_getElem? (i := 1) rfl)) (fun _ h9 => h9) rfl dX0_isOpen_11 ?_
      refine lv_iload_n hx hb dX0_isOpen_14 rfl (lv_at hl 1 rfl) ?_
      obtain ⟨hin, hf⟩ := ck_inv hf
      refine va_iald hx hb hK.1 T.1 4 0 rfl rfl hin dX0_isOpen_15 ?_
      refine lv_iconst (v := (-1)) hx hb dX0_isOpen_16 (by decide) ?_
      refine lv_icmp_ne (tgt := 34) hx hb dX0_isOpen_17 (by decide) (fun hc => ?_) (fun hc => ?_)
      · replace hf := ifn hc hf
        refine lv_iconst (v := 0) hx hb dX0_isOpen_34 (by decide) ?_
        obtain rfl := Option.some.inj hf
        exact rt_z X T hr (Or.inl rfl) dX0_isOpen_35
      · replace hf := ifp hc hf
        refine lv_aload_n hx hb dX0_isOpen_20 rfl (lv_at hl 0 rfl) ?_
        refine va_get (D := D) (ci := 0) (v := .ref (ad 3)) (C := RX0) (T := TX0) (N := 13) hx hb hts hin_X0 hown hK.1 T.1 1 rfl rfl 1 (by decide) (hts _ (List.mem_of_getElem? (i := 2) rfl)) (fun _ h9 => h9) rfl dX0_isOpen_21 ?_
        refine lv_iload_n hx hb dX0_isOpen_24 rfl (lv_at hl 1 rfl) ?_
        obtain ⟨hin, hf⟩ := ck_inv hf
        refine va_iald hx hb hK.1 T.1 3 0 rfl rfl hin dX0_isOpen_25 ?_
        refine lv_iconst (v := 4) hx hb dX0_isOpen_26 (by decide) ?_
        refine lv_icmp_ge (tgt := 34) hx hb dX0_isOpen_27 (by decide) (fun hc => ?_) (fun hc => ?_)
        · replace hf := ifp hc hf
          refine lv_iconst (v := 0) hx hb dX0_isOpen_34 (by decide) ?_
          obtain rfl := Option.some.inj hf
          exact rt_z X T hr (Or.inl rfl) dX0_isOpen_35
        · replace hf := ifn hc hf
          refine lv_iconst (v := 1) hx hb dX0_isOpen_30 (by decide) ?_
          refine lv_goto (tgt := 35) hx hb dX0_isOpen_31 (by decide) ?_
          obtain rfl := Option.some.inj hf
          exact rt_z X T hr (Or.inr rfl) dX0_isOpen_35

noncomputable def fX0_isSet (S : SC) : Option Int32 :=
  if S.1 4 = (2 : Int32) * (S.1 1) then
    some 1
  else
    some 0
set_option maxHeartbeats 4000000 in
set_option maxRecDepth 100000 in
theorem kX0_isSet (l : Launch) (D : va_G) (cy : Nat → ClassId) (ad : Nat → Nat) (S : SC) (r : Int32) (hf : fX0_isSet S = some r) : CG l D cy (wC cy ad) yX0_isSet wsX0_isSet ({ frames := 0, cells := 0, slots := 0, locals := 0 } : Room) [.ref (ad 1)] S (some (.int r)) S := by
  refine CG.of (cc := cX0_isSet) (maxL := 1) (ret := (some .boolean)) (by decide +kernel) rfl (Nat.le_of_ble_eq_true rfl) ?_
  intro p e s m below meth c A ls X hr T hl
  obtain ⟨hx, hb, hml, hown, hts, hlk, hK, hA, hwA⟩ := id X
  have hl : lv_has ls 1 [(0, .ref (ad 1))] := hl
  have hin_X0 : ∀ w ∈ u_ws RX0 TX0 13, w ∈ wsX0_isSet := by decide +kernel
  unfold fX0_isSet at hf
  refine lv_aload_n hx hb dX0_isSet_0 rfl (lv_at hl 0 rfl) ?_
  refine va_get (D := D) (ci := 0) (v := .int (S.1 4)) (C := RX0) (T := TX0) (N := 13) hx hb hts hin_X0 hown hK.1 T.1 1 rfl rfl 9 (by decide) (hts _ (List.mem_of_getElem? (i := 1) rfl)) (fun _ h9 => h9) rfl dX0_isSet_1 ?_
  refine lv_iconst (v := 2) hx hb dX0_isSet_4 (by decide) ?_
  refine lv_aload_n hx hb dX0_isSet_5 rfl (lv_at hl 0 rfl) ?_
  refine va_get (D := D) (ci := 0) (v := .int (S.1 1)) (C := RX0) (T := TX0) (N := 13) hx hb hts hin_X0 hown hK.1 T.1 1 rfl rfl 6 (by decide) (hts _ (List.mem_of_getElem? (i := 2) rfl)) (fun _ h9 => h9) rfl dX0_isSet_6 ?_
  refine lv_imul hx hb dX0_isSet_9 ?_
  refine lv_icmp_ne (tgt := 17) hx hb dX0_isSet_10 (by decide) (fun hc => ?_) (fun hc => ?_)
  · replace hf := ifn hc hf
    refine lv_iconst (v := 0) hx hb dX0_isSet_17 (by decide) ?_
    obtain rfl := Option.some.inj hf
    exact rt_z X T hr (Or.inl rfl) dX0_isSet_18
  · replace hf := ifp hc hf
    refine lv_iconst (v := 1) hx hb dX0_isSet_13 (by decide) ?_
    refine lv_goto (tgt := 18) hx hb dX0_isSet_14 (by decide) ?_
    obtain rfl := Option.some.inj hf
    exact rt_z X T hr (Or.inr rfl) dX0_isSet_18

noncomputable def fX0_mover (S : SC) : Option Int32 :=
  if S.1 6 = (-1) then
    bnd (fX0_isSet S) fun v2 =>
    if v2 = 0 then
      if S.1 1 ≤ S.1 4 then
        some 1
      else
        some 0
    else
      some ((S.1 5) - (S.1 5) / 2 * 2)
  else
    some (-1)
set_option maxHeartbeats 4000000 in
set_option maxRecDepth 100000 in
theorem kX0_mover (l : Launch) (D : va_G) (cy : Nat → ClassId) (ad : Nat → Nat) (S : SC) (r : Int32) (hf : fX0_mover S = some r) : CG l D cy (wC cy ad) yX0_mover wsX0_mover ({ frames := 1, cells := 0, slots := 0, locals := 20 } : Room) [.ref (ad 1)] S (some (.int r)) S := by
  refine CG.of (cc := cX0_mover) (maxL := 1) (ret := (some .int)) (by decide +kernel) rfl (Nat.le_of_ble_eq_true rfl) ?_
  intro p e s m below meth c A ls X hr T hl
  obtain ⟨hx, hb, hml, hown, hts, hlk, hK, hA, hwA⟩ := id X
  have hl : lv_has ls 1 [(0, .ref (ad 1))] := hl
  have hin_X0 : ∀ w ∈ u_ws RX0 TX0 13, w ∈ wsX0_mover := by decide +kernel
  unfold fX0_mover at hf
  refine lv_aload_n hx hb dX0_mover_0 rfl (lv_at hl 0 rfl) ?_
  refine va_get (D := D) (ci := 0) (v := .int (S.1 6)) (C := RX0) (T := TX0) (N := 13) hx hb hts hin_X0 hown hK.1 T.1 1 rfl rfl 11 (by decide) (hts _ (List.mem_of_getElem? (i := 1) rfl)) (fun _ h9 => h9) rfl dX0_mover_1 ?_
  refine lv_iconst (v := (-1)) hx hb dX0_mover_4 (by decide) ?_
  refine lv_icmp_eq (tgt := 10) hx hb dX0_mover_5 (by decide) (fun hc => ?_) (fun hc => ?_)
  · replace hf := ifp hc hf
    refine lv_aload_n hx hb dX0_mover_10 rfl (lv_at hl 0 rfl) ?_
    obtain ⟨v2, h1, hf⟩ := bnd_inv hf
    refine cg_V (q0 := 1) (ci := 0) (As := []) (rest := []) X T (kX0_isSet l D cy ad S  v2 h1) (cwV 0 hts gX0_mover_X0_isSet rfl rfl rfl (by decide +kernel) ⟨Nat.le_of_ble_eq_true rfl, Nat.le_of_ble_eq_true rfl⟩) rfl rfl rfl hl.1 rfl (Nat.le_of_ble_eq_true rfl) dX0_mover_11 ⟨Nat.zero_le _, Nat.zero_le _⟩ (st2 := [.int v2]) (pc2 := 14) rfl rfl (fun H locs T => ?_)
    refine lv_if_eq (tgt := 24) hx hb dX0_mover_14 (by decide) (fun hc => ?_) (fun hc => ?_)
    · replace hf := ifp hc hf
      refine lv_aload_n hx hb dX0_mover_24 rfl (lv_at hl 0 rfl) ?_
      refine va_get (D := D) (ci := 0) (v := .int (S.1 4)) (C := RX0) (T := TX0) (N := 13) hx hb hts hin_X0 hown hK.1 T.1 1 rfl rfl 9 (by decide) (hts _ (List.mem_of_getElem? (i := 3) rfl)) (fun _ h9 => h9) rfl dX0_mover_25 ?_
      refine lv_aload_n hx hb dX0_mover_28 rfl (lv_at hl 0 rfl) ?_
      refine va_get (D := D) (ci := 0) (v := .int (S.1 1)) (C := RX0) (T := TX0) (N := 13) hx hb hts hin_X0 hown hK.1 T.1 1 rfl rfl 6 (by decide) (hts _ (List.mem_of_getElem? (i := 4) rfl)) (fun _ h9 => h9) rfl dX0_mover_29 ?_
      refine lv_icmp_ge (tgt := 39) hx hb dX0_mover_32 (by decide) (fun hc => ?_) (fun hc => ?_)
      · replace hf := ifp hc hf
        refine lv_iconst (v := 1) hx hb dX0_mover_39 (by decide) ?_
        obtain rfl := Option.some.inj hf
        exact rt_i X T hr dX0_mover_40
      · replace hf := ifn hc hf
        refine lv_iconst (v := 0) hx hb dX0_mover_35 (by decide) ?_
        refine lv_goto (tgt := 40) hx hb dX0_mover_36 (by decide) ?_
        obtain rfl := Option.some.inj hf
        exact rt_i X T hr dX0_mover_40
    · replace hf := ifn hc hf
      refine lv_aload_n hx hb dX0_mover_17 rfl (lv_at hl 0 rfl) ?_
      refine va_get (D := D) (ci := 0) (v := .int (S.1 5)) (C := RX0) (T := TX0) (N := 13) hx hb hts hin_X0 hown hK.1 T.1 1 rfl rfl 10 (by decide) (hts _ (List.mem_of_getElem? (i := 2) rfl)) (fun _ h9 => h9) rfl dX0_mover_18 ?_
      refine lv_iconst (v := 2) hx hb dX0_mover_21 (by decide) ?_
      refine lv_irem hx hb dX0_mover_22 (by decide) ?_
      obtain rfl := Option.some.inj hf
      exact rt_i X T hr dX0_mover_23
  · replace hf := ifn hc hf
    refine lv_iconst (v := (-1)) hx hb dX0_mover_8 (by decide) ?_
    obtain rfl := Option.some.inj hf
    exact rt_i X T hr dX0_mover_9

noncomputable def fX0_powerOf (S : SC) (x1 : Int32) : Option Int32 :=
  if x1 = 0 then
    some (S.1 2)
  else
    some (S.1 3)
set_option maxHeartbeats 4000000 in
set_option maxRecDepth 100000 in
theorem kX0_powerOf (l : Launch) (D : va_G) (cy : Nat → ClassId) (ad : Nat → Nat) (S : SC) (x1 : Int32) (r : Int32) (hf : fX0_powerOf S x1 = some r) : CG l D cy (wC cy ad) yX0_powerOf wsX0_powerOf ({ frames := 0, cells := 0, slots := 0, locals := 0 } : Room) [.ref (ad 1), .int x1] S (some (.int r)) S := by
  refine CG.of (cc := cX0_powerOf) (maxL := 2) (ret := (some .int)) (by decide +kernel) rfl (Nat.le_of_ble_eq_true rfl) ?_
  intro p e s m below meth c A ls X hr T hl
  obtain ⟨hx, hb, hml, hown, hts, hlk, hK, hA, hwA⟩ := id X
  have hl : lv_has ls 2 [(0, .ref (ad 1)), (1, .int x1)] := hl
  have hin_X0 : ∀ w ∈ u_ws RX0 TX0 13, w ∈ wsX0_powerOf := by decide +kernel
  unfold fX0_powerOf at hf
  refine lv_iload_n hx hb dX0_powerOf_0 rfl (lv_at hl 1 rfl) ?_
  refine lv_if_ne (tgt := 11) hx hb dX0_powerOf_1 (by decide) (fun hc => ?_) (fun hc => ?_)
  · replace hf := ifn hc hf
    refine lv_aload_n hx hb dX0_powerOf_11 rfl (lv_at hl 0 rfl) ?_
    refine va_get (D := D) (ci := 0) (v := .int (S.1 3)) (C := RX0) (T := TX0) (N := 13) hx hb hts hin_X0 hown hK.1 T.1 1 rfl rfl 8 (by decide) (hts _ (List.mem_of_getElem? (i := 2) rfl)) (fun _ h9 => h9) rfl dX0_powerOf_12 ?_
    obtain rfl := Option.some.inj hf
    exact rt_i X T hr dX0_powerOf_15
  · replace hf := ifp hc hf
    refine lv_aload_n hx hb dX0_powerOf_4 rfl (lv_at hl 0 rfl) ?_
    refine va_get (D := D) (ci := 0) (v := .int (S.1 2)) (C := RX0) (T := TX0) (N := 13) hx hb hts hin_X0 hown hK.1 T.1 1 rfl rfl 7 (by decide) (hts _ (List.mem_of_getElem? (i := 1) rfl)) (fun _ h9 => h9) rfl dX0_powerOf_5 ?_
    refine lv_goto (tgt := 15) hx hb dX0_powerOf_8 (by decide) ?_
    obtain rfl := Option.some.inj hf
    exact rt_i X T hr dX0_powerOf_15

noncomputable def fX0_spotOf (S : SC) (x1 : Int32) (x2 : Int32) : Option Int32 :=
  nm (((2 : Int32) * x1) + x2 : Int32) fun v1 =>
  if v1 < 0 then
    some (-1)
  else
    if (4 : Int32) ≤ v1 then
      some (-1)
    else
      ck v1 4 <|
      some (S.2 3 v1.toNatClampNeg)
set_option maxHeartbeats 4000000 in
set_option maxRecDepth 100000 in
theorem kX0_spotOf (l : Launch) (D : va_G) (cy : Nat → ClassId) (ad : Nat → Nat) (S : SC) (x1 : Int32) (x2 : Int32) (r : Int32) (hf : fX0_spotOf S x1 x2 = some r) : CG l D cy (wC cy ad) yX0_spotOf wsX0_spotOf ({ frames := 0, cells := 0, slots := 0, locals := 0 } : Room) [.ref (ad 1), .int x1, .int x2] S (some (.int r)) S := by
  refine CG.of (cc := cX0_spotOf) (maxL := 4) (ret := (some .int)) (by decide +kernel) rfl (Nat.le_of_ble_eq_true rfl) ?_
  intro p e s m below meth c A ls X hr T hl
  obtain ⟨hx, hb, hml, hown, hts, hlk, hK, hA, hwA⟩ := id X
  have hl : lv_has ls 4 [(0, .ref (ad 1)), (1, .int x1), (2, .int x2)] := hl
  have hin_X0 : ∀ w ∈ u_ws RX0 TX0 13, w ∈ wsX0_spotOf := by decide +kernel
  unfold fX0_spotOf at hf
  refine lv_iconst (v := 2) hx hb dX0_spotOf_0 (by decide) ?_
  refine lv_iload_n hx hb dX0_spotOf_1 rfl (lv_at hl 1 rfl) ?_
  refine lv_imul hx hb dX0_spotOf_2 ?_
  refine lv_iload_n hx hb dX0_spotOf_3 rfl (lv_at hl 2 rfl) ?_
  refine lv_iadd hx hb dX0_spotOf_4 ?_
  obtain ⟨v1, e_v1, hf⟩ := nm_inv hf
  rw [← e_v1]
  refine lv_istore_n (lv' := [(3, .int v1), (0, .ref (ad 1)), (1, .int x1), (2, .int x2)]) hx hb dX0_spotOf_5 rfl hl (by decide) rfl (fun ls hl => ?_)
  refine lv_iload_n hx hb dX0_spotOf_6 rfl (lv_at hl 0 rfl) ?_
  refine lv_if_lt (tgt := 28) hx hb dX0_spotOf_7 (by decide) (fun hc => ?_) (fun hc => ?_)
  · replace hf := ifp hc hf
    refine lv_iconst (v := (-1)) hx hb dX0_spotOf_28 (by decide) ?_
    obtain rfl := Option.some.inj hf
    exact rt_i X T hr dX0_spotOf_29
  · replace hf := ifn hc hf
    refine lv_iload_n hx hb dX0_spotOf_10 rfl (lv_at hl 0 rfl) ?_
    refine lv_aload_n hx hb dX0_spotOf_11 rfl (lv_at hl 1 rfl) ?_
    refine va_get (D := D) (ci := 0) (v := .ref (ad 5)) (C := RX0) (T := TX0) (N := 13) hx hb hts hin_X0 hown hK.1 T.1 1 rfl rfl 3 (by decide) (hts _ (List.mem_of_getElem? (i := 1) rfl)) (fun _ h9 => h9) rfl dX0_spotOf_12 ?_
    refine va_alen (v := 4) hx hb hK.1 T.1 5 0 rfl rfl rfl dX0_spotOf_15 ?_
    refine lv_icmp_ge (tgt := 28) hx hb dX0_spotOf_16 (by decide) (fun hc => ?_) (fun hc => ?_)
    · replace hf := ifp hc hf
      refine lv_iconst (v := (-1)) hx hb dX0_spotOf_28 (by decide) ?_
      obtain rfl := Option.some.inj hf
      exact rt_i X T hr dX0_spotOf_29
    · replace hf := ifn hc hf
      refine lv_aload_n hx hb dX0_spotOf_19 rfl (lv_at hl 1 rfl) ?_
      refine va_get (D := D) (ci := 0) (v := .ref (ad 5)) (C := RX0) (T := TX0) (N := 13) hx hb hts hin_X0 hown hK.1 T.1 1 rfl rfl 3 (by decide) (hts _ (List.mem_of_getElem? (i := 1) rfl)) (fun _ h9 => h9) rfl dX0_spotOf_20 ?_
      refine lv_iload_n hx hb dX0_spotOf_23 rfl (lv_at hl 0 rfl) ?_
      obtain ⟨hin, hf⟩ := ck_inv hf
      refine va_iald hx hb hK.1 T.1 5 0 rfl rfl hin dX0_spotOf_24 ?_
      refine lv_goto (tgt := 29) hx hb dX0_spotOf_25 (by decide) ?_
      obtain rfl := Option.some.inj hf
      exact rt_i X T hr dX0_spotOf_29

noncomputable def fX0_neighbourOf (S : SC) (x1 : Int32) (x2 : Int32) : Option Int32 :=
  nm ((x1 * 8) + x2 : Int32) fun v1 =>
  if v1 < 0 then
    some (-1)
  else
    if (200 : Int32) ≤ v1 then
      some (-1)
    else
      ck v1 200 <|
      some (S.2 0 v1.toNatClampNeg)
set_option maxHeartbeats 4000000 in
set_option maxRecDepth 100000 in
theorem kX0_neighbourOf (l : Launch) (D : va_G) (cy : Nat → ClassId) (ad : Nat → Nat) (S : SC) (x1 : Int32) (x2 : Int32) (r : Int32) (hf : fX0_neighbourOf S x1 x2 = some r) : CG l D cy (wC cy ad) yX0_neighbourOf wsX0_neighbourOf ({ frames := 0, cells := 0, slots := 0, locals := 0 } : Room) [.ref (ad 1), .int x1, .int x2] S (some (.int r)) S := by
  refine CG.of (cc := cX0_neighbourOf) (maxL := 4) (ret := (some .int)) (by decide +kernel) rfl (Nat.le_of_ble_eq_true rfl) ?_
  intro p e s m below meth c A ls X hr T hl
  obtain ⟨hx, hb, hml, hown, hts, hlk, hK, hA, hwA⟩ := id X
  have hl : lv_has ls 4 [(0, .ref (ad 1)), (1, .int x1), (2, .int x2)] := hl
  have hin_X0 : ∀ w ∈ u_ws RX0 TX0 13, w ∈ wsX0_neighbourOf := by decide +kernel
  unfold fX0_neighbourOf at hf
  refine lv_iload_n hx hb dX0_neighbourOf_0 rfl (lv_at hl 1 rfl) ?_
  refine lv_bipush (v := 8) hx hb dX0_neighbourOf_1 (by decide) ?_
  refine lv_imul hx hb dX0_neighbourOf_3 ?_
  refine lv_iload_n hx hb dX0_neighbourOf_4 rfl (lv_at hl 2 rfl) ?_
  refine lv_iadd hx hb dX0_neighbourOf_5 ?_
  obtain ⟨v1, e_v1, hf⟩ := nm_inv hf
  rw [← e_v1]
  refine lv_istore_n (lv' := [(3, .int v1), (0, .ref (ad 1)), (1, .int x1), (2, .int x2)]) hx hb dX0_neighbourOf_6 rfl hl (by decide) rfl (fun ls hl => ?_)
  refine lv_iload_n hx hb dX0_neighbourOf_7 rfl (lv_at hl 0 rfl) ?_
  refine lv_if_lt (tgt := 29) hx hb dX0_neighbourOf_8 (by decide) (fun hc => ?_) (fun hc => ?_)
  · replace hf := ifp hc hf
    refine lv_iconst (v := (-1)) hx hb dX0_neighbourOf_29 (by decide) ?_
    obtain rfl := Option.some.inj hf
    exact rt_i X T hr dX0_neighbourOf_30
  · replace hf := ifn hc hf
    refine lv_iload_n hx hb dX0_neighbourOf_11 rfl (lv_at hl 0 rfl) ?_
    refine lv_aload_n hx hb dX0_neighbourOf_12 rfl (lv_at hl 1 rfl) ?_
    refine va_get (D := D) (ci := 0) (v := .ref (ad 2)) (C := RX0) (T := TX0) (N := 13) hx hb hts hin_X0 hown hK.1 T.1 1 rfl rfl 0 (by decide) (hts _ (List.mem_of_getElem? (i := 1) rfl)) (fun _ h9 => h9) rfl dX0_neighbourOf_13 ?_
    refine va_alen (v := 200) hx hb hK.1 T.1 2 0 rfl rfl rfl dX0_neighbourOf_16 ?_
    refine lv_icmp_ge (tgt := 29) hx hb dX0_neighbourOf_17 (by decide) (fun hc => ?_) (fun hc => ?_)
    · replace hf := ifp hc hf
      refine lv_iconst (v := (-1)) hx hb dX0_neighbourOf_29 (by decide) ?_
      obtain rfl := Option.some.inj hf
      exact rt_i X T hr dX0_neighbourOf_30
    · replace hf := ifn hc hf
      refine lv_aload_n hx hb dX0_neighbourOf_20 rfl (lv_at hl 1 rfl) ?_
      refine va_get (D := D) (ci := 0) (v := .ref (ad 2)) (C := RX0) (T := TX0) (N := 13) hx hb hts hin_X0 hown hK.1 T.1 1 rfl rfl 0 (by decide) (hts _ (List.mem_of_getElem? (i := 1) rfl)) (fun _ h9 => h9) rfl dX0_neighbourOf_21 ?_
      refine lv_iload_n hx hb dX0_neighbourOf_24 rfl (lv_at hl 0 rfl) ?_
      obtain ⟨hin, hf⟩ := ck_inv hf
      refine va_iald hx hb hK.1 T.1 2 0 rfl rfl hin dX0_neighbourOf_25 ?_
      refine lv_goto (tgt := 30) hx hb dX0_neighbourOf_26 (by decide) ?_
      obtain rfl := Option.some.inj hf
      exact rt_i X T hr dX0_neighbourOf_30

noncomputable def fX0_storeysUnder_b4 (S : SC) (y1 : Int32) : (Int32 × Int32) → Option ((Int32 × Int32) ⊕ Int32) :=
  fun st => match st with
    | (y2, y3) =>
      if S.1 1 ≤ y3 then
        ex <|
        some y2
      else
        bnd (fX0_spotOf S y1 y3) fun v2 =>
        bnd (fX0_storeysOf S v2) fun v4 =>
        nm (y2 + v4 : Int32) fun v5 =>
        nm (y3 + 1 : Int32) fun v6 =>
        some (.inl (v5, v6))
noncomputable def fX0_storeysUnder (S : SC) (x1 : Int32) : Option Int32 :=
  loop (fX0_storeysUnder_b4 S x1) FUEL (0, 0)
set_option maxHeartbeats 4000000 in
set_option maxRecDepth 100000 in
theorem kX0_storeysUnder (l : Launch) (D : va_G) (cy : Nat → ClassId) (ad : Nat → Nat) (S : SC) (x1 : Int32) (r : Int32) (hf : fX0_storeysUnder S x1 = some r) : CG l D cy (wC cy ad) yX0_storeysUnder wsX0_storeysUnder ({ frames := 1, cells := 0, slots := 0, locals := 23 } : Room) [.ref (ad 1), .int x1] S (some (.int r)) S := by
  refine CG.of (cc := cX0_storeysUnder) (maxL := 4) (ret := (some .int)) (by decide +kernel) rfl (Nat.le_of_ble_eq_true rfl) ?_
  intro p e s m below meth c A ls X hr T hl
  obtain ⟨hx, hb, hml, hown, hts, hlk, hK, hA, hwA⟩ := id X
  have hl : lv_has ls 4 [(0, .ref (ad 1)), (1, .int x1)] := hl
  have hin_X0 : ∀ w ∈ u_ws RX0 TX0 13, w ∈ wsX0_storeysUnder := by decide +kernel
  unfold fX0_storeysUnder at hf
  have l_4 : ∀ (y1 : Int32) (n : Nat) (y2 : Int32) (y3 : Int32) (H : Heap) (locs : List Loc) (ls : Array Slot), loop (fX0_storeysUnder_b4 S y1) n (y2, y3) = some r → ST D (wC cy ad) A s S H locs → lv_has ls 4 [(0, .ref (ad 1)), (1, .int y1), (2, .int y2), (3, .int y3)] → W p l e ({ frames := 1, cells := 0, slots := 0, locals := 23 } : Room) s m [.ref (ad 1), .int x1].toArray below meth c H locs 0 0 (MQ below (QG D (wC cy ad) A (some (.int r)) S) [.ref (ad 1), .int x1].toArray s 0 0 A) (F0 m 4 ls []) := by
    intro y1 n
    induction n with
    | zero => intro _ _ _ _ _ hf; cases hf
    | succ n ih_4 =>
      intro y2 y3 H locs ls hf T hl
      obtain ⟨z_4, hf, hin_4, hex_4⟩ := loop_inv hf
      unfold fX0_storeysUnder_b4 at hf
      dsimp only at hf
      refine lv_iload_n hx hb dX0_storeysUnder_4 rfl (lv_at hl 3 rfl) ?_
      refine lv_aload_n hx hb dX0_storeysUnder_5 rfl (lv_at hl 0 rfl) ?_
      refine va_get (D := D) (ci := 0) (v := .int (S.1 1)) (C := RX0) (T := TX0) (N := 13) hx hb hts hin_X0 hown hK.1 T.1 1 rfl rfl 6 (by decide) (hts _ (List.mem_of_getElem? (i := 1) rfl)) (fun _ h9 => h9) rfl dX0_storeysUnder_6 ?_
      refine lv_icmp_ge (tgt := 31) hx hb dX0_storeysUnder_9 (by decide) (fun hc => ?_) (fun hc => ?_)
      · replace hf := ifp hc hf
        obtain ⟨r0, hf, hz⟩ := ex_inv hf
        rw [hex_4 r0 hz] at hf
        refine lv_iload_n hx hb dX0_storeysUnder_31 rfl (lv_at hl 2 rfl) ?_
        obtain rfl := Option.some.inj hf
        exact rt_i X T hr dX0_storeysUnder_32
      · replace hf := ifn hc hf
        refine lv_iload_n hx hb dX0_storeysUnder_12 rfl (lv_at hl 2 rfl) ?_
        refine lv_aload_n hx hb dX0_storeysUnder_13 rfl (lv_at hl 0 rfl) ?_
        refine lv_aload_n hx hb dX0_storeysUnder_14 rfl (lv_at hl 0 rfl) ?_
        refine lv_iload_n hx hb dX0_storeysUnder_15 rfl (lv_at hl 1 rfl) ?_
        refine lv_iload_n hx hb dX0_storeysUnder_16 rfl (lv_at hl 3 rfl) ?_
        obtain ⟨v2, h1, hf⟩ := bnd_inv hf
        refine cg_V (q0 := 1) (ci := 0) (As := [.int y1, .int y3]) (rest := [.ref (ad 1), .int y2]) X T (kX0_spotOf l D cy ad S y1 y3 v2 h1) (cwV 2 hts gX0_storeysUnder_X0_spotOf rfl rfl rfl (by decide +kernel) ⟨Nat.le_of_ble_eq_true rfl, Nat.le_of_ble_eq_true rfl⟩) rfl rfl rfl hl.1 rfl (Nat.le_of_ble_eq_true rfl) dX0_storeysUnder_17 ⟨Nat.zero_le _, Nat.zero_le _⟩ (st2 := [.int v2, .ref (ad 1), .int y2]) (pc2 := 20) rfl rfl (fun H locs T => ?_)
        obtain ⟨v4, h3, hf⟩ := bnd_inv hf
        refine cg_V (q0 := 1) (ci := 0) (As := [.int v2]) (rest := [.int y2]) X T (kX0_storeysOf l D cy ad S v2 v4 h3) (cwV 1 hts gX0_storeysUnder_X0_storeysOf rfl rfl rfl (by decide +kernel) ⟨Nat.le_of_ble_eq_true rfl, Nat.le_of_ble_eq_true rfl⟩) rfl rfl rfl hl.1 rfl (Nat.le_of_ble_eq_true rfl) dX0_storeysUnder_20 ⟨Nat.zero_le _, Nat.zero_le _⟩ (st2 := [.int v4, .int y2]) (pc2 := 23) rfl rfl (fun H locs T => ?_)
        refine lv_iadd hx hb dX0_storeysUnder_23 ?_
        obtain ⟨v5, e_v5, hf⟩ := nm_inv hf
        rw [← e_v5]
        refine lv_istore_n (lv' := [(2, .int v5), (0, .ref (ad 1)), (1, .int y1), (3, .int y3)]) hx hb dX0_storeysUnder_24 rfl hl (by decide) rfl (fun ls hl => ?_)
        obtain ⟨v6, e_v6, hf⟩ := nm_inv hf
        refine lv_iinc (v := v6) (lv' := [(3, .int v6), (2, .int v5), (0, .ref (ad 1)), (1, .int y1)]) hx hb dX0_storeysUnder_25 hl (k := 3) rfl (by rw [e_v6]; rfl) (by decide) rfl (fun ls hl => ?_)
        refine lv_goto (tgt := 4) hx hb dX0_storeysUnder_28 (by decide) ?_
        exact ih_4 v5 v6 _ _ _ (hin_4 _ (Option.some.inj hf).symm) T (lv_sub hl [2, 3, 1, 0] rfl)
  refine lv_iconst (v := 0) hx hb dX0_storeysUnder_0 (by decide) ?_
  refine lv_istore_n (lv' := [(2, .int 0), (0, .ref (ad 1)), (1, .int x1)]) hx hb dX0_storeysUnder_1 rfl hl (by decide) rfl (fun ls hl => ?_)
  refine lv_iconst (v := 0) hx hb dX0_storeysUnder_2 (by decide) ?_
  refine lv_istore_n (lv' := [(3, .int 0), (2, .int 0), (0, .ref (ad 1)), (1, .int x1)]) hx hb dX0_storeysUnder_3 rfl hl (by decide) rfl (fun ls hl => ?_)
  exact l_4 x1 FUEL 0 0 _ _ _ hf T (lv_sub hl [2, 3, 1, 0] rfl)
end
section
noncomputable def fX0_asideOf (S : SC) (x1 : Int32) (x2 : Int32) (x3 : Int32) : Option Int32 :=
  bnd (fX0_holderOf S x3) fun v2 =>
  if v2 = (-1) then
    some (-1)
  else
    bnd (fX0_powerOf S x1) fun v4 =>
    if v4 = 2 then
      some x2
    else
      some (x3 + (x3 - x2))
set_option maxHeartbeats 4000000 in
set_option maxRecDepth 100000 in
theorem kX0_asideOf (l : Launch) (D : va_G) (cy : Nat → ClassId) (ad : Nat → Nat) (S : SC) (x1 : Int32) (x2 : Int32) (x3 : Int32) (r : Int32) (hf : fX0_asideOf S x1 x2 x3 = some r) : CG l D cy (wC cy ad) yX0_asideOf wsX0_asideOf ({ frames := 1, cells := 0, slots := 0, locals := 21 } : Room) [.ref (ad 1), .int x1, .int x2, .int x3] S (some (.int r)) S := by
  refine CG.of (cc := cX0_asideOf) (maxL := 4) (ret := (some .int)) (by decide +kernel) rfl (Nat.le_of_ble_eq_true rfl) ?_
  intro p e s m below meth c A ls X hr T hl
  obtain ⟨hx, hb, hml, hown, hts, hlk, hK, hA, hwA⟩ := id X
  have hl : lv_has ls 4 [(0, .ref (ad 1)), (1, .int x1), (2, .int x2), (3, .int x3)] := hl
  unfold fX0_asideOf at hf
  refine lv_aload_n hx hb dX0_asideOf_0 rfl (lv_at hl 0 rfl) ?_
  refine lv_iload_n hx hb dX0_asideOf_1 rfl (lv_at hl 3 rfl) ?_
  obtain ⟨v2, h1, hf⟩ := bnd_inv hf
  refine cg_V (q0 := 1) (ci := 0) (As := [.int x3]) (rest := []) X T (kX0_holderOf l D cy ad S x3 v2 h1) (cwV 1 hts gX0_asideOf_X0_holderOf rfl rfl rfl (by decide +kernel) ⟨Nat.le_of_ble_eq_true rfl, Nat.le_of_ble_eq_true rfl⟩) rfl rfl rfl hl.1 rfl (Nat.le_of_ble_eq_true rfl) dX0_asideOf_2 ⟨Nat.zero_le _, Nat.zero_le _⟩ (st2 := [.int v2]) (pc2 := 5) rfl rfl (fun H locs T => ?_)
  refine lv_iconst (v := (-1)) hx hb dX0_asideOf_5 (by decide) ?_
  refine lv_icmp_ne (tgt := 11) hx hb dX0_asideOf_6 (by decide) (fun hc => ?_) (fun hc => ?_)
  · replace hf := ifn hc hf
    refine lv_aload_n hx hb dX0_asideOf_11 rfl (lv_at hl 0 rfl) ?_
    refine lv_iload_n hx hb dX0_asideOf_12 rfl (lv_at hl 1 rfl) ?_
    obtain ⟨v4, h3, hf⟩ := bnd_inv hf
    refine cg_V (q0 := 1) (ci := 0) (As := [.int x1]) (rest := []) X T (kX0_powerOf l D cy ad S x1 v4 h3) (cwV 1 hts gX0_asideOf_X0_powerOf rfl rfl rfl (by decide +kernel) ⟨Nat.le_of_ble_eq_true rfl, Nat.le_of_ble_eq_true rfl⟩) rfl rfl rfl hl.1 rfl (Nat.le_of_ble_eq_true rfl) dX0_asideOf_13 ⟨Nat.zero_le _, Nat.zero_le _⟩ (st2 := [.int v4]) (pc2 := 16) rfl rfl (fun H locs T => ?_)
    refine lv_iconst (v := 2) hx hb dX0_asideOf_16 (by decide) ?_
    refine lv_icmp_ne (tgt := 24) hx hb dX0_asideOf_17 (by decide) (fun hc => ?_) (fun hc => ?_)
    · replace hf := ifn hc hf
      refine lv_iload_n hx hb dX0_asideOf_24 rfl (lv_at hl 3 rfl) ?_
      refine lv_iload_n hx hb dX0_asideOf_25 rfl (lv_at hl 3 rfl) ?_
      refine lv_iload_n hx hb dX0_asideOf_26 rfl (lv_at hl 2 rfl) ?_
      refine lv_isub hx hb dX0_asideOf_27 ?_
      refine lv_iadd hx hb dX0_asideOf_28 ?_
      obtain rfl := Option.some.inj hf
      exact rt_i X T hr dX0_asideOf_29
    · replace hf := ifp hc hf
      refine lv_iload_n hx hb dX0_asideOf_20 rfl (lv_at hl 2 rfl) ?_
      refine lv_goto (tgt := 29) hx hb dX0_asideOf_21 (by decide) ?_
      obtain rfl := Option.some.inj hf
      exact rt_i X T hr dX0_asideOf_29
  · replace hf := ifp hc hf
    refine lv_iconst (v := (-1)) hx hb dX0_asideOf_9 (by decide) ?_
    obtain rfl := Option.some.inj hf
    exact rt_i X T hr dX0_asideOf_10

noncomputable def fX0_canEnter (S : SC) (x1 : Int32) (x2 : Int32) (x3 : Int32) : Option Int32 :=
  bnd (fX0_holderOf S x2) fun v2 =>
  if v2 = (-1) then
    bnd (fX0_isOpen S x2) fun v12 =>
    cp (v12 = 0 ∨ v12 = 1) <|
    some v12
  else
    if v2 / 10 = x1 then
      some 0
    else
      bnd (fX0_powerOf S x1) fun v4 =>
      if v4 = 2 then
        some 1
      else
        bnd (fX0_powerOf S x1) fun v6 =>
        if v6 = 3 then
          bnd (fX0_neighbourOf S x2 x3) fun v8 =>
          bnd (fX0_isOpen S v8) fun v10 =>
          if v10 = 0 then
            some 0
          else
            some 1
        else
          some 0
set_option maxHeartbeats 4000000 in
set_option maxRecDepth 100000 in
theorem kX0_canEnter (l : Launch) (D : va_G) (cy : Nat → ClassId) (ad : Nat → Nat) (S : SC) (x1 : Int32) (x2 : Int32) (x3 : Int32) (r : Int32) (hf : fX0_canEnter S x1 x2 x3 = some r) : CG l D cy (wC cy ad) yX0_canEnter wsX0_canEnter ({ frames := 1, cells := 0, slots := 0, locals := 23 } : Room) [.ref (ad 1), .int x1, .int x2, .int x3] S (some (.int r)) S := by
  refine CG.of (cc := cX0_canEnter) (maxL := 5) (ret := (some .boolean)) (by decide +kernel) rfl (Nat.le_of_ble_eq_true rfl) ?_
  intro p e s m below meth c A ls X hr T hl
  obtain ⟨hx, hb, hml, hown, hts, hlk, hK, hA, hwA⟩ := id X
  have hl : lv_has ls 5 [(0, .ref (ad 1)), (1, .int x1), (2, .int x2), (3, .int x3)] := hl
  unfold fX0_canEnter at hf
  refine lv_aload_n hx hb dX0_canEnter_0 rfl (lv_at hl 0 rfl) ?_
  refine lv_iload_n hx hb dX0_canEnter_1 rfl (lv_at hl 2 rfl) ?_
  obtain ⟨v2, h1, hf⟩ := bnd_inv hf
  refine cg_V (q0 := 1) (ci := 0) (As := [.int x2]) (rest := []) X T (kX0_holderOf l D cy ad S x2 v2 h1) (cwV 1 hts gX0_canEnter_X0_holderOf rfl rfl rfl (by decide +kernel) ⟨Nat.le_of_ble_eq_true rfl, Nat.le_of_ble_eq_true rfl⟩) rfl rfl rfl hl.1 rfl (Nat.le_of_ble_eq_true rfl) dX0_canEnter_2 ⟨Nat.zero_le _, Nat.zero_le _⟩ (st2 := [.int v2]) (pc2 := 5) rfl rfl (fun H locs T => ?_)
  refine lv_istore (lv' := [(4, .int v2), (0, .ref (ad 1)), (1, .int x1), (2, .int x2), (3, .int x3)]) hx hb dX0_canEnter_5 hl (by decide) rfl (fun ls hl => ?_)
  refine lv_iload hx hb dX0_canEnter_7 (lv_at hl 0 rfl) ?_
  refine lv_iconst (v := (-1)) hx hb dX0_canEnter_9 (by decide) ?_
  refine lv_icmp_ne (tgt := 19) hx hb dX0_canEnter_10 (by decide) (fun hc => ?_) (fun hc => ?_)
  · replace hf := ifn hc hf
    refine lv_iload hx hb dX0_canEnter_19 (lv_at hl 0 rfl) ?_
    refine lv_bipush (v := 10) hx hb dX0_canEnter_21 (by decide) ?_
    refine lv_idiv hx hb dX0_canEnter_23 (by decide) ?_
    refine lv_iload_n hx hb dX0_canEnter_24 rfl (lv_at hl 2 rfl) ?_
    refine lv_icmp_ne (tgt := 30) hx hb dX0_canEnter_25 (by decide) (fun hc => ?_) (fun hc => ?_)
    · replace hf := ifn hc hf
      refine lv_aload_n hx hb dX0_canEnter_30 rfl (lv_at hl 1 rfl) ?_
      refine lv_iload_n hx hb dX0_canEnter_31 rfl (lv_at hl 2 rfl) ?_
      obtain ⟨v4, h3, hf⟩ := bnd_inv hf
      refine cg_V (q0 := 1) (ci := 0) (As := [.int x1]) (rest := []) X T (kX0_powerOf l D cy ad S x1 v4 h3) (cwV 1 hts gX0_canEnter_X0_powerOf rfl rfl rfl (by decide +kernel) ⟨Nat.le_of_ble_eq_true rfl, Nat.le_of_ble_eq_true rfl⟩) rfl rfl rfl hl.1 rfl (Nat.le_of_ble_eq_true rfl) dX0_canEnter_32 ⟨Nat.zero_le _, Nat.zero_le _⟩ (st2 := [.int v4]) (pc2 := 35) rfl rfl (fun H locs T => ?_)
      refine lv_iconst (v := 2) hx hb dX0_canEnter_35 (by decide) ?_
      refine lv_icmp_eq (tgt := 61) hx hb dX0_canEnter_36 (by decide) (fun hc => ?_) (fun hc => ?_)
      · replace hf := ifp hc hf
        refine lv_iconst (v := 1) hx hb dX0_canEnter_61 (by decide) ?_
        refine lv_goto (tgt := 66) hx hb dX0_canEnter_62 (by decide) ?_
        obtain rfl := Option.some.inj hf
        exact rt_z X T hr (Or.inr rfl) dX0_canEnter_66
      · replace hf := ifn hc hf
        refine lv_aload_n hx hb dX0_canEnter_39 rfl (lv_at hl 1 rfl) ?_
        refine lv_iload_n hx hb dX0_canEnter_40 rfl (lv_at hl 2 rfl) ?_
        obtain ⟨v6, h5, hf⟩ := bnd_inv hf
        refine cg_V (q0 := 1) (ci := 0) (As := [.int x1]) (rest := []) X T (kX0_powerOf l D cy ad S x1 v6 h5) (cwV 1 hts gX0_canEnter_X0_powerOf rfl rfl rfl (by decide +kernel) ⟨Nat.le_of_ble_eq_true rfl, Nat.le_of_ble_eq_true rfl⟩) rfl rfl rfl hl.1 rfl (Nat.le_of_ble_eq_true rfl) dX0_canEnter_41 ⟨Nat.zero_le _, Nat.zero_le _⟩ (st2 := [.int v6]) (pc2 := 44) rfl rfl (fun H locs T => ?_)
        refine lv_iconst (v := 3) hx hb dX0_canEnter_44 (by decide) ?_
        refine lv_icmp_ne (tgt := 65) hx hb dX0_canEnter_45 (by decide) (fun hc => ?_) (fun hc => ?_)
        · replace hf := ifn hc hf
          refine lv_iconst (v := 0) hx hb dX0_canEnter_65 (by decide) ?_
          obtain rfl := Option.some.inj hf
          exact rt_z X T hr (Or.inl rfl) dX0_canEnter_66
        · replace hf := ifp hc hf
          refine lv_aload_n hx hb dX0_canEnter_48 rfl (lv_at hl 1 rfl) ?_
          refine lv_aload_n hx hb dX0_canEnter_49 rfl (lv_at hl 1 rfl) ?_
          refine lv_iload_n hx hb dX0_canEnter_50 rfl (lv_at hl 3 rfl) ?_
          refine lv_iload_n hx hb dX0_canEnter_51 rfl (lv_at hl 4 rfl) ?_
          obtain ⟨v8, h7, hf⟩ := bnd_inv hf
          refine cg_V (q0 := 1) (ci := 0) (As := [.int x2, .int x3]) (rest := [.ref (ad 1)]) X T (kX0_neighbourOf l D cy ad S x2 x3 v8 h7) (cwV 2 hts gX0_canEnter_X0_neighbourOf rfl rfl rfl (by decide +kernel) ⟨Nat.le_of_ble_eq_true rfl, Nat.le_of_ble_eq_true rfl⟩) rfl rfl rfl hl.1 rfl (Nat.le_of_ble_eq_true rfl) dX0_canEnter_52 ⟨Nat.zero_le _, Nat.zero_le _⟩ (st2 := [.int v8, .ref (ad 1)]) (pc2 := 55) rfl rfl (fun H locs T => ?_)
          obtain ⟨v10, h9, hf⟩ := bnd_inv hf
          refine cg_V (q0 := 1) (ci := 0) (As := [.int v8]) (rest := []) X T (kX0_isOpen l D cy ad S v8 v10 h9) (cwV 1 hts gX0_canEnter_X0_isOpen rfl rfl rfl (by decide +kernel) ⟨Nat.le_of_ble_eq_true rfl, Nat.le_of_ble_eq_true rfl⟩) rfl rfl rfl hl.1 rfl (Nat.le_of_ble_eq_true rfl) dX0_canEnter_55 ⟨Nat.zero_le _, Nat.zero_le _⟩ (st2 := [.int v10]) (pc2 := 58) rfl rfl (fun H locs T => ?_)
          refine lv_if_eq (tgt := 65) hx hb dX0_canEnter_58 (by decide) (fun hc => ?_) (fun hc => ?_)
          · replace hf := ifp hc hf
            refine lv_iconst (v := 0) hx hb dX0_canEnter_65 (by decide) ?_
            obtain rfl := Option.some.inj hf
            exact rt_z X T hr (Or.inl rfl) dX0_canEnter_66
          · replace hf := ifn hc hf
            refine lv_iconst (v := 1) hx hb dX0_canEnter_61 (by decide) ?_
            refine lv_goto (tgt := 66) hx hb dX0_canEnter_62 (by decide) ?_
            obtain rfl := Option.some.inj hf
            exact rt_z X T hr (Or.inr rfl) dX0_canEnter_66
    · replace hf := ifp hc hf
      refine lv_iconst (v := 0) hx hb dX0_canEnter_28 (by decide) ?_
      obtain rfl := Option.some.inj hf
      exact rt_z X T hr (Or.inl rfl) dX0_canEnter_29
  · replace hf := ifp hc hf
    refine lv_aload_n hx hb dX0_canEnter_13 rfl (lv_at hl 1 rfl) ?_
    refine lv_iload_n hx hb dX0_canEnter_14 rfl (lv_at hl 3 rfl) ?_
    obtain ⟨v12, h11, hf⟩ := bnd_inv hf
    refine cg_V (q0 := 1) (ci := 0) (As := [.int x2]) (rest := []) X T (kX0_isOpen l D cy ad S x2 v12 h11) (cwV 1 hts gX0_canEnter_X0_isOpen rfl rfl rfl (by decide +kernel) ⟨Nat.le_of_ble_eq_true rfl, Nat.le_of_ble_eq_true rfl⟩) rfl rfl rfl hl.1 rfl (Nat.le_of_ble_eq_true rfl) dX0_canEnter_15 ⟨Nat.zero_le _, Nat.zero_le _⟩ (st2 := [.int v12]) (pc2 := 18) rfl rfl (fun H locs T => ?_)
    obtain ⟨hz1, hf⟩ := cp_inv hf
    obtain rfl := Option.some.inj hf
    exact rt_z X T hr hz1 dX0_canEnter_18

noncomputable def fX0_isOpenBehind (S : SC) (x1 : Int32) (x2 : Int32) (x3 : Int32) : Option Int32 :=
  if x3 = x2 then
    some 0
  else
    if x3 = x1 then
      some 1
    else
      bnd (fX0_isOpen S x3) fun v2 =>
      if v2 = 0 then
        some 0
      else
        some 1
set_option maxHeartbeats 4000000 in
set_option maxRecDepth 100000 in
theorem kX0_isOpenBehind (l : Launch) (D : va_G) (cy : Nat → ClassId) (ad : Nat → Nat) (S : SC) (x1 : Int32) (x2 : Int32) (x3 : Int32) (r : Int32) (hf : fX0_isOpenBehind S x1 x2 x3 = some r) : CG l D cy (wC cy ad) yX0_isOpenBehind wsX0_isOpenBehind ({ frames := 1, cells := 0, slots := 0, locals := 21 } : Room) [.ref (ad 1), .int x1, .int x2, .int x3] S (some (.int r)) S := by
  refine CG.of (cc := cX0_isOpenBehind) (maxL := 4) (ret := (some .boolean)) (by decide +kernel) rfl (Nat.le_of_ble_eq_true rfl) ?_
  intro p e s m below meth c A ls X hr T hl
  obtain ⟨hx, hb, hml, hown, hts, hlk, hK, hA, hwA⟩ := id X
  have hl : lv_has ls 4 [(0, .ref (ad 1)), (1, .int x1), (2, .int x2), (3, .int x3)] := hl
  unfold fX0_isOpenBehind at hf
  refine lv_iload_n hx hb dX0_isOpenBehind_0 rfl (lv_at hl 3 rfl) ?_
  refine lv_iload_n hx hb dX0_isOpenBehind_1 rfl (lv_at hl 2 rfl) ?_
  refine lv_icmp_eq (tgt := 22) hx hb dX0_isOpenBehind_2 (by decide) (fun hc => ?_) (fun hc => ?_)
  · replace hf := ifp hc hf
    refine lv_iconst (v := 0) hx hb dX0_isOpenBehind_22 (by decide) ?_
    obtain rfl := Option.some.inj hf
    exact rt_z X T hr (Or.inl rfl) dX0_isOpenBehind_23
  · replace hf := ifn hc hf
    refine lv_iload_n hx hb dX0_isOpenBehind_5 rfl (lv_at hl 3 rfl) ?_
    refine lv_iload_n hx hb dX0_isOpenBehind_6 rfl (lv_at hl 1 rfl) ?_
    refine lv_icmp_eq (tgt := 18) hx hb dX0_isOpenBehind_7 (by decide) (fun hc => ?_) (fun hc => ?_)
    · replace hf := ifp hc hf
      refine lv_iconst (v := 1) hx hb dX0_isOpenBehind_18 (by decide) ?_
      refine lv_goto (tgt := 23) hx hb dX0_isOpenBehind_19 (by decide) ?_
      obtain rfl := Option.some.inj hf
      exact rt_z X T hr (Or.inr rfl) dX0_isOpenBehind_23
    · replace hf := ifn hc hf
      refine lv_aload_n hx hb dX0_isOpenBehind_10 rfl (lv_at hl 0 rfl) ?_
      refine lv_iload_n hx hb dX0_isOpenBehind_11 rfl (lv_at hl 3 rfl) ?_
      obtain ⟨v2, h1, hf⟩ := bnd_inv hf
      refine cg_V (q0 := 1) (ci := 0) (As := [.int x3]) (rest := []) X T (kX0_isOpen l D cy ad S x3 v2 h1) (cwV 1 hts gX0_isOpenBehind_X0_isOpen rfl rfl rfl (by decide +kernel) ⟨Nat.le_of_ble_eq_true rfl, Nat.le_of_ble_eq_true rfl⟩) rfl rfl rfl hl.1 rfl (Nat.le_of_ble_eq_true rfl) dX0_isOpenBehind_12 ⟨Nat.zero_le _, Nat.zero_le _⟩ (st2 := [.int v2]) (pc2 := 15) rfl rfl (fun H locs T => ?_)
      refine lv_if_eq (tgt := 22) hx hb dX0_isOpenBehind_15 (by decide) (fun hc => ?_) (fun hc => ?_)
      · replace hf := ifp hc hf
        refine lv_iconst (v := 0) hx hb dX0_isOpenBehind_22 (by decide) ?_
        obtain rfl := Option.some.inj hf
        exact rt_z X T hr (Or.inl rfl) dX0_isOpenBehind_23
      · replace hf := ifn hc hf
        refine lv_iconst (v := 1) hx hb dX0_isOpenBehind_18 (by decide) ?_
        refine lv_goto (tgt := 23) hx hb dX0_isOpenBehind_19 (by decide) ?_
        obtain rfl := Option.some.inj hf
        exact rt_z X T hr (Or.inr rfl) dX0_isOpenBehind_23

noncomputable def fX0_canBuild_b12 (S : SC) (y2 : Int32) (y3 : Int32) (y4 : Int32) : Int32 → Option (Int32 ⊕ Int32) :=
  fun y5 =>
    if (8 : Int32) ≤ y5 then
      ex <|
      some 0
    else
      bnd (fX0_neighbourOf S y3 y5) fun v2 =>
      bnd (fX0_isOpenBehind S y2 y4 v2) fun v4 =>
      if v4 = 0 then
        nm (y5 + 1 : Int32) fun v5 =>
        some (.inl v5)
      else
        ex <|
        some 1
noncomputable def fX0_canBuild (S : SC) (x1 : Int32) (x2 : Int32) (x3 : Int32) : Option Int32 :=
  bnd (fX0_asideOf S x1 x2 x3) fun v7 =>
  loop (fX0_canBuild_b12 S x2 x3 v7) FUEL 0
set_option maxHeartbeats 4000000 in
set_option maxRecDepth 100000 in
theorem kX0_canBuild (l : Launch) (D : va_G) (cy : Nat → ClassId) (ad : Nat → Nat) (S : SC) (x1 : Int32) (x2 : Int32) (x3 : Int32) (r : Int32) (hf : fX0_canBuild S x1 x2 x3 = some r) : CG l D cy (wC cy ad) yX0_canBuild wsX0_canBuild ({ frames := 2, cells := 0, slots := 0, locals := 44 } : Room) [.ref (ad 1), .int x1, .int x2, .int x3] S (some (.int r)) S := by
  refine CG.of (cc := cX0_canBuild) (maxL := 6) (ret := (some .boolean)) (by decide +kernel) rfl (Nat.le_of_ble_eq_true rfl) ?_
  intro p e s m below meth c A ls X hr T hl
  obtain ⟨hx, hb, hml, hown, hts, hlk, hK, hA, hwA⟩ := id X
  have hl : lv_has ls 6 [(0, .ref (ad 1)), (1, .int x1), (2, .int x2), (3, .int x3)] := hl
  unfold fX0_canBuild at hf
  have l_12 : ∀ (y2 : Int32) (y3 : Int32) (y4 : Int32) (n : Nat) (y5 : Int32) (H : Heap) (locs : List Loc) (ls : Array Slot), loop (fX0_canBuild_b12 S y2 y3 y4) n y5 = some r → ST D (wC cy ad) A s S H locs → lv_has ls 6 [(0, .ref (ad 1)), (2, .int y2), (3, .int y3), (4, .int y4), (5, .int y5)] → W p l e ({ frames := 2, cells := 0, slots := 0, locals := 44 } : Room) s m [.ref (ad 1), .int x1, .int x2, .int x3].toArray below meth c H locs 0 0 (MQ below (QG D (wC cy ad) A (some (.int r)) S) [.ref (ad 1), .int x1, .int x2, .int x3].toArray s 0 0 A) (F0 m 12 ls []) := by
    intro y2 y3 y4 n
    induction n with
    | zero => intro _ _ _ _ hf; cases hf
    | succ n ih_12 =>
      intro y5 H locs ls hf T hl
      obtain ⟨z_12, hf, hin_12, hex_12⟩ := loop_inv hf
      unfold fX0_canBuild_b12 at hf
      refine lv_iload hx hb dX0_canBuild_12 (lv_at hl 4 rfl) ?_
      refine lv_bipush (v := 8) hx hb dX0_canBuild_14 (by decide) ?_
      refine lv_icmp_ge (tgt := 44) hx hb dX0_canBuild_16 (by decide) (fun hc => ?_) (fun hc => ?_)
      · replace hf := ifp hc hf
        obtain ⟨r0, hf, hz⟩ := ex_inv hf
        rw [hex_12 r0 hz] at hf
        refine lv_iconst (v := 0) hx hb dX0_canBuild_44 (by decide) ?_
        obtain rfl := Option.some.inj hf
        exact rt_z X T hr (Or.inl rfl) dX0_canBuild_45
      · replace hf := ifn hc hf
        refine lv_aload_n hx hb dX0_canBuild_19 rfl (lv_at hl 0 rfl) ?_
        refine lv_iload_n hx hb dX0_canBuild_20 rfl (lv_at hl 1 rfl) ?_
        refine lv_iload hx hb dX0_canBuild_21 (lv_at hl 3 rfl) ?_
        refine lv_aload_n hx hb dX0_canBuild_23 rfl (lv_at hl 0 rfl) ?_
        refine lv_iload_n hx hb dX0_canBuild_24 rfl (lv_at hl 2 rfl) ?_
        refine lv_iload hx hb dX0_canBuild_25 (lv_at hl 4 rfl) ?_
        obtain ⟨v2, h1, hf⟩ := bnd_inv hf
        refine cg_V (q0 := 1) (ci := 0) (As := [.int y3, .int y5]) (rest := [.int y4, .int y2, .ref (ad 1)]) X T (kX0_neighbourOf l D cy ad S y3 y5 v2 h1) (cwV 2 hts gX0_canBuild_X0_neighbourOf rfl rfl rfl (by decide +kernel) ⟨Nat.le_of_ble_eq_true rfl, Nat.le_of_ble_eq_true rfl⟩) rfl rfl rfl hl.1 rfl (Nat.le_of_ble_eq_true rfl) dX0_canBuild_27 ⟨Nat.zero_le _, Nat.zero_le _⟩ (st2 := [.int v2, .int y4, .int y2, .ref (ad 1)]) (pc2 := 30) rfl rfl (fun H locs T => ?_)
        obtain ⟨v4, h3, hf⟩ := bnd_inv hf
        refine cg_V (q0 := 1) (ci := 0) (As := [.int y2, .int y4, .int v2]) (rest := []) X T (kX0_isOpenBehind l D cy ad S y2 y4 v2 v4 h3) (cwV 3 hts gX0_canBuild_X0_isOpenBehind rfl rfl rfl (by decide +kernel) ⟨Nat.le_of_ble_eq_true rfl, Nat.le_of_ble_eq_true rfl⟩) rfl rfl rfl hl.1 rfl (Nat.le_of_ble_eq_true rfl) dX0_canBuild_30 ⟨Nat.zero_le _, Nat.zero_le _⟩ (st2 := [.int v4]) (pc2 := 33) rfl rfl (fun H locs T => ?_)
        refine lv_if_eq (tgt := 38) hx hb dX0_canBuild_33 (by decide) (fun hc => ?_) (fun hc => ?_)
        · replace hf := ifp hc hf
          obtain ⟨v5, e_v5, hf⟩ := nm_inv hf
          refine lv_iinc (v := v5) (lv' := [(5, .int v5), (0, .ref (ad 1)), (2, .int y2), (3, .int y3), (4, .int y4)]) hx hb dX0_canBuild_38 hl (k := 4) rfl (by rw [e_v5]; rfl) (by decide) rfl (fun ls hl => ?_)
          refine lv_goto (tgt := 12) hx hb dX0_canBuild_41 (by decide) ?_
          exact ih_12 v5 _ _ _ (hin_12 _ (Option.some.inj hf).symm) T (lv_sub hl [1, 2, 3, 4, 0] rfl)
        · replace hf := ifn hc hf
          obtain ⟨r0, hf, hz⟩ := ex_inv hf
          rw [hex_12 r0 hz] at hf
          refine lv_iconst (v := 1) hx hb dX0_canBuild_36 (by decide) ?_
          obtain rfl := Option.some.inj hf
          exact rt_z X T hr (Or.inr rfl) dX0_canBuild_37
  refine lv_aload_n hx hb dX0_canBuild_0 rfl (lv_at hl 0 rfl) ?_
  refine lv_iload_n hx hb dX0_canBuild_1 rfl (lv_at hl 1 rfl) ?_
  refine lv_iload_n hx hb dX0_canBuild_2 rfl (lv_at hl 2 rfl) ?_
  refine lv_iload_n hx hb dX0_canBuild_3 rfl (lv_at hl 3 rfl) ?_
  obtain ⟨v7, h6, hf⟩ := bnd_inv hf
  refine cg_V (q0 := 1) (ci := 0) (As := [.int x1, .int x2, .int x3]) (rest := []) X T (kX0_asideOf l D cy ad S x1 x2 x3 v7 h6) (cwV 3 hts gX0_canBuild_X0_asideOf rfl rfl rfl (by decide +kernel) ⟨Nat.le_of_ble_eq_true rfl, Nat.le_of_ble_eq_true rfl⟩) rfl rfl rfl hl.1 rfl (Nat.le_of_ble_eq_true rfl) dX0_canBuild_4 ⟨Nat.zero_le _, Nat.zero_le _⟩ (st2 := [.int v7]) (pc2 := 7) rfl rfl (fun H locs T => ?_)
  refine lv_istore (lv' := [(4, .int v7), (0, .ref (ad 1)), (1, .int x1), (2, .int x2), (3, .int x3)]) hx hb dX0_canBuild_7 hl (by decide) rfl (fun ls hl => ?_)
  refine lv_iconst (v := 0) hx hb dX0_canBuild_9 (by decide) ?_
  refine lv_istore (lv' := [(5, .int 0), (4, .int v7), (0, .ref (ad 1)), (1, .int x1), (2, .int x2), (3, .int x3)]) hx hb dX0_canBuild_10 hl (by decide) rfl (fun ls hl => ?_)
  exact l_12 x2 x3 v7 FUEL 0 _ _ _ hf T (lv_sub hl [2, 4, 5, 1, 0] rfl)

noncomputable def fX0_stepOf_j98 (S : SC) (y4 : Int32) (z0 : Int32) : Option Int64 :=
  if z0 = 0 then
    some ((1 : Int64) <<< (y4.toInt64 &&& 63))
  else
    some ((1 : Int64) <<< ((y4 + 32).toInt64 &&& 63))
noncomputable def fX0_stepOf_j97 (S : SC) (y4 : Int32) : Option Int64 :=
  fX0_stepOf_j98 S y4 0
noncomputable def fX0_stepOf_j93 (S : SC) (y4 : Int32) : Option Int64 :=
  fX0_stepOf_j98 S y4 1
noncomputable def fX0_stepOf_j77 (S : SC) (y1 : Int32) (y4 : Int32) (y5 : Int32) : Option Int64 :=
  if ((-2) : Int32) < y5 then
    fX0_stepOf_j97 S y4
  else
    bnd (fX0_powerOf S y1) fun v2 =>
    if v2 = 5 then
      fX0_stepOf_j93 S y4
    else
      fX0_stepOf_j97 S y4
noncomputable def fX0_stepOf_j34 (S : SC) (y1 : Int32) (y3 : Int32) (y4 : Int32) (y5 : Int32) (z0 : Int32) : Option Int64 :=
  if y4 = (-1) then
    some (0 : Int64)
  else
    if z0 < y5 then
      some (0 : Int64)
    else
      bnd (fX0_canEnter S y1 y4 y3) fun v4 =>
      if v4 = 0 then
        some (0 : Int64)
      else
        if y5 ≤ 0 then
          fX0_stepOf_j77 S y1 y4 y5
        else
          bnd (fX0_storeysOf S y4) fun v6 =>
          if v6 = 3 then
            fX0_stepOf_j93 S y4
          else
            fX0_stepOf_j77 S y1 y4 y5
noncomputable def fX0_stepOf (S : SC) (x1 : Int32) (x2 : Int32) (x3 : Int32) : Option Int64 :=
  bnd (fX0_neighbourOf S x2 x3) fun v8 =>
  bnd (fX0_storeysOf S v8) fun v10 =>
  bnd (fX0_storeysOf S x2) fun v12 =>
  nm (v10 - v12 : Int32) fun v13 =>
  if S.1 7 = 0 then
    fX0_stepOf_j34 S x1 x3 v8 v13 1
  else
    fX0_stepOf_j34 S x1 x3 v8 v13 0
set_option maxHeartbeats 4000000 in
set_option maxRecDepth 100000 in
theorem kX0_stepOf (l : Launch) (D : va_G) (cy : Nat → ClassId) (ad : Nat → Nat) (S : SC) (x1 : Int32) (x2 : Int32) (x3 : Int32) (r : Int64) (hf : fX0_stepOf S x1 x2 x3 = some r) : CG l D cy (wC cy ad) yX0_stepOf wsX0_stepOf ({ frames := 2, cells := 0, slots := 0, locals := 47 } : Room) [.ref (ad 1), .int x1, .int x2, .int x3] S (some (.long r)) S := by
  refine CG.of (cc := cX0_stepOf) (maxL := 8) (ret := (some .long)) (by decide +kernel) rfl (Nat.le_of_ble_eq_true rfl) ?_
  intro p e s m below meth c A ls X hr T hl
  obtain ⟨hx, hb, hml, hown, hts, hlk, hK, hA, hwA⟩ := id X
  have hl : lv_has ls 8 [(0, .ref (ad 1)), (1, .int x1), (2, .int x2), (3, .int x3)] := hl
  have hin_X0 : ∀ w ∈ u_ws RX0 TX0 13, w ∈ wsX0_stepOf := by decide +kernel
  unfold fX0_stepOf at hf
  have j_98 : ∀ (y4 : Int32) (z0 : Int32) (H : Heap) (locs : List Loc) (ls : Array Slot), fX0_stepOf_j98 S y4 z0 = some r → ST D (wC cy ad) A s S H locs → lv_has ls 8 [(4, .int y4)] → W p l e ({ frames := 2, cells := 0, slots := 0, locals := 47 } : Room) s m [.ref (ad 1), .int x1, .int x2, .int x3].toArray below meth c H locs 0 0 (MQ below (QG D (wC cy ad) A (some (.long r)) S) [.ref (ad 1), .int x1, .int x2, .int x3].toArray s 0 0 A) (F0 m 98 ls [.int z0]) := by
    intro y4 z0 H locs ls hf T hl
    unfold fX0_stepOf_j98 at hf
    refine lv_istore (lv' := [(7, .int z0), (4, .int y4)]) hx hb dX0_stepOf_98 hl (by decide) rfl (fun ls hl => ?_)
    refine lv_lconst (v := 1) hx hb dX0_stepOf_100 (by decide) ?_
    refine lv_iload hx hb dX0_stepOf_101 (lv_at hl 0 rfl) ?_
    refine lv_if_eq (tgt := 114) hx hb dX0_stepOf_103 (by decide) (fun hc => ?_) (fun hc => ?_)
    · replace hf := ifp hc hf
      refine lv_iload hx hb dX0_stepOf_114 (lv_at hl 1 rfl) ?_
      refine lv_lshl hx hb dX0_stepOf_116 rfl ?_
      obtain rfl := Option.some.inj hf
      exact rt_l X T hr dX0_stepOf_117
    · replace hf := ifn hc hf
      refine lv_iload hx hb dX0_stepOf_106 (lv_at hl 1 rfl) ?_
      refine lv_bipush (v := 32) hx hb dX0_stepOf_108 (by decide) ?_
      refine lv_iadd hx hb dX0_stepOf_110 ?_
      refine lv_goto (tgt := 116) hx hb dX0_stepOf_111 (by decide) ?_
      refine lv_lshl hx hb dX0_stepOf_116 rfl ?_
      obtain rfl := Option.some.inj hf
      exact rt_l X T hr dX0_stepOf_117
  have j_97 : ∀ (y4 : Int32) (H : Heap) (locs : List Loc) (ls : Array Slot), fX0_stepOf_j97 S y4 = some r → ST D (wC cy ad) A s S H locs → lv_has ls 8 [(4, .int y4)] → W p l e ({ frames := 2, cells := 0, slots := 0, locals := 47 } : Room) s m [.ref (ad 1), .int x1, .int x2, .int x3].toArray below meth c H locs 0 0 (MQ below (QG D (wC cy ad) A (some (.long r)) S) [.ref (ad 1), .int x1, .int x2, .int x3].toArray s 0 0 A) (F0 m 97 ls []) := by
    intro y4 H locs ls hf T hl
    unfold fX0_stepOf_j97 at hf
    refine lv_iconst (v := 0) hx hb dX0_stepOf_97 (by decide) ?_
    exact j_98 y4 0 _ _ _ hf T (lv_sub hl [0] rfl)
  have j_93 : ∀ (y4 : Int32) (H : Heap) (locs : List Loc) (ls : Array Slot), fX0_stepOf_j93 S y4 = some r → ST D (wC cy ad) A s S H locs → lv_has ls 8 [(4, .int y4)] → W p l e ({ frames := 2, cells := 0, slots := 0, locals := 47 } : Room) s m [.ref (ad 1), .int x1, .int x2, .int x3].toArray below meth c H locs 0 0 (MQ below (QG D (wC cy ad) A (some (.long r)) S) [.ref (ad 1), .int x1, .int x2, .int x3].toArray s 0 0 A) (F0 m 93 ls []) := by
    intro y4 H locs ls hf T hl
    unfold fX0_stepOf_j93 at hf
    refine lv_iconst (v := 1) hx hb dX0_stepOf_93 (by decide) ?_
    refine lv_goto (tgt := 98) hx hb dX0_stepOf_94 (by decide) ?_
    exact j_98 y4 1 _ _ _ hf T (lv_sub hl [0] rfl)
  have j_77 : ∀ (y1 : Int32) (y4 : Int32) (y5 : Int32) (H : Heap) (locs : List Loc) (ls : Array Slot), fX0_stepOf_j77 S y1 y4 y5 = some r → ST D (wC cy ad) A s S H locs → lv_has ls 8 [(0, .ref (ad 1)), (1, .int y1), (4, .int y4), (5, .int y5)] → W p l e ({ frames := 2, cells := 0, slots := 0, locals := 47 } : Room) s m [.ref (ad 1), .int x1, .int x2, .int x3].toArray below meth c H locs 0 0 (MQ below (QG D (wC cy ad) A (some (.long r)) S) [.ref (ad 1), .int x1, .int x2, .int x3].toArray s 0 0 A) (F0 m 77 ls []) := by
    intro y1 y4 y5 H locs ls hf T hl
    unfold fX0_stepOf_j77 at hf
    refine lv_iload hx hb dX0_stepOf_77 (lv_at hl 3 rfl) ?_
    refine lv_bipush (v := (-2)) hx hb dX0_stepOf_79 (by decide) ?_
    refine lv_icmp_gt (tgt := 97) hx hb dX0_stepOf_81 (by decide) (fun hc => ?_) (fun hc => ?_)
    · replace hf := ifp hc hf
      exact j_97 y4 _ _ _ hf T (lv_sub hl [2] rfl)
    · replace hf := ifn hc hf
      refine lv_aload_n hx hb dX0_stepOf_84 rfl (lv_at hl 0 rfl) ?_
      refine lv_iload_n hx hb dX0_stepOf_85 rfl (lv_at hl 1 rfl) ?_
      obtain ⟨v2, h1, hf⟩ := bnd_inv hf
      refine cg_V (q0 := 1) (ci := 0) (As := [.int y1]) (rest := []) X T (kX0_powerOf l D cy ad S y1 v2 h1) (cwV 1 hts gX0_stepOf_X0_powerOf rfl rfl rfl (by decide +kernel) ⟨Nat.le_of_ble_eq_true rfl, Nat.le_of_ble_eq_true rfl⟩) rfl rfl rfl hl.1 rfl (Nat.le_of_ble_eq_true rfl) dX0_stepOf_86 ⟨Nat.zero_le _, Nat.zero_le _⟩ (st2 := [.int v2]) (pc2 := 89) rfl rfl (fun H locs T => ?_)
      refine lv_iconst (v := 5) hx hb dX0_stepOf_89 (by decide) ?_
      refine lv_icmp_ne (tgt := 97) hx hb dX0_stepOf_90 (by decide) (fun hc => ?_) (fun hc => ?_)
      · replace hf := ifn hc hf
        exact j_97 y4 _ _ _ hf T (lv_sub hl [2] rfl)
      · replace hf := ifp hc hf
        exact j_93 y4 _ _ _ hf T (lv_sub hl [2] rfl)
  have j_34 : ∀ (y1 : Int32) (y3 : Int32) (y4 : Int32) (y5 : Int32) (z0 : Int32) (H : Heap) (locs : List Loc) (ls : Array Slot), fX0_stepOf_j34 S y1 y3 y4 y5 z0 = some r → ST D (wC cy ad) A s S H locs → lv_has ls 8 [(0, .ref (ad 1)), (1, .int y1), (3, .int y3), (4, .int y4), (5, .int y5)] → W p l e ({ frames := 2, cells := 0, slots := 0, locals := 47 } : Room) s m [.ref (ad 1), .int x1, .int x2, .int x3].toArray below meth c H locs 0 0 (MQ below (QG D (wC cy ad) A (some (.long r)) S) [.ref (ad 1), .int x1, .int x2, .int x3].toArray s 0 0 A) (F0 m 34 ls [.int z0]) := by
    intro y1 y3 y4 y5 z0 H locs ls hf T hl
    unfold fX0_stepOf_j34 at hf
    refine lv_istore (lv' := [(6, .int z0), (0, .ref (ad 1)), (1, .int y1), (3, .int y3), (4, .int y4), (5, .int y5)]) hx hb dX0_stepOf_34 hl (by decide) rfl (fun ls hl => ?_)
    refine lv_iload hx hb dX0_stepOf_36 (lv_at hl 4 rfl) ?_
    refine lv_iconst (v := (-1)) hx hb dX0_stepOf_38 (by decide) ?_
    refine lv_icmp_eq (tgt := 60) hx hb dX0_stepOf_39 (by decide) (fun hc => ?_) (fun hc => ?_)
    · replace hf := ifp hc hf
      refine lv_lconst (v := 0) hx hb dX0_stepOf_60 (by decide) ?_
      obtain rfl := Option.some.inj hf
      exact rt_l X T hr dX0_stepOf_61
    · replace hf := ifn hc hf
      refine lv_iload hx hb dX0_stepOf_42 (lv_at hl 5 rfl) ?_
      refine lv_iload hx hb dX0_stepOf_44 (lv_at hl 0 rfl) ?_
      refine lv_icmp_gt (tgt := 60) hx hb dX0_stepOf_46 (by decide) (fun hc => ?_) (fun hc => ?_)
      · replace hf := ifp hc hf
        refine lv_lconst (v := 0) hx hb dX0_stepOf_60 (by decide) ?_
        obtain rfl := Option.some.inj hf
        exact rt_l X T hr dX0_stepOf_61
      · replace hf := ifn hc hf
        refine lv_aload_n hx hb dX0_stepOf_49 rfl (lv_at hl 1 rfl) ?_
        refine lv_iload_n hx hb dX0_stepOf_50 rfl (lv_at hl 2 rfl) ?_
        refine lv_iload hx hb dX0_stepOf_51 (lv_at hl 4 rfl) ?_
        refine lv_iload_n hx hb dX0_stepOf_53 rfl (lv_at hl 3 rfl) ?_
        obtain ⟨v4, h3, hf⟩ := bnd_inv hf
        refine cg_V (q0 := 1) (ci := 0) (As := [.int y1, .int y4, .int y3]) (rest := []) X T (kX0_canEnter l D cy ad S y1 y4 y3 v4 h3) (cwV 3 hts gX0_stepOf_X0_canEnter rfl rfl rfl (by decide +kernel) ⟨Nat.le_of_ble_eq_true rfl, Nat.le_of_ble_eq_true rfl⟩) rfl rfl rfl hl.1 rfl (Nat.le_of_ble_eq_true rfl) dX0_stepOf_54 ⟨Nat.zero_le _, Nat.zero_le _⟩ (st2 := [.int v4]) (pc2 := 57) rfl rfl (fun H locs T => ?_)
        refine lv_if_ne (tgt := 62) hx hb dX0_stepOf_57 (by decide) (fun hc => ?_) (fun hc => ?_)
        · replace hf := ifn hc hf
          refine lv_iload hx hb dX0_stepOf_62 (lv_at hl 5 rfl) ?_
          refine lv_if_le (tgt := 77) hx hb dX0_stepOf_64 (by decide) (fun hc => ?_) (fun hc => ?_)
          · replace hf := ifp hc hf
            exact j_77 y1 y4 y5 _ _ _ hf T (lv_sub hl [1, 2, 4, 5] rfl)
          · replace hf := ifn hc hf
            refine lv_aload_n hx hb dX0_stepOf_67 rfl (lv_at hl 1 rfl) ?_
            refine lv_iload hx hb dX0_stepOf_68 (lv_at hl 4 rfl) ?_
            obtain ⟨v6, h5, hf⟩ := bnd_inv hf
            refine cg_V (q0 := 1) (ci := 0) (As := [.int y4]) (rest := []) X T (kX0_storeysOf l D cy ad S y4 v6 h5) (cwV 1 hts gX0_stepOf_X0_storeysOf rfl rfl rfl (by decide +kernel) ⟨Nat.le_of_ble_eq_true rfl, Nat.le_of_ble_eq_true rfl⟩) rfl rfl rfl hl.1 rfl (Nat.le_of_ble_eq_true rfl) dX0_stepOf_70 ⟨Nat.zero_le _, Nat.zero_le _⟩ (st2 := [.int v6]) (pc2 := 73) rfl rfl (fun H locs T => ?_)
            refine lv_iconst (v := 3) hx hb dX0_stepOf_73 (by decide) ?_
            refine lv_icmp_eq (tgt := 93) hx hb dX0_stepOf_74 (by decide) (fun hc => ?_) (fun hc => ?_)
            · replace hf := ifp hc hf
              exact j_93 y4 _ _ _ hf T (lv_sub hl [4] rfl)
            · replace hf := ifn hc hf
              exact j_77 y1 y4 y5 _ _ _ hf T (lv_sub hl [1, 2, 4, 5] rfl)
        · replace hf := ifp hc hf
          refine lv_lconst (v := 0) hx hb dX0_stepOf_60 (by decide) ?_
          obtain rfl := Option.some.inj hf
          exact rt_l X T hr dX0_stepOf_61
  refine lv_aload_n hx hb dX0_stepOf_0 rfl (lv_at hl 0 rfl) ?_
  refine lv_iload_n hx hb dX0_stepOf_1 rfl (lv_at hl 2 rfl) ?_
  refine lv_iload_n hx hb dX0_stepOf_2 rfl (lv_at hl 3 rfl) ?_
  obtain ⟨v8, h7, hf⟩ := bnd_inv hf
  refine cg_V (q0 := 1) (ci := 0) (As := [.int x2, .int x3]) (rest := []) X T (kX0_neighbourOf l D cy ad S x2 x3 v8 h7) (cwV 2 hts gX0_stepOf_X0_neighbourOf rfl rfl rfl (by decide +kernel) ⟨Nat.le_of_ble_eq_true rfl, Nat.le_of_ble_eq_true rfl⟩) rfl rfl rfl hl.1 rfl (Nat.le_of_ble_eq_true rfl) dX0_stepOf_3 ⟨Nat.zero_le _, Nat.zero_le _⟩ (st2 := [.int v8]) (pc2 := 6) rfl rfl (fun H locs T => ?_)
  refine lv_istore (lv' := [(4, .int v8), (0, .ref (ad 1)), (1, .int x1), (2, .int x2), (3, .int x3)]) hx hb dX0_stepOf_6 hl (by decide) rfl (fun ls hl => ?_)
  refine lv_aload_n hx hb dX0_stepOf_8 rfl (lv_at hl 1 rfl) ?_
  refine lv_iload hx hb dX0_stepOf_9 (lv_at hl 0 rfl) ?_
  obtain ⟨v10, h9, hf⟩ := bnd_inv hf
  refine cg_V (q0 := 1) (ci := 0) (As := [.int v8]) (rest := []) X T (kX0_storeysOf l D cy ad S v8 v10 h9) (cwV 1 hts gX0_stepOf_X0_storeysOf rfl rfl rfl (by decide +kernel) ⟨Nat.le_of_ble_eq_true rfl, Nat.le_of_ble_eq_true rfl⟩) rfl rfl rfl hl.1 rfl (Nat.le_of_ble_eq_true rfl) dX0_stepOf_11 ⟨Nat.zero_le _, Nat.zero_le _⟩ (st2 := [.int v10]) (pc2 := 14) rfl rfl (fun H locs T => ?_)
  refine lv_aload_n hx hb dX0_stepOf_14 rfl (lv_at hl 1 rfl) ?_
  refine lv_iload_n hx hb dX0_stepOf_15 rfl (lv_at hl 3 rfl) ?_
  obtain ⟨v12, h11, hf⟩ := bnd_inv hf
  refine cg_V (q0 := 1) (ci := 0) (As := [.int x2]) (rest := [.int v10]) X T (kX0_storeysOf l D cy ad S x2 v12 h11) (cwV 1 hts gX0_stepOf_X0_storeysOf rfl rfl rfl (by decide +kernel) ⟨Nat.le_of_ble_eq_true rfl, Nat.le_of_ble_eq_true rfl⟩) rfl rfl rfl hl.1 rfl (Nat.le_of_ble_eq_true rfl) dX0_stepOf_16 ⟨Nat.zero_le _, Nat.zero_le _⟩ (st2 := [.int v12, .int v10]) (pc2 := 19) rfl rfl (fun H locs T => ?_)
  refine lv_isub hx hb dX0_stepOf_19 ?_
  obtain ⟨v13, e_v13, hf⟩ := nm_inv hf
  rw [← e_v13]
  refine lv_istore (lv' := [(5, .int v13), (4, .int v8), (0, .ref (ad 1)), (1, .int x1), (2, .int x2), (3, .int x3)]) hx hb dX0_stepOf_20 hl (by decide) rfl (fun ls hl => ?_)
  refine lv_aload_n hx hb dX0_stepOf_22 rfl (lv_at hl 2 rfl) ?_
  refine va_get (D := D) (ci := 0) (v := .int (S.1 7)) (C := RX0) (T := TX0) (N := 13) hx hb hts hin_X0 hown hK.1 T.1 1 rfl rfl 12 (by decide) (hts _ (List.mem_of_getElem? (i := 1) rfl)) (fun _ h9 => h9) rfl dX0_stepOf_23 ?_
  refine lv_if_eq (tgt := 33) hx hb dX0_stepOf_26 (by decide) (fun hc => ?_) (fun hc => ?_)
  · replace hf := ifp hc hf
    refine lv_iconst (v := 1) hx hb dX0_stepOf_33 (by decide) ?_
    exact j_34 x1 x3 v8 v13 1 _ _ _ hf T (lv_sub hl [2, 3, 5, 1, 0] rfl)
  · replace hf := ifn hc hf
    refine lv_iconst (v := 0) hx hb dX0_stepOf_29 (by decide) ?_
    refine lv_goto (tgt := 34) hx hb dX0_stepOf_30 (by decide) ?_
    exact j_34 x1 x3 v8 v13 0 _ _ _ hf T (lv_sub hl [2, 3, 5, 1, 0] rfl)

noncomputable def fX0_hasTurn_j72 (S : SC) (y1 : Int32) (y2 : Int32) (y3 : Int32) (y4 : Int32) : Option (Int32 ⊕ (Int32 ⊕ Int32)) :=
  nm (y4 + 1 : Int32) fun v1 =>
  some (.inl v1)
noncomputable def fX0_hasTurn_b20 (S : SC) (y1 : Int32) (y2 : Int32) (y3 : Int32) : Int32 → Option (Int32 ⊕ (Int32 ⊕ Int32)) :=
  fun y4 =>
    if (8 : Int32) ≤ y4 then
      ex <|
      nm (y2 + 1 : Int32) fun v2 =>
      some (.inl v2)
    else
      bnd (fX0_stepOf S y1 y3 y4) fun v4 =>
      if lg_cmp (v4 >>> ((32 : Int32).toInt64 &&& 63)) (0 : Int64) = 0 then
        if lg_cmp v4 (0 : Int64) = 0 then
          fX0_hasTurn_j72 S y1 y2 y3 y4
        else
          bnd (fX0_neighbourOf S y3 y4) fun v6 =>
          bnd (fX0_canBuild S y1 y3 v6) fun v8 =>
          if v8 = 0 then
            fX0_hasTurn_j72 S y1 y2 y3 y4
          else
            ex <|
            ex <|
            some 1
      else
        ex <|
        ex <|
        some 1
noncomputable def fX0_hasTurn_b2 (S : SC) (y1 : Int32) : Int32 → Option (Int32 ⊕ Int32) :=
  fun y2 =>
    if S.1 1 ≤ y2 then
      ex <|
      some 0
    else
      bnd (fX0_spotOf S y1 y2) fun v10 =>
      loop (fX0_hasTurn_b20 S y1 y2 v10) FUEL 0
noncomputable def fX0_hasTurn (S : SC) (x1 : Int32) : Option Int32 :=
  loop (fX0_hasTurn_b2 S x1) FUEL 0
set_option maxHeartbeats 4000000 in
set_option maxRecDepth 100000 in
theorem kX0_hasTurn (l : Launch) (D : va_G) (cy : Nat → ClassId) (ad : Nat → Nat) (S : SC) (x1 : Int32) (r : Int32) (hf : fX0_hasTurn S x1 = some r) : CG l D cy (wC cy ad) yX0_hasTurn wsX0_hasTurn ({ frames := 3, cells := 0, slots := 0, locals := 74 } : Room) [.ref (ad 1), .int x1] S (some (.int r)) S := by
  refine CG.of (cc := cX0_hasTurn) (maxL := 7) (ret := (some .boolean)) (by decide +kernel) rfl (Nat.le_of_ble_eq_true rfl) ?_
  intro p e s m below meth c A ls X hr T hl
  obtain ⟨hx, hb, hml, hown, hts, hlk, hK, hA, hwA⟩ := id X
  have hl : lv_has ls 7 [(0, .ref (ad 1)), (1, .int x1)] := hl
  have hin_X0 : ∀ w ∈ u_ws RX0 TX0 13, w ∈ wsX0_hasTurn := by decide +kernel
  unfold fX0_hasTurn at hf
  have l_2 : ∀ (y1 : Int32) (n : Nat) (y2 : Int32) (H : Heap) (locs : List Loc) (ls : Array Slot), loop (fX0_hasTurn_b2 S y1) n y2 = some r → ST D (wC cy ad) A s S H locs → lv_has ls 7 [(0, .ref (ad 1)), (1, .int y1), (2, .int y2)] → W p l e ({ frames := 3, cells := 0, slots := 0, locals := 74 } : Room) s m [.ref (ad 1), .int x1].toArray below meth c H locs 0 0 (MQ below (QG D (wC cy ad) A (some (.int r)) S) [.ref (ad 1), .int x1].toArray s 0 0 A) (F0 m 2 ls []) := by
    intro y1 n
    induction n with
    | zero => intro _ _ _ _ hf; cases hf
    | succ n ih_2 =>
      intro y2 H locs ls hf T hl
      obtain ⟨z_2, hf, hin_2, hex_2⟩ := loop_inv hf
      unfold fX0_hasTurn_b2 at hf
      have l_20 : ∀ (y2 : Int32) (y3 : Int32) (n : Nat) (y4 : Int32) (H : Heap) (locs : List Loc) (ls : Array Slot), loop (fX0_hasTurn_b20 S y1 y2 y3) n y4 = some z_2 → ST D (wC cy ad) A s S H locs → lv_has ls 7 [(0, .ref (ad 1)), (1, .int y1), (2, .int y2), (3, .int y3), (4, .int y4)] → W p l e ({ frames := 3, cells := 0, slots := 0, locals := 74 } : Room) s m [.ref (ad 1), .int x1].toArray below meth c H locs 0 0 (MQ below (QG D (wC cy ad) A (some (.int r)) S) [.ref (ad 1), .int x1].toArray s 0 0 A) (F0 m 20 ls []) := by
        intro y2 y3 n
        induction n with
        | zero => intro _ _ _ _ hf; cases hf
        | succ n ih_20 =>
          intro y4 H locs ls hf T hl
          obtain ⟨z_20, hf, hin_20, hex_20⟩ := loop_inv hf
          unfold fX0_hasTurn_b20 at hf
          have j_72 : ∀ (y4 : Int32) (H : Heap) (locs : List Loc) (ls : Array Slot), fX0_hasTurn_j72 S y1 y2 y3 y4 = some z_20 → ST D (wC cy ad) A s S H locs → lv_has ls 7 [(0, .ref (ad 1)), (1, .int y1), (2, .int y2), (3, .int y3), (4, .int y4)] → W p l e ({ frames := 3, cells := 0, slots := 0, locals := 74 } : Room) s m [.ref (ad 1), .int x1].toArray below meth c H locs 0 0 (MQ below (QG D (wC cy ad) A (some (.int r)) S) [.ref (ad 1), .int x1].toArray s 0 0 A) (F0 m 72 ls []) := by
            intro y4 H locs ls hf T hl
            unfold fX0_hasTurn_j72 at hf
            obtain ⟨v1, e_v1, hf⟩ := nm_inv hf
            refine lv_iinc (v := v1) (lv' := [(4, .int v1), (0, .ref (ad 1)), (1, .int y1), (2, .int y2), (3, .int y3)]) hx hb dX0_hasTurn_72 hl (k := 4) rfl (by rw [e_v1]; rfl) (by decide) rfl (fun ls hl => ?_)
            refine lv_goto (tgt := 20) hx hb dX0_hasTurn_75 (by decide) ?_
            exact ih_20 v1 _ _ _ (hin_20 _ (Option.some.inj hf).symm) T (lv_sub hl [1, 2, 3, 4, 0] rfl)
          refine lv_iload hx hb dX0_hasTurn_20 (lv_at hl 4 rfl) ?_
          refine lv_bipush (v := 8) hx hb dX0_hasTurn_22 (by decide) ?_
          refine lv_icmp_ge (tgt := 78) hx hb dX0_hasTurn_24 (by decide) (fun hc => ?_) (fun hc => ?_)
          · replace hf := ifp hc hf
            obtain ⟨r0, hf, hz⟩ := ex_inv hf
            rw [hex_20 r0 hz] at hf
            obtain ⟨v2, e_v2, hf⟩ := nm_inv hf
            refine lv_iinc (v := v2) (lv' := [(2, .int v2), (0, .ref (ad 1)), (1, .int y1), (3, .int y3), (4, .int y4)]) hx hb dX0_hasTurn_78 hl (k := 2) rfl (by rw [e_v2]; rfl) (by decide) rfl (fun ls hl => ?_)
            refine lv_goto (tgt := 2) hx hb dX0_hasTurn_81 (by decide) ?_
            exact ih_2 v2 _ _ _ (hin_2 _ (Option.some.inj hf).symm) T (lv_sub hl [1, 2, 0] rfl)
          · replace hf := ifn hc hf
            refine lv_aload_n hx hb dX0_hasTurn_27 rfl (lv_at hl 0 rfl) ?_
            refine lv_iload_n hx hb dX0_hasTurn_28 rfl (lv_at hl 1 rfl) ?_
            refine lv_iload_n hx hb dX0_hasTurn_29 rfl (lv_at hl 3 rfl) ?_
            refine lv_iload hx hb dX0_hasTurn_30 (lv_at hl 4 rfl) ?_
            obtain ⟨v4, h3, hf⟩ := bnd_inv hf
            refine cg_V (q0 := 1) (ci := 0) (As := [.int y1, .int y3, .int y4]) (rest := []) X T (kX0_stepOf l D cy ad S y1 y3 y4 v4 h3) (cwV 3 hts gX0_hasTurn_X0_stepOf rfl rfl rfl (by decide +kernel) ⟨Nat.le_of_ble_eq_true rfl, Nat.le_of_ble_eq_true rfl⟩) rfl rfl rfl hl.1 rfl (Nat.le_of_ble_eq_true rfl) dX0_hasTurn_32 ⟨Nat.zero_le _, Nat.zero_le _⟩ (st2 := [.long v4]) (pc2 := 35) rfl rfl (fun H locs T => ?_)
            refine lv_lstore (lv' := [(5, .long v4), (0, .ref (ad 1)), (1, .int y1), (2, .int y2), (3, .int y3), (4, .int y4)]) hx hb dX0_hasTurn_35 hl (by decide) rfl (fun ls hl => ?_)
            refine lv_lload hx hb dX0_hasTurn_37 (lv_at hl 0 rfl) ?_
            refine lv_bipush (v := 32) hx hb dX0_hasTurn_39 (by decide) ?_
            refine lv_lshr hx hb dX0_hasTurn_41 rfl ?_
            refine lv_lconst (v := 0) hx hb dX0_hasTurn_42 (by decide) ?_
            refine W.lcmp hx hb dX0_hasTurn_43 ?_
            refine lv_if_ne (tgt := 70) hx hb dX0_hasTurn_44 (by decide) (fun hc => ?_) (fun hc => ?_)
            · replace hf := ifn hc hf
              obtain ⟨r0, hf, hz⟩ := ex_inv hf
              rw [hex_20 r0 hz] at hf
              obtain ⟨r0, hf, hz⟩ := ex_inv hf
              rw [hex_2 r0 hz] at hf
              refine lv_iconst (v := 1) hx hb dX0_hasTurn_70 (by decide) ?_
              obtain rfl := Option.some.inj hf
              exact rt_z X T hr (Or.inr rfl) dX0_hasTurn_71
            · replace hf := ifp hc hf
              refine lv_lload hx hb dX0_hasTurn_47 (lv_at hl 0 rfl) ?_
              refine lv_lconst (v := 0) hx hb dX0_hasTurn_49 (by decide) ?_
              refine W.lcmp hx hb dX0_hasTurn_50 ?_
              refine lv_if_eq (tgt := 72) hx hb dX0_hasTurn_51 (by decide) (fun hc => ?_) (fun hc => ?_)
              · replace hf := ifp hc hf
                exact j_72 y4 _ _ _ hf T (lv_sub hl [1, 2, 3, 4, 5] rfl)
              · replace hf := ifn hc hf
                refine lv_aload_n hx hb dX0_hasTurn_54 rfl (lv_at hl 1 rfl) ?_
                refine lv_iload_n hx hb dX0_hasTurn_55 rfl (lv_at hl 2 rfl) ?_
                refine lv_iload_n hx hb dX0_hasTurn_56 rfl (lv_at hl 4 rfl) ?_
                refine lv_aload_n hx hb dX0_hasTurn_57 rfl (lv_at hl 1 rfl) ?_
                refine lv_iload_n hx hb dX0_hasTurn_58 rfl (lv_at hl 4 rfl) ?_
                refine lv_iload hx hb dX0_hasTurn_59 (lv_at hl 5 rfl) ?_
                obtain ⟨v6, h5, hf⟩ := bnd_inv hf
                refine cg_V (q0 := 1) (ci := 0) (As := [.int y3, .int y4]) (rest := [.int y3, .int y1, .ref (ad 1)]) X T (kX0_neighbourOf l D cy ad S y3 y4 v6 h5) (cwV 2 hts gX0_hasTurn_X0_neighbourOf rfl rfl rfl (by decide +kernel) ⟨Nat.le_of_ble_eq_true rfl, Nat.le_of_ble_eq_true rfl⟩) rfl rfl rfl hl.1 rfl (Nat.le_of_ble_eq_true rfl) dX0_hasTurn_61 ⟨Nat.zero_le _, Nat.zero_le _⟩ (st2 := [.int v6, .int y3, .int y1, .ref (ad 1)]) (pc2 := 64) rfl rfl (fun H locs T => ?_)
                obtain ⟨v8, h7, hf⟩ := bnd_inv hf
                refine cg_V (q0 := 1) (ci := 0) (As := [.int y1, .int y3, .int v6]) (rest := []) X T (kX0_canBuild l D cy ad S y1 y3 v6 v8 h7) (cwV 3 hts gX0_hasTurn_X0_canBuild rfl rfl rfl (by decide +kernel) ⟨Nat.le_of_ble_eq_true rfl, Nat.le_of_ble_eq_true rfl⟩) rfl rfl rfl hl.1 rfl (Nat.le_of_ble_eq_true rfl) dX0_hasTurn_64 ⟨Nat.zero_le _, Nat.zero_le _⟩ (st2 := [.int v8]) (pc2 := 67) rfl rfl (fun H locs T => ?_)
                refine lv_if_eq (tgt := 72) hx hb dX0_hasTurn_67 (by decide) (fun hc => ?_) (fun hc => ?_)
                · replace hf := ifp hc hf
                  exact j_72 y4 _ _ _ hf T (lv_sub hl [1, 2, 3, 4, 5] rfl)
                · replace hf := ifn hc hf
                  obtain ⟨r0, hf, hz⟩ := ex_inv hf
                  rw [hex_20 r0 hz] at hf
                  obtain ⟨r0, hf, hz⟩ := ex_inv hf
                  rw [hex_2 r0 hz] at hf
                  refine lv_iconst (v := 1) hx hb dX0_hasTurn_70 (by decide) ?_
                  obtain rfl := Option.some.inj hf
                  exact rt_z X T hr (Or.inr rfl) dX0_hasTurn_71
      refine lv_iload_n hx hb dX0_hasTurn_2 rfl (lv_at hl 2 rfl) ?_
      refine lv_aload_n hx hb dX0_hasTurn_3 rfl (lv_at hl 0 rfl) ?_
      refine va_get (D := D) (ci := 0) (v := .int (S.1 1)) (C := RX0) (T := TX0) (N := 13) hx hb hts hin_X0 hown hK.1 T.1 1 rfl rfl 6 (by decide) (hts _ (List.mem_of_getElem? (i := 1) rfl)) (fun _ h9 => h9) rfl dX0_hasTurn_4 ?_
      refine lv_icmp_ge (tgt := 84) hx hb dX0_hasTurn_7 (by decide) (fun hc => ?_) (fun hc => ?_)
      · replace hf := ifp hc hf
        obtain ⟨r0, hf, hz⟩ := ex_inv hf
        rw [hex_2 r0 hz] at hf
        refine lv_iconst (v := 0) hx hb dX0_hasTurn_84 (by decide) ?_
        obtain rfl := Option.some.inj hf
        exact rt_z X T hr (Or.inl rfl) dX0_hasTurn_85
      · replace hf := ifn hc hf
        refine lv_aload_n hx hb dX0_hasTurn_10 rfl (lv_at hl 0 rfl) ?_
        refine lv_iload_n hx hb dX0_hasTurn_11 rfl (lv_at hl 1 rfl) ?_
        refine lv_iload_n hx hb dX0_hasTurn_12 rfl (lv_at hl 2 rfl) ?_
        obtain ⟨v10, h9, hf⟩ := bnd_inv hf
        refine cg_V (q0 := 1) (ci := 0) (As := [.int y1, .int y2]) (rest := []) X T (kX0_spotOf l D cy ad S y1 y2 v10 h9) (cwV 2 hts gX0_hasTurn_X0_spotOf rfl rfl rfl (by decide +kernel) ⟨Nat.le_of_ble_eq_true rfl, Nat.le_of_ble_eq_true rfl⟩) rfl rfl rfl hl.1 rfl (Nat.le_of_ble_eq_true rfl) dX0_hasTurn_13 ⟨Nat.zero_le _, Nat.zero_le _⟩ (st2 := [.int v10]) (pc2 := 16) rfl rfl (fun H locs T => ?_)
        refine lv_istore_n (lv' := [(3, .int v10), (0, .ref (ad 1)), (1, .int y1), (2, .int y2)]) hx hb dX0_hasTurn_16 rfl hl (by decide) rfl (fun ls hl => ?_)
        refine lv_iconst (v := 0) hx hb dX0_hasTurn_17 (by decide) ?_
        refine lv_istore (lv' := [(4, .int 0), (3, .int v10), (0, .ref (ad 1)), (1, .int y1), (2, .int y2)]) hx hb dX0_hasTurn_18 hl (by decide) rfl (fun ls hl => ?_)
        exact l_20 y2 v10 FUEL 0 _ _ _ hf T (lv_sub hl [2, 3, 4, 1, 0] rfl)
  refine lv_iconst (v := 0) hx hb dX0_hasTurn_0 (by decide) ?_
  refine lv_istore_n (lv' := [(2, .int 0), (0, .ref (ad 1)), (1, .int x1)]) hx hb dX0_hasTurn_1 rfl hl (by decide) rfl (fun ls hl => ?_)
  exact l_2 x1 FUEL 0 _ _ _ hf T (lv_sub hl [1, 2, 0] rfl)

noncomputable def fX0_reachOf_j99 (S : SC) (y1 : Int32) (y3 : Int64) (y5 : Int64) (y7 : Int32) : Option ((Int64 × Int32) ⊕ Int64) :=
  nm (y7 + 1 : Int32) fun v1 =>
  some (.inl (y5, v1))
noncomputable def fX0_reachOf_b72 (S : SC) (y1 : Int32) (y3 : Int64) (y7 : Int32) : (Int64 × Int32) → Option ((Int64 × Int32) ⊕ ((Int64 × Int32) ⊕ Int64)) :=
  fun st => match st with
    | (y5, y8) =>
      if (8 : Int32) ≤ y8 then
        ex <|
        fX0_reachOf_j99 S y1 y3 y5 y7
      else
        bnd (fX0_stepOf S y1 y7 y8) fun v3 =>
        nm (y5 ||| v3 : Int64) fun v4 =>
        nm (y8 + 1 : Int32) fun v5 =>
        some (.inl (v4, v5))
noncomputable def fX0_reachOf_b46 (S : SC) (y1 : Int32) (y3 : Int64) : (Int64 × Int32) → Option ((Int64 × Int32) ⊕ Int64) :=
  fun st => match st with
    | (y5, y7) =>
      if S.1 0 ≤ y7 then
        ex <|
        some y5
      else
        if lg_cmp ((y3 >>> (y7.toInt64 &&& 63)) &&& (1 : Int64)) (0 : Int64) = 0 then
          fX0_reachOf_j99 S y1 y3 y5 y7
        else
          loop (fX0_reachOf_b72 S y1 y3 y7) FUEL (y5, 0)
noncomputable def fX0_reachOf_b5 (S : SC) (y1 : Int32) (y2 : Int32) : (Int64 × Int32) → Option ((Int64 × Int32) ⊕ Int64) :=
  fun st => match st with
    | (y3, y5) =>
      if (8 : Int32) ≤ y5 then
        ex <|
        bnd (fX0_powerOf S y1) fun v7 =>
        if v7 = 1 then
          loop (fX0_reachOf_b46 S y1 y3) FUEL (y3, 0)
        else
          some y3
      else
        bnd (fX0_stepOf S y1 y2 y5) fun v9 =>
        nm (y3 ||| v9 : Int64) fun v10 =>
        nm (y5 + 1 : Int32) fun v11 =>
        some (.inl (v10, v11))
noncomputable def fX0_reachOf (S : SC) (x1 : Int32) (x2 : Int32) : Option Int64 :=
  loop (fX0_reachOf_b5 S x1 x2) FUEL ((0 : Int64), 0)
set_option maxHeartbeats 4000000 in
set_option maxRecDepth 100000 in
theorem kX0_reachOf (l : Launch) (D : va_G) (cy : Nat → ClassId) (ad : Nat → Nat) (S : SC) (x1 : Int32) (x2 : Int32) (r : Int64) (hf : fX0_reachOf S x1 x2 = some r) : CG l D cy (wC cy ad) yX0_reachOf wsX0_reachOf ({ frames := 3, cells := 0, slots := 0, locals := 74 } : Room) [.ref (ad 1), .int x1, .int x2] S (some (.long r)) S := by
  refine CG.of (cc := cX0_reachOf) (maxL := 9) (ret := (some .long)) (by decide +kernel) rfl (Nat.le_of_ble_eq_true rfl) ?_
  intro p e s m below meth c A ls X hr T hl
  obtain ⟨hx, hb, hml, hown, hts, hlk, hK, hA, hwA⟩ := id X
  have hl : lv_has ls 9 [(0, .ref (ad 1)), (1, .int x1), (2, .int x2)] := hl
  have hin_X0 : ∀ w ∈ u_ws RX0 TX0 13, w ∈ wsX0_reachOf := by decide +kernel
  unfold fX0_reachOf at hf
  have l_46 : ∀ (y1 : Int32) (y3 : Int64) (n : Nat) (y5 : Int64) (y7 : Int32) (H : Heap) (locs : List Loc) (ls : Array Slot), loop (fX0_reachOf_b46 S y1 y3) n (y5, y7) = some r → ST D (wC cy ad) A s S H locs → lv_has ls 9 [(0, .ref (ad 1)), (1, .int y1), (3, .long y3), (5, .long y5), (7, .int y7)] → W p l e ({ frames := 3, cells := 0, slots := 0, locals := 74 } : Room) s m [.ref (ad 1), .int x1, .int x2].toArray below meth c H locs 0 0 (MQ below (QG D (wC cy ad) A (some (.long r)) S) [.ref (ad 1), .int x1, .int x2].toArray s 0 0 A) (F0 m 46 ls []) := by
    intro y1 y3 n
    induction n with
    | zero => intro _ _ _ _ _ hf; cases hf
    | succ n ih_46 =>
      intro y5 y7 H locs ls hf T hl
      obtain ⟨z_46, hf, hin_46, hex_46⟩ := loop_inv hf
      unfold fX0_reachOf_b46 at hf
      dsimp only at hf
      have j_99 : ∀ (y5 : Int64) (y7 : Int32) (H : Heap) (locs : List Loc) (ls : Array Slot), fX0_reachOf_j99 S y1 y3 y5 y7 = some z_46 → ST D (wC cy ad) A s S H locs → lv_has ls 9 [(0, .ref (ad 1)), (1, .int y1), (3, .long y3), (5, .long y5), (7, .int y7)] → W p l e ({ frames := 3, cells := 0, slots := 0, locals := 74 } : Room) s m [.ref (ad 1), .int x1, .int x2].toArray below meth c H locs 0 0 (MQ below (QG D (wC cy ad) A (some (.long r)) S) [.ref (ad 1), .int x1, .int x2].toArray s 0 0 A) (F0 m 99 ls []) := by
        intro y5 y7 H locs ls hf T hl
        unfold fX0_reachOf_j99 at hf
        obtain ⟨v1, e_v1, hf⟩ := nm_inv hf
        refine lv_iinc (v := v1) (lv' := [(7, .int v1), (0, .ref (ad 1)), (1, .int y1), (3, .long y3), (5, .long y5)]) hx hb dX0_reachOf_99 hl (k := 4) rfl (by rw [e_v1]; rfl) (by decide) rfl (fun ls hl => ?_)
        refine lv_goto (tgt := 46) hx hb dX0_reachOf_102 (by decide) ?_
        exact ih_46 y5 v1 _ _ _ (hin_46 _ (Option.some.inj hf).symm) T (lv_sub hl [1, 2, 3, 4, 0] rfl)
      have l_72 : ∀ (y7 : Int32) (n : Nat) (y5 : Int64) (y8 : Int32) (H : Heap) (locs : List Loc) (ls : Array Slot), loop (fX0_reachOf_b72 S y1 y3 y7) n (y5, y8) = some z_46 → ST D (wC cy ad) A s S H locs → lv_has ls 9 [(0, .ref (ad 1)), (1, .int y1), (3, .long y3), (5, .long y5), (7, .int y7), (8, .int y8)] → W p l e ({ frames := 3, cells := 0, slots := 0, locals := 74 } : Room) s m [.ref (ad 1), .int x1, .int x2].toArray below meth c H locs 0 0 (MQ below (QG D (wC cy ad) A (some (.long r)) S) [.ref (ad 1), .int x1, .int x2].toArray s 0 0 A) (F0 m 72 ls []) := by
        intro y7 n
        induction n with
        | zero => intro _ _ _ _ _ hf; cases hf
        | succ n ih_72 =>
          intro y5 y8 H locs ls hf T hl
          obtain ⟨z_72, hf, hin_72, hex_72⟩ := loop_inv hf
          unfold fX0_reachOf_b72 at hf
          dsimp only at hf
          refine lv_iload hx hb dX0_reachOf_72 (lv_at hl 5 rfl) ?_
          refine lv_bipush (v := 8) hx hb dX0_reachOf_74 (by decide) ?_
          refine lv_icmp_ge (tgt := 99) hx hb dX0_reachOf_76 (by decide) (fun hc => ?_) (fun hc => ?_)
          · replace hf := ifp hc hf
            obtain ⟨r0, hf, hz⟩ := ex_inv hf
            rw [hex_72 r0 hz] at hf
            exact j_99 y5 y7 _ _ _ hf T (lv_sub hl [0, 1, 2, 3, 4] rfl)
          · replace hf := ifn hc hf
            refine lv_lload hx hb dX0_reachOf_79 (lv_at hl 3 rfl) ?_
            refine lv_aload_n hx hb dX0_reachOf_81 rfl (lv_at hl 0 rfl) ?_
            refine lv_iload_n hx hb dX0_reachOf_82 rfl (lv_at hl 1 rfl) ?_
            refine lv_iload hx hb dX0_reachOf_83 (lv_at hl 4 rfl) ?_
            refine lv_iload hx hb dX0_reachOf_85 (lv_at hl 5 rfl) ?_
            obtain ⟨v3, h2, hf⟩ := bnd_inv hf
            refine cg_V (q0 := 1) (ci := 0) (As := [.int y1, .int y7, .int y8]) (rest := [.long y5]) X T (kX0_stepOf l D cy ad S y1 y7 y8 v3 h2) (cwV 3 hts gX0_reachOf_X0_stepOf rfl rfl rfl (by decide +kernel) ⟨Nat.le_of_ble_eq_true rfl, Nat.le_of_ble_eq_true rfl⟩) rfl rfl rfl hl.1 rfl (Nat.le_of_ble_eq_true rfl) dX0_reachOf_87 ⟨Nat.zero_le _, Nat.zero_le _⟩ (st2 := [.long v3, .long y5]) (pc2 := 90) rfl rfl (fun H locs T => ?_)
            refine lv_lor hx hb dX0_reachOf_90 ?_
            obtain ⟨v4, e_v4, hf⟩ := nm_inv hf
            rw [← e_v4]
            refine lv_lstore (lv' := [(5, .long v4), (0, .ref (ad 1)), (1, .int y1), (3, .long y3), (7, .int y7), (8, .int y8)]) hx hb dX0_reachOf_91 hl (by decide) rfl (fun ls hl => ?_)
            obtain ⟨v5, e_v5, hf⟩ := nm_inv hf
            refine lv_iinc (v := v5) (lv' := [(8, .int v5), (5, .long v4), (0, .ref (ad 1)), (1, .int y1), (3, .long y3), (7, .int y7)]) hx hb dX0_reachOf_93 hl (k := 5) rfl (by rw [e_v5]; rfl) (by decide) rfl (fun ls hl => ?_)
            refine lv_goto (tgt := 72) hx hb dX0_reachOf_96 (by decide) ?_
            exact ih_72 v4 v5 _ _ _ (hin_72 _ (Option.some.inj hf).symm) T (lv_sub hl [2, 3, 4, 1, 5, 0] rfl)
      refine lv_iload hx hb dX0_reachOf_46 (lv_at hl 4 rfl) ?_
      refine lv_aload_n hx hb dX0_reachOf_48 rfl (lv_at hl 0 rfl) ?_
      refine va_get (D := D) (ci := 0) (v := .int (S.1 0)) (C := RX0) (T := TX0) (N := 13) hx hb hts hin_X0 hown hK.1 T.1 1 rfl rfl 5 (by decide) (hts _ (List.mem_of_getElem? (i := 1) rfl)) (fun _ h9 => h9) rfl dX0_reachOf_49 ?_
      refine lv_icmp_ge (tgt := 105) hx hb dX0_reachOf_52 (by decide) (fun hc => ?_) (fun hc => ?_)
      · replace hf := ifp hc hf
        obtain ⟨r0, hf, hz⟩ := ex_inv hf
        rw [hex_46 r0 hz] at hf
        refine lv_lload hx hb dX0_reachOf_105 (lv_at hl 3 rfl) ?_
        obtain rfl := Option.some.inj hf
        exact rt_l X T hr dX0_reachOf_107
      · replace hf := ifn hc hf
        refine lv_lload_n hx hb dX0_reachOf_55 rfl (lv_at hl 2 rfl) ?_
        refine lv_iload hx hb dX0_reachOf_56 (lv_at hl 4 rfl) ?_
        refine lv_lshr hx hb dX0_reachOf_58 rfl ?_
        refine lv_lconst (v := 1) hx hb dX0_reachOf_59 (by decide) ?_
        refine lv_land hx hb dX0_reachOf_60 ?_
        refine lv_lconst (v := 0) hx hb dX0_reachOf_61 (by decide) ?_
        refine W.lcmp hx hb dX0_reachOf_62 ?_
        refine lv_if_ne (tgt := 69) hx hb dX0_reachOf_63 (by decide) (fun hc => ?_) (fun hc => ?_)
        · replace hf := ifn hc hf
          refine lv_iconst (v := 0) hx hb dX0_reachOf_69 (by decide) ?_
          refine lv_istore (lv' := [(8, .int 0), (0, .ref (ad 1)), (1, .int y1), (3, .long y3), (5, .long y5), (7, .int y7)]) hx hb dX0_reachOf_70 hl (by decide) rfl (fun ls hl => ?_)
          exact l_72 y7 FUEL y5 0 _ _ _ hf T (lv_sub hl [1, 2, 3, 4, 5, 0] rfl)
        · replace hf := ifp hc hf
          refine lv_goto (tgt := 99) hx hb dX0_reachOf_66 (by decide) ?_
          exact j_99 y5 y7 _ _ _ hf T (lv_sub hl [0, 1, 2, 3, 4] rfl)
  have l_5 : ∀ (y1 : Int32) (y2 : Int32) (n : Nat) (y3 : Int64) (y5 : Int32) (H : Heap) (locs : List Loc) (ls : Array Slot), loop (fX0_reachOf_b5 S y1 y2) n (y3, y5) = some r → ST D (wC cy ad) A s S H locs → lv_has ls 9 [(0, .ref (ad 1)), (1, .int y1), (2, .int y2), (3, .long y3), (5, .int y5)] → W p l e ({ frames := 3, cells := 0, slots := 0, locals := 74 } : Room) s m [.ref (ad 1), .int x1, .int x2].toArray below meth c H locs 0 0 (MQ below (QG D (wC cy ad) A (some (.long r)) S) [.ref (ad 1), .int x1, .int x2].toArray s 0 0 A) (F0 m 5 ls []) := by
    intro y1 y2 n
    induction n with
    | zero => intro _ _ _ _ _ hf; cases hf
    | succ n ih_5 =>
      intro y3 y5 H locs ls hf T hl
      obtain ⟨z_5, hf, hin_5, hex_5⟩ := loop_inv hf
      unfold fX0_reachOf_b5 at hf
      dsimp only at hf
      refine lv_iload hx hb dX0_reachOf_5 (lv_at hl 4 rfl) ?_
      refine lv_bipush (v := 8) hx hb dX0_reachOf_7 (by decide) ?_
      refine lv_icmp_ge (tgt := 29) hx hb dX0_reachOf_9 (by decide) (fun hc => ?_) (fun hc => ?_)
      · replace hf := ifp hc hf
        obtain ⟨r0, hf, hz⟩ := ex_inv hf
        rw [hex_5 r0 hz] at hf
        refine lv_aload_n hx hb dX0_reachOf_29 rfl (lv_at hl 0 rfl) ?_
        refine lv_iload_n hx hb dX0_reachOf_30 rfl (lv_at hl 1 rfl) ?_
        obtain ⟨v7, h6, hf⟩ := bnd_inv hf
        refine cg_V (q0 := 1) (ci := 0) (As := [.int y1]) (rest := []) X T (kX0_powerOf l D cy ad S y1 v7 h6) (cwV 1 hts gX0_reachOf_X0_powerOf rfl rfl rfl (by decide +kernel) ⟨Nat.le_of_ble_eq_true rfl, Nat.le_of_ble_eq_true rfl⟩) rfl rfl rfl hl.1 rfl (Nat.le_of_ble_eq_true rfl) dX0_reachOf_31 ⟨Nat.zero_le _, Nat.zero_le _⟩ (st2 := [.int v7]) (pc2 := 34) rfl rfl (fun H locs T => ?_)
        refine lv_iconst (v := 1) hx hb dX0_reachOf_34 (by decide) ?_
        refine lv_icmp_eq (tgt := 40) hx hb dX0_reachOf_35 (by decide) (fun hc => ?_) (fun hc => ?_)
        · replace hf := ifp hc hf
          refine lv_lload_n hx hb dX0_reachOf_40 rfl (lv_at hl 3 rfl) ?_
          refine lv_lstore (lv' := [(5, .long y3), (0, .ref (ad 1)), (1, .int y1), (2, .int y2), (3, .long y3)]) hx hb dX0_reachOf_41 hl (by decide) rfl (fun ls hl => ?_)
          refine lv_iconst (v := 0) hx hb dX0_reachOf_43 (by decide) ?_
          refine lv_istore (lv' := [(7, .int 0), (5, .long y3), (0, .ref (ad 1)), (1, .int y1), (2, .int y2), (3, .long y3)]) hx hb dX0_reachOf_44 hl (by decide) rfl (fun ls hl => ?_)
          exact l_46 y1 y3 FUEL y3 0 _ _ _ hf T (lv_sub hl [2, 3, 5, 1, 0] rfl)
        · replace hf := ifn hc hf
          refine lv_lload_n hx hb dX0_reachOf_38 rfl (lv_at hl 3 rfl) ?_
          obtain rfl := Option.some.inj hf
          exact rt_l X T hr dX0_reachOf_39
      · replace hf := ifn hc hf
        refine lv_lload_n hx hb dX0_reachOf_12 rfl (lv_at hl 3 rfl) ?_
        refine lv_aload_n hx hb dX0_reachOf_13 rfl (lv_at hl 0 rfl) ?_
        refine lv_iload_n hx hb dX0_reachOf_14 rfl (lv_at hl 1 rfl) ?_
        refine lv_iload_n hx hb dX0_reachOf_15 rfl (lv_at hl 2 rfl) ?_
        refine lv_iload hx hb dX0_reachOf_16 (lv_at hl 4 rfl) ?_
        obtain ⟨v9, h8, hf⟩ := bnd_inv hf
        refine cg_V (q0 := 1) (ci := 0) (As := [.int y1, .int y2, .int y5]) (rest := [.long y3]) X T (kX0_stepOf l D cy ad S y1 y2 y5 v9 h8) (cwV 3 hts gX0_reachOf_X0_stepOf rfl rfl rfl (by decide +kernel) ⟨Nat.le_of_ble_eq_true rfl, Nat.le_of_ble_eq_true rfl⟩) rfl rfl rfl hl.1 rfl (Nat.le_of_ble_eq_true rfl) dX0_reachOf_18 ⟨Nat.zero_le _, Nat.zero_le _⟩ (st2 := [.long v9, .long y3]) (pc2 := 21) rfl rfl (fun H locs T => ?_)
        refine lv_lor hx hb dX0_reachOf_21 ?_
        obtain ⟨v10, e_v10, hf⟩ := nm_inv hf
        rw [← e_v10]
        refine lv_lstore_n (lv' := [(3, .long v10), (0, .ref (ad 1)), (1, .int y1), (2, .int y2), (5, .int y5)]) hx hb dX0_reachOf_22 rfl hl (by decide) rfl (fun ls hl => ?_)
        obtain ⟨v11, e_v11, hf⟩ := nm_inv hf
        refine lv_iinc (v := v11) (lv' := [(5, .int v11), (3, .long v10), (0, .ref (ad 1)), (1, .int y1), (2, .int y2)]) hx hb dX0_reachOf_23 hl (k := 4) rfl (by rw [e_v11]; rfl) (by decide) rfl (fun ls hl => ?_)
        refine lv_goto (tgt := 5) hx hb dX0_reachOf_26 (by decide) ?_
        exact ih_5 v10 v11 _ _ _ (hin_5 _ (Option.some.inj hf).symm) T (lv_sub hl [2, 3, 4, 1, 0] rfl)
  refine lv_lconst (v := 0) hx hb dX0_reachOf_0 (by decide) ?_
  refine lv_lstore_n (lv' := [(3, .long (0 : Int64)), (0, .ref (ad 1)), (1, .int x1), (2, .int x2)]) hx hb dX0_reachOf_1 rfl hl (by decide) rfl (fun ls hl => ?_)
  refine lv_iconst (v := 0) hx hb dX0_reachOf_2 (by decide) ?_
  refine lv_istore (lv' := [(5, .int 0), (3, .long (0 : Int64)), (0, .ref (ad 1)), (1, .int x1), (2, .int x2)]) hx hb dX0_reachOf_3 hl (by decide) rfl (fun ls hl => ?_)
  exact l_5 x1 x2 FUEL (0 : Int64) 0 _ _ _ hf T (lv_sub hl [2, 3, 4, 1, 0] rfl)
end
section
noncomputable def fX2_clear (S : SC) (t : Nat) : Option SC :=
  nm (setS S (8 + t) 0 : SC) fun S1 =>
  some S1
set_option maxHeartbeats 4000000 in
set_option maxRecDepth 100000 in
theorem kX2_clear (l : Launch) (D : va_G) (cy : Nat → ClassId) (ad : Nat → Nat) (S : SC) (t : Nat) (r : SC) (hf : fX2_clear S t = some r) (ht_t : t < 4) : CG l D cy (wC cy ad) yX2_clear wsX2_clear ({ frames := 0, cells := 0, slots := 0, locals := 0 } : Room) [.ref (ad (7 + 2 * t))] S none r := by
  refine CG.of (cc := cX2_clear) (maxL := 1) (ret := none) (by decide +kernel) rfl (Nat.le_of_ble_eq_true rfl) ?_
  intro p e s m below meth c A ls X hr T hl
  obtain ⟨hx, hb, hml, hown, hts, hlk, hK, hA, hwA⟩ := id X
  have hl : lv_has ls 1 [(0, .ref (ad (7 + 2 * t)))] := hl
  have hin_X2 : ∀ w ∈ u_ws RX2 TX2 2, w ∈ wsX2_clear := by decide +kernel
  unfold fX2_clear at hf
  refine lv_aload_n hx hb dX2_clear_0 rfl (lv_at hl 0 rfl) ?_
  refine lv_iconst (v := 0) hx hb dX2_clear_1 (by decide) ?_
  obtain ⟨S1, e_S1, hf⟩ := nm_inv hf
  refine va_put (D := D) (ci := 2) (v := .int 0) (ty := .int) (C := RX2) (T := TX2) (N := 2) hx hb hts hin_X2 tyX2 tyX2_ok nmX2 hown hK.1 T.1 T.2.1 T.2.2 (7 + 2 * t) (wC_L cy ad S ht_t) rfl 1 (by decide) (hts _ (List.mem_of_getElem? (i := 1) rfl)) (fun _ h9 => h9) rfl (by decide +kernel) rfl rfl (Nat.le_of_ble_eq_true rfl) dX2_clear_2 (fun H locs hP hD hS => ?_)
  have T : ST D (wC cy ad) A s S1 H locs := ⟨by rw [e_S1, ← wC_L_set cy ad S 0 ht_t]; exact hP, by rw [e_S1, ← wC_L_set cy ad S 0 ht_t]; exact hD, hS⟩
  obtain rfl := Option.some.inj hf
  exact rt_v X T hr dX2_clear_5

noncomputable def fX2_add (S : SC) (t : Nat) (x1 : Int32) : Option SC :=
  if S.1 (8 + t) < 0 then
    some S
  else
    if (338 : Int32) ≤ S.1 (8 + t) then
      some S
    else
      ck (S.1 (8 + t)) 338 <|
      nm (setA S (5 + t) (S.1 (8 + t)) x1 : SC) fun S1 =>
      nm (setS S1 (8 + t) ((S1.1 (8 + t)) + 1) : SC) fun S2 =>
      some S2
set_option maxHeartbeats 4000000 in
set_option maxRecDepth 100000 in
theorem kX2_add (l : Launch) (D : va_G) (cy : Nat → ClassId) (ad : Nat → Nat) (S : SC) (t : Nat) (x1 : Int32) (r : SC) (hf : fX2_add S t x1 = some r) (ht_t : t < 4) : CG l D cy (wC cy ad) yX2_add wsX2_add ({ frames := 0, cells := 0, slots := 0, locals := 0 } : Room) [.ref (ad (7 + 2 * t)), .int x1] S none r := by
  refine CG.of (cc := cX2_add) (maxL := 2) (ret := none) (by decide +kernel) rfl (Nat.le_of_ble_eq_true rfl) ?_
  intro p e s m below meth c A ls X hr T hl
  obtain ⟨hx, hb, hml, hown, hts, hlk, hK, hA, hwA⟩ := id X
  have hl : lv_has ls 2 [(0, .ref (ad (7 + 2 * t))), (1, .int x1)] := hl
  have hin_X2 : ∀ w ∈ u_ws RX2 TX2 2, w ∈ wsX2_add := by decide +kernel
  unfold fX2_add at hf
  refine lv_aload_n hx hb dX2_add_0 rfl (lv_at hl 0 rfl) ?_
  refine va_get (D := D) (ci := 2) (v := .int (S.1 (8 + t))) (C := RX2) (T := TX2) (N := 2) hx hb hts hin_X2 hown hK.1 T.1 (7 + 2 * t) (wC_L cy ad S ht_t) rfl 1 (by decide) (hts _ (List.mem_of_getElem? (i := 1) rfl)) (fun _ h9 => h9) rfl dX2_add_1 ?_
  refine lv_if_lt (tgt := 39) hx hb dX2_add_4 (by decide) (fun hc => ?_) (fun hc => ?_)
  · replace hf := ifp hc hf
    obtain rfl := Option.some.inj hf
    exact rt_v X T hr dX2_add_39
  · replace hf := ifn hc hf
    refine lv_aload_n hx hb dX2_add_7 rfl (lv_at hl 0 rfl) ?_
    refine va_get (D := D) (ci := 2) (v := .int (S.1 (8 + t))) (C := RX2) (T := TX2) (N := 2) hx hb hts hin_X2 hown hK.1 T.1 (7 + 2 * t) (wC_L cy ad S ht_t) rfl 1 (by decide) (hts _ (List.mem_of_getElem? (i := 1) rfl)) (fun _ h9 => h9) rfl dX2_add_8 ?_
    refine lv_aload_n hx hb dX2_add_11 rfl (lv_at hl 0 rfl) ?_
    refine va_get (D := D) (ci := 2) (v := .ref (ad (8 + 2 * t))) (C := RX2) (T := TX2) (N := 2) hx hb hts hin_X2 hown hK.1 T.1 (7 + 2 * t) (wC_L cy ad S ht_t) rfl 0 (by decide) (hts _ (List.mem_of_getElem? (i := 2) rfl)) (fun _ h9 => h9) rfl dX2_add_12 ?_
    refine va_alen (v := 338) hx hb hK.1 T.1 (8 + 2 * t) 0 (wC_N cy ad S ht_t) rfl rfl dX2_add_15 ?_
    refine lv_icmp_ge (tgt := 39) hx hb dX2_add_16 (by decide) (fun hc => ?_) (fun hc => ?_)
    · replace hf := ifp hc hf
      obtain rfl := Option.some.inj hf
      exact rt_v X T hr dX2_add_39
    · replace hf := ifn hc hf
      refine lv_aload_n hx hb dX2_add_19 rfl (lv_at hl 0 rfl) ?_
      refine va_get (D := D) (ci := 2) (v := .ref (ad (8 + 2 * t))) (C := RX2) (T := TX2) (N := 2) hx hb hts hin_X2 hown hK.1 T.1 (7 + 2 * t) (wC_L cy ad S ht_t) rfl 0 (by decide) (hts _ (List.mem_of_getElem? (i := 2) rfl)) (fun _ h9 => h9) rfl dX2_add_20 ?_
      refine lv_aload_n hx hb dX2_add_23 rfl (lv_at hl 0 rfl) ?_
      refine va_get (D := D) (ci := 2) (v := .int (S.1 (8 + t))) (C := RX2) (T := TX2) (N := 2) hx hb hts hin_X2 hown hK.1 T.1 (7 + 2 * t) (wC_L cy ad S ht_t) rfl 1 (by decide) (hts _ (List.mem_of_getElem? (i := 1) rfl)) (fun _ h9 => h9) rfl dX2_add_24 ?_
      refine lv_iload_n hx hb dX2_add_27 rfl (lv_at hl 1 rfl) ?_
      obtain ⟨hin, hf⟩ := ck_inv hf
      obtain ⟨S1, e_S1, hf⟩ := nm_inv hf
      refine va_iast hx hb hK.1 T.1 T.2.1 T.2.2 (8 + 2 * t) 0 (wC_N cy ad S ht_t) rfl hin dX2_add_28 (fun H locs hP hD hS => ?_)
      have T : ST D (wC cy ad) A s S1 H locs := ⟨by rw [e_S1, ← wC_N_set cy ad S (S.1 (8 + t)) x1 ht_t]; exact hP, by rw [e_S1, ← wC_N_set cy ad S (S.1 (8 + t)) x1 ht_t]; exact hD, hS⟩
      refine lv_aload_n hx hb dX2_add_29 rfl (lv_at hl 0 rfl) ?_
      refine lv_dup hx hb dX2_add_30 rfl ?_
      refine va_get (D := D) (ci := 2) (v := .int (S1.1 (8 + t))) (C := RX2) (T := TX2) (N := 2) hx hb hts hin_X2 hown hK.1 T.1 (7 + 2 * t) (wC_L cy ad S1 ht_t) rfl 1 (by decide) (hts _ (List.mem_of_getElem? (i := 1) rfl)) (fun _ h9 => h9) rfl dX2_add_31 ?_
      refine lv_iconst (v := 1) hx hb dX2_add_34 (by decide) ?_
      refine lv_iadd hx hb dX2_add_35 ?_
      obtain ⟨S2, e_S2, hf⟩ := nm_inv hf
      refine va_put (D := D) (ci := 2) (v := .int ((S1.1 (8 + t)) + 1)) (ty := .int) (C := RX2) (T := TX2) (N := 2) hx hb hts hin_X2 tyX2 tyX2_ok nmX2 hown hK.1 T.1 T.2.1 T.2.2 (7 + 2 * t) (wC_L cy ad S1 ht_t) rfl 1 (by decide) (hts _ (List.mem_of_getElem? (i := 1) rfl)) (fun _ h9 => h9) rfl (by decide +kernel) rfl rfl (Nat.le_of_ble_eq_true rfl) dX2_add_36 (fun H locs hP hD hS => ?_)
      have T : ST D (wC cy ad) A s S2 H locs := ⟨by rw [e_S2, ← wC_L_set cy ad S1 ((S1.1 (8 + t)) + 1) ht_t]; exact hP, by rw [e_S2, ← wC_L_set cy ad S1 ((S1.1 (8 + t)) + 1) ht_t]; exact hD, hS⟩
      obtain rfl := Option.some.inj hf
      exact rt_v X T hr dX2_add_39

noncomputable def fX2_at (S : SC) (t : Nat) (x1 : Int32) : Option Int32 :=
  if x1 < 0 then
    some (-1)
  else
    if (338 : Int32) ≤ x1 then
      some (-1)
    else
      ck x1 338 <|
      some (S.2 (5 + t) x1.toNatClampNeg)
set_option maxHeartbeats 4000000 in
set_option maxRecDepth 100000 in
theorem kX2_at (l : Launch) (D : va_G) (cy : Nat → ClassId) (ad : Nat → Nat) (S : SC) (t : Nat) (x1 : Int32) (r : Int32) (hf : fX2_at S t x1 = some r) (ht_t : t < 4) : CG l D cy (wC cy ad) yX2_at wsX2_at ({ frames := 0, cells := 0, slots := 0, locals := 0 } : Room) [.ref (ad (7 + 2 * t)), .int x1] S (some (.int r)) S := by
  refine CG.of (cc := cX2_at) (maxL := 2) (ret := (some .int)) (by decide +kernel) rfl (Nat.le_of_ble_eq_true rfl) ?_
  intro p e s m below meth c A ls X hr T hl
  obtain ⟨hx, hb, hml, hown, hts, hlk, hK, hA, hwA⟩ := id X
  have hl : lv_has ls 2 [(0, .ref (ad (7 + 2 * t))), (1, .int x1)] := hl
  have hin_X2 : ∀ w ∈ u_ws RX2 TX2 2, w ∈ wsX2_at := by decide +kernel
  unfold fX2_at at hf
  refine lv_iload_n hx hb dX2_at_0 rfl (lv_at hl 1 rfl) ?_
  refine lv_if_lt (tgt := 22) hx hb dX2_at_1 (by decide) (fun hc => ?_) (fun hc => ?_)
  · replace hf := ifp hc hf
    refine lv_iconst (v := (-1)) hx hb dX2_at_22 (by decide) ?_
    obtain rfl := Option.some.inj hf
    exact rt_i X T hr dX2_at_23
  · replace hf := ifn hc hf
    refine lv_iload_n hx hb dX2_at_4 rfl (lv_at hl 1 rfl) ?_
    refine lv_aload_n hx hb dX2_at_5 rfl (lv_at hl 0 rfl) ?_
    refine va_get (D := D) (ci := 2) (v := .ref (ad (8 + 2 * t))) (C := RX2) (T := TX2) (N := 2) hx hb hts hin_X2 hown hK.1 T.1 (7 + 2 * t) (wC_L cy ad S ht_t) rfl 0 (by decide) (hts _ (List.mem_of_getElem? (i := 1) rfl)) (fun _ h9 => h9) rfl dX2_at_6 ?_
    refine va_alen (v := 338) hx hb hK.1 T.1 (8 + 2 * t) 0 (wC_N cy ad S ht_t) rfl rfl dX2_at_9 ?_
    refine lv_icmp_ge (tgt := 22) hx hb dX2_at_10 (by decide) (fun hc => ?_) (fun hc => ?_)
    · replace hf := ifp hc hf
      refine lv_iconst (v := (-1)) hx hb dX2_at_22 (by decide) ?_
      obtain rfl := Option.some.inj hf
      exact rt_i X T hr dX2_at_23
    · replace hf := ifn hc hf
      refine lv_aload_n hx hb dX2_at_13 rfl (lv_at hl 0 rfl) ?_
      refine va_get (D := D) (ci := 2) (v := .ref (ad (8 + 2 * t))) (C := RX2) (T := TX2) (N := 2) hx hb hts hin_X2 hown hK.1 T.1 (7 + 2 * t) (wC_L cy ad S ht_t) rfl 0 (by decide) (hts _ (List.mem_of_getElem? (i := 1) rfl)) (fun _ h9 => h9) rfl dX2_at_14 ?_
      refine lv_iload_n hx hb dX2_at_17 rfl (lv_at hl 1 rfl) ?_
      obtain ⟨hin, hf⟩ := ck_inv hf
      refine va_iald hx hb hK.1 T.1 (8 + 2 * t) 0 (wC_N cy ad S ht_t) rfl hin dX2_at_18 ?_
      refine lv_goto (tgt := 23) hx hb dX2_at_19 (by decide) ?_
      obtain rfl := Option.some.inj hf
      exact rt_i X T hr dX2_at_23

noncomputable def fX2_holds_b2 (S : SC) (y0 : Nat) (y1 : Int32) : Int32 → Option (Int32 ⊕ Int32) :=
  fun y2 =>
    if S.1 (8 + y0) ≤ y2 then
      ex <|
      some 0
    else
      bnd (fX2_at S y0 y2) fun v2 =>
      if v2 = y1 then
        ex <|
        some 1
      else
        nm (y2 + 1 : Int32) fun v3 =>
        some (.inl v3)
noncomputable def fX2_holds (S : SC) (t : Nat) (x1 : Int32) : Option Int32 :=
  loop (fX2_holds_b2 S t x1) FUEL 0
set_option maxHeartbeats 4000000 in
set_option maxRecDepth 100000 in
theorem kX2_holds (l : Launch) (D : va_G) (cy : Nat → ClassId) (ad : Nat → Nat) (S : SC) (t : Nat) (x1 : Int32) (r : Int32) (hf : fX2_holds S t x1 = some r) (ht_t : t < 4) : CG l D cy (wC cy ad) yX2_holds wsX2_holds ({ frames := 1, cells := 0, slots := 0, locals := 21 } : Room) [.ref (ad (7 + 2 * t)), .int x1] S (some (.int r)) S := by
  refine CG.of (cc := cX2_holds) (maxL := 3) (ret := (some .boolean)) (by decide +kernel) rfl (Nat.le_of_ble_eq_true rfl) ?_
  intro p e s m below meth c A ls X hr T hl
  obtain ⟨hx, hb, hml, hown, hts, hlk, hK, hA, hwA⟩ := id X
  have hl : lv_has ls 3 [(0, .ref (ad (7 + 2 * t))), (1, .int x1)] := hl
  have hin_X2 : ∀ w ∈ u_ws RX2 TX2 2, w ∈ wsX2_holds := by decide +kernel
  unfold fX2_holds at hf
  have l_2 : ∀ (y0 : Nat) (y1 : Int32) (n : Nat) (y2 : Int32) (H : Heap) (locs : List Loc) (ls : Array Slot), loop (fX2_holds_b2 S y0 y1) n y2 = some r → ST D (wC cy ad) A s S H locs → lv_has ls 3 [(0, .ref (ad (7 + 2 * y0))), (1, .int y1), (2, .int y2)] → y0 < 4 → W p l e ({ frames := 1, cells := 0, slots := 0, locals := 21 } : Room) s m [.ref (ad (7 + 2 * t)), .int x1].toArray below meth c H locs 0 0 (MQ below (QG D (wC cy ad) A (some (.int r)) S) [.ref (ad (7 + 2 * t)), .int x1].toArray s 0 0 A) (F0 m 2 ls []) := by
    intro y0 y1 n
    induction n with
    | zero => intro _ _ _ _ hf; cases hf
    | succ n ih_2 =>
      intro y2 H locs ls hf T hl ht_y0
      obtain ⟨z_2, hf, hin_2, hex_2⟩ := loop_inv hf
      unfold fX2_holds_b2 at hf
      refine lv_iload_n hx hb dX2_holds_2 rfl (lv_at hl 2 rfl) ?_
      refine lv_aload_n hx hb dX2_holds_3 rfl (lv_at hl 0 rfl) ?_
      refine va_get (D := D) (ci := 2) (v := .int (S.1 (8 + y0))) (C := RX2) (T := TX2) (N := 2) hx hb hts hin_X2 hown hK.1 T.1 (7 + 2 * y0) (wC_L cy ad S ht_y0) rfl 1 (by decide) (hts _ (List.mem_of_getElem? (i := 1) rfl)) (fun _ h9 => h9) rfl dX2_holds_4 ?_
      refine lv_icmp_ge (tgt := 27) hx hb dX2_holds_7 (by decide) (fun hc => ?_) (fun hc => ?_)
      · replace hf := ifp hc hf
        obtain ⟨r0, hf, hz⟩ := ex_inv hf
        rw [hex_2 r0 hz] at hf
        refine lv_iconst (v := 0) hx hb dX2_holds_27 (by decide) ?_
        obtain rfl := Option.some.inj hf
        exact rt_z X T hr (Or.inl rfl) dX2_holds_28
      · replace hf := ifn hc hf
        refine lv_aload_n hx hb dX2_holds_10 rfl (lv_at hl 0 rfl) ?_
        refine lv_iload_n hx hb dX2_holds_11 rfl (lv_at hl 2 rfl) ?_
        obtain ⟨v2, h1, hf⟩ := bnd_inv hf
        refine cg_V (q0 := (7 + 2 * y0)) (ci := 2) (As := [.int y2]) (rest := []) X T (kX2_at l D cy ad S y0 y2 v2 h1 ht_y0) (cwV 1 hts gX2_holds_X2_at rfl rfl rfl (by decide +kernel) ⟨Nat.le_of_ble_eq_true rfl, Nat.le_of_ble_eq_true rfl⟩) (wC_L cy ad S ht_y0) rfl rfl hl.1 rfl (Nat.le_of_ble_eq_true rfl) dX2_holds_12 ⟨Nat.zero_le _, Nat.zero_le _⟩ (st2 := [.int v2]) (pc2 := 15) rfl rfl (fun H locs T => ?_)
        refine lv_iload_n hx hb dX2_holds_15 rfl (lv_at hl 1 rfl) ?_
        refine lv_icmp_ne (tgt := 21) hx hb dX2_holds_16 (by decide) (fun hc => ?_) (fun hc => ?_)
        · replace hf := ifn hc hf
          obtain ⟨v3, e_v3, hf⟩ := nm_inv hf
          refine lv_iinc (v := v3) (lv' := [(2, .int v3), (0, .ref (ad (7 + 2 * y0))), (1, .int y1)]) hx hb dX2_holds_21 hl (k := 2) rfl (by rw [e_v3]; rfl) (by decide) rfl (fun ls hl => ?_)
          refine lv_goto (tgt := 2) hx hb dX2_holds_24 (by decide) ?_
          exact ih_2 v3 _ _ _ (hin_2 _ (Option.some.inj hf).symm) T (lv_sub hl [1, 2, 0] rfl) ht_y0
        · replace hf := ifp hc hf
          obtain ⟨r0, hf, hz⟩ := ex_inv hf
          rw [hex_2 r0 hz] at hf
          refine lv_iconst (v := 1) hx hb dX2_holds_19 (by decide) ?_
          obtain rfl := Option.some.inj hf
          exact rt_z X T hr (Or.inr rfl) dX2_holds_20
  refine lv_iconst (v := 0) hx hb dX2_holds_0 (by decide) ?_
  refine lv_istore_n (lv' := [(2, .int 0), (0, .ref (ad (7 + 2 * t))), (1, .int x1)]) hx hb dX2_holds_1 rfl hl (by decide) rfl (fun ls hl => ?_)
  exact l_2 t x1 FUEL 0 _ _ _ hf T (lv_sub hl [1, 2, 0] rfl) ht_t
end
section
noncomputable def fX0_destinationOf (S : SC) (x0 : Int32) : Option Int32 :=
  some ((x0 / 100) - (x0 / 100) / 100 * 100)
set_option maxHeartbeats 4000000 in
set_option maxRecDepth 100000 in
theorem kX0_destinationOf (l : Launch) (D : va_G) (cy : Nat → ClassId) (ad : Nat → Nat) (S : SC) (x0 : Int32) (r : Int32) (hf : fX0_destinationOf S x0 = some r) : CG l D cy (wC cy ad) yX0_destinationOf wsX0_destinationOf ({ frames := 0, cells := 0, slots := 0, locals := 0 } : Room) [.int x0] S (some (.int r)) S := by
  refine CG.of (cc := cX0_destinationOf) (maxL := 1) (ret := (some .int)) (by decide +kernel) rfl (Nat.le_of_ble_eq_true rfl) ?_
  intro p e s m below meth c A ls X hr T hl
  obtain ⟨hx, hb, hml, hown, hts, hlk, hK, hA, hwA⟩ := id X
  have hl : lv_has ls 1 [(0, .int x0)] := hl
  unfold fX0_destinationOf at hf
  refine lv_iload_n hx hb dX0_destinationOf_0 rfl (lv_at hl 0 rfl) ?_
  refine lv_bipush (v := 100) hx hb dX0_destinationOf_1 (by decide) ?_
  refine lv_idiv hx hb dX0_destinationOf_3 (by decide) ?_
  refine lv_bipush (v := 100) hx hb dX0_destinationOf_4 (by decide) ?_
  refine lv_irem hx hb dX0_destinationOf_6 (by decide) ?_
  obtain rfl := Option.some.inj hf
  exact rt_i X T hr dX0_destinationOf_7

noncomputable def fX0_builtCellOf (S : SC) (x0 : Int32) : Option Int32 :=
  nm (x0 - x0 / 100 * 100 : Int32) fun v1 =>
  if v1 = 99 then
    some (-1)
  else
    if (50 : Int32) ≤ v1 then
      some (v1 - 50)
    else
      some v1
set_option maxHeartbeats 4000000 in
set_option maxRecDepth 100000 in
theorem kX0_builtCellOf (l : Launch) (D : va_G) (cy : Nat → ClassId) (ad : Nat → Nat) (S : SC) (x0 : Int32) (r : Int32) (hf : fX0_builtCellOf S x0 = some r) : CG l D cy (wC cy ad) yX0_builtCellOf wsX0_builtCellOf ({ frames := 0, cells := 0, slots := 0, locals := 0 } : Room) [.int x0] S (some (.int r)) S := by
  refine CG.of (cc := cX0_builtCellOf) (maxL := 2) (ret := (some .int)) (by decide +kernel) rfl (Nat.le_of_ble_eq_true rfl) ?_
  intro p e s m below meth c A ls X hr T hl
  obtain ⟨hx, hb, hml, hown, hts, hlk, hK, hA, hwA⟩ := id X
  have hl : lv_has ls 2 [(0, .int x0)] := hl
  unfold fX0_builtCellOf at hf
  refine lv_iload_n hx hb dX0_builtCellOf_0 rfl (lv_at hl 0 rfl) ?_
  refine lv_bipush (v := 100) hx hb dX0_builtCellOf_1 (by decide) ?_
  refine lv_irem hx hb dX0_builtCellOf_3 (by decide) ?_
  obtain ⟨v1, e_v1, hf⟩ := nm_inv hf
  rw [← e_v1]
  refine lv_istore_n (lv' := [(1, .int v1), (0, .int x0)]) hx hb dX0_builtCellOf_4 rfl hl (by decide) rfl (fun ls hl => ?_)
  refine lv_iload_n hx hb dX0_builtCellOf_5 rfl (lv_at hl 0 rfl) ?_
  refine lv_bipush (v := 99) hx hb dX0_builtCellOf_6 (by decide) ?_
  refine lv_icmp_ne (tgt := 13) hx hb dX0_builtCellOf_8 (by decide) (fun hc => ?_) (fun hc => ?_)
  · replace hf := ifn hc hf
    refine lv_iload_n hx hb dX0_builtCellOf_13 rfl (lv_at hl 0 rfl) ?_
    refine lv_bipush (v := 50) hx hb dX0_builtCellOf_14 (by decide) ?_
    refine lv_icmp_ge (tgt := 23) hx hb dX0_builtCellOf_16 (by decide) (fun hc => ?_) (fun hc => ?_)
    · replace hf := ifp hc hf
      refine lv_iload_n hx hb dX0_builtCellOf_23 rfl (lv_at hl 0 rfl) ?_
      refine lv_bipush (v := 50) hx hb dX0_builtCellOf_24 (by decide) ?_
      refine lv_isub hx hb dX0_builtCellOf_26 ?_
      obtain rfl := Option.some.inj hf
      exact rt_i X T hr dX0_builtCellOf_27
    · replace hf := ifn hc hf
      refine lv_iload_n hx hb dX0_builtCellOf_19 rfl (lv_at hl 0 rfl) ?_
      refine lv_goto (tgt := 27) hx hb dX0_builtCellOf_20 (by decide) ?_
      obtain rfl := Option.some.inj hf
      exact rt_i X T hr dX0_builtCellOf_27
  · replace hf := ifp hc hf
    refine lv_iconst (v := (-1)) hx hb dX0_builtCellOf_11 (by decide) ?_
    obtain rfl := Option.some.inj hf
    exact rt_i X T hr dX0_builtCellOf_12

noncomputable def fX0_setStoreys (S : SC) (x1 : Int32) (x2 : Int32) : Option SC :=
  if x1 < 0 then
    some S
  else
    if (25 : Int32) ≤ x1 then
      some S
    else
      ck x1 25 <|
      nm (setA S 1 x1 x2 : SC) fun S1 =>
      some S1
set_option maxHeartbeats 4000000 in
set_option maxRecDepth 100000 in
theorem kX0_setStoreys (l : Launch) (D : va_G) (cy : Nat → ClassId) (ad : Nat → Nat) (S : SC) (x1 : Int32) (x2 : Int32) (r : SC) (hf : fX0_setStoreys S x1 x2 = some r) : CG l D cy (wC cy ad) yX0_setStoreys wsX0_setStoreys ({ frames := 0, cells := 0, slots := 0, locals := 0 } : Room) [.ref (ad 1), .int x1, .int x2] S none r := by
  refine CG.of (cc := cX0_setStoreys) (maxL := 3) (ret := none) (by decide +kernel) rfl (Nat.le_of_ble_eq_true rfl) ?_
  intro p e s m below meth c A ls X hr T hl
  obtain ⟨hx, hb, hml, hown, hts, hlk, hK, hA, hwA⟩ := id X
  have hl : lv_has ls 3 [(0, .ref (ad 1)), (1, .int x1), (2, .int x2)] := hl
  have hin_X0 : ∀ w ∈ u_ws RX0 TX0 13, w ∈ wsX0_setStoreys := by decide +kernel
  unfold fX0_setStoreys at hf
  refine lv_iload_n hx hb dX0_setStoreys_0 rfl (lv_at hl 1 rfl) ?_
  refine lv_if_lt (tgt := 20) hx hb dX0_setStoreys_1 (by decide) (fun hc => ?_) (fun hc => ?_)
  · replace hf := ifp hc hf
    obtain rfl := Option.some.inj hf
    exact rt_v X T hr dX0_setStoreys_20
  · replace hf := ifn hc hf
    refine lv_iload_n hx hb dX0_setStoreys_4 rfl (lv_at hl 1 rfl) ?_
    refine lv_aload_n hx hb dX0_setStoreys_5 rfl (lv_at hl 0 rfl) ?_
    refine va_get (D := D) (ci := 0) (v := .ref (ad 3)) (C := RX0) (T := TX0) (N := 13) hx hb hts hin_X0 hown hK.1 T.1 1 rfl rfl 1 (by decide) (hts _ (List.mem_of_getElem? (i := 1) rfl)) (fun _ h9 => h9) rfl dX0_setStoreys_6 ?_
    refine va_alen (v := 25) hx hb hK.1 T.1 3 0 rfl rfl rfl dX0_setStoreys_9 ?_
    refine lv_icmp_ge (tgt := 20) hx hb dX0_setStoreys_10 (by decide) (fun hc => ?_) (fun hc => ?_)
    · replace hf := ifp hc hf
      obtain rfl := Option.some.inj hf
      exact rt_v X T hr dX0_setStoreys_20
    · replace hf := ifn hc hf
      refine lv_aload_n hx hb dX0_setStoreys_13 rfl (lv_at hl 0 rfl) ?_
      refine va_get (D := D) (ci := 0) (v := .ref (ad 3)) (C := RX0) (T := TX0) (N := 13) hx hb hts hin_X0 hown hK.1 T.1 1 rfl rfl 1 (by decide) (hts _ (List.mem_of_getElem? (i := 1) rfl)) (fun _ h9 => h9) rfl dX0_setStoreys_14 ?_
      refine lv_iload_n hx hb dX0_setStoreys_17 rfl (lv_at hl 1 rfl) ?_
      refine lv_iload_n hx hb dX0_setStoreys_18 rfl (lv_at hl 2 rfl) ?_
      obtain ⟨hin, hf⟩ := ck_inv hf
      obtain ⟨S1, e_S1, hf⟩ := nm_inv hf
      refine va_iast hx hb hK.1 T.1 T.2.1 T.2.2 3 0 rfl rfl hin dX0_setStoreys_19 (fun H locs hP hD hS => ?_)
      have T : ST D (wC cy ad) A s S1 H locs := ⟨by rw [e_S1]; exact hP, by rw [e_S1]; exact hD, hS⟩
      obtain rfl := Option.some.inj hf
      exact rt_v X T hr dX0_setStoreys_20

noncomputable def fX0_put (S : SC) (x1 : Int32) (x2 : Int32) : Option SC :=
  nm (((2 : Int32) * (x1 / 10)) + (x1 - x1 / 10 * 10) : Int32) fun v1 =>
  if x2 < 0 then
    some S
  else
    if (25 : Int32) ≤ x2 then
      some S
    else
      if v1 < 0 then
        some S
      else
        if (4 : Int32) ≤ v1 then
          some S
        else
          ck x2 25 <|
          nm (setA S 2 x2 x1 : SC) fun S2 =>
          ck v1 4 <|
          nm (setA S2 3 v1 x2 : SC) fun S3 =>
          some S3
set_option maxHeartbeats 4000000 in
set_option maxRecDepth 100000 in
theorem kX0_put (l : Launch) (D : va_G) (cy : Nat → ClassId) (ad : Nat → Nat) (S : SC) (x1 : Int32) (x2 : Int32) (r : SC) (hf : fX0_put S x1 x2 = some r) : CG l D cy (wC cy ad) yX0_put wsX0_put ({ frames := 0, cells := 0, slots := 0, locals := 0 } : Room) [.ref (ad 1), .int x1, .int x2] S none r := by
  refine CG.of (cc := cX0_put) (maxL := 4) (ret := none) (by decide +kernel) rfl (Nat.le_of_ble_eq_true rfl) ?_
  intro p e s m below meth c A ls X hr T hl
  obtain ⟨hx, hb, hml, hown, hts, hlk, hK, hA, hwA⟩ := id X
  have hl : lv_has ls 4 [(0, .ref (ad 1)), (1, .int x1), (2, .int x2)] := hl
  have hin_X0 : ∀ w ∈ u_ws RX0 TX0 13, w ∈ wsX0_put := by decide +kernel
  unfold fX0_put at hf
  refine lv_iconst (v := 2) hx hb dX0_put_0 (by decide) ?_
  refine lv_iload_n hx hb dX0_put_1 rfl (lv_at hl 1 rfl) ?_
  refine lv_bipush (v := 10) hx hb dX0_put_2 (by decide) ?_
  refine lv_idiv hx hb dX0_put_4 (by decide) ?_
  refine lv_imul hx hb dX0_put_5 ?_
  refine lv_iload_n hx hb dX0_put_6 rfl (lv_at hl 1 rfl) ?_
  refine lv_bipush (v := 10) hx hb dX0_put_7 (by decide) ?_
  refine lv_irem hx hb dX0_put_9 (by decide) ?_
  refine lv_iadd hx hb dX0_put_10 ?_
  obtain ⟨v1, e_v1, hf⟩ := nm_inv hf
  rw [← e_v1]
  refine lv_istore_n (lv' := [(3, .int v1), (0, .ref (ad 1)), (1, .int x1), (2, .int x2)]) hx hb dX0_put_11 rfl hl (by decide) rfl (fun ls hl => ?_)
  refine lv_iload_n hx hb dX0_put_12 rfl (lv_at hl 3 rfl) ?_
  refine lv_if_lt (tgt := 52) hx hb dX0_put_13 (by decide) (fun hc => ?_) (fun hc => ?_)
  · replace hf := ifp hc hf
    obtain rfl := Option.some.inj hf
    exact rt_v X T hr dX0_put_52
  · replace hf := ifn hc hf
    refine lv_iload_n hx hb dX0_put_16 rfl (lv_at hl 3 rfl) ?_
    refine lv_aload_n hx hb dX0_put_17 rfl (lv_at hl 1 rfl) ?_
    refine va_get (D := D) (ci := 0) (v := .ref (ad 4)) (C := RX0) (T := TX0) (N := 13) hx hb hts hin_X0 hown hK.1 T.1 1 rfl rfl 2 (by decide) (hts _ (List.mem_of_getElem? (i := 1) rfl)) (fun _ h9 => h9) rfl dX0_put_18 ?_
    refine va_alen (v := 25) hx hb hK.1 T.1 4 0 rfl rfl rfl dX0_put_21 ?_
    refine lv_icmp_ge (tgt := 52) hx hb dX0_put_22 (by decide) (fun hc => ?_) (fun hc => ?_)
    · replace hf := ifp hc hf
      obtain rfl := Option.some.inj hf
      exact rt_v X T hr dX0_put_52
    · replace hf := ifn hc hf
      refine lv_iload_n hx hb dX0_put_25 rfl (lv_at hl 0 rfl) ?_
      refine lv_if_lt (tgt := 52) hx hb dX0_put_26 (by decide) (fun hc => ?_) (fun hc => ?_)
      · replace hf := ifp hc hf
        obtain rfl := Option.some.inj hf
        exact rt_v X T hr dX0_put_52
      · replace hf := ifn hc hf
        refine lv_iload_n hx hb dX0_put_29 rfl (lv_at hl 0 rfl) ?_
        refine lv_aload_n hx hb dX0_put_30 rfl (lv_at hl 1 rfl) ?_
        refine va_get (D := D) (ci := 0) (v := .ref (ad 5)) (C := RX0) (T := TX0) (N := 13) hx hb hts hin_X0 hown hK.1 T.1 1 rfl rfl 3 (by decide) (hts _ (List.mem_of_getElem? (i := 2) rfl)) (fun _ h9 => h9) rfl dX0_put_31 ?_
        refine va_alen (v := 4) hx hb hK.1 T.1 5 0 rfl rfl rfl dX0_put_34 ?_
        refine lv_icmp_ge (tgt := 52) hx hb dX0_put_35 (by decide) (fun hc => ?_) (fun hc => ?_)
        · replace hf := ifp hc hf
          obtain rfl := Option.some.inj hf
          exact rt_v X T hr dX0_put_52
        · replace hf := ifn hc hf
          refine lv_aload_n hx hb dX0_put_38 rfl (lv_at hl 1 rfl) ?_
          refine va_get (D := D) (ci := 0) (v := .ref (ad 4)) (C := RX0) (T := TX0) (N := 13) hx hb hts hin_X0 hown hK.1 T.1 1 rfl rfl 2 (by decide) (hts _ (List.mem_of_getElem? (i := 1) rfl)) (fun _ h9 => h9) rfl dX0_put_39 ?_
          refine lv_iload_n hx hb dX0_put_42 rfl (lv_at hl 3 rfl) ?_
          refine lv_iload_n hx hb dX0_put_43 rfl (lv_at hl 2 rfl) ?_
          obtain ⟨hin, hf⟩ := ck_inv hf
          obtain ⟨S2, e_S2, hf⟩ := nm_inv hf
          refine va_iast hx hb hK.1 T.1 T.2.1 T.2.2 4 0 rfl rfl hin dX0_put_44 (fun H locs hP hD hS => ?_)
          have T : ST D (wC cy ad) A s S2 H locs := ⟨by rw [e_S2]; exact hP, by rw [e_S2]; exact hD, hS⟩
          refine lv_aload_n hx hb dX0_put_45 rfl (lv_at hl 1 rfl) ?_
          refine va_get (D := D) (ci := 0) (v := .ref (ad 5)) (C := RX0) (T := TX0) (N := 13) hx hb hts hin_X0 hown hK.1 T.1 1 rfl rfl 3 (by decide) (hts _ (List.mem_of_getElem? (i := 2) rfl)) (fun _ h9 => h9) rfl dX0_put_46 ?_
          refine lv_iload_n hx hb dX0_put_49 rfl (lv_at hl 0 rfl) ?_
          refine lv_iload_n hx hb dX0_put_50 rfl (lv_at hl 3 rfl) ?_
          obtain ⟨hin, hf⟩ := ck_inv hf
          obtain ⟨S3, e_S3, hf⟩ := nm_inv hf
          refine va_iast hx hb hK.1 T.1 T.2.1 T.2.2 5 0 rfl rfl hin dX0_put_51 (fun H locs hP hD hS => ?_)
          have T : ST D (wC cy ad) A s S3 H locs := ⟨by rw [e_S3]; exact hP, by rw [e_S3]; exact hD, hS⟩
          obtain rfl := Option.some.inj hf
          exact rt_v X T hr dX0_put_52

noncomputable def fX0_clear (S : SC) (x1 : Int32) : Option SC :=
  if x1 < 0 then
    some S
  else
    if (25 : Int32) ≤ x1 then
      some S
    else
      ck x1 25 <|
      nm (setA S 2 x1 (-1) : SC) fun S1 =>
      some S1
set_option maxHeartbeats 4000000 in
set_option maxRecDepth 100000 in
theorem kX0_clear (l : Launch) (D : va_G) (cy : Nat → ClassId) (ad : Nat → Nat) (S : SC) (x1 : Int32) (r : SC) (hf : fX0_clear S x1 = some r) : CG l D cy (wC cy ad) yX0_clear wsX0_clear ({ frames := 0, cells := 0, slots := 0, locals := 0 } : Room) [.ref (ad 1), .int x1] S none r := by
  refine CG.of (cc := cX0_clear) (maxL := 2) (ret := none) (by decide +kernel) rfl (Nat.le_of_ble_eq_true rfl) ?_
  intro p e s m below meth c A ls X hr T hl
  obtain ⟨hx, hb, hml, hown, hts, hlk, hK, hA, hwA⟩ := id X
  have hl : lv_has ls 2 [(0, .ref (ad 1)), (1, .int x1)] := hl
  have hin_X0 : ∀ w ∈ u_ws RX0 TX0 13, w ∈ wsX0_clear := by decide +kernel
  unfold fX0_clear at hf
  refine lv_iload_n hx hb dX0_clear_0 rfl (lv_at hl 1 rfl) ?_
  refine lv_if_lt (tgt := 20) hx hb dX0_clear_1 (by decide) (fun hc => ?_) (fun hc => ?_)
  · replace hf := ifp hc hf
    obtain rfl := Option.some.inj hf
    exact rt_v X T hr dX0_clear_20
  · replace hf := ifn hc hf
    refine lv_iload_n hx hb dX0_clear_4 rfl (lv_at hl 1 rfl) ?_
    refine lv_aload_n hx hb dX0_clear_5 rfl (lv_at hl 0 rfl) ?_
    refine va_get (D := D) (ci := 0) (v := .ref (ad 4)) (C := RX0) (T := TX0) (N := 13) hx hb hts hin_X0 hown hK.1 T.1 1 rfl rfl 2 (by decide) (hts _ (List.mem_of_getElem? (i := 1) rfl)) (fun _ h9 => h9) rfl dX0_clear_6 ?_
    refine va_alen (v := 25) hx hb hK.1 T.1 4 0 rfl rfl rfl dX0_clear_9 ?_
    refine lv_icmp_ge (tgt := 20) hx hb dX0_clear_10 (by decide) (fun hc => ?_) (fun hc => ?_)
    · replace hf := ifp hc hf
      obtain rfl := Option.some.inj hf
      exact rt_v X T hr dX0_clear_20
    · replace hf := ifn hc hf
      refine lv_aload_n hx hb dX0_clear_13 rfl (lv_at hl 0 rfl) ?_
      refine va_get (D := D) (ci := 0) (v := .ref (ad 4)) (C := RX0) (T := TX0) (N := 13) hx hb hts hin_X0 hown hK.1 T.1 1 rfl rfl 2 (by decide) (hts _ (List.mem_of_getElem? (i := 1) rfl)) (fun _ h9 => h9) rfl dX0_clear_14 ?_
      refine lv_iload_n hx hb dX0_clear_17 rfl (lv_at hl 1 rfl) ?_
      refine lv_iconst (v := (-1)) hx hb dX0_clear_18 (by decide) ?_
      obtain ⟨hin, hf⟩ := ck_inv hf
      obtain ⟨S1, e_S1, hf⟩ := nm_inv hf
      refine va_iast hx hb hK.1 T.1 T.2.1 T.2.2 4 0 rfl rfl hin dX0_clear_19 (fun H locs hP hD hS => ?_)
      have T : ST D (wC cy ad) A s S1 H locs := ⟨by rw [e_S1]; exact hP, by rw [e_S1]; exact hD, hS⟩
      obtain rfl := Option.some.inj hf
      exact rt_v X T hr dX0_clear_20

noncomputable def fX0_carry (S : SC) (x1 : Int32) (x2 : Int32) (x3 : Int32) : Option SC :=
  bnd (fX0_holderOf S x1) fun v2 =>
  bnd (fX0_holderOf S x2) fun v4 =>
  bnd (fX0_clear S x1) fun S6 =>
  bnd (fX0_put S6 v2 x2) fun S8 =>
  if x3 = (-1) then
    some S8
  else
    bnd (fX0_put S8 v4 x3) fun S10 =>
    some S10
set_option maxHeartbeats 4000000 in
set_option maxRecDepth 100000 in
theorem kX0_carry (l : Launch) (D : va_G) (cy : Nat → ClassId) (ad : Nat → Nat) (S : SC) (x1 : Int32) (x2 : Int32) (x3 : Int32) (r : SC) (hf : fX0_carry S x1 x2 x3 = some r) : CG l D cy (wC cy ad) yX0_carry wsX0_carry ({ frames := 1, cells := 0, slots := 0, locals := 23 } : Room) [.ref (ad 1), .int x1, .int x2, .int x3] S none r := by
  refine CG.of (cc := cX0_carry) (maxL := 6) (ret := none) (by decide +kernel) rfl (Nat.le_of_ble_eq_true rfl) ?_
  intro p e s m below meth c A ls X hr T hl
  obtain ⟨hx, hb, hml, hown, hts, hlk, hK, hA, hwA⟩ := id X
  have hl : lv_has ls 6 [(0, .ref (ad 1)), (1, .int x1), (2, .int x2), (3, .int x3)] := hl
  unfold fX0_carry at hf
  refine lv_aload_n hx hb dX0_carry_0 rfl (lv_at hl 0 rfl) ?_
  refine lv_iload_n hx hb dX0_carry_1 rfl (lv_at hl 1 rfl) ?_
  obtain ⟨v2, h1, hf⟩ := bnd_inv hf
  refine cg_V (q0 := 1) (ci := 0) (As := [.int x1]) (rest := []) X T (kX0_holderOf l D cy ad S x1 v2 h1) (cwV 1 hts gX0_carry_X0_holderOf rfl rfl rfl (by decide +kernel) ⟨Nat.le_of_ble_eq_true rfl, Nat.le_of_ble_eq_true rfl⟩) rfl rfl rfl hl.1 rfl (Nat.le_of_ble_eq_true rfl) dX0_carry_2 ⟨Nat.zero_le _, Nat.zero_le _⟩ (st2 := [.int v2]) (pc2 := 5) rfl rfl (fun H locs T => ?_)
  refine lv_istore (lv' := [(4, .int v2), (0, .ref (ad 1)), (1, .int x1), (2, .int x2), (3, .int x3)]) hx hb dX0_carry_5 hl (by decide) rfl (fun ls hl => ?_)
  refine lv_aload_n hx hb dX0_carry_7 rfl (lv_at hl 1 rfl) ?_
  refine lv_iload_n hx hb dX0_carry_8 rfl (lv_at hl 3 rfl) ?_
  obtain ⟨v4, h3, hf⟩ := bnd_inv hf
  refine cg_V (q0 := 1) (ci := 0) (As := [.int x2]) (rest := []) X T (kX0_holderOf l D cy ad S x2 v4 h3) (cwV 1 hts gX0_carry_X0_holderOf rfl rfl rfl (by decide +kernel) ⟨Nat.le_of_ble_eq_true rfl, Nat.le_of_ble_eq_true rfl⟩) rfl rfl rfl hl.1 rfl (Nat.le_of_ble_eq_true rfl) dX0_carry_9 ⟨Nat.zero_le _, Nat.zero_le _⟩ (st2 := [.int v4]) (pc2 := 12) rfl rfl (fun H locs T => ?_)
  refine lv_istore (lv' := [(5, .int v4), (4, .int v2), (0, .ref (ad 1)), (1, .int x1), (2, .int x2), (3, .int x3)]) hx hb dX0_carry_12 hl (by decide) rfl (fun ls hl => ?_)
  refine lv_aload_n hx hb dX0_carry_14 rfl (lv_at hl 2 rfl) ?_
  refine lv_iload_n hx hb dX0_carry_15 rfl (lv_at hl 3 rfl) ?_
  obtain ⟨S6, h5, hf⟩ := bnd_inv hf
  refine cg_V (q0 := 1) (ci := 0) (As := [.int x1]) (rest := []) X T (kX0_clear l D cy ad S x1 S6 h5) (cwV 1 hts gX0_carry_X0_clear rfl rfl rfl (by decide +kernel) ⟨Nat.le_of_ble_eq_true rfl, Nat.le_of_ble_eq_true rfl⟩) rfl rfl rfl hl.1 rfl (Nat.le_of_ble_eq_true rfl) dX0_carry_16 ⟨Nat.zero_le _, Nat.zero_le _⟩ (st2 := []) (pc2 := 19) rfl rfl (fun H locs T => ?_)
  refine lv_aload_n hx hb dX0_carry_19 rfl (lv_at hl 2 rfl) ?_
  refine lv_iload hx hb dX0_carry_20 (lv_at hl 1 rfl) ?_
  refine lv_iload_n hx hb dX0_carry_22 rfl (lv_at hl 4 rfl) ?_
  obtain ⟨S8, h7, hf⟩ := bnd_inv hf
  refine cg_V (q0 := 1) (ci := 0) (As := [.int v2, .int x2]) (rest := []) X T (kX0_put l D cy ad S6 v2 x2 S8 h7) (cwV 2 hts gX0_carry_X0_put rfl rfl rfl (by decide +kernel) ⟨Nat.le_of_ble_eq_true rfl, Nat.le_of_ble_eq_true rfl⟩) rfl rfl rfl hl.1 rfl (Nat.le_of_ble_eq_true rfl) dX0_carry_23 ⟨Nat.zero_le _, Nat.zero_le _⟩ (st2 := []) (pc2 := 26) rfl rfl (fun H locs T => ?_)
  refine lv_iload_n hx hb dX0_carry_26 rfl (lv_at hl 5 rfl) ?_
  refine lv_iconst (v := (-1)) hx hb dX0_carry_27 (by decide) ?_
  refine lv_icmp_eq (tgt := 38) hx hb dX0_carry_28 (by decide) (fun hc => ?_) (fun hc => ?_)
  · replace hf := ifp hc hf
    obtain rfl := Option.some.inj hf
    exact rt_v X T hr dX0_carry_38
  · replace hf := ifn hc hf
    refine lv_aload_n hx hb dX0_carry_31 rfl (lv_at hl 2 rfl) ?_
    refine lv_iload hx hb dX0_carry_32 (lv_at hl 0 rfl) ?_
    refine lv_iload_n hx hb dX0_carry_34 rfl (lv_at hl 5 rfl) ?_
    obtain ⟨S10, h9, hf⟩ := bnd_inv hf
    refine cg_V (q0 := 1) (ci := 0) (As := [.int v4, .int x3]) (rest := []) X T (kX0_put l D cy ad S8 v4 x3 S10 h9) (cwV 2 hts gX0_carry_X0_put rfl rfl rfl (by decide +kernel) ⟨Nat.le_of_ble_eq_true rfl, Nat.le_of_ble_eq_true rfl⟩) rfl rfl rfl hl.1 rfl (Nat.le_of_ble_eq_true rfl) dX0_carry_35 ⟨Nat.zero_le _, Nat.zero_le _⟩ (st2 := []) (pc2 := 38) rfl rfl (fun H locs T => ?_)
    obtain rfl := Option.some.inj hf
    exact rt_v X T hr dX0_carry_38

noncomputable def fX0_carryBack_j36 (y1 : Int32) (y4 : Int32) (S_36 : SC) : Option SC :=
  bnd (fX0_put S_36 y4 y1) fun S2 =>
  some S2
noncomputable def fX0_carryBack (S : SC) (x1 : Int32) (x2 : Int32) (x3 : Int32) : Option SC :=
  bnd (fX0_holderOf S x2) fun v4 =>
  bnd (fX0_holderOf S x3) fun v6 =>
  bnd (fX0_clear S x2) fun S8 =>
  if x3 = (-1) then
    fX0_carryBack_j36 x1 v4 S8
  else
    bnd (fX0_clear S8 x3) fun S10 =>
    bnd (fX0_put S10 v6 x2) fun S12 =>
    fX0_carryBack_j36 x1 v4 S12
set_option maxHeartbeats 4000000 in
set_option maxRecDepth 100000 in
theorem kX0_carryBack (l : Launch) (D : va_G) (cy : Nat → ClassId) (ad : Nat → Nat) (S : SC) (x1 : Int32) (x2 : Int32) (x3 : Int32) (r : SC) (hf : fX0_carryBack S x1 x2 x3 = some r) : CG l D cy (wC cy ad) yX0_carryBack wsX0_carryBack ({ frames := 1, cells := 0, slots := 0, locals := 23 } : Room) [.ref (ad 1), .int x1, .int x2, .int x3] S none r := by
  refine CG.of (cc := cX0_carryBack) (maxL := 6) (ret := none) (by decide +kernel) rfl (Nat.le_of_ble_eq_true rfl) ?_
  intro p e s m below meth c A ls X hr T hl
  obtain ⟨hx, hb, hml, hown, hts, hlk, hK, hA, hwA⟩ := id X
  have hl : lv_has ls 6 [(0, .ref (ad 1)), (1, .int x1), (2, .int x2), (3, .int x3)] := hl
  unfold fX0_carryBack at hf
  have j_36 : ∀ (y1 : Int32) (y4 : Int32) (S_36 : SC) (H : Heap) (locs : List Loc) (ls : Array Slot), fX0_carryBack_j36 y1 y4 S_36 = some r → ST D (wC cy ad) A s S_36 H locs → lv_has ls 6 [(0, .ref (ad 1)), (1, .int y1), (4, .int y4)] → W p l e ({ frames := 1, cells := 0, slots := 0, locals := 23 } : Room) s m [.ref (ad 1), .int x1, .int x2, .int x3].toArray below meth c H locs 0 0 (MQ below (QG D (wC cy ad) A none r) [.ref (ad 1), .int x1, .int x2, .int x3].toArray s 0 0 A) (F0 m 36 ls []) := by
    intro y1 y4 S_36 H locs ls hf T hl
    unfold fX0_carryBack_j36 at hf
    refine lv_aload_n hx hb dX0_carryBack_36 rfl (lv_at hl 0 rfl) ?_
    refine lv_iload hx hb dX0_carryBack_37 (lv_at hl 2 rfl) ?_
    refine lv_iload_n hx hb dX0_carryBack_39 rfl (lv_at hl 1 rfl) ?_
    obtain ⟨S2, h1, hf⟩ := bnd_inv hf
    refine cg_V (q0 := 1) (ci := 0) (As := [.int y4, .int y1]) (rest := []) X T (kX0_put l D cy ad S_36 y4 y1 S2 h1) (cwV 2 hts gX0_carryBack_X0_put rfl rfl rfl (by decide +kernel) ⟨Nat.le_of_ble_eq_true rfl, Nat.le_of_ble_eq_true rfl⟩) rfl rfl rfl hl.1 rfl (Nat.le_of_ble_eq_true rfl) dX0_carryBack_40 ⟨Nat.zero_le _, Nat.zero_le _⟩ (st2 := []) (pc2 := 43) rfl rfl (fun H locs T => ?_)
    obtain rfl := Option.some.inj hf
    exact rt_v X T hr dX0_carryBack_43
  refine lv_aload_n hx hb dX0_carryBack_0 rfl (lv_at hl 0 rfl) ?_
  refine lv_iload_n hx hb dX0_carryBack_1 rfl (lv_at hl 2 rfl) ?_
  obtain ⟨v4, h3, hf⟩ := bnd_inv hf
  refine cg_V (q0 := 1) (ci := 0) (As := [.int x2]) (rest := []) X T (kX0_holderOf l D cy ad S x2 v4 h3) (cwV 1 hts gX0_carryBack_X0_holderOf rfl rfl rfl (by decide +kernel) ⟨Nat.le_of_ble_eq_true rfl, Nat.le_of_ble_eq_true rfl⟩) rfl rfl rfl hl.1 rfl (Nat.le_of_ble_eq_true rfl) dX0_carryBack_2 ⟨Nat.zero_le _, Nat.zero_le _⟩ (st2 := [.int v4]) (pc2 := 5) rfl rfl (fun H locs T => ?_)
  refine lv_istore (lv' := [(4, .int v4), (0, .ref (ad 1)), (1, .int x1), (2, .int x2), (3, .int x3)]) hx hb dX0_carryBack_5 hl (by decide) rfl (fun ls hl => ?_)
  refine lv_aload_n hx hb dX0_carryBack_7 rfl (lv_at hl 1 rfl) ?_
  refine lv_iload_n hx hb dX0_carryBack_8 rfl (lv_at hl 4 rfl) ?_
  obtain ⟨v6, h5, hf⟩ := bnd_inv hf
  refine cg_V (q0 := 1) (ci := 0) (As := [.int x3]) (rest := []) X T (kX0_holderOf l D cy ad S x3 v6 h5) (cwV 1 hts gX0_carryBack_X0_holderOf rfl rfl rfl (by decide +kernel) ⟨Nat.le_of_ble_eq_true rfl, Nat.le_of_ble_eq_true rfl⟩) rfl rfl rfl hl.1 rfl (Nat.le_of_ble_eq_true rfl) dX0_carryBack_9 ⟨Nat.zero_le _, Nat.zero_le _⟩ (st2 := [.int v6]) (pc2 := 12) rfl rfl (fun H locs T => ?_)
  refine lv_istore (lv' := [(5, .int v6), (4, .int v4), (0, .ref (ad 1)), (1, .int x1), (2, .int x2), (3, .int x3)]) hx hb dX0_carryBack_12 hl (by decide) rfl (fun ls hl => ?_)
  refine lv_aload_n hx hb dX0_carryBack_14 rfl (lv_at hl 2 rfl) ?_
  refine lv_iload_n hx hb dX0_carryBack_15 rfl (lv_at hl 4 rfl) ?_
  obtain ⟨S8, h7, hf⟩ := bnd_inv hf
  refine cg_V (q0 := 1) (ci := 0) (As := [.int x2]) (rest := []) X T (kX0_clear l D cy ad S x2 S8 h7) (cwV 1 hts gX0_carryBack_X0_clear rfl rfl rfl (by decide +kernel) ⟨Nat.le_of_ble_eq_true rfl, Nat.le_of_ble_eq_true rfl⟩) rfl rfl rfl hl.1 rfl (Nat.le_of_ble_eq_true rfl) dX0_carryBack_16 ⟨Nat.zero_le _, Nat.zero_le _⟩ (st2 := []) (pc2 := 19) rfl rfl (fun H locs T => ?_)
  refine lv_iload_n hx hb dX0_carryBack_19 rfl (lv_at hl 5 rfl) ?_
  refine lv_iconst (v := (-1)) hx hb dX0_carryBack_20 (by decide) ?_
  refine lv_icmp_eq (tgt := 36) hx hb dX0_carryBack_21 (by decide) (fun hc => ?_) (fun hc => ?_)
  · replace hf := ifp hc hf
    exact j_36 x1 v4 S8 _ _ _ hf T (lv_sub hl [2, 3, 1] rfl)
  · replace hf := ifn hc hf
    refine lv_aload_n hx hb dX0_carryBack_24 rfl (lv_at hl 2 rfl) ?_
    refine lv_iload_n hx hb dX0_carryBack_25 rfl (lv_at hl 5 rfl) ?_
    obtain ⟨S10, h9, hf⟩ := bnd_inv hf
    refine cg_V (q0 := 1) (ci := 0) (As := [.int x3]) (rest := []) X T (kX0_clear l D cy ad S8 x3 S10 h9) (cwV 1 hts gX0_carryBack_X0_clear rfl rfl rfl (by decide +kernel) ⟨Nat.le_of_ble_eq_true rfl, Nat.le_of_ble_eq_true rfl⟩) rfl rfl rfl hl.1 rfl (Nat.le_of_ble_eq_true rfl) dX0_carryBack_26 ⟨Nat.zero_le _, Nat.zero_le _⟩ (st2 := []) (pc2 := 29) rfl rfl (fun H locs T => ?_)
    refine lv_aload_n hx hb dX0_carryBack_29 rfl (lv_at hl 2 rfl) ?_
    refine lv_iload hx hb dX0_carryBack_30 (lv_at hl 0 rfl) ?_
    refine lv_iload_n hx hb dX0_carryBack_32 rfl (lv_at hl 4 rfl) ?_
    obtain ⟨S12, h11, hf⟩ := bnd_inv hf
    refine cg_V (q0 := 1) (ci := 0) (As := [.int v6, .int x2]) (rest := []) X T (kX0_put l D cy ad S10 v6 x2 S12 h11) (cwV 2 hts gX0_carryBack_X0_put rfl rfl rfl (by decide +kernel) ⟨Nat.le_of_ble_eq_true rfl, Nat.le_of_ble_eq_true rfl⟩) rfl rfl rfl hl.1 rfl (Nat.le_of_ble_eq_true rfl) dX0_carryBack_33 ⟨Nat.zero_le _, Nat.zero_le _⟩ (st2 := []) (pc2 := 36) rfl rfl (fun H locs T => ?_)
    exact j_36 x1 v4 S12 _ _ _ hf T (lv_sub hl [2, 3, 1] rfl)

noncomputable def fX0_remember_j90 (z1 : Int32) (z2 : Int32) (S_90 : SC) : Option SC :=
  ck z1 505 <|
  nm (setA S_90 4 z1 z2 : SC) fun S1 =>
  some S1
noncomputable def fX0_remember (S : SC) (x1 : Int32) (x2 : Int32) (x3 : Int32) : Option SC :=
  nm ((S.1 5) * 5 : Int32) fun v2 =>
  if v2 < 0 then
    some S
  else
    if (505 : Int32) < v2 + 5 then
      some S
    else
      ck v2 505 <|
      nm (setA S 4 v2 x1 : SC) fun S3 =>
      ck (v2 + 1) 505 <|
      nm (setA S3 4 (v2 + 1) x2 : SC) fun S4 =>
      ck (v2 + 2) 505 <|
      nm (setA S4 4 (v2 + 2) x3 : SC) fun S5 =>
      bnd (fX0_builtCellOf S5 x1) fun v7 =>
      bnd (fX0_storeysOf S5 v7) fun v9 =>
      ck (v2 + 3) 505 <|
      nm (setA S5 4 (v2 + 3) v9 : SC) fun S10 =>
      if S10.1 7 = 0 then
        fX0_remember_j90 (v2 + 4) 0 S10
      else
        fX0_remember_j90 (v2 + 4) 1 S10
set_option maxHeartbeats 4000000 in
set_option maxRecDepth 100000 in
theorem kX0_remember (l : Launch) (D : va_G) (cy : Nat → ClassId) (ad : Nat → Nat) (S : SC) (x1 : Int32) (x2 : Int32) (x3 : Int32) (r : SC) (hf : fX0_remember S x1 x2 x3 = some r) : CG l D cy (wC cy ad) yX0_remember wsX0_remember ({ frames := 1, cells := 0, slots := 0, locals := 21 } : Room) [.ref (ad 1), .int x1, .int x2, .int x3] S none r := by
  refine CG.of (cc := cX0_remember) (maxL := 5) (ret := none) (by decide +kernel) rfl (Nat.le_of_ble_eq_true rfl) ?_
  intro p e s m below meth c A ls X hr T hl
  obtain ⟨hx, hb, hml, hown, hts, hlk, hK, hA, hwA⟩ := id X
  have hl : lv_has ls 5 [(0, .ref (ad 1)), (1, .int x1), (2, .int x2), (3, .int x3)] := hl
  have hin_X0 : ∀ w ∈ u_ws RX0 TX0 13, w ∈ wsX0_remember := by decide +kernel
  unfold fX0_remember at hf
  have j_90 : ∀ (z1 : Int32) (z2 : Int32) (S_90 : SC) (H : Heap) (locs : List Loc) (ls : Array Slot), fX0_remember_j90 z1 z2 S_90 = some r → ST D (wC cy ad) A s S_90 H locs → lv_has ls 5 [] → W p l e ({ frames := 1, cells := 0, slots := 0, locals := 21 } : Room) s m [.ref (ad 1), .int x1, .int x2, .int x3].toArray below meth c H locs 0 0 (MQ below (QG D (wC cy ad) A none r) [.ref (ad 1), .int x1, .int x2, .int x3].toArray s 0 0 A) (F0 m 90 ls [.int z2, .int z1, .ref (ad 6)]) := by
    intro z1 z2 S_90 H locs ls hf T hl
    unfold fX0_remember_j90 at hf
    obtain ⟨hin, hf⟩ := ck_inv hf
    obtain ⟨S1, e_S1, hf⟩ := nm_inv hf
    refine va_iast hx hb hK.1 T.1 T.2.1 T.2.2 6 0 rfl rfl hin dX0_remember_90 (fun H locs hP hD hS => ?_)
    have T : ST D (wC cy ad) A s S1 H locs := ⟨by rw [e_S1]; exact hP, by rw [e_S1]; exact hD, hS⟩
    obtain rfl := Option.some.inj hf
    exact rt_v X T hr dX0_remember_91
  refine lv_aload_n hx hb dX0_remember_0 rfl (lv_at hl 0 rfl) ?_
  refine va_get (D := D) (ci := 0) (v := .int (S.1 5)) (C := RX0) (T := TX0) (N := 13) hx hb hts hin_X0 hown hK.1 T.1 1 rfl rfl 10 (by decide) (hts _ (List.mem_of_getElem? (i := 1) rfl)) (fun _ h9 => h9) rfl dX0_remember_1 ?_
  refine lv_iconst (v := 5) hx hb dX0_remember_4 (by decide) ?_
  refine lv_imul hx hb dX0_remember_5 ?_
  obtain ⟨v2, e_v2, hf⟩ := nm_inv hf
  rw [← e_v2]
  refine lv_istore (lv' := [(4, .int v2), (0, .ref (ad 1)), (1, .int x1), (2, .int x2), (3, .int x3)]) hx hb dX0_remember_6 hl (by decide) rfl (fun ls hl => ?_)
  refine lv_iload hx hb dX0_remember_8 (lv_at hl 0 rfl) ?_
  refine lv_if_lt (tgt := 91) hx hb dX0_remember_10 (by decide) (fun hc => ?_) (fun hc => ?_)
  · replace hf := ifp hc hf
    obtain rfl := Option.some.inj hf
    exact rt_v X T hr dX0_remember_91
  · replace hf := ifn hc hf
    refine lv_iload hx hb dX0_remember_13 (lv_at hl 0 rfl) ?_
    refine lv_iconst (v := 5) hx hb dX0_remember_15 (by decide) ?_
    refine lv_iadd hx hb dX0_remember_16 ?_
    refine lv_aload_n hx hb dX0_remember_17 rfl (lv_at hl 1 rfl) ?_
    refine va_get (D := D) (ci := 0) (v := .ref (ad 6)) (C := RX0) (T := TX0) (N := 13) hx hb hts hin_X0 hown hK.1 T.1 1 rfl rfl 4 (by decide) (hts _ (List.mem_of_getElem? (i := 2) rfl)) (fun _ h9 => h9) rfl dX0_remember_18 ?_
    refine va_alen (v := 505) hx hb hK.1 T.1 6 0 rfl rfl rfl dX0_remember_21 ?_
    refine lv_icmp_gt (tgt := 91) hx hb dX0_remember_22 (by decide) (fun hc => ?_) (fun hc => ?_)
    · replace hf := ifp hc hf
      obtain rfl := Option.some.inj hf
      exact rt_v X T hr dX0_remember_91
    · replace hf := ifn hc hf
      refine lv_aload_n hx hb dX0_remember_25 rfl (lv_at hl 1 rfl) ?_
      refine va_get (D := D) (ci := 0) (v := .ref (ad 6)) (C := RX0) (T := TX0) (N := 13) hx hb hts hin_X0 hown hK.1 T.1 1 rfl rfl 4 (by decide) (hts _ (List.mem_of_getElem? (i := 2) rfl)) (fun _ h9 => h9) rfl dX0_remember_26 ?_
      refine lv_iload hx hb dX0_remember_29 (lv_at hl 0 rfl) ?_
      refine lv_iload_n hx hb dX0_remember_31 rfl (lv_at hl 2 rfl) ?_
      obtain ⟨hin, hf⟩ := ck_inv hf
      obtain ⟨S3, e_S3, hf⟩ := nm_inv hf
      refine va_iast hx hb hK.1 T.1 T.2.1 T.2.2 6 0 rfl rfl hin dX0_remember_32 (fun H locs hP hD hS => ?_)
      have T : ST D (wC cy ad) A s S3 H locs := ⟨by rw [e_S3]; exact hP, by rw [e_S3]; exact hD, hS⟩
      refine lv_aload_n hx hb dX0_remember_33 rfl (lv_at hl 1 rfl) ?_
      refine va_get (D := D) (ci := 0) (v := .ref (ad 6)) (C := RX0) (T := TX0) (N := 13) hx hb hts hin_X0 hown hK.1 T.1 1 rfl rfl 4 (by decide) (hts _ (List.mem_of_getElem? (i := 2) rfl)) (fun _ h9 => h9) rfl dX0_remember_34 ?_
      refine lv_iload hx hb dX0_remember_37 (lv_at hl 0 rfl) ?_
      refine lv_iconst (v := 1) hx hb dX0_remember_39 (by decide) ?_
      refine lv_iadd hx hb dX0_remember_40 ?_
      refine lv_iload_n hx hb dX0_remember_41 rfl (lv_at hl 3 rfl) ?_
      obtain ⟨hin, hf⟩ := ck_inv hf
      obtain ⟨S4, e_S4, hf⟩ := nm_inv hf
      refine va_iast hx hb hK.1 T.1 T.2.1 T.2.2 6 0 rfl rfl hin dX0_remember_42 (fun H locs hP hD hS => ?_)
      have T : ST D (wC cy ad) A s S4 H locs := ⟨by rw [e_S4]; exact hP, by rw [e_S4]; exact hD, hS⟩
      refine lv_aload_n hx hb dX0_remember_43 rfl (lv_at hl 1 rfl) ?_
      refine va_get (D := D) (ci := 0) (v := .ref (ad 6)) (C := RX0) (T := TX0) (N := 13) hx hb hts hin_X0 hown hK.1 T.1 1 rfl rfl 4 (by decide) (hts _ (List.mem_of_getElem? (i := 2) rfl)) (fun _ h9 => h9) rfl dX0_remember_44 ?_
      refine lv_iload hx hb dX0_remember_47 (lv_at hl 0 rfl) ?_
      refine lv_iconst (v := 2) hx hb dX0_remember_49 (by decide) ?_
      refine lv_iadd hx hb dX0_remember_50 ?_
      refine lv_iload_n hx hb dX0_remember_51 rfl (lv_at hl 4 rfl) ?_
      obtain ⟨hin, hf⟩ := ck_inv hf
      obtain ⟨S5, e_S5, hf⟩ := nm_inv hf
      refine va_iast hx hb hK.1 T.1 T.2.1 T.2.2 6 0 rfl rfl hin dX0_remember_52 (fun H locs hP hD hS => ?_)
      have T : ST D (wC cy ad) A s S5 H locs := ⟨by rw [e_S5]; exact hP, by rw [e_S5]; exact hD, hS⟩
      refine lv_aload_n hx hb dX0_remember_53 rfl (lv_at hl 1 rfl) ?_
      refine va_get (D := D) (ci := 0) (v := .ref (ad 6)) (C := RX0) (T := TX0) (N := 13) hx hb hts hin_X0 hown hK.1 T.1 1 rfl rfl 4 (by decide) (hts _ (List.mem_of_getElem? (i := 2) rfl)) (fun _ h9 => h9) rfl dX0_remember_54 ?_
      refine lv_iload hx hb dX0_remember_57 (lv_at hl 0 rfl) ?_
      refine lv_iconst (v := 3) hx hb dX0_remember_59 (by decide) ?_
      refine lv_iadd hx hb dX0_remember_60 ?_
      refine lv_aload_n hx hb dX0_remember_61 rfl (lv_at hl 1 rfl) ?_
      refine lv_iload_n hx hb dX0_remember_62 rfl (lv_at hl 2 rfl) ?_
      obtain ⟨v7, h6, hf⟩ := bnd_inv hf
      refine cg_S (As := [.int x1]) (rest := [.ref (ad 1), .int (v2 + 3), .ref (ad 6)]) X T (kX0_builtCellOf l D cy ad S5 x1 v7 h6) (va_cwS 1 hts gX0_remember_X0_builtCellOf rfl rfl rfl (by decide +kernel) ⟨Nat.le_of_ble_eq_true rfl, Nat.le_of_ble_eq_true rfl⟩) rfl hl.1 rfl (Nat.le_of_ble_eq_true rfl) dX0_remember_63 ⟨Nat.zero_le _, Nat.zero_le _⟩ (st2 := [.int v7, .ref (ad 1), .int (v2 + 3), .ref (ad 6)]) (pc2 := 66) rfl rfl (fun H locs T => ?_)
      obtain ⟨v9, h8, hf⟩ := bnd_inv hf
      refine cg_V (q0 := 1) (ci := 0) (As := [.int v7]) (rest := [.int (v2 + 3), .ref (ad 6)]) X T (kX0_storeysOf l D cy ad S5 v7 v9 h8) (cwV 1 hts gX0_remember_X0_storeysOf rfl rfl rfl (by decide +kernel) ⟨Nat.le_of_ble_eq_true rfl, Nat.le_of_ble_eq_true rfl⟩) rfl rfl rfl hl.1 rfl (Nat.le_of_ble_eq_true rfl) dX0_remember_66 ⟨Nat.zero_le _, Nat.zero_le _⟩ (st2 := [.int v9, .int (v2 + 3), .ref (ad 6)]) (pc2 := 69) rfl rfl (fun H locs T => ?_)
      obtain ⟨hin, hf⟩ := ck_inv hf
      obtain ⟨S10, e_S10, hf⟩ := nm_inv hf
      refine va_iast hx hb hK.1 T.1 T.2.1 T.2.2 6 0 rfl rfl hin dX0_remember_69 (fun H locs hP hD hS => ?_)
      have T : ST D (wC cy ad) A s S10 H locs := ⟨by rw [e_S10]; exact hP, by rw [e_S10]; exact hD, hS⟩
      refine lv_aload_n hx hb dX0_remember_70 rfl (lv_at hl 1 rfl) ?_
      refine va_get (D := D) (ci := 0) (v := .ref (ad 6)) (C := RX0) (T := TX0) (N := 13) hx hb hts hin_X0 hown hK.1 T.1 1 rfl rfl 4 (by decide) (hts _ (List.mem_of_getElem? (i := 2) rfl)) (fun _ h9 => h9) rfl dX0_remember_71 ?_
      refine lv_iload hx hb dX0_remember_74 (lv_at hl 0 rfl) ?_
      refine lv_iconst (v := 4) hx hb dX0_remember_76 (by decide) ?_
      refine lv_iadd hx hb dX0_remember_77 ?_
      refine lv_aload_n hx hb dX0_remember_78 rfl (lv_at hl 1 rfl) ?_
      refine va_get (D := D) (ci := 0) (v := .int (S10.1 7)) (C := RX0) (T := TX0) (N := 13) hx hb hts hin_X0 hown hK.1 T.1 1 rfl rfl 12 (by decide) (hts _ (List.mem_of_getElem? (i := 3) rfl)) (fun _ h9 => h9) rfl dX0_remember_79 ?_
      refine lv_if_eq (tgt := 89) hx hb dX0_remember_82 (by decide) (fun hc => ?_) (fun hc => ?_)
      · replace hf := ifp hc hf
        refine lv_iconst (v := 0) hx hb dX0_remember_89 (by decide) ?_
        exact j_90 (v2 + 4) 0 S10 _ _ _ hf T (lv_sub hl [] rfl)
      · replace hf := ifn hc hf
        refine lv_iconst (v := 1) hx hb dX0_remember_85 (by decide) ?_
        refine lv_goto (tgt := 90) hx hb dX0_remember_86 (by decide) ?_
        exact j_90 (v2 + 4) 1 S10 _ _ _ hf T (lv_sub hl [] rfl)

noncomputable def fX0_addBuilder_j16 (y1 : Int32) (z0 : Int32) (S_16 : SC) : Option SC :=
  nm ((S_16.1 4) - (z0 * (S_16.1 1)) : Int32) fun v1 =>
  bnd (fX0_put S_16 (((10 : Int32) * z0) + v1) y1) fun S3 =>
  nm (setS S3 4 ((S3.1 4) + 1) : SC) fun S4 =>
  bnd (fX0_isSet S4) fun v6 =>
  if v6 = 0 then
    some S4
  else
    bnd (fX0_hasTurn S4 0) fun v8 =>
    if v8 = 0 then
      nm (setS S4 6 1 : SC) fun S9 =>
      some S9
    else
      some S4
noncomputable def fX0_addBuilder (S : SC) (x1 : Int32) : Option SC :=
  if S.1 1 ≤ S.1 4 then
    fX0_addBuilder_j16 x1 1 S
  else
    fX0_addBuilder_j16 x1 0 S
set_option maxHeartbeats 4000000 in
set_option maxRecDepth 100000 in
theorem kX0_addBuilder (l : Launch) (D : va_G) (cy : Nat → ClassId) (ad : Nat → Nat) (S : SC) (x1 : Int32) (r : SC) (hf : fX0_addBuilder S x1 = some r) : CG l D cy (wC cy ad) yX0_addBuilder wsX0_addBuilder ({ frames := 4, cells := 0, slots := 0, locals := 100 } : Room) [.ref (ad 1), .int x1] S none r := by
  refine CG.of (cc := cX0_addBuilder) (maxL := 4) (ret := none) (by decide +kernel) rfl (Nat.le_of_ble_eq_true rfl) ?_
  intro p e s m below meth c A ls X hr T hl
  obtain ⟨hx, hb, hml, hown, hts, hlk, hK, hA, hwA⟩ := id X
  have hl : lv_has ls 4 [(0, .ref (ad 1)), (1, .int x1)] := hl
  have hin_X0 : ∀ w ∈ u_ws RX0 TX0 13, w ∈ wsX0_addBuilder := by decide +kernel
  unfold fX0_addBuilder at hf
  have j_16 : ∀ (y1 : Int32) (z0 : Int32) (S_16 : SC) (H : Heap) (locs : List Loc) (ls : Array Slot), fX0_addBuilder_j16 y1 z0 S_16 = some r → ST D (wC cy ad) A s S_16 H locs → lv_has ls 4 [(0, .ref (ad 1)), (1, .int y1)] → W p l e ({ frames := 4, cells := 0, slots := 0, locals := 100 } : Room) s m [.ref (ad 1), .int x1].toArray below meth c H locs 0 0 (MQ below (QG D (wC cy ad) A none r) [.ref (ad 1), .int x1].toArray s 0 0 A) (F0 m 16 ls [.int z0]) := by
    intro y1 z0 S_16 H locs ls hf T hl
    unfold fX0_addBuilder_j16 at hf
    refine lv_istore_n (lv' := [(2, .int z0), (0, .ref (ad 1)), (1, .int y1)]) hx hb dX0_addBuilder_16 rfl hl (by decide) rfl (fun ls hl => ?_)
    refine lv_aload_n hx hb dX0_addBuilder_17 rfl (lv_at hl 1 rfl) ?_
    refine va_get (D := D) (ci := 0) (v := .int (S_16.1 4)) (C := RX0) (T := TX0) (N := 13) hx hb hts hin_X0 hown hK.1 T.1 1 rfl rfl 9 (by decide) (hts _ (List.mem_of_getElem? (i := 1) rfl)) (fun _ h9 => h9) rfl dX0_addBuilder_18 ?_
    refine lv_iload_n hx hb dX0_addBuilder_21 rfl (lv_at hl 0 rfl) ?_
    refine lv_aload_n hx hb dX0_addBuilder_22 rfl (lv_at hl 1 rfl) ?_
    refine va_get (D := D) (ci := 0) (v := .int (S_16.1 1)) (C := RX0) (T := TX0) (N := 13) hx hb hts hin_X0 hown hK.1 T.1 1 rfl rfl 6 (by decide) (hts _ (List.mem_of_getElem? (i := 2) rfl)) (fun _ h9 => h9) rfl dX0_addBuilder_23 ?_
    refine lv_imul hx hb dX0_addBuilder_26 ?_
    refine lv_isub hx hb dX0_addBuilder_27 ?_
    obtain ⟨v1, e_v1, hf⟩ := nm_inv hf
    rw [← e_v1]
    refine lv_istore_n (lv' := [(3, .int v1), (2, .int z0), (0, .ref (ad 1)), (1, .int y1)]) hx hb dX0_addBuilder_28 rfl hl (by decide) rfl (fun ls hl => ?_)
    refine lv_aload_n hx hb dX0_addBuilder_29 rfl (lv_at hl 2 rfl) ?_
    refine lv_bipush (v := 10) hx hb dX0_addBuilder_30 (by decide) ?_
    refine lv_iload_n hx hb dX0_addBuilder_32 rfl (lv_at hl 1 rfl) ?_
    refine lv_imul hx hb dX0_addBuilder_33 ?_
    refine lv_iload_n hx hb dX0_addBuilder_34 rfl (lv_at hl 0 rfl) ?_
    refine lv_iadd hx hb dX0_addBuilder_35 ?_
    refine lv_iload_n hx hb dX0_addBuilder_36 rfl (lv_at hl 3 rfl) ?_
    obtain ⟨S3, h2, hf⟩ := bnd_inv hf
    refine cg_V (q0 := 1) (ci := 0) (As := [.int (((10 : Int32) * z0) + v1), .int y1]) (rest := []) X T (kX0_put l D cy ad S_16 (((10 : Int32) * z0) + v1) y1 S3 h2) (cwV 2 hts gX0_addBuilder_X0_put rfl rfl rfl (by decide +kernel) ⟨Nat.le_of_ble_eq_true rfl, Nat.le_of_ble_eq_true rfl⟩) rfl rfl rfl hl.1 rfl (Nat.le_of_ble_eq_true rfl) dX0_addBuilder_37 ⟨Nat.zero_le _, Nat.zero_le _⟩ (st2 := []) (pc2 := 40) rfl rfl (fun H locs T => ?_)
    refine lv_aload_n hx hb dX0_addBuilder_40 rfl (lv_at hl 2 rfl) ?_
    refine lv_dup hx hb dX0_addBuilder_41 rfl ?_
    refine va_get (D := D) (ci := 0) (v := .int (S3.1 4)) (C := RX0) (T := TX0) (N := 13) hx hb hts hin_X0 hown hK.1 T.1 1 rfl rfl 9 (by decide) (hts _ (List.mem_of_getElem? (i := 1) rfl)) (fun _ h9 => h9) rfl dX0_addBuilder_42 ?_
    refine lv_iconst (v := 1) hx hb dX0_addBuilder_45 (by decide) ?_
    refine lv_iadd hx hb dX0_addBuilder_46 ?_
    obtain ⟨S4, e_S4, hf⟩ := nm_inv hf
    refine va_put (D := D) (ci := 0) (v := .int ((S3.1 4) + 1)) (ty := .int) (C := RX0) (T := TX0) (N := 13) hx hb hts hin_X0 tyX0 tyX0_ok nmX0 hown hK.1 T.1 T.2.1 T.2.2 1 rfl rfl 9 (by decide) (hts _ (List.mem_of_getElem? (i := 1) rfl)) (fun _ h9 => h9) rfl (by decide +kernel) rfl rfl (Nat.le_of_ble_eq_true rfl) dX0_addBuilder_47 (fun H locs hP hD hS => ?_)
    have T : ST D (wC cy ad) A s S4 H locs := ⟨by rw [e_S4]; exact hP, by rw [e_S4]; exact hD, hS⟩
    refine lv_aload_n hx hb dX0_addBuilder_50 rfl (lv_at hl 2 rfl) ?_
    obtain ⟨v6, h5, hf⟩ := bnd_inv hf
    refine cg_V (q0 := 1) (ci := 0) (As := []) (rest := []) X T (kX0_isSet l D cy ad S4  v6 h5) (cwV 0 hts gX0_addBuilder_X0_isSet rfl rfl rfl (by decide +kernel) ⟨Nat.le_of_ble_eq_true rfl, Nat.le_of_ble_eq_true rfl⟩) rfl rfl rfl hl.1 rfl (Nat.le_of_ble_eq_true rfl) dX0_addBuilder_51 ⟨Nat.zero_le _, Nat.zero_le _⟩ (st2 := [.int v6]) (pc2 := 54) rfl rfl (fun H locs T => ?_)
    refine lv_if_eq (tgt := 70) hx hb dX0_addBuilder_54 (by decide) (fun hc => ?_) (fun hc => ?_)
    · replace hf := ifp hc hf
      obtain rfl := Option.some.inj hf
      exact rt_v X T hr dX0_addBuilder_70
    · replace hf := ifn hc hf
      refine lv_aload_n hx hb dX0_addBuilder_57 rfl (lv_at hl 2 rfl) ?_
      refine lv_iconst (v := 0) hx hb dX0_addBuilder_58 (by decide) ?_
      obtain ⟨v8, h7, hf⟩ := bnd_inv hf
      refine cg_V (q0 := 1) (ci := 0) (As := [.int 0]) (rest := []) X T (kX0_hasTurn l D cy ad S4 0 v8 h7) (cwV 1 hts gX0_addBuilder_X0_hasTurn rfl rfl rfl (by decide +kernel) ⟨Nat.le_of_ble_eq_true rfl, Nat.le_of_ble_eq_true rfl⟩) rfl rfl rfl hl.1 rfl (Nat.le_of_ble_eq_true rfl) dX0_addBuilder_59 ⟨Nat.zero_le _, Nat.zero_le _⟩ (st2 := [.int v8]) (pc2 := 62) rfl rfl (fun H locs T => ?_)
      refine lv_if_ne (tgt := 70) hx hb dX0_addBuilder_62 (by decide) (fun hc => ?_) (fun hc => ?_)
      · replace hf := ifn hc hf
        obtain rfl := Option.some.inj hf
        exact rt_v X T hr dX0_addBuilder_70
      · replace hf := ifp hc hf
        refine lv_aload_n hx hb dX0_addBuilder_65 rfl (lv_at hl 2 rfl) ?_
        refine lv_iconst (v := 1) hx hb dX0_addBuilder_66 (by decide) ?_
        obtain ⟨S9, e_S9, hf⟩ := nm_inv hf
        refine va_put (D := D) (ci := 0) (v := .int 1) (ty := .int) (C := RX0) (T := TX0) (N := 13) hx hb hts hin_X0 tyX0 tyX0_ok nmX0 hown hK.1 T.1 T.2.1 T.2.2 1 rfl rfl 11 (by decide) (hts _ (List.mem_of_getElem? (i := 3) rfl)) (fun _ h9 => h9) rfl (by decide +kernel) rfl rfl (Nat.le_of_ble_eq_true rfl) dX0_addBuilder_67 (fun H locs hP hD hS => ?_)
        have T : ST D (wC cy ad) A s S9 H locs := ⟨by rw [e_S9]; exact hP, by rw [e_S9]; exact hD, hS⟩
        obtain rfl := Option.some.inj hf
        exact rt_v X T hr dX0_addBuilder_70
  refine lv_aload_n hx hb dX0_addBuilder_0 rfl (lv_at hl 0 rfl) ?_
  refine va_get (D := D) (ci := 0) (v := .int (S.1 4)) (C := RX0) (T := TX0) (N := 13) hx hb hts hin_X0 hown hK.1 T.1 1 rfl rfl 9 (by decide) (hts _ (List.mem_of_getElem? (i := 1) rfl)) (fun _ h9 => h9) rfl dX0_addBuilder_1 ?_
  refine lv_aload_n hx hb dX0_addBuilder_4 rfl (lv_at hl 0 rfl) ?_
  refine va_get (D := D) (ci := 0) (v := .int (S.1 1)) (C := RX0) (T := TX0) (N := 13) hx hb hts hin_X0 hown hK.1 T.1 1 rfl rfl 6 (by decide) (hts _ (List.mem_of_getElem? (i := 2) rfl)) (fun _ h9 => h9) rfl dX0_addBuilder_5 ?_
  refine lv_icmp_ge (tgt := 15) hx hb dX0_addBuilder_8 (by decide) (fun hc => ?_) (fun hc => ?_)
  · replace hf := ifp hc hf
    refine lv_iconst (v := 1) hx hb dX0_addBuilder_15 (by decide) ?_
    exact j_16 x1 1 S _ _ _ hf T (lv_sub hl [0, 1] rfl)
  · replace hf := ifn hc hf
    refine lv_iconst (v := 0) hx hb dX0_addBuilder_11 (by decide) ?_
    refine lv_goto (tgt := 16) hx hb dX0_addBuilder_12 (by decide) ?_
    exact j_16 x1 0 S _ _ _ hf T (lv_sub hl [0, 1] rfl)

noncomputable def fX0_perform_j157 (y2 : Int32) (S_157 : SC) : Option SC :=
  nm (setS S_157 6 y2 : SC) fun S1 =>
  some S1
noncomputable def fX0_perform_j140 (y2 : Int32) (y5 : Int32) (S_140 : SC) : Option SC :=
  if y5 = 99 then
    fX0_perform_j157 y2 S_140
  else
    bnd (fX0_hasTurn S_140 ((1 : Int32) - y2)) fun v3 =>
    if v3 = 0 then
      fX0_perform_j157 y2 S_140
    else
      some S_140
noncomputable def fX0_perform_j77 (y2 : Int32) (y3 : Int32) (y4 : Int32) (y5 : Int32) (y6 : Int32) (z1 : Int32) (S_77 : SC) : Option SC :=
  cp (z1 = 0 ∨ z1 = 1) <|
  nm (setS S_77 7 z1 : SC) fun S4 =>
  bnd (fX0_carry S4 y3 y4 y6) fun S6 =>
  nm (setS S6 5 ((S6.1 5) + 1) : SC) fun S7 =>
  if (50 : Int32) ≤ y5 then
    if (99 : Int32) ≤ y5 then
      fX0_perform_j140 y2 y5 S7
    else
      bnd (fX0_setStoreys S7 (y5 - 50) 4) fun S9 =>
      fX0_perform_j140 y2 y5 S9
  else
    bnd (fX0_storeysOf S7 y5) fun v11 =>
    bnd (fX0_setStoreys S7 y5 (v11 + 1)) fun S13 =>
    fX0_perform_j140 y2 y5 S13
noncomputable def fX0_perform_j76 (y2 : Int32) (y3 : Int32) (y4 : Int32) (y5 : Int32) (y6 : Int32) (S_76 : SC) : Option SC :=
  fX0_perform_j77 y2 y3 y4 y5 y6 0 S_76
noncomputable def fX0_perform (S : SC) (x1 : Int32) : Option SC :=
  nm ((S.1 5) - (S.1 5) / 2 * 2 : Int32) fun v14 =>
  bnd (fX0_spotOf S v14 (x1 / 10000)) fun v16 =>
  bnd (fX0_destinationOf S x1) fun v18 =>
  nm (x1 - x1 / 100 * 100 : Int32) fun v19 =>
  bnd (fX0_asideOf S v14 v16 v18) fun v21 =>
  bnd (fX0_remember S x1 v16 v21) fun S23 =>
  bnd (fX0_powerOf S23 v14) fun v25 =>
  if v25 = 4 then
    bnd (fX0_storeysOf S23 v18) fun v27 =>
    bnd (fX0_storeysOf S23 v16) fun v29 =>
    if v27 ≤ v29 then
      fX0_perform_j76 v14 v16 v18 v19 v21 S23
    else
      fX0_perform_j77 v14 v16 v18 v19 v21 1 S23
  else
    fX0_perform_j76 v14 v16 v18 v19 v21 S23
set_option maxHeartbeats 4000000 in
set_option maxRecDepth 100000 in
theorem kX0_perform (l : Launch) (D : va_G) (cy : Nat → ClassId) (ad : Nat → Nat) (S : SC) (x1 : Int32) (r : SC) (hf : fX0_perform S x1 = some r) : CG l D cy (wC cy ad) yX0_perform wsX0_perform ({ frames := 4, cells := 0, slots := 0, locals := 100 } : Room) [.ref (ad 1), .int x1] S none r := by
  refine CG.of (cc := cX0_perform) (maxL := 7) (ret := none) (by decide +kernel) rfl (Nat.le_of_ble_eq_true rfl) ?_
  intro p e s m below meth c A ls X hr T hl
  obtain ⟨hx, hb, hml, hown, hts, hlk, hK, hA, hwA⟩ := id X
  have hl : lv_has ls 7 [(0, .ref (ad 1)), (1, .int x1)] := hl
  have hin_X0 : ∀ w ∈ u_ws RX0 TX0 13, w ∈ wsX0_perform := by decide +kernel
  unfold fX0_perform at hf
  have j_157 : ∀ (y2 : Int32) (S_157 : SC) (H : Heap) (locs : List Loc) (ls : Array Slot), fX0_perform_j157 y2 S_157 = some r → ST D (wC cy ad) A s S_157 H locs → lv_has ls 7 [(0, .ref (ad 1)), (2, .int y2)] → W p l e ({ frames := 4, cells := 0, slots := 0, locals := 100 } : Room) s m [.ref (ad 1), .int x1].toArray below meth c H locs 0 0 (MQ below (QG D (wC cy ad) A none r) [.ref (ad 1), .int x1].toArray s 0 0 A) (F0 m 157 ls []) := by
    intro y2 S_157 H locs ls hf T hl
    unfold fX0_perform_j157 at hf
    refine lv_aload_n hx hb dX0_perform_157 rfl (lv_at hl 0 rfl) ?_
    refine lv_iload_n hx hb dX0_perform_158 rfl (lv_at hl 1 rfl) ?_
    obtain ⟨S1, e_S1, hf⟩ := nm_inv hf
    refine va_put (D := D) (ci := 0) (v := .int y2) (ty := .int) (C := RX0) (T := TX0) (N := 13) hx hb hts hin_X0 tyX0 tyX0_ok nmX0 hown hK.1 T.1 T.2.1 T.2.2 1 rfl rfl 11 (by decide) (hts _ (List.mem_of_getElem? (i := 3) rfl)) (fun _ h9 => h9) rfl (by decide +kernel) rfl rfl (Nat.le_of_ble_eq_true rfl) dX0_perform_159 (fun H locs hP hD hS => ?_)
    have T : ST D (wC cy ad) A s S1 H locs := ⟨by rw [e_S1]; exact hP, by rw [e_S1]; exact hD, hS⟩
    obtain rfl := Option.some.inj hf
    exact rt_v X T hr dX0_perform_162
  have j_140 : ∀ (y2 : Int32) (y5 : Int32) (S_140 : SC) (H : Heap) (locs : List Loc) (ls : Array Slot), fX0_perform_j140 y2 y5 S_140 = some r → ST D (wC cy ad) A s S_140 H locs → lv_has ls 7 [(0, .ref (ad 1)), (2, .int y2), (5, .int y5)] → W p l e ({ frames := 4, cells := 0, slots := 0, locals := 100 } : Room) s m [.ref (ad 1), .int x1].toArray below meth c H locs 0 0 (MQ below (QG D (wC cy ad) A none r) [.ref (ad 1), .int x1].toArray s 0 0 A) (F0 m 140 ls []) := by
    intro y2 y5 S_140 H locs ls hf T hl
    unfold fX0_perform_j140 at hf
    refine lv_iload hx hb dX0_perform_140 (lv_at hl 2 rfl) ?_
    refine lv_bipush (v := 99) hx hb dX0_perform_142 (by decide) ?_
    refine lv_icmp_eq (tgt := 157) hx hb dX0_perform_144 (by decide) (fun hc => ?_) (fun hc => ?_)
    · replace hf := ifp hc hf
      exact j_157 y2 S_140 _ _ _ hf T (lv_sub hl [0, 1] rfl)
    · replace hf := ifn hc hf
      refine lv_aload_n hx hb dX0_perform_147 rfl (lv_at hl 0 rfl) ?_
      refine lv_iconst (v := 1) hx hb dX0_perform_148 (by decide) ?_
      refine lv_iload_n hx hb dX0_perform_149 rfl (lv_at hl 1 rfl) ?_
      refine lv_isub hx hb dX0_perform_150 ?_
      obtain ⟨v3, h2, hf⟩ := bnd_inv hf
      refine cg_V (q0 := 1) (ci := 0) (As := [.int ((1 : Int32) - y2)]) (rest := []) X T (kX0_hasTurn l D cy ad S_140 ((1 : Int32) - y2) v3 h2) (cwV 1 hts gX0_perform_X0_hasTurn rfl rfl rfl (by decide +kernel) ⟨Nat.le_of_ble_eq_true rfl, Nat.le_of_ble_eq_true rfl⟩) rfl rfl rfl hl.1 rfl (Nat.le_of_ble_eq_true rfl) dX0_perform_151 ⟨Nat.zero_le _, Nat.zero_le _⟩ (st2 := [.int v3]) (pc2 := 154) rfl rfl (fun H locs T => ?_)
      refine lv_if_ne (tgt := 162) hx hb dX0_perform_154 (by decide) (fun hc => ?_) (fun hc => ?_)
      · replace hf := ifn hc hf
        obtain rfl := Option.some.inj hf
        exact rt_v X T hr dX0_perform_162
      · replace hf := ifp hc hf
        exact j_157 y2 S_140 _ _ _ hf T (lv_sub hl [0, 1] rfl)
  have j_77 : ∀ (y2 : Int32) (y3 : Int32) (y4 : Int32) (y5 : Int32) (y6 : Int32) (z1 : Int32) (S_77 : SC) (H : Heap) (locs : List Loc) (ls : Array Slot), fX0_perform_j77 y2 y3 y4 y5 y6 z1 S_77 = some r → ST D (wC cy ad) A s S_77 H locs → lv_has ls 7 [(0, .ref (ad 1)), (2, .int y2), (3, .int y3), (4, .int y4), (5, .int y5), (6, .int y6)] → W p l e ({ frames := 4, cells := 0, slots := 0, locals := 100 } : Room) s m [.ref (ad 1), .int x1].toArray below meth c H locs 0 0 (MQ below (QG D (wC cy ad) A none r) [.ref (ad 1), .int x1].toArray s 0 0 A) (F0 m 77 ls [.int z1, .ref (ad 1)]) := by
    intro y2 y3 y4 y5 y6 z1 S_77 H locs ls hf T hl
    unfold fX0_perform_j77 at hf
    obtain ⟨hz1, hf⟩ := cp_inv hf
    obtain ⟨S4, e_S4, hf⟩ := nm_inv hf
    refine va_put (D := D) (ci := 0) (v := .int z1) (ty := .boolean) (C := RX0) (T := TX0) (N := 13) hx hb hts hin_X0 tyX0 tyX0_ok nmX0 hown hK.1 T.1 T.2.1 T.2.2 1 rfl rfl 12 (by decide) (hts _ (List.mem_of_getElem? (i := 2) rfl)) (fun _ h9 => h9) rfl (by decide +kernel) (nz_n hz1) (nz_f hz1) (Nat.le_of_ble_eq_true rfl) dX0_perform_77 (fun H locs hP hD hS => ?_)
    have T : ST D (wC cy ad) A s S4 H locs := ⟨by rw [e_S4]; exact hP, by rw [e_S4]; exact hD, hS⟩
    refine lv_aload_n hx hb dX0_perform_80 rfl (lv_at hl 0 rfl) ?_
    refine lv_iload_n hx hb dX0_perform_81 rfl (lv_at hl 2 rfl) ?_
    refine lv_iload hx hb dX0_perform_82 (lv_at hl 3 rfl) ?_
    refine lv_iload hx hb dX0_perform_84 (lv_at hl 5 rfl) ?_
    obtain ⟨S6, h5, hf⟩ := bnd_inv hf
    refine cg_V (q0 := 1) (ci := 0) (As := [.int y3, .int y4, .int y6]) (rest := []) X T (kX0_carry l D cy ad S4 y3 y4 y6 S6 h5) (cwV 3 hts gX0_perform_X0_carry rfl rfl rfl (by decide +kernel) ⟨Nat.le_of_ble_eq_true rfl, Nat.le_of_ble_eq_true rfl⟩) rfl rfl rfl hl.1 rfl (Nat.le_of_ble_eq_true rfl) dX0_perform_86 ⟨Nat.zero_le _, Nat.zero_le _⟩ (st2 := []) (pc2 := 89) rfl rfl (fun H locs T => ?_)
    refine lv_aload_n hx hb dX0_perform_89 rfl (lv_at hl 0 rfl) ?_
    refine lv_dup hx hb dX0_perform_90 rfl ?_
    refine va_get (D := D) (ci := 0) (v := .int (S6.1 5)) (C := RX0) (T := TX0) (N := 13) hx hb hts hin_X0 hown hK.1 T.1 1 rfl rfl 10 (by decide) (hts _ (List.mem_of_getElem? (i := 1) rfl)) (fun _ h9 => h9) rfl dX0_perform_91 ?_
    refine lv_iconst (v := 1) hx hb dX0_perform_94 (by decide) ?_
    refine lv_iadd hx hb dX0_perform_95 ?_
    obtain ⟨S7, e_S7, hf⟩ := nm_inv hf
    refine va_put (D := D) (ci := 0) (v := .int ((S6.1 5) + 1)) (ty := .int) (C := RX0) (T := TX0) (N := 13) hx hb hts hin_X0 tyX0 tyX0_ok nmX0 hown hK.1 T.1 T.2.1 T.2.2 1 rfl rfl 10 (by decide) (hts _ (List.mem_of_getElem? (i := 1) rfl)) (fun _ h9 => h9) rfl (by decide +kernel) rfl rfl (Nat.le_of_ble_eq_true rfl) dX0_perform_96 (fun H locs hP hD hS => ?_)
    have T : ST D (wC cy ad) A s S7 H locs := ⟨by rw [e_S7]; exact hP, by rw [e_S7]; exact hD, hS⟩
    refine lv_iload hx hb dX0_perform_99 (lv_at hl 4 rfl) ?_
    refine lv_bipush (v := 50) hx hb dX0_perform_101 (by decide) ?_
    refine lv_icmp_ge (tgt := 123) hx hb dX0_perform_103 (by decide) (fun hc => ?_) (fun hc => ?_)
    · replace hf := ifp hc hf
      refine lv_iload hx hb dX0_perform_123 (lv_at hl 4 rfl) ?_
      refine lv_bipush (v := 99) hx hb dX0_perform_125 (by decide) ?_
      refine lv_icmp_ge (tgt := 140) hx hb dX0_perform_127 (by decide) (fun hc => ?_) (fun hc => ?_)
      · replace hf := ifp hc hf
        exact j_140 y2 y5 S7 _ _ _ hf T (lv_sub hl [0, 1, 4] rfl)
      · replace hf := ifn hc hf
        refine lv_aload_n hx hb dX0_perform_130 rfl (lv_at hl 0 rfl) ?_
        refine lv_iload hx hb dX0_perform_131 (lv_at hl 4 rfl) ?_
        refine lv_bipush (v := 50) hx hb dX0_perform_133 (by decide) ?_
        refine lv_isub hx hb dX0_perform_135 ?_
        refine lv_iconst (v := 4) hx hb dX0_perform_136 (by decide) ?_
        obtain ⟨S9, h8, hf⟩ := bnd_inv hf
        refine cg_V (q0 := 1) (ci := 0) (As := [.int (y5 - 50), .int 4]) (rest := []) X T (kX0_setStoreys l D cy ad S7 (y5 - 50) 4 S9 h8) (cwV 2 hts gX0_perform_X0_setStoreys rfl rfl rfl (by decide +kernel) ⟨Nat.le_of_ble_eq_true rfl, Nat.le_of_ble_eq_true rfl⟩) rfl rfl rfl hl.1 rfl (Nat.le_of_ble_eq_true rfl) dX0_perform_137 ⟨Nat.zero_le _, Nat.zero_le _⟩ (st2 := []) (pc2 := 140) rfl rfl (fun H locs T => ?_)
        exact j_140 y2 y5 S9 _ _ _ hf T (lv_sub hl [0, 1, 4] rfl)
    · replace hf := ifn hc hf
      refine lv_aload_n hx hb dX0_perform_106 rfl (lv_at hl 0 rfl) ?_
      refine lv_iload hx hb dX0_perform_107 (lv_at hl 4 rfl) ?_
      refine lv_aload_n hx hb dX0_perform_109 rfl (lv_at hl 0 rfl) ?_
      refine lv_iload hx hb dX0_perform_110 (lv_at hl 4 rfl) ?_
      obtain ⟨v11, h10, hf⟩ := bnd_inv hf
      refine cg_V (q0 := 1) (ci := 0) (As := [.int y5]) (rest := [.int y5, .ref (ad 1)]) X T (kX0_storeysOf l D cy ad S7 y5 v11 h10) (cwV 1 hts gX0_perform_X0_storeysOf rfl rfl rfl (by decide +kernel) ⟨Nat.le_of_ble_eq_true rfl, Nat.le_of_ble_eq_true rfl⟩) rfl rfl rfl hl.1 rfl (Nat.le_of_ble_eq_true rfl) dX0_perform_112 ⟨Nat.zero_le _, Nat.zero_le _⟩ (st2 := [.int v11, .int y5, .ref (ad 1)]) (pc2 := 115) rfl rfl (fun H locs T => ?_)
      refine lv_iconst (v := 1) hx hb dX0_perform_115 (by decide) ?_
      refine lv_iadd hx hb dX0_perform_116 ?_
      obtain ⟨S13, h12, hf⟩ := bnd_inv hf
      refine cg_V (q0 := 1) (ci := 0) (As := [.int y5, .int (v11 + 1)]) (rest := []) X T (kX0_setStoreys l D cy ad S7 y5 (v11 + 1) S13 h12) (cwV 2 hts gX0_perform_X0_setStoreys rfl rfl rfl (by decide +kernel) ⟨Nat.le_of_ble_eq_true rfl, Nat.le_of_ble_eq_true rfl⟩) rfl rfl rfl hl.1 rfl (Nat.le_of_ble_eq_true rfl) dX0_perform_117 ⟨Nat.zero_le _, Nat.zero_le _⟩ (st2 := []) (pc2 := 120) rfl rfl (fun H locs T => ?_)
      refine lv_goto (tgt := 140) hx hb dX0_perform_120 (by decide) ?_
      exact j_140 y2 y5 S13 _ _ _ hf T (lv_sub hl [0, 1, 4] rfl)
  have j_76 : ∀ (y2 : Int32) (y3 : Int32) (y4 : Int32) (y5 : Int32) (y6 : Int32) (S_76 : SC) (H : Heap) (locs : List Loc) (ls : Array Slot), fX0_perform_j76 y2 y3 y4 y5 y6 S_76 = some r → ST D (wC cy ad) A s S_76 H locs → lv_has ls 7 [(0, .ref (ad 1)), (2, .int y2), (3, .int y3), (4, .int y4), (5, .int y5), (6, .int y6)] → W p l e ({ frames := 4, cells := 0, slots := 0, locals := 100 } : Room) s m [.ref (ad 1), .int x1].toArray below meth c H locs 0 0 (MQ below (QG D (wC cy ad) A none r) [.ref (ad 1), .int x1].toArray s 0 0 A) (F0 m 76 ls [.ref (ad 1)]) := by
    intro y2 y3 y4 y5 y6 S_76 H locs ls hf T hl
    unfold fX0_perform_j76 at hf
    refine lv_iconst (v := 0) hx hb dX0_perform_76 (by decide) ?_
    exact j_77 y2 y3 y4 y5 y6 0 S_76 _ _ _ hf T (lv_sub hl [0, 1, 2, 3, 4, 5] rfl)
  refine lv_aload_n hx hb dX0_perform_0 rfl (lv_at hl 0 rfl) ?_
  refine va_get (D := D) (ci := 0) (v := .int (S.1 5)) (C := RX0) (T := TX0) (N := 13) hx hb hts hin_X0 hown hK.1 T.1 1 rfl rfl 10 (by decide) (hts _ (List.mem_of_getElem? (i := 1) rfl)) (fun _ h9 => h9) rfl dX0_perform_1 ?_
  refine lv_iconst (v := 2) hx hb dX0_perform_4 (by decide) ?_
  refine lv_irem hx hb dX0_perform_5 (by decide) ?_
  obtain ⟨v14, e_v14, hf⟩ := nm_inv hf
  rw [← e_v14]
  refine lv_istore_n (lv' := [(2, .int v14), (0, .ref (ad 1)), (1, .int x1)]) hx hb dX0_perform_6 rfl hl (by decide) rfl (fun ls hl => ?_)
  refine lv_aload_n hx hb dX0_perform_7 rfl (lv_at hl 1 rfl) ?_
  refine lv_iload_n hx hb dX0_perform_8 rfl (lv_at hl 0 rfl) ?_
  refine lv_iload_n hx hb dX0_perform_9 rfl (lv_at hl 2 rfl) ?_
  refine lv_sipush (v := 10000) hx hb dX0_perform_10 (by decide) ?_
  refine lv_idiv hx hb dX0_perform_13 (by decide) ?_
  obtain ⟨v16, h15, hf⟩ := bnd_inv hf
  refine cg_V (q0 := 1) (ci := 0) (As := [.int v14, .int (x1 / 10000)]) (rest := []) X T (kX0_spotOf l D cy ad S v14 (x1 / 10000) v16 h15) (cwV 2 hts gX0_perform_X0_spotOf rfl rfl rfl (by decide +kernel) ⟨Nat.le_of_ble_eq_true rfl, Nat.le_of_ble_eq_true rfl⟩) rfl rfl rfl hl.1 rfl (Nat.le_of_ble_eq_true rfl) dX0_perform_14 ⟨Nat.zero_le _, Nat.zero_le _⟩ (st2 := [.int v16]) (pc2 := 17) rfl rfl (fun H locs T => ?_)
  refine lv_istore_n (lv' := [(3, .int v16), (2, .int v14), (0, .ref (ad 1)), (1, .int x1)]) hx hb dX0_perform_17 rfl hl (by decide) rfl (fun ls hl => ?_)
  refine lv_iload_n hx hb dX0_perform_18 rfl (lv_at hl 3 rfl) ?_
  obtain ⟨v18, h17, hf⟩ := bnd_inv hf
  refine cg_S (As := [.int x1]) (rest := []) X T (kX0_destinationOf l D cy ad S x1 v18 h17) (va_cwS 1 hts gX0_perform_X0_destinationOf rfl rfl rfl (by decide +kernel) ⟨Nat.le_of_ble_eq_true rfl, Nat.le_of_ble_eq_true rfl⟩) rfl hl.1 rfl (Nat.le_of_ble_eq_true rfl) dX0_perform_19 ⟨Nat.zero_le _, Nat.zero_le _⟩ (st2 := [.int v18]) (pc2 := 22) rfl rfl (fun H locs T => ?_)
  refine lv_istore (lv' := [(4, .int v18), (3, .int v16), (2, .int v14), (0, .ref (ad 1)), (1, .int x1)]) hx hb dX0_perform_22 hl (by decide) rfl (fun ls hl => ?_)
  refine lv_iload_n hx hb dX0_perform_24 rfl (lv_at hl 4 rfl) ?_
  refine lv_bipush (v := 100) hx hb dX0_perform_25 (by decide) ?_
  refine lv_irem hx hb dX0_perform_27 (by decide) ?_
  obtain ⟨v19, e_v19, hf⟩ := nm_inv hf
  rw [← e_v19]
  refine lv_istore (lv' := [(5, .int v19), (4, .int v18), (3, .int v16), (2, .int v14), (0, .ref (ad 1)), (1, .int x1)]) hx hb dX0_perform_28 hl (by decide) rfl (fun ls hl => ?_)
  refine lv_aload_n hx hb dX0_perform_30 rfl (lv_at hl 4 rfl) ?_
  refine lv_iload_n hx hb dX0_perform_31 rfl (lv_at hl 3 rfl) ?_
  refine lv_iload_n hx hb dX0_perform_32 rfl (lv_at hl 2 rfl) ?_
  refine lv_iload hx hb dX0_perform_33 (lv_at hl 1 rfl) ?_
  obtain ⟨v21, h20, hf⟩ := bnd_inv hf
  refine cg_V (q0 := 1) (ci := 0) (As := [.int v14, .int v16, .int v18]) (rest := []) X T (kX0_asideOf l D cy ad S v14 v16 v18 v21 h20) (cwV 3 hts gX0_perform_X0_asideOf rfl rfl rfl (by decide +kernel) ⟨Nat.le_of_ble_eq_true rfl, Nat.le_of_ble_eq_true rfl⟩) rfl rfl rfl hl.1 rfl (Nat.le_of_ble_eq_true rfl) dX0_perform_35 ⟨Nat.zero_le _, Nat.zero_le _⟩ (st2 := [.int v21]) (pc2 := 38) rfl rfl (fun H locs T => ?_)
  refine lv_istore (lv' := [(6, .int v21), (5, .int v19), (4, .int v18), (3, .int v16), (2, .int v14), (0, .ref (ad 1)), (1, .int x1)]) hx hb dX0_perform_38 hl (by decide) rfl (fun ls hl => ?_)
  refine lv_aload_n hx hb dX0_perform_40 rfl (lv_at hl 5 rfl) ?_
  refine lv_iload_n hx hb dX0_perform_41 rfl (lv_at hl 6 rfl) ?_
  refine lv_iload_n hx hb dX0_perform_42 rfl (lv_at hl 3 rfl) ?_
  refine lv_iload hx hb dX0_perform_43 (lv_at hl 0 rfl) ?_
  obtain ⟨S23, h22, hf⟩ := bnd_inv hf
  refine cg_V (q0 := 1) (ci := 0) (As := [.int x1, .int v16, .int v21]) (rest := []) X T (kX0_remember l D cy ad S x1 v16 v21 S23 h22) (cwV 3 hts gX0_perform_X0_remember rfl rfl rfl (by decide +kernel) ⟨Nat.le_of_ble_eq_true rfl, Nat.le_of_ble_eq_true rfl⟩) rfl rfl rfl hl.1 rfl (Nat.le_of_ble_eq_true rfl) dX0_perform_45 ⟨Nat.zero_le _, Nat.zero_le _⟩ (st2 := []) (pc2 := 48) rfl rfl (fun H locs T => ?_)
  refine lv_aload_n hx hb dX0_perform_48 rfl (lv_at hl 5 rfl) ?_
  refine lv_aload_n hx hb dX0_perform_49 rfl (lv_at hl 5 rfl) ?_
  refine lv_iload_n hx hb dX0_perform_50 rfl (lv_at hl 4 rfl) ?_
  obtain ⟨v25, h24, hf⟩ := bnd_inv hf
  refine cg_V (q0 := 1) (ci := 0) (As := [.int v14]) (rest := [.ref (ad 1)]) X T (kX0_powerOf l D cy ad S23 v14 v25 h24) (cwV 1 hts gX0_perform_X0_powerOf rfl rfl rfl (by decide +kernel) ⟨Nat.le_of_ble_eq_true rfl, Nat.le_of_ble_eq_true rfl⟩) rfl rfl rfl hl.1 rfl (Nat.le_of_ble_eq_true rfl) dX0_perform_51 ⟨Nat.zero_le _, Nat.zero_le _⟩ (st2 := [.int v25, .ref (ad 1)]) (pc2 := 54) rfl rfl (fun H locs T => ?_)
  refine lv_iconst (v := 4) hx hb dX0_perform_54 (by decide) ?_
  refine lv_icmp_ne (tgt := 76) hx hb dX0_perform_55 (by decide) (fun hc => ?_) (fun hc => ?_)
  · replace hf := ifn hc hf
    exact j_76 v14 v16 v18 v19 v21 S23 _ _ _ hf T (lv_sub hl [5, 4, 3, 2, 1, 0] rfl)
  · replace hf := ifp hc hf
    refine lv_aload_n hx hb dX0_perform_58 rfl (lv_at hl 5 rfl) ?_
    refine lv_iload hx hb dX0_perform_59 (lv_at hl 2 rfl) ?_
    obtain ⟨v27, h26, hf⟩ := bnd_inv hf
    refine cg_V (q0 := 1) (ci := 0) (As := [.int v18]) (rest := [.ref (ad 1)]) X T (kX0_storeysOf l D cy ad S23 v18 v27 h26) (cwV 1 hts gX0_perform_X0_storeysOf rfl rfl rfl (by decide +kernel) ⟨Nat.le_of_ble_eq_true rfl, Nat.le_of_ble_eq_true rfl⟩) rfl rfl rfl hl.1 rfl (Nat.le_of_ble_eq_true rfl) dX0_perform_61 ⟨Nat.zero_le _, Nat.zero_le _⟩ (st2 := [.int v27, .ref (ad 1)]) (pc2 := 64) rfl rfl (fun H locs T => ?_)
    refine lv_aload_n hx hb dX0_perform_64 rfl (lv_at hl 5 rfl) ?_
    refine lv_iload_n hx hb dX0_perform_65 rfl (lv_at hl 3 rfl) ?_
    obtain ⟨v29, h28, hf⟩ := bnd_inv hf
    refine cg_V (q0 := 1) (ci := 0) (As := [.int v16]) (rest := [.int v27, .ref (ad 1)]) X T (kX0_storeysOf l D cy ad S23 v16 v29 h28) (cwV 1 hts gX0_perform_X0_storeysOf rfl rfl rfl (by decide +kernel) ⟨Nat.le_of_ble_eq_true rfl, Nat.le_of_ble_eq_true rfl⟩) rfl rfl rfl hl.1 rfl (Nat.le_of_ble_eq_true rfl) dX0_perform_66 ⟨Nat.zero_le _, Nat.zero_le _⟩ (st2 := [.int v29, .int v27, .ref (ad 1)]) (pc2 := 69) rfl rfl (fun H locs T => ?_)
    refine lv_icmp_le (tgt := 76) hx hb dX0_perform_69 (by decide) (fun hc => ?_) (fun hc => ?_)
    · replace hf := ifp hc hf
      exact j_76 v14 v16 v18 v19 v21 S23 _ _ _ hf T (lv_sub hl [5, 4, 3, 2, 1, 0] rfl)
    · replace hf := ifn hc hf
      refine lv_iconst (v := 1) hx hb dX0_perform_72 (by decide) ?_
      refine lv_goto (tgt := 77) hx hb dX0_perform_73 (by decide) ?_
      exact j_77 v14 v16 v18 v19 v21 1 S23 _ _ _ hf T (lv_sub hl [5, 4, 3, 2, 1, 0] rfl)

noncomputable def fX0_undo_j81 (y1 : Int32) (y2 : Int32) (z1 : Int32) (S_81 : SC) : Option SC :=
  cp (z1 = 0 ∨ z1 = 1) <|
  nm (setS S_81 7 z1 : SC) fun S1 =>
  ck (y1 + 1) 505 <|
  bnd (fX0_destinationOf S1 y2) fun v3 =>
  ck (y1 + 2) 505 <|
  bnd (fX0_carryBack S1 (S1.2 4 (y1 + 1).toNatClampNeg) v3 (S1.2 4 (y1 + 2).toNatClampNeg)) fun S5 =>
  some S5
noncomputable def fX0_undo (S : SC) : Option SC :=
  nm (((S.1 5) - 1) * 5 : Int32) fun v6 =>
  if v6 < 0 then
    some S
  else
    if v6 + 5 ≤ 505 then
      nm (setS S 5 ((S.1 5) - 1) : SC) fun S7 =>
      nm (setS S7 6 (-1) : SC) fun S8 =>
      ck v6 505 <|
      nm (S8.2 4 v6.toNatClampNeg : Int32) fun v9 =>
      bnd (fX0_builtCellOf S8 v9) fun v11 =>
      ck (v6 + 3) 505 <|
      bnd (fX0_setStoreys S8 v11 (S8.2 4 (v6 + 3).toNatClampNeg)) fun S13 =>
      ck (v6 + 4) 505 <|
      if S13.2 4 (v6 + 4).toNatClampNeg = 1 then
        fX0_undo_j81 v6 v9 1 S13
      else
        fX0_undo_j81 v6 v9 0 S13
    else
      some S
set_option maxHeartbeats 4000000 in
set_option maxRecDepth 100000 in
theorem kX0_undo (l : Launch) (D : va_G) (cy : Nat → ClassId) (ad : Nat → Nat) (S : SC) (r : SC) (hf : fX0_undo S = some r) : CG l D cy (wC cy ad) yX0_undo wsX0_undo ({ frames := 2, cells := 0, slots := 0, locals := 48 } : Room) [.ref (ad 1)] S none r := by
  refine CG.of (cc := cX0_undo) (maxL := 3) (ret := none) (by decide +kernel) rfl (Nat.le_of_ble_eq_true rfl) ?_
  intro p e s m below meth c A ls X hr T hl
  obtain ⟨hx, hb, hml, hown, hts, hlk, hK, hA, hwA⟩ := id X
  have hl : lv_has ls 3 [(0, .ref (ad 1))] := hl
  have hin_X0 : ∀ w ∈ u_ws RX0 TX0 13, w ∈ wsX0_undo := by decide +kernel
  unfold fX0_undo at hf
  have j_81 : ∀ (y1 : Int32) (y2 : Int32) (z1 : Int32) (S_81 : SC) (H : Heap) (locs : List Loc) (ls : Array Slot), fX0_undo_j81 y1 y2 z1 S_81 = some r → ST D (wC cy ad) A s S_81 H locs → lv_has ls 3 [(0, .ref (ad 1)), (1, .int y1), (2, .int y2)] → W p l e ({ frames := 2, cells := 0, slots := 0, locals := 48 } : Room) s m [.ref (ad 1)].toArray below meth c H locs 0 0 (MQ below (QG D (wC cy ad) A none r) [.ref (ad 1)].toArray s 0 0 A) (F0 m 81 ls [.int z1, .ref (ad 1)]) := by
    intro y1 y2 z1 S_81 H locs ls hf T hl
    unfold fX0_undo_j81 at hf
    obtain ⟨hz1, hf⟩ := cp_inv hf
    obtain ⟨S1, e_S1, hf⟩ := nm_inv hf
    refine va_put (D := D) (ci := 0) (v := .int z1) (ty := .boolean) (C := RX0) (T := TX0) (N := 13) hx hb hts hin_X0 tyX0 tyX0_ok nmX0 hown hK.1 T.1 T.2.1 T.2.2 1 rfl rfl 12 (by decide) (hts _ (List.mem_of_getElem? (i := 4) rfl)) (fun _ h9 => h9) rfl (by decide +kernel) (nz_n hz1) (nz_f hz1) (Nat.le_of_ble_eq_true rfl) dX0_undo_81 (fun H locs hP hD hS => ?_)
    have T : ST D (wC cy ad) A s S1 H locs := ⟨by rw [e_S1]; exact hP, by rw [e_S1]; exact hD, hS⟩
    refine lv_aload_n hx hb dX0_undo_84 rfl (lv_at hl 0 rfl) ?_
    refine lv_aload_n hx hb dX0_undo_85 rfl (lv_at hl 0 rfl) ?_
    refine va_get (D := D) (ci := 0) (v := .ref (ad 6)) (C := RX0) (T := TX0) (N := 13) hx hb hts hin_X0 hown hK.1 T.1 1 rfl rfl 4 (by decide) (hts _ (List.mem_of_getElem? (i := 2) rfl)) (fun _ h9 => h9) rfl dX0_undo_86 ?_
    refine lv_iload_n hx hb dX0_undo_89 rfl (lv_at hl 1 rfl) ?_
    refine lv_iconst (v := 1) hx hb dX0_undo_90 (by decide) ?_
    refine lv_iadd hx hb dX0_undo_91 ?_
    obtain ⟨hin, hf⟩ := ck_inv hf
    refine va_iald hx hb hK.1 T.1 6 0 rfl rfl hin dX0_undo_92 ?_
    refine lv_iload_n hx hb dX0_undo_93 rfl (lv_at hl 2 rfl) ?_
    obtain ⟨v3, h2, hf⟩ := bnd_inv hf
    refine cg_S (As := [.int y2]) (rest := [.int (S1.2 4 (y1 + 1).toNatClampNeg), .ref (ad 1)]) X T (kX0_destinationOf l D cy ad S1 y2 v3 h2) (va_cwS 1 hts gX0_undo_X0_destinationOf rfl rfl rfl (by decide +kernel) ⟨Nat.le_of_ble_eq_true rfl, Nat.le_of_ble_eq_true rfl⟩) rfl hl.1 rfl (Nat.le_of_ble_eq_true rfl) dX0_undo_94 ⟨Nat.zero_le _, Nat.zero_le _⟩ (st2 := [.int v3, .int (S1.2 4 (y1 + 1).toNatClampNeg), .ref (ad 1)]) (pc2 := 97) rfl rfl (fun H locs T => ?_)
    refine lv_aload_n hx hb dX0_undo_97 rfl (lv_at hl 0 rfl) ?_
    refine va_get (D := D) (ci := 0) (v := .ref (ad 6)) (C := RX0) (T := TX0) (N := 13) hx hb hts hin_X0 hown hK.1 T.1 1 rfl rfl 4 (by decide) (hts _ (List.mem_of_getElem? (i := 2) rfl)) (fun _ h9 => h9) rfl dX0_undo_98 ?_
    refine lv_iload_n hx hb dX0_undo_101 rfl (lv_at hl 1 rfl) ?_
    refine lv_iconst (v := 2) hx hb dX0_undo_102 (by decide) ?_
    refine lv_iadd hx hb dX0_undo_103 ?_
    obtain ⟨hin, hf⟩ := ck_inv hf
    refine va_iald hx hb hK.1 T.1 6 0 rfl rfl hin dX0_undo_104 ?_
    obtain ⟨S5, h4, hf⟩ := bnd_inv hf
    refine cg_V (q0 := 1) (ci := 0) (As := [.int (S1.2 4 (y1 + 1).toNatClampNeg), .int v3, .int (S1.2 4 (y1 + 2).toNatClampNeg)]) (rest := []) X T (kX0_carryBack l D cy ad S1 (S1.2 4 (y1 + 1).toNatClampNeg) v3 (S1.2 4 (y1 + 2).toNatClampNeg) S5 h4) (cwV 3 hts gX0_undo_X0_carryBack rfl rfl rfl (by decide +kernel) ⟨Nat.le_of_ble_eq_true rfl, Nat.le_of_ble_eq_true rfl⟩) rfl rfl rfl hl.1 rfl (Nat.le_of_ble_eq_true rfl) dX0_undo_105 ⟨Nat.zero_le _, Nat.zero_le _⟩ (st2 := []) (pc2 := 108) rfl rfl (fun H locs T => ?_)
    obtain rfl := Option.some.inj hf
    exact rt_v X T hr dX0_undo_108
  refine lv_aload_n hx hb dX0_undo_0 rfl (lv_at hl 0 rfl) ?_
  refine va_get (D := D) (ci := 0) (v := .int (S.1 5)) (C := RX0) (T := TX0) (N := 13) hx hb hts hin_X0 hown hK.1 T.1 1 rfl rfl 10 (by decide) (hts _ (List.mem_of_getElem? (i := 1) rfl)) (fun _ h9 => h9) rfl dX0_undo_1 ?_
  refine lv_iconst (v := 1) hx hb dX0_undo_4 (by decide) ?_
  refine lv_isub hx hb dX0_undo_5 ?_
  refine lv_iconst (v := 5) hx hb dX0_undo_6 (by decide) ?_
  refine lv_imul hx hb dX0_undo_7 ?_
  obtain ⟨v6, e_v6, hf⟩ := nm_inv hf
  rw [← e_v6]
  refine lv_istore_n (lv' := [(1, .int v6), (0, .ref (ad 1))]) hx hb dX0_undo_8 rfl hl (by decide) rfl (fun ls hl => ?_)
  refine lv_iload_n hx hb dX0_undo_9 rfl (lv_at hl 0 rfl) ?_
  refine lv_if_lt (tgt := 24) hx hb dX0_undo_10 (by decide) (fun hc => ?_) (fun hc => ?_)
  · replace hf := ifp hc hf
    obtain rfl := Option.some.inj hf
    exact rt_v X T hr dX0_undo_24
  · replace hf := ifn hc hf
    refine lv_iload_n hx hb dX0_undo_13 rfl (lv_at hl 0 rfl) ?_
    refine lv_iconst (v := 5) hx hb dX0_undo_14 (by decide) ?_
    refine lv_iadd hx hb dX0_undo_15 ?_
    refine lv_aload_n hx hb dX0_undo_16 rfl (lv_at hl 1 rfl) ?_
    refine va_get (D := D) (ci := 0) (v := .ref (ad 6)) (C := RX0) (T := TX0) (N := 13) hx hb hts hin_X0 hown hK.1 T.1 1 rfl rfl 4 (by decide) (hts _ (List.mem_of_getElem? (i := 2) rfl)) (fun _ h9 => h9) rfl dX0_undo_17 ?_
    refine va_alen (v := 505) hx hb hK.1 T.1 6 0 rfl rfl rfl dX0_undo_20 ?_
    refine lv_icmp_le (tgt := 25) hx hb dX0_undo_21 (by decide) (fun hc => ?_) (fun hc => ?_)
    · replace hf := ifp hc hf
      refine lv_aload_n hx hb dX0_undo_25 rfl (lv_at hl 1 rfl) ?_
      refine lv_dup hx hb dX0_undo_26 rfl ?_
      refine va_get (D := D) (ci := 0) (v := .int (S.1 5)) (C := RX0) (T := TX0) (N := 13) hx hb hts hin_X0 hown hK.1 T.1 1 rfl rfl 10 (by decide) (hts _ (List.mem_of_getElem? (i := 1) rfl)) (fun _ h9 => h9) rfl dX0_undo_27 ?_
      refine lv_iconst (v := 1) hx hb dX0_undo_30 (by decide) ?_
      refine lv_isub hx hb dX0_undo_31 ?_
      obtain ⟨S7, e_S7, hf⟩ := nm_inv hf
      refine va_put (D := D) (ci := 0) (v := .int ((S.1 5) - 1)) (ty := .int) (C := RX0) (T := TX0) (N := 13) hx hb hts hin_X0 tyX0 tyX0_ok nmX0 hown hK.1 T.1 T.2.1 T.2.2 1 rfl rfl 10 (by decide) (hts _ (List.mem_of_getElem? (i := 1) rfl)) (fun _ h9 => h9) rfl (by decide +kernel) rfl rfl (Nat.le_of_ble_eq_true rfl) dX0_undo_32 (fun H locs hP hD hS => ?_)
      have T : ST D (wC cy ad) A s S7 H locs := ⟨by rw [e_S7]; exact hP, by rw [e_S7]; exact hD, hS⟩
      refine lv_aload_n hx hb dX0_undo_35 rfl (lv_at hl 1 rfl) ?_
      refine lv_iconst (v := (-1)) hx hb dX0_undo_36 (by decide) ?_
      obtain ⟨S8, e_S8, hf⟩ := nm_inv hf
      refine va_put (D := D) (ci := 0) (v := .int (-1)) (ty := .int) (C := RX0) (T := TX0) (N := 13) hx hb hts hin_X0 tyX0 tyX0_ok nmX0 hown hK.1 T.1 T.2.1 T.2.2 1 rfl rfl 11 (by decide) (hts _ (List.mem_of_getElem? (i := 3) rfl)) (fun _ h9 => h9) rfl (by decide +kernel) rfl rfl (Nat.le_of_ble_eq_true rfl) dX0_undo_37 (fun H locs hP hD hS => ?_)
      have T : ST D (wC cy ad) A s S8 H locs := ⟨by rw [e_S8]; exact hP, by rw [e_S8]; exact hD, hS⟩
      refine lv_aload_n hx hb dX0_undo_40 rfl (lv_at hl 1 rfl) ?_
      refine va_get (D := D) (ci := 0) (v := .ref (ad 6)) (C := RX0) (T := TX0) (N := 13) hx hb hts hin_X0 hown hK.1 T.1 1 rfl rfl 4 (by decide) (hts _ (List.mem_of_getElem? (i := 2) rfl)) (fun _ h9 => h9) rfl dX0_undo_41 ?_
      refine lv_iload_n hx hb dX0_undo_44 rfl (lv_at hl 0 rfl) ?_
      obtain ⟨hin, hf⟩ := ck_inv hf
      refine va_iald hx hb hK.1 T.1 6 0 rfl rfl hin dX0_undo_45 ?_
      obtain ⟨v9, e_v9, hf⟩ := nm_inv hf
      rw [← e_v9]
      refine lv_istore_n (lv' := [(2, .int v9), (1, .int v6), (0, .ref (ad 1))]) hx hb dX0_undo_46 rfl hl (by decide) rfl (fun ls hl => ?_)
      refine lv_aload_n hx hb dX0_undo_47 rfl (lv_at hl 2 rfl) ?_
      refine lv_iload_n hx hb dX0_undo_48 rfl (lv_at hl 0 rfl) ?_
      obtain ⟨v11, h10, hf⟩ := bnd_inv hf
      refine cg_S (As := [.int v9]) (rest := [.ref (ad 1)]) X T (kX0_builtCellOf l D cy ad S8 v9 v11 h10) (va_cwS 1 hts gX0_undo_X0_builtCellOf rfl rfl rfl (by decide +kernel) ⟨Nat.le_of_ble_eq_true rfl, Nat.le_of_ble_eq_true rfl⟩) rfl hl.1 rfl (Nat.le_of_ble_eq_true rfl) dX0_undo_49 ⟨Nat.zero_le _, Nat.zero_le _⟩ (st2 := [.int v11, .ref (ad 1)]) (pc2 := 52) rfl rfl (fun H locs T => ?_)
      refine lv_aload_n hx hb dX0_undo_52 rfl (lv_at hl 2 rfl) ?_
      refine va_get (D := D) (ci := 0) (v := .ref (ad 6)) (C := RX0) (T := TX0) (N := 13) hx hb hts hin_X0 hown hK.1 T.1 1 rfl rfl 4 (by decide) (hts _ (List.mem_of_getElem? (i := 2) rfl)) (fun _ h9 => h9) rfl dX0_undo_53 ?_
      refine lv_iload_n hx hb dX0_undo_56 rfl (lv_at hl 1 rfl) ?_
      refine lv_iconst (v := 3) hx hb dX0_undo_57 (by decide) ?_
      refine lv_iadd hx hb dX0_undo_58 ?_
      obtain ⟨hin, hf⟩ := ck_inv hf
      refine va_iald hx hb hK.1 T.1 6 0 rfl rfl hin dX0_undo_59 ?_
      obtain ⟨S13, h12, hf⟩ := bnd_inv hf
      refine cg_V (q0 := 1) (ci := 0) (As := [.int v11, .int (S8.2 4 (v6 + 3).toNatClampNeg)]) (rest := []) X T (kX0_setStoreys l D cy ad S8 v11 (S8.2 4 (v6 + 3).toNatClampNeg) S13 h12) (cwV 2 hts gX0_undo_X0_setStoreys rfl rfl rfl (by decide +kernel) ⟨Nat.le_of_ble_eq_true rfl, Nat.le_of_ble_eq_true rfl⟩) rfl rfl rfl hl.1 rfl (Nat.le_of_ble_eq_true rfl) dX0_undo_60 ⟨Nat.zero_le _, Nat.zero_le _⟩ (st2 := []) (pc2 := 63) rfl rfl (fun H locs T => ?_)
      refine lv_aload_n hx hb dX0_undo_63 rfl (lv_at hl 2 rfl) ?_
      refine lv_aload_n hx hb dX0_undo_64 rfl (lv_at hl 2 rfl) ?_
      refine va_get (D := D) (ci := 0) (v := .ref (ad 6)) (C := RX0) (T := TX0) (N := 13) hx hb hts hin_X0 hown hK.1 T.1 1 rfl rfl 4 (by decide) (hts _ (List.mem_of_getElem? (i := 2) rfl)) (fun _ h9 => h9) rfl dX0_undo_65 ?_
      refine lv_iload_n hx hb dX0_undo_68 rfl (lv_at hl 1 rfl) ?_
      refine lv_iconst (v := 4) hx hb dX0_undo_69 (by decide) ?_
      refine lv_iadd hx hb dX0_undo_70 ?_
      obtain ⟨hin, hf⟩ := ck_inv hf
      refine va_iald hx hb hK.1 T.1 6 0 rfl rfl hin dX0_undo_71 ?_
      refine lv_iconst (v := 1) hx hb dX0_undo_72 (by decide) ?_
      refine lv_icmp_ne (tgt := 80) hx hb dX0_undo_73 (by decide) (fun hc => ?_) (fun hc => ?_)
      · replace hf := ifn hc hf
        refine lv_iconst (v := 0) hx hb dX0_undo_80 (by decide) ?_
        exact j_81 v6 v9 0 S13 _ _ _ hf T (lv_sub hl [2, 1, 0] rfl)
      · replace hf := ifp hc hf
        refine lv_iconst (v := 1) hx hb dX0_undo_76 (by decide) ?_
        refine lv_goto (tgt := 81) hx hb dX0_undo_77 (by decide) ?_
        exact j_81 v6 v9 1 S13 _ _ _ hf T (lv_sub hl [2, 1, 0] rfl)
    · replace hf := ifn hc hf
      obtain rfl := Option.some.inj hf
      exact rt_v X T hr dX0_undo_24
end
section
noncomputable def fX0_listBuildings_j130 (y1 : Nat) (y2 : Int32) (y3 : Int32) (y4 : Int32) (y6 : Int32) (y7 : Int32) (S_130 : SC) : Option ((Int32 × SC) ⊕ SC) :=
  nm (y7 + 1 : Int32) fun v1 =>
  some (.inl (v1, S_130))
noncomputable def fX0_listBuildings_b80 (y1 : Nat) (y2 : Int32) (y3 : Int32) (y4 : Int32) (y6 : Int32) : (Int32 × SC) → Option ((Int32 × SC) ⊕ SC) :=
  fun st => match st with
    | (y7, S_80) =>
      if (8 : Int32) ≤ y7 then
        ex <|
        some S_80
      else
        bnd (fX0_neighbourOf S_80 y4 y7) fun v3 =>
        bnd (fX0_isOpenBehind S_80 y3 y6 v3) fun v5 =>
        if v5 = 0 then
          fX0_listBuildings_j130 y1 y2 y3 y4 y6 y7 S_80
        else
          bnd (fX0_storeysOf S_80 v3) fun v7 =>
          if (3 : Int32) ≤ v7 then
            fX0_listBuildings_j130 y1 y2 y3 y4 y6 y7 S_80
          else
            bnd (fX2_add S_80 y1 ((y2 + 50) + v3)) fun S9 =>
            fX0_listBuildings_j130 y1 y2 y3 y4 y6 y7 S9
noncomputable def fX0_listBuildings_j59 (y1 : Nat) (y2 : Int32) (y3 : Int32) (y4 : Int32) (y5 : Int32) (y6 : Int32) (y7 : Int32) (S_59 : SC) : Option ((Int32 × SC) ⊕ SC) :=
  nm (y7 + 1 : Int32) fun v10 =>
  some (.inl (v10, S_59))
noncomputable def fX0_listBuildings_b22 (y1 : Nat) (y2 : Int32) (y3 : Int32) (y4 : Int32) (y5 : Int32) (y6 : Int32) : (Int32 × SC) → Option ((Int32 × SC) ⊕ SC) :=
  fun st => match st with
    | (y7, S_22) =>
      if (8 : Int32) ≤ y7 then
        ex <|
        bnd (fX0_powerOf S_22 y5) fun v12 =>
        if v12 = 6 then
          loop (fX0_listBuildings_b80 y1 y2 y3 y4 y6) FUEL (0, S_22)
        else
          some S_22
      else
        bnd (fX0_neighbourOf S_22 y4 y7) fun v14 =>
        bnd (fX0_isOpenBehind S_22 y3 y6 v14) fun v16 =>
        if v16 = 0 then
          fX0_listBuildings_j59 y1 y2 y3 y4 y5 y6 y7 S_22
        else
          bnd (fX2_add S_22 y1 (y2 + v14)) fun S18 =>
          fX0_listBuildings_j59 y1 y2 y3 y4 y5 y6 y7 S18
noncomputable def fX0_listBuildings (S : SC) (t : Nat) (x2 : Int32) (x3 : Int32) (x4 : Int32) : Option SC :=
  nm ((S.1 5) - (S.1 5) / 2 * 2 : Int32) fun v19 =>
  bnd (fX0_asideOf S v19 x3 x4) fun v21 =>
  loop (fX0_listBuildings_b22 t x2 x3 x4 v19 v21) FUEL (0, S)
set_option maxHeartbeats 4000000 in
set_option maxRecDepth 100000 in
theorem kX0_listBuildings (l : Launch) (D : va_G) (cy : Nat → ClassId) (ad : Nat → Nat) (S : SC) (t : Nat) (x2 : Int32) (x3 : Int32) (x4 : Int32) (r : SC) (hf : fX0_listBuildings S t x2 x3 x4 = some r) (ht_t : t < 4) : CG l D cy (wC cy ad) yX0_listBuildings wsX0_listBuildings ({ frames := 2, cells := 0, slots := 0, locals := 44 } : Room) [.ref (ad 1), .ref (ad (7 + 2 * t)), .int x2, .int x3, .int x4] S none r := by
  refine CG.of (cc := cX0_listBuildings) (maxL := 9) (ret := none) (by decide +kernel) rfl (Nat.le_of_ble_eq_true rfl) ?_
  intro p e s m below meth c A ls X hr T hl
  obtain ⟨hx, hb, hml, hown, hts, hlk, hK, hA, hwA⟩ := id X
  have hl : lv_has ls 9 [(0, .ref (ad 1)), (1, .ref (ad (7 + 2 * t))), (2, .int x2), (3, .int x3), (4, .int x4)] := hl
  have hin_X0 : ∀ w ∈ u_ws RX0 TX0 13, w ∈ wsX0_listBuildings := by decide +kernel
  unfold fX0_listBuildings at hf
  have l_80 : ∀ (y1 : Nat) (y2 : Int32) (y3 : Int32) (y4 : Int32) (y6 : Int32) (n : Nat) (y7 : Int32) (S_80 : SC) (H : Heap) (locs : List Loc) (ls : Array Slot), loop (fX0_listBuildings_b80 y1 y2 y3 y4 y6) n (y7, S_80) = some r → ST D (wC cy ad) A s S_80 H locs → lv_has ls 9 [(0, .ref (ad 1)), (1, .ref (ad (7 + 2 * y1))), (2, .int y2), (3, .int y3), (4, .int y4), (6, .int y6), (7, .int y7)] → y1 < 4 → W p l e ({ frames := 2, cells := 0, slots := 0, locals := 44 } : Room) s m [.ref (ad 1), .ref (ad (7 + 2 * t)), .int x2, .int x3, .int x4].toArray below meth c H locs 0 0 (MQ below (QG D (wC cy ad) A none r) [.ref (ad 1), .ref (ad (7 + 2 * t)), .int x2, .int x3, .int x4].toArray s 0 0 A) (F0 m 80 ls []) := by
    intro y1 y2 y3 y4 y6 n
    induction n with
    | zero => intro _ _ _ _ _ hf; cases hf
    | succ n ih_80 =>
      intro y7 S_80 H locs ls hf T hl ht_y1
      obtain ⟨z_80, hf, hin_80, hex_80⟩ := loop_inv hf
      unfold fX0_listBuildings_b80 at hf
      dsimp only at hf
      have j_130 : ∀ (y7 : Int32) (S_130 : SC) (H : Heap) (locs : List Loc) (ls : Array Slot), fX0_listBuildings_j130 y1 y2 y3 y4 y6 y7 S_130 = some z_80 → ST D (wC cy ad) A s S_130 H locs → lv_has ls 9 [(0, .ref (ad 1)), (1, .ref (ad (7 + 2 * y1))), (2, .int y2), (3, .int y3), (4, .int y4), (6, .int y6), (7, .int y7)] → W p l e ({ frames := 2, cells := 0, slots := 0, locals := 44 } : Room) s m [.ref (ad 1), .ref (ad (7 + 2 * t)), .int x2, .int x3, .int x4].toArray below meth c H locs 0 0 (MQ below (QG D (wC cy ad) A none r) [.ref (ad 1), .ref (ad (7 + 2 * t)), .int x2, .int x3, .int x4].toArray s 0 0 A) (F0 m 130 ls []) := by
        intro y7 S_130 H locs ls hf T hl
        unfold fX0_listBuildings_j130 at hf
        obtain ⟨v1, e_v1, hf⟩ := nm_inv hf
        refine lv_iinc (v := v1) (lv' := [(7, .int v1), (0, .ref (ad 1)), (1, .ref (ad (7 + 2 * y1))), (2, .int y2), (3, .int y3), (4, .int y4), (6, .int y6)]) hx hb dX0_listBuildings_130 hl (k := 6) rfl (by rw [e_v1]; rfl) (by decide) rfl (fun ls hl => ?_)
        refine lv_goto (tgt := 80) hx hb dX0_listBuildings_133 (by decide) ?_
        exact ih_80 v1 S_130 _ _ _ (hin_80 _ (Option.some.inj hf).symm) T (lv_sub hl [1, 2, 3, 4, 5, 6, 0] rfl) ht_y1
      refine lv_iload hx hb dX0_listBuildings_80 (lv_at hl 6 rfl) ?_
      refine lv_bipush (v := 8) hx hb dX0_listBuildings_82 (by decide) ?_
      refine lv_icmp_ge (tgt := 136) hx hb dX0_listBuildings_84 (by decide) (fun hc => ?_) (fun hc => ?_)
      · replace hf := ifp hc hf
        obtain ⟨r0, hf, hz⟩ := ex_inv hf
        rw [hex_80 r0 hz] at hf
        obtain rfl := Option.some.inj hf
        exact rt_v X T hr dX0_listBuildings_136
      · replace hf := ifn hc hf
        refine lv_aload_n hx hb dX0_listBuildings_87 rfl (lv_at hl 0 rfl) ?_
        refine lv_iload hx hb dX0_listBuildings_88 (lv_at hl 4 rfl) ?_
        refine lv_iload hx hb dX0_listBuildings_90 (lv_at hl 6 rfl) ?_
        obtain ⟨v3, h2, hf⟩ := bnd_inv hf
        refine cg_V (q0 := 1) (ci := 0) (As := [.int y4, .int y7]) (rest := []) X T (kX0_neighbourOf l D cy ad S_80 y4 y7 v3 h2) (cwV 2 hts gX0_listBuildings_X0_neighbourOf rfl rfl rfl (by decide +kernel) ⟨Nat.le_of_ble_eq_true rfl, Nat.le_of_ble_eq_true rfl⟩) rfl rfl rfl hl.1 rfl (Nat.le_of_ble_eq_true rfl) dX0_listBuildings_92 ⟨Nat.zero_le _, Nat.zero_le _⟩ (st2 := [.int v3]) (pc2 := 95) rfl rfl (fun H locs T => ?_)
        refine lv_istore (lv' := [(8, .int v3), (0, .ref (ad 1)), (1, .ref (ad (7 + 2 * y1))), (2, .int y2), (3, .int y3), (4, .int y4), (6, .int y6), (7, .int y7)]) hx hb dX0_listBuildings_95 hl (by decide) rfl (fun ls hl => ?_)
        refine lv_aload_n hx hb dX0_listBuildings_97 rfl (lv_at hl 1 rfl) ?_
        refine lv_iload_n hx hb dX0_listBuildings_98 rfl (lv_at hl 4 rfl) ?_
        refine lv_iload hx hb dX0_listBuildings_99 (lv_at hl 6 rfl) ?_
        refine lv_iload hx hb dX0_listBuildings_101 (lv_at hl 0 rfl) ?_
        obtain ⟨v5, h4, hf⟩ := bnd_inv hf
        refine cg_V (q0 := 1) (ci := 0) (As := [.int y3, .int y6, .int v3]) (rest := []) X T (kX0_isOpenBehind l D cy ad S_80 y3 y6 v3 v5 h4) (cwV 3 hts gX0_listBuildings_X0_isOpenBehind rfl rfl rfl (by decide +kernel) ⟨Nat.le_of_ble_eq_true rfl, Nat.le_of_ble_eq_true rfl⟩) rfl rfl rfl hl.1 rfl (Nat.le_of_ble_eq_true rfl) dX0_listBuildings_103 ⟨Nat.zero_le _, Nat.zero_le _⟩ (st2 := [.int v5]) (pc2 := 106) rfl rfl (fun H locs T => ?_)
        refine lv_if_eq (tgt := 130) hx hb dX0_listBuildings_106 (by decide) (fun hc => ?_) (fun hc => ?_)
        · replace hf := ifp hc hf
          exact j_130 y7 S_80 _ _ _ hf T (lv_sub hl [1, 2, 3, 4, 5, 6, 7] rfl)
        · replace hf := ifn hc hf
          refine lv_aload_n hx hb dX0_listBuildings_109 rfl (lv_at hl 1 rfl) ?_
          refine lv_iload hx hb dX0_listBuildings_110 (lv_at hl 0 rfl) ?_
          obtain ⟨v7, h6, hf⟩ := bnd_inv hf
          refine cg_V (q0 := 1) (ci := 0) (As := [.int v3]) (rest := []) X T (kX0_storeysOf l D cy ad S_80 v3 v7 h6) (cwV 1 hts gX0_listBuildings_X0_storeysOf rfl rfl rfl (by decide +kernel) ⟨Nat.le_of_ble_eq_true rfl, Nat.le_of_ble_eq_true rfl⟩) rfl rfl rfl hl.1 rfl (Nat.le_of_ble_eq_true rfl) dX0_listBuildings_112 ⟨Nat.zero_le _, Nat.zero_le _⟩ (st2 := [.int v7]) (pc2 := 115) rfl rfl (fun H locs T => ?_)
          refine lv_iconst (v := 3) hx hb dX0_listBuildings_115 (by decide) ?_
          refine lv_icmp_ge (tgt := 130) hx hb dX0_listBuildings_116 (by decide) (fun hc => ?_) (fun hc => ?_)
          · replace hf := ifp hc hf
            exact j_130 y7 S_80 _ _ _ hf T (lv_sub hl [1, 2, 3, 4, 5, 6, 7] rfl)
          · replace hf := ifn hc hf
            refine lv_aload_n hx hb dX0_listBuildings_119 rfl (lv_at hl 2 rfl) ?_
            refine lv_iload_n hx hb dX0_listBuildings_120 rfl (lv_at hl 3 rfl) ?_
            refine lv_bipush (v := 50) hx hb dX0_listBuildings_121 (by decide) ?_
            refine lv_iadd hx hb dX0_listBuildings_123 ?_
            refine lv_iload hx hb dX0_listBuildings_124 (lv_at hl 0 rfl) ?_
            refine lv_iadd hx hb dX0_listBuildings_126 ?_
            obtain ⟨S9, h8, hf⟩ := bnd_inv hf
            refine cg_V (q0 := (7 + 2 * y1)) (ci := 2) (As := [.int ((y2 + 50) + v3)]) (rest := []) X T (kX2_add l D cy ad S_80 y1 ((y2 + 50) + v3) S9 h8 ht_y1) (cwV 1 hts gX0_listBuildings_X2_add rfl rfl rfl (by decide +kernel) ⟨Nat.le_of_ble_eq_true rfl, Nat.le_of_ble_eq_true rfl⟩) (wC_L cy ad S_80 ht_y1) rfl rfl hl.1 rfl (Nat.le_of_ble_eq_true rfl) dX0_listBuildings_127 ⟨Nat.zero_le _, Nat.zero_le _⟩ (st2 := []) (pc2 := 130) rfl rfl (fun H locs T => ?_)
            exact j_130 y7 S9 _ _ _ hf T (lv_sub hl [1, 2, 3, 4, 5, 6, 7] rfl)
  have l_22 : ∀ (y1 : Nat) (y2 : Int32) (y3 : Int32) (y4 : Int32) (y5 : Int32) (y6 : Int32) (n : Nat) (y7 : Int32) (S_22 : SC) (H : Heap) (locs : List Loc) (ls : Array Slot), loop (fX0_listBuildings_b22 y1 y2 y3 y4 y5 y6) n (y7, S_22) = some r → ST D (wC cy ad) A s S_22 H locs → lv_has ls 9 [(0, .ref (ad 1)), (1, .ref (ad (7 + 2 * y1))), (2, .int y2), (3, .int y3), (4, .int y4), (5, .int y5), (6, .int y6), (7, .int y7)] → y1 < 4 → W p l e ({ frames := 2, cells := 0, slots := 0, locals := 44 } : Room) s m [.ref (ad 1), .ref (ad (7 + 2 * t)), .int x2, .int x3, .int x4].toArray below meth c H locs 0 0 (MQ below (QG D (wC cy ad) A none r) [.ref (ad 1), .ref (ad (7 + 2 * t)), .int x2, .int x3, .int x4].toArray s 0 0 A) (F0 m 22 ls []) := by
    intro y1 y2 y3 y4 y5 y6 n
    induction n with
    | zero => intro _ _ _ _ _ hf; cases hf
    | succ n ih_22 =>
      intro y7 S_22 H locs ls hf T hl ht_y1
      obtain ⟨z_22, hf, hin_22, hex_22⟩ := loop_inv hf
      unfold fX0_listBuildings_b22 at hf
      dsimp only at hf
      have j_59 : ∀ (y7 : Int32) (S_59 : SC) (H : Heap) (locs : List Loc) (ls : Array Slot), fX0_listBuildings_j59 y1 y2 y3 y4 y5 y6 y7 S_59 = some z_22 → ST D (wC cy ad) A s S_59 H locs → lv_has ls 9 [(0, .ref (ad 1)), (1, .ref (ad (7 + 2 * y1))), (2, .int y2), (3, .int y3), (4, .int y4), (5, .int y5), (6, .int y6), (7, .int y7)] → W p l e ({ frames := 2, cells := 0, slots := 0, locals := 44 } : Room) s m [.ref (ad 1), .ref (ad (7 + 2 * t)), .int x2, .int x3, .int x4].toArray below meth c H locs 0 0 (MQ below (QG D (wC cy ad) A none r) [.ref (ad 1), .ref (ad (7 + 2 * t)), .int x2, .int x3, .int x4].toArray s 0 0 A) (F0 m 59 ls []) := by
        intro y7 S_59 H locs ls hf T hl
        unfold fX0_listBuildings_j59 at hf
        obtain ⟨v10, e_v10, hf⟩ := nm_inv hf
        refine lv_iinc (v := v10) (lv' := [(7, .int v10), (0, .ref (ad 1)), (1, .ref (ad (7 + 2 * y1))), (2, .int y2), (3, .int y3), (4, .int y4), (5, .int y5), (6, .int y6)]) hx hb dX0_listBuildings_59 hl (k := 7) rfl (by rw [e_v10]; rfl) (by decide) rfl (fun ls hl => ?_)
        refine lv_goto (tgt := 22) hx hb dX0_listBuildings_62 (by decide) ?_
        exact ih_22 v10 S_59 _ _ _ (hin_22 _ (Option.some.inj hf).symm) T (lv_sub hl [1, 2, 3, 4, 5, 6, 7, 0] rfl) ht_y1
      refine lv_iload hx hb dX0_listBuildings_22 (lv_at hl 7 rfl) ?_
      refine lv_bipush (v := 8) hx hb dX0_listBuildings_24 (by decide) ?_
      refine lv_icmp_ge (tgt := 65) hx hb dX0_listBuildings_26 (by decide) (fun hc => ?_) (fun hc => ?_)
      · replace hf := ifp hc hf
        obtain ⟨r0, hf, hz⟩ := ex_inv hf
        rw [hex_22 r0 hz] at hf
        refine lv_aload_n hx hb dX0_listBuildings_65 rfl (lv_at hl 0 rfl) ?_
        refine lv_iload hx hb dX0_listBuildings_66 (lv_at hl 5 rfl) ?_
        obtain ⟨v12, h11, hf⟩ := bnd_inv hf
        refine cg_V (q0 := 1) (ci := 0) (As := [.int y5]) (rest := []) X T (kX0_powerOf l D cy ad S_22 y5 v12 h11) (cwV 1 hts gX0_listBuildings_X0_powerOf rfl rfl rfl (by decide +kernel) ⟨Nat.le_of_ble_eq_true rfl, Nat.le_of_ble_eq_true rfl⟩) rfl rfl rfl hl.1 rfl (Nat.le_of_ble_eq_true rfl) dX0_listBuildings_68 ⟨Nat.zero_le _, Nat.zero_le _⟩ (st2 := [.int v12]) (pc2 := 71) rfl rfl (fun H locs T => ?_)
        refine lv_bipush (v := 6) hx hb dX0_listBuildings_71 (by decide) ?_
        refine lv_icmp_eq (tgt := 77) hx hb dX0_listBuildings_73 (by decide) (fun hc => ?_) (fun hc => ?_)
        · replace hf := ifp hc hf
          refine lv_iconst (v := 0) hx hb dX0_listBuildings_77 (by decide) ?_
          refine lv_istore (lv' := [(7, .int 0), (0, .ref (ad 1)), (1, .ref (ad (7 + 2 * y1))), (2, .int y2), (3, .int y3), (4, .int y4), (5, .int y5), (6, .int y6)]) hx hb dX0_listBuildings_78 hl (by decide) rfl (fun ls hl => ?_)
          exact l_80 y1 y2 y3 y4 y6 FUEL 0 S_22 _ _ _ hf T (lv_sub hl [1, 2, 3, 4, 5, 7, 0] rfl) ht_y1
        · replace hf := ifn hc hf
          obtain rfl := Option.some.inj hf
          exact rt_v X T hr dX0_listBuildings_76
      · replace hf := ifn hc hf
        refine lv_aload_n hx hb dX0_listBuildings_29 rfl (lv_at hl 0 rfl) ?_
        refine lv_iload hx hb dX0_listBuildings_30 (lv_at hl 4 rfl) ?_
        refine lv_iload hx hb dX0_listBuildings_32 (lv_at hl 7 rfl) ?_
        obtain ⟨v14, h13, hf⟩ := bnd_inv hf
        refine cg_V (q0 := 1) (ci := 0) (As := [.int y4, .int y7]) (rest := []) X T (kX0_neighbourOf l D cy ad S_22 y4 y7 v14 h13) (cwV 2 hts gX0_listBuildings_X0_neighbourOf rfl rfl rfl (by decide +kernel) ⟨Nat.le_of_ble_eq_true rfl, Nat.le_of_ble_eq_true rfl⟩) rfl rfl rfl hl.1 rfl (Nat.le_of_ble_eq_true rfl) dX0_listBuildings_34 ⟨Nat.zero_le _, Nat.zero_le _⟩ (st2 := [.int v14]) (pc2 := 37) rfl rfl (fun H locs T => ?_)
        refine lv_istore (lv' := [(8, .int v14), (0, .ref (ad 1)), (1, .ref (ad (7 + 2 * y1))), (2, .int y2), (3, .int y3), (4, .int y4), (5, .int y5), (6, .int y6), (7, .int y7)]) hx hb dX0_listBuildings_37 hl (by decide) rfl (fun ls hl => ?_)
        refine lv_aload_n hx hb dX0_listBuildings_39 rfl (lv_at hl 1 rfl) ?_
        refine lv_iload_n hx hb dX0_listBuildings_40 rfl (lv_at hl 4 rfl) ?_
        refine lv_iload hx hb dX0_listBuildings_41 (lv_at hl 7 rfl) ?_
        refine lv_iload hx hb dX0_listBuildings_43 (lv_at hl 0 rfl) ?_
        obtain ⟨v16, h15, hf⟩ := bnd_inv hf
        refine cg_V (q0 := 1) (ci := 0) (As := [.int y3, .int y6, .int v14]) (rest := []) X T (kX0_isOpenBehind l D cy ad S_22 y3 y6 v14 v16 h15) (cwV 3 hts gX0_listBuildings_X0_isOpenBehind rfl rfl rfl (by decide +kernel) ⟨Nat.le_of_ble_eq_true rfl, Nat.le_of_ble_eq_true rfl⟩) rfl rfl rfl hl.1 rfl (Nat.le_of_ble_eq_true rfl) dX0_listBuildings_45 ⟨Nat.zero_le _, Nat.zero_le _⟩ (st2 := [.int v16]) (pc2 := 48) rfl rfl (fun H locs T => ?_)
        refine lv_if_eq (tgt := 59) hx hb dX0_listBuildings_48 (by decide) (fun hc => ?_) (fun hc => ?_)
        · replace hf := ifp hc hf
          exact j_59 y7 S_22 _ _ _ hf T (lv_sub hl [1, 2, 3, 4, 5, 6, 7, 8] rfl)
        · replace hf := ifn hc hf
          refine lv_aload_n hx hb dX0_listBuildings_51 rfl (lv_at hl 2 rfl) ?_
          refine lv_iload_n hx hb dX0_listBuildings_52 rfl (lv_at hl 3 rfl) ?_
          refine lv_iload hx hb dX0_listBuildings_53 (lv_at hl 0 rfl) ?_
          refine lv_iadd hx hb dX0_listBuildings_55 ?_
          obtain ⟨S18, h17, hf⟩ := bnd_inv hf
          refine cg_V (q0 := (7 + 2 * y1)) (ci := 2) (As := [.int (y2 + v14)]) (rest := []) X T (kX2_add l D cy ad S_22 y1 (y2 + v14) S18 h17 ht_y1) (cwV 1 hts gX0_listBuildings_X2_add rfl rfl rfl (by decide +kernel) ⟨Nat.le_of_ble_eq_true rfl, Nat.le_of_ble_eq_true rfl⟩) (wC_L cy ad S_22 ht_y1) rfl rfl hl.1 rfl (Nat.le_of_ble_eq_true rfl) dX0_listBuildings_56 ⟨Nat.zero_le _, Nat.zero_le _⟩ (st2 := []) (pc2 := 59) rfl rfl (fun H locs T => ?_)
          exact j_59 y7 S18 _ _ _ hf T (lv_sub hl [1, 2, 3, 4, 5, 6, 7, 8] rfl)
  refine lv_aload_n hx hb dX0_listBuildings_0 rfl (lv_at hl 0 rfl) ?_
  refine va_get (D := D) (ci := 0) (v := .int (S.1 5)) (C := RX0) (T := TX0) (N := 13) hx hb hts hin_X0 hown hK.1 T.1 1 rfl rfl 10 (by decide) (hts _ (List.mem_of_getElem? (i := 1) rfl)) (fun _ h9 => h9) rfl dX0_listBuildings_1 ?_
  refine lv_iconst (v := 2) hx hb dX0_listBuildings_4 (by decide) ?_
  refine lv_irem hx hb dX0_listBuildings_5 (by decide) ?_
  obtain ⟨v19, e_v19, hf⟩ := nm_inv hf
  rw [← e_v19]
  refine lv_istore (lv' := [(5, .int v19), (0, .ref (ad 1)), (1, .ref (ad (7 + 2 * t))), (2, .int x2), (3, .int x3), (4, .int x4)]) hx hb dX0_listBuildings_6 hl (by decide) rfl (fun ls hl => ?_)
  refine lv_aload_n hx hb dX0_listBuildings_8 rfl (lv_at hl 1 rfl) ?_
  refine lv_iload hx hb dX0_listBuildings_9 (lv_at hl 0 rfl) ?_
  refine lv_iload_n hx hb dX0_listBuildings_11 rfl (lv_at hl 4 rfl) ?_
  refine lv_iload hx hb dX0_listBuildings_12 (lv_at hl 5 rfl) ?_
  obtain ⟨v21, h20, hf⟩ := bnd_inv hf
  refine cg_V (q0 := 1) (ci := 0) (As := [.int v19, .int x3, .int x4]) (rest := []) X T (kX0_asideOf l D cy ad S v19 x3 x4 v21 h20) (cwV 3 hts gX0_listBuildings_X0_asideOf rfl rfl rfl (by decide +kernel) ⟨Nat.le_of_ble_eq_true rfl, Nat.le_of_ble_eq_true rfl⟩) rfl rfl rfl hl.1 rfl (Nat.le_of_ble_eq_true rfl) dX0_listBuildings_14 ⟨Nat.zero_le _, Nat.zero_le _⟩ (st2 := [.int v21]) (pc2 := 17) rfl rfl (fun H locs T => ?_)
  refine lv_istore (lv' := [(6, .int v21), (5, .int v19), (0, .ref (ad 1)), (1, .ref (ad (7 + 2 * t))), (2, .int x2), (3, .int x3), (4, .int x4)]) hx hb dX0_listBuildings_17 hl (by decide) rfl (fun ls hl => ?_)
  refine lv_iconst (v := 0) hx hb dX0_listBuildings_19 (by decide) ?_
  refine lv_istore (lv' := [(7, .int 0), (6, .int v21), (5, .int v19), (0, .ref (ad 1)), (1, .ref (ad (7 + 2 * t))), (2, .int x2), (3, .int x3), (4, .int x4)]) hx hb dX0_listBuildings_20 hl (by decide) rfl (fun ls hl => ?_)
  exact l_22 t x2 x3 x4 v19 v21 FUEL 0 S _ _ _ hf T (lv_sub hl [3, 4, 5, 6, 7, 2, 1, 0] rfl) ht_t

noncomputable def fX0_listTurns_j119 (y1 : Nat) (y2 : Int32) (y3 : Int32) (y4 : Int32) (y5 : Int64) (y7 : Int32) (S_119 : SC) : Option ((Int32 × SC) ⊕ ((Int32 × SC) ⊕ SC)) :=
  nm (y7 + 1 : Int32) fun v1 =>
  some (.inl (v1, S_119))
noncomputable def fX0_listTurns_j95 (y1 : Nat) (y2 : Int32) (y3 : Int32) (y4 : Int32) (y5 : Int64) (y7 : Int32) (y8 : Int32) (S_95 : SC) : Option ((Int32 × SC) ⊕ ((Int32 × SC) ⊕ SC)) :=
  if lg_cmp ((y5 >>> ((y7 + 32).toInt64 &&& 63)) &&& (1 : Int64)) (0 : Int64) = 0 then
    fX0_listTurns_j119 y1 y2 y3 y4 y5 y7 S_95
  else
    bnd (fX2_add S_95 y1 (y8 + 99)) fun S3 =>
    fX0_listTurns_j119 y1 y2 y3 y4 y5 y7 S3
noncomputable def fX0_listTurns_b50 (y1 : Nat) (y2 : Int32) (y3 : Int32) (y4 : Int32) (y5 : Int64) : (Int32 × SC) → Option ((Int32 × SC) ⊕ ((Int32 × SC) ⊕ SC)) :=
  fun st => match st with
    | (y7, S_50) =>
      if S_50.1 0 ≤ y7 then
        ex <|
        nm (y3 + 1 : Int32) fun v4 =>
        some (.inl (v4, S_50))
      else
        nm (((10000 : Int32) * y3) + ((100 : Int32) * y7) : Int32) fun v5 =>
        if lg_cmp ((y5 >>> (y7.toInt64 &&& 63)) &&& (1 : Int64)) (0 : Int64) = 0 then
          fX0_listTurns_j95 y1 y2 y3 y4 y5 y7 v5 S_50
        else
          bnd (fX0_listBuildings S_50 y1 v5 y4 y7) fun S7 =>
          fX0_listTurns_j95 y1 y2 y3 y4 y5 y7 v5 S7
noncomputable def fX0_listTurns_b22 (y1 : Nat) (y2 : Int32) : (Int32 × SC) → Option ((Int32 × SC) ⊕ SC) :=
  fun st => match st with
    | (y3, S_22) =>
      if S_22.1 1 ≤ y3 then
        ex <|
        some S_22
      else
        bnd (fX0_spotOf S_22 y2 y3) fun v9 =>
        bnd (fX0_reachOf S_22 y2 v9) fun v11 =>
        loop (fX0_listTurns_b50 y1 y2 y3 v9 v11) FUEL (0, S_22)
noncomputable def fX0_listTurns (S : SC) (t : Nat) : Option SC :=
  bnd (fX2_clear S t) fun S13 =>
  if S13.1 6 = (-1) then
    nm ((S13.1 5) - (S13.1 5) / 2 * 2 : Int32) fun v14 =>
    loop (fX0_listTurns_b22 t v14) FUEL (0, S13)
  else
    some S13
set_option maxHeartbeats 4000000 in
set_option maxRecDepth 100000 in
theorem kX0_listTurns (l : Launch) (D : va_G) (cy : Nat → ClassId) (ad : Nat → Nat) (S : SC) (t : Nat) (r : SC) (hf : fX0_listTurns S t = some r) (ht_t : t < 4) : CG l D cy (wC cy ad) yX0_listTurns wsX0_listTurns ({ frames := 4, cells := 0, slots := 0, locals := 102 } : Room) [.ref (ad 1), .ref (ad (7 + 2 * t))] S none r := by
  refine CG.of (cc := cX0_listTurns) (maxL := 9) (ret := none) (by decide +kernel) rfl (Nat.le_of_ble_eq_true rfl) ?_
  intro p e s m below meth c A ls X hr T hl
  obtain ⟨hx, hb, hml, hown, hts, hlk, hK, hA, hwA⟩ := id X
  have hl : lv_has ls 9 [(0, .ref (ad 1)), (1, .ref (ad (7 + 2 * t)))] := hl
  have hin_X0 : ∀ w ∈ u_ws RX0 TX0 13, w ∈ wsX0_listTurns := by decide +kernel
  unfold fX0_listTurns at hf
  have l_22 : ∀ (y1 : Nat) (y2 : Int32) (n : Nat) (y3 : Int32) (S_22 : SC) (H : Heap) (locs : List Loc) (ls : Array Slot), loop (fX0_listTurns_b22 y1 y2) n (y3, S_22) = some r → ST D (wC cy ad) A s S_22 H locs → lv_has ls 9 [(0, .ref (ad 1)), (1, .ref (ad (7 + 2 * y1))), (2, .int y2), (3, .int y3)] → y1 < 4 → W p l e ({ frames := 4, cells := 0, slots := 0, locals := 102 } : Room) s m [.ref (ad 1), .ref (ad (7 + 2 * t))].toArray below meth c H locs 0 0 (MQ below (QG D (wC cy ad) A none r) [.ref (ad 1), .ref (ad (7 + 2 * t))].toArray s 0 0 A) (F0 m 22 ls []) := by
    intro y1 y2 n
    induction n with
    | zero => intro _ _ _ _ _ hf; cases hf
    | succ n ih_22 =>
      intro y3 S_22 H locs ls hf T hl ht_y1
      obtain ⟨z_22, hf, hin_22, hex_22⟩ := loop_inv hf
      unfold fX0_listTurns_b22 at hf
      dsimp only at hf
      have l_50 : ∀ (y3 : Int32) (y4 : Int32) (y5 : Int64) (n : Nat) (y7 : Int32) (S_50 : SC) (H : Heap) (locs : List Loc) (ls : Array Slot), loop (fX0_listTurns_b50 y1 y2 y3 y4 y5) n (y7, S_50) = some z_22 → ST D (wC cy ad) A s S_50 H locs → lv_has ls 9 [(0, .ref (ad 1)), (1, .ref (ad (7 + 2 * y1))), (2, .int y2), (3, .int y3), (4, .int y4), (5, .long y5), (7, .int y7)] → W p l e ({ frames := 4, cells := 0, slots := 0, locals := 102 } : Room) s m [.ref (ad 1), .ref (ad (7 + 2 * t))].toArray below meth c H locs 0 0 (MQ below (QG D (wC cy ad) A none r) [.ref (ad 1), .ref (ad (7 + 2 * t))].toArray s 0 0 A) (F0 m 50 ls []) := by
        intro y3 y4 y5 n
        induction n with
        | zero => intro _ _ _ _ _ hf; cases hf
        | succ n ih_50 =>
          intro y7 S_50 H locs ls hf T hl
          obtain ⟨z_50, hf, hin_50, hex_50⟩ := loop_inv hf
          unfold fX0_listTurns_b50 at hf
          dsimp only at hf
          have j_119 : ∀ (y7 : Int32) (S_119 : SC) (H : Heap) (locs : List Loc) (ls : Array Slot), fX0_listTurns_j119 y1 y2 y3 y4 y5 y7 S_119 = some z_50 → ST D (wC cy ad) A s S_119 H locs → lv_has ls 9 [(0, .ref (ad 1)), (1, .ref (ad (7 + 2 * y1))), (2, .int y2), (3, .int y3), (4, .int y4), (5, .long y5), (7, .int y7)] → W p l e ({ frames := 4, cells := 0, slots := 0, locals := 102 } : Room) s m [.ref (ad 1), .ref (ad (7 + 2 * t))].toArray below meth c H locs 0 0 (MQ below (QG D (wC cy ad) A none r) [.ref (ad 1), .ref (ad (7 + 2 * t))].toArray s 0 0 A) (F0 m 119 ls []) := by
            intro y7 S_119 H locs ls hf T hl
            unfold fX0_listTurns_j119 at hf
            obtain ⟨v1, e_v1, hf⟩ := nm_inv hf
            refine lv_iinc (v := v1) (lv' := [(7, .int v1), (0, .ref (ad 1)), (1, .ref (ad (7 + 2 * y1))), (2, .int y2), (3, .int y3), (4, .int y4), (5, .long y5)]) hx hb dX0_listTurns_119 hl (k := 6) rfl (by rw [e_v1]; rfl) (by decide) rfl (fun ls hl => ?_)
            refine lv_goto (tgt := 50) hx hb dX0_listTurns_122 (by decide) ?_
            exact ih_50 v1 S_119 _ _ _ (hin_50 _ (Option.some.inj hf).symm) T (lv_sub hl [1, 2, 3, 4, 5, 6, 0] rfl)
          have j_95 : ∀ (y7 : Int32) (y8 : Int32) (S_95 : SC) (H : Heap) (locs : List Loc) (ls : Array Slot), fX0_listTurns_j95 y1 y2 y3 y4 y5 y7 y8 S_95 = some z_50 → ST D (wC cy ad) A s S_95 H locs → lv_has ls 9 [(0, .ref (ad 1)), (1, .ref (ad (7 + 2 * y1))), (2, .int y2), (3, .int y3), (4, .int y4), (5, .long y5), (7, .int y7), (8, .int y8)] → W p l e ({ frames := 4, cells := 0, slots := 0, locals := 102 } : Room) s m [.ref (ad 1), .ref (ad (7 + 2 * t))].toArray below meth c H locs 0 0 (MQ below (QG D (wC cy ad) A none r) [.ref (ad 1), .ref (ad (7 + 2 * t))].toArray s 0 0 A) (F0 m 95 ls []) := by
            intro y7 y8 S_95 H locs ls hf T hl
            unfold fX0_listTurns_j95 at hf
            refine lv_lload hx hb dX0_listTurns_95 (lv_at hl 5 rfl) ?_
            refine lv_iload hx hb dX0_listTurns_97 (lv_at hl 6 rfl) ?_
            refine lv_bipush (v := 32) hx hb dX0_listTurns_99 (by decide) ?_
            refine lv_iadd hx hb dX0_listTurns_101 ?_
            refine lv_lshr hx hb dX0_listTurns_102 rfl ?_
            refine lv_lconst (v := 1) hx hb dX0_listTurns_103 (by decide) ?_
            refine lv_land hx hb dX0_listTurns_104 ?_
            refine lv_lconst (v := 0) hx hb dX0_listTurns_105 (by decide) ?_
            refine W.lcmp hx hb dX0_listTurns_106 ?_
            refine lv_if_eq (tgt := 119) hx hb dX0_listTurns_107 (by decide) (fun hc => ?_) (fun hc => ?_)
            · replace hf := ifp hc hf
              exact j_119 y7 S_95 _ _ _ hf T (lv_sub hl [0, 1, 2, 3, 4, 5, 6] rfl)
            · replace hf := ifn hc hf
              refine lv_aload_n hx hb dX0_listTurns_110 rfl (lv_at hl 1 rfl) ?_
              refine lv_iload hx hb dX0_listTurns_111 (lv_at hl 7 rfl) ?_
              refine lv_bipush (v := 99) hx hb dX0_listTurns_113 (by decide) ?_
              refine lv_iadd hx hb dX0_listTurns_115 ?_
              obtain ⟨S3, h2, hf⟩ := bnd_inv hf
              refine cg_V (q0 := (7 + 2 * y1)) (ci := 2) (As := [.int (y8 + 99)]) (rest := []) X T (kX2_add l D cy ad S_95 y1 (y8 + 99) S3 h2 ht_y1) (cwV 1 hts gX0_listTurns_X2_add rfl rfl rfl (by decide +kernel) ⟨Nat.le_of_ble_eq_true rfl, Nat.le_of_ble_eq_true rfl⟩) (wC_L cy ad S_95 ht_y1) rfl rfl hl.1 rfl (Nat.le_of_ble_eq_true rfl) dX0_listTurns_116 ⟨Nat.zero_le _, Nat.zero_le _⟩ (st2 := []) (pc2 := 119) rfl rfl (fun H locs T => ?_)
              exact j_119 y7 S3 _ _ _ hf T (lv_sub hl [0, 1, 2, 3, 4, 5, 6] rfl)
          refine lv_iload hx hb dX0_listTurns_50 (lv_at hl 6 rfl) ?_
          refine lv_aload_n hx hb dX0_listTurns_52 rfl (lv_at hl 0 rfl) ?_
          refine va_get (D := D) (ci := 0) (v := .int (S_50.1 0)) (C := RX0) (T := TX0) (N := 13) hx hb hts hin_X0 hown hK.1 T.1 1 rfl rfl 5 (by decide) (hts _ (List.mem_of_getElem? (i := 4) rfl)) (fun _ h9 => h9) rfl dX0_listTurns_53 ?_
          refine lv_icmp_ge (tgt := 125) hx hb dX0_listTurns_56 (by decide) (fun hc => ?_) (fun hc => ?_)
          · replace hf := ifp hc hf
            obtain ⟨r0, hf, hz⟩ := ex_inv hf
            rw [hex_50 r0 hz] at hf
            obtain ⟨v4, e_v4, hf⟩ := nm_inv hf
            refine lv_iinc (v := v4) (lv' := [(3, .int v4), (0, .ref (ad 1)), (1, .ref (ad (7 + 2 * y1))), (2, .int y2), (4, .int y4), (5, .long y5), (7, .int y7)]) hx hb dX0_listTurns_125 hl (k := 3) rfl (by rw [e_v4]; rfl) (by decide) rfl (fun ls hl => ?_)
            refine lv_goto (tgt := 22) hx hb dX0_listTurns_128 (by decide) ?_
            exact ih_22 v4 S_50 _ _ _ (hin_22 _ (Option.some.inj hf).symm) T (lv_sub hl [1, 2, 3, 0] rfl) ht_y1
          · replace hf := ifn hc hf
            refine lv_sipush (v := 10000) hx hb dX0_listTurns_59 (by decide) ?_
            refine lv_iload_n hx hb dX0_listTurns_62 rfl (lv_at hl 3 rfl) ?_
            refine lv_imul hx hb dX0_listTurns_63 ?_
            refine lv_bipush (v := 100) hx hb dX0_listTurns_64 (by decide) ?_
            refine lv_iload hx hb dX0_listTurns_66 (lv_at hl 6 rfl) ?_
            refine lv_imul hx hb dX0_listTurns_68 ?_
            refine lv_iadd hx hb dX0_listTurns_69 ?_
            obtain ⟨v5, e_v5, hf⟩ := nm_inv hf
            rw [← e_v5]
            refine lv_istore (lv' := [(8, .int v5), (0, .ref (ad 1)), (1, .ref (ad (7 + 2 * y1))), (2, .int y2), (3, .int y3), (4, .int y4), (5, .long y5), (7, .int y7)]) hx hb dX0_listTurns_70 hl (by decide) rfl (fun ls hl => ?_)
            refine lv_lload hx hb dX0_listTurns_72 (lv_at hl 6 rfl) ?_
            refine lv_iload hx hb dX0_listTurns_74 (lv_at hl 7 rfl) ?_
            refine lv_lshr hx hb dX0_listTurns_76 rfl ?_
            refine lv_lconst (v := 1) hx hb dX0_listTurns_77 (by decide) ?_
            refine lv_land hx hb dX0_listTurns_78 ?_
            refine lv_lconst (v := 0) hx hb dX0_listTurns_79 (by decide) ?_
            refine W.lcmp hx hb dX0_listTurns_80 ?_
            refine lv_if_eq (tgt := 95) hx hb dX0_listTurns_81 (by decide) (fun hc => ?_) (fun hc => ?_)
            · replace hf := ifp hc hf
              exact j_95 y7 v5 S_50 _ _ _ hf T (lv_sub hl [1, 2, 3, 4, 5, 6, 7, 0] rfl)
            · replace hf := ifn hc hf
              refine lv_aload_n hx hb dX0_listTurns_84 rfl (lv_at hl 1 rfl) ?_
              refine lv_aload_n hx hb dX0_listTurns_85 rfl (lv_at hl 2 rfl) ?_
              refine lv_iload hx hb dX0_listTurns_86 (lv_at hl 0 rfl) ?_
              refine lv_iload hx hb dX0_listTurns_88 (lv_at hl 5 rfl) ?_
              refine lv_iload hx hb dX0_listTurns_90 (lv_at hl 7 rfl) ?_
              obtain ⟨S7, h6, hf⟩ := bnd_inv hf
              refine cg_V (q0 := 1) (ci := 0) (As := [.ref (ad (7 + 2 * y1)), .int v5, .int y4, .int y7]) (rest := []) X T (kX0_listBuildings l D cy ad S_50 y1 v5 y4 y7 S7 h6 ht_y1) (cwV 4 hts gX0_listTurns_X0_listBuildings rfl rfl rfl (by decide +kernel) ⟨Nat.le_of_ble_eq_true rfl, Nat.le_of_ble_eq_true rfl⟩) rfl rfl rfl hl.1 rfl (Nat.le_of_ble_eq_true rfl) dX0_listTurns_92 ⟨Nat.zero_le _, Nat.zero_le _⟩ (st2 := []) (pc2 := 95) rfl rfl (fun H locs T => ?_)
              exact j_95 y7 v5 S7 _ _ _ hf T (lv_sub hl [1, 2, 3, 4, 5, 6, 7, 0] rfl)
      refine lv_iload_n hx hb dX0_listTurns_22 rfl (lv_at hl 3 rfl) ?_
      refine lv_aload_n hx hb dX0_listTurns_23 rfl (lv_at hl 0 rfl) ?_
      refine va_get (D := D) (ci := 0) (v := .int (S_22.1 1)) (C := RX0) (T := TX0) (N := 13) hx hb hts hin_X0 hown hK.1 T.1 1 rfl rfl 6 (by decide) (hts _ (List.mem_of_getElem? (i := 3) rfl)) (fun _ h9 => h9) rfl dX0_listTurns_24 ?_
      refine lv_icmp_ge (tgt := 131) hx hb dX0_listTurns_27 (by decide) (fun hc => ?_) (fun hc => ?_)
      · replace hf := ifp hc hf
        obtain ⟨r0, hf, hz⟩ := ex_inv hf
        rw [hex_22 r0 hz] at hf
        obtain rfl := Option.some.inj hf
        exact rt_v X T hr dX0_listTurns_131
      · replace hf := ifn hc hf
        refine lv_aload_n hx hb dX0_listTurns_30 rfl (lv_at hl 0 rfl) ?_
        refine lv_iload_n hx hb dX0_listTurns_31 rfl (lv_at hl 2 rfl) ?_
        refine lv_iload_n hx hb dX0_listTurns_32 rfl (lv_at hl 3 rfl) ?_
        obtain ⟨v9, h8, hf⟩ := bnd_inv hf
        refine cg_V (q0 := 1) (ci := 0) (As := [.int y2, .int y3]) (rest := []) X T (kX0_spotOf l D cy ad S_22 y2 y3 v9 h8) (cwV 2 hts gX0_listTurns_X0_spotOf rfl rfl rfl (by decide +kernel) ⟨Nat.le_of_ble_eq_true rfl, Nat.le_of_ble_eq_true rfl⟩) rfl rfl rfl hl.1 rfl (Nat.le_of_ble_eq_true rfl) dX0_listTurns_33 ⟨Nat.zero_le _, Nat.zero_le _⟩ (st2 := [.int v9]) (pc2 := 36) rfl rfl (fun H locs T => ?_)
        refine lv_istore (lv' := [(4, .int v9), (0, .ref (ad 1)), (1, .ref (ad (7 + 2 * y1))), (2, .int y2), (3, .int y3)]) hx hb dX0_listTurns_36 hl (by decide) rfl (fun ls hl => ?_)
        refine lv_aload_n hx hb dX0_listTurns_38 rfl (lv_at hl 1 rfl) ?_
        refine lv_iload_n hx hb dX0_listTurns_39 rfl (lv_at hl 3 rfl) ?_
        refine lv_iload hx hb dX0_listTurns_40 (lv_at hl 0 rfl) ?_
        obtain ⟨v11, h10, hf⟩ := bnd_inv hf
        refine cg_V (q0 := 1) (ci := 0) (As := [.int y2, .int v9]) (rest := []) X T (kX0_reachOf l D cy ad S_22 y2 v9 v11 h10) (cwV 2 hts gX0_listTurns_X0_reachOf rfl rfl rfl (by decide +kernel) ⟨Nat.le_of_ble_eq_true rfl, Nat.le_of_ble_eq_true rfl⟩) rfl rfl rfl hl.1 rfl (Nat.le_of_ble_eq_true rfl) dX0_listTurns_42 ⟨Nat.zero_le _, Nat.zero_le _⟩ (st2 := [.long v11]) (pc2 := 45) rfl rfl (fun H locs T => ?_)
        refine lv_lstore (lv' := [(5, .long v11), (4, .int v9), (0, .ref (ad 1)), (1, .ref (ad (7 + 2 * y1))), (2, .int y2), (3, .int y3)]) hx hb dX0_listTurns_45 hl (by decide) rfl (fun ls hl => ?_)
        refine lv_iconst (v := 0) hx hb dX0_listTurns_47 (by decide) ?_
        refine lv_istore (lv' := [(7, .int 0), (5, .long v11), (4, .int v9), (0, .ref (ad 1)), (1, .ref (ad (7 + 2 * y1))), (2, .int y2), (3, .int y3)]) hx hb dX0_listTurns_48 hl (by decide) rfl (fun ls hl => ?_)
        exact l_50 y3 v9 v11 FUEL 0 S_22 _ _ _ hf T (lv_sub hl [3, 4, 5, 6, 2, 1, 0] rfl)
  refine lv_aload_n hx hb dX0_listTurns_0 rfl (lv_at hl 1 rfl) ?_
  obtain ⟨S13, h12, hf⟩ := bnd_inv hf
  refine cg_V (q0 := (7 + 2 * t)) (ci := 2) (As := []) (rest := []) X T (kX2_clear l D cy ad S t S13 h12 ht_t) (cwV 0 hts gX0_listTurns_X2_clear rfl rfl rfl (by decide +kernel) ⟨Nat.le_of_ble_eq_true rfl, Nat.le_of_ble_eq_true rfl⟩) (wC_L cy ad S ht_t) rfl rfl hl.1 rfl (Nat.le_of_ble_eq_true rfl) dX0_listTurns_1 ⟨Nat.zero_le _, Nat.zero_le _⟩ (st2 := []) (pc2 := 4) rfl rfl (fun H locs T => ?_)
  refine lv_aload_n hx hb dX0_listTurns_4 rfl (lv_at hl 0 rfl) ?_
  refine va_get (D := D) (ci := 0) (v := .int (S13.1 6)) (C := RX0) (T := TX0) (N := 13) hx hb hts hin_X0 hown hK.1 T.1 1 rfl rfl 11 (by decide) (hts _ (List.mem_of_getElem? (i := 1) rfl)) (fun _ h9 => h9) rfl dX0_listTurns_5 ?_
  refine lv_iconst (v := (-1)) hx hb dX0_listTurns_8 (by decide) ?_
  refine lv_icmp_eq (tgt := 13) hx hb dX0_listTurns_9 (by decide) (fun hc => ?_) (fun hc => ?_)
  · replace hf := ifp hc hf
    refine lv_aload_n hx hb dX0_listTurns_13 rfl (lv_at hl 0 rfl) ?_
    refine va_get (D := D) (ci := 0) (v := .int (S13.1 5)) (C := RX0) (T := TX0) (N := 13) hx hb hts hin_X0 hown hK.1 T.1 1 rfl rfl 10 (by decide) (hts _ (List.mem_of_getElem? (i := 2) rfl)) (fun _ h9 => h9) rfl dX0_listTurns_14 ?_
    refine lv_iconst (v := 2) hx hb dX0_listTurns_17 (by decide) ?_
    refine lv_irem hx hb dX0_listTurns_18 (by decide) ?_
    obtain ⟨v14, e_v14, hf⟩ := nm_inv hf
    rw [← e_v14]
    refine lv_istore_n (lv' := [(2, .int v14), (0, .ref (ad 1)), (1, .ref (ad (7 + 2 * t)))]) hx hb dX0_listTurns_19 rfl hl (by decide) rfl (fun ls hl => ?_)
    refine lv_iconst (v := 0) hx hb dX0_listTurns_20 (by decide) ?_
    refine lv_istore_n (lv' := [(3, .int 0), (2, .int v14), (0, .ref (ad 1)), (1, .ref (ad (7 + 2 * t)))]) hx hb dX0_listTurns_21 rfl hl (by decide) rfl (fun ls hl => ?_)
    exact l_22 t v14 FUEL 0 S13 _ _ _ hf T (lv_sub hl [2, 3, 1, 0] rfl) ht_t
  · replace hf := ifn hc hf
    obtain rfl := Option.some.inj hf
    exact rt_v X T hr dX0_listTurns_12
end
