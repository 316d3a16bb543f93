section
-- ===== PART A: goes FIRST, ahead of the names: the tables' words, and 'selects' of the private methods out of them =====
/-- a private method of a class that the tables say can be made, by its rows of tables_1 -/
def lw_okq (q : MethodName × Nat) : Prop := (q.1.cls ≠ "java/lang/invoke/MethodHandle" ∧ q.1.cls ≠ "java/lang/invoke/VarHandle") ∧ Cond.instantiable q.1.cls q.2 ∈ tables_1 ∧ Cond.privateMethod q.1 ∈ tables_1 ∧ Cond.instanceMethod q.1 ∈ tables_1
theorem lw_p0 : lw_okq (⟨"WarmHouses", "trial", "()LWarmHouses$Village;"⟩, 4) := ⟨⟨by decide +kernel, by decide +kernel⟩, List.mem_of_getElem? (i := 9) (by decide +kernel), List.mem_of_getElem? (i := 115) (by decide +kernel), List.mem_of_getElem? (i := 116) (by decide +kernel)⟩
theorem lw_p1 : lw_okq (⟨"WarmHouses", "now", "()LWarmHouses$Village;"⟩, 4) := ⟨⟨by decide +kernel, by decide +kernel⟩, List.mem_of_getElem? (i := 9) (by decide +kernel), List.mem_of_getElem? (i := 119) (by decide +kernel), List.mem_of_getElem? (i := 120) (by decide +kernel)⟩
theorem lw_p2 : lw_okq (⟨"WarmHouses$Village", "roomOf", "(I)I"⟩, 11) := ⟨⟨by decide +kernel, by decide +kernel⟩, List.mem_of_getElem? (i := 47) (by decide +kernel), List.mem_of_getElem? (i := 134) (by decide +kernel), List.mem_of_getElem? (i := 135) (by decide +kernel)⟩
theorem lw_p3 : lw_okq (⟨"WarmHouses$Village", "emptySpotIn", "(I)I"⟩, 11) := ⟨⟨by decide +kernel, by decide +kernel⟩, List.mem_of_getElem? (i := 47) (by decide +kernel), List.mem_of_getElem? (i := 138) (by decide +kernel), List.mem_of_getElem? (i := 139) (by decide +kernel)⟩
theorem lw_p4 : lw_okq (⟨"WarmHouses$Village", "moveIn", "(III)V"⟩, 11) := ⟨⟨by decide +kernel, by decide +kernel⟩, List.mem_of_getElem? (i := 47) (by decide +kernel), List.mem_of_getElem? (i := 144) (by decide +kernel), List.mem_of_getElem? (i := 145) (by decide +kernel)⟩
theorem lw_p5 : lw_okq (⟨"WarmHouses", "keep", "(I)I"⟩, 4) := ⟨⟨by decide +kernel, by decide +kernel⟩, List.mem_of_getElem? (i := 9) (by decide +kernel), List.mem_of_getElem? (i := 148) (by decide +kernel), List.mem_of_getElem? (i := 149) (by decide +kernel)⟩
theorem lw_p6 : lw_okq (⟨"WarmHouses$Village", "agesSet", "(II)I"⟩, 11) := ⟨⟨by decide +kernel, by decide +kernel⟩, List.mem_of_getElem? (i := 47) (by decide +kernel), List.mem_of_getElem? (i := 259) (by decide +kernel), List.mem_of_getElem? (i := 260) (by decide +kernel)⟩
theorem lw_p7 : lw_okq (⟨"WarmHouses$Village", "warmHousesWith", "(I)V"⟩, 11) := ⟨⟨by decide +kernel, by decide +kernel⟩, List.mem_of_getElem? (i := 47) (by decide +kernel), List.mem_of_getElem? (i := 283) (by decide +kernel), List.mem_of_getElem? (i := 284) (by decide +kernel)⟩
theorem lw_p8 : lw_okq (⟨"WarmHouses$Village", "moveToRoom", "(II)Z"⟩, 11) := ⟨⟨by decide +kernel, by decide +kernel⟩, List.mem_of_getElem? (i := 47) (by decide +kernel), List.mem_of_getElem? (i := 291) (by decide +kernel), List.mem_of_getElem? (i := 292) (by decide +kernel)⟩
theorem lw_p9 : lw_okq (⟨"WarmHouses$Village", "moveOut", "(I)V"⟩, 11) := ⟨⟨by decide +kernel, by decide +kernel⟩, List.mem_of_getElem? (i := 47) (by decide +kernel), List.mem_of_getElem? (i := 295) (by decide +kernel), List.mem_of_getElem? (i := 296) (by decide +kernel)⟩
theorem lw_p10 : lw_okq (⟨"WarmHouses$Village", "remove", "(I)V"⟩, 11) := ⟨⟨by decide +kernel, by decide +kernel⟩, List.mem_of_getElem? (i := 47) (by decide +kernel), List.mem_of_getElem? (i := 299) (by decide +kernel), List.mem_of_getElem? (i := 300) (by decide +kernel)⟩
theorem lw_p11 : lw_okq (⟨"WarmHouses$Village", "freeEmptyHouses", "()V"⟩, 11) := ⟨⟨by decide +kernel, by decide +kernel⟩, List.mem_of_getElem? (i := 47) (by decide +kernel), List.mem_of_getElem? (i := 303) (by decide +kernel), List.mem_of_getElem? (i := 304) (by decide +kernel)⟩
theorem lw_p12 : lw_okq (⟨"WarmHouses$Orders", "peek", "()I"⟩, 6) := ⟨⟨by decide +kernel, by decide +kernel⟩, List.mem_of_getElem? (i := 19) (by decide +kernel), List.mem_of_getElem? (i := 426) (by decide +kernel), List.mem_of_getElem? (i := 427) (by decide +kernel)⟩
theorem lw_p13 : lw_okq (⟨"WarmHouses$Orders", "readOrder", "(I)Z"⟩, 6) := ⟨⟨by decide +kernel, by decide +kernel⟩, List.mem_of_getElem? (i := 19) (by decide +kernel), List.mem_of_getElem? (i := 430) (by decide +kernel), List.mem_of_getElem? (i := 431) (by decide +kernel)⟩
theorem lw_p14 : lw_okq (⟨"WarmHouses$Orders", "skip", "(I)Z"⟩, 6) := ⟨⟨by decide +kernel, by decide +kernel⟩, List.mem_of_getElem? (i := 19) (by decide +kernel), List.mem_of_getElem? (i := 437) (by decide +kernel), List.mem_of_getElem? (i := 438) (by decide +kernel)⟩
theorem lw_p15 : lw_okq (⟨"WarmHouses$Orders", "readNumber", "()I"⟩, 6) := ⟨⟨by decide +kernel, by decide +kernel⟩, List.mem_of_getElem? (i := 19) (by decide +kernel), List.mem_of_getElem? (i := 441) (by decide +kernel), List.mem_of_getElem? (i := 442) (by decide +kernel)⟩
def lw_privs_1 : List (MethodName × Nat) := [(⟨"WarmHouses", "trial", "()LWarmHouses$Village;"⟩, 4), (⟨"WarmHouses", "now", "()LWarmHouses$Village;"⟩, 4), (⟨"WarmHouses$Village", "roomOf", "(I)I"⟩, 11), (⟨"WarmHouses$Village", "emptySpotIn", "(I)I"⟩, 11), (⟨"WarmHouses$Village", "moveIn", "(III)V"⟩, 11), (⟨"WarmHouses", "keep", "(I)I"⟩, 4), (⟨"WarmHouses$Village", "agesSet", "(II)I"⟩, 11), (⟨"WarmHouses$Village", "warmHousesWith", "(I)V"⟩, 11), (⟨"WarmHouses$Village", "moveToRoom", "(II)Z"⟩, 11), (⟨"WarmHouses$Village", "moveOut", "(I)V"⟩, 11), (⟨"WarmHouses$Village", "remove", "(I)V"⟩, 11), (⟨"WarmHouses$Village", "freeEmptyHouses", "()V"⟩, 11), (⟨"WarmHouses$Orders", "peek", "()I"⟩, 6), (⟨"WarmHouses$Orders", "readOrder", "(I)Z"⟩, 6), (⟨"WarmHouses$Orders", "skip", "(I)Z"⟩, 6), (⟨"WarmHouses$Orders", "readNumber", "()I"⟩, 6)]
theorem lw_r1 : ∀ q ∈ lw_privs_1, lw_okq q := List.forall_mem_cons.mpr ⟨lw_p0, List.forall_mem_cons.mpr ⟨lw_p1, List.forall_mem_cons.mpr ⟨lw_p2, List.forall_mem_cons.mpr ⟨lw_p3, List.forall_mem_cons.mpr ⟨lw_p4, List.forall_mem_cons.mpr ⟨lw_p5, List.forall_mem_cons.mpr ⟨lw_p6, List.forall_mem_cons.mpr ⟨lw_p7, List.forall_mem_cons.mpr ⟨lw_p8, List.forall_mem_cons.mpr ⟨lw_p9, List.forall_mem_cons.mpr ⟨lw_p10, List.forall_mem_cons.mpr ⟨lw_p11, List.forall_mem_cons.mpr ⟨lw_p12, List.forall_mem_cons.mpr ⟨lw_p13, List.forall_mem_cons.mpr ⟨lw_p14, List.forall_mem_cons.mpr ⟨lw_p15, fun _ h => absurd h List.not_mem_nil⟩⟩⟩⟩⟩⟩⟩⟩⟩⟩⟩⟩⟩⟩⟩⟩
theorem lw_p16 : lw_okq (⟨"WarmHouses$Orders", "carryOut", "(LWarmHouses$Village;I)I"⟩, 6) := ⟨⟨by decide +kernel, by decide +kernel⟩, List.mem_of_getElem? (i := 19) (by decide +kernel), List.mem_of_getElem? (i := 448) (by decide +kernel), List.mem_of_getElem? (i := 449) (by decide +kernel)⟩
theorem lw_p17 : lw_okq (⟨"WarmHousesModel", "copy", "(II)V"⟩, 12) := ⟨⟨by decide +kernel, by decide +kernel⟩, List.mem_of_getElem? (i := 468) (by decide +kernel), List.mem_of_getElem? (i := 516) (by decide +kernel), List.mem_of_getElem? (i := 517) (by decide +kernel)⟩
theorem lw_p18 : lw_okq (⟨"WarmHousesModel", "noThing", "()I"⟩, 12) := ⟨⟨by decide +kernel, by decide +kernel⟩, List.mem_of_getElem? (i := 468) (by decide +kernel), List.mem_of_getElem? (i := 524) (by decide +kernel), List.mem_of_getElem? (i := 525) (by decide +kernel)⟩
theorem lw_p19 : lw_okq (⟨"WarmHousesModel", "room", "(I)I"⟩, 12) := ⟨⟨by decide +kernel, by decide +kernel⟩, List.mem_of_getElem? (i := 468) (by decide +kernel), List.mem_of_getElem? (i := 528) (by decide +kernel), List.mem_of_getElem? (i := 529) (by decide +kernel)⟩
theorem lw_p20 : lw_okq (⟨"WarmHousesModel", "emptyIn", "(I)I"⟩, 12) := ⟨⟨by decide +kernel, by decide +kernel⟩, List.mem_of_getElem? (i := 468) (by decide +kernel), List.mem_of_getElem? (i := 532) (by decide +kernel), List.mem_of_getElem? (i := 533) (by decide +kernel)⟩
theorem lw_p21 : lw_okq (⟨"WarmHousesModel", "thingAt", "(I)I"⟩, 12) := ⟨⟨by decide +kernel, by decide +kernel⟩, List.mem_of_getElem? (i := 468) (by decide +kernel), List.mem_of_getElem? (i := 536) (by decide +kernel), List.mem_of_getElem? (i := 537) (by decide +kernel)⟩
theorem lw_p22 : lw_okq (⟨"WarmHousesModel", "record", "(I)V"⟩, 12) := ⟨⟨by decide +kernel, by decide +kernel⟩, List.mem_of_getElem? (i := 468) (by decide +kernel), List.mem_of_getElem? (i := 545) (by decide +kernel), List.mem_of_getElem? (i := 546) (by decide +kernel)⟩
theorem lw_p23 : lw_okq (⟨"WarmHousesModel", "doThing", "()I"⟩, 12) := ⟨⟨by decide +kernel, by decide +kernel⟩, List.mem_of_getElem? (i := 468) (by decide +kernel), List.mem_of_getElem? (i := 549) (by decide +kernel), List.mem_of_getElem? (i := 550) (by decide +kernel)⟩
theorem lw_p24 : lw_okq (⟨"WarmHousesModel", "noHold", "(II)I"⟩, 12) := ⟨⟨by decide +kernel, by decide +kernel⟩, List.mem_of_getElem? (i := 468) (by decide +kernel), List.mem_of_getElem? (i := 557) (by decide +kernel), List.mem_of_getElem? (i := 558) (by decide +kernel)⟩
theorem lw_p25 : lw_okq (⟨"WarmHousesModel", "isThing", "(I)Z"⟩, 12) := ⟨⟨by decide +kernel, by decide +kernel⟩, List.mem_of_getElem? (i := 468) (by decide +kernel), List.mem_of_getElem? (i := 567) (by decide +kernel), List.mem_of_getElem? (i := 568) (by decide +kernel)⟩
theorem lw_p26 : lw_okq (⟨"WarmHousesModel", "doHold", "(II)I"⟩, 12) := ⟨⟨by decide +kernel, by decide +kernel⟩, List.mem_of_getElem? (i := 468) (by decide +kernel), List.mem_of_getElem? (i := 572) (by decide +kernel), List.mem_of_getElem? (i := 573) (by decide +kernel)⟩
theorem lw_p27 : lw_okq (⟨"WarmHousesModel", "noRelease", "(I)I"⟩, 12) := ⟨⟨by decide +kernel, by decide +kernel⟩, List.mem_of_getElem? (i := 468) (by decide +kernel), List.mem_of_getElem? (i := 580) (by decide +kernel), List.mem_of_getElem? (i := 581) (by decide +kernel)⟩
theorem lw_p28 : lw_okq (⟨"WarmHousesModel", "doRelease", "(I)I"⟩, 12) := ⟨⟨by decide +kernel, by decide +kernel⟩, List.mem_of_getElem? (i := 468) (by decide +kernel), List.mem_of_getElem? (i := 584) (by decide +kernel), List.mem_of_getElem? (i := 585) (by decide +kernel)⟩
theorem lw_p29 : lw_okq (⟨"WarmHousesModel", "noTie", "(III)I"⟩, 12) := ⟨⟨by decide +kernel, by decide +kernel⟩, List.mem_of_getElem? (i := 468) (by decide +kernel), List.mem_of_getElem? (i := 592) (by decide +kernel), List.mem_of_getElem? (i := 593) (by decide +kernel)⟩
theorem lw_p30 : lw_okq (⟨"WarmHousesModel", "doTie", "(III)I"⟩, 12) := ⟨⟨by decide +kernel, by decide +kernel⟩, List.mem_of_getElem? (i := 468) (by decide +kernel), List.mem_of_getElem? (i := 599) (by decide +kernel), List.mem_of_getElem? (i := 600) (by decide +kernel)⟩
theorem lw_p31 : lw_okq (⟨"WarmHousesModel", "ageOf", "(I)I"⟩, 12) := ⟨⟨by decide +kernel, by decide +kernel⟩, List.mem_of_getElem? (i := 468) (by decide +kernel), List.mem_of_getElem? (i := 603) (by decide +kernel), List.mem_of_getElem? (i := 604) (by decide +kernel)⟩
def lw_privs_2 : List (MethodName × Nat) := [(⟨"WarmHouses$Orders", "carryOut", "(LWarmHouses$Village;I)I"⟩, 6), (⟨"WarmHousesModel", "copy", "(II)V"⟩, 12), (⟨"WarmHousesModel", "noThing", "()I"⟩, 12), (⟨"WarmHousesModel", "room", "(I)I"⟩, 12), (⟨"WarmHousesModel", "emptyIn", "(I)I"⟩, 12), (⟨"WarmHousesModel", "thingAt", "(I)I"⟩, 12), (⟨"WarmHousesModel", "record", "(I)V"⟩, 12), (⟨"WarmHousesModel", "doThing", "()I"⟩, 12), (⟨"WarmHousesModel", "noHold", "(II)I"⟩, 12), (⟨"WarmHousesModel", "isThing", "(I)Z"⟩, 12), (⟨"WarmHousesModel", "doHold", "(II)I"⟩, 12), (⟨"WarmHousesModel", "noRelease", "(I)I"⟩, 12), (⟨"WarmHousesModel", "doRelease", "(I)I"⟩, 12), (⟨"WarmHousesModel", "noTie", "(III)I"⟩, 12), (⟨"WarmHousesModel", "doTie", "(III)I"⟩, 12), (⟨"WarmHousesModel", "ageOf", "(I)I"⟩, 12)]
theorem lw_r2 : ∀ q ∈ lw_privs_2, lw_okq q := List.forall_mem_cons.mpr ⟨lw_p16, List.forall_mem_cons.mpr ⟨lw_p17, List.forall_mem_cons.mpr ⟨lw_p18, List.forall_mem_cons.mpr ⟨lw_p19, List.forall_mem_cons.mpr ⟨lw_p20, List.forall_mem_cons.mpr ⟨lw_p21, List.forall_mem_cons.mpr ⟨lw_p22, List.forall_mem_cons.mpr ⟨lw_p23, List.forall_mem_cons.mpr ⟨lw_p24, List.forall_mem_cons.mpr ⟨lw_p25, List.forall_mem_cons.mpr ⟨lw_p26, List.forall_mem_cons.mpr ⟨lw_p27, List.forall_mem_cons.mpr ⟨lw_p28, List.forall_mem_cons.mpr ⟨lw_p29, List.forall_mem_cons.mpr ⟨lw_p30, List.forall_mem_cons.mpr ⟨lw_p31, fun _ h => absurd h List.not_mem_nil⟩⟩⟩⟩⟩⟩⟩⟩⟩⟩⟩⟩⟩⟩⟩⟩
theorem lw_p32 : lw_okq (⟨"WarmHousesModel", "homeOf", "(I)I"⟩, 12) := ⟨⟨by decide +kernel, by decide +kernel⟩, List.mem_of_getElem? (i := 468) (by decide +kernel), List.mem_of_getElem? (i := 607) (by decide +kernel), List.mem_of_getElem? (i := 608) (by decide +kernel)⟩
theorem lw_p33 : lw_okq (⟨"WarmHousesModel", "noLoosen", "(II)I"⟩, 12) := ⟨⟨by decide +kernel, by decide +kernel⟩, List.mem_of_getElem? (i := 468) (by decide +kernel), List.mem_of_getElem? (i := 615) (by decide +kernel), List.mem_of_getElem? (i := 616) (by decide +kernel)⟩
theorem lw_p34 : lw_okq (⟨"WarmHousesModel", "doLoosen", "(II)I"⟩, 12) := ⟨⟨by decide +kernel, by decide +kernel⟩, List.mem_of_getElem? (i := 468) (by decide +kernel), List.mem_of_getElem? (i := 619) (by decide +kernel), List.mem_of_getElem? (i := 620) (by decide +kernel)⟩
theorem lw_p35 : lw_okq (⟨"WarmHousesModel", "noPin", "(II)I"⟩, 12) := ⟨⟨by decide +kernel, by decide +kernel⟩, List.mem_of_getElem? (i := 468) (by decide +kernel), List.mem_of_getElem? (i := 627) (by decide +kernel), List.mem_of_getElem? (i := 628) (by decide +kernel)⟩
theorem lw_p36 : lw_okq (⟨"WarmHousesModel", "doPin", "(II)I"⟩, 12) := ⟨⟨by decide +kernel, by decide +kernel⟩, List.mem_of_getElem? (i := 468) (by decide +kernel), List.mem_of_getElem? (i := 631) (by decide +kernel), List.mem_of_getElem? (i := 632) (by decide +kernel)⟩
theorem lw_p37 : lw_okq (⟨"WarmHousesModel", "pinned", "()I"⟩, 12) := ⟨⟨by decide +kernel, by decide +kernel⟩, List.mem_of_getElem? (i := 468) (by decide +kernel), List.mem_of_getElem? (i := 635) (by decide +kernel), List.mem_of_getElem? (i := 636) (by decide +kernel)⟩
theorem lw_p38 : lw_okq (⟨"WarmHousesModel", "noWinter", "(I)I"⟩, 12) := ⟨⟨by decide +kernel, by decide +kernel⟩, List.mem_of_getElem? (i := 468) (by decide +kernel), List.mem_of_getElem? (i := 650) (by decide +kernel), List.mem_of_getElem? (i := 651) (by decide +kernel)⟩
theorem lw_p39 : lw_okq (⟨"WarmHousesModel", "canCome", "(I)Z"⟩, 12) := ⟨⟨by decide +kernel, by decide +kernel⟩, List.mem_of_getElem? (i := 468) (by decide +kernel), List.mem_of_getElem? (i := 657) (by decide +kernel), List.mem_of_getElem? (i := 658) (by decide +kernel)⟩
theorem lw_p40 : lw_okq (⟨"WarmHousesModel", "comes", "(I)Z"⟩, 12) := ⟨⟨by decide +kernel, by decide +kernel⟩, List.mem_of_getElem? (i := 468) (by decide +kernel), List.mem_of_getElem? (i := 661) (by decide +kernel), List.mem_of_getElem? (i := 662) (by decide +kernel)⟩
theorem lw_p41 : lw_okq (⟨"WarmHousesModel", "survivorsOf", "(I)I"⟩, 12) := ⟨⟨by decide +kernel, by decide +kernel⟩, List.mem_of_getElem? (i := 468) (by decide +kernel), List.mem_of_getElem? (i := 665) (by decide +kernel), List.mem_of_getElem? (i := 666) (by decide +kernel)⟩
theorem lw_p42 : lw_okq (⟨"WarmHousesModel", "living", "(I)I"⟩, 12) := ⟨⟨by decide +kernel, by decide +kernel⟩, List.mem_of_getElem? (i := 468) (by decide +kernel), List.mem_of_getElem? (i := 669) (by decide +kernel), List.mem_of_getElem? (i := 670) (by decide +kernel)⟩
theorem lw_p43 : lw_okq (⟨"WarmHousesModel", "roots", "()I"⟩, 12) := ⟨⟨by decide +kernel, by decide +kernel⟩, List.mem_of_getElem? (i := 468) (by decide +kernel), List.mem_of_getElem? (i := 673) (by decide +kernel), List.mem_of_getElem? (i := 674) (by decide +kernel)⟩
theorem lw_p44 : lw_okq (⟨"WarmHousesModel", "held", "()I"⟩, 12) := ⟨⟨by decide +kernel, by decide +kernel⟩, List.mem_of_getElem? (i := 468) (by decide +kernel), List.mem_of_getElem? (i := 677) (by decide +kernel), List.mem_of_getElem? (i := 678) (by decide +kernel)⟩
theorem lw_p45 : lw_okq (⟨"WarmHousesModel", "all", "()I"⟩, 12) := ⟨⟨by decide +kernel, by decide +kernel⟩, List.mem_of_getElem? (i := 468) (by decide +kernel), List.mem_of_getElem? (i := 681) (by decide +kernel), List.mem_of_getElem? (i := 682) (by decide +kernel)⟩
theorem lw_p46 : lw_okq (⟨"WarmHousesModel", "tiedTo", "(I)I"⟩, 12) := ⟨⟨by decide +kernel, by decide +kernel⟩, List.mem_of_getElem? (i := 468) (by decide +kernel), List.mem_of_getElem? (i := 685) (by decide +kernel), List.mem_of_getElem? (i := 686) (by decide +kernel)⟩
theorem lw_p47 : lw_okq (⟨"WarmHousesModel", "reached", "(II)I"⟩, 12) := ⟨⟨by decide +kernel, by decide +kernel⟩, List.mem_of_getElem? (i := 468) (by decide +kernel), List.mem_of_getElem? (i := 692) (by decide +kernel), List.mem_of_getElem? (i := 693) (by decide +kernel)⟩
def lw_privs_3 : List (MethodName × Nat) := [(⟨"WarmHousesModel", "homeOf", "(I)I"⟩, 12), (⟨"WarmHousesModel", "noLoosen", "(II)I"⟩, 12), (⟨"WarmHousesModel", "doLoosen", "(II)I"⟩, 12), (⟨"WarmHousesModel", "noPin", "(II)I"⟩, 12), (⟨"WarmHousesModel", "doPin", "(II)I"⟩, 12), (⟨"WarmHousesModel", "pinned", "()I"⟩, 12), (⟨"WarmHousesModel", "noWinter", "(I)I"⟩, 12), (⟨"WarmHousesModel", "canCome", "(I)Z"⟩, 12), (⟨"WarmHousesModel", "comes", "(I)Z"⟩, 12), (⟨"WarmHousesModel", "survivorsOf", "(I)I"⟩, 12), (⟨"WarmHousesModel", "living", "(I)I"⟩, 12), (⟨"WarmHousesModel", "roots", "()I"⟩, 12), (⟨"WarmHousesModel", "held", "()I"⟩, 12), (⟨"WarmHousesModel", "all", "()I"⟩, 12), (⟨"WarmHousesModel", "tiedTo", "(I)I"⟩, 12), (⟨"WarmHousesModel", "reached", "(II)I"⟩, 12)]
theorem lw_r3 : ∀ q ∈ lw_privs_3, lw_okq q := List.forall_mem_cons.mpr ⟨lw_p32, List.forall_mem_cons.mpr ⟨lw_p33, List.forall_mem_cons.mpr ⟨lw_p34, List.forall_mem_cons.mpr ⟨lw_p35, List.forall_mem_cons.mpr ⟨lw_p36, List.forall_mem_cons.mpr ⟨lw_p37, List.forall_mem_cons.mpr ⟨lw_p38, List.forall_mem_cons.mpr ⟨lw_p39, List.forall_mem_cons.mpr ⟨lw_p40, List.forall_mem_cons.mpr ⟨lw_p41, List.forall_mem_cons.mpr ⟨lw_p42, List.forall_mem_cons.mpr ⟨lw_p43, List.forall_mem_cons.mpr ⟨lw_p44, List.forall_mem_cons.mpr ⟨lw_p45, List.forall_mem_cons.mpr ⟨lw_p46, List.forall_mem_cons.mpr ⟨lw_p47, fun _ h => absurd h List.not_mem_nil⟩⟩⟩⟩⟩⟩⟩⟩⟩⟩⟩⟩⟩⟩⟩⟩
theorem lw_p48 : lw_okq (⟨"WarmHousesModel", "lose", "(I)V"⟩, 12) := ⟨⟨by decide +kernel, by decide +kernel⟩, List.mem_of_getElem? (i := 468) (by decide +kernel), List.mem_of_getElem? (i := 696) (by decide +kernel), List.mem_of_getElem? (i := 697) (by decide +kernel)⟩
theorem lw_p49 : lw_okq (⟨"WarmHousesModel", "freeHouses", "()V"⟩, 12) := ⟨⟨by decide +kernel, by decide +kernel⟩, List.mem_of_getElem? (i := 468) (by decide +kernel), List.mem_of_getElem? (i := 700) (by decide +kernel), List.mem_of_getElem? (i := 701) (by decide +kernel)⟩
theorem lw_p50 : lw_okq (⟨"WarmHousesModel", "doFull", "()I"⟩, 12) := ⟨⟨by decide +kernel, by decide +kernel⟩, List.mem_of_getElem? (i := 468) (by decide +kernel), List.mem_of_getElem? (i := 708) (by decide +kernel), List.mem_of_getElem? (i := 709) (by decide +kernel)⟩
theorem lw_p51 : lw_okq (⟨"WarmHousesModel", "neededOf", "()I"⟩, 12) := ⟨⟨by decide +kernel, by decide +kernel⟩, List.mem_of_getElem? (i := 468) (by decide +kernel), List.mem_of_getElem? (i := 712) (by decide +kernel), List.mem_of_getElem? (i := 713) (by decide +kernel)⟩
theorem lw_p52 : lw_okq (⟨"WarmHousesModel", "handsOf", "(I)I"⟩, 12) := ⟨⟨by decide +kernel, by decide +kernel⟩, List.mem_of_getElem? (i := 468) (by decide +kernel), List.mem_of_getElem? (i := 720) (by decide +kernel), List.mem_of_getElem? (i := 721) (by decide +kernel)⟩
theorem lw_p53 : lw_okq (⟨"WarmHousesModel", "tiedFrom", "(I)I"⟩, 12) := ⟨⟨by decide +kernel, by decide +kernel⟩, List.mem_of_getElem? (i := 468) (by decide +kernel), List.mem_of_getElem? (i := 724) (by decide +kernel), List.mem_of_getElem? (i := 725) (by decide +kernel)⟩
theorem lw_p54 : lw_okq (⟨"WarmHousesModel", "livingIn", "(I)I"⟩, 12) := ⟨⟨by decide +kernel, by decide +kernel⟩, List.mem_of_getElem? (i := 468) (by decide +kernel), List.mem_of_getElem? (i := 732) (by decide +kernel), List.mem_of_getElem? (i := 733) (by decide +kernel)⟩
theorem lw_p55 : lw_okq (⟨"WarmHousesModel", "notes", "(I)I"⟩, 12) := ⟨⟨by decide +kernel, by decide +kernel⟩, List.mem_of_getElem? (i := 468) (by decide +kernel), List.mem_of_getElem? (i := 744) (by decide +kernel), List.mem_of_getElem? (i := 745) (by decide +kernel)⟩
theorem lw_p56 : lw_okq (⟨"WarmHousesModel", "isNoted", "(II)Z"⟩, 12) := ⟨⟨by decide +kernel, by decide +kernel⟩, List.mem_of_getElem? (i := 468) (by decide +kernel), List.mem_of_getElem? (i := 748) (by decide +kernel), List.mem_of_getElem? (i := 749) (by decide +kernel)⟩
theorem lw_p57 : lw_okq (⟨"WarmHousesModel", "freeOnes", "()I"⟩, 12) := ⟨⟨by decide +kernel, by decide +kernel⟩, List.mem_of_getElem? (i := 468) (by decide +kernel), List.mem_of_getElem? (i := 772) (by decide +kernel), List.mem_of_getElem? (i := 773) (by decide +kernel)⟩
theorem lw_p58 : lw_okq (⟨"WarmHousesModel", "keepAll", "()V"⟩, 12) := ⟨⟨by decide +kernel, by decide +kernel⟩, List.mem_of_getElem? (i := 468) (by decide +kernel), List.mem_of_getElem? (i := 788) (by decide +kernel), List.mem_of_getElem? (i := 789) (by decide +kernel)⟩
theorem lw_p59 : lw_okq (⟨"WarmHousesModel", "go", "()V"⟩, 12) := ⟨⟨by decide +kernel, by decide +kernel⟩, List.mem_of_getElem? (i := 468) (by decide +kernel), List.mem_of_getElem? (i := 792) (by decide +kernel), List.mem_of_getElem? (i := 793) (by decide +kernel)⟩
theorem lw_p60 : lw_okq (⟨"WarmHousesModel", "readsOrder", "()Z"⟩, 12) := ⟨⟨by decide +kernel, by decide +kernel⟩, List.mem_of_getElem? (i := 468) (by decide +kernel), List.mem_of_getElem? (i := 796) (by decide +kernel), List.mem_of_getElem? (i := 797) (by decide +kernel)⟩
theorem lw_p61 : lw_okq (⟨"WarmHousesModel", "code", "()I"⟩, 12) := ⟨⟨by decide +kernel, by decide +kernel⟩, List.mem_of_getElem? (i := 468) (by decide +kernel), List.mem_of_getElem? (i := 800) (by decide +kernel), List.mem_of_getElem? (i := 801) (by decide +kernel)⟩
theorem lw_p62 : lw_okq (⟨"WarmHousesModel", "sign", "(I)Z"⟩, 12) := ⟨⟨by decide +kernel, by decide +kernel⟩, List.mem_of_getElem? (i := 468) (by decide +kernel), List.mem_of_getElem? (i := 807) (by decide +kernel), List.mem_of_getElem? (i := 808) (by decide +kernel)⟩
theorem lw_p63 : lw_okq (⟨"WarmHousesModel", "number", "(I)Z"⟩, 12) := ⟨⟨by decide +kernel, by decide +kernel⟩, List.mem_of_getElem? (i := 468) (by decide +kernel), List.mem_of_getElem? (i := 811) (by decide +kernel), List.mem_of_getElem? (i := 812) (by decide +kernel)⟩
def lw_privs_4 : List (MethodName × Nat) := [(⟨"WarmHousesModel", "lose", "(I)V"⟩, 12), (⟨"WarmHousesModel", "freeHouses", "()V"⟩, 12), (⟨"WarmHousesModel", "doFull", "()I"⟩, 12), (⟨"WarmHousesModel", "neededOf", "()I"⟩, 12), (⟨"WarmHousesModel", "handsOf", "(I)I"⟩, 12), (⟨"WarmHousesModel", "tiedFrom", "(I)I"⟩, 12), (⟨"WarmHousesModel", "livingIn", "(I)I"⟩, 12), (⟨"WarmHousesModel", "notes", "(I)I"⟩, 12), (⟨"WarmHousesModel", "isNoted", "(II)Z"⟩, 12), (⟨"WarmHousesModel", "freeOnes", "()I"⟩, 12), (⟨"WarmHousesModel", "keepAll", "()V"⟩, 12), (⟨"WarmHousesModel", "go", "()V"⟩, 12), (⟨"WarmHousesModel", "readsOrder", "()Z"⟩, 12), (⟨"WarmHousesModel", "code", "()I"⟩, 12), (⟨"WarmHousesModel", "sign", "(I)Z"⟩, 12), (⟨"WarmHousesModel", "number", "(I)Z"⟩, 12)]
theorem lw_r4 : ∀ q ∈ lw_privs_4, lw_okq q := List.forall_mem_cons.mpr ⟨lw_p48, List.forall_mem_cons.mpr ⟨lw_p49, List.forall_mem_cons.mpr ⟨lw_p50, List.forall_mem_cons.mpr ⟨lw_p51, List.forall_mem_cons.mpr ⟨lw_p52, List.forall_mem_cons.mpr ⟨lw_p53, List.forall_mem_cons.mpr ⟨lw_p54, List.forall_mem_cons.mpr ⟨lw_p55, List.forall_mem_cons.mpr ⟨lw_p56, List.forall_mem_cons.mpr ⟨lw_p57, List.forall_mem_cons.mpr ⟨lw_p58, List.forall_mem_cons.mpr ⟨lw_p59, List.forall_mem_cons.mpr ⟨lw_p60, List.forall_mem_cons.mpr ⟨lw_p61, List.forall_mem_cons.mpr ⟨lw_p62, List.forall_mem_cons.mpr ⟨lw_p63, fun _ h => absurd h List.not_mem_nil⟩⟩⟩⟩⟩⟩⟩⟩⟩⟩⟩⟩⟩⟩⟩⟩
theorem lw_p64 : lw_okq (⟨"WarmHousesModel", "noOrder", "()I"⟩, 12) := ⟨⟨by decide +kernel, by decide +kernel⟩, List.mem_of_getElem? (i := 468) (by decide +kernel), List.mem_of_getElem? (i := 815) (by decide +kernel), List.mem_of_getElem? (i := 816) (by decide +kernel)⟩
theorem lw_p65 : lw_okq (⟨"WarmHousesModel", "doOrder", "()V"⟩, 12) := ⟨⟨by decide +kernel, by decide +kernel⟩, List.mem_of_getElem? (i := 468) (by decide +kernel), List.mem_of_getElem? (i := 819) (by decide +kernel), List.mem_of_getElem? (i := 820) (by decide +kernel)⟩
theorem lw_p66 : lw_okq (⟨"WarmHousesModel", "goBack", "()V"⟩, 12) := ⟨⟨by decide +kernel, by decide +kernel⟩, List.mem_of_getElem? (i := 468) (by decide +kernel), List.mem_of_getElem? (i := 823) (by decide +kernel), List.mem_of_getElem? (i := 824) (by decide +kernel)⟩
def lw_privs_5 : List (MethodName × Nat) := [(⟨"WarmHousesModel", "noOrder", "()I"⟩, 12), (⟨"WarmHousesModel", "doOrder", "()V"⟩, 12), (⟨"WarmHousesModel", "goBack", "()V"⟩, 12)]
theorem lw_r5 : ∀ q ∈ lw_privs_5, lw_okq q := List.forall_mem_cons.mpr ⟨lw_p64, List.forall_mem_cons.mpr ⟨lw_p65, List.forall_mem_cons.mpr ⟨lw_p66, fun _ h => absurd h List.not_mem_nil⟩⟩⟩
def lw_privs : List (MethodName × Nat) := lw_privs_1 ++ (lw_privs_2 ++ (lw_privs_3 ++ (lw_privs_4 ++ (lw_privs_5))))
def lw_tbl : List Cond := k2_sels lw_privs ++ tables_1
theorem lw_privs_ok : ∀ q ∈ lw_privs, lw_okq q := by
  show ∀ q ∈ lw_privs_1 ++ (lw_privs_2 ++ (lw_privs_3 ++ (lw_privs_4 ++ (lw_privs_5)))), lw_okq q
  exact List.forall_mem_append.mpr ⟨lw_r1, List.forall_mem_append.mpr ⟨lw_r2, List.forall_mem_append.mpr ⟨lw_r3, List.forall_mem_append.mpr ⟨lw_r4, lw_r5⟩⟩⟩⟩
end
section
def RX0 : String := "WarmHouses$Orders"
def TX0 : u_T := fun k => match k with
  | 0 => ("WarmHouses$Orders", "text", "[I", true)
  | 1 => ("WarmHouses$Orders", "numbers", "[I", true)
  | 2 => ("WarmHouses$Orders", "length", "I", false)
  | 3 => ("WarmHouses$Orders", "position", "I", false)
  | 4 => ("WarmHouses$Orders", "start", "I", false)
  | _ => ("WarmHouses$Orders", "reason", "I", false)
def tyX0 : Nat → FieldType := fun k => match k with
  | 0 => .array .int
  | 1 => .array .int
  | 2 => .int
  | 3 => .int
  | 4 => .int
  | _ => .int
abbrev wsX00 : List Cond := u_ws RX0 TX0 6
theorem nmX0 : ∀ a, a < 6 → ∀ b, b < 6 → a ≠ b → (TX0 a).2.1 ≠ (TX0 b).2.1 := by decide +kernel
theorem tyX0_ok : ∀ k, k < 6 → parseFieldDescriptor (TX0 k).2.2.1 = some (tyX0 k) := by decide +kernel
def RX1 : String := "WarmHouses$Village"
def TX1 : u_T := fun k => match k with
  | 0 => ("WarmHouses$Village", "ages", "[I", true)
  | 1 => ("WarmHouses$Village", "guests", "[I", true)
  | 2 => ("WarmHouses$Village", "spots", "[I", true)
  | 3 => ("WarmHouses$Village", "ties", "[I", true)
  | 4 => ("WarmHouses$Village", "movesByThing", "[I", true)
  | 5 => ("WarmHouses$Village", "hands", "[I", true)
  | 6 => ("WarmHouses$Village", "pinned", "I", false)
  | 7 => ("WarmHouses$Village", "comers", "I", false)
  | 8 => ("WarmHouses$Village", "winters", "I", false)
  | 9 => ("WarmHouses$Village", "fullTurns", "I", false)
  | _ => ("WarmHouses$Village", "moves", "I", false)
def tyX1 : Nat → FieldType := fun k => match k with
  | 0 => .array .int
  | 1 => .array .int
  | 2 => .array .int
  | 3 => .array .int
  | 4 => .array .int
  | 5 => .array .int
  | 6 => .int
  | 7 => .int
  | 8 => .int
  | 9 => .int
  | _ => .int
abbrev wsX10 : List Cond := u_ws RX1 TX1 11
theorem nmX1 : ∀ a, a < 11 → ∀ b, b < 11 → a ≠ b → (TX1 a).2.1 ≠ (TX1 b).2.1 := by decide +kernel
theorem tyX1_ok : ∀ k, k < 11 → parseFieldDescriptor (TX1 k).2.2.1 = some (tyX1 k) := by decide +kernel
def RX2 : String := "WarmHouses"
def TX2 : u_T := fun k => match k with
  | 0 => ("WarmHouses", "slots", "[LWarmHouses$Village;", true)
  | 1 => ("WarmHouses", "orders", "LWarmHouses$Orders;", true)
  | 2 => ("WarmHouses", "present", "I", false)
  | _ => ("WarmHouses", "states", "I", false)
def tyX2 : Nat → FieldType := fun k => match k with
  | 0 => .array (.object "WarmHouses$Village")
  | 1 => .object "WarmHouses$Orders"
  | 2 => .int
  | _ => .int
abbrev wsX20 : List Cond := u_ws RX2 TX2 4
theorem nmX2 : ∀ a, a < 4 → ∀ b, b < 4 → a ≠ b → (TX2 a).2.1 ≠ (TX2 b).2.1 := by decide +kernel
theorem tyX2_ok : ∀ k, k < 4 → parseFieldDescriptor (TX2 k).2.2.1 = some (tyX2 k) := by decide +kernel
def RX3 : String := "WarmHousesModel"
def TX3 : u_T := fun k => match k with
  | 0 => ("WarmHousesModel", "row", "[I", true)
  | 1 => ("WarmHousesModel", "states", "I", false)
  | 2 => ("WarmHousesModel", "text", "[I", true)
  | 3 => ("WarmHousesModel", "length", "I", false)
  | 4 => ("WarmHousesModel", "ages", "[I", true)
  | 5 => ("WarmHousesModel", "pos", "I", false)
  | 6 => ("WarmHousesModel", "letter", "I", false)
  | 7 => ("WarmHousesModel", "numbers", "[I", true)
  | 8 => ("WarmHousesModel", "faultAt", "I", false)
  | 9 => ("WarmHousesModel", "reason", "I", false)
  | 10 => ("WarmHousesModel", "orders", "I", false)
  | _ => ("WarmHousesModel", "before", "[I", true)
def tyX3 : Nat → FieldType := fun k => match k with
  | 0 => .array .int
  | 1 => .int
  | 2 => .array .int
  | 3 => .int
  | 4 => .array .int
  | 5 => .int
  | 6 => .int
  | 7 => .array .int
  | 8 => .int
  | 9 => .int
  | 10 => .int
  | _ => .array .int
abbrev wsX30 : List Cond := u_ws RX3 TX3 12
theorem nmX3 : ∀ a, a < 12 → ∀ b, b < 12 → a ≠ b → (TX3 a).2.1 ≠ (TX3 b).2.1 := by decide +kernel
theorem tyX3_ok : ∀ k, k < 12 → parseFieldDescriptor (TX3 k).2.2.1 = some (tyX3 k) := by decide +kernel
def RJ6 : String := "java/lang/Integer"
def RJ9 : String := "java/lang/Math"
def RL : String := "WarmHousesLaw"
abbrev vwCl : List vw_C := [(RX0, TX0, 6), (RX1, TX1, 11), (RX2, TX2, 4), (RX3, TX3, 12)]
abbrev xm_Q : Type := Instr × Nat × Nat × Nat × Int
-- 0 yX0_init
def xt_0 : List (Nat × xm_Q) := [(0, .aload_n 0, 1, 0, 0, 0), (1, .invokespecial 3, 4, 1000, 0, 0), (4, .aload_n 0, 5, 0, 0, 0), (5, .bipush 60, 7, 0, 0, 60), (7, .newarray .int, 9, 0, 0, 0), (9, .putfield 9, 12, 0, 0, 1), (12, .aload_n 0, 13, 0, 0, 0), (13, .iconst 3, 14, 0, 0, 3), (14, .newarray .int, 16, 0, 0, 0), (16, .putfield 15, 19, 0, 1, 1), (19, .aload_n 0, 20, 0, 0, 0), (20, .iconst 0, 21, 0, 0, 0), (21, .putfield 18, 24, 0, 2, 0), (24, .aload_n 0, 25, 0, 0, 0), (25, .iconst 0, 26, 0, 0, 0), (26, .putfield 22, 29, 0, 3, 0), (29, .aload_n 0, 30, 0, 0, 0), (30, .iconst 0, 31, 0, 0, 0), (31, .putfield 25, 34, 0, 4, 0), (34, .aload_n 0, 35, 0, 0, 0), (35, .iconst 0, 36, 0, 0, 0), (36, .putfield 28, 39, 0, 5, 0), (39, .return_, 40, 0, 0, 0)]
-- 1 yX0_append
def xt_1 : List (Nat × xm_Q) := [(0, .aload_n 0, 1, 0, 0, 0), (1, .getfield 18, 4, 0, 2, 0), (4, .bipush 60, 6, 0, 0, 60), (6, .if_icmp .lt 6, 9, 12, 0, 0), (9, .ldc 31, 11, 0, 0, (-1000003)), (11, .ireturn, 12, 0, 0, 0), (12, .aload_n 0, 13, 0, 0, 0), (13, .getfield 9, 16, 0, 0, 1), (16, .aload_n 0, 17, 0, 0, 0), (17, .getfield 18, 20, 0, 2, 0), (20, .iload_n 1, 21, 1, 0, 0), (21, .iastore, 22, 0, 0, 0), (22, .aload_n 0, 23, 0, 0, 0), (23, .dup, 24, 0, 0, 0), (24, .getfield 18, 27, 0, 2, 0), (27, .iconst 1, 28, 0, 0, 1), (28, .iadd, 29, 0, 0, 0), (29, .putfield 18, 32, 0, 2, 0), (32, .aload_n 0, 33, 0, 0, 0), (33, .getfield 18, 36, 0, 2, 0), (36, .ireturn, 37, 0, 0, 0)]
-- 2 yX0_runOn
def xt_2 : List (Nat × xm_Q) := [(0, .iconst 0, 1, 0, 0, 0), (1, .istore_n 2, 2, 2, 0, 0), (2, .aload_n 0, 3, 0, 0, 0), (3, .iconst 0, 4, 0, 0, 0), (4, .putfield 22, 7, 0, 3, 0), (7, .aload_n 0, 8, 0, 0, 0), (8, .iconst 0, 9, 0, 0, 0), (9, .putfield 28, 12, 0, 5, 0), (12, .iload_n 2, 13, 2, 0, 0), (13, .bipush 60, 15, 0, 0, 60), (15, .if_icmp .ge 65, 18, 80, 0, 0), (18, .aload_n 0, 19, 0, 0, 0), (19, .getfield 22, 22, 0, 3, 0), (22, .aload_n 0, 23, 0, 0, 0), (23, .getfield 18, 26, 0, 2, 0), (26, .if_icmp .ge 54, 29, 80, 0, 0), (29, .aload_n 0, 30, 0, 0, 0), (30, .getfield 28, 33, 0, 5, 0), (33, .ifCond .ne 47, 36, 80, 0, 0), (36, .iinc 2 1, 39, 2, 0, 1), (39, .aload_n 0, 40, 0, 0, 0), (40, .aload_n 0, 41, 0, 0, 0), (41, .getfield 22, 44, 0, 3, 0), (44, .putfield 25, 47, 0, 4, 0), (47, .aload_n 0, 48, 0, 0, 0), (48, .invokevirtual 32, 51, 6, 1, 0), (51, .istore_n 3, 52, 3, 0, 0), (52, .aload_n 0, 53, 0, 0, 0), (53, .aload_n 0, 54, 0, 0, 0), (54, .iload_n 3, 55, 3, 0, 0), (55, .invokevirtual 36, 58, 3, 2, 0), (58, .ifCond .eq 15, 61, 73, 0, 0), (61, .aload_n 0, 62, 0, 0, 0), (62, .aload_n 1, 63, 1, 0, 0), (63, .iload_n 3, 64, 3, 0, 0), (64, .invokevirtual 40, 67, 9, 3, 0), (67, .invokestatic 44, 70, 10, 1, 0), (70, .goto 4, 73, 74, 0, 0), (73, .iconst 1, 74, 0, 0, 1), (74, .putfield 28, 77, 0, 5, 0), (77, .goto (-65), 80, 12, 0, 0), (80, .iload_n 2, 81, 2, 0, 0), (81, .ireturn, 82, 0, 0, 0)]
-- 3 yX0_readOrder
def xt_3 : List (Nat × xm_Q) := [(0, .iload_n 1, 1, 1, 0, 0), (1, .invokestatic 48, 4, 4, 1, 0), (4, .istore_n 2, 5, 2, 0, 0), (5, .iload_n 2, 6, 2, 0, 0), (6, .iconst (-1), 7, 0, 0, (-1)), (7, .if_icmp .ne 5, 10, 12, 0, 0), (10, .iconst 0, 11, 0, 0, 0), (11, .ireturn, 12, 0, 0, 0), (12, .aload_n 0, 13, 0, 0, 0), (13, .dup, 14, 0, 0, 0), (14, .getfield 22, 17, 0, 3, 0), (17, .iconst 1, 18, 0, 0, 1), (18, .iadd, 19, 0, 0, 0), (19, .putfield 22, 22, 0, 3, 0), (22, .iconst 0, 23, 0, 0, 0), (23, .istore_n 3, 24, 3, 0, 0), (24, .iload_n 3, 25, 3, 0, 0), (25, .iload_n 2, 26, 2, 0, 0), (26, .if_icmp .ge 51, 29, 77, 0, 0), (29, .iload_n 3, 30, 3, 0, 0), (30, .iconst 3, 31, 0, 0, 3), (31, .if_icmp .ge 46, 34, 77, 0, 0), (34, .iload_n 3, 35, 3, 0, 0), (35, .ifCond .le 14, 38, 49, 0, 0), (38, .aload_n 0, 39, 0, 0, 0), (39, .bipush 44, 41, 0, 0, 44), (41, .invokevirtual 51, 44, 7, 2, 0), (44, .ifCond .ne 5, 47, 49, 0, 0), (47, .iconst 0, 48, 0, 0, 0), (48, .ireturn, 49, 0, 0, 0), (49, .aload_n 0, 50, 0, 0, 0), (50, .invokevirtual 54, 53, 5, 1, 0), (53, .istore 4, 55, 4, 0, 0), (55, .iload 4, 57, 4, 0, 0), (57, .iconst (-1), 58, 0, 0, (-1)), (58, .if_icmp .ne 5, 61, 63, 0, 0), (61, .iconst 0, 62, 0, 0, 0), (62, .ireturn, 63, 0, 0, 0), (63, .aload_n 0, 64, 0, 0, 0), (64, .getfield 15, 67, 0, 1, 1), (67, .iload_n 3, 68, 3, 0, 0), (68, .iload 4, 70, 4, 0, 0), (70, .iastore, 71, 0, 0, 0), (71, .iinc 3 1, 74, 3, 0, 1), (74, .goto (-50), 77, 24, 0, 0), (77, .aload_n 0, 78, 0, 0, 0), (78, .bipush 59, 80, 0, 0, 59), (80, .invokevirtual 51, 83, 7, 2, 0), (83, .ireturn, 84, 0, 0, 0)]
-- 4 yX0_numbersOf
def xt_4 : List (Nat × xm_Q) := [(0, .iload_n 0, 1, 0, 0, 0), (1, .tableswitch 95 102 119 #[87, 95, 91, 95, 95, 95, 89, 95, 87, 95, 89, 95, 95, 93, 95, 91, 95, 89], 88, 0, 0, 0), (88, .iconst 0, 89, 0, 0, 0), (89, .ireturn, 90, 0, 0, 0), (90, .iconst 1, 91, 0, 0, 1), (91, .ireturn, 92, 0, 0, 0), (92, .iconst 2, 93, 0, 0, 2), (93, .ireturn, 94, 0, 0, 0), (94, .iconst 3, 95, 0, 0, 3), (95, .ireturn, 96, 0, 0, 0), (96, .iconst (-1), 97, 0, 0, (-1)), (97, .ireturn, 98, 0, 0, 0)]
-- 5 yX0_readNumber
def xt_5 : List (Nat × xm_Q) := [(0, .aload_n 0, 1, 0, 0, 0), (1, .invokevirtual 32, 4, 6, 1, 0), (4, .invokestatic 57, 7, 8, 1, 0), (7, .ifCond .ne 5, 10, 12, 0, 0), (10, .iconst (-1), 11, 0, 0, (-1)), (11, .ireturn, 12, 0, 0, 0), (12, .aload_n 0, 13, 0, 0, 0), (13, .invokevirtual 32, 16, 6, 1, 0), (16, .bipush 48, 18, 0, 0, 48), (18, .isub, 19, 0, 0, 0), (19, .istore_n 1, 20, 1, 0, 0), (20, .aload_n 0, 21, 0, 0, 0), (21, .dup, 22, 0, 0, 0), (22, .getfield 22, 25, 0, 3, 0), (25, .iconst 1, 26, 0, 0, 1), (26, .iadd, 27, 0, 0, 0), (27, .putfield 22, 30, 0, 3, 0), (30, .aload_n 0, 31, 0, 0, 0), (31, .invokevirtual 32, 34, 6, 1, 0), (34, .invokestatic 57, 37, 8, 1, 0), (37, .ifCond .eq 26, 40, 63, 0, 0), (40, .bipush 10, 42, 0, 0, 10), (42, .iload_n 1, 43, 1, 0, 0), (43, .imul, 44, 0, 0, 0), (44, .aload_n 0, 45, 0, 0, 0), (45, .invokevirtual 32, 48, 6, 1, 0), (48, .iadd, 49, 0, 0, 0), (49, .bipush 48, 51, 0, 0, 48), (51, .isub, 52, 0, 0, 0), (52, .istore_n 1, 53, 1, 0, 0), (53, .aload_n 0, 54, 0, 0, 0), (54, .dup, 55, 0, 0, 0), (55, .getfield 22, 58, 0, 3, 0), (58, .iconst 1, 59, 0, 0, 1), (59, .iadd, 60, 0, 0, 0), (60, .putfield 22, 63, 0, 3, 0), (63, .iload_n 1, 64, 1, 0, 0), (64, .ireturn, 65, 0, 0, 0)]
-- 6 yX0_peek
def xt_6 : List (Nat × xm_Q) := [(0, .aload_n 0, 1, 0, 0, 0), (1, .getfield 22, 4, 0, 3, 0), (4, .ifCond .lt 35, 7, 39, 0, 0), (7, .aload_n 0, 8, 0, 0, 0), (8, .getfield 22, 11, 0, 3, 0), (11, .aload_n 0, 12, 0, 0, 0), (12, .getfield 18, 15, 0, 2, 0), (15, .if_icmp .ge 24, 18, 39, 0, 0), (18, .aload_n 0, 19, 0, 0, 0), (19, .getfield 22, 22, 0, 3, 0), (22, .bipush 60, 24, 0, 0, 60), (24, .if_icmp .ge 15, 27, 39, 0, 0), (27, .aload_n 0, 28, 0, 0, 0), (28, .getfield 9, 31, 0, 0, 1), (31, .aload_n 0, 32, 0, 0, 0), (32, .getfield 22, 35, 0, 3, 0), (35, .iaload, 36, 0, 0, 0), (36, .goto 4, 39, 40, 0, 0), (39, .iconst (-1), 40, 0, 0, (-1)), (40, .ireturn, 41, 0, 0, 0)]
-- 7 yX0_skip
def xt_7 : List (Nat × xm_Q) := [(0, .aload_n 0, 1, 0, 0, 0), (1, .invokevirtual 32, 4, 6, 1, 0), (4, .iload_n 1, 5, 1, 0, 0), (5, .if_icmp .eq 5, 8, 10, 0, 0), (8, .iconst 0, 9, 0, 0, 0), (9, .ireturn, 10, 0, 0, 0), (10, .aload_n 0, 11, 0, 0, 0), (11, .dup, 12, 0, 0, 0), (12, .getfield 22, 15, 0, 3, 0), (15, .iconst 1, 16, 0, 0, 1), (16, .iadd, 17, 0, 0, 0), (17, .putfield 22, 20, 0, 3, 0), (20, .iconst 1, 21, 0, 0, 1), (21, .ireturn, 22, 0, 0, 0)]
-- 8 yX0_isDigit
def xt_8 : List (Nat × xm_Q) := [(0, .iload_n 0, 1, 0, 0, 0), (1, .bipush 48, 3, 0, 0, 48), (3, .if_icmp .lt 13, 6, 16, 0, 0), (6, .iload_n 0, 7, 0, 0, 0), (7, .bipush 57, 9, 0, 0, 57), (9, .if_icmp .gt 7, 12, 16, 0, 0), (12, .iconst 1, 13, 0, 0, 1), (13, .goto 4, 16, 17, 0, 0), (16, .iconst 0, 17, 0, 0, 0), (17, .ireturn, 18, 0, 0, 0)]
-- 9 yX0_carryOut
def xt_9 : List (Nat × xm_Q) := [(0, .iload_n 2, 1, 2, 0, 0), (1, .tableswitch 174 104 119 #[84, 174, 174, 174, 101, 174, 79, 174, 152, 174, 174, 112, 174, 135, 174, 163], 80, 0, 0, 0), (80, .aload_n 1, 81, 1, 0, 0), (81, .invokevirtual 60, 84, 14, 1, 1), (84, .ireturn, 85, 0, 0, 0), (85, .aload_n 1, 86, 1, 0, 0), (86, .aload_n 0, 87, 0, 0, 0), (87, .getfield 15, 90, 0, 1, 1), (90, .iconst 0, 91, 0, 0, 0), (91, .iaload, 92, 0, 0, 0), (92, .aload_n 0, 93, 0, 0, 0), (93, .getfield 15, 96, 0, 1, 1), (96, .iconst 1, 97, 0, 0, 1), (97, .iaload, 98, 0, 0, 0), (98, .invokevirtual 65, 101, 15, 3, 1), (101, .ireturn, 102, 0, 0, 0), (102, .aload_n 1, 103, 1, 0, 0), (103, .aload_n 0, 104, 0, 0, 0), (104, .getfield 15, 107, 0, 1, 1), (107, .iconst 0, 108, 0, 0, 0), (108, .iaload, 109, 0, 0, 0), (109, .invokevirtual 69, 112, 16, 2, 1), (112, .ireturn, 113, 0, 0, 0), (113, .aload_n 1, 114, 1, 0, 0), (114, .aload_n 0, 115, 0, 0, 0), (115, .getfield 15, 118, 0, 1, 1), (118, .iconst 0, 119, 0, 0, 0), (119, .iaload, 120, 0, 0, 0), (120, .aload_n 0, 121, 0, 0, 0), (121, .getfield 15, 124, 0, 1, 1), (124, .iconst 1, 125, 0, 0, 1), (125, .iaload, 126, 0, 0, 0), (126, .aload_n 0, 127, 0, 0, 0), (127, .getfield 15, 130, 0, 1, 1), (130, .iconst 2, 131, 0, 0, 2), (131, .iaload, 132, 0, 0, 0), (132, .invokevirtual 72, 135, 17, 4, 1), (135, .ireturn, 136, 0, 0, 0), (136, .aload_n 1, 137, 1, 0, 0), (137, .aload_n 0, 138, 0, 0, 0), (138, .getfield 15, 141, 0, 1, 1), (141, .iconst 0, 142, 0, 0, 0), (142, .iaload, 143, 0, 0, 0), (143, .aload_n 0, 144, 0, 0, 0), (144, .getfield 15, 147, 0, 1, 1), (147, .iconst 1, 148, 0, 0, 1), (148, .iaload, 149, 0, 0, 0), (149, .invokevirtual 76, 152, 18, 3, 1), (152, .ireturn, 153, 0, 0, 0), (153, .aload_n 1, 154, 1, 0, 0), (154, .aload_n 0, 155, 0, 0, 0), (155, .getfield 15, 158, 0, 1, 1), (158, .iconst 0, 159, 0, 0, 0), (159, .iaload, 160, 0, 0, 0), (160, .invokevirtual 79, 163, 19, 2, 1), (163, .ireturn, 164, 0, 0, 0), (164, .aload_n 1, 165, 1, 0, 0), (165, .aload_n 0, 166, 0, 0, 0), (166, .getfield 15, 169, 0, 1, 1), (169, .iconst 0, 170, 0, 0, 0), (170, .iaload, 171, 0, 0, 0), (171, .invokevirtual 82, 174, 21, 2, 1), (174, .ireturn, 175, 0, 0, 0), (175, .aload_n 1, 176, 1, 0, 0), (176, .invokevirtual 85, 179, 22, 1, 1), (179, .ireturn, 180, 0, 0, 0)]
-- 10 yX0_reasonOf
def xt_10 : List (Nat × xm_Q) := [(0, .iload_n 0, 1, 0, 0, 0), (1, .ifCond .lt 5, 4, 6, 0, 0), (4, .iconst 0, 5, 0, 0, 0), (5, .ireturn, 6, 0, 0, 0), (6, .iload_n 0, 7, 0, 0, 0), (7, .ldc 88, 9, 0, 0, (-1000001)), (9, .if_icmp .ne 7, 12, 16, 0, 0), (12, .iconst 2, 13, 0, 0, 2), (13, .goto 4, 16, 17, 0, 0), (16, .iconst 3, 17, 0, 0, 3), (17, .ireturn, 18, 0, 0, 0)]
-- 11 yX1_init
def xt_11 : List (Nat × xm_Q) := [(0, .aload_n 0, 1, 0, 0, 0), (1, .invokespecial 3, 4, 1000, 0, 0), (4, .aload_n 0, 5, 0, 0, 0), (5, .bipush 8, 7, 0, 0, 8), (7, .newarray .int, 9, 0, 0, 0), (9, .putfield 9, 12, 1, 0, 1), (12, .aload_n 0, 13, 0, 0, 0), (13, .bipush 40, 15, 0, 0, 40), (15, .newarray .int, 17, 0, 0, 0), (17, .putfield 15, 20, 1, 1, 1), (20, .aload_n 0, 21, 0, 0, 0), (21, .bipush 30, 23, 0, 0, 30), (23, .newarray .int, 25, 0, 0, 0), (25, .putfield 18, 28, 1, 2, 1), (28, .aload_n 0, 29, 0, 0, 0), (29, .bipush 90, 31, 0, 0, 90), (31, .newarray .int, 33, 0, 0, 0), (33, .putfield 21, 36, 1, 3, 1), (36, .aload_n 0, 37, 0, 0, 0), (37, .bipush 30, 39, 0, 0, 30), (39, .newarray .int, 41, 0, 0, 0), (41, .putfield 24, 44, 1, 4, 1), (44, .aload_n 0, 45, 0, 0, 0), (45, .iconst 4, 46, 0, 0, 4), (46, .newarray .int, 48, 0, 0, 0), (48, .putfield 27, 51, 1, 5, 1), (51, .aload_n 0, 52, 0, 0, 0), (52, .iconst 0, 53, 0, 0, 0), (53, .putfield 30, 56, 1, 6, 0), (56, .aload_n 0, 57, 0, 0, 0), (57, .iconst 0, 58, 0, 0, 0), (58, .putfield 34, 61, 1, 7, 0), (61, .aload_n 0, 62, 0, 0, 0), (62, .iconst 0, 63, 0, 0, 0), (63, .putfield 37, 66, 1, 8, 0), (66, .aload_n 0, 67, 0, 0, 0), (67, .iconst 0, 68, 0, 0, 0), (68, .putfield 40, 71, 1, 9, 0), (71, .aload_n 0, 72, 0, 0, 0), (72, .iconst 0, 73, 0, 0, 0), (73, .putfield 43, 76, 1, 10, 0), (76, .aload_n 0, 77, 0, 0, 0), (77, .getfield 9, 80, 1, 0, 1), (80, .invokestatic 46, 83, 12, 1, 1), (83, .aload_n 0, 84, 0, 0, 0), (84, .getfield 15, 87, 1, 1, 1), (87, .invokestatic 46, 90, 12, 1, 1), (90, .aload_n 0, 91, 0, 0, 0), (91, .getfield 18, 94, 1, 2, 1), (94, .invokestatic 46, 97, 12, 1, 1), (97, .aload_n 0, 98, 0, 0, 0), (98, .getfield 21, 101, 1, 3, 1), (101, .invokestatic 46, 104, 12, 1, 1), (104, .aload_n 0, 105, 0, 0, 0), (105, .getfield 27, 108, 1, 5, 1), (108, .invokestatic 46, 111, 12, 1, 1), (111, .return_, 112, 0, 0, 0)]
-- 12 yX1_clearRow
def xt_12 : List (Nat × xm_Q) := [(0, .iconst 0, 1, 0, 0, 0), (1, .istore_n 1, 2, 1, 0, 0), (2, .iload_n 1, 3, 1, 0, 0), (3, .aload_n 0, 4, 0, 0, 0), (4, .arraylength, 5, 0, 0, 0), (5, .if_icmp .ge 13, 8, 18, 0, 0), (8, .aload_n 0, 9, 0, 0, 0), (9, .iload_n 1, 10, 1, 0, 0), (10, .iconst (-1), 11, 0, 0, (-1)), (11, .iastore, 12, 0, 0, 0), (12, .iinc 1 1, 15, 1, 0, 1), (15, .goto (-13), 18, 2, 0, 0), (18, .return_, 19, 0, 0, 0)]
-- 13 yX1_copyFrom
def xt_13 : List (Nat × xm_Q) := [(0, .aload_n 1, 1, 1, 0, 0), (1, .getfield 9, 4, 1, 0, 1), (4, .iconst 0, 5, 0, 0, 0), (5, .aload_n 0, 6, 0, 0, 0), (6, .getfield 9, 9, 1, 0, 1), (9, .iconst 0, 10, 0, 0, 0), (10, .bipush 8, 12, 0, 0, 8), (12, .invokestatic 50, 15, 1001, 0, 0), (15, .aload_n 1, 16, 1, 0, 0), (16, .getfield 15, 19, 1, 1, 1), (19, .iconst 0, 20, 0, 0, 0), (20, .aload_n 0, 21, 0, 0, 0), (21, .getfield 15, 24, 1, 1, 1), (24, .iconst 0, 25, 0, 0, 0), (25, .bipush 40, 27, 0, 0, 40), (27, .invokestatic 50, 30, 1001, 0, 0), (30, .aload_n 1, 31, 1, 0, 0), (31, .getfield 18, 34, 1, 2, 1), (34, .iconst 0, 35, 0, 0, 0), (35, .aload_n 0, 36, 0, 0, 0), (36, .getfield 18, 39, 1, 2, 1), (39, .iconst 0, 40, 0, 0, 0), (40, .bipush 30, 42, 0, 0, 30), (42, .invokestatic 50, 45, 1001, 0, 0), (45, .aload_n 1, 46, 1, 0, 0), (46, .getfield 21, 49, 1, 3, 1), (49, .iconst 0, 50, 0, 0, 0), (50, .aload_n 0, 51, 0, 0, 0), (51, .getfield 21, 54, 1, 3, 1), (54, .iconst 0, 55, 0, 0, 0), (55, .bipush 90, 57, 0, 0, 90), (57, .invokestatic 50, 60, 1001, 0, 0), (60, .aload_n 1, 61, 1, 0, 0), (61, .getfield 24, 64, 1, 4, 1), (64, .iconst 0, 65, 0, 0, 0), (65, .aload_n 0, 66, 0, 0, 0), (66, .getfield 24, 69, 1, 4, 1), (69, .iconst 0, 70, 0, 0, 0), (70, .bipush 30, 72, 0, 0, 30), (72, .invokestatic 50, 75, 1001, 0, 0), (75, .aload_n 1, 76, 1, 0, 0), (76, .getfield 27, 79, 1, 5, 1), (79, .iconst 0, 80, 0, 0, 0), (80, .aload_n 0, 81, 0, 0, 0), (81, .getfield 27, 84, 1, 5, 1), (84, .iconst 0, 85, 0, 0, 0), (85, .iconst 4, 86, 0, 0, 4), (86, .invokestatic 50, 89, 1001, 0, 0), (89, .aload_n 0, 90, 0, 0, 0), (90, .aload_n 1, 91, 1, 0, 0), (91, .getfield 30, 94, 1, 6, 0), (94, .putfield 30, 97, 1, 6, 0), (97, .aload_n 0, 98, 0, 0, 0), (98, .aload_n 1, 99, 1, 0, 0), (99, .getfield 34, 102, 1, 7, 0), (102, .putfield 34, 105, 1, 7, 0), (105, .aload_n 0, 106, 0, 0, 0), (106, .aload_n 1, 107, 1, 0, 0), (107, .getfield 37, 110, 1, 8, 0), (110, .putfield 37, 113, 1, 8, 0), (113, .aload_n 0, 114, 0, 0, 0), (114, .aload_n 1, 115, 1, 0, 0), (115, .getfield 40, 118, 1, 9, 0), (118, .putfield 40, 121, 1, 9, 0), (121, .aload_n 0, 122, 0, 0, 0), (122, .aload_n 1, 123, 1, 0, 0), (123, .getfield 43, 126, 1, 10, 0), (126, .putfield 43, 129, 1, 10, 0), (129, .return_, 130, 0, 0, 0)]
-- 14 yX1_welcome
def xt_14 : List (Nat × xm_Q) := [(0, .aload_n 0, 1, 0, 0, 0), (1, .iconst 0, 2, 0, 0, 0), (2, .invokevirtual 56, 5, 29, 2, 1), (5, .istore_n 1, 6, 1, 0, 0), (6, .iload_n 1, 7, 1, 0, 0), (7, .iconst (-1), 8, 0, 0, (-1)), (8, .if_icmp .ne 6, 11, 14, 0, 0), (11, .ldc 60, 13, 0, 0, (-1000002)), (13, .ireturn, 14, 0, 0, 0), (14, .aload_n 0, 15, 0, 0, 0), (15, .getfield 34, 18, 1, 7, 0), (18, .bipush 30, 20, 0, 0, 30), (20, .if_icmp .lt 6, 23, 26, 0, 0), (23, .ldc 61, 25, 0, 0, (-1000003)), (25, .ireturn, 26, 0, 0, 0), (26, .aload_n 0, 27, 0, 0, 0), (27, .getfield 34, 30, 1, 7, 0), (30, .istore_n 2, 31, 2, 0, 0), (31, .aload_n 0, 32, 0, 0, 0), (32, .dup, 33, 0, 0, 0), (33, .getfield 34, 36, 1, 7, 0), (36, .iconst 1, 37, 0, 0, 1), (37, .iadd, 38, 0, 0, 0), (38, .putfield 34, 41, 1, 7, 0), (41, .aload_n 0, 42, 0, 0, 0), (42, .iload_n 2, 43, 2, 0, 0), (43, .iload_n 1, 44, 1, 0, 0), (44, .iconst 0, 45, 0, 0, 0), (45, .invokevirtual 62, 48, 25, 4, 1), (48, .iload_n 2, 49, 2, 0, 0), (49, .ireturn, 50, 0, 0, 0)]
-- 15 yX1_grip
def xt_15 : List (Nat × xm_Q) := [(0, .iload_n 1, 1, 1, 0, 0), (1, .invokestatic 66, 4, 31, 1, 1), (4, .ifCond .eq 11, 7, 15, 0, 0), (7, .aload_n 0, 8, 0, 0, 0), (8, .iload_n 2, 9, 2, 0, 0), (9, .invokevirtual 70, 12, 34, 2, 1), (12, .ifCond .ne 6, 15, 18, 0, 0), (15, .ldc 73, 17, 0, 0, (-1000001)), (17, .ireturn, 18, 0, 0, 0), (18, .aload_n 0, 19, 0, 0, 0), (19, .getfield 27, 22, 1, 5, 1), (22, .iload_n 1, 23, 1, 0, 0), (23, .iload_n 2, 24, 2, 0, 0), (24, .iastore, 25, 0, 0, 0), (25, .aload_n 0, 26, 0, 0, 0), (26, .invokevirtual 74, 29, 43, 1, 1), (29, .ireturn, 30, 0, 0, 0)]
-- 16 yX1_letGo
def xt_16 : List (Nat × xm_Q) := [(0, .iload_n 1, 1, 1, 0, 0), (1, .invokestatic 66, 4, 31, 1, 1), (4, .ifCond .ne 6, 7, 10, 0, 0), (7, .ldc 73, 9, 0, 0, (-1000001)), (9, .ireturn, 10, 0, 0, 0), (10, .aload_n 0, 11, 0, 0, 0), (11, .getfield 27, 14, 1, 5, 1), (14, .iload_n 1, 15, 1, 0, 0), (15, .iaload, 16, 0, 0, 0), (16, .istore_n 2, 17, 2, 0, 0), (17, .iload_n 2, 18, 2, 0, 0), (18, .iconst (-1), 19, 0, 0, (-1)), (19, .if_icmp .ne 6, 22, 25, 0, 0), (22, .ldc 60, 24, 0, 0, (-1000002)), (24, .ireturn, 25, 0, 0, 0), (25, .aload_n 0, 26, 0, 0, 0), (26, .getfield 27, 29, 1, 5, 1), (29, .iload_n 1, 30, 1, 0, 0), (30, .iconst (-1), 31, 0, 0, (-1)), (31, .iastore, 32, 0, 0, 0), (32, .iload_n 2, 33, 2, 0, 0), (33, .ireturn, 34, 0, 0, 0)]
-- 17 yX1_fasten
def xt_17 : List (Nat × xm_Q) := [(0, .aload_n 0, 1, 0, 0, 0), (1, .iload_n 1, 2, 1, 0, 0), (2, .invokevirtual 70, 5, 34, 2, 1), (5, .ifCond .eq 18, 8, 23, 0, 0), (8, .iload_n 2, 9, 2, 0, 0), (9, .invokestatic 78, 12, 32, 1, 1), (12, .ifCond .eq 11, 15, 23, 0, 0), (15, .aload_n 0, 16, 0, 0, 0), (16, .iload_n 3, 17, 3, 0, 0), (17, .invokevirtual 70, 20, 34, 2, 1), (20, .ifCond .ne 6, 23, 26, 0, 0), (23, .ldc 73, 25, 0, 0, (-1000001)), (25, .ireturn, 26, 0, 0, 0), (26, .aload_n 0, 27, 0, 0, 0), (27, .getfield 21, 30, 1, 3, 1), (30, .iload_n 1, 31, 1, 0, 0), (31, .iconst 3, 32, 0, 0, 3), (32, .imul, 33, 0, 0, 0), (33, .iload_n 2, 34, 2, 0, 0), (34, .iadd, 35, 0, 0, 0), (35, .iload_n 3, 36, 3, 0, 0), (36, .iastore, 37, 0, 0, 0), (37, .aload_n 0, 38, 0, 0, 0), (38, .iload_n 1, 39, 1, 0, 0), (39, .iload_n 2, 40, 2, 0, 0), (40, .invokevirtual 81, 43, 39, 3, 1), (43, .ifCond .eq 7, 46, 50, 0, 0), (46, .iconst 1, 47, 0, 0, 1), (47, .goto 4, 50, 51, 0, 0), (50, .iconst 0, 51, 0, 0, 0), (51, .ireturn, 52, 0, 0, 0)]
-- 18 yX1_slacken
def xt_18 : List (Nat × xm_Q) := [(0, .aload_n 0, 1, 0, 0, 0), (1, .iload_n 1, 2, 1, 0, 0), (2, .invokevirtual 70, 5, 34, 2, 1), (5, .ifCond .eq 10, 8, 15, 0, 0), (8, .iload_n 2, 9, 2, 0, 0), (9, .invokestatic 78, 12, 32, 1, 1), (12, .ifCond .ne 6, 15, 18, 0, 0), (15, .ldc 73, 17, 0, 0, (-1000001)), (17, .ireturn, 18, 0, 0, 0), (18, .aload_n 0, 19, 0, 0, 0), (19, .iload_n 1, 20, 1, 0, 0), (20, .iload_n 2, 21, 2, 0, 0), (21, .invokevirtual 85, 24, 38, 3, 1), (24, .istore_n 3, 25, 3, 0, 0), (25, .iload_n 3, 26, 3, 0, 0), (26, .iconst (-1), 27, 0, 0, (-1)), (27, .if_icmp .ne 6, 30, 33, 0, 0), (30, .ldc 60, 32, 0, 0, (-1000002)), (32, .ireturn, 33, 0, 0, 0), (33, .aload_n 0, 34, 0, 0, 0), (34, .getfield 21, 37, 1, 3, 1), (37, .iload_n 1, 38, 1, 0, 0), (38, .iconst 3, 39, 0, 0, 3), (39, .imul, 40, 0, 0, 0), (40, .iload_n 2, 41, 2, 0, 0), (41, .iadd, 42, 0, 0, 0), (42, .iconst (-1), 43, 0, 0, (-1)), (43, .iastore, 44, 0, 0, 0), (44, .iload_n 3, 45, 3, 0, 0), (45, .ireturn, 46, 0, 0, 0)]
-- 19 yX1_setPin
def xt_19 : List (Nat × xm_Q) := [(0, .aload_n 0, 1, 0, 0, 0), (1, .iload_n 1, 2, 1, 0, 0), (2, .invokevirtual 70, 5, 34, 2, 1), (5, .ifCond .ne 6, 8, 11, 0, 0), (8, .ldc 73, 10, 0, 0, (-1000001)), (10, .ireturn, 11, 0, 0, 0), (11, .aload_n 0, 12, 0, 0, 0), (12, .getfield 30, 15, 1, 6, 0), (15, .iload_n 1, 16, 1, 0, 0), (16, .invokestatic 89, 19, 83, 2, 2), (19, .ifCond .eq 6, 22, 25, 0, 0), (22, .ldc 60, 24, 0, 0, (-1000002)), (24, .ireturn, 25, 0, 0, 0), (25, .aload_n 0, 26, 0, 0, 0), (26, .dup, 27, 0, 0, 0), (27, .getfield 30, 30, 1, 6, 0), (30, .iconst 1, 31, 0, 0, 1), (31, .iload_n 1, 32, 1, 0, 0), (32, .ishl, 33, 0, 0, 0), (33, .ior, 34, 0, 0, 0), (34, .putfield 30, 37, 1, 6, 0), (37, .aload_n 0, 38, 0, 0, 0), (38, .getfield 30, 41, 1, 6, 0), (41, .invokestatic 92, 44, 166, 1, 0), (44, .ireturn, 45, 0, 0, 0)]
-- 20 yX1_takePin
def xt_20 : List (Nat × xm_Q) := [(0, .aload_n 0, 1, 0, 0, 0), (1, .iload_n 1, 2, 1, 0, 0), (2, .invokevirtual 70, 5, 34, 2, 1), (5, .ifCond .ne 6, 8, 11, 0, 0), (8, .ldc 73, 10, 0, 0, (-1000001)), (10, .ireturn, 11, 0, 0, 0), (11, .aload_n 0, 12, 0, 0, 0), (12, .getfield 30, 15, 1, 6, 0), (15, .iload_n 1, 16, 1, 0, 0), (16, .invokestatic 89, 19, 83, 2, 2), (19, .ifCond .ne 6, 22, 25, 0, 0), (22, .ldc 60, 24, 0, 0, (-1000002)), (24, .ireturn, 25, 0, 0, 0), (25, .aload_n 0, 26, 0, 0, 0), (26, .dup, 27, 0, 0, 0), (27, .getfield 30, 30, 1, 6, 0), (30, .iconst 1, 31, 0, 0, 1), (31, .iload_n 1, 32, 1, 0, 0), (32, .ishl, 33, 0, 0, 0), (33, .iconst (-1), 34, 0, 0, (-1)), (34, .ixor, 35, 0, 0, 0), (35, .iand, 36, 0, 0, 0), (36, .putfield 30, 39, 1, 6, 0), (39, .aload_n 0, 40, 0, 0, 0), (40, .getfield 30, 43, 1, 6, 0), (43, .invokestatic 92, 46, 166, 1, 0), (46, .ireturn, 47, 0, 0, 0)]
-- 21 yX1_passWinter
def xt_21 : List (Nat × xm_Q) := [(0, .iload_n 1, 1, 1, 0, 0), (1, .ifCond .lt 8, 4, 9, 0, 0), (4, .iload_n 1, 5, 1, 0, 0), (5, .iconst 2, 6, 0, 0, 2), (6, .if_icmp .lt 6, 9, 12, 0, 0), (9, .ldc 73, 11, 0, 0, (-1000001)), (11, .ireturn, 12, 0, 0, 0), (12, .aload_n 0, 13, 0, 0, 0), (13, .iload_n 1, 14, 1, 0, 0), (14, .invokevirtual 97, 17, 52, 2, 1), (17, .istore_n 2, 18, 2, 0, 0), (18, .aload_n 0, 19, 0, 0, 0), (19, .iload_n 1, 20, 1, 0, 0), (20, .invokevirtual 100, 23, 48, 2, 1), (23, .iload_n 2, 24, 2, 0, 0), (24, .iconst (-1), 25, 0, 0, (-1)), (25, .ixor, 26, 0, 0, 0), (26, .iand, 27, 0, 0, 0), (27, .istore_n 3, 28, 3, 0, 0), (28, .aload_n 0, 29, 0, 0, 0), (29, .iconst 0, 30, 0, 0, 0), (30, .invokevirtual 103, 33, 46, 2, 1), (33, .istore 4, 35, 4, 0, 0), (35, .aload_n 0, 36, 0, 0, 0), (36, .iload_n 2, 37, 2, 0, 0), (37, .aload_n 0, 38, 0, 0, 0), (38, .getfield 30, 41, 1, 6, 0), (41, .iand, 42, 0, 0, 0), (42, .invokevirtual 106, 45, 23, 2, 1), (45, .iconst 0, 46, 0, 0, 0), (46, .istore 5, 48, 5, 0, 0), (48, .iload 5, 50, 5, 0, 0), (50, .bipush 30, 52, 0, 0, 30), (52, .if_icmp .ge 52, 55, 104, 0, 0), (55, .iload_n 2, 56, 2, 0, 0), (56, .aload_n 0, 57, 0, 0, 0), (57, .getfield 30, 60, 1, 6, 0), (60, .iconst (-1), 61, 0, 0, (-1)), (61, .ixor, 62, 0, 0, 0), (62, .iand, 63, 0, 0, 0), (63, .iload 5, 65, 5, 0, 0), (65, .invokestatic 89, 68, 83, 2, 2), (68, .ifCond .eq 30, 71, 98, 0, 0), (71, .aload_n 0, 72, 0, 0, 0), (72, .iload 5, 74, 5, 0, 0), (74, .iload 4, 76, 4, 0, 0), (76, .iload 5, 78, 5, 0, 0), (78, .invokestatic 89, 81, 83, 2, 2), (81, .ifCond .eq 7, 84, 88, 0, 0), (84, .iconst 1, 85, 0, 0, 1), (85, .goto 4, 88, 89, 0, 0), (88, .iconst 2, 89, 0, 0, 2), (89, .invokevirtual 110, 92, 24, 3, 1), (92, .ifCond .ne 6, 95, 98, 0, 0), (95, .ldc 60, 97, 0, 0, (-1000002)), (97, .ireturn, 98, 0, 0, 0), (98, .iinc 5 1, 101, 5, 0, 1), (101, .goto (-53), 104, 48, 0, 0), (104, .aload_n 0, 105, 0, 0, 0), (105, .iload_n 3, 106, 3, 0, 0), (106, .invokevirtual 113, 109, 27, 2, 1), (109, .aload_n 0, 110, 0, 0, 0), (110, .dup, 111, 0, 0, 0), (111, .getfield 37, 114, 1, 8, 0), (114, .iconst 1, 115, 0, 0, 1), (115, .iadd, 116, 0, 0, 0), (116, .putfield 37, 119, 1, 8, 0), (119, .iload_n 3, 120, 3, 0, 0), (120, .invokestatic 92, 123, 166, 1, 0), (123, .ireturn, 124, 0, 0, 0)]
-- 22 yX1_turnFully
def xt_22 : List (Nat × xm_Q) := [(0, .aload_n 0, 1, 0, 0, 0), (1, .invokevirtual 116, 4, 47, 1, 1), (4, .aload_n 0, 5, 0, 0, 0), (5, .invokevirtual 119, 8, 51, 1, 1), (8, .iconst (-1), 9, 0, 0, (-1)), (9, .ixor, 10, 0, 0, 0), (10, .iand, 11, 0, 0, 0), (11, .istore_n 1, 12, 1, 0, 0), (12, .aload_n 0, 13, 0, 0, 0), (13, .iload_n 1, 14, 1, 0, 0), (14, .invokevirtual 113, 17, 27, 2, 1), (17, .aload_n 0, 18, 0, 0, 0), (18, .dup, 19, 0, 0, 0), (19, .getfield 40, 22, 1, 9, 0), (22, .iconst 1, 23, 0, 0, 1), (23, .iadd, 24, 0, 0, 0), (24, .putfield 40, 27, 1, 9, 0), (27, .iload_n 1, 28, 1, 0, 0), (28, .invokestatic 92, 31, 166, 1, 0), (31, .ireturn, 32, 0, 0, 0)]
-- 23 yX1_warmHousesWith
def xt_23 : List (Nat × xm_Q) := [(0, .iconst 0, 1, 0, 0, 0), (1, .istore_n 2, 2, 2, 0, 0), (2, .iload_n 2, 3, 2, 0, 0), (3, .bipush 8, 5, 0, 0, 8), (5, .if_icmp .ge 29, 8, 34, 0, 0), (8, .aload_n 0, 9, 0, 0, 0), (9, .iload_n 2, 10, 2, 0, 0), (10, .invokevirtual 122, 13, 42, 2, 1), (13, .iload_n 1, 14, 1, 0, 0), (14, .iand, 15, 0, 0, 0), (15, .ifCond .eq 13, 18, 28, 0, 0), (18, .aload_n 0, 19, 0, 0, 0), (19, .getfield 9, 22, 1, 0, 1), (22, .iload_n 2, 23, 2, 0, 0), (23, .dup2, 24, 0, 0, 0), (24, .iaload, 25, 0, 0, 0), (25, .iconst 1, 26, 0, 0, 1), (26, .iadd, 27, 0, 0, 0), (27, .iastore, 28, 0, 0, 0), (28, .iinc 2 1, 31, 2, 0, 1), (31, .goto (-29), 34, 2, 0, 0), (34, .return_, 35, 0, 0, 0)]
-- 24 yX1_moveToRoom
def xt_24 : List (Nat × xm_Q) := [(0, .aload_n 0, 1, 0, 0, 0), (1, .iload_n 2, 2, 2, 0, 0), (2, .invokevirtual 56, 5, 29, 2, 1), (5, .istore_n 3, 6, 3, 0, 0), (6, .iload_n 3, 7, 3, 0, 0), (7, .iconst (-1), 8, 0, 0, (-1)), (8, .if_icmp .ne 5, 11, 13, 0, 0), (11, .iconst 0, 12, 0, 0, 0), (12, .ireturn, 13, 0, 0, 0), (13, .aload_n 0, 14, 0, 0, 0), (14, .iload_n 1, 15, 1, 0, 0), (15, .invokevirtual 125, 18, 26, 2, 1), (18, .aload_n 0, 19, 0, 0, 0), (19, .iload_n 1, 20, 1, 0, 0), (20, .iload_n 3, 21, 3, 0, 0), (21, .iload_n 2, 22, 2, 0, 0), (22, .invokevirtual 62, 25, 25, 4, 1), (25, .aload_n 0, 26, 0, 0, 0), (26, .getfield 24, 29, 1, 4, 1), (29, .iload_n 1, 30, 1, 0, 0), (30, .dup2, 31, 0, 0, 0), (31, .iaload, 32, 0, 0, 0), (32, .iconst 1, 33, 0, 0, 1), (33, .iadd, 34, 0, 0, 0), (34, .iastore, 35, 0, 0, 0), (35, .aload_n 0, 36, 0, 0, 0), (36, .dup, 37, 0, 0, 0), (37, .getfield 43, 40, 1, 10, 0), (40, .iconst 1, 41, 0, 0, 1), (41, .iadd, 42, 0, 0, 0), (42, .putfield 43, 45, 1, 10, 0), (45, .iconst 1, 46, 0, 0, 1), (46, .ireturn, 47, 0, 0, 0)]
-- 25 yX1_moveIn
def xt_25 : List (Nat × xm_Q) := [(0, .aload_n 0, 1, 0, 0, 0), (1, .getfield 9, 4, 1, 0, 1), (4, .iload_n 2, 5, 2, 0, 0), (5, .iconst 5, 6, 0, 0, 5), (6, .idiv, 7, 0, 0, 0), (7, .iload_n 3, 8, 3, 0, 0), (8, .iastore, 9, 0, 0, 0), (9, .aload_n 0, 10, 0, 0, 0), (10, .getfield 15, 13, 1, 1, 1), (13, .iload_n 2, 14, 2, 0, 0), (14, .iload_n 1, 15, 1, 0, 0), (15, .iastore, 16, 0, 0, 0), (16, .aload_n 0, 17, 0, 0, 0), (17, .getfield 18, 20, 1, 2, 1), (20, .iload_n 1, 21, 1, 0, 0), (21, .iload_n 2, 22, 2, 0, 0), (22, .iastore, 23, 0, 0, 0), (23, .return_, 24, 0, 0, 0)]
-- 26 yX1_moveOut
def xt_26 : List (Nat × xm_Q) := [(0, .aload_n 0, 1, 0, 0, 0), (1, .getfield 18, 4, 1, 2, 1), (4, .iload_n 1, 5, 1, 0, 0), (5, .iaload, 6, 0, 0, 0), (6, .istore_n 2, 7, 2, 0, 0), (7, .iload_n 2, 8, 2, 0, 0), (8, .iconst (-1), 9, 0, 0, (-1)), (9, .if_icmp .eq 17, 12, 26, 0, 0), (12, .aload_n 0, 13, 0, 0, 0), (13, .getfield 15, 16, 1, 1, 1), (16, .iload_n 2, 17, 2, 0, 0), (17, .iconst (-1), 18, 0, 0, (-1)), (18, .iastore, 19, 0, 0, 0), (19, .aload_n 0, 20, 0, 0, 0), (20, .getfield 18, 23, 1, 2, 1), (23, .iload_n 1, 24, 1, 0, 0), (24, .iconst (-1), 25, 0, 0, (-1)), (25, .iastore, 26, 0, 0, 0), (26, .return_, 27, 0, 0, 0)]
-- 27 yX1_remove
def xt_27 : List (Nat × xm_Q) := [(0, .iconst 0, 1, 0, 0, 0), (1, .istore_n 2, 2, 2, 0, 0), (2, .iload_n 2, 3, 2, 0, 0), (3, .bipush 30, 5, 0, 0, 30), (5, .if_icmp .ge 46, 8, 51, 0, 0), (8, .iload_n 1, 9, 1, 0, 0), (9, .iload_n 2, 10, 2, 0, 0), (10, .invokestatic 89, 13, 83, 2, 2), (13, .ifCond .eq 32, 16, 45, 0, 0), (16, .aload_n 0, 17, 0, 0, 0), (17, .iload_n 2, 18, 2, 0, 0), (18, .invokevirtual 125, 21, 26, 2, 1), (21, .iconst 0, 22, 0, 0, 0), (22, .istore_n 3, 23, 3, 0, 0), (23, .iload_n 3, 24, 3, 0, 0), (24, .iconst 3, 25, 0, 0, 3), (25, .if_icmp .ge 20, 28, 45, 0, 0), (28, .aload_n 0, 29, 0, 0, 0), (29, .getfield 21, 32, 1, 3, 1), (32, .iload_n 2, 33, 2, 0, 0), (33, .iconst 3, 34, 0, 0, 3), (34, .imul, 35, 0, 0, 0), (35, .iload_n 3, 36, 3, 0, 0), (36, .iadd, 37, 0, 0, 0), (37, .iconst (-1), 38, 0, 0, (-1)), (38, .iastore, 39, 0, 0, 0), (39, .iinc 3 1, 42, 3, 0, 1), (42, .goto (-19), 45, 23, 0, 0), (45, .iinc 2 1, 48, 2, 0, 1), (48, .goto (-46), 51, 2, 0, 0), (51, .aload_n 0, 52, 0, 0, 0), (52, .invokevirtual 128, 55, 28, 1, 1), (55, .return_, 56, 0, 0, 0)]
-- 28 yX1_freeEmptyHouses
def xt_28 : List (Nat × xm_Q) := [(0, .iconst 0, 1, 0, 0, 0), (1, .istore_n 1, 2, 1, 0, 0), (2, .iload_n 1, 3, 1, 0, 0), (3, .bipush 8, 5, 0, 0, 8), (5, .if_icmp .ge 24, 8, 29, 0, 0), (8, .aload_n 0, 9, 0, 0, 0), (9, .iload_n 1, 10, 1, 0, 0), (10, .invokevirtual 122, 13, 42, 2, 1), (13, .ifCond .ne 10, 16, 23, 0, 0), (16, .aload_n 0, 17, 0, 0, 0), (17, .getfield 9, 20, 1, 0, 1), (20, .iload_n 1, 21, 1, 0, 0), (21, .iconst (-1), 22, 0, 0, (-1)), (22, .iastore, 23, 0, 0, 0), (23, .iinc 1 1, 26, 1, 0, 1), (26, .goto (-24), 29, 2, 0, 0), (29, .return_, 30, 0, 0, 0)]
-- 29 yX1_roomOf
def xt_29 : List (Nat × xm_Q) := [(0, .iconst 0, 1, 0, 0, 0), (1, .istore_n 2, 2, 2, 0, 0), (2, .iload_n 2, 3, 2, 0, 0), (3, .bipush 8, 5, 0, 0, 8), (5, .if_icmp .ge 32, 8, 37, 0, 0), (8, .aload_n 0, 9, 0, 0, 0), (9, .getfield 9, 12, 1, 0, 1), (12, .iload_n 2, 13, 2, 0, 0), (13, .iaload, 14, 0, 0, 0), (14, .iload_n 1, 15, 1, 0, 0), (15, .if_icmp .ne 16, 18, 31, 0, 0), (18, .aload_n 0, 19, 0, 0, 0), (19, .iload_n 2, 20, 2, 0, 0), (20, .invokevirtual 131, 23, 30, 2, 1), (23, .istore_n 3, 24, 3, 0, 0), (24, .iload_n 3, 25, 3, 0, 0), (25, .iconst (-1), 26, 0, 0, (-1)), (26, .if_icmp .eq 5, 29, 31, 0, 0), (29, .iload_n 3, 30, 3, 0, 0), (30, .ireturn, 31, 0, 0, 0), (31, .iinc 2 1, 34, 2, 0, 1), (34, .goto (-32), 37, 2, 0, 0), (37, .iconst 0, 38, 0, 0, 0), (38, .istore_n 2, 39, 2, 0, 0), (39, .iload_n 2, 40, 2, 0, 0), (40, .bipush 8, 42, 0, 0, 8), (42, .if_icmp .ge 23, 45, 65, 0, 0), (45, .aload_n 0, 46, 0, 0, 0), (46, .getfield 9, 49, 1, 0, 1), (49, .iload_n 2, 50, 2, 0, 0), (50, .iaload, 51, 0, 0, 0), (51, .iconst (-1), 52, 0, 0, (-1)), (52, .if_icmp .ne 7, 55, 59, 0, 0), (55, .iload_n 2, 56, 2, 0, 0), (56, .iconst 5, 57, 0, 0, 5), (57, .imul, 58, 0, 0, 0), (58, .ireturn, 59, 0, 0, 0), (59, .iinc 2 1, 62, 2, 0, 1), (62, .goto (-23), 65, 39, 0, 0), (65, .iconst (-1), 66, 0, 0, (-1)), (66, .ireturn, 67, 0, 0, 0)]
-- 30 yX1_emptySpotIn
def xt_30 : List (Nat × xm_Q) := [(0, .iconst 0, 1, 0, 0, 0), (1, .istore_n 2, 2, 2, 0, 0), (2, .iload_n 2, 3, 2, 0, 0), (3, .iconst 5, 4, 0, 0, 5), (4, .if_icmp .ge 27, 7, 31, 0, 0), (7, .iload_n 1, 8, 1, 0, 0), (8, .iconst 5, 9, 0, 0, 5), (9, .imul, 10, 0, 0, 0), (10, .iload_n 2, 11, 2, 0, 0), (11, .iadd, 12, 0, 0, 0), (12, .istore_n 3, 13, 3, 0, 0), (13, .aload_n 0, 14, 0, 0, 0), (14, .getfield 15, 17, 1, 1, 1), (17, .iload_n 3, 18, 3, 0, 0), (18, .iaload, 19, 0, 0, 0), (19, .iconst (-1), 20, 0, 0, (-1)), (20, .if_icmp .ne 5, 23, 25, 0, 0), (23, .iload_n 3, 24, 3, 0, 0), (24, .ireturn, 25, 0, 0, 0), (25, .iinc 2 1, 28, 2, 0, 1), (28, .goto (-26), 31, 2, 0, 0), (31, .iconst (-1), 32, 0, 0, (-1)), (32, .ireturn, 33, 0, 0, 0)]
-- 31 yX1_isHand
def xt_31 : List (Nat × xm_Q) := [(0, .iload_n 0, 1, 0, 0, 0), (1, .ifCond .lt 12, 4, 13, 0, 0), (4, .iload_n 0, 5, 0, 0, 0), (5, .iconst 4, 6, 0, 0, 4), (6, .if_icmp .ge 7, 9, 13, 0, 0), (9, .iconst 1, 10, 0, 0, 1), (10, .goto 4, 13, 14, 0, 0), (13, .iconst 0, 14, 0, 0, 0), (14, .ireturn, 15, 0, 0, 0)]
-- 32 yX1_isString
def xt_32 : List (Nat × xm_Q) := [(0, .iload_n 0, 1, 0, 0, 0), (1, .ifCond .lt 12, 4, 13, 0, 0), (4, .iload_n 0, 5, 0, 0, 0), (5, .iconst 3, 6, 0, 0, 3), (6, .if_icmp .ge 7, 9, 13, 0, 0), (9, .iconst 1, 10, 0, 0, 1), (10, .goto 4, 13, 14, 0, 0), (13, .iconst 0, 14, 0, 0, 0), (14, .ireturn, 15, 0, 0, 0)]
-- 33 yX1_came
def xt_33 : List (Nat × xm_Q) := [(0, .iload_n 1, 1, 1, 0, 0), (1, .ifCond .lt 21, 4, 22, 0, 0), (4, .iload_n 1, 5, 1, 0, 0), (5, .bipush 30, 7, 0, 0, 30), (7, .if_icmp .ge 15, 10, 22, 0, 0), (10, .iload_n 1, 11, 1, 0, 0), (11, .aload_n 0, 12, 0, 0, 0), (12, .getfield 34, 15, 1, 7, 0), (15, .if_icmp .ge 7, 18, 22, 0, 0), (18, .iconst 1, 19, 0, 0, 1), (19, .goto 4, 22, 23, 0, 0), (22, .iconst 0, 23, 0, 0, 0), (23, .ireturn, 24, 0, 0, 0)]
-- 34 yX1_lives
def xt_34 : List (Nat × xm_Q) := [(0, .iload_n 1, 1, 1, 0, 0), (1, .ifCond .lt 23, 4, 24, 0, 0), (4, .iload_n 1, 5, 1, 0, 0), (5, .bipush 30, 7, 0, 0, 30), (7, .if_icmp .ge 17, 10, 24, 0, 0), (10, .aload_n 0, 11, 0, 0, 0), (11, .getfield 18, 14, 1, 2, 1), (14, .iload_n 1, 15, 1, 0, 0), (15, .iaload, 16, 0, 0, 0), (16, .iconst (-1), 17, 0, 0, (-1)), (17, .if_icmp .eq 7, 20, 24, 0, 0), (20, .iconst 1, 21, 0, 0, 1), (21, .goto 4, 24, 25, 0, 0), (24, .iconst 0, 25, 0, 0, 0), (25, .ireturn, 26, 0, 0, 0)]
-- 35 yX1_addressOf
def xt_35 : List (Nat × xm_Q) := [(0, .aload_n 0, 1, 0, 0, 0), (1, .iload_n 1, 2, 1, 0, 0), (2, .invokevirtual 70, 5, 34, 2, 1), (5, .ifCond .ne 5, 8, 10, 0, 0), (8, .iconst (-1), 9, 0, 0, (-1)), (9, .ireturn, 10, 0, 0, 0), (10, .aload_n 0, 11, 0, 0, 0), (11, .getfield 18, 14, 1, 2, 1), (14, .iload_n 1, 15, 1, 0, 0), (15, .iaload, 16, 0, 0, 0), (16, .iconst 5, 17, 0, 0, 5), (17, .idiv, 18, 0, 0, 0), (18, .bipush 10, 20, 0, 0, 10), (20, .imul, 21, 0, 0, 0), (21, .aload_n 0, 22, 0, 0, 0), (22, .getfield 18, 25, 1, 2, 1), (25, .iload_n 1, 26, 1, 0, 0), (26, .iaload, 27, 0, 0, 0), (27, .iconst 5, 28, 0, 0, 5), (28, .irem, 29, 0, 0, 0), (29, .iadd, 30, 0, 0, 0), (30, .ireturn, 31, 0, 0, 0)]
-- 36 yX1_ageOf
def xt_36 : List (Nat × xm_Q) := [(0, .aload_n 0, 1, 0, 0, 0), (1, .iload_n 1, 2, 1, 0, 0), (2, .invokevirtual 70, 5, 34, 2, 1), (5, .ifCond .eq 19, 8, 24, 0, 0), (8, .aload_n 0, 9, 0, 0, 0), (9, .getfield 9, 12, 1, 0, 1), (12, .aload_n 0, 13, 0, 0, 0), (13, .getfield 18, 16, 1, 2, 1), (16, .iload_n 1, 17, 1, 0, 0), (17, .iaload, 18, 0, 0, 0), (18, .iconst 5, 19, 0, 0, 5), (19, .idiv, 20, 0, 0, 0), (20, .iaload, 21, 0, 0, 0), (21, .goto 4, 24, 25, 0, 0), (24, .iconst (-1), 25, 0, 0, (-1)), (25, .ireturn, 26, 0, 0, 0)]
-- 37 yX1_movesOf
def xt_37 : List (Nat × xm_Q) := [(0, .aload_n 0, 1, 0, 0, 0), (1, .iload_n 1, 2, 1, 0, 0), (2, .invokevirtual 134, 5, 33, 2, 1), (5, .ifCond .eq 12, 8, 17, 0, 0), (8, .aload_n 0, 9, 0, 0, 0), (9, .getfield 24, 12, 1, 4, 1), (12, .iload_n 1, 13, 1, 0, 0), (13, .iaload, 14, 0, 0, 0), (14, .goto 4, 17, 18, 0, 0), (17, .iconst 0, 18, 0, 0, 0), (18, .ireturn, 19, 0, 0, 0)]
-- 38 yX1_tiedAt
def xt_38 : List (Nat × xm_Q) := [(0, .aload_n 0, 1, 0, 0, 0), (1, .iload_n 1, 2, 1, 0, 0), (2, .invokevirtual 134, 5, 33, 2, 1), (5, .ifCond .eq 10, 8, 15, 0, 0), (8, .iload_n 2, 9, 2, 0, 0), (9, .invokestatic 78, 12, 32, 1, 1), (12, .ifCond .ne 5, 15, 17, 0, 0), (15, .iconst (-1), 16, 0, 0, (-1)), (16, .ireturn, 17, 0, 0, 0), (17, .aload_n 0, 18, 0, 0, 0), (18, .getfield 21, 21, 1, 3, 1), (21, .iload_n 1, 22, 1, 0, 0), (22, .iconst 3, 23, 0, 0, 3), (23, .imul, 24, 0, 0, 0), (24, .iload_n 2, 25, 2, 0, 0), (25, .iadd, 26, 0, 0, 0), (26, .iaload, 27, 0, 0, 0), (27, .ireturn, 28, 0, 0, 0)]
-- 39 yX1_isNoted
def xt_39 : List (Nat × xm_Q) := [(0, .aload_n 0, 1, 0, 0, 0), (1, .iload_n 1, 2, 1, 0, 0), (2, .iload_n 2, 3, 2, 0, 0), (3, .invokevirtual 85, 6, 38, 3, 1), (6, .istore_n 3, 7, 3, 0, 0), (7, .iload_n 3, 8, 3, 0, 0), (8, .iconst (-1), 9, 0, 0, (-1)), (9, .if_icmp .eq 20, 12, 29, 0, 0), (12, .aload_n 0, 13, 0, 0, 0), (13, .iload_n 3, 14, 3, 0, 0), (14, .invokevirtual 137, 17, 36, 2, 1), (17, .aload_n 0, 18, 0, 0, 0), (18, .iload_n 1, 19, 1, 0, 0), (19, .invokevirtual 137, 22, 36, 2, 1), (22, .if_icmp .ge 7, 25, 29, 0, 0), (25, .iconst 1, 26, 0, 0, 1), (26, .goto 4, 29, 30, 0, 0), (29, .iconst 0, 30, 0, 0, 0), (30, .ireturn, 31, 0, 0, 0)]
-- 40 yX1_handsOn
def xt_40 : List (Nat × xm_Q) := [(0, .iconst 0, 1, 0, 0, 0), (1, .istore_n 2, 2, 2, 0, 0), (2, .iconst 0, 3, 0, 0, 0), (3, .istore_n 3, 4, 3, 0, 0), (4, .iload_n 3, 5, 3, 0, 0), (5, .iconst 4, 6, 0, 0, 4), (6, .if_icmp .ge 25, 9, 31, 0, 0), (9, .aload_n 0, 10, 0, 0, 0), (10, .getfield 27, 13, 1, 5, 1), (13, .iload_n 3, 14, 3, 0, 0), (14, .iaload, 15, 0, 0, 0), (15, .iload_n 1, 16, 1, 0, 0), (16, .if_icmp .ne 9, 19, 25, 0, 0), (19, .iload_n 2, 20, 2, 0, 0), (20, .iconst 1, 21, 0, 0, 1), (21, .iload_n 3, 22, 3, 0, 0), (22, .ishl, 23, 0, 0, 0), (23, .ior, 24, 0, 0, 0), (24, .istore_n 2, 25, 2, 0, 0), (25, .iinc 3 1, 28, 3, 0, 1), (28, .goto (-24), 31, 4, 0, 0), (31, .iload_n 2, 32, 2, 0, 0), (32, .ireturn, 33, 0, 0, 0)]
-- 41 yX1_tiedTo
def xt_41 : List (Nat × xm_Q) := [(0, .iconst 0, 1, 0, 0, 0), (1, .istore_n 2, 2, 2, 0, 0), (2, .iconst 0, 3, 0, 0, 0), (3, .istore_n 3, 4, 3, 0, 0), (4, .iload_n 3, 5, 3, 0, 0), (5, .bipush 30, 7, 0, 0, 30), (7, .if_icmp .ge 45, 10, 52, 0, 0), (10, .iconst 0, 11, 0, 0, 0), (11, .istore 4, 13, 4, 0, 0), (13, .iload 4, 15, 4, 0, 0), (15, .iconst 3, 16, 0, 0, 3), (16, .if_icmp .ge 30, 19, 46, 0, 0), (19, .aload_n 0, 20, 0, 0, 0), (20, .getfield 21, 23, 1, 3, 1), (23, .iload_n 3, 24, 3, 0, 0), (24, .iconst 3, 25, 0, 0, 3), (25, .imul, 26, 0, 0, 0), (26, .iload 4, 28, 4, 0, 0), (28, .iadd, 29, 0, 0, 0), (29, .iaload, 30, 0, 0, 0), (30, .iload_n 1, 31, 1, 0, 0), (31, .if_icmp .ne 9, 34, 40, 0, 0), (34, .iload_n 2, 35, 2, 0, 0), (35, .iconst 1, 36, 0, 0, 1), (36, .iload_n 3, 37, 3, 0, 0), (37, .ishl, 38, 0, 0, 0), (38, .ior, 39, 0, 0, 0), (39, .istore_n 2, 40, 2, 0, 0), (40, .iinc 4 1, 43, 4, 0, 1), (43, .goto (-30), 46, 13, 0, 0), (46, .iinc 3 1, 49, 3, 0, 1), (49, .goto (-45), 52, 4, 0, 0), (52, .iload_n 2, 53, 2, 0, 0), (53, .ireturn, 54, 0, 0, 0)]
-- 42 yX1_thingsIn
def xt_42 : List (Nat × xm_Q) := [(0, .iconst 0, 1, 0, 0, 0), (1, .istore_n 2, 2, 2, 0, 0), (2, .iload_n 1, 3, 1, 0, 0), (3, .ifCond .lt 47, 6, 50, 0, 0), (6, .iload_n 1, 7, 1, 0, 0), (7, .bipush 8, 9, 0, 0, 8), (9, .if_icmp .ge 41, 12, 50, 0, 0), (12, .iconst 0, 13, 0, 0, 0), (13, .istore_n 3, 14, 3, 0, 0), (14, .iload_n 3, 15, 3, 0, 0), (15, .iconst 5, 16, 0, 0, 5), (16, .if_icmp .ge 34, 19, 50, 0, 0), (19, .aload_n 0, 20, 0, 0, 0), (20, .getfield 15, 23, 1, 1, 1), (23, .iload_n 1, 24, 1, 0, 0), (24, .iconst 5, 25, 0, 0, 5), (25, .imul, 26, 0, 0, 0), (26, .iload_n 3, 27, 3, 0, 0), (27, .iadd, 28, 0, 0, 0), (28, .iaload, 29, 0, 0, 0), (29, .istore 4, 31, 4, 0, 0), (31, .iload 4, 33, 4, 0, 0), (33, .iconst (-1), 34, 0, 0, (-1)), (34, .if_icmp .eq 10, 37, 44, 0, 0), (37, .iload_n 2, 38, 2, 0, 0), (38, .iconst 1, 39, 0, 0, 1), (39, .iload 4, 41, 4, 0, 0), (41, .ishl, 42, 0, 0, 0), (42, .ior, 43, 0, 0, 0), (43, .istore_n 2, 44, 2, 0, 0), (44, .iinc 3 1, 47, 3, 0, 1), (47, .goto (-33), 50, 14, 0, 0), (50, .iload_n 2, 51, 2, 0, 0), (51, .ireturn, 52, 0, 0, 0)]
-- 43 yX1_fullHands
def xt_43 : List (Nat × xm_Q) := [(0, .iconst 0, 1, 0, 0, 0), (1, .istore_n 1, 2, 1, 0, 0), (2, .iconst 0, 3, 0, 0, 0), (3, .istore_n 2, 4, 2, 0, 0), (4, .iload_n 2, 5, 2, 0, 0), (5, .iconst 4, 6, 0, 0, 4), (6, .if_icmp .ge 22, 9, 28, 0, 0), (9, .aload_n 0, 10, 0, 0, 0), (10, .getfield 27, 13, 1, 5, 1), (13, .iload_n 2, 14, 2, 0, 0), (14, .iaload, 15, 0, 0, 0), (15, .iconst (-1), 16, 0, 0, (-1)), (16, .if_icmp .eq 6, 19, 22, 0, 0), (19, .iinc 1 1, 22, 1, 0, 1), (22, .iinc 2 1, 25, 2, 0, 1), (25, .goto (-21), 28, 4, 0, 0), (28, .iload_n 1, 29, 1, 0, 0), (29, .ireturn, 30, 0, 0, 0)]
-- 44 yX1_freeHouses
def xt_44 : List (Nat × xm_Q) := [(0, .iconst 0, 1, 0, 0, 0), (1, .istore_n 1, 2, 1, 0, 0), (2, .iconst 0, 3, 0, 0, 0), (3, .istore_n 2, 4, 2, 0, 0), (4, .iload_n 2, 5, 2, 0, 0), (5, .bipush 8, 7, 0, 0, 8), (7, .if_icmp .ge 22, 10, 29, 0, 0), (10, .aload_n 0, 11, 0, 0, 0), (11, .getfield 9, 14, 1, 0, 1), (14, .iload_n 2, 15, 2, 0, 0), (15, .iaload, 16, 0, 0, 0), (16, .iconst (-1), 17, 0, 0, (-1)), (17, .if_icmp .ne 6, 20, 23, 0, 0), (20, .iinc 1 1, 23, 1, 0, 1), (23, .iinc 2 1, 26, 2, 0, 1), (26, .goto (-22), 29, 4, 0, 0), (29, .iload_n 1, 30, 1, 0, 0), (30, .ireturn, 31, 0, 0, 0)]
-- 45 yX1_notedStrings
def xt_45 : List (Nat × xm_Q) := [(0, .iconst 0, 1, 0, 0, 0), (1, .istore_n 1, 2, 1, 0, 0), (2, .iconst 0, 3, 0, 0, 0), (3, .istore_n 2, 4, 2, 0, 0), (4, .iload_n 2, 5, 2, 0, 0), (5, .bipush 30, 7, 0, 0, 30), (7, .if_icmp .ge 34, 10, 41, 0, 0), (10, .iconst 0, 11, 0, 0, 0), (11, .istore_n 3, 12, 3, 0, 0), (12, .iload_n 3, 13, 3, 0, 0), (13, .iconst 3, 14, 0, 0, 3), (14, .if_icmp .ge 21, 17, 35, 0, 0), (17, .aload_n 0, 18, 0, 0, 0), (18, .iload_n 2, 19, 2, 0, 0), (19, .iload_n 3, 20, 3, 0, 0), (20, .invokevirtual 81, 23, 39, 3, 1), (23, .ifCond .eq 6, 26, 29, 0, 0), (26, .iinc 1 1, 29, 1, 0, 1), (29, .iinc 3 1, 32, 3, 0, 1), (32, .goto (-20), 35, 12, 0, 0), (35, .iinc 2 1, 38, 2, 0, 1), (38, .goto (-34), 41, 4, 0, 0), (41, .iload_n 1, 42, 1, 0, 0), (42, .ireturn, 43, 0, 0, 0)]
-- 46 yX1_ageSet
def xt_46 : List (Nat × xm_Q) := [(0, .aload_n 0, 1, 0, 0, 0), (1, .iload_n 1, 2, 1, 0, 0), (2, .iload_n 1, 3, 1, 0, 0), (3, .invokevirtual 140, 6, 49, 3, 1), (6, .ireturn, 7, 0, 0, 0)]
-- 47 yX1_livingSet
def xt_47 : List (Nat × xm_Q) := [(0, .aload_n 0, 1, 0, 0, 0), (1, .iconst 0, 2, 0, 0, 0), (2, .iconst 2, 3, 0, 0, 2), (3, .invokevirtual 140, 6, 49, 3, 1), (6, .ireturn, 7, 0, 0, 0)]
-- 48 yX1_concernedSet
def xt_48 : List (Nat × xm_Q) := [(0, .aload_n 0, 1, 0, 0, 0), (1, .iconst 0, 2, 0, 0, 0), (2, .iload_n 1, 3, 1, 0, 0), (3, .invokevirtual 140, 6, 49, 3, 1), (6, .ireturn, 7, 0, 0, 0)]
-- 49 yX1_agesSet
def xt_49 : List (Nat × xm_Q) := [(0, .iconst 0, 1, 0, 0, 0), (1, .istore_n 3, 2, 3, 0, 0), (2, .iconst 0, 3, 0, 0, 0), (3, .istore 4, 5, 4, 0, 0), (5, .iload 4, 7, 4, 0, 0), (7, .bipush 30, 9, 0, 0, 30), (9, .if_icmp .ge 54, 12, 63, 0, 0), (12, .aload_n 0, 13, 0, 0, 0), (13, .getfield 18, 16, 1, 2, 1), (16, .iload 4, 18, 4, 0, 0), (18, .iaload, 19, 0, 0, 0), (19, .istore 5, 21, 5, 0, 0), (21, .iload 5, 23, 5, 0, 0), (23, .iconst (-1), 24, 0, 0, (-1)), (24, .if_icmp .eq 33, 27, 57, 0, 0), (27, .aload_n 0, 28, 0, 0, 0), (28, .getfield 9, 31, 1, 0, 1), (31, .iload 5, 33, 5, 0, 0), (33, .iconst 5, 34, 0, 0, 5), (34, .idiv, 35, 0, 0, 0), (35, .iaload, 36, 0, 0, 0), (36, .istore 6, 38, 6, 0, 0), (38, .iload 6, 40, 6, 0, 0), (40, .iload_n 1, 41, 1, 0, 0), (41, .if_icmp .lt 16, 44, 57, 0, 0), (44, .iload 6, 46, 6, 0, 0), (46, .iload_n 2, 47, 2, 0, 0), (47, .if_icmp .gt 10, 50, 57, 0, 0), (50, .iload_n 3, 51, 3, 0, 0), (51, .iconst 1, 52, 0, 0, 1), (52, .iload 4, 54, 4, 0, 0), (54, .ishl, 55, 0, 0, 0), (55, .ior, 56, 0, 0, 0), (56, .istore_n 3, 57, 3, 0, 0), (57, .iinc 4 1, 60, 4, 0, 1), (60, .goto (-55), 63, 5, 0, 0), (63, .iload_n 3, 64, 3, 0, 0), (64, .ireturn, 65, 0, 0, 0)]
-- 50 yX1_rootSet
def xt_50 : List (Nat × xm_Q) := [(0, .aload_n 0, 1, 0, 0, 0), (1, .getfield 30, 4, 1, 6, 0), (4, .istore_n 1, 5, 1, 0, 0), (5, .iconst 0, 6, 0, 0, 0), (6, .istore_n 2, 7, 2, 0, 0), (7, .iload_n 2, 8, 2, 0, 0), (8, .iconst 4, 9, 0, 0, 4), (9, .if_icmp .ge 30, 12, 39, 0, 0), (12, .aload_n 0, 13, 0, 0, 0), (13, .getfield 27, 16, 1, 5, 1), (16, .iload_n 2, 17, 2, 0, 0), (17, .iaload, 18, 0, 0, 0), (18, .iconst (-1), 19, 0, 0, (-1)), (19, .if_icmp .eq 14, 22, 33, 0, 0), (22, .iload_n 1, 23, 1, 0, 0), (23, .iconst 1, 24, 0, 0, 1), (24, .aload_n 0, 25, 0, 0, 0), (25, .getfield 27, 28, 1, 5, 1), (28, .iload_n 2, 29, 2, 0, 0), (29, .iaload, 30, 0, 0, 0), (30, .ishl, 31, 0, 0, 0), (31, .ior, 32, 0, 0, 0), (32, .istore_n 1, 33, 1, 0, 0), (33, .iinc 2 1, 36, 2, 0, 1), (36, .goto (-29), 39, 7, 0, 0), (39, .iload_n 1, 40, 1, 0, 0), (40, .ireturn, 41, 0, 0, 0)]
-- 51 yX1_neededSet
def xt_51 : List (Nat × xm_Q) := [(0, .aload_n 0, 1, 0, 0, 0), (1, .aload_n 0, 2, 0, 0, 0), (2, .invokevirtual 143, 5, 50, 1, 1), (5, .aload_n 0, 6, 0, 0, 0), (6, .invokevirtual 116, 9, 47, 1, 1), (9, .invokevirtual 146, 12, 54, 3, 1), (12, .ireturn, 13, 0, 0, 0)]
-- 52 yX1_survivingSet
def xt_52 : List (Nat × xm_Q) := [(0, .aload_n 0, 1, 0, 0, 0), (1, .iload_n 1, 2, 1, 0, 0), (2, .invokevirtual 100, 5, 48, 2, 1), (5, .istore_n 2, 6, 2, 0, 0), (6, .aload_n 0, 7, 0, 0, 0), (7, .aload_n 0, 8, 0, 0, 0), (8, .invokevirtual 116, 11, 47, 1, 1), (11, .iload_n 2, 12, 2, 0, 0), (12, .iconst (-1), 13, 0, 0, (-1)), (13, .ixor, 14, 0, 0, 0), (14, .iand, 15, 0, 0, 0), (15, .invokevirtual 149, 18, 53, 2, 1), (18, .istore_n 3, 19, 3, 0, 0), (19, .aload_n 0, 20, 0, 0, 0), (20, .aload_n 0, 21, 0, 0, 0), (21, .invokevirtual 143, 24, 50, 1, 1), (24, .iload_n 3, 25, 3, 0, 0), (25, .ior, 26, 0, 0, 0), (26, .iload_n 2, 27, 2, 0, 0), (27, .invokevirtual 146, 30, 54, 3, 1), (30, .ireturn, 31, 0, 0, 0)]
-- 53 yX1_tiedFrom
def xt_53 : List (Nat × xm_Q) := [(0, .iconst 0, 1, 0, 0, 0), (1, .istore_n 2, 2, 2, 0, 0), (2, .iconst 0, 3, 0, 0, 0), (3, .istore_n 3, 4, 3, 0, 0), (4, .iload_n 3, 5, 3, 0, 0), (5, .bipush 30, 7, 0, 0, 30), (7, .if_icmp .ge 58, 10, 65, 0, 0), (10, .iload_n 1, 11, 1, 0, 0), (11, .iload_n 3, 12, 3, 0, 0), (12, .ishr, 13, 0, 0, 0), (13, .iconst 1, 14, 0, 0, 1), (14, .iand, 15, 0, 0, 0), (15, .ifCond .eq 44, 18, 59, 0, 0), (18, .iconst 0, 19, 0, 0, 0), (19, .istore 4, 21, 4, 0, 0), (21, .iload 4, 23, 4, 0, 0), (23, .iconst 3, 24, 0, 0, 3), (24, .if_icmp .ge 35, 27, 59, 0, 0), (27, .aload_n 0, 28, 0, 0, 0), (28, .getfield 21, 31, 1, 3, 1), (31, .iload_n 3, 32, 3, 0, 0), (32, .iconst 3, 33, 0, 0, 3), (33, .imul, 34, 0, 0, 0), (34, .iload 4, 36, 4, 0, 0), (36, .iadd, 37, 0, 0, 0), (37, .iaload, 38, 0, 0, 0), (38, .istore 5, 40, 5, 0, 0), (40, .iload 5, 42, 5, 0, 0), (42, .iconst (-1), 43, 0, 0, (-1)), (43, .if_icmp .eq 10, 46, 53, 0, 0), (46, .iload_n 2, 47, 2, 0, 0), (47, .iconst 1, 48, 0, 0, 1), (48, .iload 5, 50, 5, 0, 0), (50, .ishl, 51, 0, 0, 0), (51, .ior, 52, 0, 0, 0), (52, .istore_n 2, 53, 2, 0, 0), (53, .iinc 4 1, 56, 4, 0, 1), (56, .goto (-35), 59, 21, 0, 0), (59, .iinc 3 1, 62, 3, 0, 1), (62, .goto (-58), 65, 4, 0, 0), (65, .iload_n 2, 66, 2, 0, 0), (66, .ireturn, 67, 0, 0, 0)]
-- 54 yX1_reach
def xt_54 : List (Nat × xm_Q) := [(0, .iload_n 1, 1, 1, 0, 0), (1, .iload_n 2, 2, 2, 0, 0), (2, .iand, 3, 0, 0, 0), (3, .istore_n 3, 4, 3, 0, 0), (4, .iload_n 3, 5, 3, 0, 0), (5, .istore 4, 7, 4, 0, 0), (7, .iconst 0, 8, 0, 0, 0), (8, .istore 5, 10, 5, 0, 0), (10, .iload 5, 12, 5, 0, 0), (12, .bipush 30, 14, 0, 0, 30), (14, .if_icmp .ge 33, 17, 47, 0, 0), (17, .iload 4, 19, 4, 0, 0), (19, .ifCond .eq 28, 22, 47, 0, 0), (22, .aload_n 0, 23, 0, 0, 0), (23, .iload 4, 25, 4, 0, 0), (25, .invokevirtual 149, 28, 53, 2, 1), (28, .iload_n 2, 29, 2, 0, 0), (29, .iand, 30, 0, 0, 0), (30, .iload_n 3, 31, 3, 0, 0), (31, .iconst (-1), 32, 0, 0, (-1)), (32, .ixor, 33, 0, 0, 0), (33, .iand, 34, 0, 0, 0), (34, .istore 4, 36, 4, 0, 0), (36, .iload_n 3, 37, 3, 0, 0), (37, .iload 4, 39, 4, 0, 0), (39, .ior, 40, 0, 0, 0), (40, .istore_n 3, 41, 3, 0, 0), (41, .iinc 5 1, 44, 5, 0, 1), (44, .goto (-34), 47, 10, 0, 0), (47, .iload_n 3, 48, 3, 0, 0), (48, .ireturn, 49, 0, 0, 0)]
-- 55 yX2_init
def xt_55 : List (Nat × xm_Q) := [(0, .aload_n 0, 1, 0, 0, 0), (1, .invokespecial 3, 4, 1000, 0, 0), (4, .aload_n 0, 5, 0, 0, 0), (5, .bipush 6, 7, 0, 0, 6), (7, .anewarray 9, 10, 0, 0, 0), (10, .putfield 11, 13, 2, 0, 1), (13, .aload_n 0, 14, 0, 0, 0), (14, .new 15, 17, 0, 6, 0), (17, .dup, 18, 0, 0, 0), (18, .invokespecial 17, 21, 0, 1, 0), (21, .putfield 18, 24, 2, 1, 1), (24, .aload_n 0, 25, 0, 0, 0), (25, .iconst 0, 26, 0, 0, 0), (26, .putfield 22, 29, 2, 2, 0), (29, .aload_n 0, 30, 0, 0, 0), (30, .iconst 0, 31, 0, 0, 0), (31, .putfield 26, 34, 2, 3, 0), (34, .iconst 0, 35, 0, 0, 0), (35, .istore_n 1, 36, 1, 0, 0), (36, .iload_n 1, 37, 1, 0, 0), (37, .bipush 6, 39, 0, 0, 6), (39, .if_icmp .ge 22, 42, 61, 0, 0), (42, .aload_n 0, 43, 0, 0, 0), (43, .getfield 11, 46, 2, 0, 1), (46, .iload_n 1, 47, 1, 0, 0), (47, .new 9, 50, 1, 11, 0), (50, .dup, 51, 0, 0, 0), (51, .invokespecial 29, 54, 11, 1, 1), (54, .aastore, 55, 0, 0, 0), (55, .iinc 1 1, 58, 1, 0, 1), (58, .goto (-22), 61, 36, 0, 0), (61, .return_, 62, 0, 0, 0)]
-- 56 yX2_thing
def xt_56 : List (Nat × xm_Q) := [(0, .aload_n 0, 1, 0, 0, 0), (1, .aload_n 0, 2, 0, 0, 0), (2, .invokevirtual 30, 5, 80, 1, 2), (5, .invokevirtual 34, 8, 14, 1, 1), (8, .invokevirtual 38, 11, 81, 2, 2), (11, .ireturn, 12, 0, 0, 0)]
-- 57 yX2_hold
def xt_57 : List (Nat × xm_Q) := [(0, .aload_n 0, 1, 0, 0, 0), (1, .aload_n 0, 2, 0, 0, 0), (2, .invokevirtual 30, 5, 80, 1, 2), (5, .iload_n 1, 6, 1, 0, 0), (6, .iload_n 2, 7, 2, 0, 0), (7, .invokevirtual 42, 10, 15, 3, 1), (10, .invokevirtual 38, 13, 81, 2, 2), (13, .ireturn, 14, 0, 0, 0)]
-- 58 yX2_release
def xt_58 : List (Nat × xm_Q) := [(0, .aload_n 0, 1, 0, 0, 0), (1, .aload_n 0, 2, 0, 0, 0), (2, .invokevirtual 30, 5, 80, 1, 2), (5, .iload_n 1, 6, 1, 0, 0), (6, .invokevirtual 46, 9, 16, 2, 1), (9, .invokevirtual 38, 12, 81, 2, 2), (12, .ireturn, 13, 0, 0, 0)]
-- 59 yX2_tie
def xt_59 : List (Nat × xm_Q) := [(0, .aload_n 0, 1, 0, 0, 0), (1, .aload_n 0, 2, 0, 0, 0), (2, .invokevirtual 30, 5, 80, 1, 2), (5, .iload_n 1, 6, 1, 0, 0), (6, .iload_n 2, 7, 2, 0, 0), (7, .iload_n 3, 8, 3, 0, 0), (8, .invokevirtual 49, 11, 17, 4, 1), (11, .invokevirtual 38, 14, 81, 2, 2), (14, .ireturn, 15, 0, 0, 0)]
-- 60 yX2_loosen
def xt_60 : List (Nat × xm_Q) := [(0, .aload_n 0, 1, 0, 0, 0), (1, .aload_n 0, 2, 0, 0, 0), (2, .invokevirtual 30, 5, 80, 1, 2), (5, .iload_n 1, 6, 1, 0, 0), (6, .iload_n 2, 7, 2, 0, 0), (7, .invokevirtual 53, 10, 18, 3, 1), (10, .invokevirtual 38, 13, 81, 2, 2), (13, .ireturn, 14, 0, 0, 0)]
-- 61 yX2_pin
def xt_61 : List (Nat × xm_Q) := [(0, .aload_n 0, 1, 0, 0, 0), (1, .aload_n 0, 2, 0, 0, 0), (2, .invokevirtual 30, 5, 80, 1, 2), (5, .iload_n 1, 6, 1, 0, 0), (6, .invokevirtual 56, 9, 19, 2, 1), (9, .invokevirtual 38, 12, 81, 2, 2), (12, .ireturn, 13, 0, 0, 0)]
-- 62 yX2_unpin
def xt_62 : List (Nat × xm_Q) := [(0, .aload_n 0, 1, 0, 0, 0), (1, .aload_n 0, 2, 0, 0, 0), (2, .invokevirtual 30, 5, 80, 1, 2), (5, .iload_n 1, 6, 1, 0, 0), (6, .invokevirtual 59, 9, 20, 2, 1), (9, .invokevirtual 38, 12, 81, 2, 2), (12, .ireturn, 13, 0, 0, 0)]
-- 63 yX2_winter
def xt_63 : List (Nat × xm_Q) := [(0, .aload_n 0, 1, 0, 0, 0), (1, .aload_n 0, 2, 0, 0, 0), (2, .invokevirtual 30, 5, 80, 1, 2), (5, .iload_n 1, 6, 1, 0, 0), (6, .invokevirtual 62, 9, 21, 2, 1), (9, .invokevirtual 38, 12, 81, 2, 2), (12, .ireturn, 13, 0, 0, 0)]
-- 64 yX2_full
def xt_64 : List (Nat × xm_Q) := [(0, .aload_n 0, 1, 0, 0, 0), (1, .aload_n 0, 2, 0, 0, 0), (2, .invokevirtual 30, 5, 80, 1, 2), (5, .invokevirtual 65, 8, 22, 1, 1), (8, .invokevirtual 38, 11, 81, 2, 2), (11, .ireturn, 12, 0, 0, 0)]
-- 65 yX2_thingOf
def xt_65 : List (Nat × xm_Q) := [(0, .aload_n 0, 1, 0, 0, 0), (1, .invokevirtual 68, 4, 79, 1, 2), (4, .astore_n 3, 5, 3, 0, 0), (5, .aload_n 3, 6, 3, 0, 0), (6, .iload_n 1, 7, 1, 0, 0), (7, .invokevirtual 71, 10, 33, 2, 1), (10, .ifCond .ne 6, 13, 16, 0, 0), (13, .ldc 75, 15, 0, 0, (-1000001)), (15, .ireturn, 16, 0, 0, 0), (16, .iload_n 2, 17, 2, 0, 0), (17, .tableswitch 134 0 9 #[55, 69, 78, 87, 104, 104, 104, 116, 122, 128], 72, 0, 0, 0), (72, .aload_n 3, 73, 3, 0, 0), (73, .iload_n 1, 74, 1, 0, 0), (74, .invokevirtual 76, 77, 34, 2, 1), (77, .ifCond .eq 7, 80, 84, 0, 0), (80, .iconst 1, 81, 0, 0, 1), (81, .goto 4, 84, 85, 0, 0), (84, .iconst 0, 85, 0, 0, 0), (85, .ireturn, 86, 0, 0, 0), (86, .aload_n 3, 87, 3, 0, 0), (87, .iload_n 1, 88, 1, 0, 0), (88, .invokevirtual 79, 91, 35, 2, 1), (91, .invokestatic 82, 94, 82, 1, 2), (94, .ireturn, 95, 0, 0, 0), (95, .aload_n 3, 96, 3, 0, 0), (96, .iload_n 1, 97, 1, 0, 0), (97, .invokevirtual 85, 100, 36, 2, 1), (100, .invokestatic 82, 103, 82, 1, 2), (103, .ireturn, 104, 0, 0, 0), (104, .aload_n 3, 105, 3, 0, 0), (105, .getfield 88, 108, 1, 6, 0), (108, .iload_n 1, 109, 1, 0, 0), (109, .invokestatic 91, 112, 83, 2, 2), (112, .ifCond .eq 7, 115, 119, 0, 0), (115, .iconst 1, 116, 0, 0, 1), (116, .goto 4, 119, 120, 0, 0), (119, .iconst 0, 120, 0, 0, 0), (120, .ireturn, 121, 0, 0, 0), (121, .aload_n 3, 122, 3, 0, 0), (122, .iload_n 1, 123, 1, 0, 0), (123, .iload_n 2, 124, 2, 0, 0), (124, .iconst 4, 125, 0, 0, 4), (125, .isub, 126, 0, 0, 0), (126, .invokevirtual 95, 129, 38, 3, 1), (129, .invokestatic 82, 132, 82, 1, 2), (132, .ireturn, 133, 0, 0, 0), (133, .aload_n 3, 134, 3, 0, 0), (134, .iload_n 1, 135, 1, 0, 0), (135, .invokevirtual 98, 138, 40, 2, 1), (138, .ireturn, 139, 0, 0, 0), (139, .aload_n 3, 140, 3, 0, 0), (140, .iload_n 1, 141, 1, 0, 0), (141, .invokevirtual 101, 144, 41, 2, 1), (144, .ireturn, 145, 0, 0, 0), (145, .aload_n 3, 146, 3, 0, 0), (146, .iload_n 1, 147, 1, 0, 0), (147, .invokevirtual 104, 150, 37, 2, 1), (150, .ireturn, 151, 0, 0, 0), (151, .ldc 75, 153, 0, 0, (-1000001)), (153, .ireturn, 154, 0, 0, 0)]
-- 66 yX2_houseOf
def xt_66 : List (Nat × xm_Q) := [(0, .iload_n 1, 1, 1, 0, 0), (1, .ifCond .lt 9, 4, 10, 0, 0), (4, .iload_n 1, 5, 1, 0, 0), (5, .bipush 8, 7, 0, 0, 8), (7, .if_icmp .lt 6, 10, 13, 0, 0), (10, .ldc 75, 12, 0, 0, (-1000001)), (12, .ireturn, 13, 0, 0, 0), (13, .aload_n 0, 14, 0, 0, 0), (14, .invokevirtual 68, 17, 79, 1, 2), (17, .astore_n 3, 18, 3, 0, 0), (18, .iload_n 2, 19, 2, 0, 0), (19, .tableswitch 86 0 7 #[45, 55, 64, 70, 70, 70, 70, 70], 64, 0, 0, 0), (64, .aload_n 3, 65, 3, 0, 0), (65, .getfield 107, 68, 1, 0, 1), (68, .iload_n 1, 69, 1, 0, 0), (69, .iaload, 70, 0, 0, 0), (70, .invokestatic 82, 73, 82, 1, 2), (73, .ireturn, 74, 0, 0, 0), (74, .aload_n 3, 75, 3, 0, 0), (75, .iload_n 1, 76, 1, 0, 0), (76, .invokevirtual 111, 79, 42, 2, 1), (79, .invokestatic 114, 82, 166, 1, 0), (82, .ireturn, 83, 0, 0, 0), (83, .aload_n 3, 84, 3, 0, 0), (84, .iload_n 1, 85, 1, 0, 0), (85, .invokevirtual 111, 88, 42, 2, 1), (88, .ireturn, 89, 0, 0, 0), (89, .aload_n 3, 90, 3, 0, 0), (90, .getfield 119, 93, 1, 1, 1), (93, .iload_n 1, 94, 1, 0, 0), (94, .iconst 5, 95, 0, 0, 5), (95, .imul, 96, 0, 0, 0), (96, .iload_n 2, 97, 2, 0, 0), (97, .iadd, 98, 0, 0, 0), (98, .iconst 3, 99, 0, 0, 3), (99, .isub, 100, 0, 0, 0), (100, .iaload, 101, 0, 0, 0), (101, .invokestatic 82, 104, 82, 1, 2), (104, .ireturn, 105, 0, 0, 0), (105, .ldc 75, 107, 0, 0, (-1000001)), (107, .ireturn, 108, 0, 0, 0)]
-- 67 yX2_handOf
def xt_67 : List (Nat × xm_Q) := [(0, .iload_n 1, 1, 1, 0, 0), (1, .ifCond .lt 8, 4, 9, 0, 0), (4, .iload_n 1, 5, 1, 0, 0), (5, .iconst 4, 6, 0, 0, 4), (6, .if_icmp .lt 6, 9, 12, 0, 0), (9, .ldc 75, 11, 0, 0, (-1000001)), (11, .ireturn, 12, 0, 0, 0), (12, .aload_n 0, 13, 0, 0, 0), (13, .invokevirtual 68, 16, 79, 1, 2), (16, .getfield 122, 19, 1, 5, 1), (19, .iload_n 1, 20, 1, 0, 0), (20, .iaload, 21, 0, 0, 0), (21, .invokestatic 82, 24, 82, 1, 2), (24, .ireturn, 25, 0, 0, 0)]
-- 68 yX2_noteAt
def xt_68 : List (Nat × xm_Q) := [(0, .iload_n 1, 1, 1, 0, 0), (1, .ifCond .ge 6, 4, 7, 0, 0), (4, .ldc 75, 6, 0, 0, (-1000001)), (6, .ireturn, 7, 0, 0, 0), (7, .aload_n 0, 8, 0, 0, 0), (8, .invokevirtual 68, 11, 79, 1, 2), (11, .astore_n 2, 12, 2, 0, 0), (12, .iload_n 1, 13, 1, 0, 0), (13, .istore_n 3, 14, 3, 0, 0), (14, .iconst 0, 15, 0, 0, 0), (15, .istore 4, 17, 4, 0, 0), (17, .iload 4, 19, 4, 0, 0), (19, .bipush 30, 21, 0, 0, 30), (21, .if_icmp .ge 51, 24, 72, 0, 0), (24, .iconst 0, 25, 0, 0, 0), (25, .istore 5, 27, 5, 0, 0), (27, .iload 5, 29, 5, 0, 0), (29, .iconst 3, 30, 0, 0, 3), (30, .if_icmp .ge 36, 33, 66, 0, 0), (33, .aload_n 2, 34, 2, 0, 0), (34, .iload 4, 36, 4, 0, 0), (36, .iload 5, 38, 5, 0, 0), (38, .invokevirtual 125, 41, 39, 3, 1), (41, .ifCond .eq 19, 44, 60, 0, 0), (44, .iload_n 3, 45, 3, 0, 0), (45, .ifCond .ne 12, 48, 57, 0, 0), (48, .bipush 10, 50, 0, 0, 10), (50, .iload 4, 52, 4, 0, 0), (52, .imul, 53, 0, 0, 0), (53, .iload 5, 55, 5, 0, 0), (55, .iadd, 56, 0, 0, 0), (56, .ireturn, 57, 0, 0, 0), (57, .iinc 3 (-1), 60, 3, 0, (-1)), (60, .iinc 5 1, 63, 5, 0, 1), (63, .goto (-36), 66, 27, 0, 0), (66, .iinc 4 1, 69, 4, 0, 1), (69, .goto (-52), 72, 17, 0, 0), (72, .ldc 128, 74, 0, 0, (-1000004)), (74, .ireturn, 75, 0, 0, 0)]
-- 69 yX2_needed
def xt_69 : List (Nat × xm_Q) := [(0, .aload_n 0, 1, 0, 0, 0), (1, .invokevirtual 68, 4, 79, 1, 2), (4, .astore_n 2, 5, 2, 0, 0), (5, .iload_n 1, 6, 1, 0, 0), (6, .lookupswitch 43 #[(0, 26), (1, 31)], 32, 0, 0, 0), (32, .aload_n 2, 33, 2, 0, 0), (33, .invokevirtual 129, 36, 51, 1, 1), (36, .ireturn, 37, 0, 0, 0), (37, .aload_n 2, 38, 2, 0, 0), (38, .invokevirtual 132, 41, 47, 1, 1), (41, .aload_n 2, 42, 2, 0, 0), (42, .invokevirtual 129, 45, 51, 1, 1), (45, .iconst (-1), 46, 0, 0, (-1)), (46, .ixor, 47, 0, 0, 0), (47, .iand, 48, 0, 0, 0), (48, .ireturn, 49, 0, 0, 0), (49, .ldc 75, 51, 0, 0, (-1000001)), (51, .ireturn, 52, 0, 0, 0)]
-- 70 yX2_survivors
def xt_70 : List (Nat × xm_Q) := [(0, .iload_n 1, 1, 1, 0, 0), (1, .ifCond .lt 8, 4, 9, 0, 0), (4, .iload_n 1, 5, 1, 0, 0), (5, .iconst 2, 6, 0, 0, 2), (6, .if_icmp .lt 6, 9, 12, 0, 0), (9, .ldc 75, 11, 0, 0, (-1000001)), (11, .ireturn, 12, 0, 0, 0), (12, .aload_n 0, 13, 0, 0, 0), (13, .invokevirtual 68, 16, 79, 1, 2), (16, .astore_n 3, 17, 3, 0, 0), (17, .aload_n 3, 18, 3, 0, 0), (18, .iload_n 1, 19, 1, 0, 0), (19, .invokevirtual 135, 22, 52, 2, 1), (22, .istore 4, 24, 4, 0, 0), (24, .iload_n 2, 25, 2, 0, 0), (25, .tableswitch 75 0 3 #[31, 34, 45, 58], 56, 0, 0, 0), (56, .iload 4, 58, 4, 0, 0), (58, .ireturn, 59, 0, 0, 0), (59, .aload_n 3, 60, 3, 0, 0), (60, .iload_n 1, 61, 1, 0, 0), (61, .invokevirtual 138, 64, 48, 2, 1), (64, .iload 4, 66, 4, 0, 0), (66, .iconst (-1), 67, 0, 0, (-1)), (67, .ixor, 68, 0, 0, 0), (68, .iand, 69, 0, 0, 0), (69, .ireturn, 70, 0, 0, 0), (70, .iload 4, 72, 4, 0, 0), (72, .aload_n 3, 73, 3, 0, 0), (73, .getfield 88, 76, 1, 6, 0), (76, .iconst (-1), 77, 0, 0, (-1)), (77, .ixor, 78, 0, 0, 0), (78, .iand, 79, 0, 0, 0), (79, .invokestatic 114, 82, 166, 1, 0), (82, .ireturn, 83, 0, 0, 0), (83, .aload_n 0, 84, 0, 0, 0), (84, .invokevirtual 30, 87, 80, 1, 2), (87, .iload_n 1, 88, 1, 0, 0), (88, .invokevirtual 62, 91, 21, 2, 1), (91, .ifCond .lt 7, 94, 98, 0, 0), (94, .iconst 1, 95, 0, 0, 1), (95, .goto 4, 98, 99, 0, 0), (98, .iconst 0, 99, 0, 0, 0), (99, .ireturn, 100, 0, 0, 0), (100, .ldc 75, 102, 0, 0, (-1000001)), (102, .ireturn, 103, 0, 0, 0)]
-- 71 yX2_keptBy
def xt_71 : List (Nat × xm_Q) := [(0, .aload_n 0, 1, 0, 0, 0), (1, .invokevirtual 68, 4, 79, 1, 2), (4, .astore_n 2, 5, 2, 0, 0), (5, .aload_n 2, 6, 2, 0, 0), (6, .iload_n 1, 7, 1, 0, 0), (7, .invokevirtual 76, 10, 34, 2, 1), (10, .ifCond .ne 6, 13, 16, 0, 0), (13, .ldc 75, 15, 0, 0, (-1000001)), (15, .ireturn, 16, 0, 0, 0), (16, .aload_n 2, 17, 2, 0, 0), (17, .invokevirtual 132, 20, 47, 1, 1), (20, .iconst 1, 21, 0, 0, 1), (21, .iload_n 1, 22, 1, 0, 0), (22, .ishl, 23, 0, 0, 0), (23, .iconst (-1), 24, 0, 0, (-1)), (24, .ixor, 25, 0, 0, 0), (25, .iand, 26, 0, 0, 0), (26, .istore_n 3, 27, 3, 0, 0), (27, .aload_n 2, 28, 2, 0, 0), (28, .aload_n 2, 29, 2, 0, 0), (29, .invokevirtual 141, 32, 50, 1, 1), (32, .iload_n 3, 33, 3, 0, 0), (33, .invokevirtual 144, 36, 54, 3, 1), (36, .istore 4, 38, 4, 0, 0), (38, .aload_n 2, 39, 2, 0, 0), (39, .invokevirtual 129, 42, 51, 1, 1), (42, .iload_n 3, 43, 3, 0, 0), (43, .iand, 44, 0, 0, 0), (44, .iload 4, 46, 4, 0, 0), (46, .iconst (-1), 47, 0, 0, (-1)), (47, .ixor, 48, 0, 0, 0), (48, .iand, 49, 0, 0, 0), (49, .ireturn, 50, 0, 0, 0)]
-- 72 yX2_far
def xt_72 : List (Nat × xm_Q) := [(0, .aload_n 0, 1, 0, 0, 0), (1, .invokevirtual 68, 4, 79, 1, 2), (4, .astore_n 2, 5, 2, 0, 0), (5, .aload_n 2, 6, 2, 0, 0), (6, .iload_n 1, 7, 1, 0, 0), (7, .invokevirtual 76, 10, 34, 2, 1), (10, .ifCond .ne 6, 13, 16, 0, 0), (13, .ldc 75, 15, 0, 0, (-1000001)), (15, .ireturn, 16, 0, 0, 0), (16, .aload_n 2, 17, 2, 0, 0), (17, .invokevirtual 141, 20, 50, 1, 1), (20, .istore_n 3, 21, 3, 0, 0), (21, .iconst 0, 22, 0, 0, 0), (22, .istore 4, 24, 4, 0, 0), (24, .iload 4, 26, 4, 0, 0), (26, .bipush 30, 28, 0, 0, 30), (28, .if_icmp .ge 28, 31, 56, 0, 0), (31, .iload_n 3, 32, 3, 0, 0), (32, .iload_n 1, 33, 1, 0, 0), (33, .invokestatic 91, 36, 83, 2, 2), (36, .ifCond .eq 6, 39, 42, 0, 0), (39, .iload 4, 41, 4, 0, 0), (41, .ireturn, 42, 0, 0, 0), (42, .iload_n 3, 43, 3, 0, 0), (43, .aload_n 2, 44, 2, 0, 0), (44, .iload_n 3, 45, 3, 0, 0), (45, .invokevirtual 147, 48, 53, 2, 1), (48, .ior, 49, 0, 0, 0), (49, .istore_n 3, 50, 3, 0, 0), (50, .iinc 4 1, 53, 4, 0, 1), (53, .goto (-29), 56, 24, 0, 0), (56, .ldc 128, 58, 0, 0, (-1000004)), (58, .ireturn, 59, 0, 0, 0)]
-- 73 yX2_count
def xt_73 : List (Nat × xm_Q) := [(0, .aload_n 0, 1, 0, 0, 0), (1, .invokevirtual 68, 4, 79, 1, 2), (4, .astore_n 2, 5, 2, 0, 0), (5, .aload_n 2, 6, 2, 0, 0), (6, .invokevirtual 132, 9, 47, 1, 1), (9, .invokestatic 114, 12, 166, 1, 0), (12, .istore_n 3, 13, 3, 0, 0), (13, .iload_n 1, 14, 1, 0, 0), (14, .tableswitch 141 0 13 #[70, 75, 77, 85, 85, 85, 96, 101, 106, 111, 116, 123, 128, 133], 84, 0, 0, 0), (84, .aload_n 2, 85, 2, 0, 0), (85, .getfield 150, 88, 1, 7, 0), (88, .ireturn, 89, 0, 0, 0), (89, .iload_n 3, 90, 3, 0, 0), (90, .ireturn, 91, 0, 0, 0), (91, .aload_n 2, 92, 2, 0, 0), (92, .getfield 88, 95, 1, 6, 0), (95, .invokestatic 114, 98, 166, 1, 0), (98, .ireturn, 99, 0, 0, 0), (99, .aload_n 2, 100, 2, 0, 0), (100, .iload_n 1, 101, 1, 0, 0), (101, .iconst 3, 102, 0, 0, 3), (102, .isub, 103, 0, 0, 0), (103, .invokevirtual 153, 106, 46, 2, 1), (106, .invokestatic 114, 109, 166, 1, 0), (109, .ireturn, 110, 0, 0, 0), (110, .aload_n 2, 111, 2, 0, 0), (111, .invokevirtual 156, 114, 44, 1, 1), (114, .ireturn, 115, 0, 0, 0), (115, .aload_n 2, 116, 2, 0, 0), (116, .invokevirtual 159, 119, 45, 1, 1), (119, .ireturn, 120, 0, 0, 0), (120, .aload_n 2, 121, 2, 0, 0), (121, .getfield 162, 124, 1, 8, 0), (124, .ireturn, 125, 0, 0, 0), (125, .aload_n 2, 126, 2, 0, 0), (126, .getfield 165, 129, 1, 9, 0), (129, .ireturn, 130, 0, 0, 0), (130, .aload_n 2, 131, 2, 0, 0), (131, .getfield 150, 134, 1, 7, 0), (134, .iload_n 3, 135, 3, 0, 0), (135, .isub, 136, 0, 0, 0), (136, .ireturn, 137, 0, 0, 0), (137, .aload_n 2, 138, 2, 0, 0), (138, .getfield 168, 141, 1, 10, 0), (141, .ireturn, 142, 0, 0, 0), (142, .aload_n 0, 143, 0, 0, 0), (143, .getfield 26, 146, 2, 3, 0), (146, .ireturn, 147, 0, 0, 0), (147, .aload_n 0, 148, 0, 0, 0), (148, .getfield 18, 151, 2, 1, 1), (151, .getfield 171, 154, 0, 2, 0), (154, .ireturn, 155, 0, 0, 0), (155, .ldc 75, 157, 0, 0, (-1000001)), (157, .ireturn, 158, 0, 0, 0)]
-- 74 yX2_undo
def xt_74 : List (Nat × xm_Q) := [(0, .aload_n 0, 1, 0, 0, 0), (1, .getfield 26, 4, 2, 3, 0), (4, .ifCond .ne 6, 7, 10, 0, 0), (7, .ldc 174, 9, 0, 0, (-1000002)), (9, .ireturn, 10, 0, 0, 0), (10, .aload_n 0, 11, 0, 0, 0), (11, .aload_n 0, 12, 0, 0, 0), (12, .getfield 22, 15, 2, 2, 0), (15, .bipush 6, 17, 0, 0, 6), (17, .iadd, 18, 0, 0, 0), (18, .iconst 1, 19, 0, 0, 1), (19, .isub, 20, 0, 0, 0), (20, .bipush 6, 22, 0, 0, 6), (22, .irem, 23, 0, 0, 0), (23, .putfield 22, 26, 2, 2, 0), (26, .aload_n 0, 27, 0, 0, 0), (27, .dup, 28, 0, 0, 0), (28, .getfield 26, 31, 2, 3, 0), (31, .iconst 1, 32, 0, 0, 1), (32, .isub, 33, 0, 0, 0), (33, .putfield 26, 36, 2, 3, 0), (36, .aload_n 0, 37, 0, 0, 0), (37, .getfield 26, 40, 2, 3, 0), (40, .ireturn, 41, 0, 0, 0)]
-- 75 yX2_type
def xt_75 : List (Nat × xm_Q) := [(0, .iload_n 1, 1, 1, 0, 0), (1, .bipush 32, 3, 0, 0, 32), (3, .if_icmp .lt 9, 6, 12, 0, 0), (6, .iload_n 1, 7, 1, 0, 0), (7, .bipush 126, 9, 0, 0, 126), (9, .if_icmp .le 6, 12, 15, 0, 0), (12, .ldc 75, 14, 0, 0, (-1000001)), (14, .ireturn, 15, 0, 0, 0), (15, .aload_n 0, 16, 0, 0, 0), (16, .getfield 18, 19, 2, 1, 1), (19, .iload_n 1, 20, 1, 0, 0), (20, .invokevirtual 175, 23, 1, 2, 0), (23, .ireturn, 24, 0, 0, 0)]
-- 76 yX2_clearText
def xt_76 : List (Nat × xm_Q) := [(0, .aload_n 0, 1, 0, 0, 0), (1, .getfield 18, 4, 2, 1, 1), (4, .getfield 171, 7, 0, 2, 0), (7, .istore_n 1, 8, 1, 0, 0), (8, .aload_n 0, 9, 0, 0, 0), (9, .getfield 18, 12, 2, 1, 1), (12, .iconst 0, 13, 0, 0, 0), (13, .putfield 171, 16, 0, 2, 0), (16, .iload_n 1, 17, 1, 0, 0), (17, .ireturn, 18, 0, 0, 0)]
-- 77 yX2_fault
def xt_77 : List (Nat × xm_Q) := [(0, .iload_n 1, 1, 1, 0, 0), (1, .ifCond .eq 11, 4, 12, 0, 0), (4, .iload_n 1, 5, 1, 0, 0), (5, .iconst 1, 6, 0, 0, 1), (6, .if_icmp .eq 6, 9, 12, 0, 0), (9, .ldc 75, 11, 0, 0, (-1000001)), (11, .ireturn, 12, 0, 0, 0), (12, .aload_n 0, 13, 0, 0, 0), (13, .getfield 18, 16, 2, 1, 1), (16, .aload_n 0, 17, 0, 0, 0), (17, .invokevirtual 30, 20, 80, 1, 2), (20, .invokevirtual 178, 23, 2, 2, 0), (23, .pop, 24, 0, 0, 0), (24, .aload_n 0, 25, 0, 0, 0), (25, .getfield 18, 28, 2, 1, 1), (28, .getfield 182, 31, 0, 5, 0), (31, .ifCond .ne 6, 34, 37, 0, 0), (34, .ldc 128, 36, 0, 0, (-1000004)), (36, .ireturn, 37, 0, 0, 0), (37, .iload_n 1, 38, 1, 0, 0), (38, .ifCond .ne 13, 41, 51, 0, 0), (41, .aload_n 0, 42, 0, 0, 0), (42, .getfield 18, 45, 2, 1, 1), (45, .getfield 185, 48, 0, 4, 0), (48, .goto 10, 51, 58, 0, 0), (51, .aload_n 0, 52, 0, 0, 0), (52, .getfield 18, 55, 2, 1, 1), (55, .getfield 182, 58, 0, 5, 0), (58, .ireturn, 59, 0, 0, 0)]
-- 78 yX2_play
def xt_78 : List (Nat × xm_Q) := [(0, .aload_n 0, 1, 0, 0, 0), (1, .getfield 18, 4, 2, 1, 1), (4, .aload_n 0, 5, 0, 0, 0), (5, .invokevirtual 30, 8, 80, 1, 2), (8, .invokevirtual 178, 11, 2, 2, 0), (11, .istore_n 1, 12, 1, 0, 0), (12, .aload_n 0, 13, 0, 0, 0), (13, .aload_n 0, 14, 0, 0, 0), (14, .getfield 18, 17, 2, 1, 1), (17, .getfield 182, 20, 0, 5, 0), (20, .ifCond .ne 7, 23, 27, 0, 0), (23, .iload_n 1, 24, 1, 0, 0), (24, .goto 5, 27, 29, 0, 0), (27, .ldc 174, 29, 0, 0, (-1000002)), (29, .invokevirtual 38, 32, 81, 2, 2), (32, .ireturn, 33, 0, 0, 0)]
-- 79 yX2_now
def xt_79 : List (Nat × xm_Q) := [(0, .aload_n 0, 1, 0, 0, 0), (1, .getfield 11, 4, 2, 0, 1), (4, .aload_n 0, 5, 0, 0, 0), (5, .getfield 22, 8, 2, 2, 0), (8, .aaload, 9, 0, 0, 0), (9, .areturn, 10, 0, 0, 0)]
-- 80 yX2_trial
def xt_80 : List (Nat × xm_Q) := [(0, .aload_n 0, 1, 0, 0, 0), (1, .getfield 11, 4, 2, 0, 1), (4, .aload_n 0, 5, 0, 0, 0), (5, .getfield 22, 8, 2, 2, 0), (8, .iconst 1, 9, 0, 0, 1), (9, .iadd, 10, 0, 0, 0), (10, .bipush 6, 12, 0, 0, 6), (12, .irem, 13, 0, 0, 0), (13, .aaload, 14, 0, 0, 0), (14, .astore_n 1, 15, 1, 0, 0), (15, .aload_n 1, 16, 1, 0, 0), (16, .aload_n 0, 17, 0, 0, 0), (17, .invokevirtual 68, 20, 79, 1, 2), (20, .invokevirtual 188, 23, 13, 2, 1), (23, .aload_n 1, 24, 1, 0, 0), (24, .areturn, 25, 0, 0, 0)]
-- 81 yX2_keep
def xt_81 : List (Nat × xm_Q) := [(0, .iload_n 1, 1, 1, 0, 0), (1, .ifCond .lt 30, 4, 31, 0, 0), (4, .aload_n 0, 5, 0, 0, 0), (5, .aload_n 0, 6, 0, 0, 0), (6, .getfield 22, 9, 2, 2, 0), (9, .iconst 1, 10, 0, 0, 1), (10, .iadd, 11, 0, 0, 0), (11, .bipush 6, 13, 0, 0, 6), (13, .irem, 14, 0, 0, 0), (14, .putfield 22, 17, 2, 2, 0), (17, .aload_n 0, 18, 0, 0, 0), (18, .aload_n 0, 19, 0, 0, 0), (19, .getfield 26, 22, 2, 3, 0), (22, .iconst 1, 23, 0, 0, 1), (23, .iadd, 24, 0, 0, 0), (24, .iconst 4, 25, 0, 0, 4), (25, .invokestatic 192, 28, 1002, 0, 0), (28, .putfield 26, 31, 2, 3, 0), (31, .iload_n 1, 32, 1, 0, 0), (32, .ireturn, 33, 0, 0, 0)]
-- 82 yX2_found
def xt_82 : List (Nat × xm_Q) := [(0, .iload_n 0, 1, 0, 0, 0), (1, .iconst (-1), 2, 0, 0, (-1)), (2, .if_icmp .ne 8, 5, 10, 0, 0), (5, .ldc 128, 7, 0, 0, (-1000004)), (7, .goto 4, 10, 11, 0, 0), (10, .iload_n 0, 11, 0, 0, 0), (11, .ireturn, 12, 0, 0, 0)]
-- 83 yX2_has
def xt_83 : List (Nat × xm_Q) := [(0, .iload_n 0, 1, 0, 0, 0), (1, .iload_n 1, 2, 1, 0, 0), (2, .ishr, 3, 0, 0, 0), (3, .iconst 1, 4, 0, 0, 1), (4, .iand, 5, 0, 0, 0), (5, .ifCond .eq 7, 8, 12, 0, 0), (8, .iconst 1, 9, 0, 0, 1), (9, .goto 4, 12, 13, 0, 0), (12, .iconst 0, 13, 0, 0, 0), (13, .ireturn, 14, 0, 0, 0)]
-- 84 yX3_init
def xt_84 : List (Nat × xm_Q) := [(0, .aload_n 0, 1, 0, 0, 0), (1, .invokespecial 1, 4, 1000, 0, 0), (4, .aload_n 0, 5, 0, 0, 0), (5, .sipush 1176, 8, 0, 0, 1176), (8, .newarray .int, 10, 0, 0, 0), (10, .putfield 7, 13, 3, 0, 1), (13, .aload_n 0, 14, 0, 0, 0), (14, .bipush 60, 16, 0, 0, 60), (16, .newarray .int, 18, 0, 0, 0), (18, .putfield 13, 21, 3, 2, 1), (21, .aload_n 0, 22, 0, 0, 0), (22, .bipush 8, 24, 0, 0, 8), (24, .newarray .int, 26, 0, 0, 0), (26, .putfield 16, 29, 3, 4, 1), (29, .aload_n 0, 30, 0, 0, 0), (30, .iconst 3, 31, 0, 0, 3), (31, .newarray .int, 33, 0, 0, 0), (33, .putfield 19, 36, 3, 7, 1), (36, .aload_n 0, 37, 0, 0, 0), (37, .sipush 196, 40, 0, 0, 196), (40, .newarray .int, 42, 0, 0, 0), (42, .putfield 22, 45, 3, 11, 1), (45, .return_, 46, 0, 0, 0)]
-- 85 yX3_in
def xt_85 : List (Nat × xm_Q) := [(0, .iload_n 0, 1, 0, 0, 0), (1, .iload_n 1, 2, 1, 0, 0), (2, .if_icmp .lt 12, 5, 14, 0, 0), (5, .iload_n 0, 6, 0, 0, 0), (6, .iload_n 2, 7, 2, 0, 0), (7, .if_icmp .gt 7, 10, 14, 0, 0), (10, .iconst 1, 11, 0, 0, 1), (11, .goto 4, 14, 15, 0, 0), (14, .iconst 0, 15, 0, 0, 0), (15, .ireturn, 16, 0, 0, 0)]
-- 86 yX3_of
def xt_86 : List (Nat × xm_Q) := [(0, .bipush 16, 2, 0, 0, 16), (2, .bipush 6, 4, 0, 0, 6), (4, .iload_n 0, 5, 0, 0, 0), (5, .imul, 6, 0, 0, 0), (6, .iadd, 7, 0, 0, 0), (7, .iload_n 1, 8, 1, 0, 0), (8, .iadd, 9, 0, 0, 0), (9, .ireturn, 10, 0, 0, 0)]
-- 87 yX3_isThing
def xt_87 : List (Nat × xm_Q) := [(0, .iload_n 1, 1, 1, 0, 0), (1, .iconst 0, 2, 0, 0, 0), (2, .aload_n 0, 3, 0, 0, 0), (3, .getfield 7, 6, 3, 0, 1), (6, .iconst 0, 7, 0, 0, 0), (7, .iaload, 8, 0, 0, 0), (8, .iconst 1, 9, 0, 0, 1), (9, .isub, 10, 0, 0, 0), (10, .invokestatic 25, 13, 85, 3, 3), (13, .ifCond .eq 20, 16, 33, 0, 0), (16, .aload_n 0, 17, 0, 0, 0), (17, .getfield 7, 20, 3, 0, 1), (20, .iload_n 1, 21, 1, 0, 0), (21, .iconst 0, 22, 0, 0, 0), (22, .invokestatic 29, 25, 86, 2, 3), (25, .iaload, 26, 0, 0, 0), (26, .ifCond .le 7, 29, 33, 0, 0), (29, .iconst 1, 30, 0, 0, 1), (30, .goto 4, 33, 34, 0, 0), (33, .iconst 0, 34, 0, 0, 0), (34, .ireturn, 35, 0, 0, 0)]
-- 88 yX3_isHand
def xt_88 : List (Nat × xm_Q) := [(0, .iload_n 0, 1, 0, 0, 0), (1, .iconst 0, 2, 0, 0, 0), (2, .iconst 3, 3, 0, 0, 3), (3, .invokestatic 25, 6, 85, 3, 3), (6, .ireturn, 7, 0, 0, 0)]
-- 89 yX3_isString
def xt_89 : List (Nat × xm_Q) := [(0, .iload_n 0, 1, 0, 0, 0), (1, .iconst 0, 2, 0, 0, 0), (2, .iconst 2, 3, 0, 0, 2), (3, .invokestatic 25, 6, 85, 3, 3), (6, .ireturn, 7, 0, 0, 0)]
-- 90 yX3_has
def xt_90 : List (Nat × xm_Q) := [(0, .iload_n 0, 1, 0, 0, 0), (1, .iload_n 1, 2, 1, 0, 0), (2, .ishr, 3, 0, 0, 0), (3, .iconst 1, 4, 0, 0, 1), (4, .iand, 5, 0, 0, 0), (5, .iconst 1, 6, 0, 0, 1), (6, .if_icmp .ne 7, 9, 13, 0, 0), (9, .iconst 1, 10, 0, 0, 1), (10, .goto 4, 13, 14, 0, 0), (13, .iconst 0, 14, 0, 0, 0), (14, .ireturn, 15, 0, 0, 0)]
-- 91 yX3_bits
def xt_91 : List (Nat × xm_Q) := [(0, .iconst 0, 1, 0, 0, 0), (1, .istore_n 1, 2, 1, 0, 0), (2, .iconst 0, 3, 0, 0, 0), (3, .istore_n 2, 4, 2, 0, 0), (4, .iload_n 2, 5, 2, 0, 0), (5, .bipush 30, 7, 0, 0, 30), (7, .if_icmp .ge 17, 10, 24, 0, 0), (10, .iload_n 1, 11, 1, 0, 0), (11, .iload_n 0, 12, 0, 0, 0), (12, .iload_n 2, 13, 2, 0, 0), (13, .ishr, 14, 0, 0, 0), (14, .iconst 1, 15, 0, 0, 1), (15, .iand, 16, 0, 0, 0), (16, .iadd, 17, 0, 0, 0), (17, .istore_n 1, 18, 1, 0, 0), (18, .iinc 2 1, 21, 2, 0, 1), (21, .goto (-17), 24, 4, 0, 0), (24, .iload_n 1, 25, 1, 0, 0), (25, .ireturn, 26, 0, 0, 0)]
-- 92 yX3_copy
def xt_92 : List (Nat × xm_Q) := [(0, .iconst 0, 1, 0, 0, 0), (1, .istore_n 3, 2, 3, 0, 0), (2, .iload_n 3, 3, 3, 0, 0), (3, .sipush 196, 6, 0, 0, 196), (6, .if_icmp .ge 25, 9, 31, 0, 0), (9, .aload_n 0, 10, 0, 0, 0), (10, .getfield 7, 13, 3, 0, 1), (13, .iload_n 2, 14, 2, 0, 0), (14, .iload_n 3, 15, 3, 0, 0), (15, .iadd, 16, 0, 0, 0), (16, .aload_n 0, 17, 0, 0, 0), (17, .getfield 7, 20, 3, 0, 1), (20, .iload_n 1, 21, 1, 0, 0), (21, .iload_n 3, 22, 3, 0, 0), (22, .iadd, 23, 0, 0, 0), (23, .iaload, 24, 0, 0, 0), (24, .iastore, 25, 0, 0, 0), (25, .iinc 3 1, 28, 3, 0, 1), (28, .goto (-26), 31, 2, 0, 0), (31, .return_, 32, 0, 0, 0)]
-- 93 yX3_record
def xt_93 : List (Nat × xm_Q) := [(0, .aload_n 0, 1, 0, 0, 0), (1, .getfield 33, 4, 3, 1, 0), (4, .iconst 4, 5, 0, 0, 4), (5, .if_icmp .ne 44, 8, 49, 0, 0), (8, .iconst 1, 9, 0, 0, 1), (9, .istore_n 2, 10, 2, 0, 0), (10, .iload_n 2, 11, 2, 0, 0), (11, .iconst 4, 12, 0, 0, 4), (12, .if_icmp .ge 27, 15, 39, 0, 0), (15, .aload_n 0, 16, 0, 0, 0), (16, .sipush 196, 19, 0, 0, 196), (19, .sipush 196, 22, 0, 0, 196), (22, .iload_n 2, 23, 2, 0, 0), (23, .imul, 24, 0, 0, 0), (24, .iadd, 25, 0, 0, 0), (25, .sipush 196, 28, 0, 0, 196), (28, .iload_n 2, 29, 2, 0, 0), (29, .imul, 30, 0, 0, 0), (30, .invokevirtual 37, 33, 92, 3, 3), (33, .iinc 2 1, 36, 2, 0, 1), (36, .goto (-26), 39, 10, 0, 0), (39, .aload_n 0, 40, 0, 0, 0), (40, .dup, 41, 0, 0, 0), (41, .getfield 33, 44, 3, 1, 0), (44, .iconst 1, 45, 0, 0, 1), (45, .isub, 46, 0, 0, 0), (46, .putfield 33, 49, 3, 1, 0), (49, .aload_n 0, 50, 0, 0, 0), (50, .iload_n 1, 51, 1, 0, 0), (51, .sipush 196, 54, 0, 0, 196), (54, .sipush 196, 57, 0, 0, 196), (57, .aload_n 0, 58, 0, 0, 0), (58, .getfield 33, 61, 3, 1, 0), (61, .imul, 62, 0, 0, 0), (62, .iadd, 63, 0, 0, 0), (63, .invokevirtual 37, 66, 92, 3, 3), (66, .aload_n 0, 67, 0, 0, 0), (67, .dup, 68, 0, 0, 0), (68, .getfield 33, 71, 3, 1, 0), (71, .iconst 1, 72, 0, 0, 1), (72, .iadd, 73, 0, 0, 0), (73, .putfield 33, 76, 3, 1, 0), (76, .return_, 77, 0, 0, 0)]
-- 94 yX3_undo
def xt_94 : List (Nat × xm_Q) := [(0, .aload_n 0, 1, 0, 0, 0), (1, .getfield 33, 4, 3, 1, 0), (4, .ifCond .ne 6, 7, 10, 0, 0), (7, .ldc 41, 9, 0, 0, (-1000002)), (9, .ireturn, 10, 0, 0, 0), (10, .aload_n 0, 11, 0, 0, 0), (11, .dup, 12, 0, 0, 0), (12, .getfield 33, 15, 3, 1, 0), (15, .iconst 1, 16, 0, 0, 1), (16, .isub, 17, 0, 0, 0), (17, .putfield 33, 20, 3, 1, 0), (20, .aload_n 0, 21, 0, 0, 0), (21, .sipush 196, 24, 0, 0, 196), (24, .sipush 196, 27, 0, 0, 196), (27, .aload_n 0, 28, 0, 0, 0), (28, .getfield 33, 31, 3, 1, 0), (31, .imul, 32, 0, 0, 0), (32, .iadd, 33, 0, 0, 0), (33, .iconst 0, 34, 0, 0, 0), (34, .invokevirtual 37, 37, 92, 3, 3), (37, .aload_n 0, 38, 0, 0, 0), (38, .getfield 33, 41, 3, 1, 0), (41, .ireturn, 42, 0, 0, 0)]
-- 95 yX3_homeOf
def xt_95 : List (Nat × xm_Q) := [(0, .aload_n 0, 1, 0, 0, 0), (1, .getfield 7, 4, 3, 0, 1), (4, .iload_n 1, 5, 1, 0, 0), (5, .iconst 0, 6, 0, 0, 0), (6, .invokestatic 29, 9, 86, 2, 3), (9, .iaload, 10, 0, 0, 0), (10, .iconst 1, 11, 0, 0, 1), (11, .isub, 12, 0, 0, 0), (12, .iconst 5, 13, 0, 0, 5), (13, .idiv, 14, 0, 0, 0), (14, .ireturn, 15, 0, 0, 0)]
-- 96 yX3_ageOf
def xt_96 : List (Nat × xm_Q) := [(0, .aload_n 0, 1, 0, 0, 0), (1, .getfield 7, 4, 3, 0, 1), (4, .iconst 4, 5, 0, 0, 4), (5, .aload_n 0, 6, 0, 0, 0), (6, .iload_n 1, 7, 1, 0, 0), (7, .invokevirtual 42, 10, 95, 2, 3), (10, .iadd, 11, 0, 0, 0), (11, .iaload, 12, 0, 0, 0), (12, .iconst 1, 13, 0, 0, 1), (13, .isub, 14, 0, 0, 0), (14, .ireturn, 15, 0, 0, 0)]
-- 97 yX3_living
def xt_97 : List (Nat × xm_Q) := [(0, .iconst 0, 1, 0, 0, 0), (1, .istore_n 2, 2, 2, 0, 0), (2, .iconst 0, 3, 0, 0, 0), (3, .istore_n 3, 4, 3, 0, 0), (4, .iload_n 3, 5, 3, 0, 0), (5, .aload_n 0, 6, 0, 0, 0), (6, .getfield 7, 9, 3, 0, 1), (9, .iconst 0, 10, 0, 0, 0), (10, .iaload, 11, 0, 0, 0), (11, .if_icmp .ge 36, 14, 47, 0, 0), (14, .iload_n 2, 15, 2, 0, 0), (15, .aload_n 0, 16, 0, 0, 0), (16, .iload_n 3, 17, 3, 0, 0), (17, .invokevirtual 46, 20, 87, 2, 3), (20, .ifCond .eq 18, 23, 38, 0, 0), (23, .aload_n 0, 24, 0, 0, 0), (24, .iload_n 3, 25, 3, 0, 0), (25, .invokevirtual 50, 28, 96, 2, 3), (28, .iload_n 1, 29, 1, 0, 0), (29, .if_icmp .gt 9, 32, 38, 0, 0), (32, .iconst 1, 33, 0, 0, 1), (33, .iload_n 3, 34, 3, 0, 0), (34, .ishl, 35, 0, 0, 0), (35, .goto 4, 38, 39, 0, 0), (38, .iconst 0, 39, 0, 0, 0), (39, .ior, 40, 0, 0, 0), (40, .istore_n 2, 41, 2, 0, 0), (41, .iinc 3 1, 44, 3, 0, 1), (44, .goto (-40), 47, 4, 0, 0), (47, .iload_n 2, 48, 2, 0, 0), (48, .ireturn, 49, 0, 0, 0)]
-- 98 yX3_thingAt
def xt_98 : List (Nat × xm_Q) := [(0, .iconst 0, 1, 0, 0, 0), (1, .istore_n 2, 2, 2, 0, 0), (2, .iload_n 2, 3, 2, 0, 0), (3, .aload_n 0, 4, 0, 0, 0), (4, .getfield 7, 7, 3, 0, 1), (7, .iconst 0, 8, 0, 0, 0), (8, .iaload, 9, 0, 0, 0), (9, .if_icmp .ge 27, 12, 36, 0, 0), (12, .aload_n 0, 13, 0, 0, 0), (13, .getfield 7, 16, 3, 0, 1), (16, .iload_n 2, 17, 2, 0, 0), (17, .iconst 0, 18, 0, 0, 0), (18, .invokestatic 29, 21, 86, 2, 3), (21, .iaload, 22, 0, 0, 0), (22, .iload_n 1, 23, 1, 0, 0), (23, .iconst 1, 24, 0, 0, 1), (24, .iadd, 25, 0, 0, 0), (25, .if_icmp .ne 5, 28, 30, 0, 0), (28, .iload_n 2, 29, 2, 0, 0), (29, .ireturn, 30, 0, 0, 0), (30, .iinc 2 1, 33, 2, 0, 1), (33, .goto (-31), 36, 2, 0, 0), (36, .ldc 53, 38, 0, 0, (-1000004)), (38, .ireturn, 39, 0, 0, 0)]
-- 99 yX3_emptyIn
def xt_99 : List (Nat × xm_Q) := [(0, .iconst 5, 1, 0, 0, 5), (1, .iload_n 1, 2, 1, 0, 0), (2, .imul, 3, 0, 0, 0), (3, .istore_n 2, 4, 2, 0, 0), (4, .iload_n 2, 5, 2, 0, 0), (5, .iconst 5, 6, 0, 0, 5), (6, .iload_n 1, 7, 1, 0, 0), (7, .imul, 8, 0, 0, 0), (8, .iconst 5, 9, 0, 0, 5), (9, .iadd, 10, 0, 0, 0), (10, .if_icmp .ge 21, 13, 31, 0, 0), (13, .aload_n 0, 14, 0, 0, 0), (14, .iload_n 2, 15, 2, 0, 0), (15, .invokevirtual 54, 18, 98, 2, 3), (18, .ldc 53, 20, 0, 0, (-1000004)), (20, .if_icmp .ne 5, 23, 25, 0, 0), (23, .iload_n 2, 24, 2, 0, 0), (24, .ireturn, 25, 0, 0, 0), (25, .iinc 2 1, 28, 2, 0, 1), (28, .goto (-24), 31, 4, 0, 0), (31, .ldc 53, 33, 0, 0, (-1000004)), (33, .ireturn, 34, 0, 0, 0)]
-- 100 yX3_room
def xt_100 : List (Nat × xm_Q) := [(0, .iconst 0, 1, 0, 0, 0), (1, .istore_n 2, 2, 2, 0, 0), (2, .iload_n 2, 3, 2, 0, 0), (3, .bipush 8, 5, 0, 0, 8), (5, .if_icmp .ge 39, 8, 44, 0, 0), (8, .aload_n 0, 9, 0, 0, 0), (9, .getfield 7, 12, 3, 0, 1), (12, .iconst 4, 13, 0, 0, 4), (13, .iload_n 2, 14, 2, 0, 0), (14, .iadd, 15, 0, 0, 0), (15, .iaload, 16, 0, 0, 0), (16, .iload_n 1, 17, 1, 0, 0), (17, .iconst 1, 18, 0, 0, 1), (18, .iadd, 19, 0, 0, 0), (19, .if_icmp .ne 19, 22, 38, 0, 0), (22, .aload_n 0, 23, 0, 0, 0), (23, .iload_n 2, 24, 2, 0, 0), (24, .invokevirtual 57, 27, 99, 2, 3), (27, .ldc 53, 29, 0, 0, (-1000004)), (29, .if_icmp .eq 9, 32, 38, 0, 0), (32, .aload_n 0, 33, 0, 0, 0), (33, .iload_n 2, 34, 2, 0, 0), (34, .invokevirtual 57, 37, 99, 2, 3), (37, .ireturn, 38, 0, 0, 0), (38, .iinc 2 1, 41, 2, 0, 1), (41, .goto (-39), 44, 2, 0, 0), (44, .iconst 0, 45, 0, 0, 0), (45, .istore_n 2, 46, 2, 0, 0), (46, .iload_n 2, 47, 2, 0, 0), (47, .bipush 8, 49, 0, 0, 8), (49, .if_icmp .ge 35, 52, 84, 0, 0), (52, .aload_n 0, 53, 0, 0, 0), (53, .getfield 7, 56, 3, 0, 1), (56, .iconst 4, 57, 0, 0, 4), (57, .iload_n 2, 58, 2, 0, 0), (58, .iadd, 59, 0, 0, 0), (59, .iaload, 60, 0, 0, 0), (60, .ifCond .ne 18, 63, 78, 0, 0), (63, .aload_n 0, 64, 0, 0, 0), (64, .getfield 7, 67, 3, 0, 1), (67, .iconst 4, 68, 0, 0, 4), (68, .iload_n 2, 69, 2, 0, 0), (69, .iadd, 70, 0, 0, 0), (70, .iload_n 1, 71, 1, 0, 0), (71, .iconst 1, 72, 0, 0, 1), (72, .iadd, 73, 0, 0, 0), (73, .iastore, 74, 0, 0, 0), (74, .iconst 5, 75, 0, 0, 5), (75, .iload_n 2, 76, 2, 0, 0), (76, .imul, 77, 0, 0, 0), (77, .ireturn, 78, 0, 0, 0), (78, .iinc 2 1, 81, 2, 0, 1), (81, .goto (-35), 84, 46, 0, 0), (84, .ldc 53, 86, 0, 0, (-1000004)), (86, .ireturn, 87, 0, 0, 0)]
-- 101 yX3_freeHouses
def xt_101 : List (Nat × xm_Q) := [(0, .iconst 0, 1, 0, 0, 0), (1, .istore_n 1, 2, 1, 0, 0), (2, .iload_n 1, 3, 1, 0, 0), (3, .bipush 8, 5, 0, 0, 8), (5, .if_icmp .ge 74, 8, 79, 0, 0), (8, .iconst 1, 9, 0, 0, 1), (9, .istore_n 2, 10, 2, 0, 0), (10, .iconst 5, 11, 0, 0, 5), (11, .iload_n 1, 12, 1, 0, 0), (12, .imul, 13, 0, 0, 0), (13, .istore_n 3, 14, 3, 0, 0), (14, .iload_n 3, 15, 3, 0, 0), (15, .iconst 5, 16, 0, 0, 5), (16, .iload_n 1, 17, 1, 0, 0), (17, .imul, 18, 0, 0, 0), (18, .iconst 5, 19, 0, 0, 5), (19, .iadd, 20, 0, 0, 0), (20, .if_icmp .ge 29, 23, 49, 0, 0), (23, .iload_n 2, 24, 2, 0, 0), (24, .ifCond .eq 17, 27, 41, 0, 0), (27, .aload_n 0, 28, 0, 0, 0), (28, .iload_n 3, 29, 3, 0, 0), (29, .invokevirtual 54, 32, 98, 2, 3), (32, .ldc 53, 34, 0, 0, (-1000004)), (34, .if_icmp .ne 7, 37, 41, 0, 0), (37, .iconst 1, 38, 0, 0, 1), (38, .goto 4, 41, 42, 0, 0), (41, .iconst 0, 42, 0, 0, 0), (42, .istore_n 2, 43, 2, 0, 0), (43, .iinc 3 1, 46, 3, 0, 1), (46, .goto (-32), 49, 14, 0, 0), (49, .aload_n 0, 50, 0, 0, 0), (50, .getfield 7, 53, 3, 0, 1), (53, .iconst 4, 54, 0, 0, 4), (54, .iload_n 1, 55, 1, 0, 0), (55, .iadd, 56, 0, 0, 0), (56, .iload_n 2, 57, 2, 0, 0), (57, .ifCond .eq 7, 60, 64, 0, 0), (60, .iconst 0, 61, 0, 0, 0), (61, .goto 11, 64, 72, 0, 0), (64, .aload_n 0, 65, 0, 0, 0), (65, .getfield 7, 68, 3, 0, 1), (68, .iconst 4, 69, 0, 0, 4), (69, .iload_n 1, 70, 1, 0, 0), (70, .iadd, 71, 0, 0, 0), (71, .iaload, 72, 0, 0, 0), (72, .iastore, 73, 0, 0, 0), (73, .iinc 1 1, 76, 1, 0, 1), (76, .goto (-74), 79, 2, 0, 0), (79, .return_, 80, 0, 0, 0)]
-- 102 yX3_noThing
def xt_102 : List (Nat × xm_Q) := [(0, .aload_n 0, 1, 0, 0, 0), (1, .iconst 0, 2, 0, 0, 0), (2, .sipush 980, 5, 0, 0, 980), (5, .invokevirtual 37, 8, 92, 3, 3), (8, .aload_n 0, 9, 0, 0, 0), (9, .iconst 0, 10, 0, 0, 0), (10, .invokevirtual 60, 13, 100, 2, 3), (13, .ldc 53, 15, 0, 0, (-1000004)), (15, .if_icmp .eq 7, 18, 22, 0, 0), (18, .iconst 1, 19, 0, 0, 1), (19, .goto 4, 22, 23, 0, 0), (22, .iconst 0, 23, 0, 0, 0), (23, .istore_n 1, 24, 1, 0, 0), (24, .aload_n 0, 25, 0, 0, 0), (25, .sipush 980, 28, 0, 0, 980), (28, .iconst 0, 29, 0, 0, 0), (29, .invokevirtual 37, 32, 92, 3, 3), (32, .iload_n 1, 33, 1, 0, 0), (33, .ifCond .ne 8, 36, 41, 0, 0), (36, .ldc 41, 38, 0, 0, (-1000002)), (38, .goto 20, 41, 58, 0, 0), (41, .aload_n 0, 42, 0, 0, 0), (42, .getfield 7, 45, 3, 0, 1), (45, .iconst 0, 46, 0, 0, 0), (46, .iaload, 47, 0, 0, 0), (47, .bipush 30, 49, 0, 0, 30), (49, .if_icmp .ne 8, 52, 57, 0, 0), (52, .ldc 63, 54, 0, 0, (-1000003)), (54, .goto 4, 57, 58, 0, 0), (57, .iconst 0, 58, 0, 0, 0), (58, .ireturn, 59, 0, 0, 0)]
-- 103 yX3_doThing
def xt_103 : List (Nat × xm_Q) := [(0, .aload_n 0, 1, 0, 0, 0), (1, .getfield 7, 4, 3, 0, 1), (4, .iconst 0, 5, 0, 0, 0), (5, .iaload, 6, 0, 0, 0), (6, .istore_n 1, 7, 1, 0, 0), (7, .aload_n 0, 8, 0, 0, 0), (8, .iconst 0, 9, 0, 0, 0), (9, .invokevirtual 60, 12, 100, 2, 3), (12, .istore_n 2, 13, 2, 0, 0), (13, .iconst 0, 14, 0, 0, 0), (14, .istore_n 3, 15, 3, 0, 0), (15, .iload_n 3, 16, 3, 0, 0), (16, .bipush 6, 18, 0, 0, 6), (18, .if_icmp .ge 20, 21, 38, 0, 0), (21, .aload_n 0, 22, 0, 0, 0), (22, .getfield 7, 25, 3, 0, 1), (25, .iload_n 1, 26, 1, 0, 0), (26, .iload_n 3, 27, 3, 0, 0), (27, .invokestatic 29, 30, 86, 2, 3), (30, .iconst 0, 31, 0, 0, 0), (31, .iastore, 32, 0, 0, 0), (32, .iinc 3 1, 35, 3, 0, 1), (35, .goto (-20), 38, 15, 0, 0), (38, .aload_n 0, 39, 0, 0, 0), (39, .getfield 7, 42, 3, 0, 1), (42, .iload_n 1, 43, 1, 0, 0), (43, .iconst 0, 44, 0, 0, 0), (44, .invokestatic 29, 47, 86, 2, 3), (47, .iload_n 2, 48, 2, 0, 0), (48, .iconst 1, 49, 0, 0, 1), (49, .iadd, 50, 0, 0, 0), (50, .iastore, 51, 0, 0, 0), (51, .aload_n 0, 52, 0, 0, 0), (52, .getfield 7, 55, 3, 0, 1), (55, .iconst 0, 56, 0, 0, 0), (56, .dup2, 57, 0, 0, 0), (57, .iaload, 58, 0, 0, 0), (58, .iconst 1, 59, 0, 0, 1), (59, .iadd, 60, 0, 0, 0), (60, .iastore, 61, 0, 0, 0), (61, .iload_n 1, 62, 1, 0, 0), (62, .ireturn, 63, 0, 0, 0)]
-- 104 yX3_thing
def xt_104 : List (Nat × xm_Q) := [(0, .aload_n 0, 1, 0, 0, 0), (1, .invokevirtual 64, 4, 102, 1, 3), (4, .istore_n 1, 5, 1, 0, 0), (5, .iload_n 1, 6, 1, 0, 0), (6, .ifCond .eq 5, 9, 11, 0, 0), (9, .iload_n 1, 10, 1, 0, 0), (10, .ireturn, 11, 0, 0, 0), (11, .aload_n 0, 12, 0, 0, 0), (12, .iconst 0, 13, 0, 0, 0), (13, .invokevirtual 68, 16, 93, 2, 3), (16, .aload_n 0, 17, 0, 0, 0), (17, .invokevirtual 72, 20, 103, 1, 3), (20, .ireturn, 21, 0, 0, 0)]
-- 105 yX3_noHold
def xt_105 : List (Nat × xm_Q) := [(0, .iload_n 1, 1, 1, 0, 0), (1, .invokestatic 75, 4, 88, 1, 3), (4, .ifCond .eq 15, 7, 19, 0, 0), (7, .aload_n 0, 8, 0, 0, 0), (8, .iload_n 2, 9, 2, 0, 0), (9, .invokevirtual 46, 12, 87, 2, 3), (12, .ifCond .eq 7, 15, 19, 0, 0), (15, .iconst 0, 16, 0, 0, 0), (16, .goto 5, 19, 21, 0, 0), (19, .ldc 78, 21, 0, 0, (-1000001)), (21, .ireturn, 22, 0, 0, 0)]
-- 106 yX3_doHold
def xt_106 : List (Nat × xm_Q) := [(0, .aload_n 0, 1, 0, 0, 0), (1, .getfield 7, 4, 3, 0, 1), (4, .bipush 12, 6, 0, 0, 12), (6, .iload_n 1, 7, 1, 0, 0), (7, .iadd, 8, 0, 0, 0), (8, .iload_n 2, 9, 2, 0, 0), (9, .iconst 1, 10, 0, 0, 1), (10, .iadd, 11, 0, 0, 0), (11, .iastore, 12, 0, 0, 0), (12, .iconst 0, 13, 0, 0, 0), (13, .istore_n 3, 14, 3, 0, 0), (14, .iconst 0, 15, 0, 0, 0), (15, .istore 4, 17, 4, 0, 0), (17, .iload 4, 19, 4, 0, 0), (19, .iconst 4, 20, 0, 0, 4), (20, .if_icmp .ge 30, 23, 50, 0, 0), (23, .iload_n 3, 24, 3, 0, 0), (24, .aload_n 0, 25, 0, 0, 0), (25, .getfield 7, 28, 3, 0, 1), (28, .bipush 12, 30, 0, 0, 12), (30, .iload 4, 32, 4, 0, 0), (32, .iadd, 33, 0, 0, 0), (33, .iaload, 34, 0, 0, 0), (34, .ifCond .le 7, 37, 41, 0, 0), (37, .iconst 1, 38, 0, 0, 1), (38, .goto 4, 41, 42, 0, 0), (41, .iconst 0, 42, 0, 0, 0), (42, .iadd, 43, 0, 0, 0), (43, .istore_n 3, 44, 3, 0, 0), (44, .iinc 4 1, 47, 4, 0, 1), (47, .goto (-30), 50, 17, 0, 0), (50, .iload_n 3, 51, 3, 0, 0), (51, .ireturn, 52, 0, 0, 0)]
-- 107 yX3_hold
def xt_107 : List (Nat × xm_Q) := [(0, .aload_n 0, 1, 0, 0, 0), (1, .iload_n 1, 2, 1, 0, 0), (2, .iload_n 2, 3, 2, 0, 0), (3, .invokevirtual 79, 6, 105, 3, 3), (6, .istore_n 3, 7, 3, 0, 0), (7, .iload_n 3, 8, 3, 0, 0), (8, .ifCond .eq 5, 11, 13, 0, 0), (11, .iload_n 3, 12, 3, 0, 0), (12, .ireturn, 13, 0, 0, 0), (13, .aload_n 0, 14, 0, 0, 0), (14, .iconst 0, 15, 0, 0, 0), (15, .invokevirtual 68, 18, 93, 2, 3), (18, .aload_n 0, 19, 0, 0, 0), (19, .iload_n 1, 20, 1, 0, 0), (20, .iload_n 2, 21, 2, 0, 0), (21, .invokevirtual 82, 24, 106, 3, 3), (24, .ireturn, 25, 0, 0, 0)]
-- 108 yX3_noRelease
def xt_108 : List (Nat × xm_Q) := [(0, .iload_n 1, 1, 1, 0, 0), (1, .invokestatic 75, 4, 88, 1, 3), (4, .ifCond .ne 8, 7, 12, 0, 0), (7, .ldc 78, 9, 0, 0, (-1000001)), (9, .goto 21, 12, 30, 0, 0), (12, .aload_n 0, 13, 0, 0, 0), (13, .getfield 7, 16, 3, 0, 1), (16, .bipush 12, 18, 0, 0, 12), (18, .iload_n 1, 19, 1, 0, 0), (19, .iadd, 20, 0, 0, 0), (20, .iaload, 21, 0, 0, 0), (21, .ifCond .ne 8, 24, 29, 0, 0), (24, .ldc 41, 26, 0, 0, (-1000002)), (26, .goto 4, 29, 30, 0, 0), (29, .iconst 0, 30, 0, 0, 0), (30, .ireturn, 31, 0, 0, 0)]
-- 109 yX3_doRelease
def xt_109 : List (Nat × xm_Q) := [(0, .aload_n 0, 1, 0, 0, 0), (1, .getfield 7, 4, 3, 0, 1), (4, .bipush 12, 6, 0, 0, 12), (6, .iload_n 1, 7, 1, 0, 0), (7, .iadd, 8, 0, 0, 0), (8, .iaload, 9, 0, 0, 0), (9, .iconst 1, 10, 0, 0, 1), (10, .isub, 11, 0, 0, 0), (11, .istore_n 2, 12, 2, 0, 0), (12, .aload_n 0, 13, 0, 0, 0), (13, .getfield 7, 16, 3, 0, 1), (16, .bipush 12, 18, 0, 0, 12), (18, .iload_n 1, 19, 1, 0, 0), (19, .iadd, 20, 0, 0, 0), (20, .iconst 0, 21, 0, 0, 0), (21, .iastore, 22, 0, 0, 0), (22, .iload_n 2, 23, 2, 0, 0), (23, .ireturn, 24, 0, 0, 0)]
-- 110 yX3_release
def xt_110 : List (Nat × xm_Q) := [(0, .aload_n 0, 1, 0, 0, 0), (1, .iload_n 1, 2, 1, 0, 0), (2, .invokevirtual 85, 5, 108, 2, 3), (5, .istore_n 2, 6, 2, 0, 0), (6, .iload_n 2, 7, 2, 0, 0), (7, .ifCond .eq 5, 10, 12, 0, 0), (10, .iload_n 2, 11, 2, 0, 0), (11, .ireturn, 12, 0, 0, 0), (12, .aload_n 0, 13, 0, 0, 0), (13, .iconst 0, 14, 0, 0, 0), (14, .invokevirtual 68, 17, 93, 2, 3), (17, .aload_n 0, 18, 0, 0, 0), (18, .iload_n 1, 19, 1, 0, 0), (19, .invokevirtual 88, 22, 109, 2, 3), (22, .ireturn, 23, 0, 0, 0)]
-- 111 yX3_noTie
def xt_111 : List (Nat × xm_Q) := [(0, .aload_n 0, 1, 0, 0, 0), (1, .iload_n 1, 2, 1, 0, 0), (2, .invokevirtual 46, 5, 87, 2, 3), (5, .ifCond .eq 22, 8, 27, 0, 0), (8, .iload_n 2, 9, 2, 0, 0), (9, .invokestatic 91, 12, 89, 1, 3), (12, .ifCond .eq 15, 15, 27, 0, 0), (15, .aload_n 0, 16, 0, 0, 0), (16, .iload_n 3, 17, 3, 0, 0), (17, .invokevirtual 46, 20, 87, 2, 3), (20, .ifCond .eq 7, 23, 27, 0, 0), (23, .iconst 0, 24, 0, 0, 0), (24, .goto 5, 27, 29, 0, 0), (27, .ldc 78, 29, 0, 0, (-1000001)), (29, .ireturn, 30, 0, 0, 0)]
-- 112 yX3_doTie
def xt_112 : List (Nat × xm_Q) := [(0, .aload_n 0, 1, 0, 0, 0), (1, .getfield 7, 4, 3, 0, 1), (4, .iload_n 1, 5, 1, 0, 0), (5, .iconst 2, 6, 0, 0, 2), (6, .iload_n 2, 7, 2, 0, 0), (7, .iadd, 8, 0, 0, 0), (8, .invokestatic 29, 11, 86, 2, 3), (11, .iload_n 3, 12, 3, 0, 0), (12, .iconst 1, 13, 0, 0, 1), (13, .iadd, 14, 0, 0, 0), (14, .iastore, 15, 0, 0, 0), (15, .aload_n 0, 16, 0, 0, 0), (16, .iload_n 3, 17, 3, 0, 0), (17, .invokevirtual 50, 20, 96, 2, 3), (20, .aload_n 0, 21, 0, 0, 0), (21, .iload_n 1, 22, 1, 0, 0), (22, .invokevirtual 50, 25, 96, 2, 3), (25, .if_icmp .ge 7, 28, 32, 0, 0), (28, .iconst 1, 29, 0, 0, 1), (29, .goto 4, 32, 33, 0, 0), (32, .iconst 0, 33, 0, 0, 0), (33, .ireturn, 34, 0, 0, 0)]
-- 113 yX3_tie
def xt_113 : List (Nat × xm_Q) := [(0, .aload_n 0, 1, 0, 0, 0), (1, .iload_n 1, 2, 1, 0, 0), (2, .iload_n 2, 3, 2, 0, 0), (3, .iload_n 3, 4, 3, 0, 0), (4, .invokevirtual 94, 7, 111, 4, 3), (7, .istore 4, 9, 4, 0, 0), (9, .iload 4, 11, 4, 0, 0), (11, .ifCond .eq 6, 14, 17, 0, 0), (14, .iload 4, 16, 4, 0, 0), (16, .ireturn, 17, 0, 0, 0), (17, .aload_n 0, 18, 0, 0, 0), (18, .iconst 0, 19, 0, 0, 0), (19, .invokevirtual 68, 22, 93, 2, 3), (22, .aload_n 0, 23, 0, 0, 0), (23, .iload_n 1, 24, 1, 0, 0), (24, .iload_n 2, 25, 2, 0, 0), (25, .iload_n 3, 26, 3, 0, 0), (26, .invokevirtual 98, 29, 112, 4, 3), (29, .ireturn, 30, 0, 0, 0)]
-- 114 yX3_noLoosen
def xt_114 : List (Nat × xm_Q) := [(0, .aload_n 0, 1, 0, 0, 0), (1, .iload_n 1, 2, 1, 0, 0), (2, .invokevirtual 46, 5, 87, 2, 3), (5, .ifCond .eq 10, 8, 15, 0, 0), (8, .iload_n 2, 9, 2, 0, 0), (9, .invokestatic 91, 12, 89, 1, 3), (12, .ifCond .ne 8, 15, 20, 0, 0), (15, .ldc 78, 17, 0, 0, (-1000001)), (17, .goto 24, 20, 41, 0, 0), (20, .aload_n 0, 21, 0, 0, 0), (21, .getfield 7, 24, 3, 0, 1), (24, .iload_n 1, 25, 1, 0, 0), (25, .iconst 2, 26, 0, 0, 2), (26, .iload_n 2, 27, 2, 0, 0), (27, .iadd, 28, 0, 0, 0), (28, .invokestatic 29, 31, 86, 2, 3), (31, .iaload, 32, 0, 0, 0), (32, .ifCond .ne 8, 35, 40, 0, 0), (35, .ldc 41, 37, 0, 0, (-1000002)), (37, .goto 4, 40, 41, 0, 0), (40, .iconst 0, 41, 0, 0, 0), (41, .ireturn, 42, 0, 0, 0)]
-- 115 yX3_doLoosen
def xt_115 : List (Nat × xm_Q) := [(0, .aload_n 0, 1, 0, 0, 0), (1, .getfield 7, 4, 3, 0, 1), (4, .iload_n 1, 5, 1, 0, 0), (5, .iconst 2, 6, 0, 0, 2), (6, .iload_n 2, 7, 2, 0, 0), (7, .iadd, 8, 0, 0, 0), (8, .invokestatic 29, 11, 86, 2, 3), (11, .iaload, 12, 0, 0, 0), (12, .iconst 1, 13, 0, 0, 1), (13, .isub, 14, 0, 0, 0), (14, .istore_n 3, 15, 3, 0, 0), (15, .aload_n 0, 16, 0, 0, 0), (16, .getfield 7, 19, 3, 0, 1), (19, .iload_n 1, 20, 1, 0, 0), (20, .iconst 2, 21, 0, 0, 2), (21, .iload_n 2, 22, 2, 0, 0), (22, .iadd, 23, 0, 0, 0), (23, .invokestatic 29, 26, 86, 2, 3), (26, .iconst 0, 27, 0, 0, 0), (27, .iastore, 28, 0, 0, 0), (28, .iload_n 3, 29, 3, 0, 0), (29, .ireturn, 30, 0, 0, 0)]
-- 116 yX3_loosen
def xt_116 : List (Nat × xm_Q) := [(0, .aload_n 0, 1, 0, 0, 0), (1, .iload_n 1, 2, 1, 0, 0), (2, .iload_n 2, 3, 2, 0, 0), (3, .invokevirtual 101, 6, 114, 3, 3), (6, .istore_n 3, 7, 3, 0, 0), (7, .iload_n 3, 8, 3, 0, 0), (8, .ifCond .eq 5, 11, 13, 0, 0), (11, .iload_n 3, 12, 3, 0, 0), (12, .ireturn, 13, 0, 0, 0), (13, .aload_n 0, 14, 0, 0, 0), (14, .iconst 0, 15, 0, 0, 0), (15, .invokevirtual 68, 18, 93, 2, 3), (18, .aload_n 0, 19, 0, 0, 0), (19, .iload_n 1, 20, 1, 0, 0), (20, .iload_n 2, 21, 2, 0, 0), (21, .invokevirtual 104, 24, 115, 3, 3), (24, .ireturn, 25, 0, 0, 0)]
-- 117 yX3_pinned
def xt_117 : List (Nat × xm_Q) := [(0, .iconst 0, 1, 0, 0, 0), (1, .istore_n 1, 2, 1, 0, 0), (2, .iconst 0, 3, 0, 0, 0), (3, .istore_n 2, 4, 2, 0, 0), (4, .iload_n 2, 5, 2, 0, 0), (5, .aload_n 0, 6, 0, 0, 0), (6, .getfield 7, 9, 3, 0, 1), (9, .iconst 0, 10, 0, 0, 0), (10, .iaload, 11, 0, 0, 0), (11, .if_icmp .ge 41, 14, 52, 0, 0), (14, .iload_n 1, 15, 1, 0, 0), (15, .aload_n 0, 16, 0, 0, 0), (16, .iload_n 2, 17, 2, 0, 0), (17, .invokevirtual 46, 20, 87, 2, 3), (20, .ifCond .eq 23, 23, 43, 0, 0), (23, .aload_n 0, 24, 0, 0, 0), (24, .getfield 7, 27, 3, 0, 1), (27, .iload_n 2, 28, 2, 0, 0), (28, .iconst 1, 29, 0, 0, 1), (29, .invokestatic 29, 32, 86, 2, 3), (32, .iaload, 33, 0, 0, 0), (33, .iconst 1, 34, 0, 0, 1), (34, .if_icmp .ne 9, 37, 43, 0, 0), (37, .iconst 1, 38, 0, 0, 1), (38, .iload_n 2, 39, 2, 0, 0), (39, .ishl, 40, 0, 0, 0), (40, .goto 4, 43, 44, 0, 0), (43, .iconst 0, 44, 0, 0, 0), (44, .ior, 45, 0, 0, 0), (45, .istore_n 1, 46, 1, 0, 0), (46, .iinc 2 1, 49, 2, 0, 1), (49, .goto (-45), 52, 4, 0, 0), (52, .iload_n 1, 53, 1, 0, 0), (53, .ireturn, 54, 0, 0, 0)]
-- 118 yX3_noPin
def xt_118 : List (Nat × xm_Q) := [(0, .aload_n 0, 1, 0, 0, 0), (1, .iload_n 1, 2, 1, 0, 0), (2, .invokevirtual 46, 5, 87, 2, 3), (5, .ifCond .ne 8, 8, 13, 0, 0), (8, .ldc 78, 10, 0, 0, (-1000001)), (10, .goto 23, 13, 33, 0, 0), (13, .aload_n 0, 14, 0, 0, 0), (14, .getfield 7, 17, 3, 0, 1), (17, .iload_n 1, 18, 1, 0, 0), (18, .iconst 1, 19, 0, 0, 1), (19, .invokestatic 29, 22, 86, 2, 3), (22, .iaload, 23, 0, 0, 0), (23, .iload_n 2, 24, 2, 0, 0), (24, .if_icmp .ne 8, 27, 32, 0, 0), (27, .ldc 41, 29, 0, 0, (-1000002)), (29, .goto 4, 32, 33, 0, 0), (32, .iconst 0, 33, 0, 0, 0), (33, .ireturn, 34, 0, 0, 0)]
-- 119 yX3_doPin
def xt_119 : List (Nat × xm_Q) := [(0, .aload_n 0, 1, 0, 0, 0), (1, .getfield 7, 4, 3, 0, 1), (4, .iload_n 1, 5, 1, 0, 0), (5, .iconst 1, 6, 0, 0, 1), (6, .invokestatic 29, 9, 86, 2, 3), (9, .iload_n 2, 10, 2, 0, 0), (10, .iastore, 11, 0, 0, 0), (11, .aload_n 0, 12, 0, 0, 0), (12, .invokevirtual 107, 15, 117, 1, 3), (15, .invokestatic 110, 18, 91, 1, 3), (18, .ireturn, 19, 0, 0, 0)]
-- 120 yX3_pin
def xt_120 : List (Nat × xm_Q) := [(0, .aload_n 0, 1, 0, 0, 0), (1, .iload_n 1, 2, 1, 0, 0), (2, .iconst 1, 3, 0, 0, 1), (3, .invokevirtual 113, 6, 118, 3, 3), (6, .istore_n 2, 7, 2, 0, 0), (7, .iload_n 2, 8, 2, 0, 0), (8, .ifCond .eq 5, 11, 13, 0, 0), (11, .iload_n 2, 12, 2, 0, 0), (12, .ireturn, 13, 0, 0, 0), (13, .aload_n 0, 14, 0, 0, 0), (14, .iconst 0, 15, 0, 0, 0), (15, .invokevirtual 68, 18, 93, 2, 3), (18, .aload_n 0, 19, 0, 0, 0), (19, .iload_n 1, 20, 1, 0, 0), (20, .iconst 1, 21, 0, 0, 1), (21, .invokevirtual 116, 24, 119, 3, 3), (24, .ireturn, 25, 0, 0, 0)]
-- 121 yX3_unpin
def xt_121 : List (Nat × xm_Q) := [(0, .aload_n 0, 1, 0, 0, 0), (1, .iload_n 1, 2, 1, 0, 0), (2, .iconst 0, 3, 0, 0, 0), (3, .invokevirtual 113, 6, 118, 3, 3), (6, .istore_n 2, 7, 2, 0, 0), (7, .iload_n 2, 8, 2, 0, 0), (8, .ifCond .eq 5, 11, 13, 0, 0), (11, .iload_n 2, 12, 2, 0, 0), (12, .ireturn, 13, 0, 0, 0), (13, .aload_n 0, 14, 0, 0, 0), (14, .iconst 0, 15, 0, 0, 0), (15, .invokevirtual 68, 18, 93, 2, 3), (18, .aload_n 0, 19, 0, 0, 0), (19, .iload_n 1, 20, 1, 0, 0), (20, .iconst 0, 21, 0, 0, 0), (21, .invokevirtual 116, 24, 119, 3, 3), (24, .ireturn, 25, 0, 0, 0)]
-- 122 yX3_held
def xt_122 : List (Nat × xm_Q) := [(0, .iconst 0, 1, 0, 0, 0), (1, .istore_n 1, 2, 1, 0, 0), (2, .iconst 0, 3, 0, 0, 0), (3, .istore_n 2, 4, 2, 0, 0), (4, .iload_n 2, 5, 2, 0, 0), (5, .iconst 4, 6, 0, 0, 4), (6, .if_icmp .ge 41, 9, 47, 0, 0), (9, .iload_n 1, 10, 1, 0, 0), (10, .aload_n 0, 11, 0, 0, 0), (11, .getfield 7, 14, 3, 0, 1), (14, .bipush 12, 16, 0, 0, 12), (16, .iload_n 2, 17, 2, 0, 0), (17, .iadd, 18, 0, 0, 0), (18, .iaload, 19, 0, 0, 0), (19, .ifCond .le 19, 22, 38, 0, 0), (22, .iconst 1, 23, 0, 0, 1), (23, .aload_n 0, 24, 0, 0, 0), (24, .getfield 7, 27, 3, 0, 1), (27, .bipush 12, 29, 0, 0, 12), (29, .iload_n 2, 30, 2, 0, 0), (30, .iadd, 31, 0, 0, 0), (31, .iaload, 32, 0, 0, 0), (32, .iconst 1, 33, 0, 0, 1), (33, .isub, 34, 0, 0, 0), (34, .ishl, 35, 0, 0, 0), (35, .goto 4, 38, 39, 0, 0), (38, .iconst 0, 39, 0, 0, 0), (39, .ior, 40, 0, 0, 0), (40, .istore_n 1, 41, 1, 0, 0), (41, .iinc 2 1, 44, 2, 0, 1), (44, .goto (-40), 47, 4, 0, 0), (47, .iload_n 1, 48, 1, 0, 0), (48, .ireturn, 49, 0, 0, 0)]
-- 123 yX3_tiedTo
def xt_123 : List (Nat × xm_Q) := [(0, .iconst 0, 1, 0, 0, 0), (1, .istore_n 2, 2, 2, 0, 0), (2, .iconst 0, 3, 0, 0, 0), (3, .istore_n 3, 4, 3, 0, 0), (4, .iload_n 3, 5, 3, 0, 0), (5, .aload_n 0, 6, 0, 0, 0), (6, .getfield 7, 9, 3, 0, 1), (9, .iconst 0, 10, 0, 0, 0), (10, .iaload, 11, 0, 0, 0), (11, .if_icmp .ge 72, 14, 83, 0, 0), (14, .iconst 0, 15, 0, 0, 0), (15, .istore 4, 17, 4, 0, 0), (17, .iload 4, 19, 4, 0, 0), (19, .iconst 3, 20, 0, 0, 3), (20, .if_icmp .ge 57, 23, 77, 0, 0), (23, .iload_n 1, 24, 1, 0, 0), (24, .iload_n 3, 25, 3, 0, 0), (25, .invokestatic 119, 28, 90, 2, 3), (28, .ifCond .eq 49, 31, 77, 0, 0), (31, .iload_n 2, 32, 2, 0, 0), (32, .aload_n 0, 33, 0, 0, 0), (33, .getfield 7, 36, 3, 0, 1), (36, .iload_n 3, 37, 3, 0, 0), (37, .iconst 2, 38, 0, 0, 2), (38, .iload 4, 40, 4, 0, 0), (40, .iadd, 41, 0, 0, 0), (41, .invokestatic 29, 44, 86, 2, 3), (44, .iaload, 45, 0, 0, 0), (45, .ifCond .le 23, 48, 68, 0, 0), (48, .iconst 1, 49, 0, 0, 1), (49, .aload_n 0, 50, 0, 0, 0), (50, .getfield 7, 53, 3, 0, 1), (53, .iload_n 3, 54, 3, 0, 0), (54, .iconst 2, 55, 0, 0, 2), (55, .iload 4, 57, 4, 0, 0), (57, .iadd, 58, 0, 0, 0), (58, .invokestatic 29, 61, 86, 2, 3), (61, .iaload, 62, 0, 0, 0), (62, .iconst 1, 63, 0, 0, 1), (63, .isub, 64, 0, 0, 0), (64, .ishl, 65, 0, 0, 0), (65, .goto 4, 68, 69, 0, 0), (68, .iconst 0, 69, 0, 0, 0), (69, .ior, 70, 0, 0, 0), (70, .istore_n 2, 71, 2, 0, 0), (71, .iinc 4 1, 74, 4, 0, 1), (74, .goto (-57), 77, 17, 0, 0), (77, .iinc 3 1, 80, 3, 0, 1), (80, .goto (-76), 83, 4, 0, 0), (83, .iload_n 2, 84, 2, 0, 0), (84, .ireturn, 85, 0, 0, 0)]
-- 124 yX3_reached
def xt_124 : List (Nat × xm_Q) := [(0, .iload_n 1, 1, 1, 0, 0), (1, .iload_n 2, 2, 2, 0, 0), (2, .iand, 3, 0, 0, 0), (3, .istore_n 3, 4, 3, 0, 0), (4, .iload_n 3, 5, 3, 0, 0), (5, .istore 4, 7, 4, 0, 0), (7, .iload 4, 9, 4, 0, 0), (9, .ifCond .eq 25, 12, 34, 0, 0), (12, .aload_n 0, 13, 0, 0, 0), (13, .iload 4, 15, 4, 0, 0), (15, .invokevirtual 123, 18, 123, 2, 3), (18, .iload_n 2, 19, 2, 0, 0), (19, .iand, 20, 0, 0, 0), (20, .iload_n 3, 21, 3, 0, 0), (21, .iconst (-1), 22, 0, 0, (-1)), (22, .ixor, 23, 0, 0, 0), (23, .iand, 24, 0, 0, 0), (24, .istore 4, 26, 4, 0, 0), (26, .iload_n 3, 27, 3, 0, 0), (27, .iload 4, 29, 4, 0, 0), (29, .ior, 30, 0, 0, 0), (30, .istore_n 3, 31, 3, 0, 0), (31, .goto (-24), 34, 7, 0, 0), (34, .iload_n 3, 35, 3, 0, 0), (35, .ireturn, 36, 0, 0, 0)]
-- 125 yX3_roots
def xt_125 : List (Nat × xm_Q) := [(0, .aload_n 0, 1, 0, 0, 0), (1, .invokevirtual 126, 4, 122, 1, 3), (4, .aload_n 0, 5, 0, 0, 0), (5, .invokevirtual 107, 8, 117, 1, 3), (8, .ior, 9, 0, 0, 0), (9, .ireturn, 10, 0, 0, 0)]
-- 126 yX3_all
def xt_126 : List (Nat × xm_Q) := [(0, .aload_n 0, 1, 0, 0, 0), (1, .iconst 2, 2, 0, 0, 2), (2, .invokevirtual 129, 5, 97, 2, 3), (5, .ireturn, 6, 0, 0, 0)]
-- 127 yX3_neededOf
def xt_127 : List (Nat × xm_Q) := [(0, .aload_n 0, 1, 0, 0, 0), (1, .aload_n 0, 2, 0, 0, 0), (2, .invokevirtual 132, 5, 125, 1, 3), (5, .aload_n 0, 6, 0, 0, 0), (6, .invokevirtual 135, 9, 126, 1, 3), (9, .invokevirtual 138, 12, 124, 3, 3), (12, .ireturn, 13, 0, 0, 0)]
-- 128 yX3_survivorsOf
def xt_128 : List (Nat × xm_Q) := [(0, .aload_n 0, 1, 0, 0, 0), (1, .iload_n 1, 2, 1, 0, 0), (2, .invokevirtual 129, 5, 97, 2, 3), (5, .istore_n 2, 6, 2, 0, 0), (6, .aload_n 0, 7, 0, 0, 0), (7, .aload_n 0, 8, 0, 0, 0), (8, .invokevirtual 132, 11, 125, 1, 3), (11, .aload_n 0, 12, 0, 0, 0), (12, .aload_n 0, 13, 0, 0, 0), (13, .invokevirtual 135, 16, 126, 1, 3), (16, .iload_n 2, 17, 2, 0, 0), (17, .iconst (-1), 18, 0, 0, (-1)), (18, .ixor, 19, 0, 0, 0), (19, .iand, 20, 0, 0, 0), (20, .invokevirtual 123, 23, 123, 2, 3), (23, .ior, 24, 0, 0, 0), (24, .iload_n 2, 25, 2, 0, 0), (25, .invokevirtual 138, 28, 124, 3, 3), (28, .ireturn, 29, 0, 0, 0)]
-- 129 yX3_lose
def xt_129 : List (Nat × xm_Q) := [(0, .iconst 0, 1, 0, 0, 0), (1, .istore_n 2, 2, 2, 0, 0), (2, .iload_n 2, 3, 2, 0, 0), (3, .aload_n 0, 4, 0, 0, 0), (4, .getfield 7, 7, 3, 0, 1), (7, .iconst 0, 8, 0, 0, 0), (8, .iaload, 9, 0, 0, 0), (9, .if_icmp .ge 41, 12, 50, 0, 0), (12, .iconst 0, 13, 0, 0, 0), (13, .istore_n 3, 14, 3, 0, 0), (14, .iload_n 3, 15, 3, 0, 0), (15, .iconst 5, 16, 0, 0, 5), (16, .if_icmp .ge 28, 19, 44, 0, 0), (19, .iload_n 1, 20, 1, 0, 0), (20, .iload_n 2, 21, 2, 0, 0), (21, .invokestatic 119, 24, 90, 2, 3), (24, .ifCond .eq 20, 27, 44, 0, 0), (27, .aload_n 0, 28, 0, 0, 0), (28, .getfield 7, 31, 3, 0, 1), (31, .iload_n 2, 32, 2, 0, 0), (32, .iload_n 3, 33, 3, 0, 0), (33, .invokestatic 29, 36, 86, 2, 3), (36, .iconst 0, 37, 0, 0, 0), (37, .iastore, 38, 0, 0, 0), (38, .iinc 3 1, 41, 3, 0, 1), (41, .goto (-27), 44, 14, 0, 0), (44, .iinc 2 1, 47, 2, 0, 1), (47, .goto (-45), 50, 2, 0, 0), (50, .aload_n 0, 51, 0, 0, 0), (51, .invokevirtual 141, 54, 101, 1, 3), (54, .return_, 55, 0, 0, 0)]
-- 130 yX3_comes
def xt_130 : List (Nat × xm_Q) := [(0, .aload_n 0, 1, 0, 0, 0), (1, .iload_n 1, 2, 1, 0, 0), (2, .invokevirtual 144, 5, 128, 2, 3), (5, .istore_n 2, 6, 2, 0, 0), (6, .aload_n 0, 7, 0, 0, 0), (7, .iload_n 1, 8, 1, 0, 0), (8, .invokevirtual 129, 11, 97, 2, 3), (11, .iload_n 2, 12, 2, 0, 0), (12, .iconst (-1), 13, 0, 0, (-1)), (13, .ixor, 14, 0, 0, 0), (14, .iand, 15, 0, 0, 0), (15, .istore_n 3, 16, 3, 0, 0), (16, .iload_n 2, 17, 2, 0, 0), (17, .aload_n 0, 18, 0, 0, 0), (18, .invokevirtual 107, 21, 117, 1, 3), (21, .iand, 22, 0, 0, 0), (22, .istore 4, 24, 4, 0, 0), (24, .iconst 0, 25, 0, 0, 0), (25, .istore 5, 27, 5, 0, 0), (27, .iload 5, 29, 5, 0, 0), (29, .bipush 8, 31, 0, 0, 8), (31, .if_icmp .ge 25, 34, 56, 0, 0), (34, .aload_n 0, 35, 0, 0, 0), (35, .getfield 16, 38, 3, 4, 1), (38, .iload 5, 40, 5, 0, 0), (40, .aload_n 0, 41, 0, 0, 0), (41, .getfield 7, 44, 3, 0, 1), (44, .iconst 4, 45, 0, 0, 4), (45, .iload 5, 47, 5, 0, 0), (47, .iadd, 48, 0, 0, 0), (48, .iaload, 49, 0, 0, 0), (49, .iastore, 50, 0, 0, 0), (50, .iinc 5 1, 53, 5, 0, 1), (53, .goto (-26), 56, 27, 0, 0), (56, .iconst 0, 57, 0, 0, 0), (57, .istore 5, 59, 5, 0, 0), (59, .iload 5, 61, 5, 0, 0), (61, .aload_n 0, 62, 0, 0, 0), (62, .getfield 7, 65, 3, 0, 1), (65, .iconst 0, 66, 0, 0, 0), (66, .iaload, 67, 0, 0, 0), (67, .if_icmp .ge 45, 70, 112, 0, 0), (70, .iload 4, 72, 4, 0, 0), (72, .iload 5, 74, 5, 0, 0), (74, .invokestatic 119, 77, 90, 2, 3), (77, .ifCond .eq 29, 80, 106, 0, 0), (80, .aload_n 0, 81, 0, 0, 0), (81, .getfield 7, 84, 3, 0, 1), (84, .iconst 4, 85, 0, 0, 4), (85, .aload_n 0, 86, 0, 0, 0), (86, .iload 5, 88, 5, 0, 0), (88, .invokevirtual 42, 91, 95, 2, 3), (91, .iadd, 92, 0, 0, 0), (92, .aload_n 0, 93, 0, 0, 0), (93, .getfield 16, 96, 3, 4, 1), (96, .aload_n 0, 97, 0, 0, 0), (97, .iload 5, 99, 5, 0, 0), (99, .invokevirtual 42, 102, 95, 2, 3), (102, .iaload, 103, 0, 0, 0), (103, .iconst 1, 104, 0, 0, 1), (104, .iadd, 105, 0, 0, 0), (105, .iastore, 106, 0, 0, 0), (106, .iinc 5 1, 109, 5, 0, 1), (109, .goto (-50), 112, 59, 0, 0), (112, .iconst 0, 113, 0, 0, 0), (113, .istore 5, 115, 5, 0, 0), (115, .iload 5, 117, 5, 0, 0), (117, .aload_n 0, 118, 0, 0, 0), (118, .getfield 7, 121, 3, 0, 1), (121, .iconst 0, 122, 0, 0, 0), (122, .iaload, 123, 0, 0, 0), (123, .if_icmp .ge 89, 126, 212, 0, 0), (126, .iload_n 2, 127, 2, 0, 0), (127, .iload 4, 129, 4, 0, 0), (129, .iconst (-1), 130, 0, 0, (-1)), (130, .ixor, 131, 0, 0, 0), (131, .iand, 132, 0, 0, 0), (132, .iload 5, 134, 5, 0, 0), (134, .invokestatic 119, 137, 90, 2, 3), (137, .ifCond .eq 69, 140, 206, 0, 0), (140, .aload_n 0, 141, 0, 0, 0), (141, .aload_n 0, 142, 0, 0, 0), (142, .getfield 16, 145, 3, 4, 1), (145, .aload_n 0, 146, 0, 0, 0), (146, .iload 5, 148, 5, 0, 0), (148, .invokevirtual 42, 151, 95, 2, 3), (151, .iaload, 152, 0, 0, 0), (152, .invokevirtual 60, 155, 100, 2, 3), (155, .istore 6, 157, 6, 0, 0), (157, .iload 6, 159, 6, 0, 0), (159, .ldc 53, 161, 0, 0, (-1000004)), (161, .if_icmp .ne 5, 164, 166, 0, 0), (164, .iconst 0, 165, 0, 0, 0), (165, .ireturn, 166, 0, 0, 0), (166, .aload_n 0, 167, 0, 0, 0), (167, .getfield 7, 170, 3, 0, 1), (170, .iload 5, 172, 5, 0, 0), (172, .iconst 0, 173, 0, 0, 0), (173, .invokestatic 29, 176, 86, 2, 3), (176, .iload 6, 178, 6, 0, 0), (178, .iconst 1, 179, 0, 0, 1), (179, .iadd, 180, 0, 0, 0), (180, .iastore, 181, 0, 0, 0), (181, .aload_n 0, 182, 0, 0, 0), (182, .getfield 7, 185, 3, 0, 1), (185, .iload 5, 187, 5, 0, 0), (187, .iconst 5, 188, 0, 0, 5), (188, .invokestatic 29, 191, 86, 2, 3), (191, .dup2, 192, 0, 0, 0), (192, .iaload, 193, 0, 0, 0), (193, .iconst 1, 194, 0, 0, 1), (194, .iadd, 195, 0, 0, 0), (195, .iastore, 196, 0, 0, 0), (196, .aload_n 0, 197, 0, 0, 0), (197, .getfield 7, 200, 3, 0, 1), (200, .iconst 3, 201, 0, 0, 3), (201, .dup2, 202, 0, 0, 0), (202, .iaload, 203, 0, 0, 0), (203, .iconst 1, 204, 0, 0, 1), (204, .iadd, 205, 0, 0, 0), (205, .iastore, 206, 0, 0, 0), (206, .iinc 5 1, 209, 5, 0, 1), (209, .goto (-94), 212, 115, 0, 0), (212, .aload_n 0, 213, 0, 0, 0), (213, .iload_n 3, 214, 3, 0, 0), (214, .invokevirtual 147, 217, 129, 2, 3), (217, .aload_n 0, 218, 0, 0, 0), (218, .getfield 7, 221, 3, 0, 1), (221, .iconst 1, 222, 0, 0, 1), (222, .dup2, 223, 0, 0, 0), (223, .iaload, 224, 0, 0, 0), (224, .iconst 1, 225, 0, 0, 1), (225, .iadd, 226, 0, 0, 0), (226, .iastore, 227, 0, 0, 0), (227, .iconst 1, 228, 0, 0, 1), (228, .ireturn, 229, 0, 0, 0)]
-- 131 yX3_canCome
def xt_131 : List (Nat × xm_Q) := [(0, .aload_n 0, 1, 0, 0, 0), (1, .iconst 0, 2, 0, 0, 0), (2, .sipush 980, 5, 0, 0, 980), (5, .invokevirtual 37, 8, 92, 3, 3), (8, .aload_n 0, 9, 0, 0, 0), (9, .iload_n 1, 10, 1, 0, 0), (10, .invokevirtual 150, 13, 130, 2, 3), (13, .istore_n 2, 14, 2, 0, 0), (14, .aload_n 0, 15, 0, 0, 0), (15, .sipush 980, 18, 0, 0, 980), (18, .iconst 0, 19, 0, 0, 0), (19, .invokevirtual 37, 22, 92, 3, 3), (22, .iload_n 2, 23, 2, 0, 0), (23, .ireturn, 24, 0, 0, 0)]
-- 132 yX3_isYoung
def xt_132 : List (Nat × xm_Q) := [(0, .iload_n 0, 1, 0, 0, 0), (1, .iconst 0, 2, 0, 0, 0), (2, .iconst 1, 3, 0, 0, 1), (3, .invokestatic 25, 6, 85, 3, 3), (6, .ireturn, 7, 0, 0, 0)]
-- 133 yX3_noWinter
def xt_133 : List (Nat × xm_Q) := [(0, .iload_n 1, 1, 1, 0, 0), (1, .invokestatic 153, 4, 132, 1, 3), (4, .ifCond .ne 8, 7, 12, 0, 0), (7, .ldc 78, 9, 0, 0, (-1000001)), (9, .goto 17, 12, 26, 0, 0), (12, .aload_n 0, 13, 0, 0, 0), (13, .iload_n 1, 14, 1, 0, 0), (14, .invokevirtual 156, 17, 131, 2, 3), (17, .ifCond .eq 7, 20, 24, 0, 0), (20, .iconst 0, 21, 0, 0, 0), (21, .goto 5, 24, 26, 0, 0), (24, .ldc 41, 26, 0, 0, (-1000002)), (26, .ireturn, 27, 0, 0, 0)]
-- 134 yX3_winter
def xt_134 : List (Nat × xm_Q) := [(0, .aload_n 0, 1, 0, 0, 0), (1, .iload_n 1, 2, 1, 0, 0), (2, .invokevirtual 159, 5, 133, 2, 3), (5, .istore_n 2, 6, 2, 0, 0), (6, .iload_n 2, 7, 2, 0, 0), (7, .ifCond .eq 5, 10, 12, 0, 0), (10, .iload_n 2, 11, 2, 0, 0), (11, .ireturn, 12, 0, 0, 0), (12, .aload_n 0, 13, 0, 0, 0), (13, .iconst 0, 14, 0, 0, 0), (14, .invokevirtual 68, 17, 93, 2, 3), (17, .aload_n 0, 18, 0, 0, 0), (18, .invokevirtual 135, 21, 126, 1, 3), (21, .invokestatic 110, 24, 91, 1, 3), (24, .istore_n 3, 25, 3, 0, 0), (25, .aload_n 0, 26, 0, 0, 0), (26, .iload_n 1, 27, 1, 0, 0), (27, .invokevirtual 150, 30, 130, 2, 3), (30, .pop, 31, 0, 0, 0), (31, .iload_n 3, 32, 3, 0, 0), (32, .aload_n 0, 33, 0, 0, 0), (33, .invokevirtual 135, 36, 126, 1, 3), (36, .invokestatic 110, 39, 91, 1, 3), (39, .isub, 40, 0, 0, 0), (40, .ireturn, 41, 0, 0, 0)]
-- 135 yX3_doFull
def xt_135 : List (Nat × xm_Q) := [(0, .aload_n 0, 1, 0, 0, 0), (1, .invokevirtual 135, 4, 126, 1, 3), (4, .aload_n 0, 5, 0, 0, 0), (5, .invokevirtual 162, 8, 127, 1, 3), (8, .iconst (-1), 9, 0, 0, (-1)), (9, .ixor, 10, 0, 0, 0), (10, .iand, 11, 0, 0, 0), (11, .istore_n 1, 12, 1, 0, 0), (12, .aload_n 0, 13, 0, 0, 0), (13, .iload_n 1, 14, 1, 0, 0), (14, .invokevirtual 147, 17, 129, 2, 3), (17, .aload_n 0, 18, 0, 0, 0), (18, .getfield 7, 21, 3, 0, 1), (21, .iconst 2, 22, 0, 0, 2), (22, .dup2, 23, 0, 0, 0), (23, .iaload, 24, 0, 0, 0), (24, .iconst 1, 25, 0, 0, 1), (25, .iadd, 26, 0, 0, 0), (26, .iastore, 27, 0, 0, 0), (27, .iload_n 1, 28, 1, 0, 0), (28, .invokestatic 110, 31, 91, 1, 3), (31, .ireturn, 32, 0, 0, 0)]
-- 136 yX3_full
def xt_136 : List (Nat × xm_Q) := [(0, .aload_n 0, 1, 0, 0, 0), (1, .iconst 0, 2, 0, 0, 0), (2, .invokevirtual 68, 5, 93, 2, 3), (5, .aload_n 0, 6, 0, 0, 0), (6, .invokevirtual 165, 9, 135, 1, 3), (9, .ireturn, 10, 0, 0, 0)]
-- 137 yX3_tiedFrom
def xt_137 : List (Nat × xm_Q) := [(0, .iconst 0, 1, 0, 0, 0), (1, .istore_n 2, 2, 2, 0, 0), (2, .iconst 0, 3, 0, 0, 0), (3, .istore_n 3, 4, 3, 0, 0), (4, .iload_n 3, 5, 3, 0, 0), (5, .aload_n 0, 6, 0, 0, 0), (6, .getfield 7, 9, 3, 0, 1), (9, .iconst 0, 10, 0, 0, 0), (10, .iaload, 11, 0, 0, 0), (11, .if_icmp .ge 33, 14, 44, 0, 0), (14, .iload_n 2, 15, 2, 0, 0), (15, .aload_n 0, 16, 0, 0, 0), (16, .iconst 1, 17, 0, 0, 1), (17, .iload_n 3, 18, 3, 0, 0), (18, .ishl, 19, 0, 0, 0), (19, .invokevirtual 123, 22, 123, 2, 3), (22, .iload_n 1, 23, 1, 0, 0), (23, .invokestatic 119, 26, 90, 2, 3), (26, .ifCond .eq 9, 29, 35, 0, 0), (29, .iconst 1, 30, 0, 0, 1), (30, .iload_n 3, 31, 3, 0, 0), (31, .ishl, 32, 0, 0, 0), (32, .goto 4, 35, 36, 0, 0), (35, .iconst 0, 36, 0, 0, 0), (36, .ior, 37, 0, 0, 0), (37, .istore_n 2, 38, 2, 0, 0), (38, .iinc 3 1, 41, 3, 0, 1), (41, .goto (-37), 44, 4, 0, 0), (44, .iload_n 2, 45, 2, 0, 0), (45, .ireturn, 46, 0, 0, 0)]
-- 138 yX3_handsOf
def xt_138 : List (Nat × xm_Q) := [(0, .iconst 0, 1, 0, 0, 0), (1, .istore_n 2, 2, 2, 0, 0), (2, .iconst 0, 3, 0, 0, 0), (3, .istore_n 3, 4, 3, 0, 0), (4, .iload_n 3, 5, 3, 0, 0), (5, .iconst 4, 6, 0, 0, 4), (6, .if_icmp .ge 34, 9, 40, 0, 0), (9, .iload_n 2, 10, 2, 0, 0), (10, .aload_n 0, 11, 0, 0, 0), (11, .getfield 7, 14, 3, 0, 1), (14, .bipush 12, 16, 0, 0, 12), (16, .iload_n 3, 17, 3, 0, 0), (17, .iadd, 18, 0, 0, 0), (18, .iaload, 19, 0, 0, 0), (19, .iload_n 1, 20, 1, 0, 0), (20, .iconst 1, 21, 0, 0, 1), (21, .iadd, 22, 0, 0, 0), (22, .if_icmp .ne 9, 25, 31, 0, 0), (25, .iconst 1, 26, 0, 0, 1), (26, .iload_n 3, 27, 3, 0, 0), (27, .ishl, 28, 0, 0, 0), (28, .goto 4, 31, 32, 0, 0), (31, .iconst 0, 32, 0, 0, 0), (32, .ior, 33, 0, 0, 0), (33, .istore_n 2, 34, 2, 0, 0), (34, .iinc 3 1, 37, 3, 0, 1), (37, .goto (-33), 40, 4, 0, 0), (40, .iload_n 2, 41, 2, 0, 0), (41, .ireturn, 42, 0, 0, 0)]
-- 139 yX3_thingOf
def xt_139 : List (Nat × xm_Q) := [(0, .iload_n 1, 1, 1, 0, 0), (1, .iconst 0, 2, 0, 0, 0), (2, .aload_n 0, 3, 0, 0, 0), (3, .getfield 7, 6, 3, 0, 1), (6, .iconst 0, 7, 0, 0, 0), (7, .iaload, 8, 0, 0, 0), (8, .iconst 1, 9, 0, 0, 1), (9, .isub, 10, 0, 0, 0), (10, .invokestatic 25, 13, 85, 3, 3), (13, .ifCond .ne 6, 16, 19, 0, 0), (16, .ldc 78, 18, 0, 0, (-1000001)), (18, .ireturn, 19, 0, 0, 0), (19, .aload_n 0, 20, 0, 0, 0), (20, .iload_n 1, 21, 1, 0, 0), (21, .invokevirtual 46, 24, 87, 2, 3), (24, .istore_n 3, 25, 3, 0, 0), (25, .iload_n 2, 26, 2, 0, 0), (26, .tableswitch 181 0 9 #[54, 64, 97, 112, 123, 123, 123, 158, 164, 170], 80, 0, 0, 0), (80, .iload_n 3, 81, 3, 0, 0), (81, .ifCond .eq 7, 84, 88, 0, 0), (84, .iconst 1, 85, 0, 0, 1), (85, .goto 4, 88, 89, 0, 0), (88, .iconst 0, 89, 0, 0, 0), (89, .ireturn, 90, 0, 0, 0), (90, .iload_n 3, 91, 3, 0, 0), (91, .ifCond .eq 29, 94, 120, 0, 0), (94, .bipush 10, 96, 0, 0, 10), (96, .aload_n 0, 97, 0, 0, 0), (97, .iload_n 1, 98, 1, 0, 0), (98, .invokevirtual 42, 101, 95, 2, 3), (101, .imul, 102, 0, 0, 0), (102, .aload_n 0, 103, 0, 0, 0), (103, .getfield 7, 106, 3, 0, 1), (106, .iload_n 1, 107, 1, 0, 0), (107, .iconst 0, 108, 0, 0, 0), (108, .invokestatic 29, 111, 86, 2, 3), (111, .iaload, 112, 0, 0, 0), (112, .iconst 1, 113, 0, 0, 1), (113, .isub, 114, 0, 0, 0), (114, .iconst 5, 115, 0, 0, 5), (115, .irem, 116, 0, 0, 0), (116, .iadd, 117, 0, 0, 0), (117, .goto 5, 120, 122, 0, 0), (120, .ldc 53, 122, 0, 0, (-1000004)), (122, .ireturn, 123, 0, 0, 0), (123, .iload_n 3, 124, 3, 0, 0), (124, .ifCond .eq 11, 127, 135, 0, 0), (127, .aload_n 0, 128, 0, 0, 0), (128, .iload_n 1, 129, 1, 0, 0), (129, .invokevirtual 50, 132, 96, 2, 3), (132, .goto 5, 135, 137, 0, 0), (135, .ldc 53, 137, 0, 0, (-1000004)), (137, .ireturn, 138, 0, 0, 0), (138, .aload_n 0, 139, 0, 0, 0), (139, .getfield 7, 142, 3, 0, 1), (142, .iload_n 1, 143, 1, 0, 0), (143, .iconst 1, 144, 0, 0, 1), (144, .invokestatic 29, 147, 86, 2, 3), (147, .iaload, 148, 0, 0, 0), (148, .ireturn, 149, 0, 0, 0), (149, .aload_n 0, 150, 0, 0, 0), (150, .getfield 7, 153, 3, 0, 1), (153, .iload_n 1, 154, 1, 0, 0), (154, .iload_n 2, 155, 2, 0, 0), (155, .iconst 2, 156, 0, 0, 2), (156, .isub, 157, 0, 0, 0), (157, .invokestatic 29, 160, 86, 2, 3), (160, .iaload, 161, 0, 0, 0), (161, .ifCond .ne 8, 164, 169, 0, 0), (164, .ldc 53, 166, 0, 0, (-1000004)), (166, .goto 17, 169, 183, 0, 0), (169, .aload_n 0, 170, 0, 0, 0), (170, .getfield 7, 173, 3, 0, 1), (173, .iload_n 1, 174, 1, 0, 0), (174, .iload_n 2, 175, 2, 0, 0), (175, .iconst 2, 176, 0, 0, 2), (176, .isub, 177, 0, 0, 0), (177, .invokestatic 29, 180, 86, 2, 3), (180, .iaload, 181, 0, 0, 0), (181, .iconst 1, 182, 0, 0, 1), (182, .isub, 183, 0, 0, 0), (183, .ireturn, 184, 0, 0, 0), (184, .aload_n 0, 185, 0, 0, 0), (185, .iload_n 1, 186, 1, 0, 0), (186, .invokevirtual 168, 189, 138, 2, 3), (189, .ireturn, 190, 0, 0, 0), (190, .aload_n 0, 191, 0, 0, 0), (191, .iload_n 1, 192, 1, 0, 0), (192, .invokevirtual 171, 195, 137, 2, 3), (195, .ireturn, 196, 0, 0, 0), (196, .aload_n 0, 197, 0, 0, 0), (197, .getfield 7, 200, 3, 0, 1), (200, .iload_n 1, 201, 1, 0, 0), (201, .iconst 5, 202, 0, 0, 5), (202, .invokestatic 29, 205, 86, 2, 3), (205, .iaload, 206, 0, 0, 0), (206, .ireturn, 207, 0, 0, 0), (207, .ldc 78, 209, 0, 0, (-1000001)), (209, .ireturn, 210, 0, 0, 0)]
-- 140 yX3_livingIn
def xt_140 : List (Nat × xm_Q) := [(0, .iconst 0, 1, 0, 0, 0), (1, .istore_n 2, 2, 2, 0, 0), (2, .iconst 0, 3, 0, 0, 0), (3, .istore_n 3, 4, 3, 0, 0), (4, .iload_n 3, 5, 3, 0, 0), (5, .aload_n 0, 6, 0, 0, 0), (6, .getfield 7, 9, 3, 0, 1), (9, .iconst 0, 10, 0, 0, 0), (10, .iaload, 11, 0, 0, 0), (11, .if_icmp .ge 36, 14, 47, 0, 0), (14, .iload_n 2, 15, 2, 0, 0), (15, .aload_n 0, 16, 0, 0, 0), (16, .iload_n 3, 17, 3, 0, 0), (17, .invokevirtual 46, 20, 87, 2, 3), (20, .ifCond .eq 18, 23, 38, 0, 0), (23, .aload_n 0, 24, 0, 0, 0), (24, .iload_n 3, 25, 3, 0, 0), (25, .invokevirtual 42, 28, 95, 2, 3), (28, .iload_n 1, 29, 1, 0, 0), (29, .if_icmp .ne 9, 32, 38, 0, 0), (32, .iconst 1, 33, 0, 0, 1), (33, .iload_n 3, 34, 3, 0, 0), (34, .ishl, 35, 0, 0, 0), (35, .goto 4, 38, 39, 0, 0), (38, .iconst 0, 39, 0, 0, 0), (39, .ior, 40, 0, 0, 0), (40, .istore_n 2, 41, 2, 0, 0), (41, .iinc 3 1, 44, 3, 0, 1), (44, .goto (-40), 47, 4, 0, 0), (47, .iload_n 2, 48, 2, 0, 0), (48, .ireturn, 49, 0, 0, 0)]
-- 141 yX3_houseOf
def xt_141 : List (Nat × xm_Q) := [(0, .iload_n 1, 1, 1, 0, 0), (1, .iconst 0, 2, 0, 0, 0), (2, .bipush 7, 4, 0, 0, 7), (4, .invokestatic 25, 7, 85, 3, 3), (7, .ifCond .eq 13, 10, 20, 0, 0), (10, .iload_n 2, 11, 2, 0, 0), (11, .iconst 0, 12, 0, 0, 0), (12, .bipush 7, 14, 0, 0, 7), (14, .invokestatic 25, 17, 85, 3, 3), (17, .ifCond .ne 6, 20, 23, 0, 0), (20, .ldc 78, 22, 0, 0, (-1000001)), (22, .ireturn, 23, 0, 0, 0), (23, .iload_n 2, 24, 2, 0, 0), (24, .ifCond .ne 30, 27, 54, 0, 0), (27, .aload_n 0, 28, 0, 0, 0), (28, .getfield 7, 31, 3, 0, 1), (31, .iconst 4, 32, 0, 0, 4), (32, .iload_n 1, 33, 1, 0, 0), (33, .iadd, 34, 0, 0, 0), (34, .iaload, 35, 0, 0, 0), (35, .ifCond .ne 8, 38, 43, 0, 0), (38, .ldc 53, 40, 0, 0, (-1000004)), (40, .goto 13, 43, 53, 0, 0), (43, .aload_n 0, 44, 0, 0, 0), (44, .getfield 7, 47, 3, 0, 1), (47, .iconst 4, 48, 0, 0, 4), (48, .iload_n 1, 49, 1, 0, 0), (49, .iadd, 50, 0, 0, 0), (50, .iaload, 51, 0, 0, 0), (51, .iconst 1, 52, 0, 0, 1), (52, .isub, 53, 0, 0, 0), (53, .ireturn, 54, 0, 0, 0), (54, .iload_n 2, 55, 2, 0, 0), (55, .iconst 1, 56, 0, 0, 1), (56, .if_icmp .ne 14, 59, 70, 0, 0), (59, .aload_n 0, 60, 0, 0, 0), (60, .iload_n 1, 61, 1, 0, 0), (61, .invokevirtual 174, 64, 140, 2, 3), (64, .invokestatic 110, 67, 91, 1, 3), (67, .goto 27, 70, 94, 0, 0), (70, .iload_n 2, 71, 2, 0, 0), (71, .iconst 2, 72, 0, 0, 2), (72, .if_icmp .ne 11, 75, 83, 0, 0), (75, .aload_n 0, 76, 0, 0, 0), (76, .iload_n 1, 77, 1, 0, 0), (77, .invokevirtual 174, 80, 140, 2, 3), (80, .goto 14, 83, 94, 0, 0), (83, .aload_n 0, 84, 0, 0, 0), (84, .iconst 5, 85, 0, 0, 5), (85, .iload_n 1, 86, 1, 0, 0), (86, .imul, 87, 0, 0, 0), (87, .iload_n 2, 88, 2, 0, 0), (88, .iadd, 89, 0, 0, 0), (89, .iconst 3, 90, 0, 0, 3), (90, .isub, 91, 0, 0, 0), (91, .invokevirtual 54, 94, 98, 2, 3), (94, .ireturn, 95, 0, 0, 0)]
-- 142 yX3_handOf
def xt_142 : List (Nat × xm_Q) := [(0, .iload_n 1, 1, 1, 0, 0), (1, .invokestatic 75, 4, 88, 1, 3), (4, .ifCond .ne 8, 7, 12, 0, 0), (7, .ldc 78, 9, 0, 0, (-1000001)), (9, .goto 31, 12, 40, 0, 0), (12, .aload_n 0, 13, 0, 0, 0), (13, .getfield 7, 16, 3, 0, 1), (16, .bipush 12, 18, 0, 0, 12), (18, .iload_n 1, 19, 1, 0, 0), (19, .iadd, 20, 0, 0, 0), (20, .iaload, 21, 0, 0, 0), (21, .ifCond .ne 8, 24, 29, 0, 0), (24, .ldc 53, 26, 0, 0, (-1000004)), (26, .goto 14, 29, 40, 0, 0), (29, .aload_n 0, 30, 0, 0, 0), (30, .getfield 7, 33, 3, 0, 1), (33, .bipush 12, 35, 0, 0, 12), (35, .iload_n 1, 36, 1, 0, 0), (36, .iadd, 37, 0, 0, 0), (37, .iaload, 38, 0, 0, 0), (38, .iconst 1, 39, 0, 0, 1), (39, .isub, 40, 0, 0, 0), (40, .ireturn, 41, 0, 0, 0)]
-- 143 yX3_isNoted
def xt_143 : List (Nat × xm_Q) := [(0, .aload_n 0, 1, 0, 0, 0), (1, .getfield 7, 4, 3, 0, 1), (4, .iload_n 1, 5, 1, 0, 0), (5, .iconst 2, 6, 0, 0, 2), (6, .iload_n 2, 7, 2, 0, 0), (7, .iadd, 8, 0, 0, 0), (8, .invokestatic 29, 11, 86, 2, 3), (11, .iaload, 12, 0, 0, 0), (12, .iconst 1, 13, 0, 0, 1), (13, .isub, 14, 0, 0, 0), (14, .istore_n 3, 15, 3, 0, 0), (15, .aload_n 0, 16, 0, 0, 0), (16, .iload_n 1, 17, 1, 0, 0), (17, .invokevirtual 46, 20, 87, 2, 3), (20, .ifCond .eq 24, 23, 44, 0, 0), (23, .iload_n 3, 24, 3, 0, 0), (24, .ifCond .lt 20, 27, 44, 0, 0), (27, .aload_n 0, 28, 0, 0, 0), (28, .iload_n 3, 29, 3, 0, 0), (29, .invokevirtual 50, 32, 96, 2, 3), (32, .aload_n 0, 33, 0, 0, 0), (33, .iload_n 1, 34, 1, 0, 0), (34, .invokevirtual 50, 37, 96, 2, 3), (37, .if_icmp .ge 7, 40, 44, 0, 0), (40, .iconst 1, 41, 0, 0, 1), (41, .goto 4, 44, 45, 0, 0), (44, .iconst 0, 45, 0, 0, 0), (45, .ireturn, 46, 0, 0, 0)]
-- 144 yX3_notes
def xt_144 : List (Nat × xm_Q) := [(0, .iconst 0, 1, 0, 0, 0), (1, .istore_n 2, 2, 2, 0, 0), (2, .iconst 0, 3, 0, 0, 0), (3, .istore_n 3, 4, 3, 0, 0), (4, .iload_n 3, 5, 3, 0, 0), (5, .iconst 3, 6, 0, 0, 3), (6, .aload_n 0, 7, 0, 0, 0), (7, .getfield 7, 10, 3, 0, 1), (10, .iconst 0, 11, 0, 0, 0), (11, .iaload, 12, 0, 0, 0), (12, .imul, 13, 0, 0, 0), (13, .if_icmp .ge 41, 16, 54, 0, 0), (16, .aload_n 0, 17, 0, 0, 0), (17, .iload_n 3, 18, 3, 0, 0), (18, .iconst 3, 19, 0, 0, 3), (19, .idiv, 20, 0, 0, 0), (20, .iload_n 3, 21, 3, 0, 0), (21, .iconst 3, 22, 0, 0, 3), (22, .irem, 23, 0, 0, 0), (23, .invokevirtual 177, 26, 143, 3, 3), (26, .ifCond .eq 22, 29, 48, 0, 0), (29, .iload_n 2, 30, 2, 0, 0), (30, .iload_n 1, 31, 1, 0, 0), (31, .if_icmp .ne 14, 34, 45, 0, 0), (34, .bipush 10, 36, 0, 0, 10), (36, .iload_n 3, 37, 3, 0, 0), (37, .iconst 3, 38, 0, 0, 3), (38, .idiv, 39, 0, 0, 0), (39, .imul, 40, 0, 0, 0), (40, .iload_n 3, 41, 3, 0, 0), (41, .iconst 3, 42, 0, 0, 3), (42, .irem, 43, 0, 0, 0), (43, .iadd, 44, 0, 0, 0), (44, .ireturn, 45, 0, 0, 0), (45, .iinc 2 1, 48, 2, 0, 1), (48, .iinc 3 1, 51, 3, 0, 1), (51, .goto (-47), 54, 4, 0, 0), (54, .iload_n 1, 55, 1, 0, 0), (55, .ifCond .ge 7, 58, 62, 0, 0), (58, .iload_n 2, 59, 2, 0, 0), (59, .goto 5, 62, 64, 0, 0), (62, .ldc 53, 64, 0, 0, (-1000004)), (64, .ireturn, 65, 0, 0, 0)]
-- 145 yX3_noteAt
def xt_145 : List (Nat × xm_Q) := [(0, .iload_n 1, 1, 1, 0, 0), (1, .ifCond .ge 8, 4, 9, 0, 0), (4, .ldc 78, 6, 0, 0, (-1000001)), (6, .goto 8, 9, 14, 0, 0), (9, .aload_n 0, 10, 0, 0, 0), (10, .iload_n 1, 11, 1, 0, 0), (11, .invokevirtual 180, 14, 144, 2, 3), (14, .ireturn, 15, 0, 0, 0)]
-- 146 yX3_needed
def xt_146 : List (Nat × xm_Q) := [(0, .iload_n 1, 1, 1, 0, 0), (1, .ifCond .ne 10, 4, 11, 0, 0), (4, .aload_n 0, 5, 0, 0, 0), (5, .invokevirtual 162, 8, 127, 1, 3), (8, .goto 24, 11, 32, 0, 0), (11, .iload_n 1, 12, 1, 0, 0), (12, .iconst 1, 13, 0, 0, 1), (13, .if_icmp .ne 17, 16, 30, 0, 0), (16, .aload_n 0, 17, 0, 0, 0), (17, .invokevirtual 135, 20, 126, 1, 3), (20, .aload_n 0, 21, 0, 0, 0), (21, .invokevirtual 162, 24, 127, 1, 3), (24, .iconst (-1), 25, 0, 0, (-1)), (25, .ixor, 26, 0, 0, 0), (26, .iand, 27, 0, 0, 0), (27, .goto 5, 30, 32, 0, 0), (30, .ldc 78, 32, 0, 0, (-1000001)), (32, .ireturn, 33, 0, 0, 0)]
-- 147 yX3_survivors
def xt_147 : List (Nat × xm_Q) := [(0, .iload_n 1, 1, 1, 0, 0), (1, .invokestatic 153, 4, 132, 1, 3), (4, .ifCond .eq 12, 7, 16, 0, 0), (7, .iload_n 2, 8, 2, 0, 0), (8, .iconst 0, 9, 0, 0, 0), (9, .iconst 3, 10, 0, 0, 3), (10, .invokestatic 25, 13, 85, 3, 3), (13, .ifCond .ne 6, 16, 19, 0, 0), (16, .ldc 78, 18, 0, 0, (-1000001)), (18, .ireturn, 19, 0, 0, 0), (19, .aload_n 0, 20, 0, 0, 0), (20, .iload_n 1, 21, 1, 0, 0), (21, .invokevirtual 144, 24, 128, 2, 3), (24, .istore_n 3, 25, 3, 0, 0), (25, .iload_n 2, 26, 2, 0, 0), (26, .ifCond .ne 7, 29, 33, 0, 0), (29, .iload_n 3, 30, 3, 0, 0), (30, .goto 52, 33, 82, 0, 0), (33, .iload_n 2, 34, 2, 0, 0), (34, .iconst 1, 35, 0, 0, 1), (35, .if_icmp .ne 15, 38, 50, 0, 0), (38, .aload_n 0, 39, 0, 0, 0), (39, .iload_n 1, 40, 1, 0, 0), (40, .invokevirtual 129, 43, 97, 2, 3), (43, .iload_n 3, 44, 3, 0, 0), (44, .iconst (-1), 45, 0, 0, (-1)), (45, .ixor, 46, 0, 0, 0), (46, .iand, 47, 0, 0, 0), (47, .goto 35, 50, 82, 0, 0), (50, .iload_n 2, 51, 2, 0, 0), (51, .iconst 2, 52, 0, 0, 2), (52, .if_icmp .ne 17, 55, 69, 0, 0), (55, .iload_n 3, 56, 3, 0, 0), (56, .aload_n 0, 57, 0, 0, 0), (57, .invokevirtual 107, 60, 117, 1, 3), (60, .iconst (-1), 61, 0, 0, (-1)), (61, .ixor, 62, 0, 0, 0), (62, .iand, 63, 0, 0, 0), (63, .invokestatic 110, 66, 91, 1, 3), (66, .goto 16, 69, 82, 0, 0), (69, .aload_n 0, 70, 0, 0, 0), (70, .iload_n 1, 71, 1, 0, 0), (71, .invokevirtual 156, 74, 131, 2, 3), (74, .ifCond .eq 7, 77, 81, 0, 0), (77, .iconst 1, 78, 0, 0, 1), (78, .goto 4, 81, 82, 0, 0), (81, .iconst 0, 82, 0, 0, 0), (82, .ireturn, 83, 0, 0, 0)]
-- 148 yX3_keptBy
def xt_148 : List (Nat × xm_Q) := [(0, .aload_n 0, 1, 0, 0, 0), (1, .iload_n 1, 2, 1, 0, 0), (2, .invokevirtual 46, 5, 87, 2, 3), (5, .ifCond .ne 6, 8, 11, 0, 0), (8, .ldc 78, 10, 0, 0, (-1000001)), (10, .ireturn, 11, 0, 0, 0), (11, .aload_n 0, 12, 0, 0, 0), (12, .invokevirtual 135, 15, 126, 1, 3), (15, .iconst 1, 16, 0, 0, 1), (16, .iload_n 1, 17, 1, 0, 0), (17, .ishl, 18, 0, 0, 0), (18, .iconst (-1), 19, 0, 0, (-1)), (19, .ixor, 20, 0, 0, 0), (20, .iand, 21, 0, 0, 0), (21, .istore_n 2, 22, 2, 0, 0), (22, .aload_n 0, 23, 0, 0, 0), (23, .invokevirtual 162, 26, 127, 1, 3), (26, .iload_n 2, 27, 2, 0, 0), (27, .iand, 28, 0, 0, 0), (28, .aload_n 0, 29, 0, 0, 0), (29, .aload_n 0, 30, 0, 0, 0), (30, .invokevirtual 132, 33, 125, 1, 3), (33, .iload_n 2, 34, 2, 0, 0), (34, .invokevirtual 138, 37, 124, 3, 3), (37, .iconst (-1), 38, 0, 0, (-1)), (38, .ixor, 39, 0, 0, 0), (39, .iand, 40, 0, 0, 0), (40, .ireturn, 41, 0, 0, 0)]
-- 149 yX3_far
def xt_149 : List (Nat × xm_Q) := [(0, .aload_n 0, 1, 0, 0, 0), (1, .iload_n 1, 2, 1, 0, 0), (2, .invokevirtual 46, 5, 87, 2, 3), (5, .ifCond .ne 6, 8, 11, 0, 0), (8, .ldc 78, 10, 0, 0, (-1000001)), (10, .ireturn, 11, 0, 0, 0), (11, .aload_n 0, 12, 0, 0, 0), (12, .invokevirtual 132, 15, 125, 1, 3), (15, .istore_n 2, 16, 2, 0, 0), (16, .iconst 0, 17, 0, 0, 0), (17, .istore_n 3, 18, 3, 0, 0), (18, .iload_n 2, 19, 2, 0, 0), (19, .iload_n 1, 20, 1, 0, 0), (20, .invokestatic 119, 23, 90, 2, 3), (23, .ifCond .ne 29, 26, 52, 0, 0), (26, .aload_n 0, 27, 0, 0, 0), (27, .iload_n 2, 28, 2, 0, 0), (28, .invokevirtual 123, 31, 123, 2, 3), (31, .iload_n 2, 32, 2, 0, 0), (32, .iconst (-1), 33, 0, 0, (-1)), (33, .ixor, 34, 0, 0, 0), (34, .iand, 35, 0, 0, 0), (35, .ifCond .eq 17, 38, 52, 0, 0), (38, .iload_n 2, 39, 2, 0, 0), (39, .aload_n 0, 40, 0, 0, 0), (40, .iload_n 2, 41, 2, 0, 0), (41, .invokevirtual 123, 44, 123, 2, 3), (44, .ior, 45, 0, 0, 0), (45, .istore_n 2, 46, 2, 0, 0), (46, .iinc 3 1, 49, 3, 0, 1), (49, .goto (-31), 52, 18, 0, 0), (52, .iload_n 2, 53, 2, 0, 0), (53, .iload_n 1, 54, 1, 0, 0), (54, .invokestatic 119, 57, 90, 2, 3), (57, .ifCond .eq 7, 60, 64, 0, 0), (60, .iload_n 3, 61, 3, 0, 0), (61, .goto 5, 64, 66, 0, 0), (64, .ldc 53, 66, 0, 0, (-1000004)), (66, .ireturn, 67, 0, 0, 0)]
-- 150 yX3_freeOnes
def xt_150 : List (Nat × xm_Q) := [(0, .iconst 0, 1, 0, 0, 0), (1, .istore_n 1, 2, 1, 0, 0), (2, .iconst 0, 3, 0, 0, 0), (3, .istore_n 2, 4, 2, 0, 0), (4, .iload_n 2, 5, 2, 0, 0), (5, .bipush 8, 7, 0, 0, 8), (7, .if_icmp .ge 28, 10, 35, 0, 0), (10, .iload_n 1, 11, 1, 0, 0), (11, .aload_n 0, 12, 0, 0, 0), (12, .getfield 7, 15, 3, 0, 1), (15, .iconst 4, 16, 0, 0, 4), (16, .iload_n 2, 17, 2, 0, 0), (17, .iadd, 18, 0, 0, 0), (18, .iaload, 19, 0, 0, 0), (19, .ifCond .ne 7, 22, 26, 0, 0), (22, .iconst 1, 23, 0, 0, 1), (23, .goto 4, 26, 27, 0, 0), (26, .iconst 0, 27, 0, 0, 0), (27, .iadd, 28, 0, 0, 0), (28, .istore_n 1, 29, 1, 0, 0), (29, .iinc 2 1, 32, 2, 0, 1), (32, .goto (-28), 35, 4, 0, 0), (35, .iload_n 1, 36, 1, 0, 0), (36, .ireturn, 37, 0, 0, 0)]
-- 151 yX3_count
def xt_151 : List (Nat × xm_Q) := [(0, .iload_n 1, 1, 1, 0, 0), (1, .tableswitch 180 0 13 #[71, 78, 86, 94, 103, 103, 125, 130, 136, 136, 148, 163, 170, 175], 72, 0, 0, 0), (72, .aload_n 0, 73, 0, 0, 0), (73, .getfield 7, 76, 3, 0, 1), (76, .iconst 0, 77, 0, 0, 0), (77, .iaload, 78, 0, 0, 0), (78, .ireturn, 79, 0, 0, 0), (79, .aload_n 0, 80, 0, 0, 0), (80, .invokevirtual 135, 83, 126, 1, 3), (83, .invokestatic 110, 86, 91, 1, 3), (86, .ireturn, 87, 0, 0, 0), (87, .aload_n 0, 88, 0, 0, 0), (88, .invokevirtual 107, 91, 117, 1, 3), (91, .invokestatic 110, 94, 91, 1, 3), (94, .ireturn, 95, 0, 0, 0), (95, .aload_n 0, 96, 0, 0, 0), (96, .iconst 0, 97, 0, 0, 0), (97, .invokevirtual 129, 100, 97, 2, 3), (100, .invokestatic 110, 103, 91, 1, 3), (103, .ireturn, 104, 0, 0, 0), (104, .aload_n 0, 105, 0, 0, 0), (105, .iload_n 1, 106, 1, 0, 0), (106, .iconst 3, 107, 0, 0, 3), (107, .isub, 108, 0, 0, 0), (108, .invokevirtual 129, 111, 97, 2, 3), (111, .invokestatic 110, 114, 91, 1, 3), (114, .aload_n 0, 115, 0, 0, 0), (115, .iload_n 1, 116, 1, 0, 0), (116, .iconst 4, 117, 0, 0, 4), (117, .isub, 118, 0, 0, 0), (118, .invokevirtual 129, 121, 97, 2, 3), (121, .invokestatic 110, 124, 91, 1, 3), (124, .isub, 125, 0, 0, 0), (125, .ireturn, 126, 0, 0, 0), (126, .aload_n 0, 127, 0, 0, 0), (127, .invokevirtual 183, 130, 150, 1, 3), (130, .ireturn, 131, 0, 0, 0), (131, .aload_n 0, 132, 0, 0, 0), (132, .iconst (-1), 133, 0, 0, (-1)), (133, .invokevirtual 180, 136, 144, 2, 3), (136, .ireturn, 137, 0, 0, 0), (137, .aload_n 0, 138, 0, 0, 0), (138, .getfield 7, 141, 3, 0, 1), (141, .iconst 1, 142, 0, 0, 1), (142, .iload_n 1, 143, 1, 0, 0), (143, .iadd, 144, 0, 0, 0), (144, .bipush 8, 146, 0, 0, 8), (146, .isub, 147, 0, 0, 0), (147, .iaload, 148, 0, 0, 0), (148, .ireturn, 149, 0, 0, 0), (149, .aload_n 0, 150, 0, 0, 0), (150, .getfield 7, 153, 3, 0, 1), (153, .iconst 0, 154, 0, 0, 0), (154, .iaload, 155, 0, 0, 0), (155, .aload_n 0, 156, 0, 0, 0), (156, .invokevirtual 135, 159, 126, 1, 3), (159, .invokestatic 110, 162, 91, 1, 3), (162, .isub, 163, 0, 0, 0), (163, .ireturn, 164, 0, 0, 0), (164, .aload_n 0, 165, 0, 0, 0), (165, .getfield 7, 168, 3, 0, 1), (168, .iconst 3, 169, 0, 0, 3), (169, .iaload, 170, 0, 0, 0), (170, .ireturn, 171, 0, 0, 0), (171, .aload_n 0, 172, 0, 0, 0), (172, .getfield 33, 175, 3, 1, 0), (175, .ireturn, 176, 0, 0, 0), (176, .aload_n 0, 177, 0, 0, 0), (177, .getfield 186, 180, 3, 3, 0), (180, .ireturn, 181, 0, 0, 0), (181, .ldc 78, 183, 0, 0, (-1000001)), (183, .ireturn, 184, 0, 0, 0)]
-- 152 yX3_type
def xt_152 : List (Nat × xm_Q) := [(0, .iload_n 1, 1, 1, 0, 0), (1, .bipush 32, 3, 0, 0, 32), (3, .bipush 126, 5, 0, 0, 126), (5, .invokestatic 25, 8, 85, 3, 3), (8, .ifCond .ne 6, 11, 14, 0, 0), (11, .ldc 78, 13, 0, 0, (-1000001)), (13, .ireturn, 14, 0, 0, 0), (14, .aload_n 0, 15, 0, 0, 0), (15, .getfield 186, 18, 3, 3, 0), (18, .bipush 60, 20, 0, 0, 60), (20, .if_icmp .ne 6, 23, 26, 0, 0), (23, .ldc 63, 25, 0, 0, (-1000003)), (25, .ireturn, 26, 0, 0, 0), (26, .aload_n 0, 27, 0, 0, 0), (27, .getfield 13, 30, 3, 2, 1), (30, .aload_n 0, 31, 0, 0, 0), (31, .getfield 186, 34, 3, 3, 0), (34, .iload_n 1, 35, 1, 0, 0), (35, .iastore, 36, 0, 0, 0), (36, .aload_n 0, 37, 0, 0, 0), (37, .dup, 38, 0, 0, 0), (38, .getfield 186, 41, 3, 3, 0), (41, .iconst 1, 42, 0, 0, 1), (42, .iadd, 43, 0, 0, 0), (43, .putfield 186, 46, 3, 3, 0), (46, .aload_n 0, 47, 0, 0, 0), (47, .getfield 186, 50, 3, 3, 0), (50, .ireturn, 51, 0, 0, 0)]
-- 153 yX3_clearText
def xt_153 : List (Nat × xm_Q) := [(0, .aload_n 0, 1, 0, 0, 0), (1, .getfield 186, 4, 3, 3, 0), (4, .istore_n 1, 5, 1, 0, 0), (5, .aload_n 0, 6, 0, 0, 0), (6, .iconst 0, 7, 0, 0, 0), (7, .putfield 186, 10, 3, 3, 0), (10, .iload_n 1, 11, 1, 0, 0), (11, .ireturn, 12, 0, 0, 0)]
-- 154 yX3_code
def xt_154 : List (Nat × xm_Q) := [(0, .aload_n 0, 1, 0, 0, 0), (1, .getfield 189, 4, 3, 5, 0), (4, .aload_n 0, 5, 0, 0, 0), (5, .getfield 186, 8, 3, 3, 0), (8, .if_icmp .ge 15, 11, 23, 0, 0), (11, .aload_n 0, 12, 0, 0, 0), (12, .getfield 13, 15, 3, 2, 1), (15, .aload_n 0, 16, 0, 0, 0), (16, .getfield 189, 19, 3, 5, 0), (19, .iaload, 20, 0, 0, 0), (20, .goto 4, 23, 24, 0, 0), (23, .iconst 0, 24, 0, 0, 0), (24, .ireturn, 25, 0, 0, 0)]
-- 155 yX3_sign
def xt_155 : List (Nat × xm_Q) := [(0, .aload_n 0, 1, 0, 0, 0), (1, .invokevirtual 192, 4, 154, 1, 3), (4, .iload_n 1, 5, 1, 0, 0), (5, .if_icmp .ne 7, 8, 12, 0, 0), (8, .iconst 1, 9, 0, 0, 1), (9, .goto 4, 12, 13, 0, 0), (12, .iconst 0, 13, 0, 0, 0), (13, .istore_n 2, 14, 2, 0, 0), (14, .aload_n 0, 15, 0, 0, 0), (15, .dup, 16, 0, 0, 0), (16, .getfield 189, 19, 3, 5, 0), (19, .iload_n 2, 20, 2, 0, 0), (20, .ifCond .eq 7, 23, 27, 0, 0), (23, .iconst 1, 24, 0, 0, 1), (24, .goto 4, 27, 28, 0, 0), (27, .iconst 0, 28, 0, 0, 0), (28, .iadd, 29, 0, 0, 0), (29, .putfield 189, 32, 3, 5, 0), (32, .iload_n 2, 33, 2, 0, 0), (33, .ireturn, 34, 0, 0, 0)]
-- 156 yX3_number
def xt_156 : List (Nat × xm_Q) := [(0, .iconst 0, 1, 0, 0, 0), (1, .istore_n 2, 2, 2, 0, 0), (2, .aload_n 0, 3, 0, 0, 0), (3, .getfield 19, 6, 3, 7, 1), (6, .iload_n 1, 7, 1, 0, 0), (7, .iconst 0, 8, 0, 0, 0), (8, .iastore, 9, 0, 0, 0), (9, .aload_n 0, 10, 0, 0, 0), (10, .invokevirtual 192, 13, 154, 1, 3), (13, .bipush 48, 15, 0, 0, 48), (15, .bipush 57, 17, 0, 0, 57), (17, .invokestatic 25, 20, 85, 3, 3), (20, .ifCond .eq 47, 23, 67, 0, 0), (23, .iload_n 2, 24, 2, 0, 0), (24, .iconst 2, 25, 0, 0, 2), (25, .if_icmp .ge 42, 28, 67, 0, 0), (28, .aload_n 0, 29, 0, 0, 0), (29, .getfield 19, 32, 3, 7, 1), (32, .iload_n 1, 33, 1, 0, 0), (33, .bipush 10, 35, 0, 0, 10), (35, .aload_n 0, 36, 0, 0, 0), (36, .getfield 19, 39, 3, 7, 1), (39, .iload_n 1, 40, 1, 0, 0), (40, .iaload, 41, 0, 0, 0), (41, .imul, 42, 0, 0, 0), (42, .aload_n 0, 43, 0, 0, 0), (43, .invokevirtual 192, 46, 154, 1, 3), (46, .iadd, 47, 0, 0, 0), (47, .bipush 48, 49, 0, 0, 48), (49, .isub, 50, 0, 0, 0), (50, .iastore, 51, 0, 0, 0), (51, .aload_n 0, 52, 0, 0, 0), (52, .dup, 53, 0, 0, 0), (53, .getfield 189, 56, 3, 5, 0), (56, .iconst 1, 57, 0, 0, 1), (57, .iadd, 58, 0, 0, 0), (58, .putfield 189, 61, 3, 5, 0), (61, .iinc 2 1, 64, 2, 0, 1), (64, .goto (-55), 67, 9, 0, 0), (67, .iload_n 2, 68, 2, 0, 0), (68, .ifCond .le 7, 71, 75, 0, 0), (71, .iconst 1, 72, 0, 0, 1), (72, .goto 4, 75, 76, 0, 0), (75, .iconst 0, 76, 0, 0, 0), (76, .ireturn, 77, 0, 0, 0)]
-- 157 yX3_numbersOf
def xt_157 : List (Nat × xm_Q) := [(0, .iload_n 0, 1, 0, 0, 0), (1, .bipush 110, 3, 0, 0, 110), (3, .if_icmp .eq 9, 6, 12, 0, 0), (6, .iload_n 0, 7, 0, 0, 0), (7, .bipush 102, 9, 0, 0, 102), (9, .if_icmp .ne 7, 12, 16, 0, 0), (12, .iconst 0, 13, 0, 0, 0), (13, .goto 52, 16, 65, 0, 0), (16, .iload_n 0, 17, 0, 0, 0), (17, .bipush 108, 19, 0, 0, 108), (19, .if_icmp .eq 15, 22, 34, 0, 0), (22, .iload_n 0, 23, 0, 0, 0), (23, .bipush 112, 25, 0, 0, 112), (25, .if_icmp .eq 9, 28, 34, 0, 0), (28, .iload_n 0, 29, 0, 0, 0), (29, .bipush 119, 31, 0, 0, 119), (31, .if_icmp .ne 7, 34, 38, 0, 0), (34, .iconst 1, 35, 0, 0, 1), (35, .goto 30, 38, 65, 0, 0), (38, .iload_n 0, 39, 0, 0, 0), (39, .bipush 104, 41, 0, 0, 104), (41, .if_icmp .eq 9, 44, 50, 0, 0), (44, .iload_n 0, 45, 0, 0, 0), (45, .bipush 117, 47, 0, 0, 117), (47, .if_icmp .ne 7, 50, 54, 0, 0), (50, .iconst 2, 51, 0, 0, 2), (51, .goto 14, 54, 65, 0, 0), (54, .iload_n 0, 55, 0, 0, 0), (55, .bipush 115, 57, 0, 0, 115), (57, .if_icmp .ne 7, 60, 64, 0, 0), (60, .iconst 3, 61, 0, 0, 3), (61, .goto 4, 64, 65, 0, 0), (64, .iconst (-1), 65, 0, 0, (-1)), (65, .ireturn, 66, 0, 0, 0)]
-- 158 yX3_readsOrder
def xt_158 : List (Nat × xm_Q) := [(0, .aload_n 0, 1, 0, 0, 0), (1, .aload_n 0, 2, 0, 0, 0), (2, .invokevirtual 192, 5, 154, 1, 3), (5, .putfield 195, 8, 3, 6, 0), (8, .aload_n 0, 9, 0, 0, 0), (9, .getfield 195, 12, 3, 6, 0), (12, .invokestatic 198, 15, 157, 1, 3), (15, .istore_n 1, 16, 1, 0, 0), (16, .aload_n 0, 17, 0, 0, 0), (17, .dup, 18, 0, 0, 0), (18, .getfield 189, 21, 3, 5, 0), (21, .iload_n 1, 22, 1, 0, 0), (22, .ifCond .ge 7, 25, 29, 0, 0), (25, .iconst 0, 26, 0, 0, 0), (26, .goto 4, 29, 30, 0, 0), (29, .iconst 1, 30, 0, 0, 1), (30, .iadd, 31, 0, 0, 0), (31, .putfield 189, 34, 3, 5, 0), (34, .iload_n 1, 35, 1, 0, 0), (35, .ifCond .lt 7, 38, 42, 0, 0), (38, .iconst 1, 39, 0, 0, 1), (39, .goto 4, 42, 43, 0, 0), (42, .iconst 0, 43, 0, 0, 0), (43, .istore_n 2, 44, 2, 0, 0), (44, .iconst 0, 45, 0, 0, 0), (45, .istore_n 3, 46, 3, 0, 0), (46, .iload_n 3, 47, 3, 0, 0), (47, .iload_n 1, 48, 1, 0, 0), (48, .if_icmp .ge 40, 51, 88, 0, 0), (51, .iload_n 2, 52, 2, 0, 0), (52, .ifCond .eq 36, 55, 88, 0, 0), (55, .iload_n 3, 56, 3, 0, 0), (56, .ifCond .eq 12, 59, 68, 0, 0), (59, .aload_n 0, 60, 0, 0, 0), (60, .bipush 44, 62, 0, 0, 44), (62, .invokevirtual 201, 65, 155, 2, 3), (65, .ifCond .eq 15, 68, 80, 0, 0), (68, .aload_n 0, 69, 0, 0, 0), (69, .iload_n 3, 70, 3, 0, 0), (70, .invokevirtual 204, 73, 156, 2, 3), (73, .ifCond .eq 7, 76, 80, 0, 0), (76, .iconst 1, 77, 0, 0, 1), (77, .goto 4, 80, 81, 0, 0), (80, .iconst 0, 81, 0, 0, 0), (81, .istore_n 2, 82, 2, 0, 0), (82, .iinc 3 1, 85, 3, 0, 1), (85, .goto (-39), 88, 46, 0, 0), (88, .iload_n 2, 89, 2, 0, 0), (89, .ifCond .eq 16, 92, 105, 0, 0), (92, .aload_n 0, 93, 0, 0, 0), (93, .bipush 59, 95, 0, 0, 59), (95, .invokevirtual 201, 98, 155, 2, 3), (98, .ifCond .eq 7, 101, 105, 0, 0), (101, .iconst 1, 102, 0, 0, 1), (102, .goto 4, 105, 106, 0, 0), (105, .iconst 0, 106, 0, 0, 0), (106, .ireturn, 107, 0, 0, 0)]
-- 159 yX3_noOrder
def xt_159 : List (Nat × xm_Q) := [(0, .aload_n 0, 1, 0, 0, 0), (1, .getfield 19, 4, 3, 7, 1), (4, .iconst 0, 5, 0, 0, 0), (5, .iaload, 6, 0, 0, 0), (6, .istore_n 1, 7, 1, 0, 0), (7, .aload_n 0, 8, 0, 0, 0), (8, .getfield 19, 11, 3, 7, 1), (11, .iconst 1, 12, 0, 0, 1), (12, .iaload, 13, 0, 0, 0), (13, .istore_n 2, 14, 2, 0, 0), (14, .aload_n 0, 15, 0, 0, 0), (15, .getfield 195, 18, 3, 6, 0), (18, .tableswitch 129 104 119 #[83, 129, 129, 129, 90, 129, 78, 129, 116, 129, 129, 96, 129, 109, 129, 123], 96, 0, 0, 0), (96, .aload_n 0, 97, 0, 0, 0), (97, .invokevirtual 64, 100, 102, 1, 3), (100, .ireturn, 101, 0, 0, 0), (101, .aload_n 0, 102, 0, 0, 0), (102, .iload_n 1, 103, 1, 0, 0), (103, .iload_n 2, 104, 2, 0, 0), (104, .invokevirtual 79, 107, 105, 3, 3), (107, .ireturn, 108, 0, 0, 0), (108, .aload_n 0, 109, 0, 0, 0), (109, .iload_n 1, 110, 1, 0, 0), (110, .invokevirtual 85, 113, 108, 2, 3), (113, .ireturn, 114, 0, 0, 0), (114, .aload_n 0, 115, 0, 0, 0), (115, .iload_n 1, 116, 1, 0, 0), (116, .iload_n 2, 117, 2, 0, 0), (117, .aload_n 0, 118, 0, 0, 0), (118, .getfield 19, 121, 3, 7, 1), (121, .iconst 2, 122, 0, 0, 2), (122, .iaload, 123, 0, 0, 0), (123, .invokevirtual 94, 126, 111, 4, 3), (126, .ireturn, 127, 0, 0, 0), (127, .aload_n 0, 128, 0, 0, 0), (128, .iload_n 1, 129, 1, 0, 0), (129, .iload_n 2, 130, 2, 0, 0), (130, .invokevirtual 101, 133, 114, 3, 3), (133, .ireturn, 134, 0, 0, 0), (134, .aload_n 0, 135, 0, 0, 0), (135, .iload_n 1, 136, 1, 0, 0), (136, .iconst 1, 137, 0, 0, 1), (137, .invokevirtual 113, 140, 118, 3, 3), (140, .ireturn, 141, 0, 0, 0), (141, .aload_n 0, 142, 0, 0, 0), (142, .iload_n 1, 143, 1, 0, 0), (143, .invokevirtual 159, 146, 133, 2, 3), (146, .ireturn, 147, 0, 0, 0), (147, .iconst 0, 148, 0, 0, 0), (148, .ireturn, 149, 0, 0, 0)]
-- 160 yX3_doOrder
def xt_160 : List (Nat × xm_Q) := [(0, .aload_n 0, 1, 0, 0, 0), (1, .getfield 19, 4, 3, 7, 1), (4, .iconst 0, 5, 0, 0, 0), (5, .iaload, 6, 0, 0, 0), (6, .istore_n 1, 7, 1, 0, 0), (7, .aload_n 0, 8, 0, 0, 0), (8, .getfield 19, 11, 3, 7, 1), (11, .iconst 1, 12, 0, 0, 1), (12, .iaload, 13, 0, 0, 0), (13, .istore_n 2, 14, 2, 0, 0), (14, .aload_n 0, 15, 0, 0, 0), (15, .getfield 195, 18, 3, 6, 0), (18, .tableswitch 150 104 119 #[86, 150, 150, 150, 96, 150, 78, 150, 131, 150, 150, 105, 150, 121, 150, 141], 96, 0, 0, 0), (96, .aload_n 0, 97, 0, 0, 0), (97, .invokevirtual 72, 100, 103, 1, 3), (100, .pop, 101, 0, 0, 0), (101, .goto 72, 104, 173, 0, 0), (104, .aload_n 0, 105, 0, 0, 0), (105, .iload_n 1, 106, 1, 0, 0), (106, .iload_n 2, 107, 2, 0, 0), (107, .invokevirtual 82, 110, 106, 3, 3), (110, .pop, 111, 0, 0, 0), (111, .goto 62, 114, 173, 0, 0), (114, .aload_n 0, 115, 0, 0, 0), (115, .iload_n 1, 116, 1, 0, 0), (116, .invokevirtual 88, 119, 109, 2, 3), (119, .pop, 120, 0, 0, 0), (120, .goto 53, 123, 173, 0, 0), (123, .aload_n 0, 124, 0, 0, 0), (124, .iload_n 1, 125, 1, 0, 0), (125, .iload_n 2, 126, 2, 0, 0), (126, .aload_n 0, 127, 0, 0, 0), (127, .getfield 19, 130, 3, 7, 1), (130, .iconst 2, 131, 0, 0, 2), (131, .iaload, 132, 0, 0, 0), (132, .invokevirtual 98, 135, 112, 4, 3), (135, .pop, 136, 0, 0, 0), (136, .goto 37, 139, 173, 0, 0), (139, .aload_n 0, 140, 0, 0, 0), (140, .iload_n 1, 141, 1, 0, 0), (141, .iload_n 2, 142, 2, 0, 0), (142, .invokevirtual 104, 145, 115, 3, 3), (145, .pop, 146, 0, 0, 0), (146, .goto 27, 149, 173, 0, 0), (149, .aload_n 0, 150, 0, 0, 0), (150, .iload_n 1, 151, 1, 0, 0), (151, .iconst 1, 152, 0, 0, 1), (152, .invokevirtual 116, 155, 119, 3, 3), (155, .pop, 156, 0, 0, 0), (156, .goto 17, 159, 173, 0, 0), (159, .aload_n 0, 160, 0, 0, 0), (160, .iload_n 1, 161, 1, 0, 0), (161, .invokevirtual 150, 164, 130, 2, 3), (164, .pop, 165, 0, 0, 0), (165, .goto 8, 168, 173, 0, 0), (168, .aload_n 0, 169, 0, 0, 0), (169, .invokevirtual 165, 172, 135, 1, 3), (172, .pop, 173, 0, 0, 0), (173, .return_, 174, 0, 0, 0)]
-- 161 yX3_go
def xt_161 : List (Nat × xm_Q) := [(0, .aload_n 0, 1, 0, 0, 0), (1, .iconst 0, 2, 0, 0, 0), (2, .putfield 189, 5, 3, 5, 0), (5, .aload_n 0, 6, 0, 0, 0), (6, .iconst 0, 7, 0, 0, 0), (7, .putfield 207, 10, 3, 9, 0), (10, .aload_n 0, 11, 0, 0, 0), (11, .iconst 0, 12, 0, 0, 0), (12, .putfield 210, 15, 3, 10, 0), (15, .aload_n 0, 16, 0, 0, 0), (16, .getfield 189, 19, 3, 5, 0), (19, .aload_n 0, 20, 0, 0, 0), (20, .getfield 186, 23, 3, 3, 0), (23, .if_icmp .ge 87, 26, 110, 0, 0), (26, .aload_n 0, 27, 0, 0, 0), (27, .getfield 207, 30, 3, 9, 0), (30, .ifCond .ne 80, 33, 110, 0, 0), (33, .aload_n 0, 34, 0, 0, 0), (34, .aload_n 0, 35, 0, 0, 0), (35, .getfield 189, 38, 3, 5, 0), (38, .putfield 213, 41, 3, 8, 0), (41, .aload_n 0, 42, 0, 0, 0), (42, .invokevirtual 216, 45, 158, 1, 3), (45, .istore_n 1, 46, 1, 0, 0), (46, .iload_n 1, 47, 1, 0, 0), (47, .ifCond .eq 10, 50, 57, 0, 0), (50, .aload_n 0, 51, 0, 0, 0), (51, .invokevirtual 220, 54, 159, 1, 3), (54, .goto 4, 57, 58, 0, 0), (57, .iconst 0, 58, 0, 0, 0), (58, .istore_n 2, 59, 2, 0, 0), (59, .iload_n 1, 60, 1, 0, 0), (60, .ifCond .ne 11, 63, 71, 0, 0), (63, .aload_n 0, 64, 0, 0, 0), (64, .iconst 1, 65, 0, 0, 1), (65, .putfield 207, 68, 3, 9, 0), (68, .goto 39, 71, 107, 0, 0), (71, .iload_n 2, 72, 2, 0, 0), (72, .ifCond .eq 21, 75, 93, 0, 0), (75, .aload_n 0, 76, 0, 0, 0), (76, .iload_n 2, 77, 2, 0, 0), (77, .ldc 78, 79, 0, 0, (-1000001)), (79, .if_icmp .ne 7, 82, 86, 0, 0), (82, .iconst 2, 83, 0, 0, 2), (83, .goto 4, 86, 87, 0, 0), (86, .iconst 3, 87, 0, 0, 3), (87, .putfield 207, 90, 3, 9, 0), (90, .goto 17, 93, 107, 0, 0), (93, .aload_n 0, 94, 0, 0, 0), (94, .invokevirtual 223, 97, 160, 1, 3), (97, .aload_n 0, 98, 0, 0, 0), (98, .dup, 99, 0, 0, 0), (99, .getfield 210, 102, 3, 10, 0), (102, .iconst 1, 103, 0, 0, 1), (103, .iadd, 104, 0, 0, 0), (104, .putfield 210, 107, 3, 10, 0), (107, .goto (-92), 110, 15, 0, 0), (110, .return_, 111, 0, 0, 0)]
-- 162 yX3_goBack
def xt_162 : List (Nat × xm_Q) := [(0, .iconst 0, 1, 0, 0, 0), (1, .istore_n 1, 2, 1, 0, 0), (2, .iload_n 1, 3, 1, 0, 0), (3, .sipush 196, 6, 0, 0, 196), (6, .if_icmp .ge 21, 9, 27, 0, 0), (9, .aload_n 0, 10, 0, 0, 0), (10, .getfield 7, 13, 3, 0, 1), (13, .iload_n 1, 14, 1, 0, 0), (14, .aload_n 0, 15, 0, 0, 0), (15, .getfield 22, 18, 3, 11, 1), (18, .iload_n 1, 19, 1, 0, 0), (19, .iaload, 20, 0, 0, 0), (20, .iastore, 21, 0, 0, 0), (21, .iinc 1 1, 24, 1, 0, 1), (24, .goto (-22), 27, 2, 0, 0), (27, .return_, 28, 0, 0, 0)]
-- 163 yX3_keepAll
def xt_163 : List (Nat × xm_Q) := [(0, .iconst 0, 1, 0, 0, 0), (1, .istore_n 1, 2, 1, 0, 0), (2, .iload_n 1, 3, 1, 0, 0), (3, .sipush 196, 6, 0, 0, 196), (6, .if_icmp .ge 21, 9, 27, 0, 0), (9, .aload_n 0, 10, 0, 0, 0), (10, .getfield 22, 13, 3, 11, 1), (13, .iload_n 1, 14, 1, 0, 0), (14, .aload_n 0, 15, 0, 0, 0), (15, .getfield 7, 18, 3, 0, 1), (18, .iload_n 1, 19, 1, 0, 0), (19, .iaload, 20, 0, 0, 0), (20, .iastore, 21, 0, 0, 0), (21, .iinc 1 1, 24, 1, 0, 1), (24, .goto (-22), 27, 2, 0, 0), (27, .return_, 28, 0, 0, 0)]
-- 164 yX3_fault
def xt_164 : List (Nat × xm_Q) := [(0, .iload_n 1, 1, 1, 0, 0), (1, .iconst 0, 2, 0, 0, 0), (2, .iconst 1, 3, 0, 0, 1), (3, .invokestatic 25, 6, 85, 3, 3), (6, .ifCond .ne 6, 9, 12, 0, 0), (9, .ldc 78, 11, 0, 0, (-1000001)), (11, .ireturn, 12, 0, 0, 0), (12, .aload_n 0, 13, 0, 0, 0), (13, .invokevirtual 226, 16, 163, 1, 3), (16, .aload_n 0, 17, 0, 0, 0), (17, .invokevirtual 229, 20, 161, 1, 3), (20, .aload_n 0, 21, 0, 0, 0), (21, .invokevirtual 232, 24, 162, 1, 3), (24, .aload_n 0, 25, 0, 0, 0), (25, .getfield 207, 28, 3, 9, 0), (28, .ifCond .ne 8, 31, 36, 0, 0), (31, .ldc 53, 33, 0, 0, (-1000004)), (33, .goto 18, 36, 51, 0, 0), (36, .iload_n 1, 37, 1, 0, 0), (37, .ifCond .ne 10, 40, 47, 0, 0), (40, .aload_n 0, 41, 0, 0, 0), (41, .getfield 213, 44, 3, 8, 0), (44, .goto 7, 47, 51, 0, 0), (47, .aload_n 0, 48, 0, 0, 0), (48, .getfield 207, 51, 3, 9, 0), (51, .ireturn, 52, 0, 0, 0)]
-- 165 yX3_play
def xt_165 : List (Nat × xm_Q) := [(0, .aload_n 0, 1, 0, 0, 0), (1, .invokevirtual 226, 4, 163, 1, 3), (4, .aload_n 0, 5, 0, 0, 0), (5, .invokevirtual 229, 8, 161, 1, 3), (8, .aload_n 0, 9, 0, 0, 0), (9, .invokevirtual 232, 12, 162, 1, 3), (12, .aload_n 0, 13, 0, 0, 0), (13, .getfield 207, 16, 3, 9, 0), (16, .ifCond .eq 6, 19, 22, 0, 0), (19, .ldc 41, 21, 0, 0, (-1000002)), (21, .ireturn, 22, 0, 0, 0), (22, .aload_n 0, 23, 0, 0, 0), (23, .iconst 0, 24, 0, 0, 0), (24, .invokevirtual 68, 27, 93, 2, 3), (27, .aload_n 0, 28, 0, 0, 0), (28, .invokevirtual 229, 31, 161, 1, 3), (31, .aload_n 0, 32, 0, 0, 0), (32, .getfield 210, 35, 3, 10, 0), (35, .ireturn, 36, 0, 0, 0)]
-- 166 yJ6_bitCount_0f7a4
def xt_166 : List (Nat × xm_Q) := [(0, .iload_n 0, 1, 0, 0, 0), (1, .iload_n 0, 2, 0, 0, 0), (2, .iconst 1, 3, 0, 0, 1), (3, .iushr, 4, 0, 0, 0), (4, .ldc_w 265, 7, 0, 0, 1431655765), (7, .iand, 8, 0, 0, 0), (8, .isub, 9, 0, 0, 0), (9, .istore_n 0, 10, 0, 0, 0), (10, .iload_n 0, 11, 0, 0, 0), (11, .ldc_w 266, 14, 0, 0, 858993459), (14, .iand, 15, 0, 0, 0), (15, .iload_n 0, 16, 0, 0, 0), (16, .iconst 2, 17, 0, 0, 2), (17, .iushr, 18, 0, 0, 0), (18, .ldc_w 266, 21, 0, 0, 858993459), (21, .iand, 22, 0, 0, 0), (22, .iadd, 23, 0, 0, 0), (23, .istore_n 0, 24, 0, 0, 0), (24, .iload_n 0, 25, 0, 0, 0), (25, .iload_n 0, 26, 0, 0, 0), (26, .iconst 4, 27, 0, 0, 4), (27, .iushr, 28, 0, 0, 0), (28, .iadd, 29, 0, 0, 0), (29, .ldc_w 267, 32, 0, 0, 252645135), (32, .iand, 33, 0, 0, 0), (33, .istore_n 0, 34, 0, 0, 0), (34, .iload_n 0, 35, 0, 0, 0), (35, .iload_n 0, 36, 0, 0, 0), (36, .bipush 8, 38, 0, 0, 8), (38, .iushr, 39, 0, 0, 0), (39, .iadd, 40, 0, 0, 0), (40, .istore_n 0, 41, 0, 0, 0), (41, .iload_n 0, 42, 0, 0, 0), (42, .iload_n 0, 43, 0, 0, 0), (43, .bipush 16, 45, 0, 0, 16), (45, .iushr, 46, 0, 0, 0), (46, .iadd, 47, 0, 0, 0), (47, .istore_n 0, 48, 0, 0, 0), (48, .iload_n 0, 49, 0, 0, 0), (49, .bipush 63, 51, 0, 0, 63), (51, .iand, 52, 0, 0, 0), (52, .ireturn, 53, 0, 0, 0)]
-- 167 LAW
def xt_167 : List (Nat × xm_Q) := [(0, .new 7, 3, 2, 4, 0), (3, .dup, 4, 0, 0, 0), (4, .invokespecial 9, 7, 55, 1, 2), (7, .astore_n 1, 8, 1, 0, 0), (8, .new 10, 11, 3, 12, 0), (11, .dup, 12, 0, 0, 0), (12, .invokespecial 12, 15, 84, 1, 3), (15, .astore_n 2, 16, 2, 0, 0), (16, .iconst 0, 17, 0, 0, 0), (17, .istore_n 3, 18, 3, 0, 0), (18, .iload_n 3, 19, 3, 0, 0), (19, .aload_n 0, 20, 0, 0, 0), (20, .arraylength, 21, 0, 0, 0), (21, .iconst 4, 22, 0, 0, 4), (22, .isub, 23, 0, 0, 0), (23, .if_icmp .gt 672, 26, 695, 0, 0), (26, .aload_n 0, 27, 0, 0, 0), (27, .iload_n 3, 28, 3, 0, 0), (28, .iaload, 29, 0, 0, 0), (29, .bipush 31, 31, 0, 0, 31), (31, .iand, 32, 0, 0, 0), (32, .tableswitch 657 0 22 #[108, 121, 154, 177, 220, 253, 276, 299, 322, 335, 368, 401, 424, 447, 470, 503, 526, 549, 572, 585, 608, 621, 644], 140, 0, 0, 0), (140, .aload_n 1, 141, 1, 0, 0), (141, .invokevirtual 13, 144, 56, 1, 2), (144, .aload_n 2, 145, 2, 0, 0), (145, .invokevirtual 17, 148, 104, 1, 3), (148, .if_icmp .eq 541, 151, 689, 0, 0), (151, .iconst 0, 152, 0, 0, 0), (152, .ireturn, 153, 0, 0, 0), (153, .aload_n 1, 154, 1, 0, 0), (154, .aload_n 0, 155, 0, 0, 0), (155, .iload_n 3, 156, 3, 0, 0), (156, .iconst 1, 157, 0, 0, 1), (157, .iadd, 158, 0, 0, 0), (158, .iaload, 159, 0, 0, 0), (159, .aload_n 0, 160, 0, 0, 0), (160, .iload_n 3, 161, 3, 0, 0), (161, .iconst 2, 162, 0, 0, 2), (162, .iadd, 163, 0, 0, 0), (163, .iaload, 164, 0, 0, 0), (164, .invokevirtual 18, 167, 57, 3, 2), (167, .aload_n 2, 168, 2, 0, 0), (168, .aload_n 0, 169, 0, 0, 0), (169, .iload_n 3, 170, 3, 0, 0), (170, .iconst 1, 171, 0, 0, 1), (171, .iadd, 172, 0, 0, 0), (172, .iaload, 173, 0, 0, 0), (173, .aload_n 0, 174, 0, 0, 0), (174, .iload_n 3, 175, 3, 0, 0), (175, .iconst 2, 176, 0, 0, 2), (176, .iadd, 177, 0, 0, 0), (177, .iaload, 178, 0, 0, 0), (178, .invokevirtual 22, 181, 107, 3, 3), (181, .if_icmp .eq 508, 184, 689, 0, 0), (184, .iconst 0, 185, 0, 0, 0), (185, .ireturn, 186, 0, 0, 0), (186, .aload_n 1, 187, 1, 0, 0), (187, .aload_n 0, 188, 0, 0, 0), (188, .iload_n 3, 189, 3, 0, 0), (189, .iconst 1, 190, 0, 0, 1), (190, .iadd, 191, 0, 0, 0), (191, .iaload, 192, 0, 0, 0), (192, .invokevirtual 23, 195, 58, 2, 2), (195, .aload_n 2, 196, 2, 0, 0), (196, .aload_n 0, 197, 0, 0, 0), (197, .iload_n 3, 198, 3, 0, 0), (198, .iconst 1, 199, 0, 0, 1), (199, .iadd, 200, 0, 0, 0), (200, .iaload, 201, 0, 0, 0), (201, .invokevirtual 27, 204, 110, 2, 3), (204, .if_icmp .eq 485, 207, 689, 0, 0), (207, .iconst 0, 208, 0, 0, 0), (208, .ireturn, 209, 0, 0, 0), (209, .aload_n 1, 210, 1, 0, 0), (210, .aload_n 0, 211, 0, 0, 0), (211, .iload_n 3, 212, 3, 0, 0), (212, .iconst 1, 213, 0, 0, 1), (213, .iadd, 214, 0, 0, 0), (214, .iaload, 215, 0, 0, 0), (215, .aload_n 0, 216, 0, 0, 0), (216, .iload_n 3, 217, 3, 0, 0), (217, .iconst 2, 218, 0, 0, 2), (218, .iadd, 219, 0, 0, 0), (219, .iaload, 220, 0, 0, 0), (220, .aload_n 0, 221, 0, 0, 0), (221, .iload_n 3, 222, 3, 0, 0), (222, .iconst 3, 223, 0, 0, 3), (223, .iadd, 224, 0, 0, 0), (224, .iaload, 225, 0, 0, 0), (225, .invokevirtual 28, 228, 59, 4, 2), (228, .aload_n 2, 229, 2, 0, 0), (229, .aload_n 0, 230, 0, 0, 0), (230, .iload_n 3, 231, 3, 0, 0), (231, .iconst 1, 232, 0, 0, 1), (232, .iadd, 233, 0, 0, 0), (233, .iaload, 234, 0, 0, 0), (234, .aload_n 0, 235, 0, 0, 0), (235, .iload_n 3, 236, 3, 0, 0), (236, .iconst 2, 237, 0, 0, 2), (237, .iadd, 238, 0, 0, 0), (238, .iaload, 239, 0, 0, 0), (239, .aload_n 0, 240, 0, 0, 0), (240, .iload_n 3, 241, 3, 0, 0), (241, .iconst 3, 242, 0, 0, 3), (242, .iadd, 243, 0, 0, 0), (243, .iaload, 244, 0, 0, 0), (244, .invokevirtual 32, 247, 113, 4, 3), (247, .if_icmp .eq 442, 250, 689, 0, 0), (250, .iconst 0, 251, 0, 0, 0), (251, .ireturn, 252, 0, 0, 0), (252, .aload_n 1, 253, 1, 0, 0), (253, .aload_n 0, 254, 0, 0, 0), (254, .iload_n 3, 255, 3, 0, 0), (255, .iconst 1, 256, 0, 0, 1), (256, .iadd, 257, 0, 0, 0), (257, .iaload, 258, 0, 0, 0), (258, .aload_n 0, 259, 0, 0, 0), (259, .iload_n 3, 260, 3, 0, 0), (260, .iconst 2, 261, 0, 0, 2), (261, .iadd, 262, 0, 0, 0), (262, .iaload, 263, 0, 0, 0), (263, .invokevirtual 33, 266, 60, 3, 2), (266, .aload_n 2, 267, 2, 0, 0), (267, .aload_n 0, 268, 0, 0, 0), (268, .iload_n 3, 269, 3, 0, 0), (269, .iconst 1, 270, 0, 0, 1), (270, .iadd, 271, 0, 0, 0), (271, .iaload, 272, 0, 0, 0), (272, .aload_n 0, 273, 0, 0, 0), (273, .iload_n 3, 274, 3, 0, 0), (274, .iconst 2, 275, 0, 0, 2), (275, .iadd, 276, 0, 0, 0), (276, .iaload, 277, 0, 0, 0), (277, .invokevirtual 36, 280, 116, 3, 3), (280, .if_icmp .eq 409, 283, 689, 0, 0), (283, .iconst 0, 284, 0, 0, 0), (284, .ireturn, 285, 0, 0, 0), (285, .aload_n 1, 286, 1, 0, 0), (286, .aload_n 0, 287, 0, 0, 0), (287, .iload_n 3, 288, 3, 0, 0), (288, .iconst 1, 289, 0, 0, 1), (289, .iadd, 290, 0, 0, 0), (290, .iaload, 291, 0, 0, 0), (291, .invokevirtual 37, 294, 61, 2, 2), (294, .aload_n 2, 295, 2, 0, 0), (295, .aload_n 0, 296, 0, 0, 0), (296, .iload_n 3, 297, 3, 0, 0), (297, .iconst 1, 298, 0, 0, 1), (298, .iadd, 299, 0, 0, 0), (299, .iaload, 300, 0, 0, 0), (300, .invokevirtual 40, 303, 120, 2, 3), (303, .if_icmp .eq 386, 306, 689, 0, 0), (306, .iconst 0, 307, 0, 0, 0), (307, .ireturn, 308, 0, 0, 0), (308, .aload_n 1, 309, 1, 0, 0), (309, .aload_n 0, 310, 0, 0, 0), (310, .iload_n 3, 311, 3, 0, 0), (311, .iconst 1, 312, 0, 0, 1), (312, .iadd, 313, 0, 0, 0), (313, .iaload, 314, 0, 0, 0), (314, .invokevirtual 41, 317, 62, 2, 2), (317, .aload_n 2, 318, 2, 0, 0), (318, .aload_n 0, 319, 0, 0, 0), (319, .iload_n 3, 320, 3, 0, 0), (320, .iconst 1, 321, 0, 0, 1), (321, .iadd, 322, 0, 0, 0), (322, .iaload, 323, 0, 0, 0), (323, .invokevirtual 44, 326, 121, 2, 3), (326, .if_icmp .eq 363, 329, 689, 0, 0), (329, .iconst 0, 330, 0, 0, 0), (330, .ireturn, 331, 0, 0, 0), (331, .aload_n 1, 332, 1, 0, 0), (332, .aload_n 0, 333, 0, 0, 0), (333, .iload_n 3, 334, 3, 0, 0), (334, .iconst 1, 335, 0, 0, 1), (335, .iadd, 336, 0, 0, 0), (336, .iaload, 337, 0, 0, 0), (337, .invokevirtual 45, 340, 63, 2, 2), (340, .aload_n 2, 341, 2, 0, 0), (341, .aload_n 0, 342, 0, 0, 0), (342, .iload_n 3, 343, 3, 0, 0), (343, .iconst 1, 344, 0, 0, 1), (344, .iadd, 345, 0, 0, 0), (345, .iaload, 346, 0, 0, 0), (346, .invokevirtual 48, 349, 134, 2, 3), (349, .if_icmp .eq 340, 352, 689, 0, 0), (352, .iconst 0, 353, 0, 0, 0), (353, .ireturn, 354, 0, 0, 0), (354, .aload_n 1, 355, 1, 0, 0), (355, .invokevirtual 49, 358, 64, 1, 2), (358, .aload_n 2, 359, 2, 0, 0), (359, .invokevirtual 52, 362, 136, 1, 3), (362, .if_icmp .eq 327, 365, 689, 0, 0), (365, .iconst 0, 366, 0, 0, 0), (366, .ireturn, 367, 0, 0, 0), (367, .aload_n 1, 368, 1, 0, 0), (368, .aload_n 0, 369, 0, 0, 0), (369, .iload_n 3, 370, 3, 0, 0), (370, .iconst 1, 371, 0, 0, 1), (371, .iadd, 372, 0, 0, 0), (372, .iaload, 373, 0, 0, 0), (373, .aload_n 0, 374, 0, 0, 0), (374, .iload_n 3, 375, 3, 0, 0), (375, .iconst 2, 376, 0, 0, 2), (376, .iadd, 377, 0, 0, 0), (377, .iaload, 378, 0, 0, 0), (378, .invokevirtual 53, 381, 65, 3, 2), (381, .aload_n 2, 382, 2, 0, 0), (382, .aload_n 0, 383, 0, 0, 0), (383, .iload_n 3, 384, 3, 0, 0), (384, .iconst 1, 385, 0, 0, 1), (385, .iadd, 386, 0, 0, 0), (386, .iaload, 387, 0, 0, 0), (387, .aload_n 0, 388, 0, 0, 0), (388, .iload_n 3, 389, 3, 0, 0), (389, .iconst 2, 390, 0, 0, 2), (390, .iadd, 391, 0, 0, 0), (391, .iaload, 392, 0, 0, 0), (392, .invokevirtual 56, 395, 139, 3, 3), (395, .if_icmp .eq 294, 398, 689, 0, 0), (398, .iconst 0, 399, 0, 0, 0), (399, .ireturn, 400, 0, 0, 0), (400, .aload_n 1, 401, 1, 0, 0), (401, .aload_n 0, 402, 0, 0, 0), (402, .iload_n 3, 403, 3, 0, 0), (403, .iconst 1, 404, 0, 0, 1), (404, .iadd, 405, 0, 0, 0), (405, .iaload, 406, 0, 0, 0), (406, .aload_n 0, 407, 0, 0, 0), (407, .iload_n 3, 408, 3, 0, 0), (408, .iconst 2, 409, 0, 0, 2), (409, .iadd, 410, 0, 0, 0), (410, .iaload, 411, 0, 0, 0), (411, .invokevirtual 57, 414, 66, 3, 2), (414, .aload_n 2, 415, 2, 0, 0), (415, .aload_n 0, 416, 0, 0, 0), (416, .iload_n 3, 417, 3, 0, 0), (417, .iconst 1, 418, 0, 0, 1), (418, .iadd, 419, 0, 0, 0), (419, .iaload, 420, 0, 0, 0), (420, .aload_n 0, 421, 0, 0, 0), (421, .iload_n 3, 422, 3, 0, 0), (422, .iconst 2, 423, 0, 0, 2), (423, .iadd, 424, 0, 0, 0), (424, .iaload, 425, 0, 0, 0), (425, .invokevirtual 60, 428, 141, 3, 3), (428, .if_icmp .eq 261, 431, 689, 0, 0), (431, .iconst 0, 432, 0, 0, 0), (432, .ireturn, 433, 0, 0, 0), (433, .aload_n 1, 434, 1, 0, 0), (434, .aload_n 0, 435, 0, 0, 0), (435, .iload_n 3, 436, 3, 0, 0), (436, .iconst 1, 437, 0, 0, 1), (437, .iadd, 438, 0, 0, 0), (438, .iaload, 439, 0, 0, 0), (439, .invokevirtual 61, 442, 67, 2, 2), (442, .aload_n 2, 443, 2, 0, 0), (443, .aload_n 0, 444, 0, 0, 0), (444, .iload_n 3, 445, 3, 0, 0), (445, .iconst 1, 446, 0, 0, 1), (446, .iadd, 447, 0, 0, 0), (447, .iaload, 448, 0, 0, 0), (448, .invokevirtual 64, 451, 142, 2, 3), (451, .if_icmp .eq 238, 454, 689, 0, 0), (454, .iconst 0, 455, 0, 0, 0), (455, .ireturn, 456, 0, 0, 0), (456, .aload_n 1, 457, 1, 0, 0), (457, .aload_n 0, 458, 0, 0, 0), (458, .iload_n 3, 459, 3, 0, 0), (459, .iconst 1, 460, 0, 0, 1), (460, .iadd, 461, 0, 0, 0), (461, .iaload, 462, 0, 0, 0), (462, .invokevirtual 65, 465, 68, 2, 2), (465, .aload_n 2, 466, 2, 0, 0), (466, .aload_n 0, 467, 0, 0, 0), (467, .iload_n 3, 468, 3, 0, 0), (468, .iconst 1, 469, 0, 0, 1), (469, .iadd, 470, 0, 0, 0), (470, .iaload, 471, 0, 0, 0), (471, .invokevirtual 68, 474, 145, 2, 3), (474, .if_icmp .eq 215, 477, 689, 0, 0), (477, .iconst 0, 478, 0, 0, 0), (478, .ireturn, 479, 0, 0, 0), (479, .aload_n 1, 480, 1, 0, 0), (480, .aload_n 0, 481, 0, 0, 0), (481, .iload_n 3, 482, 3, 0, 0), (482, .iconst 1, 483, 0, 0, 1), (483, .iadd, 484, 0, 0, 0), (484, .iaload, 485, 0, 0, 0), (485, .invokevirtual 69, 488, 69, 2, 2), (488, .aload_n 2, 489, 2, 0, 0), (489, .aload_n 0, 490, 0, 0, 0), (490, .iload_n 3, 491, 3, 0, 0), (491, .iconst 1, 492, 0, 0, 1), (492, .iadd, 493, 0, 0, 0), (493, .iaload, 494, 0, 0, 0), (494, .invokevirtual 72, 497, 146, 2, 3), (497, .if_icmp .eq 192, 500, 689, 0, 0), (500, .iconst 0, 501, 0, 0, 0), (501, .ireturn, 502, 0, 0, 0), (502, .aload_n 1, 503, 1, 0, 0), (503, .aload_n 0, 504, 0, 0, 0), (504, .iload_n 3, 505, 3, 0, 0), (505, .iconst 1, 506, 0, 0, 1), (506, .iadd, 507, 0, 0, 0), (507, .iaload, 508, 0, 0, 0), (508, .aload_n 0, 509, 0, 0, 0), (509, .iload_n 3, 510, 3, 0, 0), (510, .iconst 2, 511, 0, 0, 2), (511, .iadd, 512, 0, 0, 0), (512, .iaload, 513, 0, 0, 0), (513, .invokevirtual 73, 516, 70, 3, 2), (516, .aload_n 2, 517, 2, 0, 0), (517, .aload_n 0, 518, 0, 0, 0), (518, .iload_n 3, 519, 3, 0, 0), (519, .iconst 1, 520, 0, 0, 1), (520, .iadd, 521, 0, 0, 0), (521, .iaload, 522, 0, 0, 0), (522, .aload_n 0, 523, 0, 0, 0), (523, .iload_n 3, 524, 3, 0, 0), (524, .iconst 2, 525, 0, 0, 2), (525, .iadd, 526, 0, 0, 0), (526, .iaload, 527, 0, 0, 0), (527, .invokevirtual 76, 530, 147, 3, 3), (530, .if_icmp .eq 159, 533, 689, 0, 0), (533, .iconst 0, 534, 0, 0, 0), (534, .ireturn, 535, 0, 0, 0), (535, .aload_n 1, 536, 1, 0, 0), (536, .aload_n 0, 537, 0, 0, 0), (537, .iload_n 3, 538, 3, 0, 0), (538, .iconst 1, 539, 0, 0, 1), (539, .iadd, 540, 0, 0, 0), (540, .iaload, 541, 0, 0, 0), (541, .invokevirtual 77, 544, 71, 2, 2), (544, .aload_n 2, 545, 2, 0, 0), (545, .aload_n 0, 546, 0, 0, 0), (546, .iload_n 3, 547, 3, 0, 0), (547, .iconst 1, 548, 0, 0, 1), (548, .iadd, 549, 0, 0, 0), (549, .iaload, 550, 0, 0, 0), (550, .invokevirtual 80, 553, 148, 2, 3), (553, .if_icmp .eq 136, 556, 689, 0, 0), (556, .iconst 0, 557, 0, 0, 0), (557, .ireturn, 558, 0, 0, 0), (558, .aload_n 1, 559, 1, 0, 0), (559, .aload_n 0, 560, 0, 0, 0), (560, .iload_n 3, 561, 3, 0, 0), (561, .iconst 1, 562, 0, 0, 1), (562, .iadd, 563, 0, 0, 0), (563, .iaload, 564, 0, 0, 0), (564, .invokevirtual 81, 567, 72, 2, 2), (567, .aload_n 2, 568, 2, 0, 0), (568, .aload_n 0, 569, 0, 0, 0), (569, .iload_n 3, 570, 3, 0, 0), (570, .iconst 1, 571, 0, 0, 1), (571, .iadd, 572, 0, 0, 0), (572, .iaload, 573, 0, 0, 0), (573, .invokevirtual 84, 576, 149, 2, 3), (576, .if_icmp .eq 113, 579, 689, 0, 0), (579, .iconst 0, 580, 0, 0, 0), (580, .ireturn, 581, 0, 0, 0), (581, .aload_n 1, 582, 1, 0, 0), (582, .aload_n 0, 583, 0, 0, 0), (583, .iload_n 3, 584, 3, 0, 0), (584, .iconst 1, 585, 0, 0, 1), (585, .iadd, 586, 0, 0, 0), (586, .iaload, 587, 0, 0, 0), (587, .invokevirtual 85, 590, 73, 2, 2), (590, .aload_n 2, 591, 2, 0, 0), (591, .aload_n 0, 592, 0, 0, 0), (592, .iload_n 3, 593, 3, 0, 0), (593, .iconst 1, 594, 0, 0, 1), (594, .iadd, 595, 0, 0, 0), (595, .iaload, 596, 0, 0, 0), (596, .invokevirtual 88, 599, 151, 2, 3), (599, .if_icmp .eq 90, 602, 689, 0, 0), (602, .iconst 0, 603, 0, 0, 0), (603, .ireturn, 604, 0, 0, 0), (604, .aload_n 1, 605, 1, 0, 0), (605, .invokevirtual 89, 608, 74, 1, 2), (608, .aload_n 2, 609, 2, 0, 0), (609, .invokevirtual 92, 612, 94, 1, 3), (612, .if_icmp .eq 77, 615, 689, 0, 0), (615, .iconst 0, 616, 0, 0, 0), (616, .ireturn, 617, 0, 0, 0), (617, .aload_n 1, 618, 1, 0, 0), (618, .aload_n 0, 619, 0, 0, 0), (619, .iload_n 3, 620, 3, 0, 0), (620, .iconst 1, 621, 0, 0, 1), (621, .iadd, 622, 0, 0, 0), (622, .iaload, 623, 0, 0, 0), (623, .invokevirtual 93, 626, 75, 2, 2), (626, .aload_n 2, 627, 2, 0, 0), (627, .aload_n 0, 628, 0, 0, 0), (628, .iload_n 3, 629, 3, 0, 0), (629, .iconst 1, 630, 0, 0, 1), (630, .iadd, 631, 0, 0, 0), (631, .iaload, 632, 0, 0, 0), (632, .invokevirtual 96, 635, 152, 2, 3), (635, .if_icmp .eq 54, 638, 689, 0, 0), (638, .iconst 0, 639, 0, 0, 0), (639, .ireturn, 640, 0, 0, 0), (640, .aload_n 1, 641, 1, 0, 0), (641, .invokevirtual 97, 644, 76, 1, 2), (644, .aload_n 2, 645, 2, 0, 0), (645, .invokevirtual 100, 648, 153, 1, 3), (648, .if_icmp .eq 41, 651, 689, 0, 0), (651, .iconst 0, 652, 0, 0, 0), (652, .ireturn, 653, 0, 0, 0), (653, .aload_n 1, 654, 1, 0, 0), (654, .aload_n 0, 655, 0, 0, 0), (655, .iload_n 3, 656, 3, 0, 0), (656, .iconst 1, 657, 0, 0, 1), (657, .iadd, 658, 0, 0, 0), (658, .iaload, 659, 0, 0, 0), (659, .invokevirtual 101, 662, 77, 2, 2), (662, .aload_n 2, 663, 2, 0, 0), (663, .aload_n 0, 664, 0, 0, 0), (664, .iload_n 3, 665, 3, 0, 0), (665, .iconst 1, 666, 0, 0, 1), (666, .iadd, 667, 0, 0, 0), (667, .iaload, 668, 0, 0, 0), (668, .invokevirtual 104, 671, 164, 2, 3), (671, .if_icmp .eq 18, 674, 689, 0, 0), (674, .iconst 0, 675, 0, 0, 0), (675, .ireturn, 676, 0, 0, 0), (676, .aload_n 1, 677, 1, 0, 0), (677, .invokevirtual 105, 680, 78, 1, 2), (680, .aload_n 2, 681, 2, 0, 0), (681, .invokevirtual 108, 684, 165, 1, 3), (684, .if_icmp .eq 5, 687, 689, 0, 0), (687, .iconst 0, 688, 0, 0, 0), (688, .ireturn, 689, 0, 0, 0), (689, .iinc 3 4, 692, 3, 0, 4), (692, .goto (-674), 695, 18, 0, 0), (695, .iconst 1, 696, 0, 0, 1), (696, .ireturn, 697, 0, 0, 0)]
def xm_tabs : List (List (Nat × xm_Q)) := [xt_0, xt_1, xt_2, xt_3, xt_4, xt_5, xt_6, xt_7, xt_8, xt_9, xt_10, xt_11, xt_12, xt_13, xt_14, xt_15, xt_16, xt_17, xt_18, xt_19, xt_20, xt_21, xt_22, xt_23, xt_24, xt_25, xt_26, xt_27, xt_28, xt_29, xt_30, xt_31, xt_32, xt_33, xt_34, xt_35, xt_36, xt_37, xt_38, xt_39, xt_40, xt_41, xt_42, xt_43, xt_44, xt_45, xt_46, xt_47, xt_48, xt_49, xt_50, xt_51, xt_52, xt_53, xt_54, xt_55, xt_56, xt_57, xt_58, xt_59, xt_60, xt_61, xt_62, xt_63, xt_64, xt_65, xt_66, xt_67, xt_68, xt_69, xt_70, xt_71, xt_72, xt_73, xt_74, xt_75, xt_76, xt_77, xt_78, xt_79, xt_80, xt_81, xt_82, xt_83, xt_84, xt_85, xt_86, xt_87, xt_88, xt_89, xt_90, xt_91, xt_92, xt_93, xt_94, xt_95, xt_96, xt_97, xt_98, xt_99, xt_100, xt_101, xt_102, xt_103, xt_104, xt_105, xt_106, xt_107, xt_108, xt_109, xt_110, xt_111, xt_112, xt_113, xt_114, xt_115, xt_116, xt_117, xt_118, xt_119, xt_120, xt_121, xt_122, xt_123, xt_124, xt_125, xt_126, xt_127, xt_128, xt_129, xt_130, xt_131, xt_132, xt_133, xt_134, xt_135, xt_136, xt_137, xt_138, xt_139, xt_140, xt_141, xt_142, xt_143, xt_144, xt_145, xt_146, xt_147, xt_148, xt_149, xt_150, xt_151, xt_152, xt_153, xt_154, xt_155, xt_156, xt_157, xt_158, xt_159, xt_160, xt_161, xt_162, xt_163, xt_164, xt_165, xt_166, xt_167]
abbrev xm_M : Type := String × MethodName × ByteArray × Nat × Option FieldType × Nat × Nat
def xq_0 : xm_M := (RX0, ⟨RX0, "<init>", "()V"⟩, prog_2_method_1_code, 1, none, 1, 20)
def xq_1 : xm_M := (RX0, ⟨RX0, "append", "(I)I"⟩, prog_2_method_2_code, 2, (some .int), 0, 0)
def xq_2 : xm_M := (RX0, ⟨RX0, "runOn", "(LWarmHouses$Village;)I"⟩, prog_2_method_3_code, 4, (some .int), 5, 120)
def xq_3 : xm_M := (RX0, ⟨RX0, "readOrder", "(I)Z"⟩, prog_2_method_4_code, 5, (some .boolean), 2, 41)
def xq_4 : xm_M := (RX0, ⟨RX0, "numbersOf", "(I)I"⟩, prog_2_method_5_code, 1, (some .int), 0, 0)
def xq_5 : xm_M := (RX0, ⟨RX0, "readNumber", "()I"⟩, prog_2_method_6_code, 2, (some .int), 1, 20)
def xq_6 : xm_M := (RX0, ⟨RX0, "peek", "()I"⟩, prog_2_method_7_code, 1, (some .int), 0, 0)
def xq_7 : xm_M := (RX0, ⟨RX0, "skip", "(I)Z"⟩, prog_2_method_8_code, 2, (some .boolean), 1, 20)
def xq_8 : xm_M := (RX0, ⟨RX0, "isDigit", "(I)Z"⟩, prog_2_method_9_code, 1, (some .boolean), 0, 0)
def xq_9 : xm_M := (RX0, ⟨RX0, "carryOut", "(LWarmHouses$Village;I)I"⟩, prog_2_method_10_code, 3, (some .int), 4, 98)
def xq_10 : xm_M := (RX0, ⟨RX0, "reasonOf", "(I)I"⟩, prog_2_method_11_code, 1, (some .int), 0, 0)
def xq_11 : xm_M := (RX1, ⟨RX1, "<init>", "()V"⟩, prog_3_method_1_code, 1, none, 1, 21)
def xq_12 : xm_M := (RX1, ⟨RX1, "clearRow", "([I)V"⟩, prog_3_method_2_code, 2, none, 0, 0)
def xq_13 : xm_M := (RX1, ⟨RX1, "copyFrom", "(LWarmHouses$Village;)V"⟩, prog_3_method_3_code, 2, none, 1, 40)
def xq_14 : xm_M := (RX1, ⟨RX1, "welcome", "()I"⟩, prog_3_method_4_code, 3, (some .int), 2, 46)
def xq_15 : xm_M := (RX1, ⟨RX1, "grip", "(II)I"⟩, prog_3_method_5_code, 3, (some .int), 1, 22)
def xq_16 : xm_M := (RX1, ⟨RX1, "letGo", "(I)I"⟩, prog_3_method_6_code, 3, (some .int), 1, 20)
def xq_17 : xm_M := (RX1, ⟨RX1, "fasten", "(III)I"⟩, prog_3_method_7_code, 4, (some .int), 3, 66)
def xq_18 : xm_M := (RX1, ⟨RX1, "slacken", "(II)I"⟩, prog_3_method_8_code, 4, (some .int), 2, 43)
def xq_19 : xm_M := (RX1, ⟨RX1, "setPin", "(I)I"⟩, prog_3_method_9_code, 2, (some .int), 1, 21)
def xq_20 : xm_M := (RX1, ⟨RX1, "takePin", "(I)I"⟩, prog_3_method_10_code, 2, (some .int), 1, 21)
def xq_21 : xm_M := (RX1, ⟨RX1, "passWinter", "(I)I"⟩, prog_3_method_11_code, 6, (some .int), 3, 73)
def xq_22 : xm_M := (RX1, ⟨RX1, "turnFully", "()I"⟩, prog_3_method_12_code, 2, (some .int), 3, 70)
def xq_23 : xm_M := (RX1, ⟨RX1, "warmHousesWith", "(I)V"⟩, prog_3_method_13_code, 3, none, 1, 24)
def xq_24 : xm_M := (RX1, ⟨RX1, "moveToRoom", "(II)Z"⟩, prog_3_method_14_code, 4, (some .boolean), 2, 46)
def xq_25 : xm_M := (RX1, ⟨RX1, "moveIn", "(III)V"⟩, prog_3_method_15_code, 4, none, 0, 0)
def xq_26 : xm_M := (RX1, ⟨RX1, "moveOut", "(I)V"⟩, prog_3_method_16_code, 3, none, 0, 0)
def xq_27 : xm_M := (RX1, ⟨RX1, "remove", "(I)V"⟩, prog_3_method_17_code, 4, none, 2, 45)
def xq_28 : xm_M := (RX1, ⟨RX1, "freeEmptyHouses", "()V"⟩, prog_3_method_18_code, 2, none, 1, 24)
def xq_29 : xm_M := (RX1, ⟨RX1, "roomOf", "(I)I"⟩, prog_3_method_19_code, 4, (some .int), 1, 23)
def xq_30 : xm_M := (RX1, ⟨RX1, "emptySpotIn", "(I)I"⟩, prog_3_method_20_code, 4, (some .int), 0, 0)
def xq_31 : xm_M := (RX1, ⟨RX1, "isHand", "(I)Z"⟩, prog_3_method_21_code, 1, (some .boolean), 0, 0)
def xq_32 : xm_M := (RX1, ⟨RX1, "isString", "(I)Z"⟩, prog_3_method_22_code, 1, (some .boolean), 0, 0)
def xq_33 : xm_M := (RX1, ⟨RX1, "came", "(I)Z"⟩, prog_3_method_23_code, 2, (some .boolean), 0, 0)
def xq_34 : xm_M := (RX1, ⟨RX1, "lives", "(I)Z"⟩, prog_3_method_24_code, 2, (some .boolean), 0, 0)
def xq_35 : xm_M := (RX1, ⟨RX1, "addressOf", "(I)I"⟩, prog_3_method_25_code, 2, (some .int), 1, 21)
def xq_36 : xm_M := (RX1, ⟨RX1, "ageOf", "(I)I"⟩, prog_3_method_26_code, 2, (some .int), 1, 21)
def xq_37 : xm_M := (RX1, ⟨RX1, "movesOf", "(I)I"⟩, prog_3_method_27_code, 2, (some .int), 1, 21)
def xq_38 : xm_M := (RX1, ⟨RX1, "tiedAt", "(II)I"⟩, prog_3_method_28_code, 3, (some .int), 1, 21)
def xq_39 : xm_M := (RX1, ⟨RX1, "isNoted", "(II)Z"⟩, prog_3_method_29_code, 4, (some .boolean), 2, 43)
def xq_40 : xm_M := (RX1, ⟨RX1, "handsOn", "(I)I"⟩, prog_3_method_30_code, 4, (some .int), 0, 0)
def xq_41 : xm_M := (RX1, ⟨RX1, "tiedTo", "(I)I"⟩, prog_3_method_31_code, 5, (some .int), 0, 0)
def xq_42 : xm_M := (RX1, ⟨RX1, "thingsIn", "(I)I"⟩, prog_3_method_32_code, 5, (some .int), 0, 0)
def xq_43 : xm_M := (RX1, ⟨RX1, "fullHands", "()I"⟩, prog_3_method_33_code, 3, (some .int), 0, 0)
def xq_44 : xm_M := (RX1, ⟨RX1, "freeHouses", "()I"⟩, prog_3_method_34_code, 3, (some .int), 0, 0)
def xq_45 : xm_M := (RX1, ⟨RX1, "notedStrings", "()I"⟩, prog_3_method_35_code, 4, (some .int), 3, 66)
def xq_46 : xm_M := (RX1, ⟨RX1, "ageSet", "(I)I"⟩, prog_3_method_36_code, 2, (some .int), 1, 26)
def xq_47 : xm_M := (RX1, ⟨RX1, "livingSet", "()I"⟩, prog_3_method_37_code, 1, (some .int), 1, 26)
def xq_48 : xm_M := (RX1, ⟨RX1, "concernedSet", "(I)I"⟩, prog_3_method_38_code, 2, (some .int), 1, 26)
def xq_49 : xm_M := (RX1, ⟨RX1, "agesSet", "(II)I"⟩, prog_3_method_39_code, 7, (some .int), 0, 0)
def xq_50 : xm_M := (RX1, ⟨RX1, "rootSet", "()I"⟩, prog_3_method_40_code, 3, (some .int), 0, 0)
def xq_51 : xm_M := (RX1, ⟨RX1, "neededSet", "()I"⟩, prog_3_method_41_code, 1, (some .int), 2, 50)
def xq_52 : xm_M := (RX1, ⟨RX1, "survivingSet", "(I)I"⟩, prog_3_method_42_code, 4, (some .int), 2, 50)
def xq_53 : xm_M := (RX1, ⟨RX1, "tiedFrom", "(I)I"⟩, prog_3_method_43_code, 6, (some .int), 0, 0)
def xq_54 : xm_M := (RX1, ⟨RX1, "reach", "(II)I"⟩, prog_3_method_44_code, 6, (some .int), 1, 25)
def xq_55 : xm_M := (RX2, ⟨RX2, "<init>", "()V"⟩, prog_1_method_1_code, 2, none, 2, 41)
def xq_56 : xm_M := (RX2, ⟨RX2, "thing", "()I"⟩, prog_1_method_2_code, 1, (some .int), 3, 82)
def xq_57 : xm_M := (RX2, ⟨RX2, "hold", "(II)I"⟩, prog_1_method_3_code, 3, (some .int), 3, 82)
def xq_58 : xm_M := (RX2, ⟨RX2, "release", "(I)I"⟩, prog_1_method_4_code, 2, (some .int), 3, 82)
def xq_59 : xm_M := (RX2, ⟨RX2, "tie", "(III)I"⟩, prog_1_method_5_code, 4, (some .int), 4, 89)
def xq_60 : xm_M := (RX2, ⟨RX2, "loosen", "(II)I"⟩, prog_1_method_6_code, 3, (some .int), 3, 82)
def xq_61 : xm_M := (RX2, ⟨RX2, "pin", "(I)I"⟩, prog_1_method_7_code, 2, (some .int), 3, 82)
def xq_62 : xm_M := (RX2, ⟨RX2, "unpin", "(I)I"⟩, prog_1_method_8_code, 2, (some .int), 3, 82)
def xq_63 : xm_M := (RX2, ⟨RX2, "winter", "(I)I"⟩, prog_1_method_9_code, 2, (some .int), 4, 98)
def xq_64 : xm_M := (RX2, ⟨RX2, "full", "()I"⟩, prog_1_method_10_code, 1, (some .int), 4, 91)
def xq_65 : xm_M := (RX2, ⟨RX2, "thingOf", "(II)I"⟩, prog_1_method_11_code, 4, (some .int), 2, 43)
def xq_66 : xm_M := (RX2, ⟨RX2, "houseOf", "(II)I"⟩, prog_1_method_12_code, 4, (some .int), 1, 24)
def xq_67 : xm_M := (RX2, ⟨RX2, "handOf", "(I)I"⟩, prog_1_method_13_code, 2, (some .int), 1, 20)
def xq_68 : xm_M := (RX2, ⟨RX2, "noteAt", "(I)I"⟩, prog_1_method_14_code, 6, (some .int), 3, 66)
def xq_69 : xm_M := (RX2, ⟨RX2, "needed", "(I)I"⟩, prog_1_method_15_code, 3, (some .int), 3, 70)
def xq_70 : xm_M := (RX2, ⟨RX2, "survivors", "(II)I"⟩, prog_1_method_16_code, 5, (some .int), 4, 98)
def xq_71 : xm_M := (RX2, ⟨RX2, "keptBy", "(I)I"⟩, prog_1_method_17_code, 5, (some .int), 3, 70)
def xq_72 : xm_M := (RX2, ⟨RX2, "far", "(I)I"⟩, prog_1_method_18_code, 5, (some .int), 1, 25)
def xq_73 : xm_M := (RX2, ⟨RX2, "count", "(I)I"⟩, prog_1_method_19_code, 4, (some .int), 4, 89)
def xq_74 : xm_M := (RX2, ⟨RX2, "undo", "()I"⟩, prog_1_method_20_code, 1, (some .int), 0, 0)
def xq_75 : xm_M := (RX2, ⟨RX2, "type", "(I)I"⟩, prog_1_method_21_code, 2, (some .int), 1, 21)
def xq_76 : xm_M := (RX2, ⟨RX2, "clearText", "()I"⟩, prog_1_method_22_code, 2, (some .int), 0, 0)
def xq_77 : xm_M := (RX2, ⟨RX2, "fault", "(I)I"⟩, prog_1_method_23_code, 2, (some .int), 6, 143)
def xq_78 : xm_M := (RX2, ⟨RX2, "play", "()I"⟩, prog_1_method_24_code, 2, (some .int), 6, 143)
def xq_79 : xm_M := (RX2, ⟨RX2, "now", "()LWarmHouses$Village;"⟩, prog_1_method_25_code, 1, (some (.object "WarmHouses$Village")), 0, 0)
def xq_80 : xm_M := (RX2, ⟨RX2, "trial", "()LWarmHouses$Village;"⟩, prog_1_method_26_code, 2, (some (.object "WarmHouses$Village")), 2, 61)
def xq_81 : xm_M := (RX2, ⟨RX2, "keep", "(I)I"⟩, prog_1_method_27_code, 2, (some .int), 1, 40)
def xq_82 : xm_M := (RX2, ⟨RX2, "found", "(I)I"⟩, prog_1_method_28_code, 1, (some .int), 0, 0)
def xq_83 : xm_M := (RX2, ⟨RX2, "has", "(II)Z"⟩, prog_1_method_29_code, 2, (some .boolean), 0, 0)
def xq_84 : xm_M := (RX3, ⟨RX3, "<init>", "()V"⟩, prog_5_method_1_code, 1, none, 1, 20)
def xq_85 : xm_M := (RX3, ⟨RX3, "in", "(III)Z"⟩, prog_5_method_2_code, 3, (some .boolean), 0, 0)
def xq_86 : xm_M := (RX3, ⟨RX3, "of", "(II)I"⟩, prog_5_method_3_code, 2, (some .int), 0, 0)
def xq_87 : xm_M := (RX3, ⟨RX3, "isThing", "(I)Z"⟩, prog_5_method_4_code, 2, (some .boolean), 1, 22)
def xq_88 : xm_M := (RX3, ⟨RX3, "isHand", "(I)Z"⟩, prog_5_method_5_code, 1, (some .boolean), 1, 22)
def xq_89 : xm_M := (RX3, ⟨RX3, "isString", "(I)Z"⟩, prog_5_method_6_code, 1, (some .boolean), 1, 22)
def xq_90 : xm_M := (RX3, ⟨RX3, "has", "(II)Z"⟩, prog_5_method_7_code, 2, (some .boolean), 0, 0)
def xq_91 : xm_M := (RX3, ⟨RX3, "bits", "(I)I"⟩, prog_5_method_8_code, 3, (some .int), 0, 0)
def xq_92 : xm_M := (RX3, ⟨RX3, "copy", "(II)V"⟩, prog_5_method_9_code, 4, none, 0, 0)
def xq_93 : xm_M := (RX3, ⟨RX3, "record", "(I)V"⟩, prog_5_method_10_code, 3, none, 1, 23)
def xq_94 : xm_M := (RX3, ⟨RX3, "undo", "()I"⟩, prog_5_method_11_code, 1, (some .int), 1, 23)
def xq_95 : xm_M := (RX3, ⟨RX3, "homeOf", "(I)I"⟩, prog_5_method_12_code, 2, (some .int), 1, 21)
def xq_96 : xm_M := (RX3, ⟨RX3, "ageOf", "(I)I"⟩, prog_5_method_13_code, 2, (some .int), 2, 42)
def xq_97 : xm_M := (RX3, ⟨RX3, "living", "(I)I"⟩, prog_5_method_14_code, 4, (some .int), 3, 63)
def xq_98 : xm_M := (RX3, ⟨RX3, "thingAt", "(I)I"⟩, prog_5_method_15_code, 3, (some .int), 1, 21)
def xq_99 : xm_M := (RX3, ⟨RX3, "emptyIn", "(I)I"⟩, prog_5_method_16_code, 3, (some .int), 2, 43)
def xq_100 : xm_M := (RX3, ⟨RX3, "room", "(I)I"⟩, prog_5_method_17_code, 3, (some .int), 3, 65)
def xq_101 : xm_M := (RX3, ⟨RX3, "freeHouses", "()V"⟩, prog_5_method_18_code, 4, none, 2, 43)
def xq_102 : xm_M := (RX3, ⟨RX3, "noThing", "()I"⟩, prog_5_method_19_code, 2, (some .int), 4, 87)
def xq_103 : xm_M := (RX3, ⟨RX3, "doThing", "()I"⟩, prog_5_method_20_code, 4, (some .int), 4, 87)
def xq_104 : xm_M := (RX3, ⟨RX3, "thing", "()I"⟩, prog_5_method_21_code, 2, (some .int), 5, 110)
def xq_105 : xm_M := (RX3, ⟨RX3, "noHold", "(II)I"⟩, prog_5_method_22_code, 3, (some .int), 2, 43)
def xq_106 : xm_M := (RX3, ⟨RX3, "doHold", "(II)I"⟩, prog_5_method_23_code, 5, (some .int), 0, 0)
def xq_107 : xm_M := (RX3, ⟨RX3, "hold", "(II)I"⟩, prog_5_method_24_code, 4, (some .int), 3, 65)
def xq_108 : xm_M := (RX3, ⟨RX3, "noRelease", "(I)I"⟩, prog_5_method_25_code, 2, (some .int), 2, 42)
def xq_109 : xm_M := (RX3, ⟨RX3, "doRelease", "(I)I"⟩, prog_5_method_26_code, 3, (some .int), 0, 0)
def xq_110 : xm_M := (RX3, ⟨RX3, "release", "(I)I"⟩, prog_5_method_27_code, 3, (some .int), 3, 63)
def xq_111 : xm_M := (RX3, ⟨RX3, "noTie", "(III)I"⟩, prog_5_method_28_code, 4, (some .int), 2, 43)
def xq_112 : xm_M := (RX3, ⟨RX3, "doTie", "(III)I"⟩, prog_5_method_29_code, 4, (some .int), 3, 63)
def xq_113 : xm_M := (RX3, ⟨RX3, "tie", "(III)I"⟩, prog_5_method_30_code, 5, (some .int), 4, 86)
def xq_114 : xm_M := (RX3, ⟨RX3, "noLoosen", "(II)I"⟩, prog_5_method_31_code, 3, (some .int), 2, 43)
def xq_115 : xm_M := (RX3, ⟨RX3, "doLoosen", "(II)I"⟩, prog_5_method_32_code, 4, (some .int), 1, 21)
def xq_116 : xm_M := (RX3, ⟨RX3, "loosen", "(II)I"⟩, prog_5_method_33_code, 4, (some .int), 3, 65)
def xq_117 : xm_M := (RX3, ⟨RX3, "pinned", "()I"⟩, prog_5_method_34_code, 3, (some .int), 2, 43)
def xq_118 : xm_M := (RX3, ⟨RX3, "noPin", "(II)I"⟩, prog_5_method_35_code, 3, (some .int), 2, 43)
def xq_119 : xm_M := (RX3, ⟨RX3, "doPin", "(II)I"⟩, prog_5_method_36_code, 3, (some .int), 3, 65)
def xq_120 : xm_M := (RX3, ⟨RX3, "pin", "(I)I"⟩, prog_5_method_37_code, 3, (some .int), 4, 87)
def xq_121 : xm_M := (RX3, ⟨RX3, "unpin", "(I)I"⟩, prog_5_method_38_code, 3, (some .int), 4, 87)
def xq_122 : xm_M := (RX3, ⟨RX3, "held", "()I"⟩, prog_5_method_39_code, 3, (some .int), 0, 0)
def xq_123 : xm_M := (RX3, ⟨RX3, "tiedTo", "(I)I"⟩, prog_5_method_40_code, 5, (some .int), 1, 21)
def xq_124 : xm_M := (RX3, ⟨RX3, "reached", "(II)I"⟩, prog_5_method_41_code, 5, (some .int), 2, 45)
def xq_125 : xm_M := (RX3, ⟨RX3, "roots", "()I"⟩, prog_5_method_42_code, 1, (some .int), 3, 65)
def xq_126 : xm_M := (RX3, ⟨RX3, "all", "()I"⟩, prog_5_method_43_code, 1, (some .int), 4, 86)
def xq_127 : xm_M := (RX3, ⟨RX3, "neededOf", "()I"⟩, prog_5_method_44_code, 1, (some .int), 5, 106)
def xq_128 : xm_M := (RX3, ⟨RX3, "survivorsOf", "(I)I"⟩, prog_5_method_45_code, 3, (some .int), 5, 106)
def xq_129 : xm_M := (RX3, ⟨RX3, "lose", "(I)V"⟩, prog_5_method_46_code, 4, none, 3, 66)
def xq_130 : xm_M := (RX3, ⟨RX3, "comes", "(I)Z"⟩, prog_5_method_47_code, 7, (some .boolean), 6, 128)
def xq_131 : xm_M := (RX3, ⟨RX3, "canCome", "(I)Z"⟩, prog_5_method_48_code, 3, (some .boolean), 7, 154)
def xq_132 : xm_M := (RX3, ⟨RX3, "isYoung", "(I)Z"⟩, prog_5_method_49_code, 1, (some .boolean), 1, 22)
def xq_133 : xm_M := (RX3, ⟨RX3, "noWinter", "(I)I"⟩, prog_5_method_50_code, 2, (some .int), 8, 176)
def xq_134 : xm_M := (RX3, ⟨RX3, "winter", "(I)I"⟩, prog_5_method_51_code, 4, (some .int), 9, 197)
def xq_135 : xm_M := (RX3, ⟨RX3, "doFull", "()I"⟩, prog_5_method_52_code, 2, (some .int), 6, 126)
def xq_136 : xm_M := (RX3, ⟨RX3, "full", "()I"⟩, prog_5_method_53_code, 1, (some .int), 7, 147)
def xq_137 : xm_M := (RX3, ⟨RX3, "tiedFrom", "(I)I"⟩, prog_5_method_54_code, 4, (some .int), 2, 45)
def xq_138 : xm_M := (RX3, ⟨RX3, "handsOf", "(I)I"⟩, prog_5_method_55_code, 4, (some .int), 0, 0)
def xq_139 : xm_M := (RX3, ⟨RX3, "thingOf", "(II)I"⟩, prog_5_method_56_code, 4, (some .int), 3, 68)
def xq_140 : xm_M := (RX3, ⟨RX3, "livingIn", "(I)I"⟩, prog_5_method_57_code, 4, (some .int), 2, 43)
def xq_141 : xm_M := (RX3, ⟨RX3, "houseOf", "(II)I"⟩, prog_5_method_58_code, 3, (some .int), 3, 66)
def xq_142 : xm_M := (RX3, ⟨RX3, "handOf", "(I)I"⟩, prog_5_method_59_code, 2, (some .int), 2, 42)
def xq_143 : xm_M := (RX3, ⟨RX3, "isNoted", "(II)Z"⟩, prog_5_method_60_code, 4, (some .boolean), 3, 63)
def xq_144 : xm_M := (RX3, ⟨RX3, "notes", "(I)I"⟩, prog_5_method_61_code, 4, (some .int), 4, 86)
def xq_145 : xm_M := (RX3, ⟨RX3, "noteAt", "(I)I"⟩, prog_5_method_62_code, 2, (some .int), 5, 109)
def xq_146 : xm_M := (RX3, ⟨RX3, "needed", "(I)I"⟩, prog_5_method_63_code, 2, (some .int), 6, 126)
def xq_147 : xm_M := (RX3, ⟨RX3, "survivors", "(II)I"⟩, prog_5_method_64_code, 4, (some .int), 8, 176)
def xq_148 : xm_M := (RX3, ⟨RX3, "keptBy", "(I)I"⟩, prog_5_method_65_code, 3, (some .int), 6, 126)
def xq_149 : xm_M := (RX3, ⟨RX3, "far", "(I)I"⟩, prog_5_method_66_code, 4, (some .int), 4, 85)
def xq_150 : xm_M := (RX3, ⟨RX3, "freeOnes", "()I"⟩, prog_5_method_67_code, 3, (some .int), 0, 0)
def xq_151 : xm_M := (RX3, ⟨RX3, "count", "(I)I"⟩, prog_5_method_68_code, 2, (some .int), 5, 109)
def xq_152 : xm_M := (RX3, ⟨RX3, "type", "(I)I"⟩, prog_5_method_69_code, 2, (some .int), 1, 22)
def xq_153 : xm_M := (RX3, ⟨RX3, "clearText", "()I"⟩, prog_5_method_70_code, 2, (some .int), 0, 0)
def xq_154 : xm_M := (RX3, ⟨RX3, "code", "()I"⟩, prog_5_method_71_code, 1, (some .int), 0, 0)
def xq_155 : xm_M := (RX3, ⟨RX3, "sign", "(I)Z"⟩, prog_5_method_72_code, 3, (some .boolean), 1, 20)
def xq_156 : xm_M := (RX3, ⟨RX3, "number", "(I)Z"⟩, prog_5_method_73_code, 3, (some .boolean), 1, 22)
def xq_157 : xm_M := (RX3, ⟨RX3, "numbersOf", "(I)I"⟩, prog_5_method_74_code, 1, (some .int), 0, 0)
def xq_158 : xm_M := (RX3, ⟨RX3, "readsOrder", "()Z"⟩, prog_5_method_75_code, 4, (some .boolean), 2, 44)
def xq_159 : xm_M := (RX3, ⟨RX3, "noOrder", "()I"⟩, prog_5_method_76_code, 3, (some .int), 9, 197)
def xq_160 : xm_M := (RX3, ⟨RX3, "doOrder", "()V"⟩, prog_5_method_77_code, 3, none, 7, 154)
def xq_161 : xm_M := (RX3, ⟨RX3, "go", "()V"⟩, prog_5_method_78_code, 3, none, 10, 219)
def xq_162 : xm_M := (RX3, ⟨RX3, "goBack", "()V"⟩, prog_5_method_79_code, 2, none, 0, 0)
def xq_163 : xm_M := (RX3, ⟨RX3, "keepAll", "()V"⟩, prog_5_method_80_code, 2, none, 0, 0)
def xq_164 : xm_M := (RX3, ⟨RX3, "fault", "(I)I"⟩, prog_5_method_81_code, 2, (some .int), 11, 241)
def xq_165 : xm_M := (RX3, ⟨RX3, "play", "()I"⟩, prog_5_method_82_code, 1, (some .int), 11, 241)
def xq_166 : xm_M := (RJ6, ⟨RJ6, "bitCount", "(I)I"⟩, prog_6_method_49_code, 1, (some .int), 0, 0)
def xq_167 : xm_M := (RL, x, code, maxLocals, ret, 12, 262)
def xm_ms : List xm_M := [xq_0, xq_1, xq_2, xq_3, xq_4, xq_5, xq_6, xq_7, xq_8, xq_9, xq_10, xq_11, xq_12, xq_13, xq_14, xq_15, xq_16, xq_17, xq_18, xq_19, xq_20, xq_21, xq_22, xq_23, xq_24, xq_25, xq_26, xq_27, xq_28, xq_29, xq_30, xq_31, xq_32, xq_33, xq_34, xq_35, xq_36, xq_37, xq_38, xq_39, xq_40, xq_41, xq_42, xq_43, xq_44, xq_45, xq_46, xq_47, xq_48, xq_49, xq_50, xq_51, xq_52, xq_53, xq_54, xq_55, xq_56, xq_57, xq_58, xq_59, xq_60, xq_61, xq_62, xq_63, xq_64, xq_65, xq_66, xq_67, xq_68, xq_69, xq_70, xq_71, xq_72, xq_73, xq_74, xq_75, xq_76, xq_77, xq_78, xq_79, xq_80, xq_81, xq_82, xq_83, xq_84, xq_85, xq_86, xq_87, xq_88, xq_89, xq_90, xq_91, xq_92, xq_93, xq_94, xq_95, xq_96, xq_97, xq_98, xq_99, xq_100, xq_101, xq_102, xq_103, xq_104, xq_105, xq_106, xq_107, xq_108, xq_109, xq_110, xq_111, xq_112, xq_113, xq_114, xq_115, xq_116, xq_117, xq_118, xq_119, xq_120, xq_121, xq_122, xq_123, xq_124, xq_125, xq_126, xq_127, xq_128, xq_129, xq_130, xq_131, xq_132, xq_133, xq_134, xq_135, xq_136, xq_137, xq_138, xq_139, xq_140, xq_141, xq_142, xq_143, xq_144, xq_145, xq_146, xq_147, xq_148, xq_149, xq_150, xq_151, xq_152, xq_153, xq_154, xq_155, xq_156, xq_157, xq_158, xq_159, xq_160, xq_161, xq_162, xq_163, xq_164, xq_165, xq_166, xq_167]
end
section
/-! the abstract machine: cells by their numbers, values with cells' numbers; one step; runs with fuel -/
abbrev xm_E : Type := (Nat × (Nat → Int32)) ⊕ ((Nat × (Nat → Option Nat)) ⊕ (Nat × List Value))
abbrev xm_H : Type := List xm_E
abbrev xm_F : Type := Nat × List Value × List Value × xm_H
abbrev xm_R : Type := Option Value × xm_H
abbrev xm_O : Type := xm_F ⊕ (xm_R ⊕ (Nat × List Value × Nat × List Value × List Value × xm_H))
def xm_i (v : Int) : Int32 := match v with
  | .ofNat n => nI n
  | .negSucc n => Int32.ofInt (.negSucc n)
def xm_find (t : List (Nat × xm_Q)) (pc : Nat) : Option xm_Q := match t with
  | [] => none
  | e :: t => if e.1 = pc then some e.2 else xm_find t pc
def xm_ins (k pc : Nat) : Option xm_Q := match xm_tabs[k]? with
  | some t => xm_find t pc
  | none => none
def xm_cb (c : ClassFile.Cond) (a b : Int32) : Bool := match c with
  | .eq => decide (a = b)
  | .ne => decide (¬ a = b)
  | .lt => decide (a < b)
  | .ge => decide (b ≤ a)
  | .gt => decide (b < a)
  | .le => decide (a ≤ b)
def xm_bin (i : Instr) (a b : Int32) : Option Int32 := match i with
  | .iadd => some (a + b)
  | .isub => some (a - b)
  | .imul => some (a * b)
  | .iand => some (a &&& b)
  | .ior => some (a ||| b)
  | .ixor => some (a ^^^ b)
  | .ishl => some (a <<< (b &&& 31))
  | .ishr => some (a >>> (b &&& 31))
  | .iushr => some (a.toUInt32 >>> (b.toUInt32 &&& Int32.toUInt32 31)).toInt32
  | .idiv => if b = 0 then none else some (a / b)
  | .irem => if b = 0 then none else some (a - a / b * b)
  | _ => none
def xm_tgt (pc : Nat) (off : Int) : Option Nat := if 0 ≤ (pc : Int) + off then some ((pc : Int) + off).toNat else none
def xm_new (ci : Nat) : List Value := match ci with
  | 0 => [.null, .null, .int 0, .int 0, .int 0, .int 0]
  | 1 => [.null, .null, .null, .null, .null, .null, .int 0, .int 0, .int 0, .int 0, .int 0]
  | 2 => [.null, .null, .int 0, .int 0]
  | _ => [.null, .int 0, .null, .int 0, .null, .int 0, .int 0, .null, .int 0, .int 0, .int 0, .null]
abbrev xm_to (pc : Nat) (ls st : List Value) (hp : xm_H) : Option xm_O := some (.inl (pc, ls, st, hp))
/-- an instruction's one step, at pc, in a method that answers true or false (rb) -/
def xm_step (L : Nat) (xs : Nat → Int32) (rb : Bool) (pc : Nat) (q : xm_Q) (ls st : List Value) (hp : xm_H) : Option xm_O :=
  match q with
  | (i, nx, x, y, v) => match i with
    | .iconst _ => xm_to nx ls (.int (xm_i v) :: st) hp
    | .bipush _ => xm_to nx ls (.int (xm_i v) :: st) hp
    | .sipush _ => xm_to nx ls (.int (xm_i v) :: st) hp
    | .ldc _ => xm_to nx ls (.int (xm_i v) :: st) hp
    | .ldc_w _ => xm_to nx ls (.int (xm_i v) :: st) hp
    | .iload_n _ => match ls[x]? with
      | some (.int u) => xm_to nx ls (.int u :: st) hp
      | _ => none
    | .iload _ => match ls[x]? with
      | some (.int u) => xm_to nx ls (.int u :: st) hp
      | _ => none
    | .aload_n _ => match ls[x]? with
      | some (.ref u) => xm_to nx ls (.ref u :: st) hp
      | some (.float u) => xm_to nx ls (.float u :: st) hp
      | _ => none
    | .istore_n _ => match st with
      | .int u :: r => if x < ls.length then xm_to nx (ls.set x (.int u)) r hp else none
      | _ => none
    | .istore _ => match st with
      | .int u :: r => if x < ls.length then xm_to nx (ls.set x (.int u)) r hp else none
      | _ => none
    | .astore_n _ => match st with
      | .ref u :: r => if x < ls.length then xm_to nx (ls.set x (.ref u)) r hp else none
      | _ => none
    | .iinc _ _ => match ls[x]? with
      | some (.int u) => xm_to nx (ls.set x (.int (u + xm_i v))) st hp
      | _ => none
    | .ifCond c _ => match st with
      | .int a :: r => xm_to (if xm_cb c a 0 then x else nx) ls r hp
      | _ => none
    | .if_icmp c _ => match st with
      | .int b :: .int a :: r => xm_to (if xm_cb c a b then x else nx) ls r hp
      | _ => none
    | .goto _ => xm_to x ls st hp
    | .pop => match st with
      | _ :: r => xm_to nx ls r hp
      | _ => none
    | .dup => match st with
      | a :: r => xm_to nx ls (a :: a :: r) hp
      | _ => none
    | .dup2 => match st with
      | a :: b :: r => xm_to nx ls (a :: b :: a :: b :: r) hp
      | _ => none
    | .getfield _ => match st with
      | .ref a :: r => match hp[a]? with
        | some (.inr (.inr (ci, fs))) => if ci = x then (match fs[y]? with
          | some u => xm_to nx ls (u :: r) hp
          | none => none) else none
        | _ => none
      | _ => none
    | .putfield _ => match st with
      | .int u :: .ref a :: r => match hp[a]? with
        | some (.inr (.inr (ci, fs))) => if ci = x ∧ y < fs.length ∧ v = 0 then xm_to nx ls r (hp.set a (.inr (.inr (ci, fs.set y (.int u))))) else none
        | _ => none
      | .ref u :: .ref a :: r => match hp[a]? with
        | some (.inr (.inr (ci, fs))) => if ci = x ∧ y < fs.length ∧ v = 1 then xm_to nx ls r (hp.set a (.inr (.inr (ci, fs.set y (.ref u))))) else none
        | _ => none
      | _ => none
    | .iaload => match st with
      | .int j :: .ref a :: r => match hp[a]? with
        | some (.inl (n, f)) => if j < 0 ∨ n ≤ j.toNatClampNeg then none else xm_to nx ls (.int (f j.toNatClampNeg) :: r) hp
        | _ => none
      | .int j :: .float _ :: r => if j < 0 ∨ L ≤ j.toNatClampNeg then none else xm_to nx ls (.int (xs j.toNatClampNeg) :: r) hp
      | _ => none
    | .iastore => match st with
      | .int u :: .int j :: .ref a :: r => match hp[a]? with
        | some (.inl (n, f)) => if j < 0 ∨ n ≤ j.toNatClampNeg then none else xm_to nx ls r (hp.set a (.inl (n, upd f j.toNatClampNeg u)))
        | _ => none
      | _ => none
    | .aaload => match st with
      | .int j :: .ref a :: r => match hp[a]? with
        | some (.inr (.inl (n, f))) => if j < 0 ∨ n ≤ j.toNatClampNeg then none else (match f j.toNatClampNeg with
          | some t => xm_to nx ls (.ref t :: r) hp
          | none => none)
        | _ => none
      | _ => none
    | .aastore => match st with
      | .ref t :: .int j :: .ref a :: r => match hp[a]? with
        | some (.inr (.inl (n, f))) => if j < 0 ∨ n ≤ j.toNatClampNeg then none else (match hp[t]? with
          | some (.inr (.inr (ci, _))) => if ci = 1 then xm_to nx ls r (hp.set a (.inr (.inl (n, va_up f j.toNatClampNeg (some t))))) else none
          | _ => none)
        | _ => none
      | _ => none
    | .arraylength => match st with
      | .ref a :: r => match hp[a]? with
        | some (.inl (n, _)) => xm_to nx ls (.int (nI n) :: r) hp
        | _ => none
      | .float _ :: r => xm_to nx ls (.int (nI L) :: r) hp
      | _ => none
    | .newarray _ => match st with
      | .int n :: r => if n < 0 ∨ 536870912 < 4 * n.toNatClampNeg then none else xm_to nx ls (.ref hp.length :: r) (hp ++ [.inl (n.toNatClampNeg, fun _ => 0)])
      | _ => none
    | .anewarray _ => match st with
      | .int n :: r => if n < 0 ∨ 536870912 < 4 * n.toNatClampNeg then none else xm_to nx ls (.ref hp.length :: r) (hp ++ [.inr (.inl (n.toNatClampNeg, fun _ => none))])
      | _ => none
    | .new _ => xm_to nx ls (.ref hp.length :: st) (hp ++ [.inr (.inr (x, xm_new x))])
    | .tableswitch d lo hi offs => match st with
      | .int u :: r => if u.toInt < lo ∨ hi < u.toInt then (match xm_tgt pc d with
          | some t => xm_to t ls r hp
          | none => none) else (match offs[(u.toInt - lo).toNat]? with
          | some o => (match xm_tgt pc o with
            | some t => xm_to t ls r hp
            | none => none)
          | none => none)
      | _ => none
    | .lookupswitch d ps => match st with
      | .int u :: r => match xm_tgt pc (Op.lookupswitch.offset ps.toList d u.toInt) with
        | some t => xm_to t ls r hp
        | none => none
      | _ => none
    | .ireturn => match st with
      | [.int u] => if rb = true ∧ ¬ (u = 0 ∨ u = 1) then none else some (.inr (.inl (some (.int u), hp)))
      | _ => none
    | .areturn => match st with
      | [.ref u] => some (.inr (.inl (some (.ref u), hp)))
      | _ => none
    | .return_ => match st with
      | [] => some (.inr (.inl (none, hp)))
      | _ => none
    | .invokevirtual _ => match (st.take y).reverse with
      | .ref a :: as => match hp[a]? with
        | some (.inr (.inr (ci, _))) => if (ci : Int) = v ∧ y ≤ st.length ∧ (st.drop y).length ≤ 8 then some (.inr (.inr (x, .ref a :: as, nx, ls, st.drop y, hp))) else none
        | _ => none
      | _ => none
    | .invokestatic _ => if x = 1001 then (match st with
        | .int n :: .int dp :: .ref d :: .int sp :: .ref s :: r => match hp[s]?, hp[d]? with
          | some (.inl (n0, f)), some (.inl (n1, g)) => if sp < 0 ∨ dp < 0 ∨ n < 0 ∨ n0 < sp.toNatClampNeg + n.toNatClampNeg ∨ n1 < dp.toNatClampNeg + n.toNatClampNeg ∨ 8 < r.length then none else xm_to nx ls r (hp.set d (.inl (n1, va_cpy f g sp.toNatClampNeg dp.toNatClampNeg n.toNatClampNeg)))
          | _, _ => none
        | _ => none)
      else if x = 1002 then (match st with
        | .int b :: .int a :: r => if 8 < r.length then none else xm_to nx ls (.int (if b < a then b else a) :: r) hp
        | _ => none)
      else if y ≤ st.length ∧ (st.drop y).length ≤ 8 then some (.inr (.inr (x, (st.take y).reverse, nx, ls, st.drop y, hp))) else none
    | .invokespecial _ => if x = 1000 then (match st with
        | .ref _ :: r => if 8 < r.length then none else xm_to nx ls r hp
        | _ => none)
      else (match (st.take y).reverse with
        | .ref a :: as => if y ≤ st.length ∧ (st.drop y).length ≤ 8 then some (.inr (.inr (x, .ref a :: as, nx, ls, st.drop y, hp))) else none
        | _ => none)
    | i => match st with
      | .int b :: .int a :: r => match xm_bin i a b with
        | some z => xm_to nx ls (.int z :: r) hp
        | none => none
      | _ => none
def xm_rb (k : Nat) : Bool := match xm_ms[k]? with
  | some (_, _, _, _, some .boolean, _) => k != 167
  | _ => false
def xm_ml (k : Nat) : Nat := match xm_ms[k]? with
  | some q => q.2.2.2.1
  | none => 0
def xm_pad (k : Nat) (as : List Value) : List Value := as ++ List.replicate (xm_ml k - as.length) .null
def xm_ex (L : Nat) (xs : Nat → Int32) : Nat → Nat → Nat → List Value → List Value → xm_H → Option xm_R
  | 0, _, _, _, _, _ => none
  | n + 1, k, pc, ls, st, hp => match xm_ins k pc with
    | none => none
    | some q => match xm_step L xs (xm_rb k) pc q ls st hp with
      | none => none
      | some (.inl (pc', ls', st', hp')) => xm_ex L xs n k pc' ls' st' hp'
      | some (.inr (.inl r)) => some r
      | some (.inr (.inr (j, as, nx, ls', rest, hp1))) => match xm_ex L xs n j 0 (xm_pad j as) [] hp1 with
        | none => none
        | some (none, hp') => xm_ex L xs n k nx ls' rest hp'
        | some (some u, hp') => xm_ex L xs n k nx ls' (u :: rest) hp'
end
section
theorem xn_0 (pc : Nat) : xm_ins 0 pc = xm_find xt_0 pc := rfl
theorem xi_0_0 : xm_ins 0 0 = some (.aload_n 0, 1, 0, 0, 0) := rfl
theorem xi_0_1 : xm_ins 0 1 = some (.invokespecial 3, 4, 1000, 0, 0) := rfl
theorem xi_0_4 : xm_ins 0 4 = some (.aload_n 0, 5, 0, 0, 0) := rfl
theorem xi_0_5 : xm_ins 0 5 = some (.bipush 60, 7, 0, 0, 60) := rfl
theorem xi_0_7 : xm_ins 0 7 = some (.newarray .int, 9, 0, 0, 0) := rfl
theorem xi_0_9 : xm_ins 0 9 = some (.putfield 9, 12, 0, 0, 1) := rfl
theorem xi_0_12 : xm_ins 0 12 = some (.aload_n 0, 13, 0, 0, 0) := rfl
theorem xi_0_13 : xm_ins 0 13 = some (.iconst 3, 14, 0, 0, 3) := rfl
theorem xi_0_14 : xm_ins 0 14 = some (.newarray .int, 16, 0, 0, 0) := rfl
theorem xi_0_16 : xm_ins 0 16 = some (.putfield 15, 19, 0, 1, 1) := rfl
theorem xi_0_19 : xm_ins 0 19 = some (.aload_n 0, 20, 0, 0, 0) := rfl
theorem xi_0_20 : xm_ins 0 20 = some (.iconst 0, 21, 0, 0, 0) := rfl
theorem xi_0_21 : xm_ins 0 21 = some (.putfield 18, 24, 0, 2, 0) := rfl
theorem xi_0_24 : xm_ins 0 24 = some (.aload_n 0, 25, 0, 0, 0) := rfl
theorem xi_0_25 : xm_ins 0 25 = some (.iconst 0, 26, 0, 0, 0) := rfl
theorem xi_0_26 : xm_ins 0 26 = some (.putfield 22, 29, 0, 3, 0) := rfl
theorem xi_0_29 : xm_ins 0 29 = some (.aload_n 0, 30, 0, 0, 0) := rfl
theorem xi_0_30 : xm_ins 0 30 = some (.iconst 0, 31, 0, 0, 0) := rfl
theorem xi_0_31 : xm_ins 0 31 = some (.putfield 25, 34, 0, 4, 0) := rfl
theorem xi_0_34 : xm_ins 0 34 = some (.aload_n 0, 35, 0, 0, 0) := rfl
theorem xi_0_35 : xm_ins 0 35 = some (.iconst 0, 36, 0, 0, 0) := rfl
theorem xi_0_36 : xm_ins 0 36 = some (.putfield 28, 39, 0, 5, 0) := rfl
theorem xi_0_39 : xm_ins 0 39 = some (.return_, 40, 0, 0, 0) := rfl
theorem xn_1 (pc : Nat) : xm_ins 1 pc = xm_find xt_1 pc := rfl
theorem xi_1_0 : xm_ins 1 0 = some (.aload_n 0, 1, 0, 0, 0) := rfl
theorem xi_1_1 : xm_ins 1 1 = some (.getfield 18, 4, 0, 2, 0) := rfl
theorem xi_1_4 : xm_ins 1 4 = some (.bipush 60, 6, 0, 0, 60) := rfl
theorem xi_1_6 : xm_ins 1 6 = some (.if_icmp .lt 6, 9, 12, 0, 0) := rfl
theorem xi_1_9 : xm_ins 1 9 = some (.ldc 31, 11, 0, 0, (-1000003)) := rfl
theorem xi_1_11 : xm_ins 1 11 = some (.ireturn, 12, 0, 0, 0) := rfl
theorem xi_1_12 : xm_ins 1 12 = some (.aload_n 0, 13, 0, 0, 0) := rfl
theorem xi_1_13 : xm_ins 1 13 = some (.getfield 9, 16, 0, 0, 1) := rfl
theorem xi_1_16 : xm_ins 1 16 = some (.aload_n 0, 17, 0, 0, 0) := rfl
theorem xi_1_17 : xm_ins 1 17 = some (.getfield 18, 20, 0, 2, 0) := rfl
theorem xi_1_20 : xm_ins 1 20 = some (.iload_n 1, 21, 1, 0, 0) := rfl
theorem xi_1_21 : xm_ins 1 21 = some (.iastore, 22, 0, 0, 0) := rfl
theorem xi_1_22 : xm_ins 1 22 = some (.aload_n 0, 23, 0, 0, 0) := rfl
theorem xi_1_23 : xm_ins 1 23 = some (.dup, 24, 0, 0, 0) := rfl
theorem xi_1_24 : xm_ins 1 24 = some (.getfield 18, 27, 0, 2, 0) := rfl
theorem xi_1_27 : xm_ins 1 27 = some (.iconst 1, 28, 0, 0, 1) := rfl
theorem xi_1_28 : xm_ins 1 28 = some (.iadd, 29, 0, 0, 0) := rfl
theorem xi_1_29 : xm_ins 1 29 = some (.putfield 18, 32, 0, 2, 0) := rfl
theorem xi_1_32 : xm_ins 1 32 = some (.aload_n 0, 33, 0, 0, 0) := rfl
theorem xi_1_33 : xm_ins 1 33 = some (.getfield 18, 36, 0, 2, 0) := rfl
theorem xi_1_36 : xm_ins 1 36 = some (.ireturn, 37, 0, 0, 0) := rfl
theorem xn_2 (pc : Nat) : xm_ins 2 pc = xm_find xt_2 pc := rfl
theorem xi_2_0 : xm_ins 2 0 = some (.iconst 0, 1, 0, 0, 0) := rfl
theorem xi_2_1 : xm_ins 2 1 = some (.istore_n 2, 2, 2, 0, 0) := rfl
theorem xi_2_2 : xm_ins 2 2 = some (.aload_n 0, 3, 0, 0, 0) := rfl
theorem xi_2_3 : xm_ins 2 3 = some (.iconst 0, 4, 0, 0, 0) := rfl
theorem xi_2_4 : xm_ins 2 4 = some (.putfield 22, 7, 0, 3, 0) := rfl
theorem xi_2_7 : xm_ins 2 7 = some (.aload_n 0, 8, 0, 0, 0) := rfl
theorem xi_2_8 : xm_ins 2 8 = some (.iconst 0, 9, 0, 0, 0) := rfl
theorem xi_2_9 : xm_ins 2 9 = some (.putfield 28, 12, 0, 5, 0) := rfl
theorem xi_2_12 : xm_ins 2 12 = some (.iload_n 2, 13, 2, 0, 0) := rfl
theorem xi_2_13 : xm_ins 2 13 = some (.bipush 60, 15, 0, 0, 60) := rfl
theorem xi_2_15 : xm_ins 2 15 = some (.if_icmp .ge 65, 18, 80, 0, 0) := rfl
theorem xi_2_18 : xm_ins 2 18 = some (.aload_n 0, 19, 0, 0, 0) := rfl
theorem xi_2_19 : xm_ins 2 19 = some (.getfield 22, 22, 0, 3, 0) := rfl
theorem xi_2_22 : xm_ins 2 22 = some (.aload_n 0, 23, 0, 0, 0) := rfl
theorem xi_2_23 : xm_ins 2 23 = some (.getfield 18, 26, 0, 2, 0) := rfl
theorem xi_2_26 : xm_ins 2 26 = some (.if_icmp .ge 54, 29, 80, 0, 0) := rfl
theorem xi_2_29 : xm_ins 2 29 = some (.aload_n 0, 30, 0, 0, 0) := rfl
theorem xi_2_30 : xm_ins 2 30 = some (.getfield 28, 33, 0, 5, 0) := rfl
theorem xi_2_33 : xm_ins 2 33 = some (.ifCond .ne 47, 36, 80, 0, 0) := rfl
theorem xi_2_36 : xm_ins 2 36 = some (.iinc 2 1, 39, 2, 0, 1) := rfl
theorem xi_2_39 : xm_ins 2 39 = some (.aload_n 0, 40, 0, 0, 0) := rfl
theorem xi_2_40 : xm_ins 2 40 = some (.aload_n 0, 41, 0, 0, 0) := rfl
theorem xi_2_41 : xm_ins 2 41 = some (.getfield 22, 44, 0, 3, 0) := rfl
theorem xi_2_44 : xm_ins 2 44 = some (.putfield 25, 47, 0, 4, 0) := rfl
theorem xi_2_47 : xm_ins 2 47 = some (.aload_n 0, 48, 0, 0, 0) := rfl
theorem xi_2_48 : xm_ins 2 48 = some (.invokevirtual 32, 51, 6, 1, 0) := rfl
theorem xi_2_51 : xm_ins 2 51 = some (.istore_n 3, 52, 3, 0, 0) := rfl
theorem xi_2_52 : xm_ins 2 52 = some (.aload_n 0, 53, 0, 0, 0) := rfl
theorem xi_2_53 : xm_ins 2 53 = some (.aload_n 0, 54, 0, 0, 0) := rfl
theorem xi_2_54 : xm_ins 2 54 = some (.iload_n 3, 55, 3, 0, 0) := rfl
theorem xi_2_55 : xm_ins 2 55 = some (.invokevirtual 36, 58, 3, 2, 0) := rfl
theorem xi_2_58 : xm_ins 2 58 = some (.ifCond .eq 15, 61, 73, 0, 0) := rfl
theorem xi_2_61 : xm_ins 2 61 = some (.aload_n 0, 62, 0, 0, 0) := rfl
theorem xi_2_62 : xm_ins 2 62 = some (.aload_n 1, 63, 1, 0, 0) := rfl
theorem xi_2_63 : xm_ins 2 63 = some (.iload_n 3, 64, 3, 0, 0) := rfl
theorem xi_2_64 : xm_ins 2 64 = some (.invokevirtual 40, 67, 9, 3, 0) := rfl
theorem xi_2_67 : xm_ins 2 67 = some (.invokestatic 44, 70, 10, 1, 0) := rfl
theorem xi_2_70 : xm_ins 2 70 = some (.goto 4, 73, 74, 0, 0) := rfl
theorem xi_2_73 : xm_ins 2 73 = some (.iconst 1, 74, 0, 0, 1) := rfl
theorem xi_2_74 : xm_ins 2 74 = some (.putfield 28, 77, 0, 5, 0) := rfl
theorem xi_2_77 : xm_ins 2 77 = some (.goto (-65), 80, 12, 0, 0) := rfl
theorem xi_2_80 : xm_ins 2 80 = some (.iload_n 2, 81, 2, 0, 0) := rfl
theorem xi_2_81 : xm_ins 2 81 = some (.ireturn, 82, 0, 0, 0) := rfl
theorem xn_3 (pc : Nat) : xm_ins 3 pc = xm_find xt_3 pc := rfl
theorem xi_3_0 : xm_ins 3 0 = some (.iload_n 1, 1, 1, 0, 0) := rfl
theorem xi_3_1 : xm_ins 3 1 = some (.invokestatic 48, 4, 4, 1, 0) := rfl
theorem xi_3_4 : xm_ins 3 4 = some (.istore_n 2, 5, 2, 0, 0) := rfl
theorem xi_3_5 : xm_ins 3 5 = some (.iload_n 2, 6, 2, 0, 0) := rfl
theorem xi_3_6 : xm_ins 3 6 = some (.iconst (-1), 7, 0, 0, (-1)) := rfl
theorem xi_3_7 : xm_ins 3 7 = some (.if_icmp .ne 5, 10, 12, 0, 0) := rfl
theorem xi_3_10 : xm_ins 3 10 = some (.iconst 0, 11, 0, 0, 0) := rfl
theorem xi_3_11 : xm_ins 3 11 = some (.ireturn, 12, 0, 0, 0) := rfl
theorem xi_3_12 : xm_ins 3 12 = some (.aload_n 0, 13, 0, 0, 0) := rfl
theorem xi_3_13 : xm_ins 3 13 = some (.dup, 14, 0, 0, 0) := rfl
theorem xi_3_14 : xm_ins 3 14 = some (.getfield 22, 17, 0, 3, 0) := rfl
theorem xi_3_17 : xm_ins 3 17 = some (.iconst 1, 18, 0, 0, 1) := rfl
theorem xi_3_18 : xm_ins 3 18 = some (.iadd, 19, 0, 0, 0) := rfl
theorem xi_3_19 : xm_ins 3 19 = some (.putfield 22, 22, 0, 3, 0) := rfl
theorem xi_3_22 : xm_ins 3 22 = some (.iconst 0, 23, 0, 0, 0) := rfl
theorem xi_3_23 : xm_ins 3 23 = some (.istore_n 3, 24, 3, 0, 0) := rfl
theorem xi_3_24 : xm_ins 3 24 = some (.iload_n 3, 25, 3, 0, 0) := rfl
theorem xi_3_25 : xm_ins 3 25 = some (.iload_n 2, 26, 2, 0, 0) := rfl
theorem xi_3_26 : xm_ins 3 26 = some (.if_icmp .ge 51, 29, 77, 0, 0) := rfl
theorem xi_3_29 : xm_ins 3 29 = some (.iload_n 3, 30, 3, 0, 0) := rfl
theorem xi_3_30 : xm_ins 3 30 = some (.iconst 3, 31, 0, 0, 3) := rfl
theorem xi_3_31 : xm_ins 3 31 = some (.if_icmp .ge 46, 34, 77, 0, 0) := rfl
theorem xi_3_34 : xm_ins 3 34 = some (.iload_n 3, 35, 3, 0, 0) := rfl
theorem xi_3_35 : xm_ins 3 35 = some (.ifCond .le 14, 38, 49, 0, 0) := rfl
theorem xi_3_38 : xm_ins 3 38 = some (.aload_n 0, 39, 0, 0, 0) := rfl
theorem xi_3_39 : xm_ins 3 39 = some (.bipush 44, 41, 0, 0, 44) := rfl
theorem xi_3_41 : xm_ins 3 41 = some (.invokevirtual 51, 44, 7, 2, 0) := rfl
theorem xi_3_44 : xm_ins 3 44 = some (.ifCond .ne 5, 47, 49, 0, 0) := rfl
theorem xi_3_47 : xm_ins 3 47 = some (.iconst 0, 48, 0, 0, 0) := rfl
theorem xi_3_48 : xm_ins 3 48 = some (.ireturn, 49, 0, 0, 0) := rfl
theorem xi_3_49 : xm_ins 3 49 = some (.aload_n 0, 50, 0, 0, 0) := rfl
theorem xi_3_50 : xm_ins 3 50 = some (.invokevirtual 54, 53, 5, 1, 0) := rfl
theorem xi_3_53 : xm_ins 3 53 = some (.istore 4, 55, 4, 0, 0) := rfl
theorem xi_3_55 : xm_ins 3 55 = some (.iload 4, 57, 4, 0, 0) := rfl
theorem xi_3_57 : xm_ins 3 57 = some (.iconst (-1), 58, 0, 0, (-1)) := rfl
theorem xi_3_58 : xm_ins 3 58 = some (.if_icmp .ne 5, 61, 63, 0, 0) := rfl
theorem xi_3_61 : xm_ins 3 61 = some (.iconst 0, 62, 0, 0, 0) := rfl
theorem xi_3_62 : xm_ins 3 62 = some (.ireturn, 63, 0, 0, 0) := rfl
theorem xi_3_63 : xm_ins 3 63 = some (.aload_n 0, 64, 0, 0, 0) := rfl
theorem xi_3_64 : xm_ins 3 64 = some (.getfield 15, 67, 0, 1, 1) := rfl
theorem xi_3_67 : xm_ins 3 67 = some (.iload_n 3, 68, 3, 0, 0) := rfl
theorem xi_3_68 : xm_ins 3 68 = some (.iload 4, 70, 4, 0, 0) := rfl
theorem xi_3_70 : xm_ins 3 70 = some (.iastore, 71, 0, 0, 0) := rfl
theorem xi_3_71 : xm_ins 3 71 = some (.iinc 3 1, 74, 3, 0, 1) := rfl
theorem xi_3_74 : xm_ins 3 74 = some (.goto (-50), 77, 24, 0, 0) := rfl
theorem xi_3_77 : xm_ins 3 77 = some (.aload_n 0, 78, 0, 0, 0) := rfl
theorem xi_3_78 : xm_ins 3 78 = some (.bipush 59, 80, 0, 0, 59) := rfl
theorem xi_3_80 : xm_ins 3 80 = some (.invokevirtual 51, 83, 7, 2, 0) := rfl
theorem xi_3_83 : xm_ins 3 83 = some (.ireturn, 84, 0, 0, 0) := rfl
theorem xn_4 (pc : Nat) : xm_ins 4 pc = xm_find xt_4 pc := rfl
theorem xi_4_0 : xm_ins 4 0 = some (.iload_n 0, 1, 0, 0, 0) := rfl
theorem xi_4_1 : xm_ins 4 1 = some (.tableswitch 95 102 119 #[87, 95, 91, 95, 95, 95, 89, 95, 87, 95, 89, 95, 95, 93, 95, 91, 95, 89], 88, 0, 0, 0) := rfl
theorem xi_4_88 : xm_ins 4 88 = some (.iconst 0, 89, 0, 0, 0) := rfl
theorem xi_4_89 : xm_ins 4 89 = some (.ireturn, 90, 0, 0, 0) := rfl
theorem xi_4_90 : xm_ins 4 90 = some (.iconst 1, 91, 0, 0, 1) := rfl
theorem xi_4_91 : xm_ins 4 91 = some (.ireturn, 92, 0, 0, 0) := rfl
theorem xi_4_92 : xm_ins 4 92 = some (.iconst 2, 93, 0, 0, 2) := rfl
theorem xi_4_93 : xm_ins 4 93 = some (.ireturn, 94, 0, 0, 0) := rfl
theorem xi_4_94 : xm_ins 4 94 = some (.iconst 3, 95, 0, 0, 3) := rfl
theorem xi_4_95 : xm_ins 4 95 = some (.ireturn, 96, 0, 0, 0) := rfl
theorem xi_4_96 : xm_ins 4 96 = some (.iconst (-1), 97, 0, 0, (-1)) := rfl
theorem xi_4_97 : xm_ins 4 97 = some (.ireturn, 98, 0, 0, 0) := rfl
theorem xn_5 (pc : Nat) : xm_ins 5 pc = xm_find xt_5 pc := rfl
theorem xi_5_0 : xm_ins 5 0 = some (.aload_n 0, 1, 0, 0, 0) := rfl
theorem xi_5_1 : xm_ins 5 1 = some (.invokevirtual 32, 4, 6, 1, 0) := rfl
theorem xi_5_4 : xm_ins 5 4 = some (.invokestatic 57, 7, 8, 1, 0) := rfl
theorem xi_5_7 : xm_ins 5 7 = some (.ifCond .ne 5, 10, 12, 0, 0) := rfl
theorem xi_5_10 : xm_ins 5 10 = some (.iconst (-1), 11, 0, 0, (-1)) := rfl
theorem xi_5_11 : xm_ins 5 11 = some (.ireturn, 12, 0, 0, 0) := rfl
theorem xi_5_12 : xm_ins 5 12 = some (.aload_n 0, 13, 0, 0, 0) := rfl
theorem xi_5_13 : xm_ins 5 13 = some (.invokevirtual 32, 16, 6, 1, 0) := rfl
theorem xi_5_16 : xm_ins 5 16 = some (.bipush 48, 18, 0, 0, 48) := rfl
theorem xi_5_18 : xm_ins 5 18 = some (.isub, 19, 0, 0, 0) := rfl
theorem xi_5_19 : xm_ins 5 19 = some (.istore_n 1, 20, 1, 0, 0) := rfl
theorem xi_5_20 : xm_ins 5 20 = some (.aload_n 0, 21, 0, 0, 0) := rfl
theorem xi_5_21 : xm_ins 5 21 = some (.dup, 22, 0, 0, 0) := rfl
theorem xi_5_22 : xm_ins 5 22 = some (.getfield 22, 25, 0, 3, 0) := rfl
theorem xi_5_25 : xm_ins 5 25 = some (.iconst 1, 26, 0, 0, 1) := rfl
theorem xi_5_26 : xm_ins 5 26 = some (.iadd, 27, 0, 0, 0) := rfl
theorem xi_5_27 : xm_ins 5 27 = some (.putfield 22, 30, 0, 3, 0) := rfl
theorem xi_5_30 : xm_ins 5 30 = some (.aload_n 0, 31, 0, 0, 0) := rfl
theorem xi_5_31 : xm_ins 5 31 = some (.invokevirtual 32, 34, 6, 1, 0) := rfl
theorem xi_5_34 : xm_ins 5 34 = some (.invokestatic 57, 37, 8, 1, 0) := rfl
theorem xi_5_37 : xm_ins 5 37 = some (.ifCond .eq 26, 40, 63, 0, 0) := rfl
theorem xi_5_40 : xm_ins 5 40 = some (.bipush 10, 42, 0, 0, 10) := rfl
theorem xi_5_42 : xm_ins 5 42 = some (.iload_n 1, 43, 1, 0, 0) := rfl
theorem xi_5_43 : xm_ins 5 43 = some (.imul, 44, 0, 0, 0) := rfl
theorem xi_5_44 : xm_ins 5 44 = some (.aload_n 0, 45, 0, 0, 0) := rfl
theorem xi_5_45 : xm_ins 5 45 = some (.invokevirtual 32, 48, 6, 1, 0) := rfl
theorem xi_5_48 : xm_ins 5 48 = some (.iadd, 49, 0, 0, 0) := rfl
theorem xi_5_49 : xm_ins 5 49 = some (.bipush 48, 51, 0, 0, 48) := rfl
theorem xi_5_51 : xm_ins 5 51 = some (.isub, 52, 0, 0, 0) := rfl
theorem xi_5_52 : xm_ins 5 52 = some (.istore_n 1, 53, 1, 0, 0) := rfl
theorem xi_5_53 : xm_ins 5 53 = some (.aload_n 0, 54, 0, 0, 0) := rfl
theorem xi_5_54 : xm_ins 5 54 = some (.dup, 55, 0, 0, 0) := rfl
theorem xi_5_55 : xm_ins 5 55 = some (.getfield 22, 58, 0, 3, 0) := rfl
theorem xi_5_58 : xm_ins 5 58 = some (.iconst 1, 59, 0, 0, 1) := rfl
theorem xi_5_59 : xm_ins 5 59 = some (.iadd, 60, 0, 0, 0) := rfl
theorem xi_5_60 : xm_ins 5 60 = some (.putfield 22, 63, 0, 3, 0) := rfl
theorem xi_5_63 : xm_ins 5 63 = some (.iload_n 1, 64, 1, 0, 0) := rfl
theorem xi_5_64 : xm_ins 5 64 = some (.ireturn, 65, 0, 0, 0) := rfl
theorem xn_6 (pc : Nat) : xm_ins 6 pc = xm_find xt_6 pc := rfl
theorem xi_6_0 : xm_ins 6 0 = some (.aload_n 0, 1, 0, 0, 0) := rfl
theorem xi_6_1 : xm_ins 6 1 = some (.getfield 22, 4, 0, 3, 0) := rfl
theorem xi_6_4 : xm_ins 6 4 = some (.ifCond .lt 35, 7, 39, 0, 0) := rfl
theorem xi_6_7 : xm_ins 6 7 = some (.aload_n 0, 8, 0, 0, 0) := rfl
theorem xi_6_8 : xm_ins 6 8 = some (.getfield 22, 11, 0, 3, 0) := rfl
theorem xi_6_11 : xm_ins 6 11 = some (.aload_n 0, 12, 0, 0, 0) := rfl
theorem xi_6_12 : xm_ins 6 12 = some (.getfield 18, 15, 0, 2, 0) := rfl
theorem xi_6_15 : xm_ins 6 15 = some (.if_icmp .ge 24, 18, 39, 0, 0) := rfl
theorem xi_6_18 : xm_ins 6 18 = some (.aload_n 0, 19, 0, 0, 0) := rfl
theorem xi_6_19 : xm_ins 6 19 = some (.getfield 22, 22, 0, 3, 0) := rfl
theorem xi_6_22 : xm_ins 6 22 = some (.bipush 60, 24, 0, 0, 60) := rfl
theorem xi_6_24 : xm_ins 6 24 = some (.if_icmp .ge 15, 27, 39, 0, 0) := rfl
theorem xi_6_27 : xm_ins 6 27 = some (.aload_n 0, 28, 0, 0, 0) := rfl
theorem xi_6_28 : xm_ins 6 28 = some (.getfield 9, 31, 0, 0, 1) := rfl
theorem xi_6_31 : xm_ins 6 31 = some (.aload_n 0, 32, 0, 0, 0) := rfl
theorem xi_6_32 : xm_ins 6 32 = some (.getfield 22, 35, 0, 3, 0) := rfl
theorem xi_6_35 : xm_ins 6 35 = some (.iaload, 36, 0, 0, 0) := rfl
theorem xi_6_36 : xm_ins 6 36 = some (.goto 4, 39, 40, 0, 0) := rfl
theorem xi_6_39 : xm_ins 6 39 = some (.iconst (-1), 40, 0, 0, (-1)) := rfl
theorem xi_6_40 : xm_ins 6 40 = some (.ireturn, 41, 0, 0, 0) := rfl
theorem xn_7 (pc : Nat) : xm_ins 7 pc = xm_find xt_7 pc := rfl
theorem xi_7_0 : xm_ins 7 0 = some (.aload_n 0, 1, 0, 0, 0) := rfl
theorem xi_7_1 : xm_ins 7 1 = some (.invokevirtual 32, 4, 6, 1, 0) := rfl
theorem xi_7_4 : xm_ins 7 4 = some (.iload_n 1, 5, 1, 0, 0) := rfl
theorem xi_7_5 : xm_ins 7 5 = some (.if_icmp .eq 5, 8, 10, 0, 0) := rfl
theorem xi_7_8 : xm_ins 7 8 = some (.iconst 0, 9, 0, 0, 0) := rfl
theorem xi_7_9 : xm_ins 7 9 = some (.ireturn, 10, 0, 0, 0) := rfl
theorem xi_7_10 : xm_ins 7 10 = some (.aload_n 0, 11, 0, 0, 0) := rfl
theorem xi_7_11 : xm_ins 7 11 = some (.dup, 12, 0, 0, 0) := rfl
theorem xi_7_12 : xm_ins 7 12 = some (.getfield 22, 15, 0, 3, 0) := rfl
theorem xi_7_15 : xm_ins 7 15 = some (.iconst 1, 16, 0, 0, 1) := rfl
theorem xi_7_16 : xm_ins 7 16 = some (.iadd, 17, 0, 0, 0) := rfl
theorem xi_7_17 : xm_ins 7 17 = some (.putfield 22, 20, 0, 3, 0) := rfl
theorem xi_7_20 : xm_ins 7 20 = some (.iconst 1, 21, 0, 0, 1) := rfl
theorem xi_7_21 : xm_ins 7 21 = some (.ireturn, 22, 0, 0, 0) := rfl
theorem xn_8 (pc : Nat) : xm_ins 8 pc = xm_find xt_8 pc := rfl
theorem xi_8_0 : xm_ins 8 0 = some (.iload_n 0, 1, 0, 0, 0) := rfl
theorem xi_8_1 : xm_ins 8 1 = some (.bipush 48, 3, 0, 0, 48) := rfl
theorem xi_8_3 : xm_ins 8 3 = some (.if_icmp .lt 13, 6, 16, 0, 0) := rfl
theorem xi_8_6 : xm_ins 8 6 = some (.iload_n 0, 7, 0, 0, 0) := rfl
theorem xi_8_7 : xm_ins 8 7 = some (.bipush 57, 9, 0, 0, 57) := rfl
theorem xi_8_9 : xm_ins 8 9 = some (.if_icmp .gt 7, 12, 16, 0, 0) := rfl
theorem xi_8_12 : xm_ins 8 12 = some (.iconst 1, 13, 0, 0, 1) := rfl
theorem xi_8_13 : xm_ins 8 13 = some (.goto 4, 16, 17, 0, 0) := rfl
theorem xi_8_16 : xm_ins 8 16 = some (.iconst 0, 17, 0, 0, 0) := rfl
theorem xi_8_17 : xm_ins 8 17 = some (.ireturn, 18, 0, 0, 0) := rfl
theorem xn_9 (pc : Nat) : xm_ins 9 pc = xm_find xt_9 pc := rfl
theorem xi_9_0 : xm_ins 9 0 = some (.iload_n 2, 1, 2, 0, 0) := rfl
theorem xi_9_1 : xm_ins 9 1 = some (.tableswitch 174 104 119 #[84, 174, 174, 174, 101, 174, 79, 174, 152, 174, 174, 112, 174, 135, 174, 163], 80, 0, 0, 0) := rfl
theorem xi_9_80 : xm_ins 9 80 = some (.aload_n 1, 81, 1, 0, 0) := rfl
theorem xi_9_81 : xm_ins 9 81 = some (.invokevirtual 60, 84, 14, 1, 1) := rfl
theorem xi_9_84 : xm_ins 9 84 = some (.ireturn, 85, 0, 0, 0) := rfl
theorem xi_9_85 : xm_ins 9 85 = some (.aload_n 1, 86, 1, 0, 0) := rfl
theorem xi_9_86 : xm_ins 9 86 = some (.aload_n 0, 87, 0, 0, 0) := rfl
theorem xi_9_87 : xm_ins 9 87 = some (.getfield 15, 90, 0, 1, 1) := rfl
theorem xi_9_90 : xm_ins 9 90 = some (.iconst 0, 91, 0, 0, 0) := rfl
theorem xi_9_91 : xm_ins 9 91 = some (.iaload, 92, 0, 0, 0) := rfl
theorem xi_9_92 : xm_ins 9 92 = some (.aload_n 0, 93, 0, 0, 0) := rfl
theorem xi_9_93 : xm_ins 9 93 = some (.getfield 15, 96, 0, 1, 1) := rfl
theorem xi_9_96 : xm_ins 9 96 = some (.iconst 1, 97, 0, 0, 1) := rfl
theorem xi_9_97 : xm_ins 9 97 = some (.iaload, 98, 0, 0, 0) := rfl
theorem xi_9_98 : xm_ins 9 98 = some (.invokevirtual 65, 101, 15, 3, 1) := rfl
theorem xi_9_101 : xm_ins 9 101 = some (.ireturn, 102, 0, 0, 0) := rfl
theorem xi_9_102 : xm_ins 9 102 = some (.aload_n 1, 103, 1, 0, 0) := rfl
theorem xi_9_103 : xm_ins 9 103 = some (.aload_n 0, 104, 0, 0, 0) := rfl
theorem xi_9_104 : xm_ins 9 104 = some (.getfield 15, 107, 0, 1, 1) := rfl
theorem xi_9_107 : xm_ins 9 107 = some (.iconst 0, 108, 0, 0, 0) := rfl
theorem xi_9_108 : xm_ins 9 108 = some (.iaload, 109, 0, 0, 0) := rfl
theorem xi_9_109 : xm_ins 9 109 = some (.invokevirtual 69, 112, 16, 2, 1) := rfl
theorem xi_9_112 : xm_ins 9 112 = some (.ireturn, 113, 0, 0, 0) := rfl
theorem xi_9_113 : xm_ins 9 113 = some (.aload_n 1, 114, 1, 0, 0) := rfl
theorem xi_9_114 : xm_ins 9 114 = some (.aload_n 0, 115, 0, 0, 0) := rfl
theorem xi_9_115 : xm_ins 9 115 = some (.getfield 15, 118, 0, 1, 1) := rfl
theorem xi_9_118 : xm_ins 9 118 = some (.iconst 0, 119, 0, 0, 0) := rfl
theorem xi_9_119 : xm_ins 9 119 = some (.iaload, 120, 0, 0, 0) := rfl
theorem xi_9_120 : xm_ins 9 120 = some (.aload_n 0, 121, 0, 0, 0) := rfl
theorem xi_9_121 : xm_ins 9 121 = some (.getfield 15, 124, 0, 1, 1) := rfl
theorem xi_9_124 : xm_ins 9 124 = some (.iconst 1, 125, 0, 0, 1) := rfl
theorem xi_9_125 : xm_ins 9 125 = some (.iaload, 126, 0, 0, 0) := rfl
theorem xi_9_126 : xm_ins 9 126 = some (.aload_n 0, 127, 0, 0, 0) := rfl
theorem xi_9_127 : xm_ins 9 127 = some (.getfield 15, 130, 0, 1, 1) := rfl
theorem xi_9_130 : xm_ins 9 130 = some (.iconst 2, 131, 0, 0, 2) := rfl
theorem xi_9_131 : xm_ins 9 131 = some (.iaload, 132, 0, 0, 0) := rfl
theorem xi_9_132 : xm_ins 9 132 = some (.invokevirtual 72, 135, 17, 4, 1) := rfl
theorem xi_9_135 : xm_ins 9 135 = some (.ireturn, 136, 0, 0, 0) := rfl
theorem xi_9_136 : xm_ins 9 136 = some (.aload_n 1, 137, 1, 0, 0) := rfl
theorem xi_9_137 : xm_ins 9 137 = some (.aload_n 0, 138, 0, 0, 0) := rfl
theorem xi_9_138 : xm_ins 9 138 = some (.getfield 15, 141, 0, 1, 1) := rfl
theorem xi_9_141 : xm_ins 9 141 = some (.iconst 0, 142, 0, 0, 0) := rfl
theorem xi_9_142 : xm_ins 9 142 = some (.iaload, 143, 0, 0, 0) := rfl
theorem xi_9_143 : xm_ins 9 143 = some (.aload_n 0, 144, 0, 0, 0) := rfl
theorem xi_9_144 : xm_ins 9 144 = some (.getfield 15, 147, 0, 1, 1) := rfl
theorem xi_9_147 : xm_ins 9 147 = some (.iconst 1, 148, 0, 0, 1) := rfl
theorem xi_9_148 : xm_ins 9 148 = some (.iaload, 149, 0, 0, 0) := rfl
theorem xi_9_149 : xm_ins 9 149 = some (.invokevirtual 76, 152, 18, 3, 1) := rfl
theorem xi_9_152 : xm_ins 9 152 = some (.ireturn, 153, 0, 0, 0) := rfl
theorem xi_9_153 : xm_ins 9 153 = some (.aload_n 1, 154, 1, 0, 0) := rfl
theorem xi_9_154 : xm_ins 9 154 = some (.aload_n 0, 155, 0, 0, 0) := rfl
theorem xi_9_155 : xm_ins 9 155 = some (.getfield 15, 158, 0, 1, 1) := rfl
theorem xi_9_158 : xm_ins 9 158 = some (.iconst 0, 159, 0, 0, 0) := rfl
theorem xi_9_159 : xm_ins 9 159 = some (.iaload, 160, 0, 0, 0) := rfl
theorem xi_9_160 : xm_ins 9 160 = some (.invokevirtual 79, 163, 19, 2, 1) := rfl
theorem xi_9_163 : xm_ins 9 163 = some (.ireturn, 164, 0, 0, 0) := rfl
theorem xi_9_164 : xm_ins 9 164 = some (.aload_n 1, 165, 1, 0, 0) := rfl
theorem xi_9_165 : xm_ins 9 165 = some (.aload_n 0, 166, 0, 0, 0) := rfl
theorem xi_9_166 : xm_ins 9 166 = some (.getfield 15, 169, 0, 1, 1) := rfl
theorem xi_9_169 : xm_ins 9 169 = some (.iconst 0, 170, 0, 0, 0) := rfl
theorem xi_9_170 : xm_ins 9 170 = some (.iaload, 171, 0, 0, 0) := rfl
theorem xi_9_171 : xm_ins 9 171 = some (.invokevirtual 82, 174, 21, 2, 1) := rfl
theorem xi_9_174 : xm_ins 9 174 = some (.ireturn, 175, 0, 0, 0) := rfl
theorem xi_9_175 : xm_ins 9 175 = some (.aload_n 1, 176, 1, 0, 0) := rfl
theorem xi_9_176 : xm_ins 9 176 = some (.invokevirtual 85, 179, 22, 1, 1) := rfl
theorem xi_9_179 : xm_ins 9 179 = some (.ireturn, 180, 0, 0, 0) := rfl
theorem xn_10 (pc : Nat) : xm_ins 10 pc = xm_find xt_10 pc := rfl
theorem xi_10_0 : xm_ins 10 0 = some (.iload_n 0, 1, 0, 0, 0) := rfl
theorem xi_10_1 : xm_ins 10 1 = some (.ifCond .lt 5, 4, 6, 0, 0) := rfl
theorem xi_10_4 : xm_ins 10 4 = some (.iconst 0, 5, 0, 0, 0) := rfl
theorem xi_10_5 : xm_ins 10 5 = some (.ireturn, 6, 0, 0, 0) := rfl
theorem xi_10_6 : xm_ins 10 6 = some (.iload_n 0, 7, 0, 0, 0) := rfl
theorem xi_10_7 : xm_ins 10 7 = some (.ldc 88, 9, 0, 0, (-1000001)) := rfl
theorem xi_10_9 : xm_ins 10 9 = some (.if_icmp .ne 7, 12, 16, 0, 0) := rfl
theorem xi_10_12 : xm_ins 10 12 = some (.iconst 2, 13, 0, 0, 2) := rfl
theorem xi_10_13 : xm_ins 10 13 = some (.goto 4, 16, 17, 0, 0) := rfl
theorem xi_10_16 : xm_ins 10 16 = some (.iconst 3, 17, 0, 0, 3) := rfl
theorem xi_10_17 : xm_ins 10 17 = some (.ireturn, 18, 0, 0, 0) := rfl
theorem xn_11 (pc : Nat) : xm_ins 11 pc = xm_find xt_11 pc := rfl
theorem xi_11_0 : xm_ins 11 0 = some (.aload_n 0, 1, 0, 0, 0) := rfl
theorem xi_11_1 : xm_ins 11 1 = some (.invokespecial 3, 4, 1000, 0, 0) := rfl
theorem xi_11_4 : xm_ins 11 4 = some (.aload_n 0, 5, 0, 0, 0) := rfl
theorem xi_11_5 : xm_ins 11 5 = some (.bipush 8, 7, 0, 0, 8) := rfl
theorem xi_11_7 : xm_ins 11 7 = some (.newarray .int, 9, 0, 0, 0) := rfl
theorem xi_11_9 : xm_ins 11 9 = some (.putfield 9, 12, 1, 0, 1) := rfl
theorem xi_11_12 : xm_ins 11 12 = some (.aload_n 0, 13, 0, 0, 0) := rfl
theorem xi_11_13 : xm_ins 11 13 = some (.bipush 40, 15, 0, 0, 40) := rfl
theorem xi_11_15 : xm_ins 11 15 = some (.newarray .int, 17, 0, 0, 0) := rfl
theorem xi_11_17 : xm_ins 11 17 = some (.putfield 15, 20, 1, 1, 1) := rfl
theorem xi_11_20 : xm_ins 11 20 = some (.aload_n 0, 21, 0, 0, 0) := rfl
theorem xi_11_21 : xm_ins 11 21 = some (.bipush 30, 23, 0, 0, 30) := rfl
theorem xi_11_23 : xm_ins 11 23 = some (.newarray .int, 25, 0, 0, 0) := rfl
theorem xi_11_25 : xm_ins 11 25 = some (.putfield 18, 28, 1, 2, 1) := rfl
theorem xi_11_28 : xm_ins 11 28 = some (.aload_n 0, 29, 0, 0, 0) := rfl
theorem xi_11_29 : xm_ins 11 29 = some (.bipush 90, 31, 0, 0, 90) := rfl
theorem xi_11_31 : xm_ins 11 31 = some (.newarray .int, 33, 0, 0, 0) := rfl
theorem xi_11_33 : xm_ins 11 33 = some (.putfield 21, 36, 1, 3, 1) := rfl
theorem xi_11_36 : xm_ins 11 36 = some (.aload_n 0, 37, 0, 0, 0) := rfl
theorem xi_11_37 : xm_ins 11 37 = some (.bipush 30, 39, 0, 0, 30) := rfl
theorem xi_11_39 : xm_ins 11 39 = some (.newarray .int, 41, 0, 0, 0) := rfl
theorem xi_11_41 : xm_ins 11 41 = some (.putfield 24, 44, 1, 4, 1) := rfl
theorem xi_11_44 : xm_ins 11 44 = some (.aload_n 0, 45, 0, 0, 0) := rfl
theorem xi_11_45 : xm_ins 11 45 = some (.iconst 4, 46, 0, 0, 4) := rfl
theorem xi_11_46 : xm_ins 11 46 = some (.newarray .int, 48, 0, 0, 0) := rfl
theorem xi_11_48 : xm_ins 11 48 = some (.putfield 27, 51, 1, 5, 1) := rfl
theorem xi_11_51 : xm_ins 11 51 = some (.aload_n 0, 52, 0, 0, 0) := rfl
theorem xi_11_52 : xm_ins 11 52 = some (.iconst 0, 53, 0, 0, 0) := rfl
theorem xi_11_53 : xm_ins 11 53 = some (.putfield 30, 56, 1, 6, 0) := rfl
theorem xi_11_56 : xm_ins 11 56 = some (.aload_n 0, 57, 0, 0, 0) := rfl
theorem xi_11_57 : xm_ins 11 57 = some (.iconst 0, 58, 0, 0, 0) := rfl
theorem xi_11_58 : xm_ins 11 58 = some (.putfield 34, 61, 1, 7, 0) := rfl
theorem xi_11_61 : xm_ins 11 61 = some (.aload_n 0, 62, 0, 0, 0) := rfl
theorem xi_11_62 : xm_ins 11 62 = some (.iconst 0, 63, 0, 0, 0) := rfl
theorem xi_11_63 : xm_ins 11 63 = some (.putfield 37, 66, 1, 8, 0) := rfl
theorem xi_11_66 : xm_ins 11 66 = some (.aload_n 0, 67, 0, 0, 0) := rfl
theorem xi_11_67 : xm_ins 11 67 = some (.iconst 0, 68, 0, 0, 0) := rfl
theorem xi_11_68 : xm_ins 11 68 = some (.putfield 40, 71, 1, 9, 0) := rfl
theorem xi_11_71 : xm_ins 11 71 = some (.aload_n 0, 72, 0, 0, 0) := rfl
theorem xi_11_72 : xm_ins 11 72 = some (.iconst 0, 73, 0, 0, 0) := rfl
theorem xi_11_73 : xm_ins 11 73 = some (.putfield 43, 76, 1, 10, 0) := rfl
theorem xi_11_76 : xm_ins 11 76 = some (.aload_n 0, 77, 0, 0, 0) := rfl
theorem xi_11_77 : xm_ins 11 77 = some (.getfield 9, 80, 1, 0, 1) := rfl
theorem xi_11_80 : xm_ins 11 80 = some (.invokestatic 46, 83, 12, 1, 1) := rfl
theorem xi_11_83 : xm_ins 11 83 = some (.aload_n 0, 84, 0, 0, 0) := rfl
theorem xi_11_84 : xm_ins 11 84 = some (.getfield 15, 87, 1, 1, 1) := rfl
theorem xi_11_87 : xm_ins 11 87 = some (.invokestatic 46, 90, 12, 1, 1) := rfl
theorem xi_11_90 : xm_ins 11 90 = some (.aload_n 0, 91, 0, 0, 0) := rfl
theorem xi_11_91 : xm_ins 11 91 = some (.getfield 18, 94, 1, 2, 1) := rfl
theorem xi_11_94 : xm_ins 11 94 = some (.invokestatic 46, 97, 12, 1, 1) := rfl
theorem xi_11_97 : xm_ins 11 97 = some (.aload_n 0, 98, 0, 0, 0) := rfl
theorem xi_11_98 : xm_ins 11 98 = some (.getfield 21, 101, 1, 3, 1) := rfl
theorem xi_11_101 : xm_ins 11 101 = some (.invokestatic 46, 104, 12, 1, 1) := rfl
theorem xi_11_104 : xm_ins 11 104 = some (.aload_n 0, 105, 0, 0, 0) := rfl
theorem xi_11_105 : xm_ins 11 105 = some (.getfield 27, 108, 1, 5, 1) := rfl
theorem xi_11_108 : xm_ins 11 108 = some (.invokestatic 46, 111, 12, 1, 1) := rfl
theorem xi_11_111 : xm_ins 11 111 = some (.return_, 112, 0, 0, 0) := rfl
theorem xn_12 (pc : Nat) : xm_ins 12 pc = xm_find xt_12 pc := rfl
theorem xi_12_0 : xm_ins 12 0 = some (.iconst 0, 1, 0, 0, 0) := rfl
theorem xi_12_1 : xm_ins 12 1 = some (.istore_n 1, 2, 1, 0, 0) := rfl
theorem xi_12_2 : xm_ins 12 2 = some (.iload_n 1, 3, 1, 0, 0) := rfl
theorem xi_12_3 : xm_ins 12 3 = some (.aload_n 0, 4, 0, 0, 0) := rfl
theorem xi_12_4 : xm_ins 12 4 = some (.arraylength, 5, 0, 0, 0) := rfl
theorem xi_12_5 : xm_ins 12 5 = some (.if_icmp .ge 13, 8, 18, 0, 0) := rfl
theorem xi_12_8 : xm_ins 12 8 = some (.aload_n 0, 9, 0, 0, 0) := rfl
theorem xi_12_9 : xm_ins 12 9 = some (.iload_n 1, 10, 1, 0, 0) := rfl
theorem xi_12_10 : xm_ins 12 10 = some (.iconst (-1), 11, 0, 0, (-1)) := rfl
theorem xi_12_11 : xm_ins 12 11 = some (.iastore, 12, 0, 0, 0) := rfl
theorem xi_12_12 : xm_ins 12 12 = some (.iinc 1 1, 15, 1, 0, 1) := rfl
theorem xi_12_15 : xm_ins 12 15 = some (.goto (-13), 18, 2, 0, 0) := rfl
theorem xi_12_18 : xm_ins 12 18 = some (.return_, 19, 0, 0, 0) := rfl
theorem xn_13 (pc : Nat) : xm_ins 13 pc = xm_find xt_13 pc := rfl
theorem xi_13_0 : xm_ins 13 0 = some (.aload_n 1, 1, 1, 0, 0) := rfl
theorem xi_13_1 : xm_ins 13 1 = some (.getfield 9, 4, 1, 0, 1) := rfl
theorem xi_13_4 : xm_ins 13 4 = some (.iconst 0, 5, 0, 0, 0) := rfl
theorem xi_13_5 : xm_ins 13 5 = some (.aload_n 0, 6, 0, 0, 0) := rfl
theorem xi_13_6 : xm_ins 13 6 = some (.getfield 9, 9, 1, 0, 1) := rfl
theorem xi_13_9 : xm_ins 13 9 = some (.iconst 0, 10, 0, 0, 0) := rfl
theorem xi_13_10 : xm_ins 13 10 = some (.bipush 8, 12, 0, 0, 8) := rfl
theorem xi_13_12 : xm_ins 13 12 = some (.invokestatic 50, 15, 1001, 0, 0) := rfl
theorem xi_13_15 : xm_ins 13 15 = some (.aload_n 1, 16, 1, 0, 0) := rfl
theorem xi_13_16 : xm_ins 13 16 = some (.getfield 15, 19, 1, 1, 1) := rfl
theorem xi_13_19 : xm_ins 13 19 = some (.iconst 0, 20, 0, 0, 0) := rfl
theorem xi_13_20 : xm_ins 13 20 = some (.aload_n 0, 21, 0, 0, 0) := rfl
theorem xi_13_21 : xm_ins 13 21 = some (.getfield 15, 24, 1, 1, 1) := rfl
theorem xi_13_24 : xm_ins 13 24 = some (.iconst 0, 25, 0, 0, 0) := rfl
theorem xi_13_25 : xm_ins 13 25 = some (.bipush 40, 27, 0, 0, 40) := rfl
theorem xi_13_27 : xm_ins 13 27 = some (.invokestatic 50, 30, 1001, 0, 0) := rfl
theorem xi_13_30 : xm_ins 13 30 = some (.aload_n 1, 31, 1, 0, 0) := rfl
theorem xi_13_31 : xm_ins 13 31 = some (.getfield 18, 34, 1, 2, 1) := rfl
theorem xi_13_34 : xm_ins 13 34 = some (.iconst 0, 35, 0, 0, 0) := rfl
theorem xi_13_35 : xm_ins 13 35 = some (.aload_n 0, 36, 0, 0, 0) := rfl
theorem xi_13_36 : xm_ins 13 36 = some (.getfield 18, 39, 1, 2, 1) := rfl
theorem xi_13_39 : xm_ins 13 39 = some (.iconst 0, 40, 0, 0, 0) := rfl
theorem xi_13_40 : xm_ins 13 40 = some (.bipush 30, 42, 0, 0, 30) := rfl
theorem xi_13_42 : xm_ins 13 42 = some (.invokestatic 50, 45, 1001, 0, 0) := rfl
theorem xi_13_45 : xm_ins 13 45 = some (.aload_n 1, 46, 1, 0, 0) := rfl
theorem xi_13_46 : xm_ins 13 46 = some (.getfield 21, 49, 1, 3, 1) := rfl
theorem xi_13_49 : xm_ins 13 49 = some (.iconst 0, 50, 0, 0, 0) := rfl
theorem xi_13_50 : xm_ins 13 50 = some (.aload_n 0, 51, 0, 0, 0) := rfl
theorem xi_13_51 : xm_ins 13 51 = some (.getfield 21, 54, 1, 3, 1) := rfl
theorem xi_13_54 : xm_ins 13 54 = some (.iconst 0, 55, 0, 0, 0) := rfl
theorem xi_13_55 : xm_ins 13 55 = some (.bipush 90, 57, 0, 0, 90) := rfl
theorem xi_13_57 : xm_ins 13 57 = some (.invokestatic 50, 60, 1001, 0, 0) := rfl
theorem xi_13_60 : xm_ins 13 60 = some (.aload_n 1, 61, 1, 0, 0) := rfl
theorem xi_13_61 : xm_ins 13 61 = some (.getfield 24, 64, 1, 4, 1) := rfl
theorem xi_13_64 : xm_ins 13 64 = some (.iconst 0, 65, 0, 0, 0) := rfl
theorem xi_13_65 : xm_ins 13 65 = some (.aload_n 0, 66, 0, 0, 0) := rfl
theorem xi_13_66 : xm_ins 13 66 = some (.getfield 24, 69, 1, 4, 1) := rfl
theorem xi_13_69 : xm_ins 13 69 = some (.iconst 0, 70, 0, 0, 0) := rfl
theorem xi_13_70 : xm_ins 13 70 = some (.bipush 30, 72, 0, 0, 30) := rfl
theorem xi_13_72 : xm_ins 13 72 = some (.invokestatic 50, 75, 1001, 0, 0) := rfl
theorem xi_13_75 : xm_ins 13 75 = some (.aload_n 1, 76, 1, 0, 0) := rfl
theorem xi_13_76 : xm_ins 13 76 = some (.getfield 27, 79, 1, 5, 1) := rfl
theorem xi_13_79 : xm_ins 13 79 = some (.iconst 0, 80, 0, 0, 0) := rfl
theorem xi_13_80 : xm_ins 13 80 = some (.aload_n 0, 81, 0, 0, 0) := rfl
theorem xi_13_81 : xm_ins 13 81 = some (.getfield 27, 84, 1, 5, 1) := rfl
theorem xi_13_84 : xm_ins 13 84 = some (.iconst 0, 85, 0, 0, 0) := rfl
theorem xi_13_85 : xm_ins 13 85 = some (.iconst 4, 86, 0, 0, 4) := rfl
theorem xi_13_86 : xm_ins 13 86 = some (.invokestatic 50, 89, 1001, 0, 0) := rfl
theorem xi_13_89 : xm_ins 13 89 = some (.aload_n 0, 90, 0, 0, 0) := rfl
theorem xi_13_90 : xm_ins 13 90 = some (.aload_n 1, 91, 1, 0, 0) := rfl
theorem xi_13_91 : xm_ins 13 91 = some (.getfield 30, 94, 1, 6, 0) := rfl
theorem xi_13_94 : xm_ins 13 94 = some (.putfield 30, 97, 1, 6, 0) := rfl
theorem xi_13_97 : xm_ins 13 97 = some (.aload_n 0, 98, 0, 0, 0) := rfl
theorem xi_13_98 : xm_ins 13 98 = some (.aload_n 1, 99, 1, 0, 0) := rfl
theorem xi_13_99 : xm_ins 13 99 = some (.getfield 34, 102, 1, 7, 0) := rfl
theorem xi_13_102 : xm_ins 13 102 = some (.putfield 34, 105, 1, 7, 0) := rfl
theorem xi_13_105 : xm_ins 13 105 = some (.aload_n 0, 106, 0, 0, 0) := rfl
theorem xi_13_106 : xm_ins 13 106 = some (.aload_n 1, 107, 1, 0, 0) := rfl
theorem xi_13_107 : xm_ins 13 107 = some (.getfield 37, 110, 1, 8, 0) := rfl
theorem xi_13_110 : xm_ins 13 110 = some (.putfield 37, 113, 1, 8, 0) := rfl
theorem xi_13_113 : xm_ins 13 113 = some (.aload_n 0, 114, 0, 0, 0) := rfl
theorem xi_13_114 : xm_ins 13 114 = some (.aload_n 1, 115, 1, 0, 0) := rfl
theorem xi_13_115 : xm_ins 13 115 = some (.getfield 40, 118, 1, 9, 0) := rfl
theorem xi_13_118 : xm_ins 13 118 = some (.putfield 40, 121, 1, 9, 0) := rfl
theorem xi_13_121 : xm_ins 13 121 = some (.aload_n 0, 122, 0, 0, 0) := rfl
theorem xi_13_122 : xm_ins 13 122 = some (.aload_n 1, 123, 1, 0, 0) := rfl
theorem xi_13_123 : xm_ins 13 123 = some (.getfield 43, 126, 1, 10, 0) := rfl
theorem xi_13_126 : xm_ins 13 126 = some (.putfield 43, 129, 1, 10, 0) := rfl
theorem xi_13_129 : xm_ins 13 129 = some (.return_, 130, 0, 0, 0) := rfl
theorem xn_14 (pc : Nat) : xm_ins 14 pc = xm_find xt_14 pc := rfl
theorem xi_14_0 : xm_ins 14 0 = some (.aload_n 0, 1, 0, 0, 0) := rfl
theorem xi_14_1 : xm_ins 14 1 = some (.iconst 0, 2, 0, 0, 0) := rfl
theorem xi_14_2 : xm_ins 14 2 = some (.invokevirtual 56, 5, 29, 2, 1) := rfl
theorem xi_14_5 : xm_ins 14 5 = some (.istore_n 1, 6, 1, 0, 0) := rfl
theorem xi_14_6 : xm_ins 14 6 = some (.iload_n 1, 7, 1, 0, 0) := rfl
theorem xi_14_7 : xm_ins 14 7 = some (.iconst (-1), 8, 0, 0, (-1)) := rfl
theorem xi_14_8 : xm_ins 14 8 = some (.if_icmp .ne 6, 11, 14, 0, 0) := rfl
theorem xi_14_11 : xm_ins 14 11 = some (.ldc 60, 13, 0, 0, (-1000002)) := rfl
theorem xi_14_13 : xm_ins 14 13 = some (.ireturn, 14, 0, 0, 0) := rfl
theorem xi_14_14 : xm_ins 14 14 = some (.aload_n 0, 15, 0, 0, 0) := rfl
theorem xi_14_15 : xm_ins 14 15 = some (.getfield 34, 18, 1, 7, 0) := rfl
theorem xi_14_18 : xm_ins 14 18 = some (.bipush 30, 20, 0, 0, 30) := rfl
theorem xi_14_20 : xm_ins 14 20 = some (.if_icmp .lt 6, 23, 26, 0, 0) := rfl
theorem xi_14_23 : xm_ins 14 23 = some (.ldc 61, 25, 0, 0, (-1000003)) := rfl
theorem xi_14_25 : xm_ins 14 25 = some (.ireturn, 26, 0, 0, 0) := rfl
theorem xi_14_26 : xm_ins 14 26 = some (.aload_n 0, 27, 0, 0, 0) := rfl
theorem xi_14_27 : xm_ins 14 27 = some (.getfield 34, 30, 1, 7, 0) := rfl
theorem xi_14_30 : xm_ins 14 30 = some (.istore_n 2, 31, 2, 0, 0) := rfl
theorem xi_14_31 : xm_ins 14 31 = some (.aload_n 0, 32, 0, 0, 0) := rfl
theorem xi_14_32 : xm_ins 14 32 = some (.dup, 33, 0, 0, 0) := rfl
theorem xi_14_33 : xm_ins 14 33 = some (.getfield 34, 36, 1, 7, 0) := rfl
theorem xi_14_36 : xm_ins 14 36 = some (.iconst 1, 37, 0, 0, 1) := rfl
theorem xi_14_37 : xm_ins 14 37 = some (.iadd, 38, 0, 0, 0) := rfl
theorem xi_14_38 : xm_ins 14 38 = some (.putfield 34, 41, 1, 7, 0) := rfl
theorem xi_14_41 : xm_ins 14 41 = some (.aload_n 0, 42, 0, 0, 0) := rfl
theorem xi_14_42 : xm_ins 14 42 = some (.iload_n 2, 43, 2, 0, 0) := rfl
theorem xi_14_43 : xm_ins 14 43 = some (.iload_n 1, 44, 1, 0, 0) := rfl
theorem xi_14_44 : xm_ins 14 44 = some (.iconst 0, 45, 0, 0, 0) := rfl
theorem xi_14_45 : xm_ins 14 45 = some (.invokevirtual 62, 48, 25, 4, 1) := rfl
theorem xi_14_48 : xm_ins 14 48 = some (.iload_n 2, 49, 2, 0, 0) := rfl
theorem xi_14_49 : xm_ins 14 49 = some (.ireturn, 50, 0, 0, 0) := rfl
theorem xn_15 (pc : Nat) : xm_ins 15 pc = xm_find xt_15 pc := rfl
theorem xi_15_0 : xm_ins 15 0 = some (.iload_n 1, 1, 1, 0, 0) := rfl
theorem xi_15_1 : xm_ins 15 1 = some (.invokestatic 66, 4, 31, 1, 1) := rfl
theorem xi_15_4 : xm_ins 15 4 = some (.ifCond .eq 11, 7, 15, 0, 0) := rfl
theorem xi_15_7 : xm_ins 15 7 = some (.aload_n 0, 8, 0, 0, 0) := rfl
theorem xi_15_8 : xm_ins 15 8 = some (.iload_n 2, 9, 2, 0, 0) := rfl
theorem xi_15_9 : xm_ins 15 9 = some (.invokevirtual 70, 12, 34, 2, 1) := rfl
theorem xi_15_12 : xm_ins 15 12 = some (.ifCond .ne 6, 15, 18, 0, 0) := rfl
theorem xi_15_15 : xm_ins 15 15 = some (.ldc 73, 17, 0, 0, (-1000001)) := rfl
theorem xi_15_17 : xm_ins 15 17 = some (.ireturn, 18, 0, 0, 0) := rfl
theorem xi_15_18 : xm_ins 15 18 = some (.aload_n 0, 19, 0, 0, 0) := rfl
theorem xi_15_19 : xm_ins 15 19 = some (.getfield 27, 22, 1, 5, 1) := rfl
theorem xi_15_22 : xm_ins 15 22 = some (.iload_n 1, 23, 1, 0, 0) := rfl
theorem xi_15_23 : xm_ins 15 23 = some (.iload_n 2, 24, 2, 0, 0) := rfl
theorem xi_15_24 : xm_ins 15 24 = some (.iastore, 25, 0, 0, 0) := rfl
theorem xi_15_25 : xm_ins 15 25 = some (.aload_n 0, 26, 0, 0, 0) := rfl
theorem xi_15_26 : xm_ins 15 26 = some (.invokevirtual 74, 29, 43, 1, 1) := rfl
theorem xi_15_29 : xm_ins 15 29 = some (.ireturn, 30, 0, 0, 0) := rfl
theorem xn_16 (pc : Nat) : xm_ins 16 pc = xm_find xt_16 pc := rfl
theorem xi_16_0 : xm_ins 16 0 = some (.iload_n 1, 1, 1, 0, 0) := rfl
theorem xi_16_1 : xm_ins 16 1 = some (.invokestatic 66, 4, 31, 1, 1) := rfl
theorem xi_16_4 : xm_ins 16 4 = some (.ifCond .ne 6, 7, 10, 0, 0) := rfl
theorem xi_16_7 : xm_ins 16 7 = some (.ldc 73, 9, 0, 0, (-1000001)) := rfl
theorem xi_16_9 : xm_ins 16 9 = some (.ireturn, 10, 0, 0, 0) := rfl
theorem xi_16_10 : xm_ins 16 10 = some (.aload_n 0, 11, 0, 0, 0) := rfl
theorem xi_16_11 : xm_ins 16 11 = some (.getfield 27, 14, 1, 5, 1) := rfl
theorem xi_16_14 : xm_ins 16 14 = some (.iload_n 1, 15, 1, 0, 0) := rfl
theorem xi_16_15 : xm_ins 16 15 = some (.iaload, 16, 0, 0, 0) := rfl
theorem xi_16_16 : xm_ins 16 16 = some (.istore_n 2, 17, 2, 0, 0) := rfl
theorem xi_16_17 : xm_ins 16 17 = some (.iload_n 2, 18, 2, 0, 0) := rfl
theorem xi_16_18 : xm_ins 16 18 = some (.iconst (-1), 19, 0, 0, (-1)) := rfl
theorem xi_16_19 : xm_ins 16 19 = some (.if_icmp .ne 6, 22, 25, 0, 0) := rfl
theorem xi_16_22 : xm_ins 16 22 = some (.ldc 60, 24, 0, 0, (-1000002)) := rfl
theorem xi_16_24 : xm_ins 16 24 = some (.ireturn, 25, 0, 0, 0) := rfl
theorem xi_16_25 : xm_ins 16 25 = some (.aload_n 0, 26, 0, 0, 0) := rfl
theorem xi_16_26 : xm_ins 16 26 = some (.getfield 27, 29, 1, 5, 1) := rfl
theorem xi_16_29 : xm_ins 16 29 = some (.iload_n 1, 30, 1, 0, 0) := rfl
theorem xi_16_30 : xm_ins 16 30 = some (.iconst (-1), 31, 0, 0, (-1)) := rfl
theorem xi_16_31 : xm_ins 16 31 = some (.iastore, 32, 0, 0, 0) := rfl
theorem xi_16_32 : xm_ins 16 32 = some (.iload_n 2, 33, 2, 0, 0) := rfl
theorem xi_16_33 : xm_ins 16 33 = some (.ireturn, 34, 0, 0, 0) := rfl
theorem xn_17 (pc : Nat) : xm_ins 17 pc = xm_find xt_17 pc := rfl
theorem xi_17_0 : xm_ins 17 0 = some (.aload_n 0, 1, 0, 0, 0) := rfl
theorem xi_17_1 : xm_ins 17 1 = some (.iload_n 1, 2, 1, 0, 0) := rfl
theorem xi_17_2 : xm_ins 17 2 = some (.invokevirtual 70, 5, 34, 2, 1) := rfl
theorem xi_17_5 : xm_ins 17 5 = some (.ifCond .eq 18, 8, 23, 0, 0) := rfl
theorem xi_17_8 : xm_ins 17 8 = some (.iload_n 2, 9, 2, 0, 0) := rfl
theorem xi_17_9 : xm_ins 17 9 = some (.invokestatic 78, 12, 32, 1, 1) := rfl
theorem xi_17_12 : xm_ins 17 12 = some (.ifCond .eq 11, 15, 23, 0, 0) := rfl
theorem xi_17_15 : xm_ins 17 15 = some (.aload_n 0, 16, 0, 0, 0) := rfl
theorem xi_17_16 : xm_ins 17 16 = some (.iload_n 3, 17, 3, 0, 0) := rfl
theorem xi_17_17 : xm_ins 17 17 = some (.invokevirtual 70, 20, 34, 2, 1) := rfl
theorem xi_17_20 : xm_ins 17 20 = some (.ifCond .ne 6, 23, 26, 0, 0) := rfl
theorem xi_17_23 : xm_ins 17 23 = some (.ldc 73, 25, 0, 0, (-1000001)) := rfl
theorem xi_17_25 : xm_ins 17 25 = some (.ireturn, 26, 0, 0, 0) := rfl
theorem xi_17_26 : xm_ins 17 26 = some (.aload_n 0, 27, 0, 0, 0) := rfl
theorem xi_17_27 : xm_ins 17 27 = some (.getfield 21, 30, 1, 3, 1) := rfl
theorem xi_17_30 : xm_ins 17 30 = some (.iload_n 1, 31, 1, 0, 0) := rfl
theorem xi_17_31 : xm_ins 17 31 = some (.iconst 3, 32, 0, 0, 3) := rfl
theorem xi_17_32 : xm_ins 17 32 = some (.imul, 33, 0, 0, 0) := rfl
theorem xi_17_33 : xm_ins 17 33 = some (.iload_n 2, 34, 2, 0, 0) := rfl
theorem xi_17_34 : xm_ins 17 34 = some (.iadd, 35, 0, 0, 0) := rfl
theorem xi_17_35 : xm_ins 17 35 = some (.iload_n 3, 36, 3, 0, 0) := rfl
theorem xi_17_36 : xm_ins 17 36 = some (.iastore, 37, 0, 0, 0) := rfl
theorem xi_17_37 : xm_ins 17 37 = some (.aload_n 0, 38, 0, 0, 0) := rfl
theorem xi_17_38 : xm_ins 17 38 = some (.iload_n 1, 39, 1, 0, 0) := rfl
theorem xi_17_39 : xm_ins 17 39 = some (.iload_n 2, 40, 2, 0, 0) := rfl
theorem xi_17_40 : xm_ins 17 40 = some (.invokevirtual 81, 43, 39, 3, 1) := rfl
theorem xi_17_43 : xm_ins 17 43 = some (.ifCond .eq 7, 46, 50, 0, 0) := rfl
theorem xi_17_46 : xm_ins 17 46 = some (.iconst 1, 47, 0, 0, 1) := rfl
theorem xi_17_47 : xm_ins 17 47 = some (.goto 4, 50, 51, 0, 0) := rfl
theorem xi_17_50 : xm_ins 17 50 = some (.iconst 0, 51, 0, 0, 0) := rfl
theorem xi_17_51 : xm_ins 17 51 = some (.ireturn, 52, 0, 0, 0) := rfl
theorem xn_18 (pc : Nat) : xm_ins 18 pc = xm_find xt_18 pc := rfl
theorem xi_18_0 : xm_ins 18 0 = some (.aload_n 0, 1, 0, 0, 0) := rfl
theorem xi_18_1 : xm_ins 18 1 = some (.iload_n 1, 2, 1, 0, 0) := rfl
theorem xi_18_2 : xm_ins 18 2 = some (.invokevirtual 70, 5, 34, 2, 1) := rfl
theorem xi_18_5 : xm_ins 18 5 = some (.ifCond .eq 10, 8, 15, 0, 0) := rfl
theorem xi_18_8 : xm_ins 18 8 = some (.iload_n 2, 9, 2, 0, 0) := rfl
theorem xi_18_9 : xm_ins 18 9 = some (.invokestatic 78, 12, 32, 1, 1) := rfl
theorem xi_18_12 : xm_ins 18 12 = some (.ifCond .ne 6, 15, 18, 0, 0) := rfl
theorem xi_18_15 : xm_ins 18 15 = some (.ldc 73, 17, 0, 0, (-1000001)) := rfl
theorem xi_18_17 : xm_ins 18 17 = some (.ireturn, 18, 0, 0, 0) := rfl
theorem xi_18_18 : xm_ins 18 18 = some (.aload_n 0, 19, 0, 0, 0) := rfl
theorem xi_18_19 : xm_ins 18 19 = some (.iload_n 1, 20, 1, 0, 0) := rfl
theorem xi_18_20 : xm_ins 18 20 = some (.iload_n 2, 21, 2, 0, 0) := rfl
theorem xi_18_21 : xm_ins 18 21 = some (.invokevirtual 85, 24, 38, 3, 1) := rfl
theorem xi_18_24 : xm_ins 18 24 = some (.istore_n 3, 25, 3, 0, 0) := rfl
theorem xi_18_25 : xm_ins 18 25 = some (.iload_n 3, 26, 3, 0, 0) := rfl
theorem xi_18_26 : xm_ins 18 26 = some (.iconst (-1), 27, 0, 0, (-1)) := rfl
theorem xi_18_27 : xm_ins 18 27 = some (.if_icmp .ne 6, 30, 33, 0, 0) := rfl
theorem xi_18_30 : xm_ins 18 30 = some (.ldc 60, 32, 0, 0, (-1000002)) := rfl
theorem xi_18_32 : xm_ins 18 32 = some (.ireturn, 33, 0, 0, 0) := rfl
theorem xi_18_33 : xm_ins 18 33 = some (.aload_n 0, 34, 0, 0, 0) := rfl
theorem xi_18_34 : xm_ins 18 34 = some (.getfield 21, 37, 1, 3, 1) := rfl
theorem xi_18_37 : xm_ins 18 37 = some (.iload_n 1, 38, 1, 0, 0) := rfl
theorem xi_18_38 : xm_ins 18 38 = some (.iconst 3, 39, 0, 0, 3) := rfl
theorem xi_18_39 : xm_ins 18 39 = some (.imul, 40, 0, 0, 0) := rfl
theorem xi_18_40 : xm_ins 18 40 = some (.iload_n 2, 41, 2, 0, 0) := rfl
theorem xi_18_41 : xm_ins 18 41 = some (.iadd, 42, 0, 0, 0) := rfl
theorem xi_18_42 : xm_ins 18 42 = some (.iconst (-1), 43, 0, 0, (-1)) := rfl
theorem xi_18_43 : xm_ins 18 43 = some (.iastore, 44, 0, 0, 0) := rfl
theorem xi_18_44 : xm_ins 18 44 = some (.iload_n 3, 45, 3, 0, 0) := rfl
theorem xi_18_45 : xm_ins 18 45 = some (.ireturn, 46, 0, 0, 0) := rfl
theorem xn_19 (pc : Nat) : xm_ins 19 pc = xm_find xt_19 pc := rfl
theorem xi_19_0 : xm_ins 19 0 = some (.aload_n 0, 1, 0, 0, 0) := rfl
theorem xi_19_1 : xm_ins 19 1 = some (.iload_n 1, 2, 1, 0, 0) := rfl
theorem xi_19_2 : xm_ins 19 2 = some (.invokevirtual 70, 5, 34, 2, 1) := rfl
theorem xi_19_5 : xm_ins 19 5 = some (.ifCond .ne 6, 8, 11, 0, 0) := rfl
theorem xi_19_8 : xm_ins 19 8 = some (.ldc 73, 10, 0, 0, (-1000001)) := rfl
theorem xi_19_10 : xm_ins 19 10 = some (.ireturn, 11, 0, 0, 0) := rfl
theorem xi_19_11 : xm_ins 19 11 = some (.aload_n 0, 12, 0, 0, 0) := rfl
theorem xi_19_12 : xm_ins 19 12 = some (.getfield 30, 15, 1, 6, 0) := rfl
theorem xi_19_15 : xm_ins 19 15 = some (.iload_n 1, 16, 1, 0, 0) := rfl
theorem xi_19_16 : xm_ins 19 16 = some (.invokestatic 89, 19, 83, 2, 2) := rfl
theorem xi_19_19 : xm_ins 19 19 = some (.ifCond .eq 6, 22, 25, 0, 0) := rfl
theorem xi_19_22 : xm_ins 19 22 = some (.ldc 60, 24, 0, 0, (-1000002)) := rfl
theorem xi_19_24 : xm_ins 19 24 = some (.ireturn, 25, 0, 0, 0) := rfl
theorem xi_19_25 : xm_ins 19 25 = some (.aload_n 0, 26, 0, 0, 0) := rfl
theorem xi_19_26 : xm_ins 19 26 = some (.dup, 27, 0, 0, 0) := rfl
theorem xi_19_27 : xm_ins 19 27 = some (.getfield 30, 30, 1, 6, 0) := rfl
theorem xi_19_30 : xm_ins 19 30 = some (.iconst 1, 31, 0, 0, 1) := rfl
theorem xi_19_31 : xm_ins 19 31 = some (.iload_n 1, 32, 1, 0, 0) := rfl
theorem xi_19_32 : xm_ins 19 32 = some (.ishl, 33, 0, 0, 0) := rfl
theorem xi_19_33 : xm_ins 19 33 = some (.ior, 34, 0, 0, 0) := rfl
theorem xi_19_34 : xm_ins 19 34 = some (.putfield 30, 37, 1, 6, 0) := rfl
theorem xi_19_37 : xm_ins 19 37 = some (.aload_n 0, 38, 0, 0, 0) := rfl
theorem xi_19_38 : xm_ins 19 38 = some (.getfield 30, 41, 1, 6, 0) := rfl
theorem xi_19_41 : xm_ins 19 41 = some (.invokestatic 92, 44, 166, 1, 0) := rfl
theorem xi_19_44 : xm_ins 19 44 = some (.ireturn, 45, 0, 0, 0) := rfl
theorem xn_20 (pc : Nat) : xm_ins 20 pc = xm_find xt_20 pc := rfl
theorem xi_20_0 : xm_ins 20 0 = some (.aload_n 0, 1, 0, 0, 0) := rfl
theorem xi_20_1 : xm_ins 20 1 = some (.iload_n 1, 2, 1, 0, 0) := rfl
theorem xi_20_2 : xm_ins 20 2 = some (.invokevirtual 70, 5, 34, 2, 1) := rfl
theorem xi_20_5 : xm_ins 20 5 = some (.ifCond .ne 6, 8, 11, 0, 0) := rfl
theorem xi_20_8 : xm_ins 20 8 = some (.ldc 73, 10, 0, 0, (-1000001)) := rfl
theorem xi_20_10 : xm_ins 20 10 = some (.ireturn, 11, 0, 0, 0) := rfl
theorem xi_20_11 : xm_ins 20 11 = some (.aload_n 0, 12, 0, 0, 0) := rfl
theorem xi_20_12 : xm_ins 20 12 = some (.getfield 30, 15, 1, 6, 0) := rfl
theorem xi_20_15 : xm_ins 20 15 = some (.iload_n 1, 16, 1, 0, 0) := rfl
theorem xi_20_16 : xm_ins 20 16 = some (.invokestatic 89, 19, 83, 2, 2) := rfl
theorem xi_20_19 : xm_ins 20 19 = some (.ifCond .ne 6, 22, 25, 0, 0) := rfl
theorem xi_20_22 : xm_ins 20 22 = some (.ldc 60, 24, 0, 0, (-1000002)) := rfl
theorem xi_20_24 : xm_ins 20 24 = some (.ireturn, 25, 0, 0, 0) := rfl
theorem xi_20_25 : xm_ins 20 25 = some (.aload_n 0, 26, 0, 0, 0) := rfl
theorem xi_20_26 : xm_ins 20 26 = some (.dup, 27, 0, 0, 0) := rfl
theorem xi_20_27 : xm_ins 20 27 = some (.getfield 30, 30, 1, 6, 0) := rfl
theorem xi_20_30 : xm_ins 20 30 = some (.iconst 1, 31, 0, 0, 1) := rfl
theorem xi_20_31 : xm_ins 20 31 = some (.iload_n 1, 32, 1, 0, 0) := rfl
theorem xi_20_32 : xm_ins 20 32 = some (.ishl, 33, 0, 0, 0) := rfl
theorem xi_20_33 : xm_ins 20 33 = some (.iconst (-1), 34, 0, 0, (-1)) := rfl
theorem xi_20_34 : xm_ins 20 34 = some (.ixor, 35, 0, 0, 0) := rfl
theorem xi_20_35 : xm_ins 20 35 = some (.iand, 36, 0, 0, 0) := rfl
theorem xi_20_36 : xm_ins 20 36 = some (.putfield 30, 39, 1, 6, 0) := rfl
theorem xi_20_39 : xm_ins 20 39 = some (.aload_n 0, 40, 0, 0, 0) := rfl
theorem xi_20_40 : xm_ins 20 40 = some (.getfield 30, 43, 1, 6, 0) := rfl
theorem xi_20_43 : xm_ins 20 43 = some (.invokestatic 92, 46, 166, 1, 0) := rfl
theorem xi_20_46 : xm_ins 20 46 = some (.ireturn, 47, 0, 0, 0) := rfl
theorem xn_21 (pc : Nat) : xm_ins 21 pc = xm_find xt_21 pc := rfl
theorem xi_21_0 : xm_ins 21 0 = some (.iload_n 1, 1, 1, 0, 0) := rfl
theorem xi_21_1 : xm_ins 21 1 = some (.ifCond .lt 8, 4, 9, 0, 0) := rfl
theorem xi_21_4 : xm_ins 21 4 = some (.iload_n 1, 5, 1, 0, 0) := rfl
theorem xi_21_5 : xm_ins 21 5 = some (.iconst 2, 6, 0, 0, 2) := rfl
theorem xi_21_6 : xm_ins 21 6 = some (.if_icmp .lt 6, 9, 12, 0, 0) := rfl
theorem xi_21_9 : xm_ins 21 9 = some (.ldc 73, 11, 0, 0, (-1000001)) := rfl
theorem xi_21_11 : xm_ins 21 11 = some (.ireturn, 12, 0, 0, 0) := rfl
theorem xi_21_12 : xm_ins 21 12 = some (.aload_n 0, 13, 0, 0, 0) := rfl
theorem xi_21_13 : xm_ins 21 13 = some (.iload_n 1, 14, 1, 0, 0) := rfl
theorem xi_21_14 : xm_ins 21 14 = some (.invokevirtual 97, 17, 52, 2, 1) := rfl
theorem xi_21_17 : xm_ins 21 17 = some (.istore_n 2, 18, 2, 0, 0) := rfl
theorem xi_21_18 : xm_ins 21 18 = some (.aload_n 0, 19, 0, 0, 0) := rfl
theorem xi_21_19 : xm_ins 21 19 = some (.iload_n 1, 20, 1, 0, 0) := rfl
theorem xi_21_20 : xm_ins 21 20 = some (.invokevirtual 100, 23, 48, 2, 1) := rfl
theorem xi_21_23 : xm_ins 21 23 = some (.iload_n 2, 24, 2, 0, 0) := rfl
theorem xi_21_24 : xm_ins 21 24 = some (.iconst (-1), 25, 0, 0, (-1)) := rfl
theorem xi_21_25 : xm_ins 21 25 = some (.ixor, 26, 0, 0, 0) := rfl
theorem xi_21_26 : xm_ins 21 26 = some (.iand, 27, 0, 0, 0) := rfl
theorem xi_21_27 : xm_ins 21 27 = some (.istore_n 3, 28, 3, 0, 0) := rfl
theorem xi_21_28 : xm_ins 21 28 = some (.aload_n 0, 29, 0, 0, 0) := rfl
theorem xi_21_29 : xm_ins 21 29 = some (.iconst 0, 30, 0, 0, 0) := rfl
theorem xi_21_30 : xm_ins 21 30 = some (.invokevirtual 103, 33, 46, 2, 1) := rfl
theorem xi_21_33 : xm_ins 21 33 = some (.istore 4, 35, 4, 0, 0) := rfl
theorem xi_21_35 : xm_ins 21 35 = some (.aload_n 0, 36, 0, 0, 0) := rfl
theorem xi_21_36 : xm_ins 21 36 = some (.iload_n 2, 37, 2, 0, 0) := rfl
theorem xi_21_37 : xm_ins 21 37 = some (.aload_n 0, 38, 0, 0, 0) := rfl
theorem xi_21_38 : xm_ins 21 38 = some (.getfield 30, 41, 1, 6, 0) := rfl
theorem xi_21_41 : xm_ins 21 41 = some (.iand, 42, 0, 0, 0) := rfl
theorem xi_21_42 : xm_ins 21 42 = some (.invokevirtual 106, 45, 23, 2, 1) := rfl
theorem xi_21_45 : xm_ins 21 45 = some (.iconst 0, 46, 0, 0, 0) := rfl
theorem xi_21_46 : xm_ins 21 46 = some (.istore 5, 48, 5, 0, 0) := rfl
theorem xi_21_48 : xm_ins 21 48 = some (.iload 5, 50, 5, 0, 0) := rfl
theorem xi_21_50 : xm_ins 21 50 = some (.bipush 30, 52, 0, 0, 30) := rfl
theorem xi_21_52 : xm_ins 21 52 = some (.if_icmp .ge 52, 55, 104, 0, 0) := rfl
theorem xi_21_55 : xm_ins 21 55 = some (.iload_n 2, 56, 2, 0, 0) := rfl
theorem xi_21_56 : xm_ins 21 56 = some (.aload_n 0, 57, 0, 0, 0) := rfl
theorem xi_21_57 : xm_ins 21 57 = some (.getfield 30, 60, 1, 6, 0) := rfl
theorem xi_21_60 : xm_ins 21 60 = some (.iconst (-1), 61, 0, 0, (-1)) := rfl
theorem xi_21_61 : xm_ins 21 61 = some (.ixor, 62, 0, 0, 0) := rfl
theorem xi_21_62 : xm_ins 21 62 = some (.iand, 63, 0, 0, 0) := rfl
theorem xi_21_63 : xm_ins 21 63 = some (.iload 5, 65, 5, 0, 0) := rfl
theorem xi_21_65 : xm_ins 21 65 = some (.invokestatic 89, 68, 83, 2, 2) := rfl
theorem xi_21_68 : xm_ins 21 68 = some (.ifCond .eq 30, 71, 98, 0, 0) := rfl
theorem xi_21_71 : xm_ins 21 71 = some (.aload_n 0, 72, 0, 0, 0) := rfl
theorem xi_21_72 : xm_ins 21 72 = some (.iload 5, 74, 5, 0, 0) := rfl
theorem xi_21_74 : xm_ins 21 74 = some (.iload 4, 76, 4, 0, 0) := rfl
theorem xi_21_76 : xm_ins 21 76 = some (.iload 5, 78, 5, 0, 0) := rfl
theorem xi_21_78 : xm_ins 21 78 = some (.invokestatic 89, 81, 83, 2, 2) := rfl
theorem xi_21_81 : xm_ins 21 81 = some (.ifCond .eq 7, 84, 88, 0, 0) := rfl
theorem xi_21_84 : xm_ins 21 84 = some (.iconst 1, 85, 0, 0, 1) := rfl
theorem xi_21_85 : xm_ins 21 85 = some (.goto 4, 88, 89, 0, 0) := rfl
theorem xi_21_88 : xm_ins 21 88 = some (.iconst 2, 89, 0, 0, 2) := rfl
theorem xi_21_89 : xm_ins 21 89 = some (.invokevirtual 110, 92, 24, 3, 1) := rfl
theorem xi_21_92 : xm_ins 21 92 = some (.ifCond .ne 6, 95, 98, 0, 0) := rfl
theorem xi_21_95 : xm_ins 21 95 = some (.ldc 60, 97, 0, 0, (-1000002)) := rfl
theorem xi_21_97 : xm_ins 21 97 = some (.ireturn, 98, 0, 0, 0) := rfl
theorem xi_21_98 : xm_ins 21 98 = some (.iinc 5 1, 101, 5, 0, 1) := rfl
theorem xi_21_101 : xm_ins 21 101 = some (.goto (-53), 104, 48, 0, 0) := rfl
theorem xi_21_104 : xm_ins 21 104 = some (.aload_n 0, 105, 0, 0, 0) := rfl
theorem xi_21_105 : xm_ins 21 105 = some (.iload_n 3, 106, 3, 0, 0) := rfl
theorem xi_21_106 : xm_ins 21 106 = some (.invokevirtual 113, 109, 27, 2, 1) := rfl
theorem xi_21_109 : xm_ins 21 109 = some (.aload_n 0, 110, 0, 0, 0) := rfl
theorem xi_21_110 : xm_ins 21 110 = some (.dup, 111, 0, 0, 0) := rfl
theorem xi_21_111 : xm_ins 21 111 = some (.getfield 37, 114, 1, 8, 0) := rfl
theorem xi_21_114 : xm_ins 21 114 = some (.iconst 1, 115, 0, 0, 1) := rfl
theorem xi_21_115 : xm_ins 21 115 = some (.iadd, 116, 0, 0, 0) := rfl
theorem xi_21_116 : xm_ins 21 116 = some (.putfield 37, 119, 1, 8, 0) := rfl
theorem xi_21_119 : xm_ins 21 119 = some (.iload_n 3, 120, 3, 0, 0) := rfl
theorem xi_21_120 : xm_ins 21 120 = some (.invokestatic 92, 123, 166, 1, 0) := rfl
theorem xi_21_123 : xm_ins 21 123 = some (.ireturn, 124, 0, 0, 0) := rfl
theorem xn_22 (pc : Nat) : xm_ins 22 pc = xm_find xt_22 pc := rfl
theorem xi_22_0 : xm_ins 22 0 = some (.aload_n 0, 1, 0, 0, 0) := rfl
theorem xi_22_1 : xm_ins 22 1 = some (.invokevirtual 116, 4, 47, 1, 1) := rfl
theorem xi_22_4 : xm_ins 22 4 = some (.aload_n 0, 5, 0, 0, 0) := rfl
theorem xi_22_5 : xm_ins 22 5 = some (.invokevirtual 119, 8, 51, 1, 1) := rfl
theorem xi_22_8 : xm_ins 22 8 = some (.iconst (-1), 9, 0, 0, (-1)) := rfl
theorem xi_22_9 : xm_ins 22 9 = some (.ixor, 10, 0, 0, 0) := rfl
theorem xi_22_10 : xm_ins 22 10 = some (.iand, 11, 0, 0, 0) := rfl
theorem xi_22_11 : xm_ins 22 11 = some (.istore_n 1, 12, 1, 0, 0) := rfl
theorem xi_22_12 : xm_ins 22 12 = some (.aload_n 0, 13, 0, 0, 0) := rfl
theorem xi_22_13 : xm_ins 22 13 = some (.iload_n 1, 14, 1, 0, 0) := rfl
theorem xi_22_14 : xm_ins 22 14 = some (.invokevirtual 113, 17, 27, 2, 1) := rfl
theorem xi_22_17 : xm_ins 22 17 = some (.aload_n 0, 18, 0, 0, 0) := rfl
theorem xi_22_18 : xm_ins 22 18 = some (.dup, 19, 0, 0, 0) := rfl
theorem xi_22_19 : xm_ins 22 19 = some (.getfield 40, 22, 1, 9, 0) := rfl
theorem xi_22_22 : xm_ins 22 22 = some (.iconst 1, 23, 0, 0, 1) := rfl
theorem xi_22_23 : xm_ins 22 23 = some (.iadd, 24, 0, 0, 0) := rfl
theorem xi_22_24 : xm_ins 22 24 = some (.putfield 40, 27, 1, 9, 0) := rfl
theorem xi_22_27 : xm_ins 22 27 = some (.iload_n 1, 28, 1, 0, 0) := rfl
theorem xi_22_28 : xm_ins 22 28 = some (.invokestatic 92, 31, 166, 1, 0) := rfl
theorem xi_22_31 : xm_ins 22 31 = some (.ireturn, 32, 0, 0, 0) := rfl
theorem xn_23 (pc : Nat) : xm_ins 23 pc = xm_find xt_23 pc := rfl
theorem xi_23_0 : xm_ins 23 0 = some (.iconst 0, 1, 0, 0, 0) := rfl
theorem xi_23_1 : xm_ins 23 1 = some (.istore_n 2, 2, 2, 0, 0) := rfl
theorem xi_23_2 : xm_ins 23 2 = some (.iload_n 2, 3, 2, 0, 0) := rfl
theorem xi_23_3 : xm_ins 23 3 = some (.bipush 8, 5, 0, 0, 8) := rfl
theorem xi_23_5 : xm_ins 23 5 = some (.if_icmp .ge 29, 8, 34, 0, 0) := rfl
theorem xi_23_8 : xm_ins 23 8 = some (.aload_n 0, 9, 0, 0, 0) := rfl
theorem xi_23_9 : xm_ins 23 9 = some (.iload_n 2, 10, 2, 0, 0) := rfl
theorem xi_23_10 : xm_ins 23 10 = some (.invokevirtual 122, 13, 42, 2, 1) := rfl
theorem xi_23_13 : xm_ins 23 13 = some (.iload_n 1, 14, 1, 0, 0) := rfl
theorem xi_23_14 : xm_ins 23 14 = some (.iand, 15, 0, 0, 0) := rfl
theorem xi_23_15 : xm_ins 23 15 = some (.ifCond .eq 13, 18, 28, 0, 0) := rfl
theorem xi_23_18 : xm_ins 23 18 = some (.aload_n 0, 19, 0, 0, 0) := rfl
theorem xi_23_19 : xm_ins 23 19 = some (.getfield 9, 22, 1, 0, 1) := rfl
theorem xi_23_22 : xm_ins 23 22 = some (.iload_n 2, 23, 2, 0, 0) := rfl
theorem xi_23_23 : xm_ins 23 23 = some (.dup2, 24, 0, 0, 0) := rfl
theorem xi_23_24 : xm_ins 23 24 = some (.iaload, 25, 0, 0, 0) := rfl
theorem xi_23_25 : xm_ins 23 25 = some (.iconst 1, 26, 0, 0, 1) := rfl
theorem xi_23_26 : xm_ins 23 26 = some (.iadd, 27, 0, 0, 0) := rfl
theorem xi_23_27 : xm_ins 23 27 = some (.iastore, 28, 0, 0, 0) := rfl
theorem xi_23_28 : xm_ins 23 28 = some (.iinc 2 1, 31, 2, 0, 1) := rfl
theorem xi_23_31 : xm_ins 23 31 = some (.goto (-29), 34, 2, 0, 0) := rfl
theorem xi_23_34 : xm_ins 23 34 = some (.return_, 35, 0, 0, 0) := rfl
theorem xn_24 (pc : Nat) : xm_ins 24 pc = xm_find xt_24 pc := rfl
theorem xi_24_0 : xm_ins 24 0 = some (.aload_n 0, 1, 0, 0, 0) := rfl
theorem xi_24_1 : xm_ins 24 1 = some (.iload_n 2, 2, 2, 0, 0) := rfl
theorem xi_24_2 : xm_ins 24 2 = some (.invokevirtual 56, 5, 29, 2, 1) := rfl
theorem xi_24_5 : xm_ins 24 5 = some (.istore_n 3, 6, 3, 0, 0) := rfl
theorem xi_24_6 : xm_ins 24 6 = some (.iload_n 3, 7, 3, 0, 0) := rfl
theorem xi_24_7 : xm_ins 24 7 = some (.iconst (-1), 8, 0, 0, (-1)) := rfl
theorem xi_24_8 : xm_ins 24 8 = some (.if_icmp .ne 5, 11, 13, 0, 0) := rfl
theorem xi_24_11 : xm_ins 24 11 = some (.iconst 0, 12, 0, 0, 0) := rfl
theorem xi_24_12 : xm_ins 24 12 = some (.ireturn, 13, 0, 0, 0) := rfl
theorem xi_24_13 : xm_ins 24 13 = some (.aload_n 0, 14, 0, 0, 0) := rfl
theorem xi_24_14 : xm_ins 24 14 = some (.iload_n 1, 15, 1, 0, 0) := rfl
theorem xi_24_15 : xm_ins 24 15 = some (.invokevirtual 125, 18, 26, 2, 1) := rfl
theorem xi_24_18 : xm_ins 24 18 = some (.aload_n 0, 19, 0, 0, 0) := rfl
theorem xi_24_19 : xm_ins 24 19 = some (.iload_n 1, 20, 1, 0, 0) := rfl
theorem xi_24_20 : xm_ins 24 20 = some (.iload_n 3, 21, 3, 0, 0) := rfl
theorem xi_24_21 : xm_ins 24 21 = some (.iload_n 2, 22, 2, 0, 0) := rfl
theorem xi_24_22 : xm_ins 24 22 = some (.invokevirtual 62, 25, 25, 4, 1) := rfl
theorem xi_24_25 : xm_ins 24 25 = some (.aload_n 0, 26, 0, 0, 0) := rfl
theorem xi_24_26 : xm_ins 24 26 = some (.getfield 24, 29, 1, 4, 1) := rfl
theorem xi_24_29 : xm_ins 24 29 = some (.iload_n 1, 30, 1, 0, 0) := rfl
theorem xi_24_30 : xm_ins 24 30 = some (.dup2, 31, 0, 0, 0) := rfl
theorem xi_24_31 : xm_ins 24 31 = some (.iaload, 32, 0, 0, 0) := rfl
theorem xi_24_32 : xm_ins 24 32 = some (.iconst 1, 33, 0, 0, 1) := rfl
theorem xi_24_33 : xm_ins 24 33 = some (.iadd, 34, 0, 0, 0) := rfl
theorem xi_24_34 : xm_ins 24 34 = some (.iastore, 35, 0, 0, 0) := rfl
theorem xi_24_35 : xm_ins 24 35 = some (.aload_n 0, 36, 0, 0, 0) := rfl
theorem xi_24_36 : xm_ins 24 36 = some (.dup, 37, 0, 0, 0) := rfl
theorem xi_24_37 : xm_ins 24 37 = some (.getfield 43, 40, 1, 10, 0) := rfl
theorem xi_24_40 : xm_ins 24 40 = some (.iconst 1, 41, 0, 0, 1) := rfl
theorem xi_24_41 : xm_ins 24 41 = some (.iadd, 42, 0, 0, 0) := rfl
theorem xi_24_42 : xm_ins 24 42 = some (.putfield 43, 45, 1, 10, 0) := rfl
theorem xi_24_45 : xm_ins 24 45 = some (.iconst 1, 46, 0, 0, 1) := rfl
theorem xi_24_46 : xm_ins 24 46 = some (.ireturn, 47, 0, 0, 0) := rfl
theorem xn_25 (pc : Nat) : xm_ins 25 pc = xm_find xt_25 pc := rfl
theorem xi_25_0 : xm_ins 25 0 = some (.aload_n 0, 1, 0, 0, 0) := rfl
theorem xi_25_1 : xm_ins 25 1 = some (.getfield 9, 4, 1, 0, 1) := rfl
theorem xi_25_4 : xm_ins 25 4 = some (.iload_n 2, 5, 2, 0, 0) := rfl
theorem xi_25_5 : xm_ins 25 5 = some (.iconst 5, 6, 0, 0, 5) := rfl
theorem xi_25_6 : xm_ins 25 6 = some (.idiv, 7, 0, 0, 0) := rfl
theorem xi_25_7 : xm_ins 25 7 = some (.iload_n 3, 8, 3, 0, 0) := rfl
theorem xi_25_8 : xm_ins 25 8 = some (.iastore, 9, 0, 0, 0) := rfl
theorem xi_25_9 : xm_ins 25 9 = some (.aload_n 0, 10, 0, 0, 0) := rfl
theorem xi_25_10 : xm_ins 25 10 = some (.getfield 15, 13, 1, 1, 1) := rfl
theorem xi_25_13 : xm_ins 25 13 = some (.iload_n 2, 14, 2, 0, 0) := rfl
theorem xi_25_14 : xm_ins 25 14 = some (.iload_n 1, 15, 1, 0, 0) := rfl
theorem xi_25_15 : xm_ins 25 15 = some (.iastore, 16, 0, 0, 0) := rfl
theorem xi_25_16 : xm_ins 25 16 = some (.aload_n 0, 17, 0, 0, 0) := rfl
theorem xi_25_17 : xm_ins 25 17 = some (.getfield 18, 20, 1, 2, 1) := rfl
theorem xi_25_20 : xm_ins 25 20 = some (.iload_n 1, 21, 1, 0, 0) := rfl
theorem xi_25_21 : xm_ins 25 21 = some (.iload_n 2, 22, 2, 0, 0) := rfl
theorem xi_25_22 : xm_ins 25 22 = some (.iastore, 23, 0, 0, 0) := rfl
theorem xi_25_23 : xm_ins 25 23 = some (.return_, 24, 0, 0, 0) := rfl
theorem xn_26 (pc : Nat) : xm_ins 26 pc = xm_find xt_26 pc := rfl
theorem xi_26_0 : xm_ins 26 0 = some (.aload_n 0, 1, 0, 0, 0) := rfl
theorem xi_26_1 : xm_ins 26 1 = some (.getfield 18, 4, 1, 2, 1) := rfl
theorem xi_26_4 : xm_ins 26 4 = some (.iload_n 1, 5, 1, 0, 0) := rfl
theorem xi_26_5 : xm_ins 26 5 = some (.iaload, 6, 0, 0, 0) := rfl
theorem xi_26_6 : xm_ins 26 6 = some (.istore_n 2, 7, 2, 0, 0) := rfl
theorem xi_26_7 : xm_ins 26 7 = some (.iload_n 2, 8, 2, 0, 0) := rfl
theorem xi_26_8 : xm_ins 26 8 = some (.iconst (-1), 9, 0, 0, (-1)) := rfl
theorem xi_26_9 : xm_ins 26 9 = some (.if_icmp .eq 17, 12, 26, 0, 0) := rfl
theorem xi_26_12 : xm_ins 26 12 = some (.aload_n 0, 13, 0, 0, 0) := rfl
theorem xi_26_13 : xm_ins 26 13 = some (.getfield 15, 16, 1, 1, 1) := rfl
theorem xi_26_16 : xm_ins 26 16 = some (.iload_n 2, 17, 2, 0, 0) := rfl
theorem xi_26_17 : xm_ins 26 17 = some (.iconst (-1), 18, 0, 0, (-1)) := rfl
theorem xi_26_18 : xm_ins 26 18 = some (.iastore, 19, 0, 0, 0) := rfl
theorem xi_26_19 : xm_ins 26 19 = some (.aload_n 0, 20, 0, 0, 0) := rfl
theorem xi_26_20 : xm_ins 26 20 = some (.getfield 18, 23, 1, 2, 1) := rfl
theorem xi_26_23 : xm_ins 26 23 = some (.iload_n 1, 24, 1, 0, 0) := rfl
theorem xi_26_24 : xm_ins 26 24 = some (.iconst (-1), 25, 0, 0, (-1)) := rfl
theorem xi_26_25 : xm_ins 26 25 = some (.iastore, 26, 0, 0, 0) := rfl
theorem xi_26_26 : xm_ins 26 26 = some (.return_, 27, 0, 0, 0) := rfl
theorem xn_27 (pc : Nat) : xm_ins 27 pc = xm_find xt_27 pc := rfl
theorem xi_27_0 : xm_ins 27 0 = some (.iconst 0, 1, 0, 0, 0) := rfl
theorem xi_27_1 : xm_ins 27 1 = some (.istore_n 2, 2, 2, 0, 0) := rfl
theorem xi_27_2 : xm_ins 27 2 = some (.iload_n 2, 3, 2, 0, 0) := rfl
theorem xi_27_3 : xm_ins 27 3 = some (.bipush 30, 5, 0, 0, 30) := rfl
theorem xi_27_5 : xm_ins 27 5 = some (.if_icmp .ge 46, 8, 51, 0, 0) := rfl
theorem xi_27_8 : xm_ins 27 8 = some (.iload_n 1, 9, 1, 0, 0) := rfl
theorem xi_27_9 : xm_ins 27 9 = some (.iload_n 2, 10, 2, 0, 0) := rfl
theorem xi_27_10 : xm_ins 27 10 = some (.invokestatic 89, 13, 83, 2, 2) := rfl
theorem xi_27_13 : xm_ins 27 13 = some (.ifCond .eq 32, 16, 45, 0, 0) := rfl
theorem xi_27_16 : xm_ins 27 16 = some (.aload_n 0, 17, 0, 0, 0) := rfl
theorem xi_27_17 : xm_ins 27 17 = some (.iload_n 2, 18, 2, 0, 0) := rfl
theorem xi_27_18 : xm_ins 27 18 = some (.invokevirtual 125, 21, 26, 2, 1) := rfl
theorem xi_27_21 : xm_ins 27 21 = some (.iconst 0, 22, 0, 0, 0) := rfl
theorem xi_27_22 : xm_ins 27 22 = some (.istore_n 3, 23, 3, 0, 0) := rfl
theorem xi_27_23 : xm_ins 27 23 = some (.iload_n 3, 24, 3, 0, 0) := rfl
theorem xi_27_24 : xm_ins 27 24 = some (.iconst 3, 25, 0, 0, 3) := rfl
theorem xi_27_25 : xm_ins 27 25 = some (.if_icmp .ge 20, 28, 45, 0, 0) := rfl
theorem xi_27_28 : xm_ins 27 28 = some (.aload_n 0, 29, 0, 0, 0) := rfl
theorem xi_27_29 : xm_ins 27 29 = some (.getfield 21, 32, 1, 3, 1) := rfl
theorem xi_27_32 : xm_ins 27 32 = some (.iload_n 2, 33, 2, 0, 0) := rfl
theorem xi_27_33 : xm_ins 27 33 = some (.iconst 3, 34, 0, 0, 3) := rfl
theorem xi_27_34 : xm_ins 27 34 = some (.imul, 35, 0, 0, 0) := rfl
theorem xi_27_35 : xm_ins 27 35 = some (.iload_n 3, 36, 3, 0, 0) := rfl
theorem xi_27_36 : xm_ins 27 36 = some (.iadd, 37, 0, 0, 0) := rfl
theorem xi_27_37 : xm_ins 27 37 = some (.iconst (-1), 38, 0, 0, (-1)) := rfl
theorem xi_27_38 : xm_ins 27 38 = some (.iastore, 39, 0, 0, 0) := rfl
theorem xi_27_39 : xm_ins 27 39 = some (.iinc 3 1, 42, 3, 0, 1) := rfl
theorem xi_27_42 : xm_ins 27 42 = some (.goto (-19), 45, 23, 0, 0) := rfl
theorem xi_27_45 : xm_ins 27 45 = some (.iinc 2 1, 48, 2, 0, 1) := rfl
theorem xi_27_48 : xm_ins 27 48 = some (.goto (-46), 51, 2, 0, 0) := rfl
theorem xi_27_51 : xm_ins 27 51 = some (.aload_n 0, 52, 0, 0, 0) := rfl
theorem xi_27_52 : xm_ins 27 52 = some (.invokevirtual 128, 55, 28, 1, 1) := rfl
theorem xi_27_55 : xm_ins 27 55 = some (.return_, 56, 0, 0, 0) := rfl
theorem xn_28 (pc : Nat) : xm_ins 28 pc = xm_find xt_28 pc := rfl
theorem xi_28_0 : xm_ins 28 0 = some (.iconst 0, 1, 0, 0, 0) := rfl
theorem xi_28_1 : xm_ins 28 1 = some (.istore_n 1, 2, 1, 0, 0) := rfl
theorem xi_28_2 : xm_ins 28 2 = some (.iload_n 1, 3, 1, 0, 0) := rfl
theorem xi_28_3 : xm_ins 28 3 = some (.bipush 8, 5, 0, 0, 8) := rfl
theorem xi_28_5 : xm_ins 28 5 = some (.if_icmp .ge 24, 8, 29, 0, 0) := rfl
theorem xi_28_8 : xm_ins 28 8 = some (.aload_n 0, 9, 0, 0, 0) := rfl
theorem xi_28_9 : xm_ins 28 9 = some (.iload_n 1, 10, 1, 0, 0) := rfl
theorem xi_28_10 : xm_ins 28 10 = some (.invokevirtual 122, 13, 42, 2, 1) := rfl
theorem xi_28_13 : xm_ins 28 13 = some (.ifCond .ne 10, 16, 23, 0, 0) := rfl
theorem xi_28_16 : xm_ins 28 16 = some (.aload_n 0, 17, 0, 0, 0) := rfl
theorem xi_28_17 : xm_ins 28 17 = some (.getfield 9, 20, 1, 0, 1) := rfl
theorem xi_28_20 : xm_ins 28 20 = some (.iload_n 1, 21, 1, 0, 0) := rfl
theorem xi_28_21 : xm_ins 28 21 = some (.iconst (-1), 22, 0, 0, (-1)) := rfl
theorem xi_28_22 : xm_ins 28 22 = some (.iastore, 23, 0, 0, 0) := rfl
theorem xi_28_23 : xm_ins 28 23 = some (.iinc 1 1, 26, 1, 0, 1) := rfl
theorem xi_28_26 : xm_ins 28 26 = some (.goto (-24), 29, 2, 0, 0) := rfl
theorem xi_28_29 : xm_ins 28 29 = some (.return_, 30, 0, 0, 0) := rfl
theorem xn_29 (pc : Nat) : xm_ins 29 pc = xm_find xt_29 pc := rfl
theorem xi_29_0 : xm_ins 29 0 = some (.iconst 0, 1, 0, 0, 0) := rfl
theorem xi_29_1 : xm_ins 29 1 = some (.istore_n 2, 2, 2, 0, 0) := rfl
theorem xi_29_2 : xm_ins 29 2 = some (.iload_n 2, 3, 2, 0, 0) := rfl
theorem xi_29_3 : xm_ins 29 3 = some (.bipush 8, 5, 0, 0, 8) := rfl
theorem xi_29_5 : xm_ins 29 5 = some (.if_icmp .ge 32, 8, 37, 0, 0) := rfl
theorem xi_29_8 : xm_ins 29 8 = some (.aload_n 0, 9, 0, 0, 0) := rfl
theorem xi_29_9 : xm_ins 29 9 = some (.getfield 9, 12, 1, 0, 1) := rfl
theorem xi_29_12 : xm_ins 29 12 = some (.iload_n 2, 13, 2, 0, 0) := rfl
theorem xi_29_13 : xm_ins 29 13 = some (.iaload, 14, 0, 0, 0) := rfl
theorem xi_29_14 : xm_ins 29 14 = some (.iload_n 1, 15, 1, 0, 0) := rfl
theorem xi_29_15 : xm_ins 29 15 = some (.if_icmp .ne 16, 18, 31, 0, 0) := rfl
theorem xi_29_18 : xm_ins 29 18 = some (.aload_n 0, 19, 0, 0, 0) := rfl
theorem xi_29_19 : xm_ins 29 19 = some (.iload_n 2, 20, 2, 0, 0) := rfl
theorem xi_29_20 : xm_ins 29 20 = some (.invokevirtual 131, 23, 30, 2, 1) := rfl
theorem xi_29_23 : xm_ins 29 23 = some (.istore_n 3, 24, 3, 0, 0) := rfl
theorem xi_29_24 : xm_ins 29 24 = some (.iload_n 3, 25, 3, 0, 0) := rfl
theorem xi_29_25 : xm_ins 29 25 = some (.iconst (-1), 26, 0, 0, (-1)) := rfl
theorem xi_29_26 : xm_ins 29 26 = some (.if_icmp .eq 5, 29, 31, 0, 0) := rfl
theorem xi_29_29 : xm_ins 29 29 = some (.iload_n 3, 30, 3, 0, 0) := rfl
theorem xi_29_30 : xm_ins 29 30 = some (.ireturn, 31, 0, 0, 0) := rfl
theorem xi_29_31 : xm_ins 29 31 = some (.iinc 2 1, 34, 2, 0, 1) := rfl
theorem xi_29_34 : xm_ins 29 34 = some (.goto (-32), 37, 2, 0, 0) := rfl
theorem xi_29_37 : xm_ins 29 37 = some (.iconst 0, 38, 0, 0, 0) := rfl
theorem xi_29_38 : xm_ins 29 38 = some (.istore_n 2, 39, 2, 0, 0) := rfl
theorem xi_29_39 : xm_ins 29 39 = some (.iload_n 2, 40, 2, 0, 0) := rfl
theorem xi_29_40 : xm_ins 29 40 = some (.bipush 8, 42, 0, 0, 8) := rfl
theorem xi_29_42 : xm_ins 29 42 = some (.if_icmp .ge 23, 45, 65, 0, 0) := rfl
theorem xi_29_45 : xm_ins 29 45 = some (.aload_n 0, 46, 0, 0, 0) := rfl
theorem xi_29_46 : xm_ins 29 46 = some (.getfield 9, 49, 1, 0, 1) := rfl
theorem xi_29_49 : xm_ins 29 49 = some (.iload_n 2, 50, 2, 0, 0) := rfl
theorem xi_29_50 : xm_ins 29 50 = some (.iaload, 51, 0, 0, 0) := rfl
theorem xi_29_51 : xm_ins 29 51 = some (.iconst (-1), 52, 0, 0, (-1)) := rfl
theorem xi_29_52 : xm_ins 29 52 = some (.if_icmp .ne 7, 55, 59, 0, 0) := rfl
theorem xi_29_55 : xm_ins 29 55 = some (.iload_n 2, 56, 2, 0, 0) := rfl
theorem xi_29_56 : xm_ins 29 56 = some (.iconst 5, 57, 0, 0, 5) := rfl
theorem xi_29_57 : xm_ins 29 57 = some (.imul, 58, 0, 0, 0) := rfl
theorem xi_29_58 : xm_ins 29 58 = some (.ireturn, 59, 0, 0, 0) := rfl
theorem xi_29_59 : xm_ins 29 59 = some (.iinc 2 1, 62, 2, 0, 1) := rfl
theorem xi_29_62 : xm_ins 29 62 = some (.goto (-23), 65, 39, 0, 0) := rfl
theorem xi_29_65 : xm_ins 29 65 = some (.iconst (-1), 66, 0, 0, (-1)) := rfl
theorem xi_29_66 : xm_ins 29 66 = some (.ireturn, 67, 0, 0, 0) := rfl
theorem xn_30 (pc : Nat) : xm_ins 30 pc = xm_find xt_30 pc := rfl
theorem xi_30_0 : xm_ins 30 0 = some (.iconst 0, 1, 0, 0, 0) := rfl
theorem xi_30_1 : xm_ins 30 1 = some (.istore_n 2, 2, 2, 0, 0) := rfl
theorem xi_30_2 : xm_ins 30 2 = some (.iload_n 2, 3, 2, 0, 0) := rfl
theorem xi_30_3 : xm_ins 30 3 = some (.iconst 5, 4, 0, 0, 5) := rfl
theorem xi_30_4 : xm_ins 30 4 = some (.if_icmp .ge 27, 7, 31, 0, 0) := rfl
theorem xi_30_7 : xm_ins 30 7 = some (.iload_n 1, 8, 1, 0, 0) := rfl
theorem xi_30_8 : xm_ins 30 8 = some (.iconst 5, 9, 0, 0, 5) := rfl
theorem xi_30_9 : xm_ins 30 9 = some (.imul, 10, 0, 0, 0) := rfl
theorem xi_30_10 : xm_ins 30 10 = some (.iload_n 2, 11, 2, 0, 0) := rfl
theorem xi_30_11 : xm_ins 30 11 = some (.iadd, 12, 0, 0, 0) := rfl
theorem xi_30_12 : xm_ins 30 12 = some (.istore_n 3, 13, 3, 0, 0) := rfl
theorem xi_30_13 : xm_ins 30 13 = some (.aload_n 0, 14, 0, 0, 0) := rfl
theorem xi_30_14 : xm_ins 30 14 = some (.getfield 15, 17, 1, 1, 1) := rfl
theorem xi_30_17 : xm_ins 30 17 = some (.iload_n 3, 18, 3, 0, 0) := rfl
theorem xi_30_18 : xm_ins 30 18 = some (.iaload, 19, 0, 0, 0) := rfl
theorem xi_30_19 : xm_ins 30 19 = some (.iconst (-1), 20, 0, 0, (-1)) := rfl
theorem xi_30_20 : xm_ins 30 20 = some (.if_icmp .ne 5, 23, 25, 0, 0) := rfl
theorem xi_30_23 : xm_ins 30 23 = some (.iload_n 3, 24, 3, 0, 0) := rfl
theorem xi_30_24 : xm_ins 30 24 = some (.ireturn, 25, 0, 0, 0) := rfl
theorem xi_30_25 : xm_ins 30 25 = some (.iinc 2 1, 28, 2, 0, 1) := rfl
theorem xi_30_28 : xm_ins 30 28 = some (.goto (-26), 31, 2, 0, 0) := rfl
theorem xi_30_31 : xm_ins 30 31 = some (.iconst (-1), 32, 0, 0, (-1)) := rfl
theorem xi_30_32 : xm_ins 30 32 = some (.ireturn, 33, 0, 0, 0) := rfl
theorem xn_31 (pc : Nat) : xm_ins 31 pc = xm_find xt_31 pc := rfl
theorem xi_31_0 : xm_ins 31 0 = some (.iload_n 0, 1, 0, 0, 0) := rfl
theorem xi_31_1 : xm_ins 31 1 = some (.ifCond .lt 12, 4, 13, 0, 0) := rfl
theorem xi_31_4 : xm_ins 31 4 = some (.iload_n 0, 5, 0, 0, 0) := rfl
theorem xi_31_5 : xm_ins 31 5 = some (.iconst 4, 6, 0, 0, 4) := rfl
theorem xi_31_6 : xm_ins 31 6 = some (.if_icmp .ge 7, 9, 13, 0, 0) := rfl
theorem xi_31_9 : xm_ins 31 9 = some (.iconst 1, 10, 0, 0, 1) := rfl
theorem xi_31_10 : xm_ins 31 10 = some (.goto 4, 13, 14, 0, 0) := rfl
theorem xi_31_13 : xm_ins 31 13 = some (.iconst 0, 14, 0, 0, 0) := rfl
theorem xi_31_14 : xm_ins 31 14 = some (.ireturn, 15, 0, 0, 0) := rfl
theorem xn_32 (pc : Nat) : xm_ins 32 pc = xm_find xt_32 pc := rfl
theorem xi_32_0 : xm_ins 32 0 = some (.iload_n 0, 1, 0, 0, 0) := rfl
theorem xi_32_1 : xm_ins 32 1 = some (.ifCond .lt 12, 4, 13, 0, 0) := rfl
theorem xi_32_4 : xm_ins 32 4 = some (.iload_n 0, 5, 0, 0, 0) := rfl
theorem xi_32_5 : xm_ins 32 5 = some (.iconst 3, 6, 0, 0, 3) := rfl
theorem xi_32_6 : xm_ins 32 6 = some (.if_icmp .ge 7, 9, 13, 0, 0) := rfl
theorem xi_32_9 : xm_ins 32 9 = some (.iconst 1, 10, 0, 0, 1) := rfl
theorem xi_32_10 : xm_ins 32 10 = some (.goto 4, 13, 14, 0, 0) := rfl
theorem xi_32_13 : xm_ins 32 13 = some (.iconst 0, 14, 0, 0, 0) := rfl
theorem xi_32_14 : xm_ins 32 14 = some (.ireturn, 15, 0, 0, 0) := rfl
theorem xn_33 (pc : Nat) : xm_ins 33 pc = xm_find xt_33 pc := rfl
theorem xi_33_0 : xm_ins 33 0 = some (.iload_n 1, 1, 1, 0, 0) := rfl
theorem xi_33_1 : xm_ins 33 1 = some (.ifCond .lt 21, 4, 22, 0, 0) := rfl
theorem xi_33_4 : xm_ins 33 4 = some (.iload_n 1, 5, 1, 0, 0) := rfl
theorem xi_33_5 : xm_ins 33 5 = some (.bipush 30, 7, 0, 0, 30) := rfl
theorem xi_33_7 : xm_ins 33 7 = some (.if_icmp .ge 15, 10, 22, 0, 0) := rfl
theorem xi_33_10 : xm_ins 33 10 = some (.iload_n 1, 11, 1, 0, 0) := rfl
theorem xi_33_11 : xm_ins 33 11 = some (.aload_n 0, 12, 0, 0, 0) := rfl
theorem xi_33_12 : xm_ins 33 12 = some (.getfield 34, 15, 1, 7, 0) := rfl
theorem xi_33_15 : xm_ins 33 15 = some (.if_icmp .ge 7, 18, 22, 0, 0) := rfl
theorem xi_33_18 : xm_ins 33 18 = some (.iconst 1, 19, 0, 0, 1) := rfl
theorem xi_33_19 : xm_ins 33 19 = some (.goto 4, 22, 23, 0, 0) := rfl
theorem xi_33_22 : xm_ins 33 22 = some (.iconst 0, 23, 0, 0, 0) := rfl
theorem xi_33_23 : xm_ins 33 23 = some (.ireturn, 24, 0, 0, 0) := rfl
theorem xn_34 (pc : Nat) : xm_ins 34 pc = xm_find xt_34 pc := rfl
theorem xi_34_0 : xm_ins 34 0 = some (.iload_n 1, 1, 1, 0, 0) := rfl
theorem xi_34_1 : xm_ins 34 1 = some (.ifCond .lt 23, 4, 24, 0, 0) := rfl
theorem xi_34_4 : xm_ins 34 4 = some (.iload_n 1, 5, 1, 0, 0) := rfl
theorem xi_34_5 : xm_ins 34 5 = some (.bipush 30, 7, 0, 0, 30) := rfl
theorem xi_34_7 : xm_ins 34 7 = some (.if_icmp .ge 17, 10, 24, 0, 0) := rfl
theorem xi_34_10 : xm_ins 34 10 = some (.aload_n 0, 11, 0, 0, 0) := rfl
theorem xi_34_11 : xm_ins 34 11 = some (.getfield 18, 14, 1, 2, 1) := rfl
theorem xi_34_14 : xm_ins 34 14 = some (.iload_n 1, 15, 1, 0, 0) := rfl
theorem xi_34_15 : xm_ins 34 15 = some (.iaload, 16, 0, 0, 0) := rfl
theorem xi_34_16 : xm_ins 34 16 = some (.iconst (-1), 17, 0, 0, (-1)) := rfl
theorem xi_34_17 : xm_ins 34 17 = some (.if_icmp .eq 7, 20, 24, 0, 0) := rfl
theorem xi_34_20 : xm_ins 34 20 = some (.iconst 1, 21, 0, 0, 1) := rfl
theorem xi_34_21 : xm_ins 34 21 = some (.goto 4, 24, 25, 0, 0) := rfl
theorem xi_34_24 : xm_ins 34 24 = some (.iconst 0, 25, 0, 0, 0) := rfl
theorem xi_34_25 : xm_ins 34 25 = some (.ireturn, 26, 0, 0, 0) := rfl
theorem xn_35 (pc : Nat) : xm_ins 35 pc = xm_find xt_35 pc := rfl
theorem xi_35_0 : xm_ins 35 0 = some (.aload_n 0, 1, 0, 0, 0) := rfl
theorem xi_35_1 : xm_ins 35 1 = some (.iload_n 1, 2, 1, 0, 0) := rfl
theorem xi_35_2 : xm_ins 35 2 = some (.invokevirtual 70, 5, 34, 2, 1) := rfl
theorem xi_35_5 : xm_ins 35 5 = some (.ifCond .ne 5, 8, 10, 0, 0) := rfl
theorem xi_35_8 : xm_ins 35 8 = some (.iconst (-1), 9, 0, 0, (-1)) := rfl
theorem xi_35_9 : xm_ins 35 9 = some (.ireturn, 10, 0, 0, 0) := rfl
theorem xi_35_10 : xm_ins 35 10 = some (.aload_n 0, 11, 0, 0, 0) := rfl
theorem xi_35_11 : xm_ins 35 11 = some (.getfield 18, 14, 1, 2, 1) := rfl
theorem xi_35_14 : xm_ins 35 14 = some (.iload_n 1, 15, 1, 0, 0) := rfl
theorem xi_35_15 : xm_ins 35 15 = some (.iaload, 16, 0, 0, 0) := rfl
theorem xi_35_16 : xm_ins 35 16 = some (.iconst 5, 17, 0, 0, 5) := rfl
theorem xi_35_17 : xm_ins 35 17 = some (.idiv, 18, 0, 0, 0) := rfl
theorem xi_35_18 : xm_ins 35 18 = some (.bipush 10, 20, 0, 0, 10) := rfl
theorem xi_35_20 : xm_ins 35 20 = some (.imul, 21, 0, 0, 0) := rfl
theorem xi_35_21 : xm_ins 35 21 = some (.aload_n 0, 22, 0, 0, 0) := rfl
theorem xi_35_22 : xm_ins 35 22 = some (.getfield 18, 25, 1, 2, 1) := rfl
theorem xi_35_25 : xm_ins 35 25 = some (.iload_n 1, 26, 1, 0, 0) := rfl
theorem xi_35_26 : xm_ins 35 26 = some (.iaload, 27, 0, 0, 0) := rfl
theorem xi_35_27 : xm_ins 35 27 = some (.iconst 5, 28, 0, 0, 5) := rfl
theorem xi_35_28 : xm_ins 35 28 = some (.irem, 29, 0, 0, 0) := rfl
theorem xi_35_29 : xm_ins 35 29 = some (.iadd, 30, 0, 0, 0) := rfl
theorem xi_35_30 : xm_ins 35 30 = some (.ireturn, 31, 0, 0, 0) := rfl
theorem xn_36 (pc : Nat) : xm_ins 36 pc = xm_find xt_36 pc := rfl
theorem xi_36_0 : xm_ins 36 0 = some (.aload_n 0, 1, 0, 0, 0) := rfl
theorem xi_36_1 : xm_ins 36 1 = some (.iload_n 1, 2, 1, 0, 0) := rfl
theorem xi_36_2 : xm_ins 36 2 = some (.invokevirtual 70, 5, 34, 2, 1) := rfl
theorem xi_36_5 : xm_ins 36 5 = some (.ifCond .eq 19, 8, 24, 0, 0) := rfl
theorem xi_36_8 : xm_ins 36 8 = some (.aload_n 0, 9, 0, 0, 0) := rfl
theorem xi_36_9 : xm_ins 36 9 = some (.getfield 9, 12, 1, 0, 1) := rfl
theorem xi_36_12 : xm_ins 36 12 = some (.aload_n 0, 13, 0, 0, 0) := rfl
theorem xi_36_13 : xm_ins 36 13 = some (.getfield 18, 16, 1, 2, 1) := rfl
theorem xi_36_16 : xm_ins 36 16 = some (.iload_n 1, 17, 1, 0, 0) := rfl
theorem xi_36_17 : xm_ins 36 17 = some (.iaload, 18, 0, 0, 0) := rfl
theorem xi_36_18 : xm_ins 36 18 = some (.iconst 5, 19, 0, 0, 5) := rfl
theorem xi_36_19 : xm_ins 36 19 = some (.idiv, 20, 0, 0, 0) := rfl
theorem xi_36_20 : xm_ins 36 20 = some (.iaload, 21, 0, 0, 0) := rfl
theorem xi_36_21 : xm_ins 36 21 = some (.goto 4, 24, 25, 0, 0) := rfl
theorem xi_36_24 : xm_ins 36 24 = some (.iconst (-1), 25, 0, 0, (-1)) := rfl
theorem xi_36_25 : xm_ins 36 25 = some (.ireturn, 26, 0, 0, 0) := rfl
theorem xn_37 (pc : Nat) : xm_ins 37 pc = xm_find xt_37 pc := rfl
theorem xi_37_0 : xm_ins 37 0 = some (.aload_n 0, 1, 0, 0, 0) := rfl
theorem xi_37_1 : xm_ins 37 1 = some (.iload_n 1, 2, 1, 0, 0) := rfl
theorem xi_37_2 : xm_ins 37 2 = some (.invokevirtual 134, 5, 33, 2, 1) := rfl
theorem xi_37_5 : xm_ins 37 5 = some (.ifCond .eq 12, 8, 17, 0, 0) := rfl
theorem xi_37_8 : xm_ins 37 8 = some (.aload_n 0, 9, 0, 0, 0) := rfl
theorem xi_37_9 : xm_ins 37 9 = some (.getfield 24, 12, 1, 4, 1) := rfl
theorem xi_37_12 : xm_ins 37 12 = some (.iload_n 1, 13, 1, 0, 0) := rfl
theorem xi_37_13 : xm_ins 37 13 = some (.iaload, 14, 0, 0, 0) := rfl
theorem xi_37_14 : xm_ins 37 14 = some (.goto 4, 17, 18, 0, 0) := rfl
theorem xi_37_17 : xm_ins 37 17 = some (.iconst 0, 18, 0, 0, 0) := rfl
theorem xi_37_18 : xm_ins 37 18 = some (.ireturn, 19, 0, 0, 0) := rfl
theorem xn_38 (pc : Nat) : xm_ins 38 pc = xm_find xt_38 pc := rfl
theorem xi_38_0 : xm_ins 38 0 = some (.aload_n 0, 1, 0, 0, 0) := rfl
theorem xi_38_1 : xm_ins 38 1 = some (.iload_n 1, 2, 1, 0, 0) := rfl
theorem xi_38_2 : xm_ins 38 2 = some (.invokevirtual 134, 5, 33, 2, 1) := rfl
theorem xi_38_5 : xm_ins 38 5 = some (.ifCond .eq 10, 8, 15, 0, 0) := rfl
theorem xi_38_8 : xm_ins 38 8 = some (.iload_n 2, 9, 2, 0, 0) := rfl
theorem xi_38_9 : xm_ins 38 9 = some (.invokestatic 78, 12, 32, 1, 1) := rfl
theorem xi_38_12 : xm_ins 38 12 = some (.ifCond .ne 5, 15, 17, 0, 0) := rfl
theorem xi_38_15 : xm_ins 38 15 = some (.iconst (-1), 16, 0, 0, (-1)) := rfl
theorem xi_38_16 : xm_ins 38 16 = some (.ireturn, 17, 0, 0, 0) := rfl
theorem xi_38_17 : xm_ins 38 17 = some (.aload_n 0, 18, 0, 0, 0) := rfl
theorem xi_38_18 : xm_ins 38 18 = some (.getfield 21, 21, 1, 3, 1) := rfl
theorem xi_38_21 : xm_ins 38 21 = some (.iload_n 1, 22, 1, 0, 0) := rfl
theorem xi_38_22 : xm_ins 38 22 = some (.iconst 3, 23, 0, 0, 3) := rfl
theorem xi_38_23 : xm_ins 38 23 = some (.imul, 24, 0, 0, 0) := rfl
theorem xi_38_24 : xm_ins 38 24 = some (.iload_n 2, 25, 2, 0, 0) := rfl
theorem xi_38_25 : xm_ins 38 25 = some (.iadd, 26, 0, 0, 0) := rfl
theorem xi_38_26 : xm_ins 38 26 = some (.iaload, 27, 0, 0, 0) := rfl
theorem xi_38_27 : xm_ins 38 27 = some (.ireturn, 28, 0, 0, 0) := rfl
theorem xn_39 (pc : Nat) : xm_ins 39 pc = xm_find xt_39 pc := rfl
theorem xi_39_0 : xm_ins 39 0 = some (.aload_n 0, 1, 0, 0, 0) := rfl
theorem xi_39_1 : xm_ins 39 1 = some (.iload_n 1, 2, 1, 0, 0) := rfl
theorem xi_39_2 : xm_ins 39 2 = some (.iload_n 2, 3, 2, 0, 0) := rfl
theorem xi_39_3 : xm_ins 39 3 = some (.invokevirtual 85, 6, 38, 3, 1) := rfl
theorem xi_39_6 : xm_ins 39 6 = some (.istore_n 3, 7, 3, 0, 0) := rfl
theorem xi_39_7 : xm_ins 39 7 = some (.iload_n 3, 8, 3, 0, 0) := rfl
theorem xi_39_8 : xm_ins 39 8 = some (.iconst (-1), 9, 0, 0, (-1)) := rfl
theorem xi_39_9 : xm_ins 39 9 = some (.if_icmp .eq 20, 12, 29, 0, 0) := rfl
theorem xi_39_12 : xm_ins 39 12 = some (.aload_n 0, 13, 0, 0, 0) := rfl
theorem xi_39_13 : xm_ins 39 13 = some (.iload_n 3, 14, 3, 0, 0) := rfl
theorem xi_39_14 : xm_ins 39 14 = some (.invokevirtual 137, 17, 36, 2, 1) := rfl
theorem xi_39_17 : xm_ins 39 17 = some (.aload_n 0, 18, 0, 0, 0) := rfl
theorem xi_39_18 : xm_ins 39 18 = some (.iload_n 1, 19, 1, 0, 0) := rfl
theorem xi_39_19 : xm_ins 39 19 = some (.invokevirtual 137, 22, 36, 2, 1) := rfl
theorem xi_39_22 : xm_ins 39 22 = some (.if_icmp .ge 7, 25, 29, 0, 0) := rfl
theorem xi_39_25 : xm_ins 39 25 = some (.iconst 1, 26, 0, 0, 1) := rfl
theorem xi_39_26 : xm_ins 39 26 = some (.goto 4, 29, 30, 0, 0) := rfl
theorem xi_39_29 : xm_ins 39 29 = some (.iconst 0, 30, 0, 0, 0) := rfl
theorem xi_39_30 : xm_ins 39 30 = some (.ireturn, 31, 0, 0, 0) := rfl
theorem xn_40 (pc : Nat) : xm_ins 40 pc = xm_find xt_40 pc := rfl
theorem xi_40_0 : xm_ins 40 0 = some (.iconst 0, 1, 0, 0, 0) := rfl
theorem xi_40_1 : xm_ins 40 1 = some (.istore_n 2, 2, 2, 0, 0) := rfl
theorem xi_40_2 : xm_ins 40 2 = some (.iconst 0, 3, 0, 0, 0) := rfl
theorem xi_40_3 : xm_ins 40 3 = some (.istore_n 3, 4, 3, 0, 0) := rfl
theorem xi_40_4 : xm_ins 40 4 = some (.iload_n 3, 5, 3, 0, 0) := rfl
theorem xi_40_5 : xm_ins 40 5 = some (.iconst 4, 6, 0, 0, 4) := rfl
theorem xi_40_6 : xm_ins 40 6 = some (.if_icmp .ge 25, 9, 31, 0, 0) := rfl
theorem xi_40_9 : xm_ins 40 9 = some (.aload_n 0, 10, 0, 0, 0) := rfl
theorem xi_40_10 : xm_ins 40 10 = some (.getfield 27, 13, 1, 5, 1) := rfl
theorem xi_40_13 : xm_ins 40 13 = some (.iload_n 3, 14, 3, 0, 0) := rfl
theorem xi_40_14 : xm_ins 40 14 = some (.iaload, 15, 0, 0, 0) := rfl
theorem xi_40_15 : xm_ins 40 15 = some (.iload_n 1, 16, 1, 0, 0) := rfl
theorem xi_40_16 : xm_ins 40 16 = some (.if_icmp .ne 9, 19, 25, 0, 0) := rfl
theorem xi_40_19 : xm_ins 40 19 = some (.iload_n 2, 20, 2, 0, 0) := rfl
theorem xi_40_20 : xm_ins 40 20 = some (.iconst 1, 21, 0, 0, 1) := rfl
theorem xi_40_21 : xm_ins 40 21 = some (.iload_n 3, 22, 3, 0, 0) := rfl
theorem xi_40_22 : xm_ins 40 22 = some (.ishl, 23, 0, 0, 0) := rfl
theorem xi_40_23 : xm_ins 40 23 = some (.ior, 24, 0, 0, 0) := rfl
theorem xi_40_24 : xm_ins 40 24 = some (.istore_n 2, 25, 2, 0, 0) := rfl
theorem xi_40_25 : xm_ins 40 25 = some (.iinc 3 1, 28, 3, 0, 1) := rfl
theorem xi_40_28 : xm_ins 40 28 = some (.goto (-24), 31, 4, 0, 0) := rfl
theorem xi_40_31 : xm_ins 40 31 = some (.iload_n 2, 32, 2, 0, 0) := rfl
theorem xi_40_32 : xm_ins 40 32 = some (.ireturn, 33, 0, 0, 0) := rfl
theorem xn_41 (pc : Nat) : xm_ins 41 pc = xm_find xt_41 pc := rfl
theorem xi_41_0 : xm_ins 41 0 = some (.iconst 0, 1, 0, 0, 0) := rfl
theorem xi_41_1 : xm_ins 41 1 = some (.istore_n 2, 2, 2, 0, 0) := rfl
theorem xi_41_2 : xm_ins 41 2 = some (.iconst 0, 3, 0, 0, 0) := rfl
theorem xi_41_3 : xm_ins 41 3 = some (.istore_n 3, 4, 3, 0, 0) := rfl
theorem xi_41_4 : xm_ins 41 4 = some (.iload_n 3, 5, 3, 0, 0) := rfl
theorem xi_41_5 : xm_ins 41 5 = some (.bipush 30, 7, 0, 0, 30) := rfl
theorem xi_41_7 : xm_ins 41 7 = some (.if_icmp .ge 45, 10, 52, 0, 0) := rfl
theorem xi_41_10 : xm_ins 41 10 = some (.iconst 0, 11, 0, 0, 0) := rfl
theorem xi_41_11 : xm_ins 41 11 = some (.istore 4, 13, 4, 0, 0) := rfl
theorem xi_41_13 : xm_ins 41 13 = some (.iload 4, 15, 4, 0, 0) := rfl
theorem xi_41_15 : xm_ins 41 15 = some (.iconst 3, 16, 0, 0, 3) := rfl
theorem xi_41_16 : xm_ins 41 16 = some (.if_icmp .ge 30, 19, 46, 0, 0) := rfl
theorem xi_41_19 : xm_ins 41 19 = some (.aload_n 0, 20, 0, 0, 0) := rfl
theorem xi_41_20 : xm_ins 41 20 = some (.getfield 21, 23, 1, 3, 1) := rfl
theorem xi_41_23 : xm_ins 41 23 = some (.iload_n 3, 24, 3, 0, 0) := rfl
theorem xi_41_24 : xm_ins 41 24 = some (.iconst 3, 25, 0, 0, 3) := rfl
theorem xi_41_25 : xm_ins 41 25 = some (.imul, 26, 0, 0, 0) := rfl
theorem xi_41_26 : xm_ins 41 26 = some (.iload 4, 28, 4, 0, 0) := rfl
theorem xi_41_28 : xm_ins 41 28 = some (.iadd, 29, 0, 0, 0) := rfl
theorem xi_41_29 : xm_ins 41 29 = some (.iaload, 30, 0, 0, 0) := rfl
theorem xi_41_30 : xm_ins 41 30 = some (.iload_n 1, 31, 1, 0, 0) := rfl
theorem xi_41_31 : xm_ins 41 31 = some (.if_icmp .ne 9, 34, 40, 0, 0) := rfl
theorem xi_41_34 : xm_ins 41 34 = some (.iload_n 2, 35, 2, 0, 0) := rfl
theorem xi_41_35 : xm_ins 41 35 = some (.iconst 1, 36, 0, 0, 1) := rfl
theorem xi_41_36 : xm_ins 41 36 = some (.iload_n 3, 37, 3, 0, 0) := rfl
theorem xi_41_37 : xm_ins 41 37 = some (.ishl, 38, 0, 0, 0) := rfl
theorem xi_41_38 : xm_ins 41 38 = some (.ior, 39, 0, 0, 0) := rfl
theorem xi_41_39 : xm_ins 41 39 = some (.istore_n 2, 40, 2, 0, 0) := rfl
theorem xi_41_40 : xm_ins 41 40 = some (.iinc 4 1, 43, 4, 0, 1) := rfl
theorem xi_41_43 : xm_ins 41 43 = some (.goto (-30), 46, 13, 0, 0) := rfl
theorem xi_41_46 : xm_ins 41 46 = some (.iinc 3 1, 49, 3, 0, 1) := rfl
theorem xi_41_49 : xm_ins 41 49 = some (.goto (-45), 52, 4, 0, 0) := rfl
theorem xi_41_52 : xm_ins 41 52 = some (.iload_n 2, 53, 2, 0, 0) := rfl
theorem xi_41_53 : xm_ins 41 53 = some (.ireturn, 54, 0, 0, 0) := rfl
theorem xn_42 (pc : Nat) : xm_ins 42 pc = xm_find xt_42 pc := rfl
theorem xi_42_0 : xm_ins 42 0 = some (.iconst 0, 1, 0, 0, 0) := rfl
theorem xi_42_1 : xm_ins 42 1 = some (.istore_n 2, 2, 2, 0, 0) := rfl
theorem xi_42_2 : xm_ins 42 2 = some (.iload_n 1, 3, 1, 0, 0) := rfl
theorem xi_42_3 : xm_ins 42 3 = some (.ifCond .lt 47, 6, 50, 0, 0) := rfl
theorem xi_42_6 : xm_ins 42 6 = some (.iload_n 1, 7, 1, 0, 0) := rfl
theorem xi_42_7 : xm_ins 42 7 = some (.bipush 8, 9, 0, 0, 8) := rfl
theorem xi_42_9 : xm_ins 42 9 = some (.if_icmp .ge 41, 12, 50, 0, 0) := rfl
theorem xi_42_12 : xm_ins 42 12 = some (.iconst 0, 13, 0, 0, 0) := rfl
theorem xi_42_13 : xm_ins 42 13 = some (.istore_n 3, 14, 3, 0, 0) := rfl
theorem xi_42_14 : xm_ins 42 14 = some (.iload_n 3, 15, 3, 0, 0) := rfl
theorem xi_42_15 : xm_ins 42 15 = some (.iconst 5, 16, 0, 0, 5) := rfl
theorem xi_42_16 : xm_ins 42 16 = some (.if_icmp .ge 34, 19, 50, 0, 0) := rfl
theorem xi_42_19 : xm_ins 42 19 = some (.aload_n 0, 20, 0, 0, 0) := rfl
theorem xi_42_20 : xm_ins 42 20 = some (.getfield 15, 23, 1, 1, 1) := rfl
theorem xi_42_23 : xm_ins 42 23 = some (.iload_n 1, 24, 1, 0, 0) := rfl
theorem xi_42_24 : xm_ins 42 24 = some (.iconst 5, 25, 0, 0, 5) := rfl
theorem xi_42_25 : xm_ins 42 25 = some (.imul, 26, 0, 0, 0) := rfl
theorem xi_42_26 : xm_ins 42 26 = some (.iload_n 3, 27, 3, 0, 0) := rfl
theorem xi_42_27 : xm_ins 42 27 = some (.iadd, 28, 0, 0, 0) := rfl
theorem xi_42_28 : xm_ins 42 28 = some (.iaload, 29, 0, 0, 0) := rfl
theorem xi_42_29 : xm_ins 42 29 = some (.istore 4, 31, 4, 0, 0) := rfl
theorem xi_42_31 : xm_ins 42 31 = some (.iload 4, 33, 4, 0, 0) := rfl
theorem xi_42_33 : xm_ins 42 33 = some (.iconst (-1), 34, 0, 0, (-1)) := rfl
theorem xi_42_34 : xm_ins 42 34 = some (.if_icmp .eq 10, 37, 44, 0, 0) := rfl
theorem xi_42_37 : xm_ins 42 37 = some (.iload_n 2, 38, 2, 0, 0) := rfl
theorem xi_42_38 : xm_ins 42 38 = some (.iconst 1, 39, 0, 0, 1) := rfl
theorem xi_42_39 : xm_ins 42 39 = some (.iload 4, 41, 4, 0, 0) := rfl
theorem xi_42_41 : xm_ins 42 41 = some (.ishl, 42, 0, 0, 0) := rfl
theorem xi_42_42 : xm_ins 42 42 = some (.ior, 43, 0, 0, 0) := rfl
theorem xi_42_43 : xm_ins 42 43 = some (.istore_n 2, 44, 2, 0, 0) := rfl
theorem xi_42_44 : xm_ins 42 44 = some (.iinc 3 1, 47, 3, 0, 1) := rfl
theorem xi_42_47 : xm_ins 42 47 = some (.goto (-33), 50, 14, 0, 0) := rfl
theorem xi_42_50 : xm_ins 42 50 = some (.iload_n 2, 51, 2, 0, 0) := rfl
theorem xi_42_51 : xm_ins 42 51 = some (.ireturn, 52, 0, 0, 0) := rfl
theorem xn_43 (pc : Nat) : xm_ins 43 pc = xm_find xt_43 pc := rfl
theorem xi_43_0 : xm_ins 43 0 = some (.iconst 0, 1, 0, 0, 0) := rfl
theorem xi_43_1 : xm_ins 43 1 = some (.istore_n 1, 2, 1, 0, 0) := rfl
theorem xi_43_2 : xm_ins 43 2 = some (.iconst 0, 3, 0, 0, 0) := rfl
theorem xi_43_3 : xm_ins 43 3 = some (.istore_n 2, 4, 2, 0, 0) := rfl
theorem xi_43_4 : xm_ins 43 4 = some (.iload_n 2, 5, 2, 0, 0) := rfl
theorem xi_43_5 : xm_ins 43 5 = some (.iconst 4, 6, 0, 0, 4) := rfl
theorem xi_43_6 : xm_ins 43 6 = some (.if_icmp .ge 22, 9, 28, 0, 0) := rfl
theorem xi_43_9 : xm_ins 43 9 = some (.aload_n 0, 10, 0, 0, 0) := rfl
theorem xi_43_10 : xm_ins 43 10 = some (.getfield 27, 13, 1, 5, 1) := rfl
theorem xi_43_13 : xm_ins 43 13 = some (.iload_n 2, 14, 2, 0, 0) := rfl
theorem xi_43_14 : xm_ins 43 14 = some (.iaload, 15, 0, 0, 0) := rfl
theorem xi_43_15 : xm_ins 43 15 = some (.iconst (-1), 16, 0, 0, (-1)) := rfl
theorem xi_43_16 : xm_ins 43 16 = some (.if_icmp .eq 6, 19, 22, 0, 0) := rfl
theorem xi_43_19 : xm_ins 43 19 = some (.iinc 1 1, 22, 1, 0, 1) := rfl
theorem xi_43_22 : xm_ins 43 22 = some (.iinc 2 1, 25, 2, 0, 1) := rfl
theorem xi_43_25 : xm_ins 43 25 = some (.goto (-21), 28, 4, 0, 0) := rfl
theorem xi_43_28 : xm_ins 43 28 = some (.iload_n 1, 29, 1, 0, 0) := rfl
theorem xi_43_29 : xm_ins 43 29 = some (.ireturn, 30, 0, 0, 0) := rfl
theorem xn_44 (pc : Nat) : xm_ins 44 pc = xm_find xt_44 pc := rfl
theorem xi_44_0 : xm_ins 44 0 = some (.iconst 0, 1, 0, 0, 0) := rfl
theorem xi_44_1 : xm_ins 44 1 = some (.istore_n 1, 2, 1, 0, 0) := rfl
theorem xi_44_2 : xm_ins 44 2 = some (.iconst 0, 3, 0, 0, 0) := rfl
theorem xi_44_3 : xm_ins 44 3 = some (.istore_n 2, 4, 2, 0, 0) := rfl
theorem xi_44_4 : xm_ins 44 4 = some (.iload_n 2, 5, 2, 0, 0) := rfl
theorem xi_44_5 : xm_ins 44 5 = some (.bipush 8, 7, 0, 0, 8) := rfl
theorem xi_44_7 : xm_ins 44 7 = some (.if_icmp .ge 22, 10, 29, 0, 0) := rfl
theorem xi_44_10 : xm_ins 44 10 = some (.aload_n 0, 11, 0, 0, 0) := rfl
theorem xi_44_11 : xm_ins 44 11 = some (.getfield 9, 14, 1, 0, 1) := rfl
theorem xi_44_14 : xm_ins 44 14 = some (.iload_n 2, 15, 2, 0, 0) := rfl
theorem xi_44_15 : xm_ins 44 15 = some (.iaload, 16, 0, 0, 0) := rfl
theorem xi_44_16 : xm_ins 44 16 = some (.iconst (-1), 17, 0, 0, (-1)) := rfl
theorem xi_44_17 : xm_ins 44 17 = some (.if_icmp .ne 6, 20, 23, 0, 0) := rfl
theorem xi_44_20 : xm_ins 44 20 = some (.iinc 1 1, 23, 1, 0, 1) := rfl
theorem xi_44_23 : xm_ins 44 23 = some (.iinc 2 1, 26, 2, 0, 1) := rfl
theorem xi_44_26 : xm_ins 44 26 = some (.goto (-22), 29, 4, 0, 0) := rfl
theorem xi_44_29 : xm_ins 44 29 = some (.iload_n 1, 30, 1, 0, 0) := rfl
theorem xi_44_30 : xm_ins 44 30 = some (.ireturn, 31, 0, 0, 0) := rfl
theorem xn_45 (pc : Nat) : xm_ins 45 pc = xm_find xt_45 pc := rfl
theorem xi_45_0 : xm_ins 45 0 = some (.iconst 0, 1, 0, 0, 0) := rfl
theorem xi_45_1 : xm_ins 45 1 = some (.istore_n 1, 2, 1, 0, 0) := rfl
theorem xi_45_2 : xm_ins 45 2 = some (.iconst 0, 3, 0, 0, 0) := rfl
theorem xi_45_3 : xm_ins 45 3 = some (.istore_n 2, 4, 2, 0, 0) := rfl
theorem xi_45_4 : xm_ins 45 4 = some (.iload_n 2, 5, 2, 0, 0) := rfl
theorem xi_45_5 : xm_ins 45 5 = some (.bipush 30, 7, 0, 0, 30) := rfl
theorem xi_45_7 : xm_ins 45 7 = some (.if_icmp .ge 34, 10, 41, 0, 0) := rfl
theorem xi_45_10 : xm_ins 45 10 = some (.iconst 0, 11, 0, 0, 0) := rfl
theorem xi_45_11 : xm_ins 45 11 = some (.istore_n 3, 12, 3, 0, 0) := rfl
theorem xi_45_12 : xm_ins 45 12 = some (.iload_n 3, 13, 3, 0, 0) := rfl
theorem xi_45_13 : xm_ins 45 13 = some (.iconst 3, 14, 0, 0, 3) := rfl
theorem xi_45_14 : xm_ins 45 14 = some (.if_icmp .ge 21, 17, 35, 0, 0) := rfl
theorem xi_45_17 : xm_ins 45 17 = some (.aload_n 0, 18, 0, 0, 0) := rfl
theorem xi_45_18 : xm_ins 45 18 = some (.iload_n 2, 19, 2, 0, 0) := rfl
theorem xi_45_19 : xm_ins 45 19 = some (.iload_n 3, 20, 3, 0, 0) := rfl
theorem xi_45_20 : xm_ins 45 20 = some (.invokevirtual 81, 23, 39, 3, 1) := rfl
theorem xi_45_23 : xm_ins 45 23 = some (.ifCond .eq 6, 26, 29, 0, 0) := rfl
theorem xi_45_26 : xm_ins 45 26 = some (.iinc 1 1, 29, 1, 0, 1) := rfl
theorem xi_45_29 : xm_ins 45 29 = some (.iinc 3 1, 32, 3, 0, 1) := rfl
theorem xi_45_32 : xm_ins 45 32 = some (.goto (-20), 35, 12, 0, 0) := rfl
theorem xi_45_35 : xm_ins 45 35 = some (.iinc 2 1, 38, 2, 0, 1) := rfl
theorem xi_45_38 : xm_ins 45 38 = some (.goto (-34), 41, 4, 0, 0) := rfl
theorem xi_45_41 : xm_ins 45 41 = some (.iload_n 1, 42, 1, 0, 0) := rfl
theorem xi_45_42 : xm_ins 45 42 = some (.ireturn, 43, 0, 0, 0) := rfl
theorem xn_46 (pc : Nat) : xm_ins 46 pc = xm_find xt_46 pc := rfl
theorem xi_46_0 : xm_ins 46 0 = some (.aload_n 0, 1, 0, 0, 0) := rfl
theorem xi_46_1 : xm_ins 46 1 = some (.iload_n 1, 2, 1, 0, 0) := rfl
theorem xi_46_2 : xm_ins 46 2 = some (.iload_n 1, 3, 1, 0, 0) := rfl
theorem xi_46_3 : xm_ins 46 3 = some (.invokevirtual 140, 6, 49, 3, 1) := rfl
theorem xi_46_6 : xm_ins 46 6 = some (.ireturn, 7, 0, 0, 0) := rfl
theorem xn_47 (pc : Nat) : xm_ins 47 pc = xm_find xt_47 pc := rfl
theorem xi_47_0 : xm_ins 47 0 = some (.aload_n 0, 1, 0, 0, 0) := rfl
theorem xi_47_1 : xm_ins 47 1 = some (.iconst 0, 2, 0, 0, 0) := rfl
theorem xi_47_2 : xm_ins 47 2 = some (.iconst 2, 3, 0, 0, 2) := rfl
theorem xi_47_3 : xm_ins 47 3 = some (.invokevirtual 140, 6, 49, 3, 1) := rfl
theorem xi_47_6 : xm_ins 47 6 = some (.ireturn, 7, 0, 0, 0) := rfl
theorem xn_48 (pc : Nat) : xm_ins 48 pc = xm_find xt_48 pc := rfl
theorem xi_48_0 : xm_ins 48 0 = some (.aload_n 0, 1, 0, 0, 0) := rfl
theorem xi_48_1 : xm_ins 48 1 = some (.iconst 0, 2, 0, 0, 0) := rfl
theorem xi_48_2 : xm_ins 48 2 = some (.iload_n 1, 3, 1, 0, 0) := rfl
theorem xi_48_3 : xm_ins 48 3 = some (.invokevirtual 140, 6, 49, 3, 1) := rfl
theorem xi_48_6 : xm_ins 48 6 = some (.ireturn, 7, 0, 0, 0) := rfl
theorem xn_49 (pc : Nat) : xm_ins 49 pc = xm_find xt_49 pc := rfl
theorem xi_49_0 : xm_ins 49 0 = some (.iconst 0, 1, 0, 0, 0) := rfl
theorem xi_49_1 : xm_ins 49 1 = some (.istore_n 3, 2, 3, 0, 0) := rfl
theorem xi_49_2 : xm_ins 49 2 = some (.iconst 0, 3, 0, 0, 0) := rfl
theorem xi_49_3 : xm_ins 49 3 = some (.istore 4, 5, 4, 0, 0) := rfl
theorem xi_49_5 : xm_ins 49 5 = some (.iload 4, 7, 4, 0, 0) := rfl
theorem xi_49_7 : xm_ins 49 7 = some (.bipush 30, 9, 0, 0, 30) := rfl
theorem xi_49_9 : xm_ins 49 9 = some (.if_icmp .ge 54, 12, 63, 0, 0) := rfl
theorem xi_49_12 : xm_ins 49 12 = some (.aload_n 0, 13, 0, 0, 0) := rfl
theorem xi_49_13 : xm_ins 49 13 = some (.getfield 18, 16, 1, 2, 1) := rfl
theorem xi_49_16 : xm_ins 49 16 = some (.iload 4, 18, 4, 0, 0) := rfl
theorem xi_49_18 : xm_ins 49 18 = some (.iaload, 19, 0, 0, 0) := rfl
theorem xi_49_19 : xm_ins 49 19 = some (.istore 5, 21, 5, 0, 0) := rfl
theorem xi_49_21 : xm_ins 49 21 = some (.iload 5, 23, 5, 0, 0) := rfl
theorem xi_49_23 : xm_ins 49 23 = some (.iconst (-1), 24, 0, 0, (-1)) := rfl
theorem xi_49_24 : xm_ins 49 24 = some (.if_icmp .eq 33, 27, 57, 0, 0) := rfl
theorem xi_49_27 : xm_ins 49 27 = some (.aload_n 0, 28, 0, 0, 0) := rfl
theorem xi_49_28 : xm_ins 49 28 = some (.getfield 9, 31, 1, 0, 1) := rfl
theorem xi_49_31 : xm_ins 49 31 = some (.iload 5, 33, 5, 0, 0) := rfl
theorem xi_49_33 : xm_ins 49 33 = some (.iconst 5, 34, 0, 0, 5) := rfl
theorem xi_49_34 : xm_ins 49 34 = some (.idiv, 35, 0, 0, 0) := rfl
theorem xi_49_35 : xm_ins 49 35 = some (.iaload, 36, 0, 0, 0) := rfl
theorem xi_49_36 : xm_ins 49 36 = some (.istore 6, 38, 6, 0, 0) := rfl
theorem xi_49_38 : xm_ins 49 38 = some (.iload 6, 40, 6, 0, 0) := rfl
theorem xi_49_40 : xm_ins 49 40 = some (.iload_n 1, 41, 1, 0, 0) := rfl
theorem xi_49_41 : xm_ins 49 41 = some (.if_icmp .lt 16, 44, 57, 0, 0) := rfl
theorem xi_49_44 : xm_ins 49 44 = some (.iload 6, 46, 6, 0, 0) := rfl
theorem xi_49_46 : xm_ins 49 46 = some (.iload_n 2, 47, 2, 0, 0) := rfl
theorem xi_49_47 : xm_ins 49 47 = some (.if_icmp .gt 10, 50, 57, 0, 0) := rfl
theorem xi_49_50 : xm_ins 49 50 = some (.iload_n 3, 51, 3, 0, 0) := rfl
theorem xi_49_51 : xm_ins 49 51 = some (.iconst 1, 52, 0, 0, 1) := rfl
theorem xi_49_52 : xm_ins 49 52 = some (.iload 4, 54, 4, 0, 0) := rfl
theorem xi_49_54 : xm_ins 49 54 = some (.ishl, 55, 0, 0, 0) := rfl
theorem xi_49_55 : xm_ins 49 55 = some (.ior, 56, 0, 0, 0) := rfl
theorem xi_49_56 : xm_ins 49 56 = some (.istore_n 3, 57, 3, 0, 0) := rfl
theorem xi_49_57 : xm_ins 49 57 = some (.iinc 4 1, 60, 4, 0, 1) := rfl
theorem xi_49_60 : xm_ins 49 60 = some (.goto (-55), 63, 5, 0, 0) := rfl
theorem xi_49_63 : xm_ins 49 63 = some (.iload_n 3, 64, 3, 0, 0) := rfl
theorem xi_49_64 : xm_ins 49 64 = some (.ireturn, 65, 0, 0, 0) := rfl
theorem xn_50 (pc : Nat) : xm_ins 50 pc = xm_find xt_50 pc := rfl
theorem xi_50_0 : xm_ins 50 0 = some (.aload_n 0, 1, 0, 0, 0) := rfl
theorem xi_50_1 : xm_ins 50 1 = some (.getfield 30, 4, 1, 6, 0) := rfl
theorem xi_50_4 : xm_ins 50 4 = some (.istore_n 1, 5, 1, 0, 0) := rfl
theorem xi_50_5 : xm_ins 50 5 = some (.iconst 0, 6, 0, 0, 0) := rfl
theorem xi_50_6 : xm_ins 50 6 = some (.istore_n 2, 7, 2, 0, 0) := rfl
theorem xi_50_7 : xm_ins 50 7 = some (.iload_n 2, 8, 2, 0, 0) := rfl
theorem xi_50_8 : xm_ins 50 8 = some (.iconst 4, 9, 0, 0, 4) := rfl
theorem xi_50_9 : xm_ins 50 9 = some (.if_icmp .ge 30, 12, 39, 0, 0) := rfl
theorem xi_50_12 : xm_ins 50 12 = some (.aload_n 0, 13, 0, 0, 0) := rfl
theorem xi_50_13 : xm_ins 50 13 = some (.getfield 27, 16, 1, 5, 1) := rfl
theorem xi_50_16 : xm_ins 50 16 = some (.iload_n 2, 17, 2, 0, 0) := rfl
theorem xi_50_17 : xm_ins 50 17 = some (.iaload, 18, 0, 0, 0) := rfl
theorem xi_50_18 : xm_ins 50 18 = some (.iconst (-1), 19, 0, 0, (-1)) := rfl
theorem xi_50_19 : xm_ins 50 19 = some (.if_icmp .eq 14, 22, 33, 0, 0) := rfl
theorem xi_50_22 : xm_ins 50 22 = some (.iload_n 1, 23, 1, 0, 0) := rfl
theorem xi_50_23 : xm_ins 50 23 = some (.iconst 1, 24, 0, 0, 1) := rfl
theorem xi_50_24 : xm_ins 50 24 = some (.aload_n 0, 25, 0, 0, 0) := rfl
theorem xi_50_25 : xm_ins 50 25 = some (.getfield 27, 28, 1, 5, 1) := rfl
theorem xi_50_28 : xm_ins 50 28 = some (.iload_n 2, 29, 2, 0, 0) := rfl
theorem xi_50_29 : xm_ins 50 29 = some (.iaload, 30, 0, 0, 0) := rfl
theorem xi_50_30 : xm_ins 50 30 = some (.ishl, 31, 0, 0, 0) := rfl
theorem xi_50_31 : xm_ins 50 31 = some (.ior, 32, 0, 0, 0) := rfl
theorem xi_50_32 : xm_ins 50 32 = some (.istore_n 1, 33, 1, 0, 0) := rfl
theorem xi_50_33 : xm_ins 50 33 = some (.iinc 2 1, 36, 2, 0, 1) := rfl
theorem xi_50_36 : xm_ins 50 36 = some (.goto (-29), 39, 7, 0, 0) := rfl
theorem xi_50_39 : xm_ins 50 39 = some (.iload_n 1, 40, 1, 0, 0) := rfl
theorem xi_50_40 : xm_ins 50 40 = some (.ireturn, 41, 0, 0, 0) := rfl
theorem xn_51 (pc : Nat) : xm_ins 51 pc = xm_find xt_51 pc := rfl
theorem xi_51_0 : xm_ins 51 0 = some (.aload_n 0, 1, 0, 0, 0) := rfl
theorem xi_51_1 : xm_ins 51 1 = some (.aload_n 0, 2, 0, 0, 0) := rfl
theorem xi_51_2 : xm_ins 51 2 = some (.invokevirtual 143, 5, 50, 1, 1) := rfl
theorem xi_51_5 : xm_ins 51 5 = some (.aload_n 0, 6, 0, 0, 0) := rfl
theorem xi_51_6 : xm_ins 51 6 = some (.invokevirtual 116, 9, 47, 1, 1) := rfl
theorem xi_51_9 : xm_ins 51 9 = some (.invokevirtual 146, 12, 54, 3, 1) := rfl
theorem xi_51_12 : xm_ins 51 12 = some (.ireturn, 13, 0, 0, 0) := rfl
theorem xn_52 (pc : Nat) : xm_ins 52 pc = xm_find xt_52 pc := rfl
theorem xi_52_0 : xm_ins 52 0 = some (.aload_n 0, 1, 0, 0, 0) := rfl
theorem xi_52_1 : xm_ins 52 1 = some (.iload_n 1, 2, 1, 0, 0) := rfl
theorem xi_52_2 : xm_ins 52 2 = some (.invokevirtual 100, 5, 48, 2, 1) := rfl
theorem xi_52_5 : xm_ins 52 5 = some (.istore_n 2, 6, 2, 0, 0) := rfl
theorem xi_52_6 : xm_ins 52 6 = some (.aload_n 0, 7, 0, 0, 0) := rfl
theorem xi_52_7 : xm_ins 52 7 = some (.aload_n 0, 8, 0, 0, 0) := rfl
theorem xi_52_8 : xm_ins 52 8 = some (.invokevirtual 116, 11, 47, 1, 1) := rfl
theorem xi_52_11 : xm_ins 52 11 = some (.iload_n 2, 12, 2, 0, 0) := rfl
theorem xi_52_12 : xm_ins 52 12 = some (.iconst (-1), 13, 0, 0, (-1)) := rfl
theorem xi_52_13 : xm_ins 52 13 = some (.ixor, 14, 0, 0, 0) := rfl
theorem xi_52_14 : xm_ins 52 14 = some (.iand, 15, 0, 0, 0) := rfl
theorem xi_52_15 : xm_ins 52 15 = some (.invokevirtual 149, 18, 53, 2, 1) := rfl
theorem xi_52_18 : xm_ins 52 18 = some (.istore_n 3, 19, 3, 0, 0) := rfl
theorem xi_52_19 : xm_ins 52 19 = some (.aload_n 0, 20, 0, 0, 0) := rfl
theorem xi_52_20 : xm_ins 52 20 = some (.aload_n 0, 21, 0, 0, 0) := rfl
theorem xi_52_21 : xm_ins 52 21 = some (.invokevirtual 143, 24, 50, 1, 1) := rfl
theorem xi_52_24 : xm_ins 52 24 = some (.iload_n 3, 25, 3, 0, 0) := rfl
theorem xi_52_25 : xm_ins 52 25 = some (.ior, 26, 0, 0, 0) := rfl
theorem xi_52_26 : xm_ins 52 26 = some (.iload_n 2, 27, 2, 0, 0) := rfl
theorem xi_52_27 : xm_ins 52 27 = some (.invokevirtual 146, 30, 54, 3, 1) := rfl
theorem xi_52_30 : xm_ins 52 30 = some (.ireturn, 31, 0, 0, 0) := rfl
theorem xn_53 (pc : Nat) : xm_ins 53 pc = xm_find xt_53 pc := rfl
theorem xi_53_0 : xm_ins 53 0 = some (.iconst 0, 1, 0, 0, 0) := rfl
theorem xi_53_1 : xm_ins 53 1 = some (.istore_n 2, 2, 2, 0, 0) := rfl
theorem xi_53_2 : xm_ins 53 2 = some (.iconst 0, 3, 0, 0, 0) := rfl
theorem xi_53_3 : xm_ins 53 3 = some (.istore_n 3, 4, 3, 0, 0) := rfl
theorem xi_53_4 : xm_ins 53 4 = some (.iload_n 3, 5, 3, 0, 0) := rfl
theorem xi_53_5 : xm_ins 53 5 = some (.bipush 30, 7, 0, 0, 30) := rfl
theorem xi_53_7 : xm_ins 53 7 = some (.if_icmp .ge 58, 10, 65, 0, 0) := rfl
theorem xi_53_10 : xm_ins 53 10 = some (.iload_n 1, 11, 1, 0, 0) := rfl
theorem xi_53_11 : xm_ins 53 11 = some (.iload_n 3, 12, 3, 0, 0) := rfl
theorem xi_53_12 : xm_ins 53 12 = some (.ishr, 13, 0, 0, 0) := rfl
theorem xi_53_13 : xm_ins 53 13 = some (.iconst 1, 14, 0, 0, 1) := rfl
theorem xi_53_14 : xm_ins 53 14 = some (.iand, 15, 0, 0, 0) := rfl
theorem xi_53_15 : xm_ins 53 15 = some (.ifCond .eq 44, 18, 59, 0, 0) := rfl
theorem xi_53_18 : xm_ins 53 18 = some (.iconst 0, 19, 0, 0, 0) := rfl
theorem xi_53_19 : xm_ins 53 19 = some (.istore 4, 21, 4, 0, 0) := rfl
theorem xi_53_21 : xm_ins 53 21 = some (.iload 4, 23, 4, 0, 0) := rfl
theorem xi_53_23 : xm_ins 53 23 = some (.iconst 3, 24, 0, 0, 3) := rfl
theorem xi_53_24 : xm_ins 53 24 = some (.if_icmp .ge 35, 27, 59, 0, 0) := rfl
theorem xi_53_27 : xm_ins 53 27 = some (.aload_n 0, 28, 0, 0, 0) := rfl
theorem xi_53_28 : xm_ins 53 28 = some (.getfield 21, 31, 1, 3, 1) := rfl
theorem xi_53_31 : xm_ins 53 31 = some (.iload_n 3, 32, 3, 0, 0) := rfl
theorem xi_53_32 : xm_ins 53 32 = some (.iconst 3, 33, 0, 0, 3) := rfl
theorem xi_53_33 : xm_ins 53 33 = some (.imul, 34, 0, 0, 0) := rfl
theorem xi_53_34 : xm_ins 53 34 = some (.iload 4, 36, 4, 0, 0) := rfl
theorem xi_53_36 : xm_ins 53 36 = some (.iadd, 37, 0, 0, 0) := rfl
theorem xi_53_37 : xm_ins 53 37 = some (.iaload, 38, 0, 0, 0) := rfl
theorem xi_53_38 : xm_ins 53 38 = some (.istore 5, 40, 5, 0, 0) := rfl
theorem xi_53_40 : xm_ins 53 40 = some (.iload 5, 42, 5, 0, 0) := rfl
theorem xi_53_42 : xm_ins 53 42 = some (.iconst (-1), 43, 0, 0, (-1)) := rfl
theorem xi_53_43 : xm_ins 53 43 = some (.if_icmp .eq 10, 46, 53, 0, 0) := rfl
theorem xi_53_46 : xm_ins 53 46 = some (.iload_n 2, 47, 2, 0, 0) := rfl
theorem xi_53_47 : xm_ins 53 47 = some (.iconst 1, 48, 0, 0, 1) := rfl
theorem xi_53_48 : xm_ins 53 48 = some (.iload 5, 50, 5, 0, 0) := rfl
theorem xi_53_50 : xm_ins 53 50 = some (.ishl, 51, 0, 0, 0) := rfl
theorem xi_53_51 : xm_ins 53 51 = some (.ior, 52, 0, 0, 0) := rfl
theorem xi_53_52 : xm_ins 53 52 = some (.istore_n 2, 53, 2, 0, 0) := rfl
theorem xi_53_53 : xm_ins 53 53 = some (.iinc 4 1, 56, 4, 0, 1) := rfl
theorem xi_53_56 : xm_ins 53 56 = some (.goto (-35), 59, 21, 0, 0) := rfl
theorem xi_53_59 : xm_ins 53 59 = some (.iinc 3 1, 62, 3, 0, 1) := rfl
theorem xi_53_62 : xm_ins 53 62 = some (.goto (-58), 65, 4, 0, 0) := rfl
theorem xi_53_65 : xm_ins 53 65 = some (.iload_n 2, 66, 2, 0, 0) := rfl
theorem xi_53_66 : xm_ins 53 66 = some (.ireturn, 67, 0, 0, 0) := rfl
theorem xn_54 (pc : Nat) : xm_ins 54 pc = xm_find xt_54 pc := rfl
theorem xi_54_0 : xm_ins 54 0 = some (.iload_n 1, 1, 1, 0, 0) := rfl
theorem xi_54_1 : xm_ins 54 1 = some (.iload_n 2, 2, 2, 0, 0) := rfl
theorem xi_54_2 : xm_ins 54 2 = some (.iand, 3, 0, 0, 0) := rfl
theorem xi_54_3 : xm_ins 54 3 = some (.istore_n 3, 4, 3, 0, 0) := rfl
theorem xi_54_4 : xm_ins 54 4 = some (.iload_n 3, 5, 3, 0, 0) := rfl
theorem xi_54_5 : xm_ins 54 5 = some (.istore 4, 7, 4, 0, 0) := rfl
theorem xi_54_7 : xm_ins 54 7 = some (.iconst 0, 8, 0, 0, 0) := rfl
theorem xi_54_8 : xm_ins 54 8 = some (.istore 5, 10, 5, 0, 0) := rfl
theorem xi_54_10 : xm_ins 54 10 = some (.iload 5, 12, 5, 0, 0) := rfl
theorem xi_54_12 : xm_ins 54 12 = some (.bipush 30, 14, 0, 0, 30) := rfl
theorem xi_54_14 : xm_ins 54 14 = some (.if_icmp .ge 33, 17, 47, 0, 0) := rfl
theorem xi_54_17 : xm_ins 54 17 = some (.iload 4, 19, 4, 0, 0) := rfl
theorem xi_54_19 : xm_ins 54 19 = some (.ifCond .eq 28, 22, 47, 0, 0) := rfl
theorem xi_54_22 : xm_ins 54 22 = some (.aload_n 0, 23, 0, 0, 0) := rfl
theorem xi_54_23 : xm_ins 54 23 = some (.iload 4, 25, 4, 0, 0) := rfl
theorem xi_54_25 : xm_ins 54 25 = some (.invokevirtual 149, 28, 53, 2, 1) := rfl
theorem xi_54_28 : xm_ins 54 28 = some (.iload_n 2, 29, 2, 0, 0) := rfl
theorem xi_54_29 : xm_ins 54 29 = some (.iand, 30, 0, 0, 0) := rfl
theorem xi_54_30 : xm_ins 54 30 = some (.iload_n 3, 31, 3, 0, 0) := rfl
theorem xi_54_31 : xm_ins 54 31 = some (.iconst (-1), 32, 0, 0, (-1)) := rfl
theorem xi_54_32 : xm_ins 54 32 = some (.ixor, 33, 0, 0, 0) := rfl
theorem xi_54_33 : xm_ins 54 33 = some (.iand, 34, 0, 0, 0) := rfl
theorem xi_54_34 : xm_ins 54 34 = some (.istore 4, 36, 4, 0, 0) := rfl
theorem xi_54_36 : xm_ins 54 36 = some (.iload_n 3, 37, 3, 0, 0) := rfl
theorem xi_54_37 : xm_ins 54 37 = some (.iload 4, 39, 4, 0, 0) := rfl
theorem xi_54_39 : xm_ins 54 39 = some (.ior, 40, 0, 0, 0) := rfl
theorem xi_54_40 : xm_ins 54 40 = some (.istore_n 3, 41, 3, 0, 0) := rfl
theorem xi_54_41 : xm_ins 54 41 = some (.iinc 5 1, 44, 5, 0, 1) := rfl
theorem xi_54_44 : xm_ins 54 44 = some (.goto (-34), 47, 10, 0, 0) := rfl
theorem xi_54_47 : xm_ins 54 47 = some (.iload_n 3, 48, 3, 0, 0) := rfl
theorem xi_54_48 : xm_ins 54 48 = some (.ireturn, 49, 0, 0, 0) := rfl
theorem xn_55 (pc : Nat) : xm_ins 55 pc = xm_find xt_55 pc := rfl
theorem xi_55_0 : xm_ins 55 0 = some (.aload_n 0, 1, 0, 0, 0) := rfl
theorem xi_55_1 : xm_ins 55 1 = some (.invokespecial 3, 4, 1000, 0, 0) := rfl
theorem xi_55_4 : xm_ins 55 4 = some (.aload_n 0, 5, 0, 0, 0) := rfl
theorem xi_55_5 : xm_ins 55 5 = some (.bipush 6, 7, 0, 0, 6) := rfl
theorem xi_55_7 : xm_ins 55 7 = some (.anewarray 9, 10, 0, 0, 0) := rfl
theorem xi_55_10 : xm_ins 55 10 = some (.putfield 11, 13, 2, 0, 1) := rfl
theorem xi_55_13 : xm_ins 55 13 = some (.aload_n 0, 14, 0, 0, 0) := rfl
theorem xi_55_14 : xm_ins 55 14 = some (.new 15, 17, 0, 6, 0) := rfl
theorem xi_55_17 : xm_ins 55 17 = some (.dup, 18, 0, 0, 0) := rfl
theorem xi_55_18 : xm_ins 55 18 = some (.invokespecial 17, 21, 0, 1, 0) := rfl
theorem xi_55_21 : xm_ins 55 21 = some (.putfield 18, 24, 2, 1, 1) := rfl
theorem xi_55_24 : xm_ins 55 24 = some (.aload_n 0, 25, 0, 0, 0) := rfl
theorem xi_55_25 : xm_ins 55 25 = some (.iconst 0, 26, 0, 0, 0) := rfl
theorem xi_55_26 : xm_ins 55 26 = some (.putfield 22, 29, 2, 2, 0) := rfl
theorem xi_55_29 : xm_ins 55 29 = some (.aload_n 0, 30, 0, 0, 0) := rfl
theorem xi_55_30 : xm_ins 55 30 = some (.iconst 0, 31, 0, 0, 0) := rfl
theorem xi_55_31 : xm_ins 55 31 = some (.putfield 26, 34, 2, 3, 0) := rfl
theorem xi_55_34 : xm_ins 55 34 = some (.iconst 0, 35, 0, 0, 0) := rfl
theorem xi_55_35 : xm_ins 55 35 = some (.istore_n 1, 36, 1, 0, 0) := rfl
theorem xi_55_36 : xm_ins 55 36 = some (.iload_n 1, 37, 1, 0, 0) := rfl
theorem xi_55_37 : xm_ins 55 37 = some (.bipush 6, 39, 0, 0, 6) := rfl
theorem xi_55_39 : xm_ins 55 39 = some (.if_icmp .ge 22, 42, 61, 0, 0) := rfl
theorem xi_55_42 : xm_ins 55 42 = some (.aload_n 0, 43, 0, 0, 0) := rfl
theorem xi_55_43 : xm_ins 55 43 = some (.getfield 11, 46, 2, 0, 1) := rfl
theorem xi_55_46 : xm_ins 55 46 = some (.iload_n 1, 47, 1, 0, 0) := rfl
theorem xi_55_47 : xm_ins 55 47 = some (.new 9, 50, 1, 11, 0) := rfl
theorem xi_55_50 : xm_ins 55 50 = some (.dup, 51, 0, 0, 0) := rfl
theorem xi_55_51 : xm_ins 55 51 = some (.invokespecial 29, 54, 11, 1, 1) := rfl
theorem xi_55_54 : xm_ins 55 54 = some (.aastore, 55, 0, 0, 0) := rfl
theorem xi_55_55 : xm_ins 55 55 = some (.iinc 1 1, 58, 1, 0, 1) := rfl
theorem xi_55_58 : xm_ins 55 58 = some (.goto (-22), 61, 36, 0, 0) := rfl
theorem xi_55_61 : xm_ins 55 61 = some (.return_, 62, 0, 0, 0) := rfl
theorem xn_56 (pc : Nat) : xm_ins 56 pc = xm_find xt_56 pc := rfl
theorem xi_56_0 : xm_ins 56 0 = some (.aload_n 0, 1, 0, 0, 0) := rfl
theorem xi_56_1 : xm_ins 56 1 = some (.aload_n 0, 2, 0, 0, 0) := rfl
theorem xi_56_2 : xm_ins 56 2 = some (.invokevirtual 30, 5, 80, 1, 2) := rfl
theorem xi_56_5 : xm_ins 56 5 = some (.invokevirtual 34, 8, 14, 1, 1) := rfl
theorem xi_56_8 : xm_ins 56 8 = some (.invokevirtual 38, 11, 81, 2, 2) := rfl
theorem xi_56_11 : xm_ins 56 11 = some (.ireturn, 12, 0, 0, 0) := rfl
theorem xn_57 (pc : Nat) : xm_ins 57 pc = xm_find xt_57 pc := rfl
theorem xi_57_0 : xm_ins 57 0 = some (.aload_n 0, 1, 0, 0, 0) := rfl
theorem xi_57_1 : xm_ins 57 1 = some (.aload_n 0, 2, 0, 0, 0) := rfl
theorem xi_57_2 : xm_ins 57 2 = some (.invokevirtual 30, 5, 80, 1, 2) := rfl
theorem xi_57_5 : xm_ins 57 5 = some (.iload_n 1, 6, 1, 0, 0) := rfl
theorem xi_57_6 : xm_ins 57 6 = some (.iload_n 2, 7, 2, 0, 0) := rfl
theorem xi_57_7 : xm_ins 57 7 = some (.invokevirtual 42, 10, 15, 3, 1) := rfl
theorem xi_57_10 : xm_ins 57 10 = some (.invokevirtual 38, 13, 81, 2, 2) := rfl
theorem xi_57_13 : xm_ins 57 13 = some (.ireturn, 14, 0, 0, 0) := rfl
theorem xn_58 (pc : Nat) : xm_ins 58 pc = xm_find xt_58 pc := rfl
theorem xi_58_0 : xm_ins 58 0 = some (.aload_n 0, 1, 0, 0, 0) := rfl
theorem xi_58_1 : xm_ins 58 1 = some (.aload_n 0, 2, 0, 0, 0) := rfl
theorem xi_58_2 : xm_ins 58 2 = some (.invokevirtual 30, 5, 80, 1, 2) := rfl
theorem xi_58_5 : xm_ins 58 5 = some (.iload_n 1, 6, 1, 0, 0) := rfl
theorem xi_58_6 : xm_ins 58 6 = some (.invokevirtual 46, 9, 16, 2, 1) := rfl
theorem xi_58_9 : xm_ins 58 9 = some (.invokevirtual 38, 12, 81, 2, 2) := rfl
theorem xi_58_12 : xm_ins 58 12 = some (.ireturn, 13, 0, 0, 0) := rfl
theorem xn_59 (pc : Nat) : xm_ins 59 pc = xm_find xt_59 pc := rfl
theorem xi_59_0 : xm_ins 59 0 = some (.aload_n 0, 1, 0, 0, 0) := rfl
theorem xi_59_1 : xm_ins 59 1 = some (.aload_n 0, 2, 0, 0, 0) := rfl
theorem xi_59_2 : xm_ins 59 2 = some (.invokevirtual 30, 5, 80, 1, 2) := rfl
theorem xi_59_5 : xm_ins 59 5 = some (.iload_n 1, 6, 1, 0, 0) := rfl
theorem xi_59_6 : xm_ins 59 6 = some (.iload_n 2, 7, 2, 0, 0) := rfl
theorem xi_59_7 : xm_ins 59 7 = some (.iload_n 3, 8, 3, 0, 0) := rfl
theorem xi_59_8 : xm_ins 59 8 = some (.invokevirtual 49, 11, 17, 4, 1) := rfl
theorem xi_59_11 : xm_ins 59 11 = some (.invokevirtual 38, 14, 81, 2, 2) := rfl
theorem xi_59_14 : xm_ins 59 14 = some (.ireturn, 15, 0, 0, 0) := rfl
theorem xn_60 (pc : Nat) : xm_ins 60 pc = xm_find xt_60 pc := rfl
theorem xi_60_0 : xm_ins 60 0 = some (.aload_n 0, 1, 0, 0, 0) := rfl
theorem xi_60_1 : xm_ins 60 1 = some (.aload_n 0, 2, 0, 0, 0) := rfl
theorem xi_60_2 : xm_ins 60 2 = some (.invokevirtual 30, 5, 80, 1, 2) := rfl
theorem xi_60_5 : xm_ins 60 5 = some (.iload_n 1, 6, 1, 0, 0) := rfl
theorem xi_60_6 : xm_ins 60 6 = some (.iload_n 2, 7, 2, 0, 0) := rfl
theorem xi_60_7 : xm_ins 60 7 = some (.invokevirtual 53, 10, 18, 3, 1) := rfl
theorem xi_60_10 : xm_ins 60 10 = some (.invokevirtual 38, 13, 81, 2, 2) := rfl
theorem xi_60_13 : xm_ins 60 13 = some (.ireturn, 14, 0, 0, 0) := rfl
theorem xn_61 (pc : Nat) : xm_ins 61 pc = xm_find xt_61 pc := rfl
theorem xi_61_0 : xm_ins 61 0 = some (.aload_n 0, 1, 0, 0, 0) := rfl
theorem xi_61_1 : xm_ins 61 1 = some (.aload_n 0, 2, 0, 0, 0) := rfl
theorem xi_61_2 : xm_ins 61 2 = some (.invokevirtual 30, 5, 80, 1, 2) := rfl
theorem xi_61_5 : xm_ins 61 5 = some (.iload_n 1, 6, 1, 0, 0) := rfl
theorem xi_61_6 : xm_ins 61 6 = some (.invokevirtual 56, 9, 19, 2, 1) := rfl
theorem xi_61_9 : xm_ins 61 9 = some (.invokevirtual 38, 12, 81, 2, 2) := rfl
theorem xi_61_12 : xm_ins 61 12 = some (.ireturn, 13, 0, 0, 0) := rfl
theorem xn_62 (pc : Nat) : xm_ins 62 pc = xm_find xt_62 pc := rfl
theorem xi_62_0 : xm_ins 62 0 = some (.aload_n 0, 1, 0, 0, 0) := rfl
theorem xi_62_1 : xm_ins 62 1 = some (.aload_n 0, 2, 0, 0, 0) := rfl
theorem xi_62_2 : xm_ins 62 2 = some (.invokevirtual 30, 5, 80, 1, 2) := rfl
theorem xi_62_5 : xm_ins 62 5 = some (.iload_n 1, 6, 1, 0, 0) := rfl
theorem xi_62_6 : xm_ins 62 6 = some (.invokevirtual 59, 9, 20, 2, 1) := rfl
theorem xi_62_9 : xm_ins 62 9 = some (.invokevirtual 38, 12, 81, 2, 2) := rfl
theorem xi_62_12 : xm_ins 62 12 = some (.ireturn, 13, 0, 0, 0) := rfl
theorem xn_63 (pc : Nat) : xm_ins 63 pc = xm_find xt_63 pc := rfl
theorem xi_63_0 : xm_ins 63 0 = some (.aload_n 0, 1, 0, 0, 0) := rfl
theorem xi_63_1 : xm_ins 63 1 = some (.aload_n 0, 2, 0, 0, 0) := rfl
theorem xi_63_2 : xm_ins 63 2 = some (.invokevirtual 30, 5, 80, 1, 2) := rfl
theorem xi_63_5 : xm_ins 63 5 = some (.iload_n 1, 6, 1, 0, 0) := rfl
theorem xi_63_6 : xm_ins 63 6 = some (.invokevirtual 62, 9, 21, 2, 1) := rfl
theorem xi_63_9 : xm_ins 63 9 = some (.invokevirtual 38, 12, 81, 2, 2) := rfl
theorem xi_63_12 : xm_ins 63 12 = some (.ireturn, 13, 0, 0, 0) := rfl
theorem xn_64 (pc : Nat) : xm_ins 64 pc = xm_find xt_64 pc := rfl
theorem xi_64_0 : xm_ins 64 0 = some (.aload_n 0, 1, 0, 0, 0) := rfl
theorem xi_64_1 : xm_ins 64 1 = some (.aload_n 0, 2, 0, 0, 0) := rfl
theorem xi_64_2 : xm_ins 64 2 = some (.invokevirtual 30, 5, 80, 1, 2) := rfl
theorem xi_64_5 : xm_ins 64 5 = some (.invokevirtual 65, 8, 22, 1, 1) := rfl
theorem xi_64_8 : xm_ins 64 8 = some (.invokevirtual 38, 11, 81, 2, 2) := rfl
theorem xi_64_11 : xm_ins 64 11 = some (.ireturn, 12, 0, 0, 0) := rfl
theorem xn_65 (pc : Nat) : xm_ins 65 pc = xm_find xt_65 pc := rfl
theorem xi_65_0 : xm_ins 65 0 = some (.aload_n 0, 1, 0, 0, 0) := rfl
theorem xi_65_1 : xm_ins 65 1 = some (.invokevirtual 68, 4, 79, 1, 2) := rfl
theorem xi_65_4 : xm_ins 65 4 = some (.astore_n 3, 5, 3, 0, 0) := rfl
theorem xi_65_5 : xm_ins 65 5 = some (.aload_n 3, 6, 3, 0, 0) := rfl
theorem xi_65_6 : xm_ins 65 6 = some (.iload_n 1, 7, 1, 0, 0) := rfl
theorem xi_65_7 : xm_ins 65 7 = some (.invokevirtual 71, 10, 33, 2, 1) := rfl
theorem xi_65_10 : xm_ins 65 10 = some (.ifCond .ne 6, 13, 16, 0, 0) := rfl
theorem xi_65_13 : xm_ins 65 13 = some (.ldc 75, 15, 0, 0, (-1000001)) := rfl
theorem xi_65_15 : xm_ins 65 15 = some (.ireturn, 16, 0, 0, 0) := rfl
theorem xi_65_16 : xm_ins 65 16 = some (.iload_n 2, 17, 2, 0, 0) := rfl
theorem xi_65_17 : xm_ins 65 17 = some (.tableswitch 134 0 9 #[55, 69, 78, 87, 104, 104, 104, 116, 122, 128], 72, 0, 0, 0) := rfl
theorem xi_65_72 : xm_ins 65 72 = some (.aload_n 3, 73, 3, 0, 0) := rfl
theorem xi_65_73 : xm_ins 65 73 = some (.iload_n 1, 74, 1, 0, 0) := rfl
theorem xi_65_74 : xm_ins 65 74 = some (.invokevirtual 76, 77, 34, 2, 1) := rfl
theorem xi_65_77 : xm_ins 65 77 = some (.ifCond .eq 7, 80, 84, 0, 0) := rfl
theorem xi_65_80 : xm_ins 65 80 = some (.iconst 1, 81, 0, 0, 1) := rfl
theorem xi_65_81 : xm_ins 65 81 = some (.goto 4, 84, 85, 0, 0) := rfl
theorem xi_65_84 : xm_ins 65 84 = some (.iconst 0, 85, 0, 0, 0) := rfl
theorem xi_65_85 : xm_ins 65 85 = some (.ireturn, 86, 0, 0, 0) := rfl
theorem xi_65_86 : xm_ins 65 86 = some (.aload_n 3, 87, 3, 0, 0) := rfl
theorem xi_65_87 : xm_ins 65 87 = some (.iload_n 1, 88, 1, 0, 0) := rfl
theorem xi_65_88 : xm_ins 65 88 = some (.invokevirtual 79, 91, 35, 2, 1) := rfl
theorem xi_65_91 : xm_ins 65 91 = some (.invokestatic 82, 94, 82, 1, 2) := rfl
theorem xi_65_94 : xm_ins 65 94 = some (.ireturn, 95, 0, 0, 0) := rfl
theorem xi_65_95 : xm_ins 65 95 = some (.aload_n 3, 96, 3, 0, 0) := rfl
theorem xi_65_96 : xm_ins 65 96 = some (.iload_n 1, 97, 1, 0, 0) := rfl
theorem xi_65_97 : xm_ins 65 97 = some (.invokevirtual 85, 100, 36, 2, 1) := rfl
theorem xi_65_100 : xm_ins 65 100 = some (.invokestatic 82, 103, 82, 1, 2) := rfl
theorem xi_65_103 : xm_ins 65 103 = some (.ireturn, 104, 0, 0, 0) := rfl
theorem xi_65_104 : xm_ins 65 104 = some (.aload_n 3, 105, 3, 0, 0) := rfl
theorem xi_65_105 : xm_ins 65 105 = some (.getfield 88, 108, 1, 6, 0) := rfl
theorem xi_65_108 : xm_ins 65 108 = some (.iload_n 1, 109, 1, 0, 0) := rfl
theorem xi_65_109 : xm_ins 65 109 = some (.invokestatic 91, 112, 83, 2, 2) := rfl
theorem xi_65_112 : xm_ins 65 112 = some (.ifCond .eq 7, 115, 119, 0, 0) := rfl
theorem xi_65_115 : xm_ins 65 115 = some (.iconst 1, 116, 0, 0, 1) := rfl
theorem xi_65_116 : xm_ins 65 116 = some (.goto 4, 119, 120, 0, 0) := rfl
theorem xi_65_119 : xm_ins 65 119 = some (.iconst 0, 120, 0, 0, 0) := rfl
theorem xi_65_120 : xm_ins 65 120 = some (.ireturn, 121, 0, 0, 0) := rfl
theorem xi_65_121 : xm_ins 65 121 = some (.aload_n 3, 122, 3, 0, 0) := rfl
theorem xi_65_122 : xm_ins 65 122 = some (.iload_n 1, 123, 1, 0, 0) := rfl
theorem xi_65_123 : xm_ins 65 123 = some (.iload_n 2, 124, 2, 0, 0) := rfl
theorem xi_65_124 : xm_ins 65 124 = some (.iconst 4, 125, 0, 0, 4) := rfl
theorem xi_65_125 : xm_ins 65 125 = some (.isub, 126, 0, 0, 0) := rfl
theorem xi_65_126 : xm_ins 65 126 = some (.invokevirtual 95, 129, 38, 3, 1) := rfl
theorem xi_65_129 : xm_ins 65 129 = some (.invokestatic 82, 132, 82, 1, 2) := rfl
theorem xi_65_132 : xm_ins 65 132 = some (.ireturn, 133, 0, 0, 0) := rfl
theorem xi_65_133 : xm_ins 65 133 = some (.aload_n 3, 134, 3, 0, 0) := rfl
theorem xi_65_134 : xm_ins 65 134 = some (.iload_n 1, 135, 1, 0, 0) := rfl
theorem xi_65_135 : xm_ins 65 135 = some (.invokevirtual 98, 138, 40, 2, 1) := rfl
theorem xi_65_138 : xm_ins 65 138 = some (.ireturn, 139, 0, 0, 0) := rfl
theorem xi_65_139 : xm_ins 65 139 = some (.aload_n 3, 140, 3, 0, 0) := rfl
theorem xi_65_140 : xm_ins 65 140 = some (.iload_n 1, 141, 1, 0, 0) := rfl
theorem xi_65_141 : xm_ins 65 141 = some (.invokevirtual 101, 144, 41, 2, 1) := rfl
theorem xi_65_144 : xm_ins 65 144 = some (.ireturn, 145, 0, 0, 0) := rfl
theorem xi_65_145 : xm_ins 65 145 = some (.aload_n 3, 146, 3, 0, 0) := rfl
theorem xi_65_146 : xm_ins 65 146 = some (.iload_n 1, 147, 1, 0, 0) := rfl
theorem xi_65_147 : xm_ins 65 147 = some (.invokevirtual 104, 150, 37, 2, 1) := rfl
theorem xi_65_150 : xm_ins 65 150 = some (.ireturn, 151, 0, 0, 0) := rfl
theorem xi_65_151 : xm_ins 65 151 = some (.ldc 75, 153, 0, 0, (-1000001)) := rfl
theorem xi_65_153 : xm_ins 65 153 = some (.ireturn, 154, 0, 0, 0) := rfl
theorem xn_66 (pc : Nat) : xm_ins 66 pc = xm_find xt_66 pc := rfl
theorem xi_66_0 : xm_ins 66 0 = some (.iload_n 1, 1, 1, 0, 0) := rfl
theorem xi_66_1 : xm_ins 66 1 = some (.ifCond .lt 9, 4, 10, 0, 0) := rfl
theorem xi_66_4 : xm_ins 66 4 = some (.iload_n 1, 5, 1, 0, 0) := rfl
theorem xi_66_5 : xm_ins 66 5 = some (.bipush 8, 7, 0, 0, 8) := rfl
theorem xi_66_7 : xm_ins 66 7 = some (.if_icmp .lt 6, 10, 13, 0, 0) := rfl
theorem xi_66_10 : xm_ins 66 10 = some (.ldc 75, 12, 0, 0, (-1000001)) := rfl
theorem xi_66_12 : xm_ins 66 12 = some (.ireturn, 13, 0, 0, 0) := rfl
theorem xi_66_13 : xm_ins 66 13 = some (.aload_n 0, 14, 0, 0, 0) := rfl
theorem xi_66_14 : xm_ins 66 14 = some (.invokevirtual 68, 17, 79, 1, 2) := rfl
theorem xi_66_17 : xm_ins 66 17 = some (.astore_n 3, 18, 3, 0, 0) := rfl
theorem xi_66_18 : xm_ins 66 18 = some (.iload_n 2, 19, 2, 0, 0) := rfl
theorem xi_66_19 : xm_ins 66 19 = some (.tableswitch 86 0 7 #[45, 55, 64, 70, 70, 70, 70, 70], 64, 0, 0, 0) := rfl
theorem xi_66_64 : xm_ins 66 64 = some (.aload_n 3, 65, 3, 0, 0) := rfl
theorem xi_66_65 : xm_ins 66 65 = some (.getfield 107, 68, 1, 0, 1) := rfl
theorem xi_66_68 : xm_ins 66 68 = some (.iload_n 1, 69, 1, 0, 0) := rfl
theorem xi_66_69 : xm_ins 66 69 = some (.iaload, 70, 0, 0, 0) := rfl
theorem xi_66_70 : xm_ins 66 70 = some (.invokestatic 82, 73, 82, 1, 2) := rfl
theorem xi_66_73 : xm_ins 66 73 = some (.ireturn, 74, 0, 0, 0) := rfl
theorem xi_66_74 : xm_ins 66 74 = some (.aload_n 3, 75, 3, 0, 0) := rfl
theorem xi_66_75 : xm_ins 66 75 = some (.iload_n 1, 76, 1, 0, 0) := rfl
theorem xi_66_76 : xm_ins 66 76 = some (.invokevirtual 111, 79, 42, 2, 1) := rfl
theorem xi_66_79 : xm_ins 66 79 = some (.invokestatic 114, 82, 166, 1, 0) := rfl
theorem xi_66_82 : xm_ins 66 82 = some (.ireturn, 83, 0, 0, 0) := rfl
theorem xi_66_83 : xm_ins 66 83 = some (.aload_n 3, 84, 3, 0, 0) := rfl
theorem xi_66_84 : xm_ins 66 84 = some (.iload_n 1, 85, 1, 0, 0) := rfl
theorem xi_66_85 : xm_ins 66 85 = some (.invokevirtual 111, 88, 42, 2, 1) := rfl
theorem xi_66_88 : xm_ins 66 88 = some (.ireturn, 89, 0, 0, 0) := rfl
theorem xi_66_89 : xm_ins 66 89 = some (.aload_n 3, 90, 3, 0, 0) := rfl
theorem xi_66_90 : xm_ins 66 90 = some (.getfield 119, 93, 1, 1, 1) := rfl
theorem xi_66_93 : xm_ins 66 93 = some (.iload_n 1, 94, 1, 0, 0) := rfl
theorem xi_66_94 : xm_ins 66 94 = some (.iconst 5, 95, 0, 0, 5) := rfl
theorem xi_66_95 : xm_ins 66 95 = some (.imul, 96, 0, 0, 0) := rfl
theorem xi_66_96 : xm_ins 66 96 = some (.iload_n 2, 97, 2, 0, 0) := rfl
theorem xi_66_97 : xm_ins 66 97 = some (.iadd, 98, 0, 0, 0) := rfl
theorem xi_66_98 : xm_ins 66 98 = some (.iconst 3, 99, 0, 0, 3) := rfl
theorem xi_66_99 : xm_ins 66 99 = some (.isub, 100, 0, 0, 0) := rfl
theorem xi_66_100 : xm_ins 66 100 = some (.iaload, 101, 0, 0, 0) := rfl
theorem xi_66_101 : xm_ins 66 101 = some (.invokestatic 82, 104, 82, 1, 2) := rfl
theorem xi_66_104 : xm_ins 66 104 = some (.ireturn, 105, 0, 0, 0) := rfl
theorem xi_66_105 : xm_ins 66 105 = some (.ldc 75, 107, 0, 0, (-1000001)) := rfl
theorem xi_66_107 : xm_ins 66 107 = some (.ireturn, 108, 0, 0, 0) := rfl
theorem xn_67 (pc : Nat) : xm_ins 67 pc = xm_find xt_67 pc := rfl
theorem xi_67_0 : xm_ins 67 0 = some (.iload_n 1, 1, 1, 0, 0) := rfl
theorem xi_67_1 : xm_ins 67 1 = some (.ifCond .lt 8, 4, 9, 0, 0) := rfl
theorem xi_67_4 : xm_ins 67 4 = some (.iload_n 1, 5, 1, 0, 0) := rfl
theorem xi_67_5 : xm_ins 67 5 = some (.iconst 4, 6, 0, 0, 4) := rfl
theorem xi_67_6 : xm_ins 67 6 = some (.if_icmp .lt 6, 9, 12, 0, 0) := rfl
theorem xi_67_9 : xm_ins 67 9 = some (.ldc 75, 11, 0, 0, (-1000001)) := rfl
theorem xi_67_11 : xm_ins 67 11 = some (.ireturn, 12, 0, 0, 0) := rfl
theorem xi_67_12 : xm_ins 67 12 = some (.aload_n 0, 13, 0, 0, 0) := rfl
theorem xi_67_13 : xm_ins 67 13 = some (.invokevirtual 68, 16, 79, 1, 2) := rfl
theorem xi_67_16 : xm_ins 67 16 = some (.getfield 122, 19, 1, 5, 1) := rfl
theorem xi_67_19 : xm_ins 67 19 = some (.iload_n 1, 20, 1, 0, 0) := rfl
theorem xi_67_20 : xm_ins 67 20 = some (.iaload, 21, 0, 0, 0) := rfl
theorem xi_67_21 : xm_ins 67 21 = some (.invokestatic 82, 24, 82, 1, 2) := rfl
theorem xi_67_24 : xm_ins 67 24 = some (.ireturn, 25, 0, 0, 0) := rfl
theorem xn_68 (pc : Nat) : xm_ins 68 pc = xm_find xt_68 pc := rfl
theorem xi_68_0 : xm_ins 68 0 = some (.iload_n 1, 1, 1, 0, 0) := rfl
theorem xi_68_1 : xm_ins 68 1 = some (.ifCond .ge 6, 4, 7, 0, 0) := rfl
theorem xi_68_4 : xm_ins 68 4 = some (.ldc 75, 6, 0, 0, (-1000001)) := rfl
theorem xi_68_6 : xm_ins 68 6 = some (.ireturn, 7, 0, 0, 0) := rfl
theorem xi_68_7 : xm_ins 68 7 = some (.aload_n 0, 8, 0, 0, 0) := rfl
theorem xi_68_8 : xm_ins 68 8 = some (.invokevirtual 68, 11, 79, 1, 2) := rfl
theorem xi_68_11 : xm_ins 68 11 = some (.astore_n 2, 12, 2, 0, 0) := rfl
theorem xi_68_12 : xm_ins 68 12 = some (.iload_n 1, 13, 1, 0, 0) := rfl
theorem xi_68_13 : xm_ins 68 13 = some (.istore_n 3, 14, 3, 0, 0) := rfl
theorem xi_68_14 : xm_ins 68 14 = some (.iconst 0, 15, 0, 0, 0) := rfl
theorem xi_68_15 : xm_ins 68 15 = some (.istore 4, 17, 4, 0, 0) := rfl
theorem xi_68_17 : xm_ins 68 17 = some (.iload 4, 19, 4, 0, 0) := rfl
theorem xi_68_19 : xm_ins 68 19 = some (.bipush 30, 21, 0, 0, 30) := rfl
theorem xi_68_21 : xm_ins 68 21 = some (.if_icmp .ge 51, 24, 72, 0, 0) := rfl
theorem xi_68_24 : xm_ins 68 24 = some (.iconst 0, 25, 0, 0, 0) := rfl
theorem xi_68_25 : xm_ins 68 25 = some (.istore 5, 27, 5, 0, 0) := rfl
theorem xi_68_27 : xm_ins 68 27 = some (.iload 5, 29, 5, 0, 0) := rfl
theorem xi_68_29 : xm_ins 68 29 = some (.iconst 3, 30, 0, 0, 3) := rfl
theorem xi_68_30 : xm_ins 68 30 = some (.if_icmp .ge 36, 33, 66, 0, 0) := rfl
theorem xi_68_33 : xm_ins 68 33 = some (.aload_n 2, 34, 2, 0, 0) := rfl
theorem xi_68_34 : xm_ins 68 34 = some (.iload 4, 36, 4, 0, 0) := rfl
theorem xi_68_36 : xm_ins 68 36 = some (.iload 5, 38, 5, 0, 0) := rfl
theorem xi_68_38 : xm_ins 68 38 = some (.invokevirtual 125, 41, 39, 3, 1) := rfl
theorem xi_68_41 : xm_ins 68 41 = some (.ifCond .eq 19, 44, 60, 0, 0) := rfl
theorem xi_68_44 : xm_ins 68 44 = some (.iload_n 3, 45, 3, 0, 0) := rfl
theorem xi_68_45 : xm_ins 68 45 = some (.ifCond .ne 12, 48, 57, 0, 0) := rfl
theorem xi_68_48 : xm_ins 68 48 = some (.bipush 10, 50, 0, 0, 10) := rfl
theorem xi_68_50 : xm_ins 68 50 = some (.iload 4, 52, 4, 0, 0) := rfl
theorem xi_68_52 : xm_ins 68 52 = some (.imul, 53, 0, 0, 0) := rfl
theorem xi_68_53 : xm_ins 68 53 = some (.iload 5, 55, 5, 0, 0) := rfl
theorem xi_68_55 : xm_ins 68 55 = some (.iadd, 56, 0, 0, 0) := rfl
theorem xi_68_56 : xm_ins 68 56 = some (.ireturn, 57, 0, 0, 0) := rfl
theorem xi_68_57 : xm_ins 68 57 = some (.iinc 3 (-1), 60, 3, 0, (-1)) := rfl
theorem xi_68_60 : xm_ins 68 60 = some (.iinc 5 1, 63, 5, 0, 1) := rfl
theorem xi_68_63 : xm_ins 68 63 = some (.goto (-36), 66, 27, 0, 0) := rfl
theorem xi_68_66 : xm_ins 68 66 = some (.iinc 4 1, 69, 4, 0, 1) := rfl
theorem xi_68_69 : xm_ins 68 69 = some (.goto (-52), 72, 17, 0, 0) := rfl
theorem xi_68_72 : xm_ins 68 72 = some (.ldc 128, 74, 0, 0, (-1000004)) := rfl
theorem xi_68_74 : xm_ins 68 74 = some (.ireturn, 75, 0, 0, 0) := rfl
theorem xn_69 (pc : Nat) : xm_ins 69 pc = xm_find xt_69 pc := rfl
theorem xi_69_0 : xm_ins 69 0 = some (.aload_n 0, 1, 0, 0, 0) := rfl
theorem xi_69_1 : xm_ins 69 1 = some (.invokevirtual 68, 4, 79, 1, 2) := rfl
theorem xi_69_4 : xm_ins 69 4 = some (.astore_n 2, 5, 2, 0, 0) := rfl
theorem xi_69_5 : xm_ins 69 5 = some (.iload_n 1, 6, 1, 0, 0) := rfl
theorem xi_69_6 : xm_ins 69 6 = some (.lookupswitch 43 #[(0, 26), (1, 31)], 32, 0, 0, 0) := rfl
theorem xi_69_32 : xm_ins 69 32 = some (.aload_n 2, 33, 2, 0, 0) := rfl
theorem xi_69_33 : xm_ins 69 33 = some (.invokevirtual 129, 36, 51, 1, 1) := rfl
theorem xi_69_36 : xm_ins 69 36 = some (.ireturn, 37, 0, 0, 0) := rfl
theorem xi_69_37 : xm_ins 69 37 = some (.aload_n 2, 38, 2, 0, 0) := rfl
theorem xi_69_38 : xm_ins 69 38 = some (.invokevirtual 132, 41, 47, 1, 1) := rfl
theorem xi_69_41 : xm_ins 69 41 = some (.aload_n 2, 42, 2, 0, 0) := rfl
theorem xi_69_42 : xm_ins 69 42 = some (.invokevirtual 129, 45, 51, 1, 1) := rfl
theorem xi_69_45 : xm_ins 69 45 = some (.iconst (-1), 46, 0, 0, (-1)) := rfl
theorem xi_69_46 : xm_ins 69 46 = some (.ixor, 47, 0, 0, 0) := rfl
theorem xi_69_47 : xm_ins 69 47 = some (.iand, 48, 0, 0, 0) := rfl
theorem xi_69_48 : xm_ins 69 48 = some (.ireturn, 49, 0, 0, 0) := rfl
theorem xi_69_49 : xm_ins 69 49 = some (.ldc 75, 51, 0, 0, (-1000001)) := rfl
theorem xi_69_51 : xm_ins 69 51 = some (.ireturn, 52, 0, 0, 0) := rfl
theorem xn_70 (pc : Nat) : xm_ins 70 pc = xm_find xt_70 pc := rfl
theorem xi_70_0 : xm_ins 70 0 = some (.iload_n 1, 1, 1, 0, 0) := rfl
theorem xi_70_1 : xm_ins 70 1 = some (.ifCond .lt 8, 4, 9, 0, 0) := rfl
theorem xi_70_4 : xm_ins 70 4 = some (.iload_n 1, 5, 1, 0, 0) := rfl
theorem xi_70_5 : xm_ins 70 5 = some (.iconst 2, 6, 0, 0, 2) := rfl
theorem xi_70_6 : xm_ins 70 6 = some (.if_icmp .lt 6, 9, 12, 0, 0) := rfl
theorem xi_70_9 : xm_ins 70 9 = some (.ldc 75, 11, 0, 0, (-1000001)) := rfl
theorem xi_70_11 : xm_ins 70 11 = some (.ireturn, 12, 0, 0, 0) := rfl
theorem xi_70_12 : xm_ins 70 12 = some (.aload_n 0, 13, 0, 0, 0) := rfl
theorem xi_70_13 : xm_ins 70 13 = some (.invokevirtual 68, 16, 79, 1, 2) := rfl
theorem xi_70_16 : xm_ins 70 16 = some (.astore_n 3, 17, 3, 0, 0) := rfl
theorem xi_70_17 : xm_ins 70 17 = some (.aload_n 3, 18, 3, 0, 0) := rfl
theorem xi_70_18 : xm_ins 70 18 = some (.iload_n 1, 19, 1, 0, 0) := rfl
theorem xi_70_19 : xm_ins 70 19 = some (.invokevirtual 135, 22, 52, 2, 1) := rfl
theorem xi_70_22 : xm_ins 70 22 = some (.istore 4, 24, 4, 0, 0) := rfl
theorem xi_70_24 : xm_ins 70 24 = some (.iload_n 2, 25, 2, 0, 0) := rfl
theorem xi_70_25 : xm_ins 70 25 = some (.tableswitch 75 0 3 #[31, 34, 45, 58], 56, 0, 0, 0) := rfl
theorem xi_70_56 : xm_ins 70 56 = some (.iload 4, 58, 4, 0, 0) := rfl
theorem xi_70_58 : xm_ins 70 58 = some (.ireturn, 59, 0, 0, 0) := rfl
theorem xi_70_59 : xm_ins 70 59 = some (.aload_n 3, 60, 3, 0, 0) := rfl
theorem xi_70_60 : xm_ins 70 60 = some (.iload_n 1, 61, 1, 0, 0) := rfl
theorem xi_70_61 : xm_ins 70 61 = some (.invokevirtual 138, 64, 48, 2, 1) := rfl
theorem xi_70_64 : xm_ins 70 64 = some (.iload 4, 66, 4, 0, 0) := rfl
theorem xi_70_66 : xm_ins 70 66 = some (.iconst (-1), 67, 0, 0, (-1)) := rfl
theorem xi_70_67 : xm_ins 70 67 = some (.ixor, 68, 0, 0, 0) := rfl
theorem xi_70_68 : xm_ins 70 68 = some (.iand, 69, 0, 0, 0) := rfl
theorem xi_70_69 : xm_ins 70 69 = some (.ireturn, 70, 0, 0, 0) := rfl
theorem xi_70_70 : xm_ins 70 70 = some (.iload 4, 72, 4, 0, 0) := rfl
theorem xi_70_72 : xm_ins 70 72 = some (.aload_n 3, 73, 3, 0, 0) := rfl
theorem xi_70_73 : xm_ins 70 73 = some (.getfield 88, 76, 1, 6, 0) := rfl
theorem xi_70_76 : xm_ins 70 76 = some (.iconst (-1), 77, 0, 0, (-1)) := rfl
theorem xi_70_77 : xm_ins 70 77 = some (.ixor, 78, 0, 0, 0) := rfl
theorem xi_70_78 : xm_ins 70 78 = some (.iand, 79, 0, 0, 0) := rfl
theorem xi_70_79 : xm_ins 70 79 = some (.invokestatic 114, 82, 166, 1, 0) := rfl
theorem xi_70_82 : xm_ins 70 82 = some (.ireturn, 83, 0, 0, 0) := rfl
theorem xi_70_83 : xm_ins 70 83 = some (.aload_n 0, 84, 0, 0, 0) := rfl
theorem xi_70_84 : xm_ins 70 84 = some (.invokevirtual 30, 87, 80, 1, 2) := rfl
theorem xi_70_87 : xm_ins 70 87 = some (.iload_n 1, 88, 1, 0, 0) := rfl
theorem xi_70_88 : xm_ins 70 88 = some (.invokevirtual 62, 91, 21, 2, 1) := rfl
theorem xi_70_91 : xm_ins 70 91 = some (.ifCond .lt 7, 94, 98, 0, 0) := rfl
theorem xi_70_94 : xm_ins 70 94 = some (.iconst 1, 95, 0, 0, 1) := rfl
theorem xi_70_95 : xm_ins 70 95 = some (.goto 4, 98, 99, 0, 0) := rfl
theorem xi_70_98 : xm_ins 70 98 = some (.iconst 0, 99, 0, 0, 0) := rfl
theorem xi_70_99 : xm_ins 70 99 = some (.ireturn, 100, 0, 0, 0) := rfl
theorem xi_70_100 : xm_ins 70 100 = some (.ldc 75, 102, 0, 0, (-1000001)) := rfl
theorem xi_70_102 : xm_ins 70 102 = some (.ireturn, 103, 0, 0, 0) := rfl
theorem xn_71 (pc : Nat) : xm_ins 71 pc = xm_find xt_71 pc := rfl
theorem xi_71_0 : xm_ins 71 0 = some (.aload_n 0, 1, 0, 0, 0) := rfl
theorem xi_71_1 : xm_ins 71 1 = some (.invokevirtual 68, 4, 79, 1, 2) := rfl
theorem xi_71_4 : xm_ins 71 4 = some (.astore_n 2, 5, 2, 0, 0) := rfl
theorem xi_71_5 : xm_ins 71 5 = some (.aload_n 2, 6, 2, 0, 0) := rfl
theorem xi_71_6 : xm_ins 71 6 = some (.iload_n 1, 7, 1, 0, 0) := rfl
theorem xi_71_7 : xm_ins 71 7 = some (.invokevirtual 76, 10, 34, 2, 1) := rfl
theorem xi_71_10 : xm_ins 71 10 = some (.ifCond .ne 6, 13, 16, 0, 0) := rfl
theorem xi_71_13 : xm_ins 71 13 = some (.ldc 75, 15, 0, 0, (-1000001)) := rfl
theorem xi_71_15 : xm_ins 71 15 = some (.ireturn, 16, 0, 0, 0) := rfl
theorem xi_71_16 : xm_ins 71 16 = some (.aload_n 2, 17, 2, 0, 0) := rfl
theorem xi_71_17 : xm_ins 71 17 = some (.invokevirtual 132, 20, 47, 1, 1) := rfl
theorem xi_71_20 : xm_ins 71 20 = some (.iconst 1, 21, 0, 0, 1) := rfl
theorem xi_71_21 : xm_ins 71 21 = some (.iload_n 1, 22, 1, 0, 0) := rfl
theorem xi_71_22 : xm_ins 71 22 = some (.ishl, 23, 0, 0, 0) := rfl
theorem xi_71_23 : xm_ins 71 23 = some (.iconst (-1), 24, 0, 0, (-1)) := rfl
theorem xi_71_24 : xm_ins 71 24 = some (.ixor, 25, 0, 0, 0) := rfl
theorem xi_71_25 : xm_ins 71 25 = some (.iand, 26, 0, 0, 0) := rfl
theorem xi_71_26 : xm_ins 71 26 = some (.istore_n 3, 27, 3, 0, 0) := rfl
theorem xi_71_27 : xm_ins 71 27 = some (.aload_n 2, 28, 2, 0, 0) := rfl
theorem xi_71_28 : xm_ins 71 28 = some (.aload_n 2, 29, 2, 0, 0) := rfl
theorem xi_71_29 : xm_ins 71 29 = some (.invokevirtual 141, 32, 50, 1, 1) := rfl
theorem xi_71_32 : xm_ins 71 32 = some (.iload_n 3, 33, 3, 0, 0) := rfl
theorem xi_71_33 : xm_ins 71 33 = some (.invokevirtual 144, 36, 54, 3, 1) := rfl
theorem xi_71_36 : xm_ins 71 36 = some (.istore 4, 38, 4, 0, 0) := rfl
theorem xi_71_38 : xm_ins 71 38 = some (.aload_n 2, 39, 2, 0, 0) := rfl
theorem xi_71_39 : xm_ins 71 39 = some (.invokevirtual 129, 42, 51, 1, 1) := rfl
theorem xi_71_42 : xm_ins 71 42 = some (.iload_n 3, 43, 3, 0, 0) := rfl
theorem xi_71_43 : xm_ins 71 43 = some (.iand, 44, 0, 0, 0) := rfl
theorem xi_71_44 : xm_ins 71 44 = some (.iload 4, 46, 4, 0, 0) := rfl
theorem xi_71_46 : xm_ins 71 46 = some (.iconst (-1), 47, 0, 0, (-1)) := rfl
theorem xi_71_47 : xm_ins 71 47 = some (.ixor, 48, 0, 0, 0) := rfl
theorem xi_71_48 : xm_ins 71 48 = some (.iand, 49, 0, 0, 0) := rfl
theorem xi_71_49 : xm_ins 71 49 = some (.ireturn, 50, 0, 0, 0) := rfl
theorem xn_72 (pc : Nat) : xm_ins 72 pc = xm_find xt_72 pc := rfl
theorem xi_72_0 : xm_ins 72 0 = some (.aload_n 0, 1, 0, 0, 0) := rfl
theorem xi_72_1 : xm_ins 72 1 = some (.invokevirtual 68, 4, 79, 1, 2) := rfl
theorem xi_72_4 : xm_ins 72 4 = some (.astore_n 2, 5, 2, 0, 0) := rfl
theorem xi_72_5 : xm_ins 72 5 = some (.aload_n 2, 6, 2, 0, 0) := rfl
theorem xi_72_6 : xm_ins 72 6 = some (.iload_n 1, 7, 1, 0, 0) := rfl
theorem xi_72_7 : xm_ins 72 7 = some (.invokevirtual 76, 10, 34, 2, 1) := rfl
theorem xi_72_10 : xm_ins 72 10 = some (.ifCond .ne 6, 13, 16, 0, 0) := rfl
theorem xi_72_13 : xm_ins 72 13 = some (.ldc 75, 15, 0, 0, (-1000001)) := rfl
theorem xi_72_15 : xm_ins 72 15 = some (.ireturn, 16, 0, 0, 0) := rfl
theorem xi_72_16 : xm_ins 72 16 = some (.aload_n 2, 17, 2, 0, 0) := rfl
theorem xi_72_17 : xm_ins 72 17 = some (.invokevirtual 141, 20, 50, 1, 1) := rfl
theorem xi_72_20 : xm_ins 72 20 = some (.istore_n 3, 21, 3, 0, 0) := rfl
theorem xi_72_21 : xm_ins 72 21 = some (.iconst 0, 22, 0, 0, 0) := rfl
theorem xi_72_22 : xm_ins 72 22 = some (.istore 4, 24, 4, 0, 0) := rfl
theorem xi_72_24 : xm_ins 72 24 = some (.iload 4, 26, 4, 0, 0) := rfl
theorem xi_72_26 : xm_ins 72 26 = some (.bipush 30, 28, 0, 0, 30) := rfl
theorem xi_72_28 : xm_ins 72 28 = some (.if_icmp .ge 28, 31, 56, 0, 0) := rfl
theorem xi_72_31 : xm_ins 72 31 = some (.iload_n 3, 32, 3, 0, 0) := rfl
theorem xi_72_32 : xm_ins 72 32 = some (.iload_n 1, 33, 1, 0, 0) := rfl
theorem xi_72_33 : xm_ins 72 33 = some (.invokestatic 91, 36, 83, 2, 2) := rfl
theorem xi_72_36 : xm_ins 72 36 = some (.ifCond .eq 6, 39, 42, 0, 0) := rfl
theorem xi_72_39 : xm_ins 72 39 = some (.iload 4, 41, 4, 0, 0) := rfl
theorem xi_72_41 : xm_ins 72 41 = some (.ireturn, 42, 0, 0, 0) := rfl
theorem xi_72_42 : xm_ins 72 42 = some (.iload_n 3, 43, 3, 0, 0) := rfl
theorem xi_72_43 : xm_ins 72 43 = some (.aload_n 2, 44, 2, 0, 0) := rfl
theorem xi_72_44 : xm_ins 72 44 = some (.iload_n 3, 45, 3, 0, 0) := rfl
theorem xi_72_45 : xm_ins 72 45 = some (.invokevirtual 147, 48, 53, 2, 1) := rfl
theorem xi_72_48 : xm_ins 72 48 = some (.ior, 49, 0, 0, 0) := rfl
theorem xi_72_49 : xm_ins 72 49 = some (.istore_n 3, 50, 3, 0, 0) := rfl
theorem xi_72_50 : xm_ins 72 50 = some (.iinc 4 1, 53, 4, 0, 1) := rfl
theorem xi_72_53 : xm_ins 72 53 = some (.goto (-29), 56, 24, 0, 0) := rfl
theorem xi_72_56 : xm_ins 72 56 = some (.ldc 128, 58, 0, 0, (-1000004)) := rfl
theorem xi_72_58 : xm_ins 72 58 = some (.ireturn, 59, 0, 0, 0) := rfl
theorem xn_73 (pc : Nat) : xm_ins 73 pc = xm_find xt_73 pc := rfl
theorem xi_73_0 : xm_ins 73 0 = some (.aload_n 0, 1, 0, 0, 0) := rfl
theorem xi_73_1 : xm_ins 73 1 = some (.invokevirtual 68, 4, 79, 1, 2) := rfl
theorem xi_73_4 : xm_ins 73 4 = some (.astore_n 2, 5, 2, 0, 0) := rfl
theorem xi_73_5 : xm_ins 73 5 = some (.aload_n 2, 6, 2, 0, 0) := rfl
theorem xi_73_6 : xm_ins 73 6 = some (.invokevirtual 132, 9, 47, 1, 1) := rfl
theorem xi_73_9 : xm_ins 73 9 = some (.invokestatic 114, 12, 166, 1, 0) := rfl
theorem xi_73_12 : xm_ins 73 12 = some (.istore_n 3, 13, 3, 0, 0) := rfl
theorem xi_73_13 : xm_ins 73 13 = some (.iload_n 1, 14, 1, 0, 0) := rfl
theorem xi_73_14 : xm_ins 73 14 = some (.tableswitch 141 0 13 #[70, 75, 77, 85, 85, 85, 96, 101, 106, 111, 116, 123, 128, 133], 84, 0, 0, 0) := rfl
theorem xi_73_84 : xm_ins 73 84 = some (.aload_n 2, 85, 2, 0, 0) := rfl
theorem xi_73_85 : xm_ins 73 85 = some (.getfield 150, 88, 1, 7, 0) := rfl
theorem xi_73_88 : xm_ins 73 88 = some (.ireturn, 89, 0, 0, 0) := rfl
theorem xi_73_89 : xm_ins 73 89 = some (.iload_n 3, 90, 3, 0, 0) := rfl
theorem xi_73_90 : xm_ins 73 90 = some (.ireturn, 91, 0, 0, 0) := rfl
theorem xi_73_91 : xm_ins 73 91 = some (.aload_n 2, 92, 2, 0, 0) := rfl
theorem xi_73_92 : xm_ins 73 92 = some (.getfield 88, 95, 1, 6, 0) := rfl
theorem xi_73_95 : xm_ins 73 95 = some (.invokestatic 114, 98, 166, 1, 0) := rfl
theorem xi_73_98 : xm_ins 73 98 = some (.ireturn, 99, 0, 0, 0) := rfl
theorem xi_73_99 : xm_ins 73 99 = some (.aload_n 2, 100, 2, 0, 0) := rfl
theorem xi_73_100 : xm_ins 73 100 = some (.iload_n 1, 101, 1, 0, 0) := rfl
theorem xi_73_101 : xm_ins 73 101 = some (.iconst 3, 102, 0, 0, 3) := rfl
theorem xi_73_102 : xm_ins 73 102 = some (.isub, 103, 0, 0, 0) := rfl
theorem xi_73_103 : xm_ins 73 103 = some (.invokevirtual 153, 106, 46, 2, 1) := rfl
theorem xi_73_106 : xm_ins 73 106 = some (.invokestatic 114, 109, 166, 1, 0) := rfl
theorem xi_73_109 : xm_ins 73 109 = some (.ireturn, 110, 0, 0, 0) := rfl
theorem xi_73_110 : xm_ins 73 110 = some (.aload_n 2, 111, 2, 0, 0) := rfl
theorem xi_73_111 : xm_ins 73 111 = some (.invokevirtual 156, 114, 44, 1, 1) := rfl
theorem xi_73_114 : xm_ins 73 114 = some (.ireturn, 115, 0, 0, 0) := rfl
theorem xi_73_115 : xm_ins 73 115 = some (.aload_n 2, 116, 2, 0, 0) := rfl
theorem xi_73_116 : xm_ins 73 116 = some (.invokevirtual 159, 119, 45, 1, 1) := rfl
theorem xi_73_119 : xm_ins 73 119 = some (.ireturn, 120, 0, 0, 0) := rfl
theorem xi_73_120 : xm_ins 73 120 = some (.aload_n 2, 121, 2, 0, 0) := rfl
theorem xi_73_121 : xm_ins 73 121 = some (.getfield 162, 124, 1, 8, 0) := rfl
theorem xi_73_124 : xm_ins 73 124 = some (.ireturn, 125, 0, 0, 0) := rfl
theorem xi_73_125 : xm_ins 73 125 = some (.aload_n 2, 126, 2, 0, 0) := rfl
theorem xi_73_126 : xm_ins 73 126 = some (.getfield 165, 129, 1, 9, 0) := rfl
theorem xi_73_129 : xm_ins 73 129 = some (.ireturn, 130, 0, 0, 0) := rfl
theorem xi_73_130 : xm_ins 73 130 = some (.aload_n 2, 131, 2, 0, 0) := rfl
theorem xi_73_131 : xm_ins 73 131 = some (.getfield 150, 134, 1, 7, 0) := rfl
theorem xi_73_134 : xm_ins 73 134 = some (.iload_n 3, 135, 3, 0, 0) := rfl
theorem xi_73_135 : xm_ins 73 135 = some (.isub, 136, 0, 0, 0) := rfl
theorem xi_73_136 : xm_ins 73 136 = some (.ireturn, 137, 0, 0, 0) := rfl
theorem xi_73_137 : xm_ins 73 137 = some (.aload_n 2, 138, 2, 0, 0) := rfl
theorem xi_73_138 : xm_ins 73 138 = some (.getfield 168, 141, 1, 10, 0) := rfl
theorem xi_73_141 : xm_ins 73 141 = some (.ireturn, 142, 0, 0, 0) := rfl
theorem xi_73_142 : xm_ins 73 142 = some (.aload_n 0, 143, 0, 0, 0) := rfl
theorem xi_73_143 : xm_ins 73 143 = some (.getfield 26, 146, 2, 3, 0) := rfl
theorem xi_73_146 : xm_ins 73 146 = some (.ireturn, 147, 0, 0, 0) := rfl
theorem xi_73_147 : xm_ins 73 147 = some (.aload_n 0, 148, 0, 0, 0) := rfl
theorem xi_73_148 : xm_ins 73 148 = some (.getfield 18, 151, 2, 1, 1) := rfl
theorem xi_73_151 : xm_ins 73 151 = some (.getfield 171, 154, 0, 2, 0) := rfl
theorem xi_73_154 : xm_ins 73 154 = some (.ireturn, 155, 0, 0, 0) := rfl
theorem xi_73_155 : xm_ins 73 155 = some (.ldc 75, 157, 0, 0, (-1000001)) := rfl
theorem xi_73_157 : xm_ins 73 157 = some (.ireturn, 158, 0, 0, 0) := rfl
theorem xn_74 (pc : Nat) : xm_ins 74 pc = xm_find xt_74 pc := rfl
theorem xi_74_0 : xm_ins 74 0 = some (.aload_n 0, 1, 0, 0, 0) := rfl
theorem xi_74_1 : xm_ins 74 1 = some (.getfield 26, 4, 2, 3, 0) := rfl
theorem xi_74_4 : xm_ins 74 4 = some (.ifCond .ne 6, 7, 10, 0, 0) := rfl
theorem xi_74_7 : xm_ins 74 7 = some (.ldc 174, 9, 0, 0, (-1000002)) := rfl
theorem xi_74_9 : xm_ins 74 9 = some (.ireturn, 10, 0, 0, 0) := rfl
theorem xi_74_10 : xm_ins 74 10 = some (.aload_n 0, 11, 0, 0, 0) := rfl
theorem xi_74_11 : xm_ins 74 11 = some (.aload_n 0, 12, 0, 0, 0) := rfl
theorem xi_74_12 : xm_ins 74 12 = some (.getfield 22, 15, 2, 2, 0) := rfl
theorem xi_74_15 : xm_ins 74 15 = some (.bipush 6, 17, 0, 0, 6) := rfl
theorem xi_74_17 : xm_ins 74 17 = some (.iadd, 18, 0, 0, 0) := rfl
theorem xi_74_18 : xm_ins 74 18 = some (.iconst 1, 19, 0, 0, 1) := rfl
theorem xi_74_19 : xm_ins 74 19 = some (.isub, 20, 0, 0, 0) := rfl
theorem xi_74_20 : xm_ins 74 20 = some (.bipush 6, 22, 0, 0, 6) := rfl
theorem xi_74_22 : xm_ins 74 22 = some (.irem, 23, 0, 0, 0) := rfl
theorem xi_74_23 : xm_ins 74 23 = some (.putfield 22, 26, 2, 2, 0) := rfl
theorem xi_74_26 : xm_ins 74 26 = some (.aload_n 0, 27, 0, 0, 0) := rfl
theorem xi_74_27 : xm_ins 74 27 = some (.dup, 28, 0, 0, 0) := rfl
theorem xi_74_28 : xm_ins 74 28 = some (.getfield 26, 31, 2, 3, 0) := rfl
theorem xi_74_31 : xm_ins 74 31 = some (.iconst 1, 32, 0, 0, 1) := rfl
theorem xi_74_32 : xm_ins 74 32 = some (.isub, 33, 0, 0, 0) := rfl
theorem xi_74_33 : xm_ins 74 33 = some (.putfield 26, 36, 2, 3, 0) := rfl
theorem xi_74_36 : xm_ins 74 36 = some (.aload_n 0, 37, 0, 0, 0) := rfl
theorem xi_74_37 : xm_ins 74 37 = some (.getfield 26, 40, 2, 3, 0) := rfl
theorem xi_74_40 : xm_ins 74 40 = some (.ireturn, 41, 0, 0, 0) := rfl
theorem xn_75 (pc : Nat) : xm_ins 75 pc = xm_find xt_75 pc := rfl
theorem xi_75_0 : xm_ins 75 0 = some (.iload_n 1, 1, 1, 0, 0) := rfl
theorem xi_75_1 : xm_ins 75 1 = some (.bipush 32, 3, 0, 0, 32) := rfl
theorem xi_75_3 : xm_ins 75 3 = some (.if_icmp .lt 9, 6, 12, 0, 0) := rfl
theorem xi_75_6 : xm_ins 75 6 = some (.iload_n 1, 7, 1, 0, 0) := rfl
theorem xi_75_7 : xm_ins 75 7 = some (.bipush 126, 9, 0, 0, 126) := rfl
theorem xi_75_9 : xm_ins 75 9 = some (.if_icmp .le 6, 12, 15, 0, 0) := rfl
theorem xi_75_12 : xm_ins 75 12 = some (.ldc 75, 14, 0, 0, (-1000001)) := rfl
theorem xi_75_14 : xm_ins 75 14 = some (.ireturn, 15, 0, 0, 0) := rfl
theorem xi_75_15 : xm_ins 75 15 = some (.aload_n 0, 16, 0, 0, 0) := rfl
theorem xi_75_16 : xm_ins 75 16 = some (.getfield 18, 19, 2, 1, 1) := rfl
theorem xi_75_19 : xm_ins 75 19 = some (.iload_n 1, 20, 1, 0, 0) := rfl
theorem xi_75_20 : xm_ins 75 20 = some (.invokevirtual 175, 23, 1, 2, 0) := rfl
theorem xi_75_23 : xm_ins 75 23 = some (.ireturn, 24, 0, 0, 0) := rfl
theorem xn_76 (pc : Nat) : xm_ins 76 pc = xm_find xt_76 pc := rfl
theorem xi_76_0 : xm_ins 76 0 = some (.aload_n 0, 1, 0, 0, 0) := rfl
theorem xi_76_1 : xm_ins 76 1 = some (.getfield 18, 4, 2, 1, 1) := rfl
theorem xi_76_4 : xm_ins 76 4 = some (.getfield 171, 7, 0, 2, 0) := rfl
theorem xi_76_7 : xm_ins 76 7 = some (.istore_n 1, 8, 1, 0, 0) := rfl
theorem xi_76_8 : xm_ins 76 8 = some (.aload_n 0, 9, 0, 0, 0) := rfl
theorem xi_76_9 : xm_ins 76 9 = some (.getfield 18, 12, 2, 1, 1) := rfl
theorem xi_76_12 : xm_ins 76 12 = some (.iconst 0, 13, 0, 0, 0) := rfl
theorem xi_76_13 : xm_ins 76 13 = some (.putfield 171, 16, 0, 2, 0) := rfl
theorem xi_76_16 : xm_ins 76 16 = some (.iload_n 1, 17, 1, 0, 0) := rfl
theorem xi_76_17 : xm_ins 76 17 = some (.ireturn, 18, 0, 0, 0) := rfl
theorem xn_77 (pc : Nat) : xm_ins 77 pc = xm_find xt_77 pc := rfl
theorem xi_77_0 : xm_ins 77 0 = some (.iload_n 1, 1, 1, 0, 0) := rfl
theorem xi_77_1 : xm_ins 77 1 = some (.ifCond .eq 11, 4, 12, 0, 0) := rfl
theorem xi_77_4 : xm_ins 77 4 = some (.iload_n 1, 5, 1, 0, 0) := rfl
theorem xi_77_5 : xm_ins 77 5 = some (.iconst 1, 6, 0, 0, 1) := rfl
theorem xi_77_6 : xm_ins 77 6 = some (.if_icmp .eq 6, 9, 12, 0, 0) := rfl
theorem xi_77_9 : xm_ins 77 9 = some (.ldc 75, 11, 0, 0, (-1000001)) := rfl
theorem xi_77_11 : xm_ins 77 11 = some (.ireturn, 12, 0, 0, 0) := rfl
theorem xi_77_12 : xm_ins 77 12 = some (.aload_n 0, 13, 0, 0, 0) := rfl
theorem xi_77_13 : xm_ins 77 13 = some (.getfield 18, 16, 2, 1, 1) := rfl
theorem xi_77_16 : xm_ins 77 16 = some (.aload_n 0, 17, 0, 0, 0) := rfl
theorem xi_77_17 : xm_ins 77 17 = some (.invokevirtual 30, 20, 80, 1, 2) := rfl
theorem xi_77_20 : xm_ins 77 20 = some (.invokevirtual 178, 23, 2, 2, 0) := rfl
theorem xi_77_23 : xm_ins 77 23 = some (.pop, 24, 0, 0, 0) := rfl
theorem xi_77_24 : xm_ins 77 24 = some (.aload_n 0, 25, 0, 0, 0) := rfl
theorem xi_77_25 : xm_ins 77 25 = some (.getfield 18, 28, 2, 1, 1) := rfl
theorem xi_77_28 : xm_ins 77 28 = some (.getfield 182, 31, 0, 5, 0) := rfl
theorem xi_77_31 : xm_ins 77 31 = some (.ifCond .ne 6, 34, 37, 0, 0) := rfl
theorem xi_77_34 : xm_ins 77 34 = some (.ldc 128, 36, 0, 0, (-1000004)) := rfl
theorem xi_77_36 : xm_ins 77 36 = some (.ireturn, 37, 0, 0, 0) := rfl
theorem xi_77_37 : xm_ins 77 37 = some (.iload_n 1, 38, 1, 0, 0) := rfl
theorem xi_77_38 : xm_ins 77 38 = some (.ifCond .ne 13, 41, 51, 0, 0) := rfl
theorem xi_77_41 : xm_ins 77 41 = some (.aload_n 0, 42, 0, 0, 0) := rfl
theorem xi_77_42 : xm_ins 77 42 = some (.getfield 18, 45, 2, 1, 1) := rfl
theorem xi_77_45 : xm_ins 77 45 = some (.getfield 185, 48, 0, 4, 0) := rfl
theorem xi_77_48 : xm_ins 77 48 = some (.goto 10, 51, 58, 0, 0) := rfl
theorem xi_77_51 : xm_ins 77 51 = some (.aload_n 0, 52, 0, 0, 0) := rfl
theorem xi_77_52 : xm_ins 77 52 = some (.getfield 18, 55, 2, 1, 1) := rfl
theorem xi_77_55 : xm_ins 77 55 = some (.getfield 182, 58, 0, 5, 0) := rfl
theorem xi_77_58 : xm_ins 77 58 = some (.ireturn, 59, 0, 0, 0) := rfl
theorem xn_78 (pc : Nat) : xm_ins 78 pc = xm_find xt_78 pc := rfl
theorem xi_78_0 : xm_ins 78 0 = some (.aload_n 0, 1, 0, 0, 0) := rfl
theorem xi_78_1 : xm_ins 78 1 = some (.getfield 18, 4, 2, 1, 1) := rfl
theorem xi_78_4 : xm_ins 78 4 = some (.aload_n 0, 5, 0, 0, 0) := rfl
theorem xi_78_5 : xm_ins 78 5 = some (.invokevirtual 30, 8, 80, 1, 2) := rfl
theorem xi_78_8 : xm_ins 78 8 = some (.invokevirtual 178, 11, 2, 2, 0) := rfl
theorem xi_78_11 : xm_ins 78 11 = some (.istore_n 1, 12, 1, 0, 0) := rfl
theorem xi_78_12 : xm_ins 78 12 = some (.aload_n 0, 13, 0, 0, 0) := rfl
theorem xi_78_13 : xm_ins 78 13 = some (.aload_n 0, 14, 0, 0, 0) := rfl
theorem xi_78_14 : xm_ins 78 14 = some (.getfield 18, 17, 2, 1, 1) := rfl
theorem xi_78_17 : xm_ins 78 17 = some (.getfield 182, 20, 0, 5, 0) := rfl
theorem xi_78_20 : xm_ins 78 20 = some (.ifCond .ne 7, 23, 27, 0, 0) := rfl
theorem xi_78_23 : xm_ins 78 23 = some (.iload_n 1, 24, 1, 0, 0) := rfl
theorem xi_78_24 : xm_ins 78 24 = some (.goto 5, 27, 29, 0, 0) := rfl
theorem xi_78_27 : xm_ins 78 27 = some (.ldc 174, 29, 0, 0, (-1000002)) := rfl
theorem xi_78_29 : xm_ins 78 29 = some (.invokevirtual 38, 32, 81, 2, 2) := rfl
theorem xi_78_32 : xm_ins 78 32 = some (.ireturn, 33, 0, 0, 0) := rfl
theorem xn_79 (pc : Nat) : xm_ins 79 pc = xm_find xt_79 pc := rfl
theorem xi_79_0 : xm_ins 79 0 = some (.aload_n 0, 1, 0, 0, 0) := rfl
theorem xi_79_1 : xm_ins 79 1 = some (.getfield 11, 4, 2, 0, 1) := rfl
theorem xi_79_4 : xm_ins 79 4 = some (.aload_n 0, 5, 0, 0, 0) := rfl
theorem xi_79_5 : xm_ins 79 5 = some (.getfield 22, 8, 2, 2, 0) := rfl
theorem xi_79_8 : xm_ins 79 8 = some (.aaload, 9, 0, 0, 0) := rfl
theorem xi_79_9 : xm_ins 79 9 = some (.areturn, 10, 0, 0, 0) := rfl
theorem xn_80 (pc : Nat) : xm_ins 80 pc = xm_find xt_80 pc := rfl
theorem xi_80_0 : xm_ins 80 0 = some (.aload_n 0, 1, 0, 0, 0) := rfl
theorem xi_80_1 : xm_ins 80 1 = some (.getfield 11, 4, 2, 0, 1) := rfl
theorem xi_80_4 : xm_ins 80 4 = some (.aload_n 0, 5, 0, 0, 0) := rfl
theorem xi_80_5 : xm_ins 80 5 = some (.getfield 22, 8, 2, 2, 0) := rfl
theorem xi_80_8 : xm_ins 80 8 = some (.iconst 1, 9, 0, 0, 1) := rfl
theorem xi_80_9 : xm_ins 80 9 = some (.iadd, 10, 0, 0, 0) := rfl
theorem xi_80_10 : xm_ins 80 10 = some (.bipush 6, 12, 0, 0, 6) := rfl
theorem xi_80_12 : xm_ins 80 12 = some (.irem, 13, 0, 0, 0) := rfl
theorem xi_80_13 : xm_ins 80 13 = some (.aaload, 14, 0, 0, 0) := rfl
theorem xi_80_14 : xm_ins 80 14 = some (.astore_n 1, 15, 1, 0, 0) := rfl
theorem xi_80_15 : xm_ins 80 15 = some (.aload_n 1, 16, 1, 0, 0) := rfl
theorem xi_80_16 : xm_ins 80 16 = some (.aload_n 0, 17, 0, 0, 0) := rfl
theorem xi_80_17 : xm_ins 80 17 = some (.invokevirtual 68, 20, 79, 1, 2) := rfl
theorem xi_80_20 : xm_ins 80 20 = some (.invokevirtual 188, 23, 13, 2, 1) := rfl
theorem xi_80_23 : xm_ins 80 23 = some (.aload_n 1, 24, 1, 0, 0) := rfl
theorem xi_80_24 : xm_ins 80 24 = some (.areturn, 25, 0, 0, 0) := rfl
theorem xn_81 (pc : Nat) : xm_ins 81 pc = xm_find xt_81 pc := rfl
theorem xi_81_0 : xm_ins 81 0 = some (.iload_n 1, 1, 1, 0, 0) := rfl
theorem xi_81_1 : xm_ins 81 1 = some (.ifCond .lt 30, 4, 31, 0, 0) := rfl
theorem xi_81_4 : xm_ins 81 4 = some (.aload_n 0, 5, 0, 0, 0) := rfl
theorem xi_81_5 : xm_ins 81 5 = some (.aload_n 0, 6, 0, 0, 0) := rfl
theorem xi_81_6 : xm_ins 81 6 = some (.getfield 22, 9, 2, 2, 0) := rfl
theorem xi_81_9 : xm_ins 81 9 = some (.iconst 1, 10, 0, 0, 1) := rfl
theorem xi_81_10 : xm_ins 81 10 = some (.iadd, 11, 0, 0, 0) := rfl
theorem xi_81_11 : xm_ins 81 11 = some (.bipush 6, 13, 0, 0, 6) := rfl
theorem xi_81_13 : xm_ins 81 13 = some (.irem, 14, 0, 0, 0) := rfl
theorem xi_81_14 : xm_ins 81 14 = some (.putfield 22, 17, 2, 2, 0) := rfl
theorem xi_81_17 : xm_ins 81 17 = some (.aload_n 0, 18, 0, 0, 0) := rfl
theorem xi_81_18 : xm_ins 81 18 = some (.aload_n 0, 19, 0, 0, 0) := rfl
theorem xi_81_19 : xm_ins 81 19 = some (.getfield 26, 22, 2, 3, 0) := rfl
theorem xi_81_22 : xm_ins 81 22 = some (.iconst 1, 23, 0, 0, 1) := rfl
theorem xi_81_23 : xm_ins 81 23 = some (.iadd, 24, 0, 0, 0) := rfl
theorem xi_81_24 : xm_ins 81 24 = some (.iconst 4, 25, 0, 0, 4) := rfl
theorem xi_81_25 : xm_ins 81 25 = some (.invokestatic 192, 28, 1002, 0, 0) := rfl
theorem xi_81_28 : xm_ins 81 28 = some (.putfield 26, 31, 2, 3, 0) := rfl
theorem xi_81_31 : xm_ins 81 31 = some (.iload_n 1, 32, 1, 0, 0) := rfl
theorem xi_81_32 : xm_ins 81 32 = some (.ireturn, 33, 0, 0, 0) := rfl
theorem xn_82 (pc : Nat) : xm_ins 82 pc = xm_find xt_82 pc := rfl
theorem xi_82_0 : xm_ins 82 0 = some (.iload_n 0, 1, 0, 0, 0) := rfl
theorem xi_82_1 : xm_ins 82 1 = some (.iconst (-1), 2, 0, 0, (-1)) := rfl
theorem xi_82_2 : xm_ins 82 2 = some (.if_icmp .ne 8, 5, 10, 0, 0) := rfl
theorem xi_82_5 : xm_ins 82 5 = some (.ldc 128, 7, 0, 0, (-1000004)) := rfl
theorem xi_82_7 : xm_ins 82 7 = some (.goto 4, 10, 11, 0, 0) := rfl
theorem xi_82_10 : xm_ins 82 10 = some (.iload_n 0, 11, 0, 0, 0) := rfl
theorem xi_82_11 : xm_ins 82 11 = some (.ireturn, 12, 0, 0, 0) := rfl
theorem xn_83 (pc : Nat) : xm_ins 83 pc = xm_find xt_83 pc := rfl
theorem xi_83_0 : xm_ins 83 0 = some (.iload_n 0, 1, 0, 0, 0) := rfl
theorem xi_83_1 : xm_ins 83 1 = some (.iload_n 1, 2, 1, 0, 0) := rfl
theorem xi_83_2 : xm_ins 83 2 = some (.ishr, 3, 0, 0, 0) := rfl
theorem xi_83_3 : xm_ins 83 3 = some (.iconst 1, 4, 0, 0, 1) := rfl
theorem xi_83_4 : xm_ins 83 4 = some (.iand, 5, 0, 0, 0) := rfl
theorem xi_83_5 : xm_ins 83 5 = some (.ifCond .eq 7, 8, 12, 0, 0) := rfl
theorem xi_83_8 : xm_ins 83 8 = some (.iconst 1, 9, 0, 0, 1) := rfl
theorem xi_83_9 : xm_ins 83 9 = some (.goto 4, 12, 13, 0, 0) := rfl
theorem xi_83_12 : xm_ins 83 12 = some (.iconst 0, 13, 0, 0, 0) := rfl
theorem xi_83_13 : xm_ins 83 13 = some (.ireturn, 14, 0, 0, 0) := rfl
theorem xn_84 (pc : Nat) : xm_ins 84 pc = xm_find xt_84 pc := rfl
theorem xi_84_0 : xm_ins 84 0 = some (.aload_n 0, 1, 0, 0, 0) := rfl
theorem xi_84_1 : xm_ins 84 1 = some (.invokespecial 1, 4, 1000, 0, 0) := rfl
theorem xi_84_4 : xm_ins 84 4 = some (.aload_n 0, 5, 0, 0, 0) := rfl
theorem xi_84_5 : xm_ins 84 5 = some (.sipush 1176, 8, 0, 0, 1176) := rfl
theorem xi_84_8 : xm_ins 84 8 = some (.newarray .int, 10, 0, 0, 0) := rfl
theorem xi_84_10 : xm_ins 84 10 = some (.putfield 7, 13, 3, 0, 1) := rfl
theorem xi_84_13 : xm_ins 84 13 = some (.aload_n 0, 14, 0, 0, 0) := rfl
theorem xi_84_14 : xm_ins 84 14 = some (.bipush 60, 16, 0, 0, 60) := rfl
theorem xi_84_16 : xm_ins 84 16 = some (.newarray .int, 18, 0, 0, 0) := rfl
theorem xi_84_18 : xm_ins 84 18 = some (.putfield 13, 21, 3, 2, 1) := rfl
theorem xi_84_21 : xm_ins 84 21 = some (.aload_n 0, 22, 0, 0, 0) := rfl
theorem xi_84_22 : xm_ins 84 22 = some (.bipush 8, 24, 0, 0, 8) := rfl
theorem xi_84_24 : xm_ins 84 24 = some (.newarray .int, 26, 0, 0, 0) := rfl
theorem xi_84_26 : xm_ins 84 26 = some (.putfield 16, 29, 3, 4, 1) := rfl
theorem xi_84_29 : xm_ins 84 29 = some (.aload_n 0, 30, 0, 0, 0) := rfl
theorem xi_84_30 : xm_ins 84 30 = some (.iconst 3, 31, 0, 0, 3) := rfl
theorem xi_84_31 : xm_ins 84 31 = some (.newarray .int, 33, 0, 0, 0) := rfl
theorem xi_84_33 : xm_ins 84 33 = some (.putfield 19, 36, 3, 7, 1) := rfl
theorem xi_84_36 : xm_ins 84 36 = some (.aload_n 0, 37, 0, 0, 0) := rfl
theorem xi_84_37 : xm_ins 84 37 = some (.sipush 196, 40, 0, 0, 196) := rfl
theorem xi_84_40 : xm_ins 84 40 = some (.newarray .int, 42, 0, 0, 0) := rfl
theorem xi_84_42 : xm_ins 84 42 = some (.putfield 22, 45, 3, 11, 1) := rfl
theorem xi_84_45 : xm_ins 84 45 = some (.return_, 46, 0, 0, 0) := rfl
theorem xn_85 (pc : Nat) : xm_ins 85 pc = xm_find xt_85 pc := rfl
theorem xi_85_0 : xm_ins 85 0 = some (.iload_n 0, 1, 0, 0, 0) := rfl
theorem xi_85_1 : xm_ins 85 1 = some (.iload_n 1, 2, 1, 0, 0) := rfl
theorem xi_85_2 : xm_ins 85 2 = some (.if_icmp .lt 12, 5, 14, 0, 0) := rfl
theorem xi_85_5 : xm_ins 85 5 = some (.iload_n 0, 6, 0, 0, 0) := rfl
theorem xi_85_6 : xm_ins 85 6 = some (.iload_n 2, 7, 2, 0, 0) := rfl
theorem xi_85_7 : xm_ins 85 7 = some (.if_icmp .gt 7, 10, 14, 0, 0) := rfl
theorem xi_85_10 : xm_ins 85 10 = some (.iconst 1, 11, 0, 0, 1) := rfl
theorem xi_85_11 : xm_ins 85 11 = some (.goto 4, 14, 15, 0, 0) := rfl
theorem xi_85_14 : xm_ins 85 14 = some (.iconst 0, 15, 0, 0, 0) := rfl
theorem xi_85_15 : xm_ins 85 15 = some (.ireturn, 16, 0, 0, 0) := rfl
theorem xn_86 (pc : Nat) : xm_ins 86 pc = xm_find xt_86 pc := rfl
theorem xi_86_0 : xm_ins 86 0 = some (.bipush 16, 2, 0, 0, 16) := rfl
theorem xi_86_2 : xm_ins 86 2 = some (.bipush 6, 4, 0, 0, 6) := rfl
theorem xi_86_4 : xm_ins 86 4 = some (.iload_n 0, 5, 0, 0, 0) := rfl
theorem xi_86_5 : xm_ins 86 5 = some (.imul, 6, 0, 0, 0) := rfl
theorem xi_86_6 : xm_ins 86 6 = some (.iadd, 7, 0, 0, 0) := rfl
theorem xi_86_7 : xm_ins 86 7 = some (.iload_n 1, 8, 1, 0, 0) := rfl
theorem xi_86_8 : xm_ins 86 8 = some (.iadd, 9, 0, 0, 0) := rfl
theorem xi_86_9 : xm_ins 86 9 = some (.ireturn, 10, 0, 0, 0) := rfl
theorem xn_87 (pc : Nat) : xm_ins 87 pc = xm_find xt_87 pc := rfl
theorem xi_87_0 : xm_ins 87 0 = some (.iload_n 1, 1, 1, 0, 0) := rfl
theorem xi_87_1 : xm_ins 87 1 = some (.iconst 0, 2, 0, 0, 0) := rfl
theorem xi_87_2 : xm_ins 87 2 = some (.aload_n 0, 3, 0, 0, 0) := rfl
theorem xi_87_3 : xm_ins 87 3 = some (.getfield 7, 6, 3, 0, 1) := rfl
theorem xi_87_6 : xm_ins 87 6 = some (.iconst 0, 7, 0, 0, 0) := rfl
theorem xi_87_7 : xm_ins 87 7 = some (.iaload, 8, 0, 0, 0) := rfl
theorem xi_87_8 : xm_ins 87 8 = some (.iconst 1, 9, 0, 0, 1) := rfl
theorem xi_87_9 : xm_ins 87 9 = some (.isub, 10, 0, 0, 0) := rfl
theorem xi_87_10 : xm_ins 87 10 = some (.invokestatic 25, 13, 85, 3, 3) := rfl
theorem xi_87_13 : xm_ins 87 13 = some (.ifCond .eq 20, 16, 33, 0, 0) := rfl
theorem xi_87_16 : xm_ins 87 16 = some (.aload_n 0, 17, 0, 0, 0) := rfl
theorem xi_87_17 : xm_ins 87 17 = some (.getfield 7, 20, 3, 0, 1) := rfl
theorem xi_87_20 : xm_ins 87 20 = some (.iload_n 1, 21, 1, 0, 0) := rfl
theorem xi_87_21 : xm_ins 87 21 = some (.iconst 0, 22, 0, 0, 0) := rfl
theorem xi_87_22 : xm_ins 87 22 = some (.invokestatic 29, 25, 86, 2, 3) := rfl
theorem xi_87_25 : xm_ins 87 25 = some (.iaload, 26, 0, 0, 0) := rfl
theorem xi_87_26 : xm_ins 87 26 = some (.ifCond .le 7, 29, 33, 0, 0) := rfl
theorem xi_87_29 : xm_ins 87 29 = some (.iconst 1, 30, 0, 0, 1) := rfl
theorem xi_87_30 : xm_ins 87 30 = some (.goto 4, 33, 34, 0, 0) := rfl
theorem xi_87_33 : xm_ins 87 33 = some (.iconst 0, 34, 0, 0, 0) := rfl
theorem xi_87_34 : xm_ins 87 34 = some (.ireturn, 35, 0, 0, 0) := rfl
theorem xn_88 (pc : Nat) : xm_ins 88 pc = xm_find xt_88 pc := rfl
theorem xi_88_0 : xm_ins 88 0 = some (.iload_n 0, 1, 0, 0, 0) := rfl
theorem xi_88_1 : xm_ins 88 1 = some (.iconst 0, 2, 0, 0, 0) := rfl
theorem xi_88_2 : xm_ins 88 2 = some (.iconst 3, 3, 0, 0, 3) := rfl
theorem xi_88_3 : xm_ins 88 3 = some (.invokestatic 25, 6, 85, 3, 3) := rfl
theorem xi_88_6 : xm_ins 88 6 = some (.ireturn, 7, 0, 0, 0) := rfl
theorem xn_89 (pc : Nat) : xm_ins 89 pc = xm_find xt_89 pc := rfl
theorem xi_89_0 : xm_ins 89 0 = some (.iload_n 0, 1, 0, 0, 0) := rfl
theorem xi_89_1 : xm_ins 89 1 = some (.iconst 0, 2, 0, 0, 0) := rfl
theorem xi_89_2 : xm_ins 89 2 = some (.iconst 2, 3, 0, 0, 2) := rfl
theorem xi_89_3 : xm_ins 89 3 = some (.invokestatic 25, 6, 85, 3, 3) := rfl
theorem xi_89_6 : xm_ins 89 6 = some (.ireturn, 7, 0, 0, 0) := rfl
theorem xn_90 (pc : Nat) : xm_ins 90 pc = xm_find xt_90 pc := rfl
theorem xi_90_0 : xm_ins 90 0 = some (.iload_n 0, 1, 0, 0, 0) := rfl
theorem xi_90_1 : xm_ins 90 1 = some (.iload_n 1, 2, 1, 0, 0) := rfl
theorem xi_90_2 : xm_ins 90 2 = some (.ishr, 3, 0, 0, 0) := rfl
theorem xi_90_3 : xm_ins 90 3 = some (.iconst 1, 4, 0, 0, 1) := rfl
theorem xi_90_4 : xm_ins 90 4 = some (.iand, 5, 0, 0, 0) := rfl
theorem xi_90_5 : xm_ins 90 5 = some (.iconst 1, 6, 0, 0, 1) := rfl
theorem xi_90_6 : xm_ins 90 6 = some (.if_icmp .ne 7, 9, 13, 0, 0) := rfl
theorem xi_90_9 : xm_ins 90 9 = some (.iconst 1, 10, 0, 0, 1) := rfl
theorem xi_90_10 : xm_ins 90 10 = some (.goto 4, 13, 14, 0, 0) := rfl
theorem xi_90_13 : xm_ins 90 13 = some (.iconst 0, 14, 0, 0, 0) := rfl
theorem xi_90_14 : xm_ins 90 14 = some (.ireturn, 15, 0, 0, 0) := rfl
theorem xn_91 (pc : Nat) : xm_ins 91 pc = xm_find xt_91 pc := rfl
theorem xi_91_0 : xm_ins 91 0 = some (.iconst 0, 1, 0, 0, 0) := rfl
theorem xi_91_1 : xm_ins 91 1 = some (.istore_n 1, 2, 1, 0, 0) := rfl
theorem xi_91_2 : xm_ins 91 2 = some (.iconst 0, 3, 0, 0, 0) := rfl
theorem xi_91_3 : xm_ins 91 3 = some (.istore_n 2, 4, 2, 0, 0) := rfl
theorem xi_91_4 : xm_ins 91 4 = some (.iload_n 2, 5, 2, 0, 0) := rfl
theorem xi_91_5 : xm_ins 91 5 = some (.bipush 30, 7, 0, 0, 30) := rfl
theorem xi_91_7 : xm_ins 91 7 = some (.if_icmp .ge 17, 10, 24, 0, 0) := rfl
theorem xi_91_10 : xm_ins 91 10 = some (.iload_n 1, 11, 1, 0, 0) := rfl
theorem xi_91_11 : xm_ins 91 11 = some (.iload_n 0, 12, 0, 0, 0) := rfl
theorem xi_91_12 : xm_ins 91 12 = some (.iload_n 2, 13, 2, 0, 0) := rfl
theorem xi_91_13 : xm_ins 91 13 = some (.ishr, 14, 0, 0, 0) := rfl
theorem xi_91_14 : xm_ins 91 14 = some (.iconst 1, 15, 0, 0, 1) := rfl
theorem xi_91_15 : xm_ins 91 15 = some (.iand, 16, 0, 0, 0) := rfl
theorem xi_91_16 : xm_ins 91 16 = some (.iadd, 17, 0, 0, 0) := rfl
theorem xi_91_17 : xm_ins 91 17 = some (.istore_n 1, 18, 1, 0, 0) := rfl
theorem xi_91_18 : xm_ins 91 18 = some (.iinc 2 1, 21, 2, 0, 1) := rfl
theorem xi_91_21 : xm_ins 91 21 = some (.goto (-17), 24, 4, 0, 0) := rfl
theorem xi_91_24 : xm_ins 91 24 = some (.iload_n 1, 25, 1, 0, 0) := rfl
theorem xi_91_25 : xm_ins 91 25 = some (.ireturn, 26, 0, 0, 0) := rfl
theorem xn_92 (pc : Nat) : xm_ins 92 pc = xm_find xt_92 pc := rfl
theorem xi_92_0 : xm_ins 92 0 = some (.iconst 0, 1, 0, 0, 0) := rfl
theorem xi_92_1 : xm_ins 92 1 = some (.istore_n 3, 2, 3, 0, 0) := rfl
theorem xi_92_2 : xm_ins 92 2 = some (.iload_n 3, 3, 3, 0, 0) := rfl
theorem xi_92_3 : xm_ins 92 3 = some (.sipush 196, 6, 0, 0, 196) := rfl
theorem xi_92_6 : xm_ins 92 6 = some (.if_icmp .ge 25, 9, 31, 0, 0) := rfl
theorem xi_92_9 : xm_ins 92 9 = some (.aload_n 0, 10, 0, 0, 0) := rfl
theorem xi_92_10 : xm_ins 92 10 = some (.getfield 7, 13, 3, 0, 1) := rfl
theorem xi_92_13 : xm_ins 92 13 = some (.iload_n 2, 14, 2, 0, 0) := rfl
theorem xi_92_14 : xm_ins 92 14 = some (.iload_n 3, 15, 3, 0, 0) := rfl
theorem xi_92_15 : xm_ins 92 15 = some (.iadd, 16, 0, 0, 0) := rfl
theorem xi_92_16 : xm_ins 92 16 = some (.aload_n 0, 17, 0, 0, 0) := rfl
theorem xi_92_17 : xm_ins 92 17 = some (.getfield 7, 20, 3, 0, 1) := rfl
theorem xi_92_20 : xm_ins 92 20 = some (.iload_n 1, 21, 1, 0, 0) := rfl
theorem xi_92_21 : xm_ins 92 21 = some (.iload_n 3, 22, 3, 0, 0) := rfl
theorem xi_92_22 : xm_ins 92 22 = some (.iadd, 23, 0, 0, 0) := rfl
theorem xi_92_23 : xm_ins 92 23 = some (.iaload, 24, 0, 0, 0) := rfl
theorem xi_92_24 : xm_ins 92 24 = some (.iastore, 25, 0, 0, 0) := rfl
theorem xi_92_25 : xm_ins 92 25 = some (.iinc 3 1, 28, 3, 0, 1) := rfl
theorem xi_92_28 : xm_ins 92 28 = some (.goto (-26), 31, 2, 0, 0) := rfl
theorem xi_92_31 : xm_ins 92 31 = some (.return_, 32, 0, 0, 0) := rfl
theorem xn_93 (pc : Nat) : xm_ins 93 pc = xm_find xt_93 pc := rfl
theorem xi_93_0 : xm_ins 93 0 = some (.aload_n 0, 1, 0, 0, 0) := rfl
theorem xi_93_1 : xm_ins 93 1 = some (.getfield 33, 4, 3, 1, 0) := rfl
theorem xi_93_4 : xm_ins 93 4 = some (.iconst 4, 5, 0, 0, 4) := rfl
theorem xi_93_5 : xm_ins 93 5 = some (.if_icmp .ne 44, 8, 49, 0, 0) := rfl
theorem xi_93_8 : xm_ins 93 8 = some (.iconst 1, 9, 0, 0, 1) := rfl
theorem xi_93_9 : xm_ins 93 9 = some (.istore_n 2, 10, 2, 0, 0) := rfl
theorem xi_93_10 : xm_ins 93 10 = some (.iload_n 2, 11, 2, 0, 0) := rfl
theorem xi_93_11 : xm_ins 93 11 = some (.iconst 4, 12, 0, 0, 4) := rfl
theorem xi_93_12 : xm_ins 93 12 = some (.if_icmp .ge 27, 15, 39, 0, 0) := rfl
theorem xi_93_15 : xm_ins 93 15 = some (.aload_n 0, 16, 0, 0, 0) := rfl
theorem xi_93_16 : xm_ins 93 16 = some (.sipush 196, 19, 0, 0, 196) := rfl
theorem xi_93_19 : xm_ins 93 19 = some (.sipush 196, 22, 0, 0, 196) := rfl
theorem xi_93_22 : xm_ins 93 22 = some (.iload_n 2, 23, 2, 0, 0) := rfl
theorem xi_93_23 : xm_ins 93 23 = some (.imul, 24, 0, 0, 0) := rfl
theorem xi_93_24 : xm_ins 93 24 = some (.iadd, 25, 0, 0, 0) := rfl
theorem xi_93_25 : xm_ins 93 25 = some (.sipush 196, 28, 0, 0, 196) := rfl
theorem xi_93_28 : xm_ins 93 28 = some (.iload_n 2, 29, 2, 0, 0) := rfl
theorem xi_93_29 : xm_ins 93 29 = some (.imul, 30, 0, 0, 0) := rfl
theorem xi_93_30 : xm_ins 93 30 = some (.invokevirtual 37, 33, 92, 3, 3) := rfl
theorem xi_93_33 : xm_ins 93 33 = some (.iinc 2 1, 36, 2, 0, 1) := rfl
theorem xi_93_36 : xm_ins 93 36 = some (.goto (-26), 39, 10, 0, 0) := rfl
theorem xi_93_39 : xm_ins 93 39 = some (.aload_n 0, 40, 0, 0, 0) := rfl
theorem xi_93_40 : xm_ins 93 40 = some (.dup, 41, 0, 0, 0) := rfl
theorem xi_93_41 : xm_ins 93 41 = some (.getfield 33, 44, 3, 1, 0) := rfl
theorem xi_93_44 : xm_ins 93 44 = some (.iconst 1, 45, 0, 0, 1) := rfl
theorem xi_93_45 : xm_ins 93 45 = some (.isub, 46, 0, 0, 0) := rfl
theorem xi_93_46 : xm_ins 93 46 = some (.putfield 33, 49, 3, 1, 0) := rfl
theorem xi_93_49 : xm_ins 93 49 = some (.aload_n 0, 50, 0, 0, 0) := rfl
theorem xi_93_50 : xm_ins 93 50 = some (.iload_n 1, 51, 1, 0, 0) := rfl
theorem xi_93_51 : xm_ins 93 51 = some (.sipush 196, 54, 0, 0, 196) := rfl
theorem xi_93_54 : xm_ins 93 54 = some (.sipush 196, 57, 0, 0, 196) := rfl
theorem xi_93_57 : xm_ins 93 57 = some (.aload_n 0, 58, 0, 0, 0) := rfl
theorem xi_93_58 : xm_ins 93 58 = some (.getfield 33, 61, 3, 1, 0) := rfl
theorem xi_93_61 : xm_ins 93 61 = some (.imul, 62, 0, 0, 0) := rfl
theorem xi_93_62 : xm_ins 93 62 = some (.iadd, 63, 0, 0, 0) := rfl
theorem xi_93_63 : xm_ins 93 63 = some (.invokevirtual 37, 66, 92, 3, 3) := rfl
theorem xi_93_66 : xm_ins 93 66 = some (.aload_n 0, 67, 0, 0, 0) := rfl
theorem xi_93_67 : xm_ins 93 67 = some (.dup, 68, 0, 0, 0) := rfl
theorem xi_93_68 : xm_ins 93 68 = some (.getfield 33, 71, 3, 1, 0) := rfl
theorem xi_93_71 : xm_ins 93 71 = some (.iconst 1, 72, 0, 0, 1) := rfl
theorem xi_93_72 : xm_ins 93 72 = some (.iadd, 73, 0, 0, 0) := rfl
theorem xi_93_73 : xm_ins 93 73 = some (.putfield 33, 76, 3, 1, 0) := rfl
theorem xi_93_76 : xm_ins 93 76 = some (.return_, 77, 0, 0, 0) := rfl
theorem xn_94 (pc : Nat) : xm_ins 94 pc = xm_find xt_94 pc := rfl
theorem xi_94_0 : xm_ins 94 0 = some (.aload_n 0, 1, 0, 0, 0) := rfl
theorem xi_94_1 : xm_ins 94 1 = some (.getfield 33, 4, 3, 1, 0) := rfl
theorem xi_94_4 : xm_ins 94 4 = some (.ifCond .ne 6, 7, 10, 0, 0) := rfl
theorem xi_94_7 : xm_ins 94 7 = some (.ldc 41, 9, 0, 0, (-1000002)) := rfl
theorem xi_94_9 : xm_ins 94 9 = some (.ireturn, 10, 0, 0, 0) := rfl
theorem xi_94_10 : xm_ins 94 10 = some (.aload_n 0, 11, 0, 0, 0) := rfl
theorem xi_94_11 : xm_ins 94 11 = some (.dup, 12, 0, 0, 0) := rfl
theorem xi_94_12 : xm_ins 94 12 = some (.getfield 33, 15, 3, 1, 0) := rfl
theorem xi_94_15 : xm_ins 94 15 = some (.iconst 1, 16, 0, 0, 1) := rfl
theorem xi_94_16 : xm_ins 94 16 = some (.isub, 17, 0, 0, 0) := rfl
theorem xi_94_17 : xm_ins 94 17 = some (.putfield 33, 20, 3, 1, 0) := rfl
theorem xi_94_20 : xm_ins 94 20 = some (.aload_n 0, 21, 0, 0, 0) := rfl
theorem xi_94_21 : xm_ins 94 21 = some (.sipush 196, 24, 0, 0, 196) := rfl
theorem xi_94_24 : xm_ins 94 24 = some (.sipush 196, 27, 0, 0, 196) := rfl
theorem xi_94_27 : xm_ins 94 27 = some (.aload_n 0, 28, 0, 0, 0) := rfl
theorem xi_94_28 : xm_ins 94 28 = some (.getfield 33, 31, 3, 1, 0) := rfl
theorem xi_94_31 : xm_ins 94 31 = some (.imul, 32, 0, 0, 0) := rfl
theorem xi_94_32 : xm_ins 94 32 = some (.iadd, 33, 0, 0, 0) := rfl
theorem xi_94_33 : xm_ins 94 33 = some (.iconst 0, 34, 0, 0, 0) := rfl
theorem xi_94_34 : xm_ins 94 34 = some (.invokevirtual 37, 37, 92, 3, 3) := rfl
theorem xi_94_37 : xm_ins 94 37 = some (.aload_n 0, 38, 0, 0, 0) := rfl
theorem xi_94_38 : xm_ins 94 38 = some (.getfield 33, 41, 3, 1, 0) := rfl
theorem xi_94_41 : xm_ins 94 41 = some (.ireturn, 42, 0, 0, 0) := rfl
theorem xn_95 (pc : Nat) : xm_ins 95 pc = xm_find xt_95 pc := rfl
theorem xi_95_0 : xm_ins 95 0 = some (.aload_n 0, 1, 0, 0, 0) := rfl
theorem xi_95_1 : xm_ins 95 1 = some (.getfield 7, 4, 3, 0, 1) := rfl
theorem xi_95_4 : xm_ins 95 4 = some (.iload_n 1, 5, 1, 0, 0) := rfl
theorem xi_95_5 : xm_ins 95 5 = some (.iconst 0, 6, 0, 0, 0) := rfl
theorem xi_95_6 : xm_ins 95 6 = some (.invokestatic 29, 9, 86, 2, 3) := rfl
theorem xi_95_9 : xm_ins 95 9 = some (.iaload, 10, 0, 0, 0) := rfl
theorem xi_95_10 : xm_ins 95 10 = some (.iconst 1, 11, 0, 0, 1) := rfl
theorem xi_95_11 : xm_ins 95 11 = some (.isub, 12, 0, 0, 0) := rfl
theorem xi_95_12 : xm_ins 95 12 = some (.iconst 5, 13, 0, 0, 5) := rfl
theorem xi_95_13 : xm_ins 95 13 = some (.idiv, 14, 0, 0, 0) := rfl
theorem xi_95_14 : xm_ins 95 14 = some (.ireturn, 15, 0, 0, 0) := rfl
theorem xn_96 (pc : Nat) : xm_ins 96 pc = xm_find xt_96 pc := rfl
theorem xi_96_0 : xm_ins 96 0 = some (.aload_n 0, 1, 0, 0, 0) := rfl
theorem xi_96_1 : xm_ins 96 1 = some (.getfield 7, 4, 3, 0, 1) := rfl
theorem xi_96_4 : xm_ins 96 4 = some (.iconst 4, 5, 0, 0, 4) := rfl
theorem xi_96_5 : xm_ins 96 5 = some (.aload_n 0, 6, 0, 0, 0) := rfl
theorem xi_96_6 : xm_ins 96 6 = some (.iload_n 1, 7, 1, 0, 0) := rfl
theorem xi_96_7 : xm_ins 96 7 = some (.invokevirtual 42, 10, 95, 2, 3) := rfl
theorem xi_96_10 : xm_ins 96 10 = some (.iadd, 11, 0, 0, 0) := rfl
theorem xi_96_11 : xm_ins 96 11 = some (.iaload, 12, 0, 0, 0) := rfl
theorem xi_96_12 : xm_ins 96 12 = some (.iconst 1, 13, 0, 0, 1) := rfl
theorem xi_96_13 : xm_ins 96 13 = some (.isub, 14, 0, 0, 0) := rfl
theorem xi_96_14 : xm_ins 96 14 = some (.ireturn, 15, 0, 0, 0) := rfl
theorem xn_97 (pc : Nat) : xm_ins 97 pc = xm_find xt_97 pc := rfl
theorem xi_97_0 : xm_ins 97 0 = some (.iconst 0, 1, 0, 0, 0) := rfl
theorem xi_97_1 : xm_ins 97 1 = some (.istore_n 2, 2, 2, 0, 0) := rfl
theorem xi_97_2 : xm_ins 97 2 = some (.iconst 0, 3, 0, 0, 0) := rfl
theorem xi_97_3 : xm_ins 97 3 = some (.istore_n 3, 4, 3, 0, 0) := rfl
theorem xi_97_4 : xm_ins 97 4 = some (.iload_n 3, 5, 3, 0, 0) := rfl
theorem xi_97_5 : xm_ins 97 5 = some (.aload_n 0, 6, 0, 0, 0) := rfl
theorem xi_97_6 : xm_ins 97 6 = some (.getfield 7, 9, 3, 0, 1) := rfl
theorem xi_97_9 : xm_ins 97 9 = some (.iconst 0, 10, 0, 0, 0) := rfl
theorem xi_97_10 : xm_ins 97 10 = some (.iaload, 11, 0, 0, 0) := rfl
theorem xi_97_11 : xm_ins 97 11 = some (.if_icmp .ge 36, 14, 47, 0, 0) := rfl
theorem xi_97_14 : xm_ins 97 14 = some (.iload_n 2, 15, 2, 0, 0) := rfl
theorem xi_97_15 : xm_ins 97 15 = some (.aload_n 0, 16, 0, 0, 0) := rfl
theorem xi_97_16 : xm_ins 97 16 = some (.iload_n 3, 17, 3, 0, 0) := rfl
theorem xi_97_17 : xm_ins 97 17 = some (.invokevirtual 46, 20, 87, 2, 3) := rfl
theorem xi_97_20 : xm_ins 97 20 = some (.ifCond .eq 18, 23, 38, 0, 0) := rfl
theorem xi_97_23 : xm_ins 97 23 = some (.aload_n 0, 24, 0, 0, 0) := rfl
theorem xi_97_24 : xm_ins 97 24 = some (.iload_n 3, 25, 3, 0, 0) := rfl
theorem xi_97_25 : xm_ins 97 25 = some (.invokevirtual 50, 28, 96, 2, 3) := rfl
theorem xi_97_28 : xm_ins 97 28 = some (.iload_n 1, 29, 1, 0, 0) := rfl
theorem xi_97_29 : xm_ins 97 29 = some (.if_icmp .gt 9, 32, 38, 0, 0) := rfl
theorem xi_97_32 : xm_ins 97 32 = some (.iconst 1, 33, 0, 0, 1) := rfl
theorem xi_97_33 : xm_ins 97 33 = some (.iload_n 3, 34, 3, 0, 0) := rfl
theorem xi_97_34 : xm_ins 97 34 = some (.ishl, 35, 0, 0, 0) := rfl
theorem xi_97_35 : xm_ins 97 35 = some (.goto 4, 38, 39, 0, 0) := rfl
theorem xi_97_38 : xm_ins 97 38 = some (.iconst 0, 39, 0, 0, 0) := rfl
theorem xi_97_39 : xm_ins 97 39 = some (.ior, 40, 0, 0, 0) := rfl
theorem xi_97_40 : xm_ins 97 40 = some (.istore_n 2, 41, 2, 0, 0) := rfl
theorem xi_97_41 : xm_ins 97 41 = some (.iinc 3 1, 44, 3, 0, 1) := rfl
theorem xi_97_44 : xm_ins 97 44 = some (.goto (-40), 47, 4, 0, 0) := rfl
theorem xi_97_47 : xm_ins 97 47 = some (.iload_n 2, 48, 2, 0, 0) := rfl
theorem xi_97_48 : xm_ins 97 48 = some (.ireturn, 49, 0, 0, 0) := rfl
theorem xn_98 (pc : Nat) : xm_ins 98 pc = xm_find xt_98 pc := rfl
theorem xi_98_0 : xm_ins 98 0 = some (.iconst 0, 1, 0, 0, 0) := rfl
theorem xi_98_1 : xm_ins 98 1 = some (.istore_n 2, 2, 2, 0, 0) := rfl
theorem xi_98_2 : xm_ins 98 2 = some (.iload_n 2, 3, 2, 0, 0) := rfl
theorem xi_98_3 : xm_ins 98 3 = some (.aload_n 0, 4, 0, 0, 0) := rfl
theorem xi_98_4 : xm_ins 98 4 = some (.getfield 7, 7, 3, 0, 1) := rfl
theorem xi_98_7 : xm_ins 98 7 = some (.iconst 0, 8, 0, 0, 0) := rfl
theorem xi_98_8 : xm_ins 98 8 = some (.iaload, 9, 0, 0, 0) := rfl
theorem xi_98_9 : xm_ins 98 9 = some (.if_icmp .ge 27, 12, 36, 0, 0) := rfl
theorem xi_98_12 : xm_ins 98 12 = some (.aload_n 0, 13, 0, 0, 0) := rfl
theorem xi_98_13 : xm_ins 98 13 = some (.getfield 7, 16, 3, 0, 1) := rfl
theorem xi_98_16 : xm_ins 98 16 = some (.iload_n 2, 17, 2, 0, 0) := rfl
theorem xi_98_17 : xm_ins 98 17 = some (.iconst 0, 18, 0, 0, 0) := rfl
theorem xi_98_18 : xm_ins 98 18 = some (.invokestatic 29, 21, 86, 2, 3) := rfl
theorem xi_98_21 : xm_ins 98 21 = some (.iaload, 22, 0, 0, 0) := rfl
theorem xi_98_22 : xm_ins 98 22 = some (.iload_n 1, 23, 1, 0, 0) := rfl
theorem xi_98_23 : xm_ins 98 23 = some (.iconst 1, 24, 0, 0, 1) := rfl
theorem xi_98_24 : xm_ins 98 24 = some (.iadd, 25, 0, 0, 0) := rfl
theorem xi_98_25 : xm_ins 98 25 = some (.if_icmp .ne 5, 28, 30, 0, 0) := rfl
theorem xi_98_28 : xm_ins 98 28 = some (.iload_n 2, 29, 2, 0, 0) := rfl
theorem xi_98_29 : xm_ins 98 29 = some (.ireturn, 30, 0, 0, 0) := rfl
theorem xi_98_30 : xm_ins 98 30 = some (.iinc 2 1, 33, 2, 0, 1) := rfl
theorem xi_98_33 : xm_ins 98 33 = some (.goto (-31), 36, 2, 0, 0) := rfl
theorem xi_98_36 : xm_ins 98 36 = some (.ldc 53, 38, 0, 0, (-1000004)) := rfl
theorem xi_98_38 : xm_ins 98 38 = some (.ireturn, 39, 0, 0, 0) := rfl
theorem xn_99 (pc : Nat) : xm_ins 99 pc = xm_find xt_99 pc := rfl
theorem xi_99_0 : xm_ins 99 0 = some (.iconst 5, 1, 0, 0, 5) := rfl
theorem xi_99_1 : xm_ins 99 1 = some (.iload_n 1, 2, 1, 0, 0) := rfl
theorem xi_99_2 : xm_ins 99 2 = some (.imul, 3, 0, 0, 0) := rfl
theorem xi_99_3 : xm_ins 99 3 = some (.istore_n 2, 4, 2, 0, 0) := rfl
theorem xi_99_4 : xm_ins 99 4 = some (.iload_n 2, 5, 2, 0, 0) := rfl
theorem xi_99_5 : xm_ins 99 5 = some (.iconst 5, 6, 0, 0, 5) := rfl
theorem xi_99_6 : xm_ins 99 6 = some (.iload_n 1, 7, 1, 0, 0) := rfl
theorem xi_99_7 : xm_ins 99 7 = some (.imul, 8, 0, 0, 0) := rfl
theorem xi_99_8 : xm_ins 99 8 = some (.iconst 5, 9, 0, 0, 5) := rfl
theorem xi_99_9 : xm_ins 99 9 = some (.iadd, 10, 0, 0, 0) := rfl
theorem xi_99_10 : xm_ins 99 10 = some (.if_icmp .ge 21, 13, 31, 0, 0) := rfl
theorem xi_99_13 : xm_ins 99 13 = some (.aload_n 0, 14, 0, 0, 0) := rfl
theorem xi_99_14 : xm_ins 99 14 = some (.iload_n 2, 15, 2, 0, 0) := rfl
theorem xi_99_15 : xm_ins 99 15 = some (.invokevirtual 54, 18, 98, 2, 3) := rfl
theorem xi_99_18 : xm_ins 99 18 = some (.ldc 53, 20, 0, 0, (-1000004)) := rfl
theorem xi_99_20 : xm_ins 99 20 = some (.if_icmp .ne 5, 23, 25, 0, 0) := rfl
theorem xi_99_23 : xm_ins 99 23 = some (.iload_n 2, 24, 2, 0, 0) := rfl
theorem xi_99_24 : xm_ins 99 24 = some (.ireturn, 25, 0, 0, 0) := rfl
theorem xi_99_25 : xm_ins 99 25 = some (.iinc 2 1, 28, 2, 0, 1) := rfl
theorem xi_99_28 : xm_ins 99 28 = some (.goto (-24), 31, 4, 0, 0) := rfl
theorem xi_99_31 : xm_ins 99 31 = some (.ldc 53, 33, 0, 0, (-1000004)) := rfl
theorem xi_99_33 : xm_ins 99 33 = some (.ireturn, 34, 0, 0, 0) := rfl
theorem xn_100 (pc : Nat) : xm_ins 100 pc = xm_find xt_100 pc := rfl
theorem xi_100_0 : xm_ins 100 0 = some (.iconst 0, 1, 0, 0, 0) := rfl
theorem xi_100_1 : xm_ins 100 1 = some (.istore_n 2, 2, 2, 0, 0) := rfl
theorem xi_100_2 : xm_ins 100 2 = some (.iload_n 2, 3, 2, 0, 0) := rfl
theorem xi_100_3 : xm_ins 100 3 = some (.bipush 8, 5, 0, 0, 8) := rfl
theorem xi_100_5 : xm_ins 100 5 = some (.if_icmp .ge 39, 8, 44, 0, 0) := rfl
theorem xi_100_8 : xm_ins 100 8 = some (.aload_n 0, 9, 0, 0, 0) := rfl
theorem xi_100_9 : xm_ins 100 9 = some (.getfield 7, 12, 3, 0, 1) := rfl
theorem xi_100_12 : xm_ins 100 12 = some (.iconst 4, 13, 0, 0, 4) := rfl
theorem xi_100_13 : xm_ins 100 13 = some (.iload_n 2, 14, 2, 0, 0) := rfl
theorem xi_100_14 : xm_ins 100 14 = some (.iadd, 15, 0, 0, 0) := rfl
theorem xi_100_15 : xm_ins 100 15 = some (.iaload, 16, 0, 0, 0) := rfl
theorem xi_100_16 : xm_ins 100 16 = some (.iload_n 1, 17, 1, 0, 0) := rfl
theorem xi_100_17 : xm_ins 100 17 = some (.iconst 1, 18, 0, 0, 1) := rfl
theorem xi_100_18 : xm_ins 100 18 = some (.iadd, 19, 0, 0, 0) := rfl
theorem xi_100_19 : xm_ins 100 19 = some (.if_icmp .ne 19, 22, 38, 0, 0) := rfl
theorem xi_100_22 : xm_ins 100 22 = some (.aload_n 0, 23, 0, 0, 0) := rfl
theorem xi_100_23 : xm_ins 100 23 = some (.iload_n 2, 24, 2, 0, 0) := rfl
theorem xi_100_24 : xm_ins 100 24 = some (.invokevirtual 57, 27, 99, 2, 3) := rfl
theorem xi_100_27 : xm_ins 100 27 = some (.ldc 53, 29, 0, 0, (-1000004)) := rfl
theorem xi_100_29 : xm_ins 100 29 = some (.if_icmp .eq 9, 32, 38, 0, 0) := rfl
theorem xi_100_32 : xm_ins 100 32 = some (.aload_n 0, 33, 0, 0, 0) := rfl
theorem xi_100_33 : xm_ins 100 33 = some (.iload_n 2, 34, 2, 0, 0) := rfl
theorem xi_100_34 : xm_ins 100 34 = some (.invokevirtual 57, 37, 99, 2, 3) := rfl
theorem xi_100_37 : xm_ins 100 37 = some (.ireturn, 38, 0, 0, 0) := rfl
theorem xi_100_38 : xm_ins 100 38 = some (.iinc 2 1, 41, 2, 0, 1) := rfl
theorem xi_100_41 : xm_ins 100 41 = some (.goto (-39), 44, 2, 0, 0) := rfl
theorem xi_100_44 : xm_ins 100 44 = some (.iconst 0, 45, 0, 0, 0) := rfl
theorem xi_100_45 : xm_ins 100 45 = some (.istore_n 2, 46, 2, 0, 0) := rfl
theorem xi_100_46 : xm_ins 100 46 = some (.iload_n 2, 47, 2, 0, 0) := rfl
theorem xi_100_47 : xm_ins 100 47 = some (.bipush 8, 49, 0, 0, 8) := rfl
theorem xi_100_49 : xm_ins 100 49 = some (.if_icmp .ge 35, 52, 84, 0, 0) := rfl
theorem xi_100_52 : xm_ins 100 52 = some (.aload_n 0, 53, 0, 0, 0) := rfl
theorem xi_100_53 : xm_ins 100 53 = some (.getfield 7, 56, 3, 0, 1) := rfl
theorem xi_100_56 : xm_ins 100 56 = some (.iconst 4, 57, 0, 0, 4) := rfl
theorem xi_100_57 : xm_ins 100 57 = some (.iload_n 2, 58, 2, 0, 0) := rfl
theorem xi_100_58 : xm_ins 100 58 = some (.iadd, 59, 0, 0, 0) := rfl
theorem xi_100_59 : xm_ins 100 59 = some (.iaload, 60, 0, 0, 0) := rfl
theorem xi_100_60 : xm_ins 100 60 = some (.ifCond .ne 18, 63, 78, 0, 0) := rfl
theorem xi_100_63 : xm_ins 100 63 = some (.aload_n 0, 64, 0, 0, 0) := rfl
theorem xi_100_64 : xm_ins 100 64 = some (.getfield 7, 67, 3, 0, 1) := rfl
theorem xi_100_67 : xm_ins 100 67 = some (.iconst 4, 68, 0, 0, 4) := rfl
theorem xi_100_68 : xm_ins 100 68 = some (.iload_n 2, 69, 2, 0, 0) := rfl
theorem xi_100_69 : xm_ins 100 69 = some (.iadd, 70, 0, 0, 0) := rfl
theorem xi_100_70 : xm_ins 100 70 = some (.iload_n 1, 71, 1, 0, 0) := rfl
theorem xi_100_71 : xm_ins 100 71 = some (.iconst 1, 72, 0, 0, 1) := rfl
theorem xi_100_72 : xm_ins 100 72 = some (.iadd, 73, 0, 0, 0) := rfl
theorem xi_100_73 : xm_ins 100 73 = some (.iastore, 74, 0, 0, 0) := rfl
theorem xi_100_74 : xm_ins 100 74 = some (.iconst 5, 75, 0, 0, 5) := rfl
theorem xi_100_75 : xm_ins 100 75 = some (.iload_n 2, 76, 2, 0, 0) := rfl
theorem xi_100_76 : xm_ins 100 76 = some (.imul, 77, 0, 0, 0) := rfl
theorem xi_100_77 : xm_ins 100 77 = some (.ireturn, 78, 0, 0, 0) := rfl
theorem xi_100_78 : xm_ins 100 78 = some (.iinc 2 1, 81, 2, 0, 1) := rfl
theorem xi_100_81 : xm_ins 100 81 = some (.goto (-35), 84, 46, 0, 0) := rfl
theorem xi_100_84 : xm_ins 100 84 = some (.ldc 53, 86, 0, 0, (-1000004)) := rfl
theorem xi_100_86 : xm_ins 100 86 = some (.ireturn, 87, 0, 0, 0) := rfl
theorem xn_101 (pc : Nat) : xm_ins 101 pc = xm_find xt_101 pc := rfl
theorem xi_101_0 : xm_ins 101 0 = some (.iconst 0, 1, 0, 0, 0) := rfl
theorem xi_101_1 : xm_ins 101 1 = some (.istore_n 1, 2, 1, 0, 0) := rfl
theorem xi_101_2 : xm_ins 101 2 = some (.iload_n 1, 3, 1, 0, 0) := rfl
theorem xi_101_3 : xm_ins 101 3 = some (.bipush 8, 5, 0, 0, 8) := rfl
theorem xi_101_5 : xm_ins 101 5 = some (.if_icmp .ge 74, 8, 79, 0, 0) := rfl
theorem xi_101_8 : xm_ins 101 8 = some (.iconst 1, 9, 0, 0, 1) := rfl
theorem xi_101_9 : xm_ins 101 9 = some (.istore_n 2, 10, 2, 0, 0) := rfl
theorem xi_101_10 : xm_ins 101 10 = some (.iconst 5, 11, 0, 0, 5) := rfl
theorem xi_101_11 : xm_ins 101 11 = some (.iload_n 1, 12, 1, 0, 0) := rfl
theorem xi_101_12 : xm_ins 101 12 = some (.imul, 13, 0, 0, 0) := rfl
theorem xi_101_13 : xm_ins 101 13 = some (.istore_n 3, 14, 3, 0, 0) := rfl
theorem xi_101_14 : xm_ins 101 14 = some (.iload_n 3, 15, 3, 0, 0) := rfl
theorem xi_101_15 : xm_ins 101 15 = some (.iconst 5, 16, 0, 0, 5) := rfl
theorem xi_101_16 : xm_ins 101 16 = some (.iload_n 1, 17, 1, 0, 0) := rfl
theorem xi_101_17 : xm_ins 101 17 = some (.imul, 18, 0, 0, 0) := rfl
theorem xi_101_18 : xm_ins 101 18 = some (.iconst 5, 19, 0, 0, 5) := rfl
theorem xi_101_19 : xm_ins 101 19 = some (.iadd, 20, 0, 0, 0) := rfl
theorem xi_101_20 : xm_ins 101 20 = some (.if_icmp .ge 29, 23, 49, 0, 0) := rfl
theorem xi_101_23 : xm_ins 101 23 = some (.iload_n 2, 24, 2, 0, 0) := rfl
theorem xi_101_24 : xm_ins 101 24 = some (.ifCond .eq 17, 27, 41, 0, 0) := rfl
theorem xi_101_27 : xm_ins 101 27 = some (.aload_n 0, 28, 0, 0, 0) := rfl
theorem xi_101_28 : xm_ins 101 28 = some (.iload_n 3, 29, 3, 0, 0) := rfl
theorem xi_101_29 : xm_ins 101 29 = some (.invokevirtual 54, 32, 98, 2, 3) := rfl
theorem xi_101_32 : xm_ins 101 32 = some (.ldc 53, 34, 0, 0, (-1000004)) := rfl
theorem xi_101_34 : xm_ins 101 34 = some (.if_icmp .ne 7, 37, 41, 0, 0) := rfl
theorem xi_101_37 : xm_ins 101 37 = some (.iconst 1, 38, 0, 0, 1) := rfl
theorem xi_101_38 : xm_ins 101 38 = some (.goto 4, 41, 42, 0, 0) := rfl
theorem xi_101_41 : xm_ins 101 41 = some (.iconst 0, 42, 0, 0, 0) := rfl
theorem xi_101_42 : xm_ins 101 42 = some (.istore_n 2, 43, 2, 0, 0) := rfl
theorem xi_101_43 : xm_ins 101 43 = some (.iinc 3 1, 46, 3, 0, 1) := rfl
theorem xi_101_46 : xm_ins 101 46 = some (.goto (-32), 49, 14, 0, 0) := rfl
theorem xi_101_49 : xm_ins 101 49 = some (.aload_n 0, 50, 0, 0, 0) := rfl
theorem xi_101_50 : xm_ins 101 50 = some (.getfield 7, 53, 3, 0, 1) := rfl
theorem xi_101_53 : xm_ins 101 53 = some (.iconst 4, 54, 0, 0, 4) := rfl
theorem xi_101_54 : xm_ins 101 54 = some (.iload_n 1, 55, 1, 0, 0) := rfl
theorem xi_101_55 : xm_ins 101 55 = some (.iadd, 56, 0, 0, 0) := rfl
theorem xi_101_56 : xm_ins 101 56 = some (.iload_n 2, 57, 2, 0, 0) := rfl
theorem xi_101_57 : xm_ins 101 57 = some (.ifCond .eq 7, 60, 64, 0, 0) := rfl
theorem xi_101_60 : xm_ins 101 60 = some (.iconst 0, 61, 0, 0, 0) := rfl
theorem xi_101_61 : xm_ins 101 61 = some (.goto 11, 64, 72, 0, 0) := rfl
theorem xi_101_64 : xm_ins 101 64 = some (.aload_n 0, 65, 0, 0, 0) := rfl
theorem xi_101_65 : xm_ins 101 65 = some (.getfield 7, 68, 3, 0, 1) := rfl
theorem xi_101_68 : xm_ins 101 68 = some (.iconst 4, 69, 0, 0, 4) := rfl
theorem xi_101_69 : xm_ins 101 69 = some (.iload_n 1, 70, 1, 0, 0) := rfl
theorem xi_101_70 : xm_ins 101 70 = some (.iadd, 71, 0, 0, 0) := rfl
theorem xi_101_71 : xm_ins 101 71 = some (.iaload, 72, 0, 0, 0) := rfl
theorem xi_101_72 : xm_ins 101 72 = some (.iastore, 73, 0, 0, 0) := rfl
theorem xi_101_73 : xm_ins 101 73 = some (.iinc 1 1, 76, 1, 0, 1) := rfl
theorem xi_101_76 : xm_ins 101 76 = some (.goto (-74), 79, 2, 0, 0) := rfl
theorem xi_101_79 : xm_ins 101 79 = some (.return_, 80, 0, 0, 0) := rfl
theorem xn_102 (pc : Nat) : xm_ins 102 pc = xm_find xt_102 pc := rfl
theorem xi_102_0 : xm_ins 102 0 = some (.aload_n 0, 1, 0, 0, 0) := rfl
theorem xi_102_1 : xm_ins 102 1 = some (.iconst 0, 2, 0, 0, 0) := rfl
theorem xi_102_2 : xm_ins 102 2 = some (.sipush 980, 5, 0, 0, 980) := rfl
theorem xi_102_5 : xm_ins 102 5 = some (.invokevirtual 37, 8, 92, 3, 3) := rfl
theorem xi_102_8 : xm_ins 102 8 = some (.aload_n 0, 9, 0, 0, 0) := rfl
theorem xi_102_9 : xm_ins 102 9 = some (.iconst 0, 10, 0, 0, 0) := rfl
theorem xi_102_10 : xm_ins 102 10 = some (.invokevirtual 60, 13, 100, 2, 3) := rfl
theorem xi_102_13 : xm_ins 102 13 = some (.ldc 53, 15, 0, 0, (-1000004)) := rfl
theorem xi_102_15 : xm_ins 102 15 = some (.if_icmp .eq 7, 18, 22, 0, 0) := rfl
theorem xi_102_18 : xm_ins 102 18 = some (.iconst 1, 19, 0, 0, 1) := rfl
theorem xi_102_19 : xm_ins 102 19 = some (.goto 4, 22, 23, 0, 0) := rfl
theorem xi_102_22 : xm_ins 102 22 = some (.iconst 0, 23, 0, 0, 0) := rfl
theorem xi_102_23 : xm_ins 102 23 = some (.istore_n 1, 24, 1, 0, 0) := rfl
theorem xi_102_24 : xm_ins 102 24 = some (.aload_n 0, 25, 0, 0, 0) := rfl
theorem xi_102_25 : xm_ins 102 25 = some (.sipush 980, 28, 0, 0, 980) := rfl
theorem xi_102_28 : xm_ins 102 28 = some (.iconst 0, 29, 0, 0, 0) := rfl
theorem xi_102_29 : xm_ins 102 29 = some (.invokevirtual 37, 32, 92, 3, 3) := rfl
theorem xi_102_32 : xm_ins 102 32 = some (.iload_n 1, 33, 1, 0, 0) := rfl
theorem xi_102_33 : xm_ins 102 33 = some (.ifCond .ne 8, 36, 41, 0, 0) := rfl
theorem xi_102_36 : xm_ins 102 36 = some (.ldc 41, 38, 0, 0, (-1000002)) := rfl
theorem xi_102_38 : xm_ins 102 38 = some (.goto 20, 41, 58, 0, 0) := rfl
theorem xi_102_41 : xm_ins 102 41 = some (.aload_n 0, 42, 0, 0, 0) := rfl
theorem xi_102_42 : xm_ins 102 42 = some (.getfield 7, 45, 3, 0, 1) := rfl
theorem xi_102_45 : xm_ins 102 45 = some (.iconst 0, 46, 0, 0, 0) := rfl
theorem xi_102_46 : xm_ins 102 46 = some (.iaload, 47, 0, 0, 0) := rfl
theorem xi_102_47 : xm_ins 102 47 = some (.bipush 30, 49, 0, 0, 30) := rfl
theorem xi_102_49 : xm_ins 102 49 = some (.if_icmp .ne 8, 52, 57, 0, 0) := rfl
theorem xi_102_52 : xm_ins 102 52 = some (.ldc 63, 54, 0, 0, (-1000003)) := rfl
theorem xi_102_54 : xm_ins 102 54 = some (.goto 4, 57, 58, 0, 0) := rfl
theorem xi_102_57 : xm_ins 102 57 = some (.iconst 0, 58, 0, 0, 0) := rfl
theorem xi_102_58 : xm_ins 102 58 = some (.ireturn, 59, 0, 0, 0) := rfl
theorem xn_103 (pc : Nat) : xm_ins 103 pc = xm_find xt_103 pc := rfl
theorem xi_103_0 : xm_ins 103 0 = some (.aload_n 0, 1, 0, 0, 0) := rfl
theorem xi_103_1 : xm_ins 103 1 = some (.getfield 7, 4, 3, 0, 1) := rfl
theorem xi_103_4 : xm_ins 103 4 = some (.iconst 0, 5, 0, 0, 0) := rfl
theorem xi_103_5 : xm_ins 103 5 = some (.iaload, 6, 0, 0, 0) := rfl
theorem xi_103_6 : xm_ins 103 6 = some (.istore_n 1, 7, 1, 0, 0) := rfl
theorem xi_103_7 : xm_ins 103 7 = some (.aload_n 0, 8, 0, 0, 0) := rfl
theorem xi_103_8 : xm_ins 103 8 = some (.iconst 0, 9, 0, 0, 0) := rfl
theorem xi_103_9 : xm_ins 103 9 = some (.invokevirtual 60, 12, 100, 2, 3) := rfl
theorem xi_103_12 : xm_ins 103 12 = some (.istore_n 2, 13, 2, 0, 0) := rfl
theorem xi_103_13 : xm_ins 103 13 = some (.iconst 0, 14, 0, 0, 0) := rfl
theorem xi_103_14 : xm_ins 103 14 = some (.istore_n 3, 15, 3, 0, 0) := rfl
theorem xi_103_15 : xm_ins 103 15 = some (.iload_n 3, 16, 3, 0, 0) := rfl
theorem xi_103_16 : xm_ins 103 16 = some (.bipush 6, 18, 0, 0, 6) := rfl
theorem xi_103_18 : xm_ins 103 18 = some (.if_icmp .ge 20, 21, 38, 0, 0) := rfl
theorem xi_103_21 : xm_ins 103 21 = some (.aload_n 0, 22, 0, 0, 0) := rfl
theorem xi_103_22 : xm_ins 103 22 = some (.getfield 7, 25, 3, 0, 1) := rfl
theorem xi_103_25 : xm_ins 103 25 = some (.iload_n 1, 26, 1, 0, 0) := rfl
theorem xi_103_26 : xm_ins 103 26 = some (.iload_n 3, 27, 3, 0, 0) := rfl
theorem xi_103_27 : xm_ins 103 27 = some (.invokestatic 29, 30, 86, 2, 3) := rfl
theorem xi_103_30 : xm_ins 103 30 = some (.iconst 0, 31, 0, 0, 0) := rfl
theorem xi_103_31 : xm_ins 103 31 = some (.iastore, 32, 0, 0, 0) := rfl
theorem xi_103_32 : xm_ins 103 32 = some (.iinc 3 1, 35, 3, 0, 1) := rfl
theorem xi_103_35 : xm_ins 103 35 = some (.goto (-20), 38, 15, 0, 0) := rfl
theorem xi_103_38 : xm_ins 103 38 = some (.aload_n 0, 39, 0, 0, 0) := rfl
theorem xi_103_39 : xm_ins 103 39 = some (.getfield 7, 42, 3, 0, 1) := rfl
theorem xi_103_42 : xm_ins 103 42 = some (.iload_n 1, 43, 1, 0, 0) := rfl
theorem xi_103_43 : xm_ins 103 43 = some (.iconst 0, 44, 0, 0, 0) := rfl
theorem xi_103_44 : xm_ins 103 44 = some (.invokestatic 29, 47, 86, 2, 3) := rfl
theorem xi_103_47 : xm_ins 103 47 = some (.iload_n 2, 48, 2, 0, 0) := rfl
theorem xi_103_48 : xm_ins 103 48 = some (.iconst 1, 49, 0, 0, 1) := rfl
theorem xi_103_49 : xm_ins 103 49 = some (.iadd, 50, 0, 0, 0) := rfl
theorem xi_103_50 : xm_ins 103 50 = some (.iastore, 51, 0, 0, 0) := rfl
theorem xi_103_51 : xm_ins 103 51 = some (.aload_n 0, 52, 0, 0, 0) := rfl
theorem xi_103_52 : xm_ins 103 52 = some (.getfield 7, 55, 3, 0, 1) := rfl
theorem xi_103_55 : xm_ins 103 55 = some (.iconst 0, 56, 0, 0, 0) := rfl
theorem xi_103_56 : xm_ins 103 56 = some (.dup2, 57, 0, 0, 0) := rfl
theorem xi_103_57 : xm_ins 103 57 = some (.iaload, 58, 0, 0, 0) := rfl
theorem xi_103_58 : xm_ins 103 58 = some (.iconst 1, 59, 0, 0, 1) := rfl
theorem xi_103_59 : xm_ins 103 59 = some (.iadd, 60, 0, 0, 0) := rfl
theorem xi_103_60 : xm_ins 103 60 = some (.iastore, 61, 0, 0, 0) := rfl
theorem xi_103_61 : xm_ins 103 61 = some (.iload_n 1, 62, 1, 0, 0) := rfl
theorem xi_103_62 : xm_ins 103 62 = some (.ireturn, 63, 0, 0, 0) := rfl
theorem xn_104 (pc : Nat) : xm_ins 104 pc = xm_find xt_104 pc := rfl
theorem xi_104_0 : xm_ins 104 0 = some (.aload_n 0, 1, 0, 0, 0) := rfl
theorem xi_104_1 : xm_ins 104 1 = some (.invokevirtual 64, 4, 102, 1, 3) := rfl
theorem xi_104_4 : xm_ins 104 4 = some (.istore_n 1, 5, 1, 0, 0) := rfl
theorem xi_104_5 : xm_ins 104 5 = some (.iload_n 1, 6, 1, 0, 0) := rfl
theorem xi_104_6 : xm_ins 104 6 = some (.ifCond .eq 5, 9, 11, 0, 0) := rfl
theorem xi_104_9 : xm_ins 104 9 = some (.iload_n 1, 10, 1, 0, 0) := rfl
theorem xi_104_10 : xm_ins 104 10 = some (.ireturn, 11, 0, 0, 0) := rfl
theorem xi_104_11 : xm_ins 104 11 = some (.aload_n 0, 12, 0, 0, 0) := rfl
theorem xi_104_12 : xm_ins 104 12 = some (.iconst 0, 13, 0, 0, 0) := rfl
theorem xi_104_13 : xm_ins 104 13 = some (.invokevirtual 68, 16, 93, 2, 3) := rfl
theorem xi_104_16 : xm_ins 104 16 = some (.aload_n 0, 17, 0, 0, 0) := rfl
theorem xi_104_17 : xm_ins 104 17 = some (.invokevirtual 72, 20, 103, 1, 3) := rfl
theorem xi_104_20 : xm_ins 104 20 = some (.ireturn, 21, 0, 0, 0) := rfl
theorem xn_105 (pc : Nat) : xm_ins 105 pc = xm_find xt_105 pc := rfl
theorem xi_105_0 : xm_ins 105 0 = some (.iload_n 1, 1, 1, 0, 0) := rfl
theorem xi_105_1 : xm_ins 105 1 = some (.invokestatic 75, 4, 88, 1, 3) := rfl
theorem xi_105_4 : xm_ins 105 4 = some (.ifCond .eq 15, 7, 19, 0, 0) := rfl
theorem xi_105_7 : xm_ins 105 7 = some (.aload_n 0, 8, 0, 0, 0) := rfl
theorem xi_105_8 : xm_ins 105 8 = some (.iload_n 2, 9, 2, 0, 0) := rfl
theorem xi_105_9 : xm_ins 105 9 = some (.invokevirtual 46, 12, 87, 2, 3) := rfl
theorem xi_105_12 : xm_ins 105 12 = some (.ifCond .eq 7, 15, 19, 0, 0) := rfl
theorem xi_105_15 : xm_ins 105 15 = some (.iconst 0, 16, 0, 0, 0) := rfl
theorem xi_105_16 : xm_ins 105 16 = some (.goto 5, 19, 21, 0, 0) := rfl
theorem xi_105_19 : xm_ins 105 19 = some (.ldc 78, 21, 0, 0, (-1000001)) := rfl
theorem xi_105_21 : xm_ins 105 21 = some (.ireturn, 22, 0, 0, 0) := rfl
theorem xn_106 (pc : Nat) : xm_ins 106 pc = xm_find xt_106 pc := rfl
theorem xi_106_0 : xm_ins 106 0 = some (.aload_n 0, 1, 0, 0, 0) := rfl
theorem xi_106_1 : xm_ins 106 1 = some (.getfield 7, 4, 3, 0, 1) := rfl
theorem xi_106_4 : xm_ins 106 4 = some (.bipush 12, 6, 0, 0, 12) := rfl
theorem xi_106_6 : xm_ins 106 6 = some (.iload_n 1, 7, 1, 0, 0) := rfl
theorem xi_106_7 : xm_ins 106 7 = some (.iadd, 8, 0, 0, 0) := rfl
theorem xi_106_8 : xm_ins 106 8 = some (.iload_n 2, 9, 2, 0, 0) := rfl
theorem xi_106_9 : xm_ins 106 9 = some (.iconst 1, 10, 0, 0, 1) := rfl
theorem xi_106_10 : xm_ins 106 10 = some (.iadd, 11, 0, 0, 0) := rfl
theorem xi_106_11 : xm_ins 106 11 = some (.iastore, 12, 0, 0, 0) := rfl
theorem xi_106_12 : xm_ins 106 12 = some (.iconst 0, 13, 0, 0, 0) := rfl
theorem xi_106_13 : xm_ins 106 13 = some (.istore_n 3, 14, 3, 0, 0) := rfl
theorem xi_106_14 : xm_ins 106 14 = some (.iconst 0, 15, 0, 0, 0) := rfl
theorem xi_106_15 : xm_ins 106 15 = some (.istore 4, 17, 4, 0, 0) := rfl
theorem xi_106_17 : xm_ins 106 17 = some (.iload 4, 19, 4, 0, 0) := rfl
theorem xi_106_19 : xm_ins 106 19 = some (.iconst 4, 20, 0, 0, 4) := rfl
theorem xi_106_20 : xm_ins 106 20 = some (.if_icmp .ge 30, 23, 50, 0, 0) := rfl
theorem xi_106_23 : xm_ins 106 23 = some (.iload_n 3, 24, 3, 0, 0) := rfl
theorem xi_106_24 : xm_ins 106 24 = some (.aload_n 0, 25, 0, 0, 0) := rfl
theorem xi_106_25 : xm_ins 106 25 = some (.getfield 7, 28, 3, 0, 1) := rfl
theorem xi_106_28 : xm_ins 106 28 = some (.bipush 12, 30, 0, 0, 12) := rfl
theorem xi_106_30 : xm_ins 106 30 = some (.iload 4, 32, 4, 0, 0) := rfl
theorem xi_106_32 : xm_ins 106 32 = some (.iadd, 33, 0, 0, 0) := rfl
theorem xi_106_33 : xm_ins 106 33 = some (.iaload, 34, 0, 0, 0) := rfl
theorem xi_106_34 : xm_ins 106 34 = some (.ifCond .le 7, 37, 41, 0, 0) := rfl
theorem xi_106_37 : xm_ins 106 37 = some (.iconst 1, 38, 0, 0, 1) := rfl
theorem xi_106_38 : xm_ins 106 38 = some (.goto 4, 41, 42, 0, 0) := rfl
theorem xi_106_41 : xm_ins 106 41 = some (.iconst 0, 42, 0, 0, 0) := rfl
theorem xi_106_42 : xm_ins 106 42 = some (.iadd, 43, 0, 0, 0) := rfl
theorem xi_106_43 : xm_ins 106 43 = some (.istore_n 3, 44, 3, 0, 0) := rfl
theorem xi_106_44 : xm_ins 106 44 = some (.iinc 4 1, 47, 4, 0, 1) := rfl
theorem xi_106_47 : xm_ins 106 47 = some (.goto (-30), 50, 17, 0, 0) := rfl
theorem xi_106_50 : xm_ins 106 50 = some (.iload_n 3, 51, 3, 0, 0) := rfl
theorem xi_106_51 : xm_ins 106 51 = some (.ireturn, 52, 0, 0, 0) := rfl
theorem xn_107 (pc : Nat) : xm_ins 107 pc = xm_find xt_107 pc := rfl
theorem xi_107_0 : xm_ins 107 0 = some (.aload_n 0, 1, 0, 0, 0) := rfl
theorem xi_107_1 : xm_ins 107 1 = some (.iload_n 1, 2, 1, 0, 0) := rfl
theorem xi_107_2 : xm_ins 107 2 = some (.iload_n 2, 3, 2, 0, 0) := rfl
theorem xi_107_3 : xm_ins 107 3 = some (.invokevirtual 79, 6, 105, 3, 3) := rfl
theorem xi_107_6 : xm_ins 107 6 = some (.istore_n 3, 7, 3, 0, 0) := rfl
theorem xi_107_7 : xm_ins 107 7 = some (.iload_n 3, 8, 3, 0, 0) := rfl
theorem xi_107_8 : xm_ins 107 8 = some (.ifCond .eq 5, 11, 13, 0, 0) := rfl
theorem xi_107_11 : xm_ins 107 11 = some (.iload_n 3, 12, 3, 0, 0) := rfl
theorem xi_107_12 : xm_ins 107 12 = some (.ireturn, 13, 0, 0, 0) := rfl
theorem xi_107_13 : xm_ins 107 13 = some (.aload_n 0, 14, 0, 0, 0) := rfl
theorem xi_107_14 : xm_ins 107 14 = some (.iconst 0, 15, 0, 0, 0) := rfl
theorem xi_107_15 : xm_ins 107 15 = some (.invokevirtual 68, 18, 93, 2, 3) := rfl
theorem xi_107_18 : xm_ins 107 18 = some (.aload_n 0, 19, 0, 0, 0) := rfl
theorem xi_107_19 : xm_ins 107 19 = some (.iload_n 1, 20, 1, 0, 0) := rfl
theorem xi_107_20 : xm_ins 107 20 = some (.iload_n 2, 21, 2, 0, 0) := rfl
theorem xi_107_21 : xm_ins 107 21 = some (.invokevirtual 82, 24, 106, 3, 3) := rfl
theorem xi_107_24 : xm_ins 107 24 = some (.ireturn, 25, 0, 0, 0) := rfl
theorem xn_108 (pc : Nat) : xm_ins 108 pc = xm_find xt_108 pc := rfl
theorem xi_108_0 : xm_ins 108 0 = some (.iload_n 1, 1, 1, 0, 0) := rfl
theorem xi_108_1 : xm_ins 108 1 = some (.invokestatic 75, 4, 88, 1, 3) := rfl
theorem xi_108_4 : xm_ins 108 4 = some (.ifCond .ne 8, 7, 12, 0, 0) := rfl
theorem xi_108_7 : xm_ins 108 7 = some (.ldc 78, 9, 0, 0, (-1000001)) := rfl
theorem xi_108_9 : xm_ins 108 9 = some (.goto 21, 12, 30, 0, 0) := rfl
theorem xi_108_12 : xm_ins 108 12 = some (.aload_n 0, 13, 0, 0, 0) := rfl
theorem xi_108_13 : xm_ins 108 13 = some (.getfield 7, 16, 3, 0, 1) := rfl
theorem xi_108_16 : xm_ins 108 16 = some (.bipush 12, 18, 0, 0, 12) := rfl
theorem xi_108_18 : xm_ins 108 18 = some (.iload_n 1, 19, 1, 0, 0) := rfl
theorem xi_108_19 : xm_ins 108 19 = some (.iadd, 20, 0, 0, 0) := rfl
theorem xi_108_20 : xm_ins 108 20 = some (.iaload, 21, 0, 0, 0) := rfl
theorem xi_108_21 : xm_ins 108 21 = some (.ifCond .ne 8, 24, 29, 0, 0) := rfl
theorem xi_108_24 : xm_ins 108 24 = some (.ldc 41, 26, 0, 0, (-1000002)) := rfl
theorem xi_108_26 : xm_ins 108 26 = some (.goto 4, 29, 30, 0, 0) := rfl
theorem xi_108_29 : xm_ins 108 29 = some (.iconst 0, 30, 0, 0, 0) := rfl
theorem xi_108_30 : xm_ins 108 30 = some (.ireturn, 31, 0, 0, 0) := rfl
theorem xn_109 (pc : Nat) : xm_ins 109 pc = xm_find xt_109 pc := rfl
theorem xi_109_0 : xm_ins 109 0 = some (.aload_n 0, 1, 0, 0, 0) := rfl
theorem xi_109_1 : xm_ins 109 1 = some (.getfield 7, 4, 3, 0, 1) := rfl
theorem xi_109_4 : xm_ins 109 4 = some (.bipush 12, 6, 0, 0, 12) := rfl
theorem xi_109_6 : xm_ins 109 6 = some (.iload_n 1, 7, 1, 0, 0) := rfl
theorem xi_109_7 : xm_ins 109 7 = some (.iadd, 8, 0, 0, 0) := rfl
theorem xi_109_8 : xm_ins 109 8 = some (.iaload, 9, 0, 0, 0) := rfl
theorem xi_109_9 : xm_ins 109 9 = some (.iconst 1, 10, 0, 0, 1) := rfl
theorem xi_109_10 : xm_ins 109 10 = some (.isub, 11, 0, 0, 0) := rfl
theorem xi_109_11 : xm_ins 109 11 = some (.istore_n 2, 12, 2, 0, 0) := rfl
theorem xi_109_12 : xm_ins 109 12 = some (.aload_n 0, 13, 0, 0, 0) := rfl
theorem xi_109_13 : xm_ins 109 13 = some (.getfield 7, 16, 3, 0, 1) := rfl
theorem xi_109_16 : xm_ins 109 16 = some (.bipush 12, 18, 0, 0, 12) := rfl
theorem xi_109_18 : xm_ins 109 18 = some (.iload_n 1, 19, 1, 0, 0) := rfl
theorem xi_109_19 : xm_ins 109 19 = some (.iadd, 20, 0, 0, 0) := rfl
theorem xi_109_20 : xm_ins 109 20 = some (.iconst 0, 21, 0, 0, 0) := rfl
theorem xi_109_21 : xm_ins 109 21 = some (.iastore, 22, 0, 0, 0) := rfl
theorem xi_109_22 : xm_ins 109 22 = some (.iload_n 2, 23, 2, 0, 0) := rfl
theorem xi_109_23 : xm_ins 109 23 = some (.ireturn, 24, 0, 0, 0) := rfl
theorem xn_110 (pc : Nat) : xm_ins 110 pc = xm_find xt_110 pc := rfl
theorem xi_110_0 : xm_ins 110 0 = some (.aload_n 0, 1, 0, 0, 0) := rfl
theorem xi_110_1 : xm_ins 110 1 = some (.iload_n 1, 2, 1, 0, 0) := rfl
theorem xi_110_2 : xm_ins 110 2 = some (.invokevirtual 85, 5, 108, 2, 3) := rfl
theorem xi_110_5 : xm_ins 110 5 = some (.istore_n 2, 6, 2, 0, 0) := rfl
theorem xi_110_6 : xm_ins 110 6 = some (.iload_n 2, 7, 2, 0, 0) := rfl
theorem xi_110_7 : xm_ins 110 7 = some (.ifCond .eq 5, 10, 12, 0, 0) := rfl
theorem xi_110_10 : xm_ins 110 10 = some (.iload_n 2, 11, 2, 0, 0) := rfl
theorem xi_110_11 : xm_ins 110 11 = some (.ireturn, 12, 0, 0, 0) := rfl
theorem xi_110_12 : xm_ins 110 12 = some (.aload_n 0, 13, 0, 0, 0) := rfl
theorem xi_110_13 : xm_ins 110 13 = some (.iconst 0, 14, 0, 0, 0) := rfl
theorem xi_110_14 : xm_ins 110 14 = some (.invokevirtual 68, 17, 93, 2, 3) := rfl
theorem xi_110_17 : xm_ins 110 17 = some (.aload_n 0, 18, 0, 0, 0) := rfl
theorem xi_110_18 : xm_ins 110 18 = some (.iload_n 1, 19, 1, 0, 0) := rfl
theorem xi_110_19 : xm_ins 110 19 = some (.invokevirtual 88, 22, 109, 2, 3) := rfl
theorem xi_110_22 : xm_ins 110 22 = some (.ireturn, 23, 0, 0, 0) := rfl
theorem xn_111 (pc : Nat) : xm_ins 111 pc = xm_find xt_111 pc := rfl
theorem xi_111_0 : xm_ins 111 0 = some (.aload_n 0, 1, 0, 0, 0) := rfl
theorem xi_111_1 : xm_ins 111 1 = some (.iload_n 1, 2, 1, 0, 0) := rfl
theorem xi_111_2 : xm_ins 111 2 = some (.invokevirtual 46, 5, 87, 2, 3) := rfl
theorem xi_111_5 : xm_ins 111 5 = some (.ifCond .eq 22, 8, 27, 0, 0) := rfl
theorem xi_111_8 : xm_ins 111 8 = some (.iload_n 2, 9, 2, 0, 0) := rfl
theorem xi_111_9 : xm_ins 111 9 = some (.invokestatic 91, 12, 89, 1, 3) := rfl
theorem xi_111_12 : xm_ins 111 12 = some (.ifCond .eq 15, 15, 27, 0, 0) := rfl
theorem xi_111_15 : xm_ins 111 15 = some (.aload_n 0, 16, 0, 0, 0) := rfl
theorem xi_111_16 : xm_ins 111 16 = some (.iload_n 3, 17, 3, 0, 0) := rfl
theorem xi_111_17 : xm_ins 111 17 = some (.invokevirtual 46, 20, 87, 2, 3) := rfl
theorem xi_111_20 : xm_ins 111 20 = some (.ifCond .eq 7, 23, 27, 0, 0) := rfl
theorem xi_111_23 : xm_ins 111 23 = some (.iconst 0, 24, 0, 0, 0) := rfl
theorem xi_111_24 : xm_ins 111 24 = some (.goto 5, 27, 29, 0, 0) := rfl
theorem xi_111_27 : xm_ins 111 27 = some (.ldc 78, 29, 0, 0, (-1000001)) := rfl
theorem xi_111_29 : xm_ins 111 29 = some (.ireturn, 30, 0, 0, 0) := rfl
theorem xn_112 (pc : Nat) : xm_ins 112 pc = xm_find xt_112 pc := rfl
theorem xi_112_0 : xm_ins 112 0 = some (.aload_n 0, 1, 0, 0, 0) := rfl
theorem xi_112_1 : xm_ins 112 1 = some (.getfield 7, 4, 3, 0, 1) := rfl
theorem xi_112_4 : xm_ins 112 4 = some (.iload_n 1, 5, 1, 0, 0) := rfl
theorem xi_112_5 : xm_ins 112 5 = some (.iconst 2, 6, 0, 0, 2) := rfl
theorem xi_112_6 : xm_ins 112 6 = some (.iload_n 2, 7, 2, 0, 0) := rfl
theorem xi_112_7 : xm_ins 112 7 = some (.iadd, 8, 0, 0, 0) := rfl
theorem xi_112_8 : xm_ins 112 8 = some (.invokestatic 29, 11, 86, 2, 3) := rfl
theorem xi_112_11 : xm_ins 112 11 = some (.iload_n 3, 12, 3, 0, 0) := rfl
theorem xi_112_12 : xm_ins 112 12 = some (.iconst 1, 13, 0, 0, 1) := rfl
theorem xi_112_13 : xm_ins 112 13 = some (.iadd, 14, 0, 0, 0) := rfl
theorem xi_112_14 : xm_ins 112 14 = some (.iastore, 15, 0, 0, 0) := rfl
theorem xi_112_15 : xm_ins 112 15 = some (.aload_n 0, 16, 0, 0, 0) := rfl
theorem xi_112_16 : xm_ins 112 16 = some (.iload_n 3, 17, 3, 0, 0) := rfl
theorem xi_112_17 : xm_ins 112 17 = some (.invokevirtual 50, 20, 96, 2, 3) := rfl
theorem xi_112_20 : xm_ins 112 20 = some (.aload_n 0, 21, 0, 0, 0) := rfl
theorem xi_112_21 : xm_ins 112 21 = some (.iload_n 1, 22, 1, 0, 0) := rfl
theorem xi_112_22 : xm_ins 112 22 = some (.invokevirtual 50, 25, 96, 2, 3) := rfl
theorem xi_112_25 : xm_ins 112 25 = some (.if_icmp .ge 7, 28, 32, 0, 0) := rfl
theorem xi_112_28 : xm_ins 112 28 = some (.iconst 1, 29, 0, 0, 1) := rfl
theorem xi_112_29 : xm_ins 112 29 = some (.goto 4, 32, 33, 0, 0) := rfl
theorem xi_112_32 : xm_ins 112 32 = some (.iconst 0, 33, 0, 0, 0) := rfl
theorem xi_112_33 : xm_ins 112 33 = some (.ireturn, 34, 0, 0, 0) := rfl
theorem xn_113 (pc : Nat) : xm_ins 113 pc = xm_find xt_113 pc := rfl
theorem xi_113_0 : xm_ins 113 0 = some (.aload_n 0, 1, 0, 0, 0) := rfl
theorem xi_113_1 : xm_ins 113 1 = some (.iload_n 1, 2, 1, 0, 0) := rfl
theorem xi_113_2 : xm_ins 113 2 = some (.iload_n 2, 3, 2, 0, 0) := rfl
theorem xi_113_3 : xm_ins 113 3 = some (.iload_n 3, 4, 3, 0, 0) := rfl
theorem xi_113_4 : xm_ins 113 4 = some (.invokevirtual 94, 7, 111, 4, 3) := rfl
theorem xi_113_7 : xm_ins 113 7 = some (.istore 4, 9, 4, 0, 0) := rfl
theorem xi_113_9 : xm_ins 113 9 = some (.iload 4, 11, 4, 0, 0) := rfl
theorem xi_113_11 : xm_ins 113 11 = some (.ifCond .eq 6, 14, 17, 0, 0) := rfl
theorem xi_113_14 : xm_ins 113 14 = some (.iload 4, 16, 4, 0, 0) := rfl
theorem xi_113_16 : xm_ins 113 16 = some (.ireturn, 17, 0, 0, 0) := rfl
theorem xi_113_17 : xm_ins 113 17 = some (.aload_n 0, 18, 0, 0, 0) := rfl
theorem xi_113_18 : xm_ins 113 18 = some (.iconst 0, 19, 0, 0, 0) := rfl
theorem xi_113_19 : xm_ins 113 19 = some (.invokevirtual 68, 22, 93, 2, 3) := rfl
theorem xi_113_22 : xm_ins 113 22 = some (.aload_n 0, 23, 0, 0, 0) := rfl
theorem xi_113_23 : xm_ins 113 23 = some (.iload_n 1, 24, 1, 0, 0) := rfl
theorem xi_113_24 : xm_ins 113 24 = some (.iload_n 2, 25, 2, 0, 0) := rfl
theorem xi_113_25 : xm_ins 113 25 = some (.iload_n 3, 26, 3, 0, 0) := rfl
theorem xi_113_26 : xm_ins 113 26 = some (.invokevirtual 98, 29, 112, 4, 3) := rfl
theorem xi_113_29 : xm_ins 113 29 = some (.ireturn, 30, 0, 0, 0) := rfl
theorem xn_114 (pc : Nat) : xm_ins 114 pc = xm_find xt_114 pc := rfl
theorem xi_114_0 : xm_ins 114 0 = some (.aload_n 0, 1, 0, 0, 0) := rfl
theorem xi_114_1 : xm_ins 114 1 = some (.iload_n 1, 2, 1, 0, 0) := rfl
theorem xi_114_2 : xm_ins 114 2 = some (.invokevirtual 46, 5, 87, 2, 3) := rfl
theorem xi_114_5 : xm_ins 114 5 = some (.ifCond .eq 10, 8, 15, 0, 0) := rfl
theorem xi_114_8 : xm_ins 114 8 = some (.iload_n 2, 9, 2, 0, 0) := rfl
theorem xi_114_9 : xm_ins 114 9 = some (.invokestatic 91, 12, 89, 1, 3) := rfl
theorem xi_114_12 : xm_ins 114 12 = some (.ifCond .ne 8, 15, 20, 0, 0) := rfl
theorem xi_114_15 : xm_ins 114 15 = some (.ldc 78, 17, 0, 0, (-1000001)) := rfl
theorem xi_114_17 : xm_ins 114 17 = some (.goto 24, 20, 41, 0, 0) := rfl
theorem xi_114_20 : xm_ins 114 20 = some (.aload_n 0, 21, 0, 0, 0) := rfl
theorem xi_114_21 : xm_ins 114 21 = some (.getfield 7, 24, 3, 0, 1) := rfl
theorem xi_114_24 : xm_ins 114 24 = some (.iload_n 1, 25, 1, 0, 0) := rfl
theorem xi_114_25 : xm_ins 114 25 = some (.iconst 2, 26, 0, 0, 2) := rfl
theorem xi_114_26 : xm_ins 114 26 = some (.iload_n 2, 27, 2, 0, 0) := rfl
theorem xi_114_27 : xm_ins 114 27 = some (.iadd, 28, 0, 0, 0) := rfl
theorem xi_114_28 : xm_ins 114 28 = some (.invokestatic 29, 31, 86, 2, 3) := rfl
theorem xi_114_31 : xm_ins 114 31 = some (.iaload, 32, 0, 0, 0) := rfl
theorem xi_114_32 : xm_ins 114 32 = some (.ifCond .ne 8, 35, 40, 0, 0) := rfl
theorem xi_114_35 : xm_ins 114 35 = some (.ldc 41, 37, 0, 0, (-1000002)) := rfl
theorem xi_114_37 : xm_ins 114 37 = some (.goto 4, 40, 41, 0, 0) := rfl
theorem xi_114_40 : xm_ins 114 40 = some (.iconst 0, 41, 0, 0, 0) := rfl
theorem xi_114_41 : xm_ins 114 41 = some (.ireturn, 42, 0, 0, 0) := rfl
theorem xn_115 (pc : Nat) : xm_ins 115 pc = xm_find xt_115 pc := rfl
theorem xi_115_0 : xm_ins 115 0 = some (.aload_n 0, 1, 0, 0, 0) := rfl
theorem xi_115_1 : xm_ins 115 1 = some (.getfield 7, 4, 3, 0, 1) := rfl
theorem xi_115_4 : xm_ins 115 4 = some (.iload_n 1, 5, 1, 0, 0) := rfl
theorem xi_115_5 : xm_ins 115 5 = some (.iconst 2, 6, 0, 0, 2) := rfl
theorem xi_115_6 : xm_ins 115 6 = some (.iload_n 2, 7, 2, 0, 0) := rfl
theorem xi_115_7 : xm_ins 115 7 = some (.iadd, 8, 0, 0, 0) := rfl
theorem xi_115_8 : xm_ins 115 8 = some (.invokestatic 29, 11, 86, 2, 3) := rfl
theorem xi_115_11 : xm_ins 115 11 = some (.iaload, 12, 0, 0, 0) := rfl
theorem xi_115_12 : xm_ins 115 12 = some (.iconst 1, 13, 0, 0, 1) := rfl
theorem xi_115_13 : xm_ins 115 13 = some (.isub, 14, 0, 0, 0) := rfl
theorem xi_115_14 : xm_ins 115 14 = some (.istore_n 3, 15, 3, 0, 0) := rfl
theorem xi_115_15 : xm_ins 115 15 = some (.aload_n 0, 16, 0, 0, 0) := rfl
theorem xi_115_16 : xm_ins 115 16 = some (.getfield 7, 19, 3, 0, 1) := rfl
theorem xi_115_19 : xm_ins 115 19 = some (.iload_n 1, 20, 1, 0, 0) := rfl
theorem xi_115_20 : xm_ins 115 20 = some (.iconst 2, 21, 0, 0, 2) := rfl
theorem xi_115_21 : xm_ins 115 21 = some (.iload_n 2, 22, 2, 0, 0) := rfl
theorem xi_115_22 : xm_ins 115 22 = some (.iadd, 23, 0, 0, 0) := rfl
theorem xi_115_23 : xm_ins 115 23 = some (.invokestatic 29, 26, 86, 2, 3) := rfl
theorem xi_115_26 : xm_ins 115 26 = some (.iconst 0, 27, 0, 0, 0) := rfl
theorem xi_115_27 : xm_ins 115 27 = some (.iastore, 28, 0, 0, 0) := rfl
theorem xi_115_28 : xm_ins 115 28 = some (.iload_n 3, 29, 3, 0, 0) := rfl
theorem xi_115_29 : xm_ins 115 29 = some (.ireturn, 30, 0, 0, 0) := rfl
theorem xn_116 (pc : Nat) : xm_ins 116 pc = xm_find xt_116 pc := rfl
theorem xi_116_0 : xm_ins 116 0 = some (.aload_n 0, 1, 0, 0, 0) := rfl
theorem xi_116_1 : xm_ins 116 1 = some (.iload_n 1, 2, 1, 0, 0) := rfl
theorem xi_116_2 : xm_ins 116 2 = some (.iload_n 2, 3, 2, 0, 0) := rfl
theorem xi_116_3 : xm_ins 116 3 = some (.invokevirtual 101, 6, 114, 3, 3) := rfl
theorem xi_116_6 : xm_ins 116 6 = some (.istore_n 3, 7, 3, 0, 0) := rfl
theorem xi_116_7 : xm_ins 116 7 = some (.iload_n 3, 8, 3, 0, 0) := rfl
theorem xi_116_8 : xm_ins 116 8 = some (.ifCond .eq 5, 11, 13, 0, 0) := rfl
theorem xi_116_11 : xm_ins 116 11 = some (.iload_n 3, 12, 3, 0, 0) := rfl
theorem xi_116_12 : xm_ins 116 12 = some (.ireturn, 13, 0, 0, 0) := rfl
theorem xi_116_13 : xm_ins 116 13 = some (.aload_n 0, 14, 0, 0, 0) := rfl
theorem xi_116_14 : xm_ins 116 14 = some (.iconst 0, 15, 0, 0, 0) := rfl
theorem xi_116_15 : xm_ins 116 15 = some (.invokevirtual 68, 18, 93, 2, 3) := rfl
theorem xi_116_18 : xm_ins 116 18 = some (.aload_n 0, 19, 0, 0, 0) := rfl
theorem xi_116_19 : xm_ins 116 19 = some (.iload_n 1, 20, 1, 0, 0) := rfl
theorem xi_116_20 : xm_ins 116 20 = some (.iload_n 2, 21, 2, 0, 0) := rfl
theorem xi_116_21 : xm_ins 116 21 = some (.invokevirtual 104, 24, 115, 3, 3) := rfl
theorem xi_116_24 : xm_ins 116 24 = some (.ireturn, 25, 0, 0, 0) := rfl
theorem xn_117 (pc : Nat) : xm_ins 117 pc = xm_find xt_117 pc := rfl
theorem xi_117_0 : xm_ins 117 0 = some (.iconst 0, 1, 0, 0, 0) := rfl
theorem xi_117_1 : xm_ins 117 1 = some (.istore_n 1, 2, 1, 0, 0) := rfl
theorem xi_117_2 : xm_ins 117 2 = some (.iconst 0, 3, 0, 0, 0) := rfl
theorem xi_117_3 : xm_ins 117 3 = some (.istore_n 2, 4, 2, 0, 0) := rfl
theorem xi_117_4 : xm_ins 117 4 = some (.iload_n 2, 5, 2, 0, 0) := rfl
theorem xi_117_5 : xm_ins 117 5 = some (.aload_n 0, 6, 0, 0, 0) := rfl
theorem xi_117_6 : xm_ins 117 6 = some (.getfield 7, 9, 3, 0, 1) := rfl
theorem xi_117_9 : xm_ins 117 9 = some (.iconst 0, 10, 0, 0, 0) := rfl
theorem xi_117_10 : xm_ins 117 10 = some (.iaload, 11, 0, 0, 0) := rfl
theorem xi_117_11 : xm_ins 117 11 = some (.if_icmp .ge 41, 14, 52, 0, 0) := rfl
theorem xi_117_14 : xm_ins 117 14 = some (.iload_n 1, 15, 1, 0, 0) := rfl
theorem xi_117_15 : xm_ins 117 15 = some (.aload_n 0, 16, 0, 0, 0) := rfl
theorem xi_117_16 : xm_ins 117 16 = some (.iload_n 2, 17, 2, 0, 0) := rfl
theorem xi_117_17 : xm_ins 117 17 = some (.invokevirtual 46, 20, 87, 2, 3) := rfl
theorem xi_117_20 : xm_ins 117 20 = some (.ifCond .eq 23, 23, 43, 0, 0) := rfl
theorem xi_117_23 : xm_ins 117 23 = some (.aload_n 0, 24, 0, 0, 0) := rfl
theorem xi_117_24 : xm_ins 117 24 = some (.getfield 7, 27, 3, 0, 1) := rfl
theorem xi_117_27 : xm_ins 117 27 = some (.iload_n 2, 28, 2, 0, 0) := rfl
theorem xi_117_28 : xm_ins 117 28 = some (.iconst 1, 29, 0, 0, 1) := rfl
theorem xi_117_29 : xm_ins 117 29 = some (.invokestatic 29, 32, 86, 2, 3) := rfl
theorem xi_117_32 : xm_ins 117 32 = some (.iaload, 33, 0, 0, 0) := rfl
theorem xi_117_33 : xm_ins 117 33 = some (.iconst 1, 34, 0, 0, 1) := rfl
theorem xi_117_34 : xm_ins 117 34 = some (.if_icmp .ne 9, 37, 43, 0, 0) := rfl
theorem xi_117_37 : xm_ins 117 37 = some (.iconst 1, 38, 0, 0, 1) := rfl
theorem xi_117_38 : xm_ins 117 38 = some (.iload_n 2, 39, 2, 0, 0) := rfl
theorem xi_117_39 : xm_ins 117 39 = some (.ishl, 40, 0, 0, 0) := rfl
theorem xi_117_40 : xm_ins 117 40 = some (.goto 4, 43, 44, 0, 0) := rfl
theorem xi_117_43 : xm_ins 117 43 = some (.iconst 0, 44, 0, 0, 0) := rfl
theorem xi_117_44 : xm_ins 117 44 = some (.ior, 45, 0, 0, 0) := rfl
theorem xi_117_45 : xm_ins 117 45 = some (.istore_n 1, 46, 1, 0, 0) := rfl
theorem xi_117_46 : xm_ins 117 46 = some (.iinc 2 1, 49, 2, 0, 1) := rfl
theorem xi_117_49 : xm_ins 117 49 = some (.goto (-45), 52, 4, 0, 0) := rfl
theorem xi_117_52 : xm_ins 117 52 = some (.iload_n 1, 53, 1, 0, 0) := rfl
theorem xi_117_53 : xm_ins 117 53 = some (.ireturn, 54, 0, 0, 0) := rfl
theorem xn_118 (pc : Nat) : xm_ins 118 pc = xm_find xt_118 pc := rfl
theorem xi_118_0 : xm_ins 118 0 = some (.aload_n 0, 1, 0, 0, 0) := rfl
theorem xi_118_1 : xm_ins 118 1 = some (.iload_n 1, 2, 1, 0, 0) := rfl
theorem xi_118_2 : xm_ins 118 2 = some (.invokevirtual 46, 5, 87, 2, 3) := rfl
theorem xi_118_5 : xm_ins 118 5 = some (.ifCond .ne 8, 8, 13, 0, 0) := rfl
theorem xi_118_8 : xm_ins 118 8 = some (.ldc 78, 10, 0, 0, (-1000001)) := rfl
theorem xi_118_10 : xm_ins 118 10 = some (.goto 23, 13, 33, 0, 0) := rfl
theorem xi_118_13 : xm_ins 118 13 = some (.aload_n 0, 14, 0, 0, 0) := rfl
theorem xi_118_14 : xm_ins 118 14 = some (.getfield 7, 17, 3, 0, 1) := rfl
theorem xi_118_17 : xm_ins 118 17 = some (.iload_n 1, 18, 1, 0, 0) := rfl
theorem xi_118_18 : xm_ins 118 18 = some (.iconst 1, 19, 0, 0, 1) := rfl
theorem xi_118_19 : xm_ins 118 19 = some (.invokestatic 29, 22, 86, 2, 3) := rfl
theorem xi_118_22 : xm_ins 118 22 = some (.iaload, 23, 0, 0, 0) := rfl
theorem xi_118_23 : xm_ins 118 23 = some (.iload_n 2, 24, 2, 0, 0) := rfl
theorem xi_118_24 : xm_ins 118 24 = some (.if_icmp .ne 8, 27, 32, 0, 0) := rfl
theorem xi_118_27 : xm_ins 118 27 = some (.ldc 41, 29, 0, 0, (-1000002)) := rfl
theorem xi_118_29 : xm_ins 118 29 = some (.goto 4, 32, 33, 0, 0) := rfl
theorem xi_118_32 : xm_ins 118 32 = some (.iconst 0, 33, 0, 0, 0) := rfl
theorem xi_118_33 : xm_ins 118 33 = some (.ireturn, 34, 0, 0, 0) := rfl
theorem xn_119 (pc : Nat) : xm_ins 119 pc = xm_find xt_119 pc := rfl
theorem xi_119_0 : xm_ins 119 0 = some (.aload_n 0, 1, 0, 0, 0) := rfl
theorem xi_119_1 : xm_ins 119 1 = some (.getfield 7, 4, 3, 0, 1) := rfl
theorem xi_119_4 : xm_ins 119 4 = some (.iload_n 1, 5, 1, 0, 0) := rfl
theorem xi_119_5 : xm_ins 119 5 = some (.iconst 1, 6, 0, 0, 1) := rfl
theorem xi_119_6 : xm_ins 119 6 = some (.invokestatic 29, 9, 86, 2, 3) := rfl
theorem xi_119_9 : xm_ins 119 9 = some (.iload_n 2, 10, 2, 0, 0) := rfl
theorem xi_119_10 : xm_ins 119 10 = some (.iastore, 11, 0, 0, 0) := rfl
theorem xi_119_11 : xm_ins 119 11 = some (.aload_n 0, 12, 0, 0, 0) := rfl
theorem xi_119_12 : xm_ins 119 12 = some (.invokevirtual 107, 15, 117, 1, 3) := rfl
theorem xi_119_15 : xm_ins 119 15 = some (.invokestatic 110, 18, 91, 1, 3) := rfl
theorem xi_119_18 : xm_ins 119 18 = some (.ireturn, 19, 0, 0, 0) := rfl
theorem xn_120 (pc : Nat) : xm_ins 120 pc = xm_find xt_120 pc := rfl
theorem xi_120_0 : xm_ins 120 0 = some (.aload_n 0, 1, 0, 0, 0) := rfl
theorem xi_120_1 : xm_ins 120 1 = some (.iload_n 1, 2, 1, 0, 0) := rfl
theorem xi_120_2 : xm_ins 120 2 = some (.iconst 1, 3, 0, 0, 1) := rfl
theorem xi_120_3 : xm_ins 120 3 = some (.invokevirtual 113, 6, 118, 3, 3) := rfl
theorem xi_120_6 : xm_ins 120 6 = some (.istore_n 2, 7, 2, 0, 0) := rfl
theorem xi_120_7 : xm_ins 120 7 = some (.iload_n 2, 8, 2, 0, 0) := rfl
theorem xi_120_8 : xm_ins 120 8 = some (.ifCond .eq 5, 11, 13, 0, 0) := rfl
theorem xi_120_11 : xm_ins 120 11 = some (.iload_n 2, 12, 2, 0, 0) := rfl
theorem xi_120_12 : xm_ins 120 12 = some (.ireturn, 13, 0, 0, 0) := rfl
theorem xi_120_13 : xm_ins 120 13 = some (.aload_n 0, 14, 0, 0, 0) := rfl
theorem xi_120_14 : xm_ins 120 14 = some (.iconst 0, 15, 0, 0, 0) := rfl
theorem xi_120_15 : xm_ins 120 15 = some (.invokevirtual 68, 18, 93, 2, 3) := rfl
theorem xi_120_18 : xm_ins 120 18 = some (.aload_n 0, 19, 0, 0, 0) := rfl
theorem xi_120_19 : xm_ins 120 19 = some (.iload_n 1, 20, 1, 0, 0) := rfl
theorem xi_120_20 : xm_ins 120 20 = some (.iconst 1, 21, 0, 0, 1) := rfl
theorem xi_120_21 : xm_ins 120 21 = some (.invokevirtual 116, 24, 119, 3, 3) := rfl
theorem xi_120_24 : xm_ins 120 24 = some (.ireturn, 25, 0, 0, 0) := rfl
theorem xn_121 (pc : Nat) : xm_ins 121 pc = xm_find xt_121 pc := rfl
theorem xi_121_0 : xm_ins 121 0 = some (.aload_n 0, 1, 0, 0, 0) := rfl
theorem xi_121_1 : xm_ins 121 1 = some (.iload_n 1, 2, 1, 0, 0) := rfl
theorem xi_121_2 : xm_ins 121 2 = some (.iconst 0, 3, 0, 0, 0) := rfl
theorem xi_121_3 : xm_ins 121 3 = some (.invokevirtual 113, 6, 118, 3, 3) := rfl
theorem xi_121_6 : xm_ins 121 6 = some (.istore_n 2, 7, 2, 0, 0) := rfl
theorem xi_121_7 : xm_ins 121 7 = some (.iload_n 2, 8, 2, 0, 0) := rfl
theorem xi_121_8 : xm_ins 121 8 = some (.ifCond .eq 5, 11, 13, 0, 0) := rfl
theorem xi_121_11 : xm_ins 121 11 = some (.iload_n 2, 12, 2, 0, 0) := rfl
theorem xi_121_12 : xm_ins 121 12 = some (.ireturn, 13, 0, 0, 0) := rfl
theorem xi_121_13 : xm_ins 121 13 = some (.aload_n 0, 14, 0, 0, 0) := rfl
theorem xi_121_14 : xm_ins 121 14 = some (.iconst 0, 15, 0, 0, 0) := rfl
theorem xi_121_15 : xm_ins 121 15 = some (.invokevirtual 68, 18, 93, 2, 3) := rfl
theorem xi_121_18 : xm_ins 121 18 = some (.aload_n 0, 19, 0, 0, 0) := rfl
theorem xi_121_19 : xm_ins 121 19 = some (.iload_n 1, 20, 1, 0, 0) := rfl
theorem xi_121_20 : xm_ins 121 20 = some (.iconst 0, 21, 0, 0, 0) := rfl
theorem xi_121_21 : xm_ins 121 21 = some (.invokevirtual 116, 24, 119, 3, 3) := rfl
theorem xi_121_24 : xm_ins 121 24 = some (.ireturn, 25, 0, 0, 0) := rfl
theorem xn_122 (pc : Nat) : xm_ins 122 pc = xm_find xt_122 pc := rfl
theorem xi_122_0 : xm_ins 122 0 = some (.iconst 0, 1, 0, 0, 0) := rfl
theorem xi_122_1 : xm_ins 122 1 = some (.istore_n 1, 2, 1, 0, 0) := rfl
theorem xi_122_2 : xm_ins 122 2 = some (.iconst 0, 3, 0, 0, 0) := rfl
theorem xi_122_3 : xm_ins 122 3 = some (.istore_n 2, 4, 2, 0, 0) := rfl
theorem xi_122_4 : xm_ins 122 4 = some (.iload_n 2, 5, 2, 0, 0) := rfl
theorem xi_122_5 : xm_ins 122 5 = some (.iconst 4, 6, 0, 0, 4) := rfl
theorem xi_122_6 : xm_ins 122 6 = some (.if_icmp .ge 41, 9, 47, 0, 0) := rfl
theorem xi_122_9 : xm_ins 122 9 = some (.iload_n 1, 10, 1, 0, 0) := rfl
theorem xi_122_10 : xm_ins 122 10 = some (.aload_n 0, 11, 0, 0, 0) := rfl
theorem xi_122_11 : xm_ins 122 11 = some (.getfield 7, 14, 3, 0, 1) := rfl
theorem xi_122_14 : xm_ins 122 14 = some (.bipush 12, 16, 0, 0, 12) := rfl
theorem xi_122_16 : xm_ins 122 16 = some (.iload_n 2, 17, 2, 0, 0) := rfl
theorem xi_122_17 : xm_ins 122 17 = some (.iadd, 18, 0, 0, 0) := rfl
theorem xi_122_18 : xm_ins 122 18 = some (.iaload, 19, 0, 0, 0) := rfl
theorem xi_122_19 : xm_ins 122 19 = some (.ifCond .le 19, 22, 38, 0, 0) := rfl
theorem xi_122_22 : xm_ins 122 22 = some (.iconst 1, 23, 0, 0, 1) := rfl
theorem xi_122_23 : xm_ins 122 23 = some (.aload_n 0, 24, 0, 0, 0) := rfl
theorem xi_122_24 : xm_ins 122 24 = some (.getfield 7, 27, 3, 0, 1) := rfl
theorem xi_122_27 : xm_ins 122 27 = some (.bipush 12, 29, 0, 0, 12) := rfl
theorem xi_122_29 : xm_ins 122 29 = some (.iload_n 2, 30, 2, 0, 0) := rfl
theorem xi_122_30 : xm_ins 122 30 = some (.iadd, 31, 0, 0, 0) := rfl
theorem xi_122_31 : xm_ins 122 31 = some (.iaload, 32, 0, 0, 0) := rfl
theorem xi_122_32 : xm_ins 122 32 = some (.iconst 1, 33, 0, 0, 1) := rfl
theorem xi_122_33 : xm_ins 122 33 = some (.isub, 34, 0, 0, 0) := rfl
theorem xi_122_34 : xm_ins 122 34 = some (.ishl, 35, 0, 0, 0) := rfl
theorem xi_122_35 : xm_ins 122 35 = some (.goto 4, 38, 39, 0, 0) := rfl
theorem xi_122_38 : xm_ins 122 38 = some (.iconst 0, 39, 0, 0, 0) := rfl
theorem xi_122_39 : xm_ins 122 39 = some (.ior, 40, 0, 0, 0) := rfl
theorem xi_122_40 : xm_ins 122 40 = some (.istore_n 1, 41, 1, 0, 0) := rfl
theorem xi_122_41 : xm_ins 122 41 = some (.iinc 2 1, 44, 2, 0, 1) := rfl
theorem xi_122_44 : xm_ins 122 44 = some (.goto (-40), 47, 4, 0, 0) := rfl
theorem xi_122_47 : xm_ins 122 47 = some (.iload_n 1, 48, 1, 0, 0) := rfl
theorem xi_122_48 : xm_ins 122 48 = some (.ireturn, 49, 0, 0, 0) := rfl
theorem xn_123 (pc : Nat) : xm_ins 123 pc = xm_find xt_123 pc := rfl
theorem xi_123_0 : xm_ins 123 0 = some (.iconst 0, 1, 0, 0, 0) := rfl
theorem xi_123_1 : xm_ins 123 1 = some (.istore_n 2, 2, 2, 0, 0) := rfl
theorem xi_123_2 : xm_ins 123 2 = some (.iconst 0, 3, 0, 0, 0) := rfl
theorem xi_123_3 : xm_ins 123 3 = some (.istore_n 3, 4, 3, 0, 0) := rfl
theorem xi_123_4 : xm_ins 123 4 = some (.iload_n 3, 5, 3, 0, 0) := rfl
theorem xi_123_5 : xm_ins 123 5 = some (.aload_n 0, 6, 0, 0, 0) := rfl
theorem xi_123_6 : xm_ins 123 6 = some (.getfield 7, 9, 3, 0, 1) := rfl
theorem xi_123_9 : xm_ins 123 9 = some (.iconst 0, 10, 0, 0, 0) := rfl
theorem xi_123_10 : xm_ins 123 10 = some (.iaload, 11, 0, 0, 0) := rfl
theorem xi_123_11 : xm_ins 123 11 = some (.if_icmp .ge 72, 14, 83, 0, 0) := rfl
theorem xi_123_14 : xm_ins 123 14 = some (.iconst 0, 15, 0, 0, 0) := rfl
theorem xi_123_15 : xm_ins 123 15 = some (.istore 4, 17, 4, 0, 0) := rfl
theorem xi_123_17 : xm_ins 123 17 = some (.iload 4, 19, 4, 0, 0) := rfl
theorem xi_123_19 : xm_ins 123 19 = some (.iconst 3, 20, 0, 0, 3) := rfl
theorem xi_123_20 : xm_ins 123 20 = some (.if_icmp .ge 57, 23, 77, 0, 0) := rfl
theorem xi_123_23 : xm_ins 123 23 = some (.iload_n 1, 24, 1, 0, 0) := rfl
theorem xi_123_24 : xm_ins 123 24 = some (.iload_n 3, 25, 3, 0, 0) := rfl
theorem xi_123_25 : xm_ins 123 25 = some (.invokestatic 119, 28, 90, 2, 3) := rfl
theorem xi_123_28 : xm_ins 123 28 = some (.ifCond .eq 49, 31, 77, 0, 0) := rfl
theorem xi_123_31 : xm_ins 123 31 = some (.iload_n 2, 32, 2, 0, 0) := rfl
theorem xi_123_32 : xm_ins 123 32 = some (.aload_n 0, 33, 0, 0, 0) := rfl
theorem xi_123_33 : xm_ins 123 33 = some (.getfield 7, 36, 3, 0, 1) := rfl
theorem xi_123_36 : xm_ins 123 36 = some (.iload_n 3, 37, 3, 0, 0) := rfl
theorem xi_123_37 : xm_ins 123 37 = some (.iconst 2, 38, 0, 0, 2) := rfl
theorem xi_123_38 : xm_ins 123 38 = some (.iload 4, 40, 4, 0, 0) := rfl
theorem xi_123_40 : xm_ins 123 40 = some (.iadd, 41, 0, 0, 0) := rfl
theorem xi_123_41 : xm_ins 123 41 = some (.invokestatic 29, 44, 86, 2, 3) := rfl
theorem xi_123_44 : xm_ins 123 44 = some (.iaload, 45, 0, 0, 0) := rfl
theorem xi_123_45 : xm_ins 123 45 = some (.ifCond .le 23, 48, 68, 0, 0) := rfl
theorem xi_123_48 : xm_ins 123 48 = some (.iconst 1, 49, 0, 0, 1) := rfl
theorem xi_123_49 : xm_ins 123 49 = some (.aload_n 0, 50, 0, 0, 0) := rfl
theorem xi_123_50 : xm_ins 123 50 = some (.getfield 7, 53, 3, 0, 1) := rfl
theorem xi_123_53 : xm_ins 123 53 = some (.iload_n 3, 54, 3, 0, 0) := rfl
theorem xi_123_54 : xm_ins 123 54 = some (.iconst 2, 55, 0, 0, 2) := rfl
theorem xi_123_55 : xm_ins 123 55 = some (.iload 4, 57, 4, 0, 0) := rfl
theorem xi_123_57 : xm_ins 123 57 = some (.iadd, 58, 0, 0, 0) := rfl
theorem xi_123_58 : xm_ins 123 58 = some (.invokestatic 29, 61, 86, 2, 3) := rfl
theorem xi_123_61 : xm_ins 123 61 = some (.iaload, 62, 0, 0, 0) := rfl
theorem xi_123_62 : xm_ins 123 62 = some (.iconst 1, 63, 0, 0, 1) := rfl
theorem xi_123_63 : xm_ins 123 63 = some (.isub, 64, 0, 0, 0) := rfl
theorem xi_123_64 : xm_ins 123 64 = some (.ishl, 65, 0, 0, 0) := rfl
theorem xi_123_65 : xm_ins 123 65 = some (.goto 4, 68, 69, 0, 0) := rfl
theorem xi_123_68 : xm_ins 123 68 = some (.iconst 0, 69, 0, 0, 0) := rfl
theorem xi_123_69 : xm_ins 123 69 = some (.ior, 70, 0, 0, 0) := rfl
theorem xi_123_70 : xm_ins 123 70 = some (.istore_n 2, 71, 2, 0, 0) := rfl
theorem xi_123_71 : xm_ins 123 71 = some (.iinc 4 1, 74, 4, 0, 1) := rfl
theorem xi_123_74 : xm_ins 123 74 = some (.goto (-57), 77, 17, 0, 0) := rfl
theorem xi_123_77 : xm_ins 123 77 = some (.iinc 3 1, 80, 3, 0, 1) := rfl
theorem xi_123_80 : xm_ins 123 80 = some (.goto (-76), 83, 4, 0, 0) := rfl
theorem xi_123_83 : xm_ins 123 83 = some (.iload_n 2, 84, 2, 0, 0) := rfl
theorem xi_123_84 : xm_ins 123 84 = some (.ireturn, 85, 0, 0, 0) := rfl
theorem xn_124 (pc : Nat) : xm_ins 124 pc = xm_find xt_124 pc := rfl
theorem xi_124_0 : xm_ins 124 0 = some (.iload_n 1, 1, 1, 0, 0) := rfl
theorem xi_124_1 : xm_ins 124 1 = some (.iload_n 2, 2, 2, 0, 0) := rfl
theorem xi_124_2 : xm_ins 124 2 = some (.iand, 3, 0, 0, 0) := rfl
theorem xi_124_3 : xm_ins 124 3 = some (.istore_n 3, 4, 3, 0, 0) := rfl
theorem xi_124_4 : xm_ins 124 4 = some (.iload_n 3, 5, 3, 0, 0) := rfl
theorem xi_124_5 : xm_ins 124 5 = some (.istore 4, 7, 4, 0, 0) := rfl
theorem xi_124_7 : xm_ins 124 7 = some (.iload 4, 9, 4, 0, 0) := rfl
theorem xi_124_9 : xm_ins 124 9 = some (.ifCond .eq 25, 12, 34, 0, 0) := rfl
theorem xi_124_12 : xm_ins 124 12 = some (.aload_n 0, 13, 0, 0, 0) := rfl
theorem xi_124_13 : xm_ins 124 13 = some (.iload 4, 15, 4, 0, 0) := rfl
theorem xi_124_15 : xm_ins 124 15 = some (.invokevirtual 123, 18, 123, 2, 3) := rfl
theorem xi_124_18 : xm_ins 124 18 = some (.iload_n 2, 19, 2, 0, 0) := rfl
theorem xi_124_19 : xm_ins 124 19 = some (.iand, 20, 0, 0, 0) := rfl
theorem xi_124_20 : xm_ins 124 20 = some (.iload_n 3, 21, 3, 0, 0) := rfl
theorem xi_124_21 : xm_ins 124 21 = some (.iconst (-1), 22, 0, 0, (-1)) := rfl
theorem xi_124_22 : xm_ins 124 22 = some (.ixor, 23, 0, 0, 0) := rfl
theorem xi_124_23 : xm_ins 124 23 = some (.iand, 24, 0, 0, 0) := rfl
theorem xi_124_24 : xm_ins 124 24 = some (.istore 4, 26, 4, 0, 0) := rfl
theorem xi_124_26 : xm_ins 124 26 = some (.iload_n 3, 27, 3, 0, 0) := rfl
theorem xi_124_27 : xm_ins 124 27 = some (.iload 4, 29, 4, 0, 0) := rfl
theorem xi_124_29 : xm_ins 124 29 = some (.ior, 30, 0, 0, 0) := rfl
theorem xi_124_30 : xm_ins 124 30 = some (.istore_n 3, 31, 3, 0, 0) := rfl
theorem xi_124_31 : xm_ins 124 31 = some (.goto (-24), 34, 7, 0, 0) := rfl
theorem xi_124_34 : xm_ins 124 34 = some (.iload_n 3, 35, 3, 0, 0) := rfl
theorem xi_124_35 : xm_ins 124 35 = some (.ireturn, 36, 0, 0, 0) := rfl
theorem xn_125 (pc : Nat) : xm_ins 125 pc = xm_find xt_125 pc := rfl
theorem xi_125_0 : xm_ins 125 0 = some (.aload_n 0, 1, 0, 0, 0) := rfl
theorem xi_125_1 : xm_ins 125 1 = some (.invokevirtual 126, 4, 122, 1, 3) := rfl
theorem xi_125_4 : xm_ins 125 4 = some (.aload_n 0, 5, 0, 0, 0) := rfl
theorem xi_125_5 : xm_ins 125 5 = some (.invokevirtual 107, 8, 117, 1, 3) := rfl
theorem xi_125_8 : xm_ins 125 8 = some (.ior, 9, 0, 0, 0) := rfl
theorem xi_125_9 : xm_ins 125 9 = some (.ireturn, 10, 0, 0, 0) := rfl
theorem xn_126 (pc : Nat) : xm_ins 126 pc = xm_find xt_126 pc := rfl
theorem xi_126_0 : xm_ins 126 0 = some (.aload_n 0, 1, 0, 0, 0) := rfl
theorem xi_126_1 : xm_ins 126 1 = some (.iconst 2, 2, 0, 0, 2) := rfl
theorem xi_126_2 : xm_ins 126 2 = some (.invokevirtual 129, 5, 97, 2, 3) := rfl
theorem xi_126_5 : xm_ins 126 5 = some (.ireturn, 6, 0, 0, 0) := rfl
theorem xn_127 (pc : Nat) : xm_ins 127 pc = xm_find xt_127 pc := rfl
theorem xi_127_0 : xm_ins 127 0 = some (.aload_n 0, 1, 0, 0, 0) := rfl
theorem xi_127_1 : xm_ins 127 1 = some (.aload_n 0, 2, 0, 0, 0) := rfl
theorem xi_127_2 : xm_ins 127 2 = some (.invokevirtual 132, 5, 125, 1, 3) := rfl
theorem xi_127_5 : xm_ins 127 5 = some (.aload_n 0, 6, 0, 0, 0) := rfl
theorem xi_127_6 : xm_ins 127 6 = some (.invokevirtual 135, 9, 126, 1, 3) := rfl
theorem xi_127_9 : xm_ins 127 9 = some (.invokevirtual 138, 12, 124, 3, 3) := rfl
theorem xi_127_12 : xm_ins 127 12 = some (.ireturn, 13, 0, 0, 0) := rfl
theorem xn_128 (pc : Nat) : xm_ins 128 pc = xm_find xt_128 pc := rfl
theorem xi_128_0 : xm_ins 128 0 = some (.aload_n 0, 1, 0, 0, 0) := rfl
theorem xi_128_1 : xm_ins 128 1 = some (.iload_n 1, 2, 1, 0, 0) := rfl
theorem xi_128_2 : xm_ins 128 2 = some (.invokevirtual 129, 5, 97, 2, 3) := rfl
theorem xi_128_5 : xm_ins 128 5 = some (.istore_n 2, 6, 2, 0, 0) := rfl
theorem xi_128_6 : xm_ins 128 6 = some (.aload_n 0, 7, 0, 0, 0) := rfl
theorem xi_128_7 : xm_ins 128 7 = some (.aload_n 0, 8, 0, 0, 0) := rfl
theorem xi_128_8 : xm_ins 128 8 = some (.invokevirtual 132, 11, 125, 1, 3) := rfl
theorem xi_128_11 : xm_ins 128 11 = some (.aload_n 0, 12, 0, 0, 0) := rfl
theorem xi_128_12 : xm_ins 128 12 = some (.aload_n 0, 13, 0, 0, 0) := rfl
theorem xi_128_13 : xm_ins 128 13 = some (.invokevirtual 135, 16, 126, 1, 3) := rfl
theorem xi_128_16 : xm_ins 128 16 = some (.iload_n 2, 17, 2, 0, 0) := rfl
theorem xi_128_17 : xm_ins 128 17 = some (.iconst (-1), 18, 0, 0, (-1)) := rfl
theorem xi_128_18 : xm_ins 128 18 = some (.ixor, 19, 0, 0, 0) := rfl
theorem xi_128_19 : xm_ins 128 19 = some (.iand, 20, 0, 0, 0) := rfl
theorem xi_128_20 : xm_ins 128 20 = some (.invokevirtual 123, 23, 123, 2, 3) := rfl
theorem xi_128_23 : xm_ins 128 23 = some (.ior, 24, 0, 0, 0) := rfl
theorem xi_128_24 : xm_ins 128 24 = some (.iload_n 2, 25, 2, 0, 0) := rfl
theorem xi_128_25 : xm_ins 128 25 = some (.invokevirtual 138, 28, 124, 3, 3) := rfl
theorem xi_128_28 : xm_ins 128 28 = some (.ireturn, 29, 0, 0, 0) := rfl
theorem xn_129 (pc : Nat) : xm_ins 129 pc = xm_find xt_129 pc := rfl
theorem xi_129_0 : xm_ins 129 0 = some (.iconst 0, 1, 0, 0, 0) := rfl
theorem xi_129_1 : xm_ins 129 1 = some (.istore_n 2, 2, 2, 0, 0) := rfl
theorem xi_129_2 : xm_ins 129 2 = some (.iload_n 2, 3, 2, 0, 0) := rfl
theorem xi_129_3 : xm_ins 129 3 = some (.aload_n 0, 4, 0, 0, 0) := rfl
theorem xi_129_4 : xm_ins 129 4 = some (.getfield 7, 7, 3, 0, 1) := rfl
theorem xi_129_7 : xm_ins 129 7 = some (.iconst 0, 8, 0, 0, 0) := rfl
theorem xi_129_8 : xm_ins 129 8 = some (.iaload, 9, 0, 0, 0) := rfl
theorem xi_129_9 : xm_ins 129 9 = some (.if_icmp .ge 41, 12, 50, 0, 0) := rfl
theorem xi_129_12 : xm_ins 129 12 = some (.iconst 0, 13, 0, 0, 0) := rfl
theorem xi_129_13 : xm_ins 129 13 = some (.istore_n 3, 14, 3, 0, 0) := rfl
theorem xi_129_14 : xm_ins 129 14 = some (.iload_n 3, 15, 3, 0, 0) := rfl
theorem xi_129_15 : xm_ins 129 15 = some (.iconst 5, 16, 0, 0, 5) := rfl
theorem xi_129_16 : xm_ins 129 16 = some (.if_icmp .ge 28, 19, 44, 0, 0) := rfl
theorem xi_129_19 : xm_ins 129 19 = some (.iload_n 1, 20, 1, 0, 0) := rfl
theorem xi_129_20 : xm_ins 129 20 = some (.iload_n 2, 21, 2, 0, 0) := rfl
theorem xi_129_21 : xm_ins 129 21 = some (.invokestatic 119, 24, 90, 2, 3) := rfl
theorem xi_129_24 : xm_ins 129 24 = some (.ifCond .eq 20, 27, 44, 0, 0) := rfl
theorem xi_129_27 : xm_ins 129 27 = some (.aload_n 0, 28, 0, 0, 0) := rfl
theorem xi_129_28 : xm_ins 129 28 = some (.getfield 7, 31, 3, 0, 1) := rfl
theorem xi_129_31 : xm_ins 129 31 = some (.iload_n 2, 32, 2, 0, 0) := rfl
theorem xi_129_32 : xm_ins 129 32 = some (.iload_n 3, 33, 3, 0, 0) := rfl
theorem xi_129_33 : xm_ins 129 33 = some (.invokestatic 29, 36, 86, 2, 3) := rfl
theorem xi_129_36 : xm_ins 129 36 = some (.iconst 0, 37, 0, 0, 0) := rfl
theorem xi_129_37 : xm_ins 129 37 = some (.iastore, 38, 0, 0, 0) := rfl
theorem xi_129_38 : xm_ins 129 38 = some (.iinc 3 1, 41, 3, 0, 1) := rfl
theorem xi_129_41 : xm_ins 129 41 = some (.goto (-27), 44, 14, 0, 0) := rfl
theorem xi_129_44 : xm_ins 129 44 = some (.iinc 2 1, 47, 2, 0, 1) := rfl
theorem xi_129_47 : xm_ins 129 47 = some (.goto (-45), 50, 2, 0, 0) := rfl
theorem xi_129_50 : xm_ins 129 50 = some (.aload_n 0, 51, 0, 0, 0) := rfl
theorem xi_129_51 : xm_ins 129 51 = some (.invokevirtual 141, 54, 101, 1, 3) := rfl
theorem xi_129_54 : xm_ins 129 54 = some (.return_, 55, 0, 0, 0) := rfl
theorem xn_130 (pc : Nat) : xm_ins 130 pc = xm_find xt_130 pc := rfl
theorem xi_130_0 : xm_ins 130 0 = some (.aload_n 0, 1, 0, 0, 0) := rfl
theorem xi_130_1 : xm_ins 130 1 = some (.iload_n 1, 2, 1, 0, 0) := rfl
theorem xi_130_2 : xm_ins 130 2 = some (.invokevirtual 144, 5, 128, 2, 3) := rfl
theorem xi_130_5 : xm_ins 130 5 = some (.istore_n 2, 6, 2, 0, 0) := rfl
theorem xi_130_6 : xm_ins 130 6 = some (.aload_n 0, 7, 0, 0, 0) := rfl
theorem xi_130_7 : xm_ins 130 7 = some (.iload_n 1, 8, 1, 0, 0) := rfl
theorem xi_130_8 : xm_ins 130 8 = some (.invokevirtual 129, 11, 97, 2, 3) := rfl
theorem xi_130_11 : xm_ins 130 11 = some (.iload_n 2, 12, 2, 0, 0) := rfl
theorem xi_130_12 : xm_ins 130 12 = some (.iconst (-1), 13, 0, 0, (-1)) := rfl
theorem xi_130_13 : xm_ins 130 13 = some (.ixor, 14, 0, 0, 0) := rfl
theorem xi_130_14 : xm_ins 130 14 = some (.iand, 15, 0, 0, 0) := rfl
theorem xi_130_15 : xm_ins 130 15 = some (.istore_n 3, 16, 3, 0, 0) := rfl
theorem xi_130_16 : xm_ins 130 16 = some (.iload_n 2, 17, 2, 0, 0) := rfl
theorem xi_130_17 : xm_ins 130 17 = some (.aload_n 0, 18, 0, 0, 0) := rfl
theorem xi_130_18 : xm_ins 130 18 = some (.invokevirtual 107, 21, 117, 1, 3) := rfl
theorem xi_130_21 : xm_ins 130 21 = some (.iand, 22, 0, 0, 0) := rfl
theorem xi_130_22 : xm_ins 130 22 = some (.istore 4, 24, 4, 0, 0) := rfl
theorem xi_130_24 : xm_ins 130 24 = some (.iconst 0, 25, 0, 0, 0) := rfl
theorem xi_130_25 : xm_ins 130 25 = some (.istore 5, 27, 5, 0, 0) := rfl
theorem xi_130_27 : xm_ins 130 27 = some (.iload 5, 29, 5, 0, 0) := rfl
theorem xi_130_29 : xm_ins 130 29 = some (.bipush 8, 31, 0, 0, 8) := rfl
theorem xi_130_31 : xm_ins 130 31 = some (.if_icmp .ge 25, 34, 56, 0, 0) := rfl
theorem xi_130_34 : xm_ins 130 34 = some (.aload_n 0, 35, 0, 0, 0) := rfl
theorem xi_130_35 : xm_ins 130 35 = some (.getfield 16, 38, 3, 4, 1) := rfl
theorem xi_130_38 : xm_ins 130 38 = some (.iload 5, 40, 5, 0, 0) := rfl
theorem xi_130_40 : xm_ins 130 40 = some (.aload_n 0, 41, 0, 0, 0) := rfl
theorem xi_130_41 : xm_ins 130 41 = some (.getfield 7, 44, 3, 0, 1) := rfl
theorem xi_130_44 : xm_ins 130 44 = some (.iconst 4, 45, 0, 0, 4) := rfl
theorem xi_130_45 : xm_ins 130 45 = some (.iload 5, 47, 5, 0, 0) := rfl
theorem xi_130_47 : xm_ins 130 47 = some (.iadd, 48, 0, 0, 0) := rfl
theorem xi_130_48 : xm_ins 130 48 = some (.iaload, 49, 0, 0, 0) := rfl
theorem xi_130_49 : xm_ins 130 49 = some (.iastore, 50, 0, 0, 0) := rfl
theorem xi_130_50 : xm_ins 130 50 = some (.iinc 5 1, 53, 5, 0, 1) := rfl
theorem xi_130_53 : xm_ins 130 53 = some (.goto (-26), 56, 27, 0, 0) := rfl
theorem xi_130_56 : xm_ins 130 56 = some (.iconst 0, 57, 0, 0, 0) := rfl
theorem xi_130_57 : xm_ins 130 57 = some (.istore 5, 59, 5, 0, 0) := rfl
theorem xi_130_59 : xm_ins 130 59 = some (.iload 5, 61, 5, 0, 0) := rfl
theorem xi_130_61 : xm_ins 130 61 = some (.aload_n 0, 62, 0, 0, 0) := rfl
theorem xi_130_62 : xm_ins 130 62 = some (.getfield 7, 65, 3, 0, 1) := rfl
theorem xi_130_65 : xm_ins 130 65 = some (.iconst 0, 66, 0, 0, 0) := rfl
theorem xi_130_66 : xm_ins 130 66 = some (.iaload, 67, 0, 0, 0) := rfl
theorem xi_130_67 : xm_ins 130 67 = some (.if_icmp .ge 45, 70, 112, 0, 0) := rfl
theorem xi_130_70 : xm_ins 130 70 = some (.iload 4, 72, 4, 0, 0) := rfl
theorem xi_130_72 : xm_ins 130 72 = some (.iload 5, 74, 5, 0, 0) := rfl
theorem xi_130_74 : xm_ins 130 74 = some (.invokestatic 119, 77, 90, 2, 3) := rfl
theorem xi_130_77 : xm_ins 130 77 = some (.ifCond .eq 29, 80, 106, 0, 0) := rfl
theorem xi_130_80 : xm_ins 130 80 = some (.aload_n 0, 81, 0, 0, 0) := rfl
theorem xi_130_81 : xm_ins 130 81 = some (.getfield 7, 84, 3, 0, 1) := rfl
theorem xi_130_84 : xm_ins 130 84 = some (.iconst 4, 85, 0, 0, 4) := rfl
theorem xi_130_85 : xm_ins 130 85 = some (.aload_n 0, 86, 0, 0, 0) := rfl
theorem xi_130_86 : xm_ins 130 86 = some (.iload 5, 88, 5, 0, 0) := rfl
theorem xi_130_88 : xm_ins 130 88 = some (.invokevirtual 42, 91, 95, 2, 3) := rfl
theorem xi_130_91 : xm_ins 130 91 = some (.iadd, 92, 0, 0, 0) := rfl
theorem xi_130_92 : xm_ins 130 92 = some (.aload_n 0, 93, 0, 0, 0) := rfl
theorem xi_130_93 : xm_ins 130 93 = some (.getfield 16, 96, 3, 4, 1) := rfl
theorem xi_130_96 : xm_ins 130 96 = some (.aload_n 0, 97, 0, 0, 0) := rfl
theorem xi_130_97 : xm_ins 130 97 = some (.iload 5, 99, 5, 0, 0) := rfl
theorem xi_130_99 : xm_ins 130 99 = some (.invokevirtual 42, 102, 95, 2, 3) := rfl
theorem xi_130_102 : xm_ins 130 102 = some (.iaload, 103, 0, 0, 0) := rfl
theorem xi_130_103 : xm_ins 130 103 = some (.iconst 1, 104, 0, 0, 1) := rfl
theorem xi_130_104 : xm_ins 130 104 = some (.iadd, 105, 0, 0, 0) := rfl
theorem xi_130_105 : xm_ins 130 105 = some (.iastore, 106, 0, 0, 0) := rfl
theorem xi_130_106 : xm_ins 130 106 = some (.iinc 5 1, 109, 5, 0, 1) := rfl
theorem xi_130_109 : xm_ins 130 109 = some (.goto (-50), 112, 59, 0, 0) := rfl
theorem xi_130_112 : xm_ins 130 112 = some (.iconst 0, 113, 0, 0, 0) := rfl
theorem xi_130_113 : xm_ins 130 113 = some (.istore 5, 115, 5, 0, 0) := rfl
theorem xi_130_115 : xm_ins 130 115 = some (.iload 5, 117, 5, 0, 0) := rfl
theorem xi_130_117 : xm_ins 130 117 = some (.aload_n 0, 118, 0, 0, 0) := rfl
theorem xi_130_118 : xm_ins 130 118 = some (.getfield 7, 121, 3, 0, 1) := rfl
theorem xi_130_121 : xm_ins 130 121 = some (.iconst 0, 122, 0, 0, 0) := rfl
theorem xi_130_122 : xm_ins 130 122 = some (.iaload, 123, 0, 0, 0) := rfl
theorem xi_130_123 : xm_ins 130 123 = some (.if_icmp .ge 89, 126, 212, 0, 0) := rfl
theorem xi_130_126 : xm_ins 130 126 = some (.iload_n 2, 127, 2, 0, 0) := rfl
theorem xi_130_127 : xm_ins 130 127 = some (.iload 4, 129, 4, 0, 0) := rfl
theorem xi_130_129 : xm_ins 130 129 = some (.iconst (-1), 130, 0, 0, (-1)) := rfl
theorem xi_130_130 : xm_ins 130 130 = some (.ixor, 131, 0, 0, 0) := rfl
theorem xi_130_131 : xm_ins 130 131 = some (.iand, 132, 0, 0, 0) := rfl
theorem xi_130_132 : xm_ins 130 132 = some (.iload 5, 134, 5, 0, 0) := rfl
theorem xi_130_134 : xm_ins 130 134 = some (.invokestatic 119, 137, 90, 2, 3) := rfl
theorem xi_130_137 : xm_ins 130 137 = some (.ifCond .eq 69, 140, 206, 0, 0) := rfl
theorem xi_130_140 : xm_ins 130 140 = some (.aload_n 0, 141, 0, 0, 0) := rfl
set_option maxRecDepth 100000 in
theorem xi_130_141 : xm_ins 130 141 = some (.aload_n 0, 142, 0, 0, 0) := rfl
set_option maxRecDepth 100000 in
theorem xi_130_142 : xm_ins 130 142 = some (.getfield 16, 145, 3, 4, 1) := rfl
set_option maxRecDepth 100000 in
theorem xi_130_145 : xm_ins 130 145 = some (.aload_n 0, 146, 0, 0, 0) := rfl
set_option maxRecDepth 100000 in
theorem xi_130_146 : xm_ins 130 146 = some (.iload 5, 148, 5, 0, 0) := rfl
set_option maxRecDepth 100000 in
theorem xi_130_148 : xm_ins 130 148 = some (.invokevirtual 42, 151, 95, 2, 3) := rfl
set_option maxRecDepth 100000 in
theorem xi_130_151 : xm_ins 130 151 = some (.iaload, 152, 0, 0, 0) := rfl
set_option maxRecDepth 100000 in
theorem xi_130_152 : xm_ins 130 152 = some (.invokevirtual 60, 155, 100, 2, 3) := rfl
set_option maxRecDepth 100000 in
theorem xi_130_155 : xm_ins 130 155 = some (.istore 6, 157, 6, 0, 0) := rfl
set_option maxRecDepth 100000 in
theorem xi_130_157 : xm_ins 130 157 = some (.iload 6, 159, 6, 0, 0) := rfl
set_option maxRecDepth 100000 in
theorem xi_130_159 : xm_ins 130 159 = some (.ldc 53, 161, 0, 0, (-1000004)) := rfl
set_option maxRecDepth 100000 in
theorem xi_130_161 : xm_ins 130 161 = some (.if_icmp .ne 5, 164, 166, 0, 0) := rfl
set_option maxRecDepth 100000 in
theorem xi_130_164 : xm_ins 130 164 = some (.iconst 0, 165, 0, 0, 0) := rfl
set_option maxRecDepth 100000 in
theorem xi_130_165 : xm_ins 130 165 = some (.ireturn, 166, 0, 0, 0) := rfl
set_option maxRecDepth 100000 in
theorem xi_130_166 : xm_ins 130 166 = some (.aload_n 0, 167, 0, 0, 0) := rfl
set_option maxRecDepth 100000 in
theorem xi_130_167 : xm_ins 130 167 = some (.getfield 7, 170, 3, 0, 1) := rfl
set_option maxRecDepth 100000 in
theorem xi_130_170 : xm_ins 130 170 = some (.iload 5, 172, 5, 0, 0) := rfl
set_option maxRecDepth 100000 in
theorem xi_130_172 : xm_ins 130 172 = some (.iconst 0, 173, 0, 0, 0) := rfl
set_option maxRecDepth 100000 in
theorem xi_130_173 : xm_ins 130 173 = some (.invokestatic 29, 176, 86, 2, 3) := rfl
set_option maxRecDepth 100000 in
theorem xi_130_176 : xm_ins 130 176 = some (.iload 6, 178, 6, 0, 0) := rfl
set_option maxRecDepth 100000 in
theorem xi_130_178 : xm_ins 130 178 = some (.iconst 1, 179, 0, 0, 1) := rfl
set_option maxRecDepth 100000 in
theorem xi_130_179 : xm_ins 130 179 = some (.iadd, 180, 0, 0, 0) := rfl
set_option maxRecDepth 100000 in
theorem xi_130_180 : xm_ins 130 180 = some (.iastore, 181, 0, 0, 0) := rfl
set_option maxRecDepth 100000 in
theorem xi_130_181 : xm_ins 130 181 = some (.aload_n 0, 182, 0, 0, 0) := rfl
set_option maxRecDepth 100000 in
theorem xi_130_182 : xm_ins 130 182 = some (.getfield 7, 185, 3, 0, 1) := rfl
set_option maxRecDepth 100000 in
theorem xi_130_185 : xm_ins 130 185 = some (.iload 5, 187, 5, 0, 0) := rfl
set_option maxRecDepth 100000 in
theorem xi_130_187 : xm_ins 130 187 = some (.iconst 5, 188, 0, 0, 5) := rfl
set_option maxRecDepth 100000 in
theorem xi_130_188 : xm_ins 130 188 = some (.invokestatic 29, 191, 86, 2, 3) := rfl
set_option maxRecDepth 100000 in
theorem xi_130_191 : xm_ins 130 191 = some (.dup2, 192, 0, 0, 0) := rfl
set_option maxRecDepth 100000 in
theorem xi_130_192 : xm_ins 130 192 = some (.iaload, 193, 0, 0, 0) := rfl
set_option maxRecDepth 100000 in
theorem xi_130_193 : xm_ins 130 193 = some (.iconst 1, 194, 0, 0, 1) := rfl
set_option maxRecDepth 100000 in
theorem xi_130_194 : xm_ins 130 194 = some (.iadd, 195, 0, 0, 0) := rfl
set_option maxRecDepth 100000 in
theorem xi_130_195 : xm_ins 130 195 = some (.iastore, 196, 0, 0, 0) := rfl
set_option maxRecDepth 100000 in
theorem xi_130_196 : xm_ins 130 196 = some (.aload_n 0, 197, 0, 0, 0) := rfl
set_option maxRecDepth 100000 in
theorem xi_130_197 : xm_ins 130 197 = some (.getfield 7, 200, 3, 0, 1) := rfl
set_option maxRecDepth 100000 in
theorem xi_130_200 : xm_ins 130 200 = some (.iconst 3, 201, 0, 0, 3) := rfl
set_option maxRecDepth 100000 in
theorem xi_130_201 : xm_ins 130 201 = some (.dup2, 202, 0, 0, 0) := rfl
set_option maxRecDepth 100000 in
theorem xi_130_202 : xm_ins 130 202 = some (.iaload, 203, 0, 0, 0) := rfl
set_option maxRecDepth 100000 in
theorem xi_130_203 : xm_ins 130 203 = some (.iconst 1, 204, 0, 0, 1) := rfl
set_option maxRecDepth 100000 in
theorem xi_130_204 : xm_ins 130 204 = some (.iadd, 205, 0, 0, 0) := rfl
set_option maxRecDepth 100000 in
theorem xi_130_205 : xm_ins 130 205 = some (.iastore, 206, 0, 0, 0) := rfl
set_option maxRecDepth 100000 in
theorem xi_130_206 : xm_ins 130 206 = some (.iinc 5 1, 209, 5, 0, 1) := rfl
set_option maxRecDepth 100000 in
theorem xi_130_209 : xm_ins 130 209 = some (.goto (-94), 212, 115, 0, 0) := rfl
set_option maxRecDepth 100000 in
theorem xi_130_212 : xm_ins 130 212 = some (.aload_n 0, 213, 0, 0, 0) := rfl
set_option maxRecDepth 100000 in
theorem xi_130_213 : xm_ins 130 213 = some (.iload_n 3, 214, 3, 0, 0) := rfl
set_option maxRecDepth 100000 in
theorem xi_130_214 : xm_ins 130 214 = some (.invokevirtual 147, 217, 129, 2, 3) := rfl
set_option maxRecDepth 100000 in
theorem xi_130_217 : xm_ins 130 217 = some (.aload_n 0, 218, 0, 0, 0) := rfl
set_option maxRecDepth 100000 in
theorem xi_130_218 : xm_ins 130 218 = some (.getfield 7, 221, 3, 0, 1) := rfl
set_option maxRecDepth 100000 in
theorem xi_130_221 : xm_ins 130 221 = some (.iconst 1, 222, 0, 0, 1) := rfl
set_option maxRecDepth 100000 in
theorem xi_130_222 : xm_ins 130 222 = some (.dup2, 223, 0, 0, 0) := rfl
set_option maxRecDepth 100000 in
theorem xi_130_223 : xm_ins 130 223 = some (.iaload, 224, 0, 0, 0) := rfl
set_option maxRecDepth 100000 in
theorem xi_130_224 : xm_ins 130 224 = some (.iconst 1, 225, 0, 0, 1) := rfl
set_option maxRecDepth 100000 in
theorem xi_130_225 : xm_ins 130 225 = some (.iadd, 226, 0, 0, 0) := rfl
set_option maxRecDepth 100000 in
theorem xi_130_226 : xm_ins 130 226 = some (.iastore, 227, 0, 0, 0) := rfl
set_option maxRecDepth 100000 in
theorem xi_130_227 : xm_ins 130 227 = some (.iconst 1, 228, 0, 0, 1) := rfl
set_option maxRecDepth 100000 in
theorem xi_130_228 : xm_ins 130 228 = some (.ireturn, 229, 0, 0, 0) := rfl
theorem xn_131 (pc : Nat) : xm_ins 131 pc = xm_find xt_131 pc := rfl
theorem xi_131_0 : xm_ins 131 0 = some (.aload_n 0, 1, 0, 0, 0) := rfl
theorem xi_131_1 : xm_ins 131 1 = some (.iconst 0, 2, 0, 0, 0) := rfl
theorem xi_131_2 : xm_ins 131 2 = some (.sipush 980, 5, 0, 0, 980) := rfl
theorem xi_131_5 : xm_ins 131 5 = some (.invokevirtual 37, 8, 92, 3, 3) := rfl
theorem xi_131_8 : xm_ins 131 8 = some (.aload_n 0, 9, 0, 0, 0) := rfl
theorem xi_131_9 : xm_ins 131 9 = some (.iload_n 1, 10, 1, 0, 0) := rfl
theorem xi_131_10 : xm_ins 131 10 = some (.invokevirtual 150, 13, 130, 2, 3) := rfl
theorem xi_131_13 : xm_ins 131 13 = some (.istore_n 2, 14, 2, 0, 0) := rfl
theorem xi_131_14 : xm_ins 131 14 = some (.aload_n 0, 15, 0, 0, 0) := rfl
theorem xi_131_15 : xm_ins 131 15 = some (.sipush 980, 18, 0, 0, 980) := rfl
theorem xi_131_18 : xm_ins 131 18 = some (.iconst 0, 19, 0, 0, 0) := rfl
theorem xi_131_19 : xm_ins 131 19 = some (.invokevirtual 37, 22, 92, 3, 3) := rfl
theorem xi_131_22 : xm_ins 131 22 = some (.iload_n 2, 23, 2, 0, 0) := rfl
theorem xi_131_23 : xm_ins 131 23 = some (.ireturn, 24, 0, 0, 0) := rfl
theorem xn_132 (pc : Nat) : xm_ins 132 pc = xm_find xt_132 pc := rfl
theorem xi_132_0 : xm_ins 132 0 = some (.iload_n 0, 1, 0, 0, 0) := rfl
theorem xi_132_1 : xm_ins 132 1 = some (.iconst 0, 2, 0, 0, 0) := rfl
theorem xi_132_2 : xm_ins 132 2 = some (.iconst 1, 3, 0, 0, 1) := rfl
theorem xi_132_3 : xm_ins 132 3 = some (.invokestatic 25, 6, 85, 3, 3) := rfl
theorem xi_132_6 : xm_ins 132 6 = some (.ireturn, 7, 0, 0, 0) := rfl
theorem xn_133 (pc : Nat) : xm_ins 133 pc = xm_find xt_133 pc := rfl
theorem xi_133_0 : xm_ins 133 0 = some (.iload_n 1, 1, 1, 0, 0) := rfl
theorem xi_133_1 : xm_ins 133 1 = some (.invokestatic 153, 4, 132, 1, 3) := rfl
theorem xi_133_4 : xm_ins 133 4 = some (.ifCond .ne 8, 7, 12, 0, 0) := rfl
theorem xi_133_7 : xm_ins 133 7 = some (.ldc 78, 9, 0, 0, (-1000001)) := rfl
theorem xi_133_9 : xm_ins 133 9 = some (.goto 17, 12, 26, 0, 0) := rfl
theorem xi_133_12 : xm_ins 133 12 = some (.aload_n 0, 13, 0, 0, 0) := rfl
theorem xi_133_13 : xm_ins 133 13 = some (.iload_n 1, 14, 1, 0, 0) := rfl
theorem xi_133_14 : xm_ins 133 14 = some (.invokevirtual 156, 17, 131, 2, 3) := rfl
theorem xi_133_17 : xm_ins 133 17 = some (.ifCond .eq 7, 20, 24, 0, 0) := rfl
theorem xi_133_20 : xm_ins 133 20 = some (.iconst 0, 21, 0, 0, 0) := rfl
theorem xi_133_21 : xm_ins 133 21 = some (.goto 5, 24, 26, 0, 0) := rfl
theorem xi_133_24 : xm_ins 133 24 = some (.ldc 41, 26, 0, 0, (-1000002)) := rfl
theorem xi_133_26 : xm_ins 133 26 = some (.ireturn, 27, 0, 0, 0) := rfl
theorem xn_134 (pc : Nat) : xm_ins 134 pc = xm_find xt_134 pc := rfl
theorem xi_134_0 : xm_ins 134 0 = some (.aload_n 0, 1, 0, 0, 0) := rfl
theorem xi_134_1 : xm_ins 134 1 = some (.iload_n 1, 2, 1, 0, 0) := rfl
theorem xi_134_2 : xm_ins 134 2 = some (.invokevirtual 159, 5, 133, 2, 3) := rfl
theorem xi_134_5 : xm_ins 134 5 = some (.istore_n 2, 6, 2, 0, 0) := rfl
theorem xi_134_6 : xm_ins 134 6 = some (.iload_n 2, 7, 2, 0, 0) := rfl
theorem xi_134_7 : xm_ins 134 7 = some (.ifCond .eq 5, 10, 12, 0, 0) := rfl
theorem xi_134_10 : xm_ins 134 10 = some (.iload_n 2, 11, 2, 0, 0) := rfl
theorem xi_134_11 : xm_ins 134 11 = some (.ireturn, 12, 0, 0, 0) := rfl
theorem xi_134_12 : xm_ins 134 12 = some (.aload_n 0, 13, 0, 0, 0) := rfl
theorem xi_134_13 : xm_ins 134 13 = some (.iconst 0, 14, 0, 0, 0) := rfl
theorem xi_134_14 : xm_ins 134 14 = some (.invokevirtual 68, 17, 93, 2, 3) := rfl
theorem xi_134_17 : xm_ins 134 17 = some (.aload_n 0, 18, 0, 0, 0) := rfl
theorem xi_134_18 : xm_ins 134 18 = some (.invokevirtual 135, 21, 126, 1, 3) := rfl
theorem xi_134_21 : xm_ins 134 21 = some (.invokestatic 110, 24, 91, 1, 3) := rfl
theorem xi_134_24 : xm_ins 134 24 = some (.istore_n 3, 25, 3, 0, 0) := rfl
theorem xi_134_25 : xm_ins 134 25 = some (.aload_n 0, 26, 0, 0, 0) := rfl
theorem xi_134_26 : xm_ins 134 26 = some (.iload_n 1, 27, 1, 0, 0) := rfl
theorem xi_134_27 : xm_ins 134 27 = some (.invokevirtual 150, 30, 130, 2, 3) := rfl
theorem xi_134_30 : xm_ins 134 30 = some (.pop, 31, 0, 0, 0) := rfl
theorem xi_134_31 : xm_ins 134 31 = some (.iload_n 3, 32, 3, 0, 0) := rfl
theorem xi_134_32 : xm_ins 134 32 = some (.aload_n 0, 33, 0, 0, 0) := rfl
theorem xi_134_33 : xm_ins 134 33 = some (.invokevirtual 135, 36, 126, 1, 3) := rfl
theorem xi_134_36 : xm_ins 134 36 = some (.invokestatic 110, 39, 91, 1, 3) := rfl
theorem xi_134_39 : xm_ins 134 39 = some (.isub, 40, 0, 0, 0) := rfl
theorem xi_134_40 : xm_ins 134 40 = some (.ireturn, 41, 0, 0, 0) := rfl
theorem xn_135 (pc : Nat) : xm_ins 135 pc = xm_find xt_135 pc := rfl
theorem xi_135_0 : xm_ins 135 0 = some (.aload_n 0, 1, 0, 0, 0) := rfl
theorem xi_135_1 : xm_ins 135 1 = some (.invokevirtual 135, 4, 126, 1, 3) := rfl
theorem xi_135_4 : xm_ins 135 4 = some (.aload_n 0, 5, 0, 0, 0) := rfl
theorem xi_135_5 : xm_ins 135 5 = some (.invokevirtual 162, 8, 127, 1, 3) := rfl
theorem xi_135_8 : xm_ins 135 8 = some (.iconst (-1), 9, 0, 0, (-1)) := rfl
theorem xi_135_9 : xm_ins 135 9 = some (.ixor, 10, 0, 0, 0) := rfl
theorem xi_135_10 : xm_ins 135 10 = some (.iand, 11, 0, 0, 0) := rfl
theorem xi_135_11 : xm_ins 135 11 = some (.istore_n 1, 12, 1, 0, 0) := rfl
theorem xi_135_12 : xm_ins 135 12 = some (.aload_n 0, 13, 0, 0, 0) := rfl
theorem xi_135_13 : xm_ins 135 13 = some (.iload_n 1, 14, 1, 0, 0) := rfl
theorem xi_135_14 : xm_ins 135 14 = some (.invokevirtual 147, 17, 129, 2, 3) := rfl
theorem xi_135_17 : xm_ins 135 17 = some (.aload_n 0, 18, 0, 0, 0) := rfl
theorem xi_135_18 : xm_ins 135 18 = some (.getfield 7, 21, 3, 0, 1) := rfl
theorem xi_135_21 : xm_ins 135 21 = some (.iconst 2, 22, 0, 0, 2) := rfl
theorem xi_135_22 : xm_ins 135 22 = some (.dup2, 23, 0, 0, 0) := rfl
theorem xi_135_23 : xm_ins 135 23 = some (.iaload, 24, 0, 0, 0) := rfl
theorem xi_135_24 : xm_ins 135 24 = some (.iconst 1, 25, 0, 0, 1) := rfl
theorem xi_135_25 : xm_ins 135 25 = some (.iadd, 26, 0, 0, 0) := rfl
theorem xi_135_26 : xm_ins 135 26 = some (.iastore, 27, 0, 0, 0) := rfl
theorem xi_135_27 : xm_ins 135 27 = some (.iload_n 1, 28, 1, 0, 0) := rfl
theorem xi_135_28 : xm_ins 135 28 = some (.invokestatic 110, 31, 91, 1, 3) := rfl
theorem xi_135_31 : xm_ins 135 31 = some (.ireturn, 32, 0, 0, 0) := rfl
theorem xn_136 (pc : Nat) : xm_ins 136 pc = xm_find xt_136 pc := rfl
theorem xi_136_0 : xm_ins 136 0 = some (.aload_n 0, 1, 0, 0, 0) := rfl
theorem xi_136_1 : xm_ins 136 1 = some (.iconst 0, 2, 0, 0, 0) := rfl
theorem xi_136_2 : xm_ins 136 2 = some (.invokevirtual 68, 5, 93, 2, 3) := rfl
theorem xi_136_5 : xm_ins 136 5 = some (.aload_n 0, 6, 0, 0, 0) := rfl
theorem xi_136_6 : xm_ins 136 6 = some (.invokevirtual 165, 9, 135, 1, 3) := rfl
theorem xi_136_9 : xm_ins 136 9 = some (.ireturn, 10, 0, 0, 0) := rfl
theorem xn_137 (pc : Nat) : xm_ins 137 pc = xm_find xt_137 pc := rfl
theorem xi_137_0 : xm_ins 137 0 = some (.iconst 0, 1, 0, 0, 0) := rfl
theorem xi_137_1 : xm_ins 137 1 = some (.istore_n 2, 2, 2, 0, 0) := rfl
theorem xi_137_2 : xm_ins 137 2 = some (.iconst 0, 3, 0, 0, 0) := rfl
theorem xi_137_3 : xm_ins 137 3 = some (.istore_n 3, 4, 3, 0, 0) := rfl
theorem xi_137_4 : xm_ins 137 4 = some (.iload_n 3, 5, 3, 0, 0) := rfl
theorem xi_137_5 : xm_ins 137 5 = some (.aload_n 0, 6, 0, 0, 0) := rfl
theorem xi_137_6 : xm_ins 137 6 = some (.getfield 7, 9, 3, 0, 1) := rfl
theorem xi_137_9 : xm_ins 137 9 = some (.iconst 0, 10, 0, 0, 0) := rfl
theorem xi_137_10 : xm_ins 137 10 = some (.iaload, 11, 0, 0, 0) := rfl
theorem xi_137_11 : xm_ins 137 11 = some (.if_icmp .ge 33, 14, 44, 0, 0) := rfl
theorem xi_137_14 : xm_ins 137 14 = some (.iload_n 2, 15, 2, 0, 0) := rfl
theorem xi_137_15 : xm_ins 137 15 = some (.aload_n 0, 16, 0, 0, 0) := rfl
theorem xi_137_16 : xm_ins 137 16 = some (.iconst 1, 17, 0, 0, 1) := rfl
theorem xi_137_17 : xm_ins 137 17 = some (.iload_n 3, 18, 3, 0, 0) := rfl
theorem xi_137_18 : xm_ins 137 18 = some (.ishl, 19, 0, 0, 0) := rfl
theorem xi_137_19 : xm_ins 137 19 = some (.invokevirtual 123, 22, 123, 2, 3) := rfl
theorem xi_137_22 : xm_ins 137 22 = some (.iload_n 1, 23, 1, 0, 0) := rfl
theorem xi_137_23 : xm_ins 137 23 = some (.invokestatic 119, 26, 90, 2, 3) := rfl
theorem xi_137_26 : xm_ins 137 26 = some (.ifCond .eq 9, 29, 35, 0, 0) := rfl
theorem xi_137_29 : xm_ins 137 29 = some (.iconst 1, 30, 0, 0, 1) := rfl
theorem xi_137_30 : xm_ins 137 30 = some (.iload_n 3, 31, 3, 0, 0) := rfl
theorem xi_137_31 : xm_ins 137 31 = some (.ishl, 32, 0, 0, 0) := rfl
theorem xi_137_32 : xm_ins 137 32 = some (.goto 4, 35, 36, 0, 0) := rfl
theorem xi_137_35 : xm_ins 137 35 = some (.iconst 0, 36, 0, 0, 0) := rfl
theorem xi_137_36 : xm_ins 137 36 = some (.ior, 37, 0, 0, 0) := rfl
theorem xi_137_37 : xm_ins 137 37 = some (.istore_n 2, 38, 2, 0, 0) := rfl
theorem xi_137_38 : xm_ins 137 38 = some (.iinc 3 1, 41, 3, 0, 1) := rfl
theorem xi_137_41 : xm_ins 137 41 = some (.goto (-37), 44, 4, 0, 0) := rfl
theorem xi_137_44 : xm_ins 137 44 = some (.iload_n 2, 45, 2, 0, 0) := rfl
theorem xi_137_45 : xm_ins 137 45 = some (.ireturn, 46, 0, 0, 0) := rfl
theorem xn_138 (pc : Nat) : xm_ins 138 pc = xm_find xt_138 pc := rfl
theorem xi_138_0 : xm_ins 138 0 = some (.iconst 0, 1, 0, 0, 0) := rfl
theorem xi_138_1 : xm_ins 138 1 = some (.istore_n 2, 2, 2, 0, 0) := rfl
theorem xi_138_2 : xm_ins 138 2 = some (.iconst 0, 3, 0, 0, 0) := rfl
theorem xi_138_3 : xm_ins 138 3 = some (.istore_n 3, 4, 3, 0, 0) := rfl
theorem xi_138_4 : xm_ins 138 4 = some (.iload_n 3, 5, 3, 0, 0) := rfl
theorem xi_138_5 : xm_ins 138 5 = some (.iconst 4, 6, 0, 0, 4) := rfl
theorem xi_138_6 : xm_ins 138 6 = some (.if_icmp .ge 34, 9, 40, 0, 0) := rfl
theorem xi_138_9 : xm_ins 138 9 = some (.iload_n 2, 10, 2, 0, 0) := rfl
theorem xi_138_10 : xm_ins 138 10 = some (.aload_n 0, 11, 0, 0, 0) := rfl
theorem xi_138_11 : xm_ins 138 11 = some (.getfield 7, 14, 3, 0, 1) := rfl
theorem xi_138_14 : xm_ins 138 14 = some (.bipush 12, 16, 0, 0, 12) := rfl
theorem xi_138_16 : xm_ins 138 16 = some (.iload_n 3, 17, 3, 0, 0) := rfl
theorem xi_138_17 : xm_ins 138 17 = some (.iadd, 18, 0, 0, 0) := rfl
theorem xi_138_18 : xm_ins 138 18 = some (.iaload, 19, 0, 0, 0) := rfl
theorem xi_138_19 : xm_ins 138 19 = some (.iload_n 1, 20, 1, 0, 0) := rfl
theorem xi_138_20 : xm_ins 138 20 = some (.iconst 1, 21, 0, 0, 1) := rfl
theorem xi_138_21 : xm_ins 138 21 = some (.iadd, 22, 0, 0, 0) := rfl
theorem xi_138_22 : xm_ins 138 22 = some (.if_icmp .ne 9, 25, 31, 0, 0) := rfl
theorem xi_138_25 : xm_ins 138 25 = some (.iconst 1, 26, 0, 0, 1) := rfl
theorem xi_138_26 : xm_ins 138 26 = some (.iload_n 3, 27, 3, 0, 0) := rfl
theorem xi_138_27 : xm_ins 138 27 = some (.ishl, 28, 0, 0, 0) := rfl
theorem xi_138_28 : xm_ins 138 28 = some (.goto 4, 31, 32, 0, 0) := rfl
theorem xi_138_31 : xm_ins 138 31 = some (.iconst 0, 32, 0, 0, 0) := rfl
theorem xi_138_32 : xm_ins 138 32 = some (.ior, 33, 0, 0, 0) := rfl
theorem xi_138_33 : xm_ins 138 33 = some (.istore_n 2, 34, 2, 0, 0) := rfl
theorem xi_138_34 : xm_ins 138 34 = some (.iinc 3 1, 37, 3, 0, 1) := rfl
theorem xi_138_37 : xm_ins 138 37 = some (.goto (-33), 40, 4, 0, 0) := rfl
theorem xi_138_40 : xm_ins 138 40 = some (.iload_n 2, 41, 2, 0, 0) := rfl
theorem xi_138_41 : xm_ins 138 41 = some (.ireturn, 42, 0, 0, 0) := rfl
theorem xn_139 (pc : Nat) : xm_ins 139 pc = xm_find xt_139 pc := rfl
theorem xi_139_0 : xm_ins 139 0 = some (.iload_n 1, 1, 1, 0, 0) := rfl
theorem xi_139_1 : xm_ins 139 1 = some (.iconst 0, 2, 0, 0, 0) := rfl
theorem xi_139_2 : xm_ins 139 2 = some (.aload_n 0, 3, 0, 0, 0) := rfl
theorem xi_139_3 : xm_ins 139 3 = some (.getfield 7, 6, 3, 0, 1) := rfl
theorem xi_139_6 : xm_ins 139 6 = some (.iconst 0, 7, 0, 0, 0) := rfl
theorem xi_139_7 : xm_ins 139 7 = some (.iaload, 8, 0, 0, 0) := rfl
theorem xi_139_8 : xm_ins 139 8 = some (.iconst 1, 9, 0, 0, 1) := rfl
theorem xi_139_9 : xm_ins 139 9 = some (.isub, 10, 0, 0, 0) := rfl
theorem xi_139_10 : xm_ins 139 10 = some (.invokestatic 25, 13, 85, 3, 3) := rfl
theorem xi_139_13 : xm_ins 139 13 = some (.ifCond .ne 6, 16, 19, 0, 0) := rfl
theorem xi_139_16 : xm_ins 139 16 = some (.ldc 78, 18, 0, 0, (-1000001)) := rfl
theorem xi_139_18 : xm_ins 139 18 = some (.ireturn, 19, 0, 0, 0) := rfl
theorem xi_139_19 : xm_ins 139 19 = some (.aload_n 0, 20, 0, 0, 0) := rfl
theorem xi_139_20 : xm_ins 139 20 = some (.iload_n 1, 21, 1, 0, 0) := rfl
theorem xi_139_21 : xm_ins 139 21 = some (.invokevirtual 46, 24, 87, 2, 3) := rfl
theorem xi_139_24 : xm_ins 139 24 = some (.istore_n 3, 25, 3, 0, 0) := rfl
theorem xi_139_25 : xm_ins 139 25 = some (.iload_n 2, 26, 2, 0, 0) := rfl
theorem xi_139_26 : xm_ins 139 26 = some (.tableswitch 181 0 9 #[54, 64, 97, 112, 123, 123, 123, 158, 164, 170], 80, 0, 0, 0) := rfl
theorem xi_139_80 : xm_ins 139 80 = some (.iload_n 3, 81, 3, 0, 0) := rfl
theorem xi_139_81 : xm_ins 139 81 = some (.ifCond .eq 7, 84, 88, 0, 0) := rfl
theorem xi_139_84 : xm_ins 139 84 = some (.iconst 1, 85, 0, 0, 1) := rfl
theorem xi_139_85 : xm_ins 139 85 = some (.goto 4, 88, 89, 0, 0) := rfl
theorem xi_139_88 : xm_ins 139 88 = some (.iconst 0, 89, 0, 0, 0) := rfl
theorem xi_139_89 : xm_ins 139 89 = some (.ireturn, 90, 0, 0, 0) := rfl
theorem xi_139_90 : xm_ins 139 90 = some (.iload_n 3, 91, 3, 0, 0) := rfl
theorem xi_139_91 : xm_ins 139 91 = some (.ifCond .eq 29, 94, 120, 0, 0) := rfl
theorem xi_139_94 : xm_ins 139 94 = some (.bipush 10, 96, 0, 0, 10) := rfl
theorem xi_139_96 : xm_ins 139 96 = some (.aload_n 0, 97, 0, 0, 0) := rfl
theorem xi_139_97 : xm_ins 139 97 = some (.iload_n 1, 98, 1, 0, 0) := rfl
theorem xi_139_98 : xm_ins 139 98 = some (.invokevirtual 42, 101, 95, 2, 3) := rfl
theorem xi_139_101 : xm_ins 139 101 = some (.imul, 102, 0, 0, 0) := rfl
theorem xi_139_102 : xm_ins 139 102 = some (.aload_n 0, 103, 0, 0, 0) := rfl
theorem xi_139_103 : xm_ins 139 103 = some (.getfield 7, 106, 3, 0, 1) := rfl
theorem xi_139_106 : xm_ins 139 106 = some (.iload_n 1, 107, 1, 0, 0) := rfl
theorem xi_139_107 : xm_ins 139 107 = some (.iconst 0, 108, 0, 0, 0) := rfl
theorem xi_139_108 : xm_ins 139 108 = some (.invokestatic 29, 111, 86, 2, 3) := rfl
theorem xi_139_111 : xm_ins 139 111 = some (.iaload, 112, 0, 0, 0) := rfl
theorem xi_139_112 : xm_ins 139 112 = some (.iconst 1, 113, 0, 0, 1) := rfl
theorem xi_139_113 : xm_ins 139 113 = some (.isub, 114, 0, 0, 0) := rfl
theorem xi_139_114 : xm_ins 139 114 = some (.iconst 5, 115, 0, 0, 5) := rfl
theorem xi_139_115 : xm_ins 139 115 = some (.irem, 116, 0, 0, 0) := rfl
theorem xi_139_116 : xm_ins 139 116 = some (.iadd, 117, 0, 0, 0) := rfl
theorem xi_139_117 : xm_ins 139 117 = some (.goto 5, 120, 122, 0, 0) := rfl
theorem xi_139_120 : xm_ins 139 120 = some (.ldc 53, 122, 0, 0, (-1000004)) := rfl
theorem xi_139_122 : xm_ins 139 122 = some (.ireturn, 123, 0, 0, 0) := rfl
theorem xi_139_123 : xm_ins 139 123 = some (.iload_n 3, 124, 3, 0, 0) := rfl
theorem xi_139_124 : xm_ins 139 124 = some (.ifCond .eq 11, 127, 135, 0, 0) := rfl
theorem xi_139_127 : xm_ins 139 127 = some (.aload_n 0, 128, 0, 0, 0) := rfl
theorem xi_139_128 : xm_ins 139 128 = some (.iload_n 1, 129, 1, 0, 0) := rfl
theorem xi_139_129 : xm_ins 139 129 = some (.invokevirtual 50, 132, 96, 2, 3) := rfl
theorem xi_139_132 : xm_ins 139 132 = some (.goto 5, 135, 137, 0, 0) := rfl
theorem xi_139_135 : xm_ins 139 135 = some (.ldc 53, 137, 0, 0, (-1000004)) := rfl
theorem xi_139_137 : xm_ins 139 137 = some (.ireturn, 138, 0, 0, 0) := rfl
theorem xi_139_138 : xm_ins 139 138 = some (.aload_n 0, 139, 0, 0, 0) := rfl
theorem xi_139_139 : xm_ins 139 139 = some (.getfield 7, 142, 3, 0, 1) := rfl
theorem xi_139_142 : xm_ins 139 142 = some (.iload_n 1, 143, 1, 0, 0) := rfl
theorem xi_139_143 : xm_ins 139 143 = some (.iconst 1, 144, 0, 0, 1) := rfl
theorem xi_139_144 : xm_ins 139 144 = some (.invokestatic 29, 147, 86, 2, 3) := rfl
theorem xi_139_147 : xm_ins 139 147 = some (.iaload, 148, 0, 0, 0) := rfl
theorem xi_139_148 : xm_ins 139 148 = some (.ireturn, 149, 0, 0, 0) := rfl
theorem xi_139_149 : xm_ins 139 149 = some (.aload_n 0, 150, 0, 0, 0) := rfl
theorem xi_139_150 : xm_ins 139 150 = some (.getfield 7, 153, 3, 0, 1) := rfl
theorem xi_139_153 : xm_ins 139 153 = some (.iload_n 1, 154, 1, 0, 0) := rfl
theorem xi_139_154 : xm_ins 139 154 = some (.iload_n 2, 155, 2, 0, 0) := rfl
theorem xi_139_155 : xm_ins 139 155 = some (.iconst 2, 156, 0, 0, 2) := rfl
theorem xi_139_156 : xm_ins 139 156 = some (.isub, 157, 0, 0, 0) := rfl
theorem xi_139_157 : xm_ins 139 157 = some (.invokestatic 29, 160, 86, 2, 3) := rfl
theorem xi_139_160 : xm_ins 139 160 = some (.iaload, 161, 0, 0, 0) := rfl
theorem xi_139_161 : xm_ins 139 161 = some (.ifCond .ne 8, 164, 169, 0, 0) := rfl
theorem xi_139_164 : xm_ins 139 164 = some (.ldc 53, 166, 0, 0, (-1000004)) := rfl
theorem xi_139_166 : xm_ins 139 166 = some (.goto 17, 169, 183, 0, 0) := rfl
theorem xi_139_169 : xm_ins 139 169 = some (.aload_n 0, 170, 0, 0, 0) := rfl
theorem xi_139_170 : xm_ins 139 170 = some (.getfield 7, 173, 3, 0, 1) := rfl
theorem xi_139_173 : xm_ins 139 173 = some (.iload_n 1, 174, 1, 0, 0) := rfl
theorem xi_139_174 : xm_ins 139 174 = some (.iload_n 2, 175, 2, 0, 0) := rfl
theorem xi_139_175 : xm_ins 139 175 = some (.iconst 2, 176, 0, 0, 2) := rfl
theorem xi_139_176 : xm_ins 139 176 = some (.isub, 177, 0, 0, 0) := rfl
theorem xi_139_177 : xm_ins 139 177 = some (.invokestatic 29, 180, 86, 2, 3) := rfl
theorem xi_139_180 : xm_ins 139 180 = some (.iaload, 181, 0, 0, 0) := rfl
theorem xi_139_181 : xm_ins 139 181 = some (.iconst 1, 182, 0, 0, 1) := rfl
theorem xi_139_182 : xm_ins 139 182 = some (.isub, 183, 0, 0, 0) := rfl
set_option maxRecDepth 100000 in
theorem xi_139_183 : xm_ins 139 183 = some (.ireturn, 184, 0, 0, 0) := rfl
set_option maxRecDepth 100000 in
theorem xi_139_184 : xm_ins 139 184 = some (.aload_n 0, 185, 0, 0, 0) := rfl
set_option maxRecDepth 100000 in
theorem xi_139_185 : xm_ins 139 185 = some (.iload_n 1, 186, 1, 0, 0) := rfl
set_option maxRecDepth 100000 in
theorem xi_139_186 : xm_ins 139 186 = some (.invokevirtual 168, 189, 138, 2, 3) := rfl
set_option maxRecDepth 100000 in
theorem xi_139_189 : xm_ins 139 189 = some (.ireturn, 190, 0, 0, 0) := rfl
set_option maxRecDepth 100000 in
theorem xi_139_190 : xm_ins 139 190 = some (.aload_n 0, 191, 0, 0, 0) := rfl
set_option maxRecDepth 100000 in
theorem xi_139_191 : xm_ins 139 191 = some (.iload_n 1, 192, 1, 0, 0) := rfl
set_option maxRecDepth 100000 in
theorem xi_139_192 : xm_ins 139 192 = some (.invokevirtual 171, 195, 137, 2, 3) := rfl
set_option maxRecDepth 100000 in
theorem xi_139_195 : xm_ins 139 195 = some (.ireturn, 196, 0, 0, 0) := rfl
set_option maxRecDepth 100000 in
theorem xi_139_196 : xm_ins 139 196 = some (.aload_n 0, 197, 0, 0, 0) := rfl
set_option maxRecDepth 100000 in
theorem xi_139_197 : xm_ins 139 197 = some (.getfield 7, 200, 3, 0, 1) := rfl
set_option maxRecDepth 100000 in
theorem xi_139_200 : xm_ins 139 200 = some (.iload_n 1, 201, 1, 0, 0) := rfl
set_option maxRecDepth 100000 in
theorem xi_139_201 : xm_ins 139 201 = some (.iconst 5, 202, 0, 0, 5) := rfl
set_option maxRecDepth 100000 in
theorem xi_139_202 : xm_ins 139 202 = some (.invokestatic 29, 205, 86, 2, 3) := rfl
set_option maxRecDepth 100000 in
theorem xi_139_205 : xm_ins 139 205 = some (.iaload, 206, 0, 0, 0) := rfl
set_option maxRecDepth 100000 in
theorem xi_139_206 : xm_ins 139 206 = some (.ireturn, 207, 0, 0, 0) := rfl
set_option maxRecDepth 100000 in
theorem xi_139_207 : xm_ins 139 207 = some (.ldc 78, 209, 0, 0, (-1000001)) := rfl
set_option maxRecDepth 100000 in
theorem xi_139_209 : xm_ins 139 209 = some (.ireturn, 210, 0, 0, 0) := rfl
theorem xn_140 (pc : Nat) : xm_ins 140 pc = xm_find xt_140 pc := rfl
theorem xi_140_0 : xm_ins 140 0 = some (.iconst 0, 1, 0, 0, 0) := rfl
theorem xi_140_1 : xm_ins 140 1 = some (.istore_n 2, 2, 2, 0, 0) := rfl
theorem xi_140_2 : xm_ins 140 2 = some (.iconst 0, 3, 0, 0, 0) := rfl
theorem xi_140_3 : xm_ins 140 3 = some (.istore_n 3, 4, 3, 0, 0) := rfl
theorem xi_140_4 : xm_ins 140 4 = some (.iload_n 3, 5, 3, 0, 0) := rfl
theorem xi_140_5 : xm_ins 140 5 = some (.aload_n 0, 6, 0, 0, 0) := rfl
theorem xi_140_6 : xm_ins 140 6 = some (.getfield 7, 9, 3, 0, 1) := rfl
theorem xi_140_9 : xm_ins 140 9 = some (.iconst 0, 10, 0, 0, 0) := rfl
theorem xi_140_10 : xm_ins 140 10 = some (.iaload, 11, 0, 0, 0) := rfl
theorem xi_140_11 : xm_ins 140 11 = some (.if_icmp .ge 36, 14, 47, 0, 0) := rfl
theorem xi_140_14 : xm_ins 140 14 = some (.iload_n 2, 15, 2, 0, 0) := rfl
theorem xi_140_15 : xm_ins 140 15 = some (.aload_n 0, 16, 0, 0, 0) := rfl
theorem xi_140_16 : xm_ins 140 16 = some (.iload_n 3, 17, 3, 0, 0) := rfl
theorem xi_140_17 : xm_ins 140 17 = some (.invokevirtual 46, 20, 87, 2, 3) := rfl
theorem xi_140_20 : xm_ins 140 20 = some (.ifCond .eq 18, 23, 38, 0, 0) := rfl
theorem xi_140_23 : xm_ins 140 23 = some (.aload_n 0, 24, 0, 0, 0) := rfl
theorem xi_140_24 : xm_ins 140 24 = some (.iload_n 3, 25, 3, 0, 0) := rfl
theorem xi_140_25 : xm_ins 140 25 = some (.invokevirtual 42, 28, 95, 2, 3) := rfl
theorem xi_140_28 : xm_ins 140 28 = some (.iload_n 1, 29, 1, 0, 0) := rfl
theorem xi_140_29 : xm_ins 140 29 = some (.if_icmp .ne 9, 32, 38, 0, 0) := rfl
theorem xi_140_32 : xm_ins 140 32 = some (.iconst 1, 33, 0, 0, 1) := rfl
theorem xi_140_33 : xm_ins 140 33 = some (.iload_n 3, 34, 3, 0, 0) := rfl
theorem xi_140_34 : xm_ins 140 34 = some (.ishl, 35, 0, 0, 0) := rfl
theorem xi_140_35 : xm_ins 140 35 = some (.goto 4, 38, 39, 0, 0) := rfl
theorem xi_140_38 : xm_ins 140 38 = some (.iconst 0, 39, 0, 0, 0) := rfl
theorem xi_140_39 : xm_ins 140 39 = some (.ior, 40, 0, 0, 0) := rfl
theorem xi_140_40 : xm_ins 140 40 = some (.istore_n 2, 41, 2, 0, 0) := rfl
theorem xi_140_41 : xm_ins 140 41 = some (.iinc 3 1, 44, 3, 0, 1) := rfl
theorem xi_140_44 : xm_ins 140 44 = some (.goto (-40), 47, 4, 0, 0) := rfl
theorem xi_140_47 : xm_ins 140 47 = some (.iload_n 2, 48, 2, 0, 0) := rfl
theorem xi_140_48 : xm_ins 140 48 = some (.ireturn, 49, 0, 0, 0) := rfl
theorem xn_141 (pc : Nat) : xm_ins 141 pc = xm_find xt_141 pc := rfl
theorem xi_141_0 : xm_ins 141 0 = some (.iload_n 1, 1, 1, 0, 0) := rfl
theorem xi_141_1 : xm_ins 141 1 = some (.iconst 0, 2, 0, 0, 0) := rfl
theorem xi_141_2 : xm_ins 141 2 = some (.bipush 7, 4, 0, 0, 7) := rfl
theorem xi_141_4 : xm_ins 141 4 = some (.invokestatic 25, 7, 85, 3, 3) := rfl
theorem xi_141_7 : xm_ins 141 7 = some (.ifCond .eq 13, 10, 20, 0, 0) := rfl
theorem xi_141_10 : xm_ins 141 10 = some (.iload_n 2, 11, 2, 0, 0) := rfl
theorem xi_141_11 : xm_ins 141 11 = some (.iconst 0, 12, 0, 0, 0) := rfl
theorem xi_141_12 : xm_ins 141 12 = some (.bipush 7, 14, 0, 0, 7) := rfl
theorem xi_141_14 : xm_ins 141 14 = some (.invokestatic 25, 17, 85, 3, 3) := rfl
theorem xi_141_17 : xm_ins 141 17 = some (.ifCond .ne 6, 20, 23, 0, 0) := rfl
theorem xi_141_20 : xm_ins 141 20 = some (.ldc 78, 22, 0, 0, (-1000001)) := rfl
theorem xi_141_22 : xm_ins 141 22 = some (.ireturn, 23, 0, 0, 0) := rfl
theorem xi_141_23 : xm_ins 141 23 = some (.iload_n 2, 24, 2, 0, 0) := rfl
theorem xi_141_24 : xm_ins 141 24 = some (.ifCond .ne 30, 27, 54, 0, 0) := rfl
theorem xi_141_27 : xm_ins 141 27 = some (.aload_n 0, 28, 0, 0, 0) := rfl
theorem xi_141_28 : xm_ins 141 28 = some (.getfield 7, 31, 3, 0, 1) := rfl
theorem xi_141_31 : xm_ins 141 31 = some (.iconst 4, 32, 0, 0, 4) := rfl
theorem xi_141_32 : xm_ins 141 32 = some (.iload_n 1, 33, 1, 0, 0) := rfl
theorem xi_141_33 : xm_ins 141 33 = some (.iadd, 34, 0, 0, 0) := rfl
theorem xi_141_34 : xm_ins 141 34 = some (.iaload, 35, 0, 0, 0) := rfl
theorem xi_141_35 : xm_ins 141 35 = some (.ifCond .ne 8, 38, 43, 0, 0) := rfl
theorem xi_141_38 : xm_ins 141 38 = some (.ldc 53, 40, 0, 0, (-1000004)) := rfl
theorem xi_141_40 : xm_ins 141 40 = some (.goto 13, 43, 53, 0, 0) := rfl
theorem xi_141_43 : xm_ins 141 43 = some (.aload_n 0, 44, 0, 0, 0) := rfl
theorem xi_141_44 : xm_ins 141 44 = some (.getfield 7, 47, 3, 0, 1) := rfl
theorem xi_141_47 : xm_ins 141 47 = some (.iconst 4, 48, 0, 0, 4) := rfl
theorem xi_141_48 : xm_ins 141 48 = some (.iload_n 1, 49, 1, 0, 0) := rfl
theorem xi_141_49 : xm_ins 141 49 = some (.iadd, 50, 0, 0, 0) := rfl
theorem xi_141_50 : xm_ins 141 50 = some (.iaload, 51, 0, 0, 0) := rfl
theorem xi_141_51 : xm_ins 141 51 = some (.iconst 1, 52, 0, 0, 1) := rfl
theorem xi_141_52 : xm_ins 141 52 = some (.isub, 53, 0, 0, 0) := rfl
theorem xi_141_53 : xm_ins 141 53 = some (.ireturn, 54, 0, 0, 0) := rfl
theorem xi_141_54 : xm_ins 141 54 = some (.iload_n 2, 55, 2, 0, 0) := rfl
theorem xi_141_55 : xm_ins 141 55 = some (.iconst 1, 56, 0, 0, 1) := rfl
theorem xi_141_56 : xm_ins 141 56 = some (.if_icmp .ne 14, 59, 70, 0, 0) := rfl
theorem xi_141_59 : xm_ins 141 59 = some (.aload_n 0, 60, 0, 0, 0) := rfl
theorem xi_141_60 : xm_ins 141 60 = some (.iload_n 1, 61, 1, 0, 0) := rfl
theorem xi_141_61 : xm_ins 141 61 = some (.invokevirtual 174, 64, 140, 2, 3) := rfl
theorem xi_141_64 : xm_ins 141 64 = some (.invokestatic 110, 67, 91, 1, 3) := rfl
theorem xi_141_67 : xm_ins 141 67 = some (.goto 27, 70, 94, 0, 0) := rfl
theorem xi_141_70 : xm_ins 141 70 = some (.iload_n 2, 71, 2, 0, 0) := rfl
theorem xi_141_71 : xm_ins 141 71 = some (.iconst 2, 72, 0, 0, 2) := rfl
theorem xi_141_72 : xm_ins 141 72 = some (.if_icmp .ne 11, 75, 83, 0, 0) := rfl
theorem xi_141_75 : xm_ins 141 75 = some (.aload_n 0, 76, 0, 0, 0) := rfl
theorem xi_141_76 : xm_ins 141 76 = some (.iload_n 1, 77, 1, 0, 0) := rfl
theorem xi_141_77 : xm_ins 141 77 = some (.invokevirtual 174, 80, 140, 2, 3) := rfl
theorem xi_141_80 : xm_ins 141 80 = some (.goto 14, 83, 94, 0, 0) := rfl
theorem xi_141_83 : xm_ins 141 83 = some (.aload_n 0, 84, 0, 0, 0) := rfl
theorem xi_141_84 : xm_ins 141 84 = some (.iconst 5, 85, 0, 0, 5) := rfl
theorem xi_141_85 : xm_ins 141 85 = some (.iload_n 1, 86, 1, 0, 0) := rfl
theorem xi_141_86 : xm_ins 141 86 = some (.imul, 87, 0, 0, 0) := rfl
theorem xi_141_87 : xm_ins 141 87 = some (.iload_n 2, 88, 2, 0, 0) := rfl
theorem xi_141_88 : xm_ins 141 88 = some (.iadd, 89, 0, 0, 0) := rfl
theorem xi_141_89 : xm_ins 141 89 = some (.iconst 3, 90, 0, 0, 3) := rfl
theorem xi_141_90 : xm_ins 141 90 = some (.isub, 91, 0, 0, 0) := rfl
theorem xi_141_91 : xm_ins 141 91 = some (.invokevirtual 54, 94, 98, 2, 3) := rfl
theorem xi_141_94 : xm_ins 141 94 = some (.ireturn, 95, 0, 0, 0) := rfl
theorem xn_142 (pc : Nat) : xm_ins 142 pc = xm_find xt_142 pc := rfl
theorem xi_142_0 : xm_ins 142 0 = some (.iload_n 1, 1, 1, 0, 0) := rfl
theorem xi_142_1 : xm_ins 142 1 = some (.invokestatic 75, 4, 88, 1, 3) := rfl
theorem xi_142_4 : xm_ins 142 4 = some (.ifCond .ne 8, 7, 12, 0, 0) := rfl
theorem xi_142_7 : xm_ins 142 7 = some (.ldc 78, 9, 0, 0, (-1000001)) := rfl
theorem xi_142_9 : xm_ins 142 9 = some (.goto 31, 12, 40, 0, 0) := rfl
theorem xi_142_12 : xm_ins 142 12 = some (.aload_n 0, 13, 0, 0, 0) := rfl
theorem xi_142_13 : xm_ins 142 13 = some (.getfield 7, 16, 3, 0, 1) := rfl
theorem xi_142_16 : xm_ins 142 16 = some (.bipush 12, 18, 0, 0, 12) := rfl
theorem xi_142_18 : xm_ins 142 18 = some (.iload_n 1, 19, 1, 0, 0) := rfl
theorem xi_142_19 : xm_ins 142 19 = some (.iadd, 20, 0, 0, 0) := rfl
theorem xi_142_20 : xm_ins 142 20 = some (.iaload, 21, 0, 0, 0) := rfl
theorem xi_142_21 : xm_ins 142 21 = some (.ifCond .ne 8, 24, 29, 0, 0) := rfl
theorem xi_142_24 : xm_ins 142 24 = some (.ldc 53, 26, 0, 0, (-1000004)) := rfl
theorem xi_142_26 : xm_ins 142 26 = some (.goto 14, 29, 40, 0, 0) := rfl
theorem xi_142_29 : xm_ins 142 29 = some (.aload_n 0, 30, 0, 0, 0) := rfl
theorem xi_142_30 : xm_ins 142 30 = some (.getfield 7, 33, 3, 0, 1) := rfl
theorem xi_142_33 : xm_ins 142 33 = some (.bipush 12, 35, 0, 0, 12) := rfl
theorem xi_142_35 : xm_ins 142 35 = some (.iload_n 1, 36, 1, 0, 0) := rfl
theorem xi_142_36 : xm_ins 142 36 = some (.iadd, 37, 0, 0, 0) := rfl
theorem xi_142_37 : xm_ins 142 37 = some (.iaload, 38, 0, 0, 0) := rfl
theorem xi_142_38 : xm_ins 142 38 = some (.iconst 1, 39, 0, 0, 1) := rfl
theorem xi_142_39 : xm_ins 142 39 = some (.isub, 40, 0, 0, 0) := rfl
theorem xi_142_40 : xm_ins 142 40 = some (.ireturn, 41, 0, 0, 0) := rfl
theorem xn_143 (pc : Nat) : xm_ins 143 pc = xm_find xt_143 pc := rfl
theorem xi_143_0 : xm_ins 143 0 = some (.aload_n 0, 1, 0, 0, 0) := rfl
theorem xi_143_1 : xm_ins 143 1 = some (.getfield 7, 4, 3, 0, 1) := rfl
theorem xi_143_4 : xm_ins 143 4 = some (.iload_n 1, 5, 1, 0, 0) := rfl
theorem xi_143_5 : xm_ins 143 5 = some (.iconst 2, 6, 0, 0, 2) := rfl
theorem xi_143_6 : xm_ins 143 6 = some (.iload_n 2, 7, 2, 0, 0) := rfl
theorem xi_143_7 : xm_ins 143 7 = some (.iadd, 8, 0, 0, 0) := rfl
theorem xi_143_8 : xm_ins 143 8 = some (.invokestatic 29, 11, 86, 2, 3) := rfl
theorem xi_143_11 : xm_ins 143 11 = some (.iaload, 12, 0, 0, 0) := rfl
theorem xi_143_12 : xm_ins 143 12 = some (.iconst 1, 13, 0, 0, 1) := rfl
theorem xi_143_13 : xm_ins 143 13 = some (.isub, 14, 0, 0, 0) := rfl
theorem xi_143_14 : xm_ins 143 14 = some (.istore_n 3, 15, 3, 0, 0) := rfl
theorem xi_143_15 : xm_ins 143 15 = some (.aload_n 0, 16, 0, 0, 0) := rfl
theorem xi_143_16 : xm_ins 143 16 = some (.iload_n 1, 17, 1, 0, 0) := rfl
theorem xi_143_17 : xm_ins 143 17 = some (.invokevirtual 46, 20, 87, 2, 3) := rfl
theorem xi_143_20 : xm_ins 143 20 = some (.ifCond .eq 24, 23, 44, 0, 0) := rfl
theorem xi_143_23 : xm_ins 143 23 = some (.iload_n 3, 24, 3, 0, 0) := rfl
theorem xi_143_24 : xm_ins 143 24 = some (.ifCond .lt 20, 27, 44, 0, 0) := rfl
theorem xi_143_27 : xm_ins 143 27 = some (.aload_n 0, 28, 0, 0, 0) := rfl
theorem xi_143_28 : xm_ins 143 28 = some (.iload_n 3, 29, 3, 0, 0) := rfl
theorem xi_143_29 : xm_ins 143 29 = some (.invokevirtual 50, 32, 96, 2, 3) := rfl
theorem xi_143_32 : xm_ins 143 32 = some (.aload_n 0, 33, 0, 0, 0) := rfl
theorem xi_143_33 : xm_ins 143 33 = some (.iload_n 1, 34, 1, 0, 0) := rfl
theorem xi_143_34 : xm_ins 143 34 = some (.invokevirtual 50, 37, 96, 2, 3) := rfl
theorem xi_143_37 : xm_ins 143 37 = some (.if_icmp .ge 7, 40, 44, 0, 0) := rfl
theorem xi_143_40 : xm_ins 143 40 = some (.iconst 1, 41, 0, 0, 1) := rfl
theorem xi_143_41 : xm_ins 143 41 = some (.goto 4, 44, 45, 0, 0) := rfl
theorem xi_143_44 : xm_ins 143 44 = some (.iconst 0, 45, 0, 0, 0) := rfl
theorem xi_143_45 : xm_ins 143 45 = some (.ireturn, 46, 0, 0, 0) := rfl
theorem xn_144 (pc : Nat) : xm_ins 144 pc = xm_find xt_144 pc := rfl
theorem xi_144_0 : xm_ins 144 0 = some (.iconst 0, 1, 0, 0, 0) := rfl
theorem xi_144_1 : xm_ins 144 1 = some (.istore_n 2, 2, 2, 0, 0) := rfl
theorem xi_144_2 : xm_ins 144 2 = some (.iconst 0, 3, 0, 0, 0) := rfl
theorem xi_144_3 : xm_ins 144 3 = some (.istore_n 3, 4, 3, 0, 0) := rfl
theorem xi_144_4 : xm_ins 144 4 = some (.iload_n 3, 5, 3, 0, 0) := rfl
theorem xi_144_5 : xm_ins 144 5 = some (.iconst 3, 6, 0, 0, 3) := rfl
theorem xi_144_6 : xm_ins 144 6 = some (.aload_n 0, 7, 0, 0, 0) := rfl
theorem xi_144_7 : xm_ins 144 7 = some (.getfield 7, 10, 3, 0, 1) := rfl
theorem xi_144_10 : xm_ins 144 10 = some (.iconst 0, 11, 0, 0, 0) := rfl
theorem xi_144_11 : xm_ins 144 11 = some (.iaload, 12, 0, 0, 0) := rfl
theorem xi_144_12 : xm_ins 144 12 = some (.imul, 13, 0, 0, 0) := rfl
theorem xi_144_13 : xm_ins 144 13 = some (.if_icmp .ge 41, 16, 54, 0, 0) := rfl
theorem xi_144_16 : xm_ins 144 16 = some (.aload_n 0, 17, 0, 0, 0) := rfl
theorem xi_144_17 : xm_ins 144 17 = some (.iload_n 3, 18, 3, 0, 0) := rfl
theorem xi_144_18 : xm_ins 144 18 = some (.iconst 3, 19, 0, 0, 3) := rfl
theorem xi_144_19 : xm_ins 144 19 = some (.idiv, 20, 0, 0, 0) := rfl
theorem xi_144_20 : xm_ins 144 20 = some (.iload_n 3, 21, 3, 0, 0) := rfl
theorem xi_144_21 : xm_ins 144 21 = some (.iconst 3, 22, 0, 0, 3) := rfl
theorem xi_144_22 : xm_ins 144 22 = some (.irem, 23, 0, 0, 0) := rfl
theorem xi_144_23 : xm_ins 144 23 = some (.invokevirtual 177, 26, 143, 3, 3) := rfl
theorem xi_144_26 : xm_ins 144 26 = some (.ifCond .eq 22, 29, 48, 0, 0) := rfl
theorem xi_144_29 : xm_ins 144 29 = some (.iload_n 2, 30, 2, 0, 0) := rfl
theorem xi_144_30 : xm_ins 144 30 = some (.iload_n 1, 31, 1, 0, 0) := rfl
theorem xi_144_31 : xm_ins 144 31 = some (.if_icmp .ne 14, 34, 45, 0, 0) := rfl
theorem xi_144_34 : xm_ins 144 34 = some (.bipush 10, 36, 0, 0, 10) := rfl
theorem xi_144_36 : xm_ins 144 36 = some (.iload_n 3, 37, 3, 0, 0) := rfl
theorem xi_144_37 : xm_ins 144 37 = some (.iconst 3, 38, 0, 0, 3) := rfl
theorem xi_144_38 : xm_ins 144 38 = some (.idiv, 39, 0, 0, 0) := rfl
theorem xi_144_39 : xm_ins 144 39 = some (.imul, 40, 0, 0, 0) := rfl
theorem xi_144_40 : xm_ins 144 40 = some (.iload_n 3, 41, 3, 0, 0) := rfl
theorem xi_144_41 : xm_ins 144 41 = some (.iconst 3, 42, 0, 0, 3) := rfl
theorem xi_144_42 : xm_ins 144 42 = some (.irem, 43, 0, 0, 0) := rfl
theorem xi_144_43 : xm_ins 144 43 = some (.iadd, 44, 0, 0, 0) := rfl
theorem xi_144_44 : xm_ins 144 44 = some (.ireturn, 45, 0, 0, 0) := rfl
theorem xi_144_45 : xm_ins 144 45 = some (.iinc 2 1, 48, 2, 0, 1) := rfl
theorem xi_144_48 : xm_ins 144 48 = some (.iinc 3 1, 51, 3, 0, 1) := rfl
theorem xi_144_51 : xm_ins 144 51 = some (.goto (-47), 54, 4, 0, 0) := rfl
theorem xi_144_54 : xm_ins 144 54 = some (.iload_n 1, 55, 1, 0, 0) := rfl
theorem xi_144_55 : xm_ins 144 55 = some (.ifCond .ge 7, 58, 62, 0, 0) := rfl
theorem xi_144_58 : xm_ins 144 58 = some (.iload_n 2, 59, 2, 0, 0) := rfl
theorem xi_144_59 : xm_ins 144 59 = some (.goto 5, 62, 64, 0, 0) := rfl
theorem xi_144_62 : xm_ins 144 62 = some (.ldc 53, 64, 0, 0, (-1000004)) := rfl
theorem xi_144_64 : xm_ins 144 64 = some (.ireturn, 65, 0, 0, 0) := rfl
theorem xn_145 (pc : Nat) : xm_ins 145 pc = xm_find xt_145 pc := rfl
theorem xi_145_0 : xm_ins 145 0 = some (.iload_n 1, 1, 1, 0, 0) := rfl
theorem xi_145_1 : xm_ins 145 1 = some (.ifCond .ge 8, 4, 9, 0, 0) := rfl
theorem xi_145_4 : xm_ins 145 4 = some (.ldc 78, 6, 0, 0, (-1000001)) := rfl
theorem xi_145_6 : xm_ins 145 6 = some (.goto 8, 9, 14, 0, 0) := rfl
theorem xi_145_9 : xm_ins 145 9 = some (.aload_n 0, 10, 0, 0, 0) := rfl
theorem xi_145_10 : xm_ins 145 10 = some (.iload_n 1, 11, 1, 0, 0) := rfl
theorem xi_145_11 : xm_ins 145 11 = some (.invokevirtual 180, 14, 144, 2, 3) := rfl
theorem xi_145_14 : xm_ins 145 14 = some (.ireturn, 15, 0, 0, 0) := rfl
theorem xn_146 (pc : Nat) : xm_ins 146 pc = xm_find xt_146 pc := rfl
theorem xi_146_0 : xm_ins 146 0 = some (.iload_n 1, 1, 1, 0, 0) := rfl
theorem xi_146_1 : xm_ins 146 1 = some (.ifCond .ne 10, 4, 11, 0, 0) := rfl
theorem xi_146_4 : xm_ins 146 4 = some (.aload_n 0, 5, 0, 0, 0) := rfl
theorem xi_146_5 : xm_ins 146 5 = some (.invokevirtual 162, 8, 127, 1, 3) := rfl
theorem xi_146_8 : xm_ins 146 8 = some (.goto 24, 11, 32, 0, 0) := rfl
theorem xi_146_11 : xm_ins 146 11 = some (.iload_n 1, 12, 1, 0, 0) := rfl
theorem xi_146_12 : xm_ins 146 12 = some (.iconst 1, 13, 0, 0, 1) := rfl
theorem xi_146_13 : xm_ins 146 13 = some (.if_icmp .ne 17, 16, 30, 0, 0) := rfl
theorem xi_146_16 : xm_ins 146 16 = some (.aload_n 0, 17, 0, 0, 0) := rfl
theorem xi_146_17 : xm_ins 146 17 = some (.invokevirtual 135, 20, 126, 1, 3) := rfl
theorem xi_146_20 : xm_ins 146 20 = some (.aload_n 0, 21, 0, 0, 0) := rfl
theorem xi_146_21 : xm_ins 146 21 = some (.invokevirtual 162, 24, 127, 1, 3) := rfl
theorem xi_146_24 : xm_ins 146 24 = some (.iconst (-1), 25, 0, 0, (-1)) := rfl
theorem xi_146_25 : xm_ins 146 25 = some (.ixor, 26, 0, 0, 0) := rfl
theorem xi_146_26 : xm_ins 146 26 = some (.iand, 27, 0, 0, 0) := rfl
theorem xi_146_27 : xm_ins 146 27 = some (.goto 5, 30, 32, 0, 0) := rfl
theorem xi_146_30 : xm_ins 146 30 = some (.ldc 78, 32, 0, 0, (-1000001)) := rfl
theorem xi_146_32 : xm_ins 146 32 = some (.ireturn, 33, 0, 0, 0) := rfl
theorem xn_147 (pc : Nat) : xm_ins 147 pc = xm_find xt_147 pc := rfl
theorem xi_147_0 : xm_ins 147 0 = some (.iload_n 1, 1, 1, 0, 0) := rfl
theorem xi_147_1 : xm_ins 147 1 = some (.invokestatic 153, 4, 132, 1, 3) := rfl
theorem xi_147_4 : xm_ins 147 4 = some (.ifCond .eq 12, 7, 16, 0, 0) := rfl
theorem xi_147_7 : xm_ins 147 7 = some (.iload_n 2, 8, 2, 0, 0) := rfl
theorem xi_147_8 : xm_ins 147 8 = some (.iconst 0, 9, 0, 0, 0) := rfl
theorem xi_147_9 : xm_ins 147 9 = some (.iconst 3, 10, 0, 0, 3) := rfl
theorem xi_147_10 : xm_ins 147 10 = some (.invokestatic 25, 13, 85, 3, 3) := rfl
theorem xi_147_13 : xm_ins 147 13 = some (.ifCond .ne 6, 16, 19, 0, 0) := rfl
theorem xi_147_16 : xm_ins 147 16 = some (.ldc 78, 18, 0, 0, (-1000001)) := rfl
theorem xi_147_18 : xm_ins 147 18 = some (.ireturn, 19, 0, 0, 0) := rfl
theorem xi_147_19 : xm_ins 147 19 = some (.aload_n 0, 20, 0, 0, 0) := rfl
theorem xi_147_20 : xm_ins 147 20 = some (.iload_n 1, 21, 1, 0, 0) := rfl
theorem xi_147_21 : xm_ins 147 21 = some (.invokevirtual 144, 24, 128, 2, 3) := rfl
theorem xi_147_24 : xm_ins 147 24 = some (.istore_n 3, 25, 3, 0, 0) := rfl
theorem xi_147_25 : xm_ins 147 25 = some (.iload_n 2, 26, 2, 0, 0) := rfl
theorem xi_147_26 : xm_ins 147 26 = some (.ifCond .ne 7, 29, 33, 0, 0) := rfl
theorem xi_147_29 : xm_ins 147 29 = some (.iload_n 3, 30, 3, 0, 0) := rfl
theorem xi_147_30 : xm_ins 147 30 = some (.goto 52, 33, 82, 0, 0) := rfl
theorem xi_147_33 : xm_ins 147 33 = some (.iload_n 2, 34, 2, 0, 0) := rfl
theorem xi_147_34 : xm_ins 147 34 = some (.iconst 1, 35, 0, 0, 1) := rfl
theorem xi_147_35 : xm_ins 147 35 = some (.if_icmp .ne 15, 38, 50, 0, 0) := rfl
theorem xi_147_38 : xm_ins 147 38 = some (.aload_n 0, 39, 0, 0, 0) := rfl
theorem xi_147_39 : xm_ins 147 39 = some (.iload_n 1, 40, 1, 0, 0) := rfl
theorem xi_147_40 : xm_ins 147 40 = some (.invokevirtual 129, 43, 97, 2, 3) := rfl
theorem xi_147_43 : xm_ins 147 43 = some (.iload_n 3, 44, 3, 0, 0) := rfl
theorem xi_147_44 : xm_ins 147 44 = some (.iconst (-1), 45, 0, 0, (-1)) := rfl
theorem xi_147_45 : xm_ins 147 45 = some (.ixor, 46, 0, 0, 0) := rfl
theorem xi_147_46 : xm_ins 147 46 = some (.iand, 47, 0, 0, 0) := rfl
theorem xi_147_47 : xm_ins 147 47 = some (.goto 35, 50, 82, 0, 0) := rfl
theorem xi_147_50 : xm_ins 147 50 = some (.iload_n 2, 51, 2, 0, 0) := rfl
theorem xi_147_51 : xm_ins 147 51 = some (.iconst 2, 52, 0, 0, 2) := rfl
theorem xi_147_52 : xm_ins 147 52 = some (.if_icmp .ne 17, 55, 69, 0, 0) := rfl
theorem xi_147_55 : xm_ins 147 55 = some (.iload_n 3, 56, 3, 0, 0) := rfl
theorem xi_147_56 : xm_ins 147 56 = some (.aload_n 0, 57, 0, 0, 0) := rfl
theorem xi_147_57 : xm_ins 147 57 = some (.invokevirtual 107, 60, 117, 1, 3) := rfl
theorem xi_147_60 : xm_ins 147 60 = some (.iconst (-1), 61, 0, 0, (-1)) := rfl
theorem xi_147_61 : xm_ins 147 61 = some (.ixor, 62, 0, 0, 0) := rfl
theorem xi_147_62 : xm_ins 147 62 = some (.iand, 63, 0, 0, 0) := rfl
theorem xi_147_63 : xm_ins 147 63 = some (.invokestatic 110, 66, 91, 1, 3) := rfl
theorem xi_147_66 : xm_ins 147 66 = some (.goto 16, 69, 82, 0, 0) := rfl
theorem xi_147_69 : xm_ins 147 69 = some (.aload_n 0, 70, 0, 0, 0) := rfl
theorem xi_147_70 : xm_ins 147 70 = some (.iload_n 1, 71, 1, 0, 0) := rfl
theorem xi_147_71 : xm_ins 147 71 = some (.invokevirtual 156, 74, 131, 2, 3) := rfl
theorem xi_147_74 : xm_ins 147 74 = some (.ifCond .eq 7, 77, 81, 0, 0) := rfl
theorem xi_147_77 : xm_ins 147 77 = some (.iconst 1, 78, 0, 0, 1) := rfl
theorem xi_147_78 : xm_ins 147 78 = some (.goto 4, 81, 82, 0, 0) := rfl
theorem xi_147_81 : xm_ins 147 81 = some (.iconst 0, 82, 0, 0, 0) := rfl
theorem xi_147_82 : xm_ins 147 82 = some (.ireturn, 83, 0, 0, 0) := rfl
theorem xn_148 (pc : Nat) : xm_ins 148 pc = xm_find xt_148 pc := rfl
theorem xi_148_0 : xm_ins 148 0 = some (.aload_n 0, 1, 0, 0, 0) := rfl
theorem xi_148_1 : xm_ins 148 1 = some (.iload_n 1, 2, 1, 0, 0) := rfl
theorem xi_148_2 : xm_ins 148 2 = some (.invokevirtual 46, 5, 87, 2, 3) := rfl
theorem xi_148_5 : xm_ins 148 5 = some (.ifCond .ne 6, 8, 11, 0, 0) := rfl
theorem xi_148_8 : xm_ins 148 8 = some (.ldc 78, 10, 0, 0, (-1000001)) := rfl
theorem xi_148_10 : xm_ins 148 10 = some (.ireturn, 11, 0, 0, 0) := rfl
theorem xi_148_11 : xm_ins 148 11 = some (.aload_n 0, 12, 0, 0, 0) := rfl
theorem xi_148_12 : xm_ins 148 12 = some (.invokevirtual 135, 15, 126, 1, 3) := rfl
theorem xi_148_15 : xm_ins 148 15 = some (.iconst 1, 16, 0, 0, 1) := rfl
theorem xi_148_16 : xm_ins 148 16 = some (.iload_n 1, 17, 1, 0, 0) := rfl
theorem xi_148_17 : xm_ins 148 17 = some (.ishl, 18, 0, 0, 0) := rfl
theorem xi_148_18 : xm_ins 148 18 = some (.iconst (-1), 19, 0, 0, (-1)) := rfl
theorem xi_148_19 : xm_ins 148 19 = some (.ixor, 20, 0, 0, 0) := rfl
theorem xi_148_20 : xm_ins 148 20 = some (.iand, 21, 0, 0, 0) := rfl
theorem xi_148_21 : xm_ins 148 21 = some (.istore_n 2, 22, 2, 0, 0) := rfl
theorem xi_148_22 : xm_ins 148 22 = some (.aload_n 0, 23, 0, 0, 0) := rfl
theorem xi_148_23 : xm_ins 148 23 = some (.invokevirtual 162, 26, 127, 1, 3) := rfl
theorem xi_148_26 : xm_ins 148 26 = some (.iload_n 2, 27, 2, 0, 0) := rfl
theorem xi_148_27 : xm_ins 148 27 = some (.iand, 28, 0, 0, 0) := rfl
theorem xi_148_28 : xm_ins 148 28 = some (.aload_n 0, 29, 0, 0, 0) := rfl
theorem xi_148_29 : xm_ins 148 29 = some (.aload_n 0, 30, 0, 0, 0) := rfl
theorem xi_148_30 : xm_ins 148 30 = some (.invokevirtual 132, 33, 125, 1, 3) := rfl
theorem xi_148_33 : xm_ins 148 33 = some (.iload_n 2, 34, 2, 0, 0) := rfl
theorem xi_148_34 : xm_ins 148 34 = some (.invokevirtual 138, 37, 124, 3, 3) := rfl
theorem xi_148_37 : xm_ins 148 37 = some (.iconst (-1), 38, 0, 0, (-1)) := rfl
theorem xi_148_38 : xm_ins 148 38 = some (.ixor, 39, 0, 0, 0) := rfl
theorem xi_148_39 : xm_ins 148 39 = some (.iand, 40, 0, 0, 0) := rfl
theorem xi_148_40 : xm_ins 148 40 = some (.ireturn, 41, 0, 0, 0) := rfl
theorem xn_149 (pc : Nat) : xm_ins 149 pc = xm_find xt_149 pc := rfl
theorem xi_149_0 : xm_ins 149 0 = some (.aload_n 0, 1, 0, 0, 0) := rfl
theorem xi_149_1 : xm_ins 149 1 = some (.iload_n 1, 2, 1, 0, 0) := rfl
theorem xi_149_2 : xm_ins 149 2 = some (.invokevirtual 46, 5, 87, 2, 3) := rfl
theorem xi_149_5 : xm_ins 149 5 = some (.ifCond .ne 6, 8, 11, 0, 0) := rfl
theorem xi_149_8 : xm_ins 149 8 = some (.ldc 78, 10, 0, 0, (-1000001)) := rfl
theorem xi_149_10 : xm_ins 149 10 = some (.ireturn, 11, 0, 0, 0) := rfl
theorem xi_149_11 : xm_ins 149 11 = some (.aload_n 0, 12, 0, 0, 0) := rfl
theorem xi_149_12 : xm_ins 149 12 = some (.invokevirtual 132, 15, 125, 1, 3) := rfl
theorem xi_149_15 : xm_ins 149 15 = some (.istore_n 2, 16, 2, 0, 0) := rfl
theorem xi_149_16 : xm_ins 149 16 = some (.iconst 0, 17, 0, 0, 0) := rfl
theorem xi_149_17 : xm_ins 149 17 = some (.istore_n 3, 18, 3, 0, 0) := rfl
theorem xi_149_18 : xm_ins 149 18 = some (.iload_n 2, 19, 2, 0, 0) := rfl
theorem xi_149_19 : xm_ins 149 19 = some (.iload_n 1, 20, 1, 0, 0) := rfl
theorem xi_149_20 : xm_ins 149 20 = some (.invokestatic 119, 23, 90, 2, 3) := rfl
theorem xi_149_23 : xm_ins 149 23 = some (.ifCond .ne 29, 26, 52, 0, 0) := rfl
theorem xi_149_26 : xm_ins 149 26 = some (.aload_n 0, 27, 0, 0, 0) := rfl
theorem xi_149_27 : xm_ins 149 27 = some (.iload_n 2, 28, 2, 0, 0) := rfl
theorem xi_149_28 : xm_ins 149 28 = some (.invokevirtual 123, 31, 123, 2, 3) := rfl
theorem xi_149_31 : xm_ins 149 31 = some (.iload_n 2, 32, 2, 0, 0) := rfl
theorem xi_149_32 : xm_ins 149 32 = some (.iconst (-1), 33, 0, 0, (-1)) := rfl
theorem xi_149_33 : xm_ins 149 33 = some (.ixor, 34, 0, 0, 0) := rfl
theorem xi_149_34 : xm_ins 149 34 = some (.iand, 35, 0, 0, 0) := rfl
theorem xi_149_35 : xm_ins 149 35 = some (.ifCond .eq 17, 38, 52, 0, 0) := rfl
theorem xi_149_38 : xm_ins 149 38 = some (.iload_n 2, 39, 2, 0, 0) := rfl
theorem xi_149_39 : xm_ins 149 39 = some (.aload_n 0, 40, 0, 0, 0) := rfl
theorem xi_149_40 : xm_ins 149 40 = some (.iload_n 2, 41, 2, 0, 0) := rfl
theorem xi_149_41 : xm_ins 149 41 = some (.invokevirtual 123, 44, 123, 2, 3) := rfl
theorem xi_149_44 : xm_ins 149 44 = some (.ior, 45, 0, 0, 0) := rfl
theorem xi_149_45 : xm_ins 149 45 = some (.istore_n 2, 46, 2, 0, 0) := rfl
theorem xi_149_46 : xm_ins 149 46 = some (.iinc 3 1, 49, 3, 0, 1) := rfl
theorem xi_149_49 : xm_ins 149 49 = some (.goto (-31), 52, 18, 0, 0) := rfl
theorem xi_149_52 : xm_ins 149 52 = some (.iload_n 2, 53, 2, 0, 0) := rfl
theorem xi_149_53 : xm_ins 149 53 = some (.iload_n 1, 54, 1, 0, 0) := rfl
theorem xi_149_54 : xm_ins 149 54 = some (.invokestatic 119, 57, 90, 2, 3) := rfl
theorem xi_149_57 : xm_ins 149 57 = some (.ifCond .eq 7, 60, 64, 0, 0) := rfl
theorem xi_149_60 : xm_ins 149 60 = some (.iload_n 3, 61, 3, 0, 0) := rfl
theorem xi_149_61 : xm_ins 149 61 = some (.goto 5, 64, 66, 0, 0) := rfl
theorem xi_149_64 : xm_ins 149 64 = some (.ldc 53, 66, 0, 0, (-1000004)) := rfl
theorem xi_149_66 : xm_ins 149 66 = some (.ireturn, 67, 0, 0, 0) := rfl
theorem xn_150 (pc : Nat) : xm_ins 150 pc = xm_find xt_150 pc := rfl
theorem xi_150_0 : xm_ins 150 0 = some (.iconst 0, 1, 0, 0, 0) := rfl
theorem xi_150_1 : xm_ins 150 1 = some (.istore_n 1, 2, 1, 0, 0) := rfl
theorem xi_150_2 : xm_ins 150 2 = some (.iconst 0, 3, 0, 0, 0) := rfl
theorem xi_150_3 : xm_ins 150 3 = some (.istore_n 2, 4, 2, 0, 0) := rfl
theorem xi_150_4 : xm_ins 150 4 = some (.iload_n 2, 5, 2, 0, 0) := rfl
theorem xi_150_5 : xm_ins 150 5 = some (.bipush 8, 7, 0, 0, 8) := rfl
theorem xi_150_7 : xm_ins 150 7 = some (.if_icmp .ge 28, 10, 35, 0, 0) := rfl
theorem xi_150_10 : xm_ins 150 10 = some (.iload_n 1, 11, 1, 0, 0) := rfl
theorem xi_150_11 : xm_ins 150 11 = some (.aload_n 0, 12, 0, 0, 0) := rfl
theorem xi_150_12 : xm_ins 150 12 = some (.getfield 7, 15, 3, 0, 1) := rfl
theorem xi_150_15 : xm_ins 150 15 = some (.iconst 4, 16, 0, 0, 4) := rfl
theorem xi_150_16 : xm_ins 150 16 = some (.iload_n 2, 17, 2, 0, 0) := rfl
theorem xi_150_17 : xm_ins 150 17 = some (.iadd, 18, 0, 0, 0) := rfl
theorem xi_150_18 : xm_ins 150 18 = some (.iaload, 19, 0, 0, 0) := rfl
theorem xi_150_19 : xm_ins 150 19 = some (.ifCond .ne 7, 22, 26, 0, 0) := rfl
theorem xi_150_22 : xm_ins 150 22 = some (.iconst 1, 23, 0, 0, 1) := rfl
theorem xi_150_23 : xm_ins 150 23 = some (.goto 4, 26, 27, 0, 0) := rfl
theorem xi_150_26 : xm_ins 150 26 = some (.iconst 0, 27, 0, 0, 0) := rfl
theorem xi_150_27 : xm_ins 150 27 = some (.iadd, 28, 0, 0, 0) := rfl
theorem xi_150_28 : xm_ins 150 28 = some (.istore_n 1, 29, 1, 0, 0) := rfl
theorem xi_150_29 : xm_ins 150 29 = some (.iinc 2 1, 32, 2, 0, 1) := rfl
theorem xi_150_32 : xm_ins 150 32 = some (.goto (-28), 35, 4, 0, 0) := rfl
theorem xi_150_35 : xm_ins 150 35 = some (.iload_n 1, 36, 1, 0, 0) := rfl
theorem xi_150_36 : xm_ins 150 36 = some (.ireturn, 37, 0, 0, 0) := rfl
theorem xn_151 (pc : Nat) : xm_ins 151 pc = xm_find xt_151 pc := rfl
theorem xi_151_0 : xm_ins 151 0 = some (.iload_n 1, 1, 1, 0, 0) := rfl
theorem xi_151_1 : xm_ins 151 1 = some (.tableswitch 180 0 13 #[71, 78, 86, 94, 103, 103, 125, 130, 136, 136, 148, 163, 170, 175], 72, 0, 0, 0) := rfl
theorem xi_151_72 : xm_ins 151 72 = some (.aload_n 0, 73, 0, 0, 0) := rfl
theorem xi_151_73 : xm_ins 151 73 = some (.getfield 7, 76, 3, 0, 1) := rfl
theorem xi_151_76 : xm_ins 151 76 = some (.iconst 0, 77, 0, 0, 0) := rfl
theorem xi_151_77 : xm_ins 151 77 = some (.iaload, 78, 0, 0, 0) := rfl
theorem xi_151_78 : xm_ins 151 78 = some (.ireturn, 79, 0, 0, 0) := rfl
theorem xi_151_79 : xm_ins 151 79 = some (.aload_n 0, 80, 0, 0, 0) := rfl
theorem xi_151_80 : xm_ins 151 80 = some (.invokevirtual 135, 83, 126, 1, 3) := rfl
theorem xi_151_83 : xm_ins 151 83 = some (.invokestatic 110, 86, 91, 1, 3) := rfl
theorem xi_151_86 : xm_ins 151 86 = some (.ireturn, 87, 0, 0, 0) := rfl
theorem xi_151_87 : xm_ins 151 87 = some (.aload_n 0, 88, 0, 0, 0) := rfl
theorem xi_151_88 : xm_ins 151 88 = some (.invokevirtual 107, 91, 117, 1, 3) := rfl
theorem xi_151_91 : xm_ins 151 91 = some (.invokestatic 110, 94, 91, 1, 3) := rfl
theorem xi_151_94 : xm_ins 151 94 = some (.ireturn, 95, 0, 0, 0) := rfl
theorem xi_151_95 : xm_ins 151 95 = some (.aload_n 0, 96, 0, 0, 0) := rfl
theorem xi_151_96 : xm_ins 151 96 = some (.iconst 0, 97, 0, 0, 0) := rfl
theorem xi_151_97 : xm_ins 151 97 = some (.invokevirtual 129, 100, 97, 2, 3) := rfl
theorem xi_151_100 : xm_ins 151 100 = some (.invokestatic 110, 103, 91, 1, 3) := rfl
theorem xi_151_103 : xm_ins 151 103 = some (.ireturn, 104, 0, 0, 0) := rfl
theorem xi_151_104 : xm_ins 151 104 = some (.aload_n 0, 105, 0, 0, 0) := rfl
theorem xi_151_105 : xm_ins 151 105 = some (.iload_n 1, 106, 1, 0, 0) := rfl
theorem xi_151_106 : xm_ins 151 106 = some (.iconst 3, 107, 0, 0, 3) := rfl
theorem xi_151_107 : xm_ins 151 107 = some (.isub, 108, 0, 0, 0) := rfl
theorem xi_151_108 : xm_ins 151 108 = some (.invokevirtual 129, 111, 97, 2, 3) := rfl
theorem xi_151_111 : xm_ins 151 111 = some (.invokestatic 110, 114, 91, 1, 3) := rfl
theorem xi_151_114 : xm_ins 151 114 = some (.aload_n 0, 115, 0, 0, 0) := rfl
theorem xi_151_115 : xm_ins 151 115 = some (.iload_n 1, 116, 1, 0, 0) := rfl
theorem xi_151_116 : xm_ins 151 116 = some (.iconst 4, 117, 0, 0, 4) := rfl
theorem xi_151_117 : xm_ins 151 117 = some (.isub, 118, 0, 0, 0) := rfl
theorem xi_151_118 : xm_ins 151 118 = some (.invokevirtual 129, 121, 97, 2, 3) := rfl
theorem xi_151_121 : xm_ins 151 121 = some (.invokestatic 110, 124, 91, 1, 3) := rfl
theorem xi_151_124 : xm_ins 151 124 = some (.isub, 125, 0, 0, 0) := rfl
theorem xi_151_125 : xm_ins 151 125 = some (.ireturn, 126, 0, 0, 0) := rfl
theorem xi_151_126 : xm_ins 151 126 = some (.aload_n 0, 127, 0, 0, 0) := rfl
theorem xi_151_127 : xm_ins 151 127 = some (.invokevirtual 183, 130, 150, 1, 3) := rfl
theorem xi_151_130 : xm_ins 151 130 = some (.ireturn, 131, 0, 0, 0) := rfl
theorem xi_151_131 : xm_ins 151 131 = some (.aload_n 0, 132, 0, 0, 0) := rfl
theorem xi_151_132 : xm_ins 151 132 = some (.iconst (-1), 133, 0, 0, (-1)) := rfl
theorem xi_151_133 : xm_ins 151 133 = some (.invokevirtual 180, 136, 144, 2, 3) := rfl
theorem xi_151_136 : xm_ins 151 136 = some (.ireturn, 137, 0, 0, 0) := rfl
theorem xi_151_137 : xm_ins 151 137 = some (.aload_n 0, 138, 0, 0, 0) := rfl
theorem xi_151_138 : xm_ins 151 138 = some (.getfield 7, 141, 3, 0, 1) := rfl
theorem xi_151_141 : xm_ins 151 141 = some (.iconst 1, 142, 0, 0, 1) := rfl
theorem xi_151_142 : xm_ins 151 142 = some (.iload_n 1, 143, 1, 0, 0) := rfl
theorem xi_151_143 : xm_ins 151 143 = some (.iadd, 144, 0, 0, 0) := rfl
theorem xi_151_144 : xm_ins 151 144 = some (.bipush 8, 146, 0, 0, 8) := rfl
theorem xi_151_146 : xm_ins 151 146 = some (.isub, 147, 0, 0, 0) := rfl
theorem xi_151_147 : xm_ins 151 147 = some (.iaload, 148, 0, 0, 0) := rfl
theorem xi_151_148 : xm_ins 151 148 = some (.ireturn, 149, 0, 0, 0) := rfl
theorem xi_151_149 : xm_ins 151 149 = some (.aload_n 0, 150, 0, 0, 0) := rfl
theorem xi_151_150 : xm_ins 151 150 = some (.getfield 7, 153, 3, 0, 1) := rfl
theorem xi_151_153 : xm_ins 151 153 = some (.iconst 0, 154, 0, 0, 0) := rfl
theorem xi_151_154 : xm_ins 151 154 = some (.iaload, 155, 0, 0, 0) := rfl
theorem xi_151_155 : xm_ins 151 155 = some (.aload_n 0, 156, 0, 0, 0) := rfl
theorem xi_151_156 : xm_ins 151 156 = some (.invokevirtual 135, 159, 126, 1, 3) := rfl
theorem xi_151_159 : xm_ins 151 159 = some (.invokestatic 110, 162, 91, 1, 3) := rfl
theorem xi_151_162 : xm_ins 151 162 = some (.isub, 163, 0, 0, 0) := rfl
theorem xi_151_163 : xm_ins 151 163 = some (.ireturn, 164, 0, 0, 0) := rfl
theorem xi_151_164 : xm_ins 151 164 = some (.aload_n 0, 165, 0, 0, 0) := rfl
theorem xi_151_165 : xm_ins 151 165 = some (.getfield 7, 168, 3, 0, 1) := rfl
theorem xi_151_168 : xm_ins 151 168 = some (.iconst 3, 169, 0, 0, 3) := rfl
theorem xi_151_169 : xm_ins 151 169 = some (.iaload, 170, 0, 0, 0) := rfl
theorem xi_151_170 : xm_ins 151 170 = some (.ireturn, 171, 0, 0, 0) := rfl
theorem xi_151_171 : xm_ins 151 171 = some (.aload_n 0, 172, 0, 0, 0) := rfl
theorem xi_151_172 : xm_ins 151 172 = some (.getfield 33, 175, 3, 1, 0) := rfl
theorem xi_151_175 : xm_ins 151 175 = some (.ireturn, 176, 0, 0, 0) := rfl
theorem xi_151_176 : xm_ins 151 176 = some (.aload_n 0, 177, 0, 0, 0) := rfl
theorem xi_151_177 : xm_ins 151 177 = some (.getfield 186, 180, 3, 3, 0) := rfl
theorem xi_151_180 : xm_ins 151 180 = some (.ireturn, 181, 0, 0, 0) := rfl
theorem xi_151_181 : xm_ins 151 181 = some (.ldc 78, 183, 0, 0, (-1000001)) := rfl
theorem xi_151_183 : xm_ins 151 183 = some (.ireturn, 184, 0, 0, 0) := rfl
theorem xn_152 (pc : Nat) : xm_ins 152 pc = xm_find xt_152 pc := rfl
theorem xi_152_0 : xm_ins 152 0 = some (.iload_n 1, 1, 1, 0, 0) := rfl
theorem xi_152_1 : xm_ins 152 1 = some (.bipush 32, 3, 0, 0, 32) := rfl
theorem xi_152_3 : xm_ins 152 3 = some (.bipush 126, 5, 0, 0, 126) := rfl
theorem xi_152_5 : xm_ins 152 5 = some (.invokestatic 25, 8, 85, 3, 3) := rfl
theorem xi_152_8 : xm_ins 152 8 = some (.ifCond .ne 6, 11, 14, 0, 0) := rfl
theorem xi_152_11 : xm_ins 152 11 = some (.ldc 78, 13, 0, 0, (-1000001)) := rfl
theorem xi_152_13 : xm_ins 152 13 = some (.ireturn, 14, 0, 0, 0) := rfl
theorem xi_152_14 : xm_ins 152 14 = some (.aload_n 0, 15, 0, 0, 0) := rfl
theorem xi_152_15 : xm_ins 152 15 = some (.getfield 186, 18, 3, 3, 0) := rfl
theorem xi_152_18 : xm_ins 152 18 = some (.bipush 60, 20, 0, 0, 60) := rfl
theorem xi_152_20 : xm_ins 152 20 = some (.if_icmp .ne 6, 23, 26, 0, 0) := rfl
theorem xi_152_23 : xm_ins 152 23 = some (.ldc 63, 25, 0, 0, (-1000003)) := rfl
theorem xi_152_25 : xm_ins 152 25 = some (.ireturn, 26, 0, 0, 0) := rfl
theorem xi_152_26 : xm_ins 152 26 = some (.aload_n 0, 27, 0, 0, 0) := rfl
theorem xi_152_27 : xm_ins 152 27 = some (.getfield 13, 30, 3, 2, 1) := rfl
theorem xi_152_30 : xm_ins 152 30 = some (.aload_n 0, 31, 0, 0, 0) := rfl
theorem xi_152_31 : xm_ins 152 31 = some (.getfield 186, 34, 3, 3, 0) := rfl
theorem xi_152_34 : xm_ins 152 34 = some (.iload_n 1, 35, 1, 0, 0) := rfl
theorem xi_152_35 : xm_ins 152 35 = some (.iastore, 36, 0, 0, 0) := rfl
theorem xi_152_36 : xm_ins 152 36 = some (.aload_n 0, 37, 0, 0, 0) := rfl
theorem xi_152_37 : xm_ins 152 37 = some (.dup, 38, 0, 0, 0) := rfl
theorem xi_152_38 : xm_ins 152 38 = some (.getfield 186, 41, 3, 3, 0) := rfl
theorem xi_152_41 : xm_ins 152 41 = some (.iconst 1, 42, 0, 0, 1) := rfl
theorem xi_152_42 : xm_ins 152 42 = some (.iadd, 43, 0, 0, 0) := rfl
theorem xi_152_43 : xm_ins 152 43 = some (.putfield 186, 46, 3, 3, 0) := rfl
theorem xi_152_46 : xm_ins 152 46 = some (.aload_n 0, 47, 0, 0, 0) := rfl
theorem xi_152_47 : xm_ins 152 47 = some (.getfield 186, 50, 3, 3, 0) := rfl
theorem xi_152_50 : xm_ins 152 50 = some (.ireturn, 51, 0, 0, 0) := rfl
theorem xn_153 (pc : Nat) : xm_ins 153 pc = xm_find xt_153 pc := rfl
theorem xi_153_0 : xm_ins 153 0 = some (.aload_n 0, 1, 0, 0, 0) := rfl
theorem xi_153_1 : xm_ins 153 1 = some (.getfield 186, 4, 3, 3, 0) := rfl
theorem xi_153_4 : xm_ins 153 4 = some (.istore_n 1, 5, 1, 0, 0) := rfl
theorem xi_153_5 : xm_ins 153 5 = some (.aload_n 0, 6, 0, 0, 0) := rfl
theorem xi_153_6 : xm_ins 153 6 = some (.iconst 0, 7, 0, 0, 0) := rfl
theorem xi_153_7 : xm_ins 153 7 = some (.putfield 186, 10, 3, 3, 0) := rfl
theorem xi_153_10 : xm_ins 153 10 = some (.iload_n 1, 11, 1, 0, 0) := rfl
theorem xi_153_11 : xm_ins 153 11 = some (.ireturn, 12, 0, 0, 0) := rfl
theorem xn_154 (pc : Nat) : xm_ins 154 pc = xm_find xt_154 pc := rfl
theorem xi_154_0 : xm_ins 154 0 = some (.aload_n 0, 1, 0, 0, 0) := rfl
theorem xi_154_1 : xm_ins 154 1 = some (.getfield 189, 4, 3, 5, 0) := rfl
theorem xi_154_4 : xm_ins 154 4 = some (.aload_n 0, 5, 0, 0, 0) := rfl
theorem xi_154_5 : xm_ins 154 5 = some (.getfield 186, 8, 3, 3, 0) := rfl
theorem xi_154_8 : xm_ins 154 8 = some (.if_icmp .ge 15, 11, 23, 0, 0) := rfl
theorem xi_154_11 : xm_ins 154 11 = some (.aload_n 0, 12, 0, 0, 0) := rfl
theorem xi_154_12 : xm_ins 154 12 = some (.getfield 13, 15, 3, 2, 1) := rfl
theorem xi_154_15 : xm_ins 154 15 = some (.aload_n 0, 16, 0, 0, 0) := rfl
theorem xi_154_16 : xm_ins 154 16 = some (.getfield 189, 19, 3, 5, 0) := rfl
theorem xi_154_19 : xm_ins 154 19 = some (.iaload, 20, 0, 0, 0) := rfl
theorem xi_154_20 : xm_ins 154 20 = some (.goto 4, 23, 24, 0, 0) := rfl
theorem xi_154_23 : xm_ins 154 23 = some (.iconst 0, 24, 0, 0, 0) := rfl
theorem xi_154_24 : xm_ins 154 24 = some (.ireturn, 25, 0, 0, 0) := rfl
theorem xn_155 (pc : Nat) : xm_ins 155 pc = xm_find xt_155 pc := rfl
theorem xi_155_0 : xm_ins 155 0 = some (.aload_n 0, 1, 0, 0, 0) := rfl
theorem xi_155_1 : xm_ins 155 1 = some (.invokevirtual 192, 4, 154, 1, 3) := rfl
theorem xi_155_4 : xm_ins 155 4 = some (.iload_n 1, 5, 1, 0, 0) := rfl
theorem xi_155_5 : xm_ins 155 5 = some (.if_icmp .ne 7, 8, 12, 0, 0) := rfl
theorem xi_155_8 : xm_ins 155 8 = some (.iconst 1, 9, 0, 0, 1) := rfl
theorem xi_155_9 : xm_ins 155 9 = some (.goto 4, 12, 13, 0, 0) := rfl
theorem xi_155_12 : xm_ins 155 12 = some (.iconst 0, 13, 0, 0, 0) := rfl
theorem xi_155_13 : xm_ins 155 13 = some (.istore_n 2, 14, 2, 0, 0) := rfl
theorem xi_155_14 : xm_ins 155 14 = some (.aload_n 0, 15, 0, 0, 0) := rfl
theorem xi_155_15 : xm_ins 155 15 = some (.dup, 16, 0, 0, 0) := rfl
theorem xi_155_16 : xm_ins 155 16 = some (.getfield 189, 19, 3, 5, 0) := rfl
theorem xi_155_19 : xm_ins 155 19 = some (.iload_n 2, 20, 2, 0, 0) := rfl
theorem xi_155_20 : xm_ins 155 20 = some (.ifCond .eq 7, 23, 27, 0, 0) := rfl
theorem xi_155_23 : xm_ins 155 23 = some (.iconst 1, 24, 0, 0, 1) := rfl
theorem xi_155_24 : xm_ins 155 24 = some (.goto 4, 27, 28, 0, 0) := rfl
theorem xi_155_27 : xm_ins 155 27 = some (.iconst 0, 28, 0, 0, 0) := rfl
theorem xi_155_28 : xm_ins 155 28 = some (.iadd, 29, 0, 0, 0) := rfl
theorem xi_155_29 : xm_ins 155 29 = some (.putfield 189, 32, 3, 5, 0) := rfl
theorem xi_155_32 : xm_ins 155 32 = some (.iload_n 2, 33, 2, 0, 0) := rfl
theorem xi_155_33 : xm_ins 155 33 = some (.ireturn, 34, 0, 0, 0) := rfl
theorem xn_156 (pc : Nat) : xm_ins 156 pc = xm_find xt_156 pc := rfl
theorem xi_156_0 : xm_ins 156 0 = some (.iconst 0, 1, 0, 0, 0) := rfl
theorem xi_156_1 : xm_ins 156 1 = some (.istore_n 2, 2, 2, 0, 0) := rfl
theorem xi_156_2 : xm_ins 156 2 = some (.aload_n 0, 3, 0, 0, 0) := rfl
theorem xi_156_3 : xm_ins 156 3 = some (.getfield 19, 6, 3, 7, 1) := rfl
theorem xi_156_6 : xm_ins 156 6 = some (.iload_n 1, 7, 1, 0, 0) := rfl
theorem xi_156_7 : xm_ins 156 7 = some (.iconst 0, 8, 0, 0, 0) := rfl
theorem xi_156_8 : xm_ins 156 8 = some (.iastore, 9, 0, 0, 0) := rfl
theorem xi_156_9 : xm_ins 156 9 = some (.aload_n 0, 10, 0, 0, 0) := rfl
theorem xi_156_10 : xm_ins 156 10 = some (.invokevirtual 192, 13, 154, 1, 3) := rfl
theorem xi_156_13 : xm_ins 156 13 = some (.bipush 48, 15, 0, 0, 48) := rfl
theorem xi_156_15 : xm_ins 156 15 = some (.bipush 57, 17, 0, 0, 57) := rfl
theorem xi_156_17 : xm_ins 156 17 = some (.invokestatic 25, 20, 85, 3, 3) := rfl
theorem xi_156_20 : xm_ins 156 20 = some (.ifCond .eq 47, 23, 67, 0, 0) := rfl
theorem xi_156_23 : xm_ins 156 23 = some (.iload_n 2, 24, 2, 0, 0) := rfl
theorem xi_156_24 : xm_ins 156 24 = some (.iconst 2, 25, 0, 0, 2) := rfl
theorem xi_156_25 : xm_ins 156 25 = some (.if_icmp .ge 42, 28, 67, 0, 0) := rfl
theorem xi_156_28 : xm_ins 156 28 = some (.aload_n 0, 29, 0, 0, 0) := rfl
theorem xi_156_29 : xm_ins 156 29 = some (.getfield 19, 32, 3, 7, 1) := rfl
theorem xi_156_32 : xm_ins 156 32 = some (.iload_n 1, 33, 1, 0, 0) := rfl
theorem xi_156_33 : xm_ins 156 33 = some (.bipush 10, 35, 0, 0, 10) := rfl
theorem xi_156_35 : xm_ins 156 35 = some (.aload_n 0, 36, 0, 0, 0) := rfl
theorem xi_156_36 : xm_ins 156 36 = some (.getfield 19, 39, 3, 7, 1) := rfl
theorem xi_156_39 : xm_ins 156 39 = some (.iload_n 1, 40, 1, 0, 0) := rfl
theorem xi_156_40 : xm_ins 156 40 = some (.iaload, 41, 0, 0, 0) := rfl
theorem xi_156_41 : xm_ins 156 41 = some (.imul, 42, 0, 0, 0) := rfl
theorem xi_156_42 : xm_ins 156 42 = some (.aload_n 0, 43, 0, 0, 0) := rfl
theorem xi_156_43 : xm_ins 156 43 = some (.invokevirtual 192, 46, 154, 1, 3) := rfl
theorem xi_156_46 : xm_ins 156 46 = some (.iadd, 47, 0, 0, 0) := rfl
theorem xi_156_47 : xm_ins 156 47 = some (.bipush 48, 49, 0, 0, 48) := rfl
theorem xi_156_49 : xm_ins 156 49 = some (.isub, 50, 0, 0, 0) := rfl
theorem xi_156_50 : xm_ins 156 50 = some (.iastore, 51, 0, 0, 0) := rfl
theorem xi_156_51 : xm_ins 156 51 = some (.aload_n 0, 52, 0, 0, 0) := rfl
theorem xi_156_52 : xm_ins 156 52 = some (.dup, 53, 0, 0, 0) := rfl
theorem xi_156_53 : xm_ins 156 53 = some (.getfield 189, 56, 3, 5, 0) := rfl
theorem xi_156_56 : xm_ins 156 56 = some (.iconst 1, 57, 0, 0, 1) := rfl
theorem xi_156_57 : xm_ins 156 57 = some (.iadd, 58, 0, 0, 0) := rfl
theorem xi_156_58 : xm_ins 156 58 = some (.putfield 189, 61, 3, 5, 0) := rfl
theorem xi_156_61 : xm_ins 156 61 = some (.iinc 2 1, 64, 2, 0, 1) := rfl
theorem xi_156_64 : xm_ins 156 64 = some (.goto (-55), 67, 9, 0, 0) := rfl
theorem xi_156_67 : xm_ins 156 67 = some (.iload_n 2, 68, 2, 0, 0) := rfl
theorem xi_156_68 : xm_ins 156 68 = some (.ifCond .le 7, 71, 75, 0, 0) := rfl
theorem xi_156_71 : xm_ins 156 71 = some (.iconst 1, 72, 0, 0, 1) := rfl
theorem xi_156_72 : xm_ins 156 72 = some (.goto 4, 75, 76, 0, 0) := rfl
theorem xi_156_75 : xm_ins 156 75 = some (.iconst 0, 76, 0, 0, 0) := rfl
theorem xi_156_76 : xm_ins 156 76 = some (.ireturn, 77, 0, 0, 0) := rfl
theorem xn_157 (pc : Nat) : xm_ins 157 pc = xm_find xt_157 pc := rfl
theorem xi_157_0 : xm_ins 157 0 = some (.iload_n 0, 1, 0, 0, 0) := rfl
theorem xi_157_1 : xm_ins 157 1 = some (.bipush 110, 3, 0, 0, 110) := rfl
theorem xi_157_3 : xm_ins 157 3 = some (.if_icmp .eq 9, 6, 12, 0, 0) := rfl
theorem xi_157_6 : xm_ins 157 6 = some (.iload_n 0, 7, 0, 0, 0) := rfl
theorem xi_157_7 : xm_ins 157 7 = some (.bipush 102, 9, 0, 0, 102) := rfl
theorem xi_157_9 : xm_ins 157 9 = some (.if_icmp .ne 7, 12, 16, 0, 0) := rfl
theorem xi_157_12 : xm_ins 157 12 = some (.iconst 0, 13, 0, 0, 0) := rfl
theorem xi_157_13 : xm_ins 157 13 = some (.goto 52, 16, 65, 0, 0) := rfl
theorem xi_157_16 : xm_ins 157 16 = some (.iload_n 0, 17, 0, 0, 0) := rfl
theorem xi_157_17 : xm_ins 157 17 = some (.bipush 108, 19, 0, 0, 108) := rfl
theorem xi_157_19 : xm_ins 157 19 = some (.if_icmp .eq 15, 22, 34, 0, 0) := rfl
theorem xi_157_22 : xm_ins 157 22 = some (.iload_n 0, 23, 0, 0, 0) := rfl
theorem xi_157_23 : xm_ins 157 23 = some (.bipush 112, 25, 0, 0, 112) := rfl
theorem xi_157_25 : xm_ins 157 25 = some (.if_icmp .eq 9, 28, 34, 0, 0) := rfl
theorem xi_157_28 : xm_ins 157 28 = some (.iload_n 0, 29, 0, 0, 0) := rfl
theorem xi_157_29 : xm_ins 157 29 = some (.bipush 119, 31, 0, 0, 119) := rfl
theorem xi_157_31 : xm_ins 157 31 = some (.if_icmp .ne 7, 34, 38, 0, 0) := rfl
theorem xi_157_34 : xm_ins 157 34 = some (.iconst 1, 35, 0, 0, 1) := rfl
theorem xi_157_35 : xm_ins 157 35 = some (.goto 30, 38, 65, 0, 0) := rfl
theorem xi_157_38 : xm_ins 157 38 = some (.iload_n 0, 39, 0, 0, 0) := rfl
theorem xi_157_39 : xm_ins 157 39 = some (.bipush 104, 41, 0, 0, 104) := rfl
theorem xi_157_41 : xm_ins 157 41 = some (.if_icmp .eq 9, 44, 50, 0, 0) := rfl
theorem xi_157_44 : xm_ins 157 44 = some (.iload_n 0, 45, 0, 0, 0) := rfl
theorem xi_157_45 : xm_ins 157 45 = some (.bipush 117, 47, 0, 0, 117) := rfl
theorem xi_157_47 : xm_ins 157 47 = some (.if_icmp .ne 7, 50, 54, 0, 0) := rfl
theorem xi_157_50 : xm_ins 157 50 = some (.iconst 2, 51, 0, 0, 2) := rfl
theorem xi_157_51 : xm_ins 157 51 = some (.goto 14, 54, 65, 0, 0) := rfl
theorem xi_157_54 : xm_ins 157 54 = some (.iload_n 0, 55, 0, 0, 0) := rfl
theorem xi_157_55 : xm_ins 157 55 = some (.bipush 115, 57, 0, 0, 115) := rfl
theorem xi_157_57 : xm_ins 157 57 = some (.if_icmp .ne 7, 60, 64, 0, 0) := rfl
theorem xi_157_60 : xm_ins 157 60 = some (.iconst 3, 61, 0, 0, 3) := rfl
theorem xi_157_61 : xm_ins 157 61 = some (.goto 4, 64, 65, 0, 0) := rfl
theorem xi_157_64 : xm_ins 157 64 = some (.iconst (-1), 65, 0, 0, (-1)) := rfl
theorem xi_157_65 : xm_ins 157 65 = some (.ireturn, 66, 0, 0, 0) := rfl
theorem xn_158 (pc : Nat) : xm_ins 158 pc = xm_find xt_158 pc := rfl
theorem xi_158_0 : xm_ins 158 0 = some (.aload_n 0, 1, 0, 0, 0) := rfl
theorem xi_158_1 : xm_ins 158 1 = some (.aload_n 0, 2, 0, 0, 0) := rfl
theorem xi_158_2 : xm_ins 158 2 = some (.invokevirtual 192, 5, 154, 1, 3) := rfl
theorem xi_158_5 : xm_ins 158 5 = some (.putfield 195, 8, 3, 6, 0) := rfl
theorem xi_158_8 : xm_ins 158 8 = some (.aload_n 0, 9, 0, 0, 0) := rfl
theorem xi_158_9 : xm_ins 158 9 = some (.getfield 195, 12, 3, 6, 0) := rfl
theorem xi_158_12 : xm_ins 158 12 = some (.invokestatic 198, 15, 157, 1, 3) := rfl
theorem xi_158_15 : xm_ins 158 15 = some (.istore_n 1, 16, 1, 0, 0) := rfl
theorem xi_158_16 : xm_ins 158 16 = some (.aload_n 0, 17, 0, 0, 0) := rfl
theorem xi_158_17 : xm_ins 158 17 = some (.dup, 18, 0, 0, 0) := rfl
theorem xi_158_18 : xm_ins 158 18 = some (.getfield 189, 21, 3, 5, 0) := rfl
theorem xi_158_21 : xm_ins 158 21 = some (.iload_n 1, 22, 1, 0, 0) := rfl
theorem xi_158_22 : xm_ins 158 22 = some (.ifCond .ge 7, 25, 29, 0, 0) := rfl
theorem xi_158_25 : xm_ins 158 25 = some (.iconst 0, 26, 0, 0, 0) := rfl
theorem xi_158_26 : xm_ins 158 26 = some (.goto 4, 29, 30, 0, 0) := rfl
theorem xi_158_29 : xm_ins 158 29 = some (.iconst 1, 30, 0, 0, 1) := rfl
theorem xi_158_30 : xm_ins 158 30 = some (.iadd, 31, 0, 0, 0) := rfl
theorem xi_158_31 : xm_ins 158 31 = some (.putfield 189, 34, 3, 5, 0) := rfl
theorem xi_158_34 : xm_ins 158 34 = some (.iload_n 1, 35, 1, 0, 0) := rfl
theorem xi_158_35 : xm_ins 158 35 = some (.ifCond .lt 7, 38, 42, 0, 0) := rfl
theorem xi_158_38 : xm_ins 158 38 = some (.iconst 1, 39, 0, 0, 1) := rfl
theorem xi_158_39 : xm_ins 158 39 = some (.goto 4, 42, 43, 0, 0) := rfl
theorem xi_158_42 : xm_ins 158 42 = some (.iconst 0, 43, 0, 0, 0) := rfl
theorem xi_158_43 : xm_ins 158 43 = some (.istore_n 2, 44, 2, 0, 0) := rfl
theorem xi_158_44 : xm_ins 158 44 = some (.iconst 0, 45, 0, 0, 0) := rfl
theorem xi_158_45 : xm_ins 158 45 = some (.istore_n 3, 46, 3, 0, 0) := rfl
theorem xi_158_46 : xm_ins 158 46 = some (.iload_n 3, 47, 3, 0, 0) := rfl
theorem xi_158_47 : xm_ins 158 47 = some (.iload_n 1, 48, 1, 0, 0) := rfl
theorem xi_158_48 : xm_ins 158 48 = some (.if_icmp .ge 40, 51, 88, 0, 0) := rfl
theorem xi_158_51 : xm_ins 158 51 = some (.iload_n 2, 52, 2, 0, 0) := rfl
theorem xi_158_52 : xm_ins 158 52 = some (.ifCond .eq 36, 55, 88, 0, 0) := rfl
theorem xi_158_55 : xm_ins 158 55 = some (.iload_n 3, 56, 3, 0, 0) := rfl
theorem xi_158_56 : xm_ins 158 56 = some (.ifCond .eq 12, 59, 68, 0, 0) := rfl
theorem xi_158_59 : xm_ins 158 59 = some (.aload_n 0, 60, 0, 0, 0) := rfl
theorem xi_158_60 : xm_ins 158 60 = some (.bipush 44, 62, 0, 0, 44) := rfl
theorem xi_158_62 : xm_ins 158 62 = some (.invokevirtual 201, 65, 155, 2, 3) := rfl
theorem xi_158_65 : xm_ins 158 65 = some (.ifCond .eq 15, 68, 80, 0, 0) := rfl
theorem xi_158_68 : xm_ins 158 68 = some (.aload_n 0, 69, 0, 0, 0) := rfl
theorem xi_158_69 : xm_ins 158 69 = some (.iload_n 3, 70, 3, 0, 0) := rfl
theorem xi_158_70 : xm_ins 158 70 = some (.invokevirtual 204, 73, 156, 2, 3) := rfl
theorem xi_158_73 : xm_ins 158 73 = some (.ifCond .eq 7, 76, 80, 0, 0) := rfl
theorem xi_158_76 : xm_ins 158 76 = some (.iconst 1, 77, 0, 0, 1) := rfl
theorem xi_158_77 : xm_ins 158 77 = some (.goto 4, 80, 81, 0, 0) := rfl
theorem xi_158_80 : xm_ins 158 80 = some (.iconst 0, 81, 0, 0, 0) := rfl
theorem xi_158_81 : xm_ins 158 81 = some (.istore_n 2, 82, 2, 0, 0) := rfl
theorem xi_158_82 : xm_ins 158 82 = some (.iinc 3 1, 85, 3, 0, 1) := rfl
theorem xi_158_85 : xm_ins 158 85 = some (.goto (-39), 88, 46, 0, 0) := rfl
theorem xi_158_88 : xm_ins 158 88 = some (.iload_n 2, 89, 2, 0, 0) := rfl
theorem xi_158_89 : xm_ins 158 89 = some (.ifCond .eq 16, 92, 105, 0, 0) := rfl
theorem xi_158_92 : xm_ins 158 92 = some (.aload_n 0, 93, 0, 0, 0) := rfl
theorem xi_158_93 : xm_ins 158 93 = some (.bipush 59, 95, 0, 0, 59) := rfl
theorem xi_158_95 : xm_ins 158 95 = some (.invokevirtual 201, 98, 155, 2, 3) := rfl
theorem xi_158_98 : xm_ins 158 98 = some (.ifCond .eq 7, 101, 105, 0, 0) := rfl
theorem xi_158_101 : xm_ins 158 101 = some (.iconst 1, 102, 0, 0, 1) := rfl
theorem xi_158_102 : xm_ins 158 102 = some (.goto 4, 105, 106, 0, 0) := rfl
theorem xi_158_105 : xm_ins 158 105 = some (.iconst 0, 106, 0, 0, 0) := rfl
theorem xi_158_106 : xm_ins 158 106 = some (.ireturn, 107, 0, 0, 0) := rfl
theorem xn_159 (pc : Nat) : xm_ins 159 pc = xm_find xt_159 pc := rfl
theorem xi_159_0 : xm_ins 159 0 = some (.aload_n 0, 1, 0, 0, 0) := rfl
theorem xi_159_1 : xm_ins 159 1 = some (.getfield 19, 4, 3, 7, 1) := rfl
theorem xi_159_4 : xm_ins 159 4 = some (.iconst 0, 5, 0, 0, 0) := rfl
theorem xi_159_5 : xm_ins 159 5 = some (.iaload, 6, 0, 0, 0) := rfl
theorem xi_159_6 : xm_ins 159 6 = some (.istore_n 1, 7, 1, 0, 0) := rfl
theorem xi_159_7 : xm_ins 159 7 = some (.aload_n 0, 8, 0, 0, 0) := rfl
theorem xi_159_8 : xm_ins 159 8 = some (.getfield 19, 11, 3, 7, 1) := rfl
theorem xi_159_11 : xm_ins 159 11 = some (.iconst 1, 12, 0, 0, 1) := rfl
theorem xi_159_12 : xm_ins 159 12 = some (.iaload, 13, 0, 0, 0) := rfl
theorem xi_159_13 : xm_ins 159 13 = some (.istore_n 2, 14, 2, 0, 0) := rfl
theorem xi_159_14 : xm_ins 159 14 = some (.aload_n 0, 15, 0, 0, 0) := rfl
theorem xi_159_15 : xm_ins 159 15 = some (.getfield 195, 18, 3, 6, 0) := rfl
theorem xi_159_18 : xm_ins 159 18 = some (.tableswitch 129 104 119 #[83, 129, 129, 129, 90, 129, 78, 129, 116, 129, 129, 96, 129, 109, 129, 123], 96, 0, 0, 0) := rfl
theorem xi_159_96 : xm_ins 159 96 = some (.aload_n 0, 97, 0, 0, 0) := rfl
theorem xi_159_97 : xm_ins 159 97 = some (.invokevirtual 64, 100, 102, 1, 3) := rfl
theorem xi_159_100 : xm_ins 159 100 = some (.ireturn, 101, 0, 0, 0) := rfl
theorem xi_159_101 : xm_ins 159 101 = some (.aload_n 0, 102, 0, 0, 0) := rfl
theorem xi_159_102 : xm_ins 159 102 = some (.iload_n 1, 103, 1, 0, 0) := rfl
theorem xi_159_103 : xm_ins 159 103 = some (.iload_n 2, 104, 2, 0, 0) := rfl
theorem xi_159_104 : xm_ins 159 104 = some (.invokevirtual 79, 107, 105, 3, 3) := rfl
theorem xi_159_107 : xm_ins 159 107 = some (.ireturn, 108, 0, 0, 0) := rfl
theorem xi_159_108 : xm_ins 159 108 = some (.aload_n 0, 109, 0, 0, 0) := rfl
theorem xi_159_109 : xm_ins 159 109 = some (.iload_n 1, 110, 1, 0, 0) := rfl
theorem xi_159_110 : xm_ins 159 110 = some (.invokevirtual 85, 113, 108, 2, 3) := rfl
theorem xi_159_113 : xm_ins 159 113 = some (.ireturn, 114, 0, 0, 0) := rfl
theorem xi_159_114 : xm_ins 159 114 = some (.aload_n 0, 115, 0, 0, 0) := rfl
theorem xi_159_115 : xm_ins 159 115 = some (.iload_n 1, 116, 1, 0, 0) := rfl
theorem xi_159_116 : xm_ins 159 116 = some (.iload_n 2, 117, 2, 0, 0) := rfl
theorem xi_159_117 : xm_ins 159 117 = some (.aload_n 0, 118, 0, 0, 0) := rfl
theorem xi_159_118 : xm_ins 159 118 = some (.getfield 19, 121, 3, 7, 1) := rfl
theorem xi_159_121 : xm_ins 159 121 = some (.iconst 2, 122, 0, 0, 2) := rfl
theorem xi_159_122 : xm_ins 159 122 = some (.iaload, 123, 0, 0, 0) := rfl
theorem xi_159_123 : xm_ins 159 123 = some (.invokevirtual 94, 126, 111, 4, 3) := rfl
theorem xi_159_126 : xm_ins 159 126 = some (.ireturn, 127, 0, 0, 0) := rfl
theorem xi_159_127 : xm_ins 159 127 = some (.aload_n 0, 128, 0, 0, 0) := rfl
theorem xi_159_128 : xm_ins 159 128 = some (.iload_n 1, 129, 1, 0, 0) := rfl
theorem xi_159_129 : xm_ins 159 129 = some (.iload_n 2, 130, 2, 0, 0) := rfl
theorem xi_159_130 : xm_ins 159 130 = some (.invokevirtual 101, 133, 114, 3, 3) := rfl
theorem xi_159_133 : xm_ins 159 133 = some (.ireturn, 134, 0, 0, 0) := rfl
theorem xi_159_134 : xm_ins 159 134 = some (.aload_n 0, 135, 0, 0, 0) := rfl
theorem xi_159_135 : xm_ins 159 135 = some (.iload_n 1, 136, 1, 0, 0) := rfl
theorem xi_159_136 : xm_ins 159 136 = some (.iconst 1, 137, 0, 0, 1) := rfl
theorem xi_159_137 : xm_ins 159 137 = some (.invokevirtual 113, 140, 118, 3, 3) := rfl
theorem xi_159_140 : xm_ins 159 140 = some (.ireturn, 141, 0, 0, 0) := rfl
theorem xi_159_141 : xm_ins 159 141 = some (.aload_n 0, 142, 0, 0, 0) := rfl
theorem xi_159_142 : xm_ins 159 142 = some (.iload_n 1, 143, 1, 0, 0) := rfl
theorem xi_159_143 : xm_ins 159 143 = some (.invokevirtual 159, 146, 133, 2, 3) := rfl
theorem xi_159_146 : xm_ins 159 146 = some (.ireturn, 147, 0, 0, 0) := rfl
theorem xi_159_147 : xm_ins 159 147 = some (.iconst 0, 148, 0, 0, 0) := rfl
theorem xi_159_148 : xm_ins 159 148 = some (.ireturn, 149, 0, 0, 0) := rfl
theorem xn_160 (pc : Nat) : xm_ins 160 pc = xm_find xt_160 pc := rfl
theorem xi_160_0 : xm_ins 160 0 = some (.aload_n 0, 1, 0, 0, 0) := rfl
theorem xi_160_1 : xm_ins 160 1 = some (.getfield 19, 4, 3, 7, 1) := rfl
theorem xi_160_4 : xm_ins 160 4 = some (.iconst 0, 5, 0, 0, 0) := rfl
theorem xi_160_5 : xm_ins 160 5 = some (.iaload, 6, 0, 0, 0) := rfl
theorem xi_160_6 : xm_ins 160 6 = some (.istore_n 1, 7, 1, 0, 0) := rfl
theorem xi_160_7 : xm_ins 160 7 = some (.aload_n 0, 8, 0, 0, 0) := rfl
theorem xi_160_8 : xm_ins 160 8 = some (.getfield 19, 11, 3, 7, 1) := rfl
theorem xi_160_11 : xm_ins 160 11 = some (.iconst 1, 12, 0, 0, 1) := rfl
theorem xi_160_12 : xm_ins 160 12 = some (.iaload, 13, 0, 0, 0) := rfl
theorem xi_160_13 : xm_ins 160 13 = some (.istore_n 2, 14, 2, 0, 0) := rfl
theorem xi_160_14 : xm_ins 160 14 = some (.aload_n 0, 15, 0, 0, 0) := rfl
theorem xi_160_15 : xm_ins 160 15 = some (.getfield 195, 18, 3, 6, 0) := rfl
theorem xi_160_18 : xm_ins 160 18 = some (.tableswitch 150 104 119 #[86, 150, 150, 150, 96, 150, 78, 150, 131, 150, 150, 105, 150, 121, 150, 141], 96, 0, 0, 0) := rfl
theorem xi_160_96 : xm_ins 160 96 = some (.aload_n 0, 97, 0, 0, 0) := rfl
theorem xi_160_97 : xm_ins 160 97 = some (.invokevirtual 72, 100, 103, 1, 3) := rfl
theorem xi_160_100 : xm_ins 160 100 = some (.pop, 101, 0, 0, 0) := rfl
theorem xi_160_101 : xm_ins 160 101 = some (.goto 72, 104, 173, 0, 0) := rfl
theorem xi_160_104 : xm_ins 160 104 = some (.aload_n 0, 105, 0, 0, 0) := rfl
theorem xi_160_105 : xm_ins 160 105 = some (.iload_n 1, 106, 1, 0, 0) := rfl
theorem xi_160_106 : xm_ins 160 106 = some (.iload_n 2, 107, 2, 0, 0) := rfl
theorem xi_160_107 : xm_ins 160 107 = some (.invokevirtual 82, 110, 106, 3, 3) := rfl
theorem xi_160_110 : xm_ins 160 110 = some (.pop, 111, 0, 0, 0) := rfl
theorem xi_160_111 : xm_ins 160 111 = some (.goto 62, 114, 173, 0, 0) := rfl
theorem xi_160_114 : xm_ins 160 114 = some (.aload_n 0, 115, 0, 0, 0) := rfl
theorem xi_160_115 : xm_ins 160 115 = some (.iload_n 1, 116, 1, 0, 0) := rfl
theorem xi_160_116 : xm_ins 160 116 = some (.invokevirtual 88, 119, 109, 2, 3) := rfl
theorem xi_160_119 : xm_ins 160 119 = some (.pop, 120, 0, 0, 0) := rfl
theorem xi_160_120 : xm_ins 160 120 = some (.goto 53, 123, 173, 0, 0) := rfl
theorem xi_160_123 : xm_ins 160 123 = some (.aload_n 0, 124, 0, 0, 0) := rfl
theorem xi_160_124 : xm_ins 160 124 = some (.iload_n 1, 125, 1, 0, 0) := rfl
theorem xi_160_125 : xm_ins 160 125 = some (.iload_n 2, 126, 2, 0, 0) := rfl
theorem xi_160_126 : xm_ins 160 126 = some (.aload_n 0, 127, 0, 0, 0) := rfl
theorem xi_160_127 : xm_ins 160 127 = some (.getfield 19, 130, 3, 7, 1) := rfl
theorem xi_160_130 : xm_ins 160 130 = some (.iconst 2, 131, 0, 0, 2) := rfl
theorem xi_160_131 : xm_ins 160 131 = some (.iaload, 132, 0, 0, 0) := rfl
theorem xi_160_132 : xm_ins 160 132 = some (.invokevirtual 98, 135, 112, 4, 3) := rfl
theorem xi_160_135 : xm_ins 160 135 = some (.pop, 136, 0, 0, 0) := rfl
theorem xi_160_136 : xm_ins 160 136 = some (.goto 37, 139, 173, 0, 0) := rfl
theorem xi_160_139 : xm_ins 160 139 = some (.aload_n 0, 140, 0, 0, 0) := rfl
theorem xi_160_140 : xm_ins 160 140 = some (.iload_n 1, 141, 1, 0, 0) := rfl
theorem xi_160_141 : xm_ins 160 141 = some (.iload_n 2, 142, 2, 0, 0) := rfl
theorem xi_160_142 : xm_ins 160 142 = some (.invokevirtual 104, 145, 115, 3, 3) := rfl
theorem xi_160_145 : xm_ins 160 145 = some (.pop, 146, 0, 0, 0) := rfl
theorem xi_160_146 : xm_ins 160 146 = some (.goto 27, 149, 173, 0, 0) := rfl
theorem xi_160_149 : xm_ins 160 149 = some (.aload_n 0, 150, 0, 0, 0) := rfl
theorem xi_160_150 : xm_ins 160 150 = some (.iload_n 1, 151, 1, 0, 0) := rfl
theorem xi_160_151 : xm_ins 160 151 = some (.iconst 1, 152, 0, 0, 1) := rfl
theorem xi_160_152 : xm_ins 160 152 = some (.invokevirtual 116, 155, 119, 3, 3) := rfl
theorem xi_160_155 : xm_ins 160 155 = some (.pop, 156, 0, 0, 0) := rfl
theorem xi_160_156 : xm_ins 160 156 = some (.goto 17, 159, 173, 0, 0) := rfl
theorem xi_160_159 : xm_ins 160 159 = some (.aload_n 0, 160, 0, 0, 0) := rfl
theorem xi_160_160 : xm_ins 160 160 = some (.iload_n 1, 161, 1, 0, 0) := rfl
theorem xi_160_161 : xm_ins 160 161 = some (.invokevirtual 150, 164, 130, 2, 3) := rfl
theorem xi_160_164 : xm_ins 160 164 = some (.pop, 165, 0, 0, 0) := rfl
theorem xi_160_165 : xm_ins 160 165 = some (.goto 8, 168, 173, 0, 0) := rfl
theorem xi_160_168 : xm_ins 160 168 = some (.aload_n 0, 169, 0, 0, 0) := rfl
theorem xi_160_169 : xm_ins 160 169 = some (.invokevirtual 165, 172, 135, 1, 3) := rfl
theorem xi_160_172 : xm_ins 160 172 = some (.pop, 173, 0, 0, 0) := rfl
theorem xi_160_173 : xm_ins 160 173 = some (.return_, 174, 0, 0, 0) := rfl
theorem xn_161 (pc : Nat) : xm_ins 161 pc = xm_find xt_161 pc := rfl
theorem xi_161_0 : xm_ins 161 0 = some (.aload_n 0, 1, 0, 0, 0) := rfl
theorem xi_161_1 : xm_ins 161 1 = some (.iconst 0, 2, 0, 0, 0) := rfl
theorem xi_161_2 : xm_ins 161 2 = some (.putfield 189, 5, 3, 5, 0) := rfl
theorem xi_161_5 : xm_ins 161 5 = some (.aload_n 0, 6, 0, 0, 0) := rfl
theorem xi_161_6 : xm_ins 161 6 = some (.iconst 0, 7, 0, 0, 0) := rfl
theorem xi_161_7 : xm_ins 161 7 = some (.putfield 207, 10, 3, 9, 0) := rfl
theorem xi_161_10 : xm_ins 161 10 = some (.aload_n 0, 11, 0, 0, 0) := rfl
theorem xi_161_11 : xm_ins 161 11 = some (.iconst 0, 12, 0, 0, 0) := rfl
theorem xi_161_12 : xm_ins 161 12 = some (.putfield 210, 15, 3, 10, 0) := rfl
theorem xi_161_15 : xm_ins 161 15 = some (.aload_n 0, 16, 0, 0, 0) := rfl
theorem xi_161_16 : xm_ins 161 16 = some (.getfield 189, 19, 3, 5, 0) := rfl
theorem xi_161_19 : xm_ins 161 19 = some (.aload_n 0, 20, 0, 0, 0) := rfl
theorem xi_161_20 : xm_ins 161 20 = some (.getfield 186, 23, 3, 3, 0) := rfl
theorem xi_161_23 : xm_ins 161 23 = some (.if_icmp .ge 87, 26, 110, 0, 0) := rfl
theorem xi_161_26 : xm_ins 161 26 = some (.aload_n 0, 27, 0, 0, 0) := rfl
theorem xi_161_27 : xm_ins 161 27 = some (.getfield 207, 30, 3, 9, 0) := rfl
theorem xi_161_30 : xm_ins 161 30 = some (.ifCond .ne 80, 33, 110, 0, 0) := rfl
theorem xi_161_33 : xm_ins 161 33 = some (.aload_n 0, 34, 0, 0, 0) := rfl
theorem xi_161_34 : xm_ins 161 34 = some (.aload_n 0, 35, 0, 0, 0) := rfl
theorem xi_161_35 : xm_ins 161 35 = some (.getfield 189, 38, 3, 5, 0) := rfl
theorem xi_161_38 : xm_ins 161 38 = some (.putfield 213, 41, 3, 8, 0) := rfl
theorem xi_161_41 : xm_ins 161 41 = some (.aload_n 0, 42, 0, 0, 0) := rfl
theorem xi_161_42 : xm_ins 161 42 = some (.invokevirtual 216, 45, 158, 1, 3) := rfl
theorem xi_161_45 : xm_ins 161 45 = some (.istore_n 1, 46, 1, 0, 0) := rfl
theorem xi_161_46 : xm_ins 161 46 = some (.iload_n 1, 47, 1, 0, 0) := rfl
theorem xi_161_47 : xm_ins 161 47 = some (.ifCond .eq 10, 50, 57, 0, 0) := rfl
theorem xi_161_50 : xm_ins 161 50 = some (.aload_n 0, 51, 0, 0, 0) := rfl
theorem xi_161_51 : xm_ins 161 51 = some (.invokevirtual 220, 54, 159, 1, 3) := rfl
theorem xi_161_54 : xm_ins 161 54 = some (.goto 4, 57, 58, 0, 0) := rfl
theorem xi_161_57 : xm_ins 161 57 = some (.iconst 0, 58, 0, 0, 0) := rfl
theorem xi_161_58 : xm_ins 161 58 = some (.istore_n 2, 59, 2, 0, 0) := rfl
theorem xi_161_59 : xm_ins 161 59 = some (.iload_n 1, 60, 1, 0, 0) := rfl
theorem xi_161_60 : xm_ins 161 60 = some (.ifCond .ne 11, 63, 71, 0, 0) := rfl
theorem xi_161_63 : xm_ins 161 63 = some (.aload_n 0, 64, 0, 0, 0) := rfl
theorem xi_161_64 : xm_ins 161 64 = some (.iconst 1, 65, 0, 0, 1) := rfl
theorem xi_161_65 : xm_ins 161 65 = some (.putfield 207, 68, 3, 9, 0) := rfl
theorem xi_161_68 : xm_ins 161 68 = some (.goto 39, 71, 107, 0, 0) := rfl
theorem xi_161_71 : xm_ins 161 71 = some (.iload_n 2, 72, 2, 0, 0) := rfl
theorem xi_161_72 : xm_ins 161 72 = some (.ifCond .eq 21, 75, 93, 0, 0) := rfl
theorem xi_161_75 : xm_ins 161 75 = some (.aload_n 0, 76, 0, 0, 0) := rfl
theorem xi_161_76 : xm_ins 161 76 = some (.iload_n 2, 77, 2, 0, 0) := rfl
theorem xi_161_77 : xm_ins 161 77 = some (.ldc 78, 79, 0, 0, (-1000001)) := rfl
theorem xi_161_79 : xm_ins 161 79 = some (.if_icmp .ne 7, 82, 86, 0, 0) := rfl
theorem xi_161_82 : xm_ins 161 82 = some (.iconst 2, 83, 0, 0, 2) := rfl
theorem xi_161_83 : xm_ins 161 83 = some (.goto 4, 86, 87, 0, 0) := rfl
theorem xi_161_86 : xm_ins 161 86 = some (.iconst 3, 87, 0, 0, 3) := rfl
theorem xi_161_87 : xm_ins 161 87 = some (.putfield 207, 90, 3, 9, 0) := rfl
theorem xi_161_90 : xm_ins 161 90 = some (.goto 17, 93, 107, 0, 0) := rfl
theorem xi_161_93 : xm_ins 161 93 = some (.aload_n 0, 94, 0, 0, 0) := rfl
theorem xi_161_94 : xm_ins 161 94 = some (.invokevirtual 223, 97, 160, 1, 3) := rfl
theorem xi_161_97 : xm_ins 161 97 = some (.aload_n 0, 98, 0, 0, 0) := rfl
theorem xi_161_98 : xm_ins 161 98 = some (.dup, 99, 0, 0, 0) := rfl
theorem xi_161_99 : xm_ins 161 99 = some (.getfield 210, 102, 3, 10, 0) := rfl
theorem xi_161_102 : xm_ins 161 102 = some (.iconst 1, 103, 0, 0, 1) := rfl
theorem xi_161_103 : xm_ins 161 103 = some (.iadd, 104, 0, 0, 0) := rfl
theorem xi_161_104 : xm_ins 161 104 = some (.putfield 210, 107, 3, 10, 0) := rfl
theorem xi_161_107 : xm_ins 161 107 = some (.goto (-92), 110, 15, 0, 0) := rfl
theorem xi_161_110 : xm_ins 161 110 = some (.return_, 111, 0, 0, 0) := rfl
theorem xn_162 (pc : Nat) : xm_ins 162 pc = xm_find xt_162 pc := rfl
theorem xi_162_0 : xm_ins 162 0 = some (.iconst 0, 1, 0, 0, 0) := rfl
theorem xi_162_1 : xm_ins 162 1 = some (.istore_n 1, 2, 1, 0, 0) := rfl
theorem xi_162_2 : xm_ins 162 2 = some (.iload_n 1, 3, 1, 0, 0) := rfl
theorem xi_162_3 : xm_ins 162 3 = some (.sipush 196, 6, 0, 0, 196) := rfl
theorem xi_162_6 : xm_ins 162 6 = some (.if_icmp .ge 21, 9, 27, 0, 0) := rfl
theorem xi_162_9 : xm_ins 162 9 = some (.aload_n 0, 10, 0, 0, 0) := rfl
theorem xi_162_10 : xm_ins 162 10 = some (.getfield 7, 13, 3, 0, 1) := rfl
theorem xi_162_13 : xm_ins 162 13 = some (.iload_n 1, 14, 1, 0, 0) := rfl
theorem xi_162_14 : xm_ins 162 14 = some (.aload_n 0, 15, 0, 0, 0) := rfl
theorem xi_162_15 : xm_ins 162 15 = some (.getfield 22, 18, 3, 11, 1) := rfl
theorem xi_162_18 : xm_ins 162 18 = some (.iload_n 1, 19, 1, 0, 0) := rfl
theorem xi_162_19 : xm_ins 162 19 = some (.iaload, 20, 0, 0, 0) := rfl
theorem xi_162_20 : xm_ins 162 20 = some (.iastore, 21, 0, 0, 0) := rfl
theorem xi_162_21 : xm_ins 162 21 = some (.iinc 1 1, 24, 1, 0, 1) := rfl
theorem xi_162_24 : xm_ins 162 24 = some (.goto (-22), 27, 2, 0, 0) := rfl
theorem xi_162_27 : xm_ins 162 27 = some (.return_, 28, 0, 0, 0) := rfl
theorem xn_163 (pc : Nat) : xm_ins 163 pc = xm_find xt_163 pc := rfl
theorem xi_163_0 : xm_ins 163 0 = some (.iconst 0, 1, 0, 0, 0) := rfl
theorem xi_163_1 : xm_ins 163 1 = some (.istore_n 1, 2, 1, 0, 0) := rfl
theorem xi_163_2 : xm_ins 163 2 = some (.iload_n 1, 3, 1, 0, 0) := rfl
theorem xi_163_3 : xm_ins 163 3 = some (.sipush 196, 6, 0, 0, 196) := rfl
theorem xi_163_6 : xm_ins 163 6 = some (.if_icmp .ge 21, 9, 27, 0, 0) := rfl
theorem xi_163_9 : xm_ins 163 9 = some (.aload_n 0, 10, 0, 0, 0) := rfl
theorem xi_163_10 : xm_ins 163 10 = some (.getfield 22, 13, 3, 11, 1) := rfl
theorem xi_163_13 : xm_ins 163 13 = some (.iload_n 1, 14, 1, 0, 0) := rfl
theorem xi_163_14 : xm_ins 163 14 = some (.aload_n 0, 15, 0, 0, 0) := rfl
theorem xi_163_15 : xm_ins 163 15 = some (.getfield 7, 18, 3, 0, 1) := rfl
theorem xi_163_18 : xm_ins 163 18 = some (.iload_n 1, 19, 1, 0, 0) := rfl
theorem xi_163_19 : xm_ins 163 19 = some (.iaload, 20, 0, 0, 0) := rfl
theorem xi_163_20 : xm_ins 163 20 = some (.iastore, 21, 0, 0, 0) := rfl
theorem xi_163_21 : xm_ins 163 21 = some (.iinc 1 1, 24, 1, 0, 1) := rfl
theorem xi_163_24 : xm_ins 163 24 = some (.goto (-22), 27, 2, 0, 0) := rfl
theorem xi_163_27 : xm_ins 163 27 = some (.return_, 28, 0, 0, 0) := rfl
theorem xn_164 (pc : Nat) : xm_ins 164 pc = xm_find xt_164 pc := rfl
theorem xi_164_0 : xm_ins 164 0 = some (.iload_n 1, 1, 1, 0, 0) := rfl
theorem xi_164_1 : xm_ins 164 1 = some (.iconst 0, 2, 0, 0, 0) := rfl
theorem xi_164_2 : xm_ins 164 2 = some (.iconst 1, 3, 0, 0, 1) := rfl
theorem xi_164_3 : xm_ins 164 3 = some (.invokestatic 25, 6, 85, 3, 3) := rfl
theorem xi_164_6 : xm_ins 164 6 = some (.ifCond .ne 6, 9, 12, 0, 0) := rfl
theorem xi_164_9 : xm_ins 164 9 = some (.ldc 78, 11, 0, 0, (-1000001)) := rfl
theorem xi_164_11 : xm_ins 164 11 = some (.ireturn, 12, 0, 0, 0) := rfl
theorem xi_164_12 : xm_ins 164 12 = some (.aload_n 0, 13, 0, 0, 0) := rfl
theorem xi_164_13 : xm_ins 164 13 = some (.invokevirtual 226, 16, 163, 1, 3) := rfl
theorem xi_164_16 : xm_ins 164 16 = some (.aload_n 0, 17, 0, 0, 0) := rfl
theorem xi_164_17 : xm_ins 164 17 = some (.invokevirtual 229, 20, 161, 1, 3) := rfl
theorem xi_164_20 : xm_ins 164 20 = some (.aload_n 0, 21, 0, 0, 0) := rfl
theorem xi_164_21 : xm_ins 164 21 = some (.invokevirtual 232, 24, 162, 1, 3) := rfl
theorem xi_164_24 : xm_ins 164 24 = some (.aload_n 0, 25, 0, 0, 0) := rfl
theorem xi_164_25 : xm_ins 164 25 = some (.getfield 207, 28, 3, 9, 0) := rfl
theorem xi_164_28 : xm_ins 164 28 = some (.ifCond .ne 8, 31, 36, 0, 0) := rfl
theorem xi_164_31 : xm_ins 164 31 = some (.ldc 53, 33, 0, 0, (-1000004)) := rfl
theorem xi_164_33 : xm_ins 164 33 = some (.goto 18, 36, 51, 0, 0) := rfl
theorem xi_164_36 : xm_ins 164 36 = some (.iload_n 1, 37, 1, 0, 0) := rfl
theorem xi_164_37 : xm_ins 164 37 = some (.ifCond .ne 10, 40, 47, 0, 0) := rfl
theorem xi_164_40 : xm_ins 164 40 = some (.aload_n 0, 41, 0, 0, 0) := rfl
theorem xi_164_41 : xm_ins 164 41 = some (.getfield 213, 44, 3, 8, 0) := rfl
theorem xi_164_44 : xm_ins 164 44 = some (.goto 7, 47, 51, 0, 0) := rfl
theorem xi_164_47 : xm_ins 164 47 = some (.aload_n 0, 48, 0, 0, 0) := rfl
theorem xi_164_48 : xm_ins 164 48 = some (.getfield 207, 51, 3, 9, 0) := rfl
theorem xi_164_51 : xm_ins 164 51 = some (.ireturn, 52, 0, 0, 0) := rfl
theorem xn_165 (pc : Nat) : xm_ins 165 pc = xm_find xt_165 pc := rfl
theorem xi_165_0 : xm_ins 165 0 = some (.aload_n 0, 1, 0, 0, 0) := rfl
theorem xi_165_1 : xm_ins 165 1 = some (.invokevirtual 226, 4, 163, 1, 3) := rfl
theorem xi_165_4 : xm_ins 165 4 = some (.aload_n 0, 5, 0, 0, 0) := rfl
theorem xi_165_5 : xm_ins 165 5 = some (.invokevirtual 229, 8, 161, 1, 3) := rfl
theorem xi_165_8 : xm_ins 165 8 = some (.aload_n 0, 9, 0, 0, 0) := rfl
theorem xi_165_9 : xm_ins 165 9 = some (.invokevirtual 232, 12, 162, 1, 3) := rfl
theorem xi_165_12 : xm_ins 165 12 = some (.aload_n 0, 13, 0, 0, 0) := rfl
theorem xi_165_13 : xm_ins 165 13 = some (.getfield 207, 16, 3, 9, 0) := rfl
theorem xi_165_16 : xm_ins 165 16 = some (.ifCond .eq 6, 19, 22, 0, 0) := rfl
theorem xi_165_19 : xm_ins 165 19 = some (.ldc 41, 21, 0, 0, (-1000002)) := rfl
theorem xi_165_21 : xm_ins 165 21 = some (.ireturn, 22, 0, 0, 0) := rfl
theorem xi_165_22 : xm_ins 165 22 = some (.aload_n 0, 23, 0, 0, 0) := rfl
theorem xi_165_23 : xm_ins 165 23 = some (.iconst 0, 24, 0, 0, 0) := rfl
theorem xi_165_24 : xm_ins 165 24 = some (.invokevirtual 68, 27, 93, 2, 3) := rfl
theorem xi_165_27 : xm_ins 165 27 = some (.aload_n 0, 28, 0, 0, 0) := rfl
theorem xi_165_28 : xm_ins 165 28 = some (.invokevirtual 229, 31, 161, 1, 3) := rfl
theorem xi_165_31 : xm_ins 165 31 = some (.aload_n 0, 32, 0, 0, 0) := rfl
theorem xi_165_32 : xm_ins 165 32 = some (.getfield 210, 35, 3, 10, 0) := rfl
theorem xi_165_35 : xm_ins 165 35 = some (.ireturn, 36, 0, 0, 0) := rfl
theorem xn_166 (pc : Nat) : xm_ins 166 pc = xm_find xt_166 pc := rfl
theorem xi_166_0 : xm_ins 166 0 = some (.iload_n 0, 1, 0, 0, 0) := rfl
theorem xi_166_1 : xm_ins 166 1 = some (.iload_n 0, 2, 0, 0, 0) := rfl
theorem xi_166_2 : xm_ins 166 2 = some (.iconst 1, 3, 0, 0, 1) := rfl
theorem xi_166_3 : xm_ins 166 3 = some (.iushr, 4, 0, 0, 0) := rfl
theorem xi_166_4 : xm_ins 166 4 = some (.ldc_w 265, 7, 0, 0, 1431655765) := rfl
theorem xi_166_7 : xm_ins 166 7 = some (.iand, 8, 0, 0, 0) := rfl
theorem xi_166_8 : xm_ins 166 8 = some (.isub, 9, 0, 0, 0) := rfl
theorem xi_166_9 : xm_ins 166 9 = some (.istore_n 0, 10, 0, 0, 0) := rfl
theorem xi_166_10 : xm_ins 166 10 = some (.iload_n 0, 11, 0, 0, 0) := rfl
theorem xi_166_11 : xm_ins 166 11 = some (.ldc_w 266, 14, 0, 0, 858993459) := rfl
theorem xi_166_14 : xm_ins 166 14 = some (.iand, 15, 0, 0, 0) := rfl
theorem xi_166_15 : xm_ins 166 15 = some (.iload_n 0, 16, 0, 0, 0) := rfl
theorem xi_166_16 : xm_ins 166 16 = some (.iconst 2, 17, 0, 0, 2) := rfl
theorem xi_166_17 : xm_ins 166 17 = some (.iushr, 18, 0, 0, 0) := rfl
theorem xi_166_18 : xm_ins 166 18 = some (.ldc_w 266, 21, 0, 0, 858993459) := rfl
theorem xi_166_21 : xm_ins 166 21 = some (.iand, 22, 0, 0, 0) := rfl
theorem xi_166_22 : xm_ins 166 22 = some (.iadd, 23, 0, 0, 0) := rfl
theorem xi_166_23 : xm_ins 166 23 = some (.istore_n 0, 24, 0, 0, 0) := rfl
theorem xi_166_24 : xm_ins 166 24 = some (.iload_n 0, 25, 0, 0, 0) := rfl
theorem xi_166_25 : xm_ins 166 25 = some (.iload_n 0, 26, 0, 0, 0) := rfl
theorem xi_166_26 : xm_ins 166 26 = some (.iconst 4, 27, 0, 0, 4) := rfl
theorem xi_166_27 : xm_ins 166 27 = some (.iushr, 28, 0, 0, 0) := rfl
theorem xi_166_28 : xm_ins 166 28 = some (.iadd, 29, 0, 0, 0) := rfl
theorem xi_166_29 : xm_ins 166 29 = some (.ldc_w 267, 32, 0, 0, 252645135) := rfl
theorem xi_166_32 : xm_ins 166 32 = some (.iand, 33, 0, 0, 0) := rfl
theorem xi_166_33 : xm_ins 166 33 = some (.istore_n 0, 34, 0, 0, 0) := rfl
theorem xi_166_34 : xm_ins 166 34 = some (.iload_n 0, 35, 0, 0, 0) := rfl
theorem xi_166_35 : xm_ins 166 35 = some (.iload_n 0, 36, 0, 0, 0) := rfl
theorem xi_166_36 : xm_ins 166 36 = some (.bipush 8, 38, 0, 0, 8) := rfl
theorem xi_166_38 : xm_ins 166 38 = some (.iushr, 39, 0, 0, 0) := rfl
theorem xi_166_39 : xm_ins 166 39 = some (.iadd, 40, 0, 0, 0) := rfl
theorem xi_166_40 : xm_ins 166 40 = some (.istore_n 0, 41, 0, 0, 0) := rfl
theorem xi_166_41 : xm_ins 166 41 = some (.iload_n 0, 42, 0, 0, 0) := rfl
theorem xi_166_42 : xm_ins 166 42 = some (.iload_n 0, 43, 0, 0, 0) := rfl
theorem xi_166_43 : xm_ins 166 43 = some (.bipush 16, 45, 0, 0, 16) := rfl
theorem xi_166_45 : xm_ins 166 45 = some (.iushr, 46, 0, 0, 0) := rfl
theorem xi_166_46 : xm_ins 166 46 = some (.iadd, 47, 0, 0, 0) := rfl
theorem xi_166_47 : xm_ins 166 47 = some (.istore_n 0, 48, 0, 0, 0) := rfl
theorem xi_166_48 : xm_ins 166 48 = some (.iload_n 0, 49, 0, 0, 0) := rfl
theorem xi_166_49 : xm_ins 166 49 = some (.bipush 63, 51, 0, 0, 63) := rfl
theorem xi_166_51 : xm_ins 166 51 = some (.iand, 52, 0, 0, 0) := rfl
theorem xi_166_52 : xm_ins 166 52 = some (.ireturn, 53, 0, 0, 0) := rfl
theorem xn_167 (pc : Nat) : xm_ins 167 pc = xm_find xt_167 pc := rfl
theorem xi_167_0 : xm_ins 167 0 = some (.new 7, 3, 2, 4, 0) := rfl
theorem xi_167_3 : xm_ins 167 3 = some (.dup, 4, 0, 0, 0) := rfl
theorem xi_167_4 : xm_ins 167 4 = some (.invokespecial 9, 7, 55, 1, 2) := rfl
theorem xi_167_7 : xm_ins 167 7 = some (.astore_n 1, 8, 1, 0, 0) := rfl
theorem xi_167_8 : xm_ins 167 8 = some (.new 10, 11, 3, 12, 0) := rfl
theorem xi_167_11 : xm_ins 167 11 = some (.dup, 12, 0, 0, 0) := rfl
theorem xi_167_12 : xm_ins 167 12 = some (.invokespecial 12, 15, 84, 1, 3) := rfl
theorem xi_167_15 : xm_ins 167 15 = some (.astore_n 2, 16, 2, 0, 0) := rfl
theorem xi_167_16 : xm_ins 167 16 = some (.iconst 0, 17, 0, 0, 0) := rfl
theorem xi_167_17 : xm_ins 167 17 = some (.istore_n 3, 18, 3, 0, 0) := rfl
theorem xi_167_18 : xm_ins 167 18 = some (.iload_n 3, 19, 3, 0, 0) := rfl
theorem xi_167_19 : xm_ins 167 19 = some (.aload_n 0, 20, 0, 0, 0) := rfl
theorem xi_167_20 : xm_ins 167 20 = some (.arraylength, 21, 0, 0, 0) := rfl
theorem xi_167_21 : xm_ins 167 21 = some (.iconst 4, 22, 0, 0, 4) := rfl
theorem xi_167_22 : xm_ins 167 22 = some (.isub, 23, 0, 0, 0) := rfl
theorem xi_167_23 : xm_ins 167 23 = some (.if_icmp .gt 672, 26, 695, 0, 0) := rfl
theorem xi_167_26 : xm_ins 167 26 = some (.aload_n 0, 27, 0, 0, 0) := rfl
theorem xi_167_27 : xm_ins 167 27 = some (.iload_n 3, 28, 3, 0, 0) := rfl
theorem xi_167_28 : xm_ins 167 28 = some (.iaload, 29, 0, 0, 0) := rfl
theorem xi_167_29 : xm_ins 167 29 = some (.bipush 31, 31, 0, 0, 31) := rfl
theorem xi_167_31 : xm_ins 167 31 = some (.iand, 32, 0, 0, 0) := rfl
theorem xi_167_32 : xm_ins 167 32 = some (.tableswitch 657 0 22 #[108, 121, 154, 177, 220, 253, 276, 299, 322, 335, 368, 401, 424, 447, 470, 503, 526, 549, 572, 585, 608, 621, 644], 140, 0, 0, 0) := rfl
theorem xi_167_140 : xm_ins 167 140 = some (.aload_n 1, 141, 1, 0, 0) := rfl
theorem xi_167_141 : xm_ins 167 141 = some (.invokevirtual 13, 144, 56, 1, 2) := rfl
theorem xi_167_144 : xm_ins 167 144 = some (.aload_n 2, 145, 2, 0, 0) := rfl
theorem xi_167_145 : xm_ins 167 145 = some (.invokevirtual 17, 148, 104, 1, 3) := rfl
theorem xi_167_148 : xm_ins 167 148 = some (.if_icmp .eq 541, 151, 689, 0, 0) := rfl
theorem xi_167_151 : xm_ins 167 151 = some (.iconst 0, 152, 0, 0, 0) := rfl
theorem xi_167_152 : xm_ins 167 152 = some (.ireturn, 153, 0, 0, 0) := rfl
theorem xi_167_153 : xm_ins 167 153 = some (.aload_n 1, 154, 1, 0, 0) := rfl
theorem xi_167_154 : xm_ins 167 154 = some (.aload_n 0, 155, 0, 0, 0) := rfl
theorem xi_167_155 : xm_ins 167 155 = some (.iload_n 3, 156, 3, 0, 0) := rfl
theorem xi_167_156 : xm_ins 167 156 = some (.iconst 1, 157, 0, 0, 1) := rfl
theorem xi_167_157 : xm_ins 167 157 = some (.iadd, 158, 0, 0, 0) := rfl
theorem xi_167_158 : xm_ins 167 158 = some (.iaload, 159, 0, 0, 0) := rfl
theorem xi_167_159 : xm_ins 167 159 = some (.aload_n 0, 160, 0, 0, 0) := rfl
theorem xi_167_160 : xm_ins 167 160 = some (.iload_n 3, 161, 3, 0, 0) := rfl
theorem xi_167_161 : xm_ins 167 161 = some (.iconst 2, 162, 0, 0, 2) := rfl
theorem xi_167_162 : xm_ins 167 162 = some (.iadd, 163, 0, 0, 0) := rfl
theorem xi_167_163 : xm_ins 167 163 = some (.iaload, 164, 0, 0, 0) := rfl
theorem xi_167_164 : xm_ins 167 164 = some (.invokevirtual 18, 167, 57, 3, 2) := rfl
theorem xi_167_167 : xm_ins 167 167 = some (.aload_n 2, 168, 2, 0, 0) := rfl
theorem xi_167_168 : xm_ins 167 168 = some (.aload_n 0, 169, 0, 0, 0) := rfl
theorem xi_167_169 : xm_ins 167 169 = some (.iload_n 3, 170, 3, 0, 0) := rfl
theorem xi_167_170 : xm_ins 167 170 = some (.iconst 1, 171, 0, 0, 1) := rfl
theorem xi_167_171 : xm_ins 167 171 = some (.iadd, 172, 0, 0, 0) := rfl
theorem xi_167_172 : xm_ins 167 172 = some (.iaload, 173, 0, 0, 0) := rfl
theorem xi_167_173 : xm_ins 167 173 = some (.aload_n 0, 174, 0, 0, 0) := rfl
theorem xi_167_174 : xm_ins 167 174 = some (.iload_n 3, 175, 3, 0, 0) := rfl
theorem xi_167_175 : xm_ins 167 175 = some (.iconst 2, 176, 0, 0, 2) := rfl
theorem xi_167_176 : xm_ins 167 176 = some (.iadd, 177, 0, 0, 0) := rfl
theorem xi_167_177 : xm_ins 167 177 = some (.iaload, 178, 0, 0, 0) := rfl
theorem xi_167_178 : xm_ins 167 178 = some (.invokevirtual 22, 181, 107, 3, 3) := rfl
theorem xi_167_181 : xm_ins 167 181 = some (.if_icmp .eq 508, 184, 689, 0, 0) := rfl
theorem xi_167_184 : xm_ins 167 184 = some (.iconst 0, 185, 0, 0, 0) := rfl
theorem xi_167_185 : xm_ins 167 185 = some (.ireturn, 186, 0, 0, 0) := rfl
theorem xi_167_186 : xm_ins 167 186 = some (.aload_n 1, 187, 1, 0, 0) := rfl
theorem xi_167_187 : xm_ins 167 187 = some (.aload_n 0, 188, 0, 0, 0) := rfl
theorem xi_167_188 : xm_ins 167 188 = some (.iload_n 3, 189, 3, 0, 0) := rfl
theorem xi_167_189 : xm_ins 167 189 = some (.iconst 1, 190, 0, 0, 1) := rfl
theorem xi_167_190 : xm_ins 167 190 = some (.iadd, 191, 0, 0, 0) := rfl
theorem xi_167_191 : xm_ins 167 191 = some (.iaload, 192, 0, 0, 0) := rfl
theorem xi_167_192 : xm_ins 167 192 = some (.invokevirtual 23, 195, 58, 2, 2) := rfl
theorem xi_167_195 : xm_ins 167 195 = some (.aload_n 2, 196, 2, 0, 0) := rfl
theorem xi_167_196 : xm_ins 167 196 = some (.aload_n 0, 197, 0, 0, 0) := rfl
theorem xi_167_197 : xm_ins 167 197 = some (.iload_n 3, 198, 3, 0, 0) := rfl
theorem xi_167_198 : xm_ins 167 198 = some (.iconst 1, 199, 0, 0, 1) := rfl
theorem xi_167_199 : xm_ins 167 199 = some (.iadd, 200, 0, 0, 0) := rfl
theorem xi_167_200 : xm_ins 167 200 = some (.iaload, 201, 0, 0, 0) := rfl
theorem xi_167_201 : xm_ins 167 201 = some (.invokevirtual 27, 204, 110, 2, 3) := rfl
theorem xi_167_204 : xm_ins 167 204 = some (.if_icmp .eq 485, 207, 689, 0, 0) := rfl
theorem xi_167_207 : xm_ins 167 207 = some (.iconst 0, 208, 0, 0, 0) := rfl
theorem xi_167_208 : xm_ins 167 208 = some (.ireturn, 209, 0, 0, 0) := rfl
theorem xi_167_209 : xm_ins 167 209 = some (.aload_n 1, 210, 1, 0, 0) := rfl
theorem xi_167_210 : xm_ins 167 210 = some (.aload_n 0, 211, 0, 0, 0) := rfl
theorem xi_167_211 : xm_ins 167 211 = some (.iload_n 3, 212, 3, 0, 0) := rfl
theorem xi_167_212 : xm_ins 167 212 = some (.iconst 1, 213, 0, 0, 1) := rfl
theorem xi_167_213 : xm_ins 167 213 = some (.iadd, 214, 0, 0, 0) := rfl
theorem xi_167_214 : xm_ins 167 214 = some (.iaload, 215, 0, 0, 0) := rfl
theorem xi_167_215 : xm_ins 167 215 = some (.aload_n 0, 216, 0, 0, 0) := rfl
theorem xi_167_216 : xm_ins 167 216 = some (.iload_n 3, 217, 3, 0, 0) := rfl
set_option maxRecDepth 100000 in
theorem xi_167_217 : xm_ins 167 217 = some (.iconst 2, 218, 0, 0, 2) := rfl
set_option maxRecDepth 100000 in
theorem xi_167_218 : xm_ins 167 218 = some (.iadd, 219, 0, 0, 0) := rfl
set_option maxRecDepth 100000 in
theorem xi_167_219 : xm_ins 167 219 = some (.iaload, 220, 0, 0, 0) := rfl
set_option maxRecDepth 100000 in
theorem xi_167_220 : xm_ins 167 220 = some (.aload_n 0, 221, 0, 0, 0) := rfl
set_option maxRecDepth 100000 in
theorem xi_167_221 : xm_ins 167 221 = some (.iload_n 3, 222, 3, 0, 0) := rfl
set_option maxRecDepth 100000 in
theorem xi_167_222 : xm_ins 167 222 = some (.iconst 3, 223, 0, 0, 3) := rfl
set_option maxRecDepth 100000 in
theorem xi_167_223 : xm_ins 167 223 = some (.iadd, 224, 0, 0, 0) := rfl
set_option maxRecDepth 100000 in
theorem xi_167_224 : xm_ins 167 224 = some (.iaload, 225, 0, 0, 0) := rfl
set_option maxRecDepth 100000 in
theorem xi_167_225 : xm_ins 167 225 = some (.invokevirtual 28, 228, 59, 4, 2) := rfl
set_option maxRecDepth 100000 in
theorem xi_167_228 : xm_ins 167 228 = some (.aload_n 2, 229, 2, 0, 0) := rfl
set_option maxRecDepth 100000 in
theorem xi_167_229 : xm_ins 167 229 = some (.aload_n 0, 230, 0, 0, 0) := rfl
set_option maxRecDepth 100000 in
theorem xi_167_230 : xm_ins 167 230 = some (.iload_n 3, 231, 3, 0, 0) := rfl
set_option maxRecDepth 100000 in
theorem xi_167_231 : xm_ins 167 231 = some (.iconst 1, 232, 0, 0, 1) := rfl
set_option maxRecDepth 100000 in
theorem xi_167_232 : xm_ins 167 232 = some (.iadd, 233, 0, 0, 0) := rfl
set_option maxRecDepth 100000 in
theorem xi_167_233 : xm_ins 167 233 = some (.iaload, 234, 0, 0, 0) := rfl
set_option maxRecDepth 100000 in
theorem xi_167_234 : xm_ins 167 234 = some (.aload_n 0, 235, 0, 0, 0) := rfl
set_option maxRecDepth 100000 in
theorem xi_167_235 : xm_ins 167 235 = some (.iload_n 3, 236, 3, 0, 0) := rfl
set_option maxRecDepth 100000 in
theorem xi_167_236 : xm_ins 167 236 = some (.iconst 2, 237, 0, 0, 2) := rfl
set_option maxRecDepth 100000 in
theorem xi_167_237 : xm_ins 167 237 = some (.iadd, 238, 0, 0, 0) := rfl
set_option maxRecDepth 100000 in
theorem xi_167_238 : xm_ins 167 238 = some (.iaload, 239, 0, 0, 0) := rfl
set_option maxRecDepth 100000 in
theorem xi_167_239 : xm_ins 167 239 = some (.aload_n 0, 240, 0, 0, 0) := rfl
set_option maxRecDepth 100000 in
theorem xi_167_240 : xm_ins 167 240 = some (.iload_n 3, 241, 3, 0, 0) := rfl
set_option maxRecDepth 100000 in
theorem xi_167_241 : xm_ins 167 241 = some (.iconst 3, 242, 0, 0, 3) := rfl
set_option maxRecDepth 100000 in
theorem xi_167_242 : xm_ins 167 242 = some (.iadd, 243, 0, 0, 0) := rfl
set_option maxRecDepth 100000 in
theorem xi_167_243 : xm_ins 167 243 = some (.iaload, 244, 0, 0, 0) := rfl
set_option maxRecDepth 100000 in
theorem xi_167_244 : xm_ins 167 244 = some (.invokevirtual 32, 247, 113, 4, 3) := rfl
set_option maxRecDepth 100000 in
theorem xi_167_247 : xm_ins 167 247 = some (.if_icmp .eq 442, 250, 689, 0, 0) := rfl
set_option maxRecDepth 100000 in
theorem xi_167_250 : xm_ins 167 250 = some (.iconst 0, 251, 0, 0, 0) := rfl
set_option maxRecDepth 100000 in
theorem xi_167_251 : xm_ins 167 251 = some (.ireturn, 252, 0, 0, 0) := rfl
set_option maxRecDepth 100000 in
theorem xi_167_252 : xm_ins 167 252 = some (.aload_n 1, 253, 1, 0, 0) := rfl
set_option maxRecDepth 100000 in
theorem xi_167_253 : xm_ins 167 253 = some (.aload_n 0, 254, 0, 0, 0) := rfl
set_option maxRecDepth 100000 in
theorem xi_167_254 : xm_ins 167 254 = some (.iload_n 3, 255, 3, 0, 0) := rfl
set_option maxRecDepth 100000 in
theorem xi_167_255 : xm_ins 167 255 = some (.iconst 1, 256, 0, 0, 1) := rfl
set_option maxRecDepth 100000 in
theorem xi_167_256 : xm_ins 167 256 = some (.iadd, 257, 0, 0, 0) := rfl
set_option maxRecDepth 100000 in
theorem xi_167_257 : xm_ins 167 257 = some (.iaload, 258, 0, 0, 0) := rfl
set_option maxRecDepth 100000 in
theorem xi_167_258 : xm_ins 167 258 = some (.aload_n 0, 259, 0, 0, 0) := rfl
set_option maxRecDepth 100000 in
theorem xi_167_259 : xm_ins 167 259 = some (.iload_n 3, 260, 3, 0, 0) := rfl
set_option maxRecDepth 100000 in
theorem xi_167_260 : xm_ins 167 260 = some (.iconst 2, 261, 0, 0, 2) := rfl
set_option maxRecDepth 100000 in
theorem xi_167_261 : xm_ins 167 261 = some (.iadd, 262, 0, 0, 0) := rfl
set_option maxRecDepth 100000 in
theorem xi_167_262 : xm_ins 167 262 = some (.iaload, 263, 0, 0, 0) := rfl
set_option maxRecDepth 100000 in
theorem xi_167_263 : xm_ins 167 263 = some (.invokevirtual 33, 266, 60, 3, 2) := rfl
set_option maxRecDepth 100000 in
theorem xi_167_266 : xm_ins 167 266 = some (.aload_n 2, 267, 2, 0, 0) := rfl
set_option maxRecDepth 100000 in
theorem xi_167_267 : xm_ins 167 267 = some (.aload_n 0, 268, 0, 0, 0) := rfl
set_option maxRecDepth 100000 in
theorem xi_167_268 : xm_ins 167 268 = some (.iload_n 3, 269, 3, 0, 0) := rfl
set_option maxRecDepth 100000 in
theorem xi_167_269 : xm_ins 167 269 = some (.iconst 1, 270, 0, 0, 1) := rfl
set_option maxRecDepth 100000 in
theorem xi_167_270 : xm_ins 167 270 = some (.iadd, 271, 0, 0, 0) := rfl
set_option maxRecDepth 100000 in
theorem xi_167_271 : xm_ins 167 271 = some (.iaload, 272, 0, 0, 0) := rfl
set_option maxRecDepth 100000 in
theorem xi_167_272 : xm_ins 167 272 = some (.aload_n 0, 273, 0, 0, 0) := rfl
set_option maxRecDepth 100000 in
theorem xi_167_273 : xm_ins 167 273 = some (.iload_n 3, 274, 3, 0, 0) := rfl
set_option maxRecDepth 100000 in
theorem xi_167_274 : xm_ins 167 274 = some (.iconst 2, 275, 0, 0, 2) := rfl
set_option maxRecDepth 100000 in
theorem xi_167_275 : xm_ins 167 275 = some (.iadd, 276, 0, 0, 0) := rfl
set_option maxRecDepth 100000 in
theorem xi_167_276 : xm_ins 167 276 = some (.iaload, 277, 0, 0, 0) := rfl
set_option maxRecDepth 100000 in
theorem xi_167_277 : xm_ins 167 277 = some (.invokevirtual 36, 280, 116, 3, 3) := rfl
set_option maxRecDepth 100000 in
theorem xi_167_280 : xm_ins 167 280 = some (.if_icmp .eq 409, 283, 689, 0, 0) := rfl
set_option maxRecDepth 100000 in
theorem xi_167_283 : xm_ins 167 283 = some (.iconst 0, 284, 0, 0, 0) := rfl
set_option maxRecDepth 100000 in
theorem xi_167_284 : xm_ins 167 284 = some (.ireturn, 285, 0, 0, 0) := rfl
set_option maxRecDepth 100000 in
theorem xi_167_285 : xm_ins 167 285 = some (.aload_n 1, 286, 1, 0, 0) := rfl
set_option maxRecDepth 100000 in
theorem xi_167_286 : xm_ins 167 286 = some (.aload_n 0, 287, 0, 0, 0) := rfl
set_option maxRecDepth 100000 in
theorem xi_167_287 : xm_ins 167 287 = some (.iload_n 3, 288, 3, 0, 0) := rfl
set_option maxRecDepth 100000 in
theorem xi_167_288 : xm_ins 167 288 = some (.iconst 1, 289, 0, 0, 1) := rfl
set_option maxRecDepth 100000 in
theorem xi_167_289 : xm_ins 167 289 = some (.iadd, 290, 0, 0, 0) := rfl
set_option maxRecDepth 100000 in
theorem xi_167_290 : xm_ins 167 290 = some (.iaload, 291, 0, 0, 0) := rfl
set_option maxRecDepth 100000 in
theorem xi_167_291 : xm_ins 167 291 = some (.invokevirtual 37, 294, 61, 2, 2) := rfl
set_option maxRecDepth 100000 in
theorem xi_167_294 : xm_ins 167 294 = some (.aload_n 2, 295, 2, 0, 0) := rfl
set_option maxRecDepth 100000 in
theorem xi_167_295 : xm_ins 167 295 = some (.aload_n 0, 296, 0, 0, 0) := rfl
set_option maxRecDepth 100000 in
theorem xi_167_296 : xm_ins 167 296 = some (.iload_n 3, 297, 3, 0, 0) := rfl
set_option maxRecDepth 100000 in
theorem xi_167_297 : xm_ins 167 297 = some (.iconst 1, 298, 0, 0, 1) := rfl
set_option maxRecDepth 100000 in
theorem xi_167_298 : xm_ins 167 298 = some (.iadd, 299, 0, 0, 0) := rfl
set_option maxRecDepth 100000 in
theorem xi_167_299 : xm_ins 167 299 = some (.iaload, 300, 0, 0, 0) := rfl
set_option maxRecDepth 100000 in
theorem xi_167_300 : xm_ins 167 300 = some (.invokevirtual 40, 303, 120, 2, 3) := rfl
set_option maxRecDepth 100000 in
theorem xi_167_303 : xm_ins 167 303 = some (.if_icmp .eq 386, 306, 689, 0, 0) := rfl
set_option maxRecDepth 100000 in
theorem xi_167_306 : xm_ins 167 306 = some (.iconst 0, 307, 0, 0, 0) := rfl
set_option maxRecDepth 100000 in
theorem xi_167_307 : xm_ins 167 307 = some (.ireturn, 308, 0, 0, 0) := rfl
set_option maxRecDepth 100000 in
theorem xi_167_308 : xm_ins 167 308 = some (.aload_n 1, 309, 1, 0, 0) := rfl
set_option maxRecDepth 100000 in
theorem xi_167_309 : xm_ins 167 309 = some (.aload_n 0, 310, 0, 0, 0) := rfl
set_option maxRecDepth 100000 in
theorem xi_167_310 : xm_ins 167 310 = some (.iload_n 3, 311, 3, 0, 0) := rfl
set_option maxRecDepth 100000 in
theorem xi_167_311 : xm_ins 167 311 = some (.iconst 1, 312, 0, 0, 1) := rfl
set_option maxRecDepth 100000 in
theorem xi_167_312 : xm_ins 167 312 = some (.iadd, 313, 0, 0, 0) := rfl
set_option maxRecDepth 100000 in
theorem xi_167_313 : xm_ins 167 313 = some (.iaload, 314, 0, 0, 0) := rfl
set_option maxRecDepth 100000 in
theorem xi_167_314 : xm_ins 167 314 = some (.invokevirtual 41, 317, 62, 2, 2) := rfl
set_option maxRecDepth 100000 in
theorem xi_167_317 : xm_ins 167 317 = some (.aload_n 2, 318, 2, 0, 0) := rfl
set_option maxRecDepth 100000 in
theorem xi_167_318 : xm_ins 167 318 = some (.aload_n 0, 319, 0, 0, 0) := rfl
set_option maxRecDepth 100000 in
theorem xi_167_319 : xm_ins 167 319 = some (.iload_n 3, 320, 3, 0, 0) := rfl
set_option maxRecDepth 100000 in
theorem xi_167_320 : xm_ins 167 320 = some (.iconst 1, 321, 0, 0, 1) := rfl
set_option maxRecDepth 100000 in
theorem xi_167_321 : xm_ins 167 321 = some (.iadd, 322, 0, 0, 0) := rfl
set_option maxRecDepth 100000 in
theorem xi_167_322 : xm_ins 167 322 = some (.iaload, 323, 0, 0, 0) := rfl
set_option maxRecDepth 100000 in
theorem xi_167_323 : xm_ins 167 323 = some (.invokevirtual 44, 326, 121, 2, 3) := rfl
set_option maxRecDepth 100000 in
theorem xi_167_326 : xm_ins 167 326 = some (.if_icmp .eq 363, 329, 689, 0, 0) := rfl
set_option maxRecDepth 100000 in
theorem xi_167_329 : xm_ins 167 329 = some (.iconst 0, 330, 0, 0, 0) := rfl
set_option maxRecDepth 100000 in
theorem xi_167_330 : xm_ins 167 330 = some (.ireturn, 331, 0, 0, 0) := rfl
set_option maxRecDepth 100000 in
theorem xi_167_331 : xm_ins 167 331 = some (.aload_n 1, 332, 1, 0, 0) := rfl
set_option maxRecDepth 100000 in
theorem xi_167_332 : xm_ins 167 332 = some (.aload_n 0, 333, 0, 0, 0) := rfl
set_option maxRecDepth 100000 in
theorem xi_167_333 : xm_ins 167 333 = some (.iload_n 3, 334, 3, 0, 0) := rfl
set_option maxRecDepth 100000 in
theorem xi_167_334 : xm_ins 167 334 = some (.iconst 1, 335, 0, 0, 1) := rfl
set_option maxRecDepth 100000 in
theorem xi_167_335 : xm_ins 167 335 = some (.iadd, 336, 0, 0, 0) := rfl
set_option maxRecDepth 100000 in
theorem xi_167_336 : xm_ins 167 336 = some (.iaload, 337, 0, 0, 0) := rfl
set_option maxRecDepth 100000 in
theorem xi_167_337 : xm_ins 167 337 = some (.invokevirtual 45, 340, 63, 2, 2) := rfl
set_option maxRecDepth 100000 in
theorem xi_167_340 : xm_ins 167 340 = some (.aload_n 2, 341, 2, 0, 0) := rfl
set_option maxRecDepth 100000 in
theorem xi_167_341 : xm_ins 167 341 = some (.aload_n 0, 342, 0, 0, 0) := rfl
set_option maxRecDepth 100000 in
theorem xi_167_342 : xm_ins 167 342 = some (.iload_n 3, 343, 3, 0, 0) := rfl
set_option maxRecDepth 100000 in
theorem xi_167_343 : xm_ins 167 343 = some (.iconst 1, 344, 0, 0, 1) := rfl
set_option maxRecDepth 100000 in
theorem xi_167_344 : xm_ins 167 344 = some (.iadd, 345, 0, 0, 0) := rfl
set_option maxRecDepth 100000 in
theorem xi_167_345 : xm_ins 167 345 = some (.iaload, 346, 0, 0, 0) := rfl
set_option maxRecDepth 100000 in
theorem xi_167_346 : xm_ins 167 346 = some (.invokevirtual 48, 349, 134, 2, 3) := rfl
set_option maxRecDepth 100000 in
theorem xi_167_349 : xm_ins 167 349 = some (.if_icmp .eq 340, 352, 689, 0, 0) := rfl
set_option maxRecDepth 100000 in
theorem xi_167_352 : xm_ins 167 352 = some (.iconst 0, 353, 0, 0, 0) := rfl
set_option maxRecDepth 100000 in
theorem xi_167_353 : xm_ins 167 353 = some (.ireturn, 354, 0, 0, 0) := rfl
set_option maxRecDepth 100000 in
theorem xi_167_354 : xm_ins 167 354 = some (.aload_n 1, 355, 1, 0, 0) := rfl
set_option maxRecDepth 100000 in
theorem xi_167_355 : xm_ins 167 355 = some (.invokevirtual 49, 358, 64, 1, 2) := rfl
set_option maxRecDepth 100000 in
theorem xi_167_358 : xm_ins 167 358 = some (.aload_n 2, 359, 2, 0, 0) := rfl
set_option maxRecDepth 100000 in
theorem xi_167_359 : xm_ins 167 359 = some (.invokevirtual 52, 362, 136, 1, 3) := rfl
set_option maxRecDepth 100000 in
theorem xi_167_362 : xm_ins 167 362 = some (.if_icmp .eq 327, 365, 689, 0, 0) := rfl
set_option maxRecDepth 100000 in
theorem xi_167_365 : xm_ins 167 365 = some (.iconst 0, 366, 0, 0, 0) := rfl
set_option maxRecDepth 100000 in
theorem xi_167_366 : xm_ins 167 366 = some (.ireturn, 367, 0, 0, 0) := rfl
set_option maxRecDepth 100000 in
theorem xi_167_367 : xm_ins 167 367 = some (.aload_n 1, 368, 1, 0, 0) := rfl
set_option maxRecDepth 100000 in
theorem xi_167_368 : xm_ins 167 368 = some (.aload_n 0, 369, 0, 0, 0) := rfl
set_option maxRecDepth 100000 in
theorem xi_167_369 : xm_ins 167 369 = some (.iload_n 3, 370, 3, 0, 0) := rfl
set_option maxRecDepth 100000 in
theorem xi_167_370 : xm_ins 167 370 = some (.iconst 1, 371, 0, 0, 1) := rfl
set_option maxRecDepth 100000 in
theorem xi_167_371 : xm_ins 167 371 = some (.iadd, 372, 0, 0, 0) := rfl
set_option maxRecDepth 100000 in
theorem xi_167_372 : xm_ins 167 372 = some (.iaload, 373, 0, 0, 0) := rfl
set_option maxRecDepth 100000 in
theorem xi_167_373 : xm_ins 167 373 = some (.aload_n 0, 374, 0, 0, 0) := rfl
set_option maxRecDepth 100000 in
theorem xi_167_374 : xm_ins 167 374 = some (.iload_n 3, 375, 3, 0, 0) := rfl
set_option maxRecDepth 100000 in
theorem xi_167_375 : xm_ins 167 375 = some (.iconst 2, 376, 0, 0, 2) := rfl
set_option maxRecDepth 100000 in
theorem xi_167_376 : xm_ins 167 376 = some (.iadd, 377, 0, 0, 0) := rfl
set_option maxRecDepth 100000 in
theorem xi_167_377 : xm_ins 167 377 = some (.iaload, 378, 0, 0, 0) := rfl
set_option maxRecDepth 100000 in
theorem xi_167_378 : xm_ins 167 378 = some (.invokevirtual 53, 381, 65, 3, 2) := rfl
set_option maxRecDepth 100000 in
theorem xi_167_381 : xm_ins 167 381 = some (.aload_n 2, 382, 2, 0, 0) := rfl
set_option maxRecDepth 100000 in
theorem xi_167_382 : xm_ins 167 382 = some (.aload_n 0, 383, 0, 0, 0) := rfl
set_option maxRecDepth 100000 in
theorem xi_167_383 : xm_ins 167 383 = some (.iload_n 3, 384, 3, 0, 0) := rfl
set_option maxRecDepth 100000 in
theorem xi_167_384 : xm_ins 167 384 = some (.iconst 1, 385, 0, 0, 1) := rfl
set_option maxRecDepth 100000 in
theorem xi_167_385 : xm_ins 167 385 = some (.iadd, 386, 0, 0, 0) := rfl
set_option maxRecDepth 100000 in
theorem xi_167_386 : xm_ins 167 386 = some (.iaload, 387, 0, 0, 0) := rfl
set_option maxRecDepth 100000 in
theorem xi_167_387 : xm_ins 167 387 = some (.aload_n 0, 388, 0, 0, 0) := rfl
set_option maxRecDepth 100000 in
theorem xi_167_388 : xm_ins 167 388 = some (.iload_n 3, 389, 3, 0, 0) := rfl
set_option maxRecDepth 100000 in
theorem xi_167_389 : xm_ins 167 389 = some (.iconst 2, 390, 0, 0, 2) := rfl
set_option maxRecDepth 100000 in
theorem xi_167_390 : xm_ins 167 390 = some (.iadd, 391, 0, 0, 0) := rfl
set_option maxRecDepth 100000 in
theorem xi_167_391 : xm_ins 167 391 = some (.iaload, 392, 0, 0, 0) := rfl
set_option maxRecDepth 100000 in
theorem xi_167_392 : xm_ins 167 392 = some (.invokevirtual 56, 395, 139, 3, 3) := rfl
set_option maxRecDepth 100000 in
theorem xi_167_395 : xm_ins 167 395 = some (.if_icmp .eq 294, 398, 689, 0, 0) := rfl
set_option maxRecDepth 100000 in
theorem xi_167_398 : xm_ins 167 398 = some (.iconst 0, 399, 0, 0, 0) := rfl
set_option maxRecDepth 100000 in
theorem xi_167_399 : xm_ins 167 399 = some (.ireturn, 400, 0, 0, 0) := rfl
set_option maxRecDepth 100000 in
theorem xi_167_400 : xm_ins 167 400 = some (.aload_n 1, 401, 1, 0, 0) := rfl
set_option maxRecDepth 100000 in
theorem xi_167_401 : xm_ins 167 401 = some (.aload_n 0, 402, 0, 0, 0) := rfl
set_option maxRecDepth 100000 in
theorem xi_167_402 : xm_ins 167 402 = some (.iload_n 3, 403, 3, 0, 0) := rfl
set_option maxRecDepth 100000 in
theorem xi_167_403 : xm_ins 167 403 = some (.iconst 1, 404, 0, 0, 1) := rfl
set_option maxRecDepth 100000 in
theorem xi_167_404 : xm_ins 167 404 = some (.iadd, 405, 0, 0, 0) := rfl
set_option maxRecDepth 100000 in
theorem xi_167_405 : xm_ins 167 405 = some (.iaload, 406, 0, 0, 0) := rfl
set_option maxRecDepth 100000 in
theorem xi_167_406 : xm_ins 167 406 = some (.aload_n 0, 407, 0, 0, 0) := rfl
set_option maxRecDepth 100000 in
theorem xi_167_407 : xm_ins 167 407 = some (.iload_n 3, 408, 3, 0, 0) := rfl
set_option maxRecDepth 100000 in
theorem xi_167_408 : xm_ins 167 408 = some (.iconst 2, 409, 0, 0, 2) := rfl
set_option maxRecDepth 100000 in
theorem xi_167_409 : xm_ins 167 409 = some (.iadd, 410, 0, 0, 0) := rfl
set_option maxRecDepth 100000 in
theorem xi_167_410 : xm_ins 167 410 = some (.iaload, 411, 0, 0, 0) := rfl
set_option maxRecDepth 100000 in
theorem xi_167_411 : xm_ins 167 411 = some (.invokevirtual 57, 414, 66, 3, 2) := rfl
set_option maxRecDepth 100000 in
theorem xi_167_414 : xm_ins 167 414 = some (.aload_n 2, 415, 2, 0, 0) := rfl
set_option maxRecDepth 100000 in
theorem xi_167_415 : xm_ins 167 415 = some (.aload_n 0, 416, 0, 0, 0) := rfl
set_option maxRecDepth 100000 in
theorem xi_167_416 : xm_ins 167 416 = some (.iload_n 3, 417, 3, 0, 0) := rfl
set_option maxRecDepth 100000 in
theorem xi_167_417 : xm_ins 167 417 = some (.iconst 1, 418, 0, 0, 1) := rfl
set_option maxRecDepth 100000 in
theorem xi_167_418 : xm_ins 167 418 = some (.iadd, 419, 0, 0, 0) := rfl
set_option maxRecDepth 100000 in
theorem xi_167_419 : xm_ins 167 419 = some (.iaload, 420, 0, 0, 0) := rfl
set_option maxRecDepth 100000 in
theorem xi_167_420 : xm_ins 167 420 = some (.aload_n 0, 421, 0, 0, 0) := rfl
set_option maxRecDepth 100000 in
theorem xi_167_421 : xm_ins 167 421 = some (.iload_n 3, 422, 3, 0, 0) := rfl
set_option maxRecDepth 100000 in
theorem xi_167_422 : xm_ins 167 422 = some (.iconst 2, 423, 0, 0, 2) := rfl
set_option maxRecDepth 100000 in
theorem xi_167_423 : xm_ins 167 423 = some (.iadd, 424, 0, 0, 0) := rfl
set_option maxRecDepth 100000 in
theorem xi_167_424 : xm_ins 167 424 = some (.iaload, 425, 0, 0, 0) := rfl
set_option maxRecDepth 100000 in
theorem xi_167_425 : xm_ins 167 425 = some (.invokevirtual 60, 428, 141, 3, 3) := rfl
set_option maxRecDepth 100000 in
theorem xi_167_428 : xm_ins 167 428 = some (.if_icmp .eq 261, 431, 689, 0, 0) := rfl
set_option maxRecDepth 100000 in
theorem xi_167_431 : xm_ins 167 431 = some (.iconst 0, 432, 0, 0, 0) := rfl
set_option maxRecDepth 100000 in
theorem xi_167_432 : xm_ins 167 432 = some (.ireturn, 433, 0, 0, 0) := rfl
set_option maxRecDepth 100000 in
theorem xi_167_433 : xm_ins 167 433 = some (.aload_n 1, 434, 1, 0, 0) := rfl
set_option maxRecDepth 100000 in
theorem xi_167_434 : xm_ins 167 434 = some (.aload_n 0, 435, 0, 0, 0) := rfl
set_option maxRecDepth 100000 in
theorem xi_167_435 : xm_ins 167 435 = some (.iload_n 3, 436, 3, 0, 0) := rfl
set_option maxRecDepth 100000 in
theorem xi_167_436 : xm_ins 167 436 = some (.iconst 1, 437, 0, 0, 1) := rfl
set_option maxRecDepth 100000 in
theorem xi_167_437 : xm_ins 167 437 = some (.iadd, 438, 0, 0, 0) := rfl
set_option maxRecDepth 100000 in
theorem xi_167_438 : xm_ins 167 438 = some (.iaload, 439, 0, 0, 0) := rfl
set_option maxRecDepth 100000 in
theorem xi_167_439 : xm_ins 167 439 = some (.invokevirtual 61, 442, 67, 2, 2) := rfl
set_option maxRecDepth 100000 in
theorem xi_167_442 : xm_ins 167 442 = some (.aload_n 2, 443, 2, 0, 0) := rfl
set_option maxRecDepth 100000 in
theorem xi_167_443 : xm_ins 167 443 = some (.aload_n 0, 444, 0, 0, 0) := rfl
set_option maxRecDepth 100000 in
theorem xi_167_444 : xm_ins 167 444 = some (.iload_n 3, 445, 3, 0, 0) := rfl
set_option maxRecDepth 100000 in
theorem xi_167_445 : xm_ins 167 445 = some (.iconst 1, 446, 0, 0, 1) := rfl
set_option maxRecDepth 100000 in
theorem xi_167_446 : xm_ins 167 446 = some (.iadd, 447, 0, 0, 0) := rfl
set_option maxRecDepth 100000 in
theorem xi_167_447 : xm_ins 167 447 = some (.iaload, 448, 0, 0, 0) := rfl
set_option maxRecDepth 100000 in
theorem xi_167_448 : xm_ins 167 448 = some (.invokevirtual 64, 451, 142, 2, 3) := rfl
set_option maxRecDepth 100000 in
theorem xi_167_451 : xm_ins 167 451 = some (.if_icmp .eq 238, 454, 689, 0, 0) := rfl
set_option maxRecDepth 100000 in
theorem xi_167_454 : xm_ins 167 454 = some (.iconst 0, 455, 0, 0, 0) := rfl
set_option maxRecDepth 100000 in
theorem xi_167_455 : xm_ins 167 455 = some (.ireturn, 456, 0, 0, 0) := rfl
set_option maxRecDepth 100000 in
theorem xi_167_456 : xm_ins 167 456 = some (.aload_n 1, 457, 1, 0, 0) := rfl
set_option maxRecDepth 100000 in
theorem xi_167_457 : xm_ins 167 457 = some (.aload_n 0, 458, 0, 0, 0) := rfl
set_option maxRecDepth 100000 in
theorem xi_167_458 : xm_ins 167 458 = some (.iload_n 3, 459, 3, 0, 0) := rfl
set_option maxRecDepth 100000 in
theorem xi_167_459 : xm_ins 167 459 = some (.iconst 1, 460, 0, 0, 1) := rfl
set_option maxRecDepth 100000 in
theorem xi_167_460 : xm_ins 167 460 = some (.iadd, 461, 0, 0, 0) := rfl
set_option maxRecDepth 100000 in
theorem xi_167_461 : xm_ins 167 461 = some (.iaload, 462, 0, 0, 0) := rfl
set_option maxRecDepth 100000 in
theorem xi_167_462 : xm_ins 167 462 = some (.invokevirtual 65, 465, 68, 2, 2) := rfl
set_option maxRecDepth 100000 in
theorem xi_167_465 : xm_ins 167 465 = some (.aload_n 2, 466, 2, 0, 0) := rfl
set_option maxRecDepth 100000 in
theorem xi_167_466 : xm_ins 167 466 = some (.aload_n 0, 467, 0, 0, 0) := rfl
set_option maxRecDepth 100000 in
theorem xi_167_467 : xm_ins 167 467 = some (.iload_n 3, 468, 3, 0, 0) := rfl
set_option maxRecDepth 100000 in
theorem xi_167_468 : xm_ins 167 468 = some (.iconst 1, 469, 0, 0, 1) := rfl
set_option maxRecDepth 100000 in
theorem xi_167_469 : xm_ins 167 469 = some (.iadd, 470, 0, 0, 0) := rfl
set_option maxRecDepth 100000 in
theorem xi_167_470 : xm_ins 167 470 = some (.iaload, 471, 0, 0, 0) := rfl
set_option maxRecDepth 100000 in
theorem xi_167_471 : xm_ins 167 471 = some (.invokevirtual 68, 474, 145, 2, 3) := rfl
set_option maxRecDepth 100000 in
theorem xi_167_474 : xm_ins 167 474 = some (.if_icmp .eq 215, 477, 689, 0, 0) := rfl
set_option maxRecDepth 100000 in
theorem xi_167_477 : xm_ins 167 477 = some (.iconst 0, 478, 0, 0, 0) := rfl
set_option maxRecDepth 100000 in
theorem xi_167_478 : xm_ins 167 478 = some (.ireturn, 479, 0, 0, 0) := rfl
set_option maxRecDepth 100000 in
theorem xi_167_479 : xm_ins 167 479 = some (.aload_n 1, 480, 1, 0, 0) := rfl
set_option maxRecDepth 100000 in
theorem xi_167_480 : xm_ins 167 480 = some (.aload_n 0, 481, 0, 0, 0) := rfl
set_option maxRecDepth 100000 in
theorem xi_167_481 : xm_ins 167 481 = some (.iload_n 3, 482, 3, 0, 0) := rfl
set_option maxRecDepth 100000 in
theorem xi_167_482 : xm_ins 167 482 = some (.iconst 1, 483, 0, 0, 1) := rfl
set_option maxRecDepth 100000 in
theorem xi_167_483 : xm_ins 167 483 = some (.iadd, 484, 0, 0, 0) := rfl
set_option maxRecDepth 100000 in
theorem xi_167_484 : xm_ins 167 484 = some (.iaload, 485, 0, 0, 0) := rfl
set_option maxRecDepth 100000 in
theorem xi_167_485 : xm_ins 167 485 = some (.invokevirtual 69, 488, 69, 2, 2) := rfl
set_option maxRecDepth 100000 in
theorem xi_167_488 : xm_ins 167 488 = some (.aload_n 2, 489, 2, 0, 0) := rfl
set_option maxRecDepth 100000 in
theorem xi_167_489 : xm_ins 167 489 = some (.aload_n 0, 490, 0, 0, 0) := rfl
set_option maxRecDepth 100000 in
theorem xi_167_490 : xm_ins 167 490 = some (.iload_n 3, 491, 3, 0, 0) := rfl
set_option maxRecDepth 100000 in
theorem xi_167_491 : xm_ins 167 491 = some (.iconst 1, 492, 0, 0, 1) := rfl
set_option maxRecDepth 100000 in
theorem xi_167_492 : xm_ins 167 492 = some (.iadd, 493, 0, 0, 0) := rfl
set_option maxRecDepth 100000 in
theorem xi_167_493 : xm_ins 167 493 = some (.iaload, 494, 0, 0, 0) := rfl
set_option maxRecDepth 100000 in
theorem xi_167_494 : xm_ins 167 494 = some (.invokevirtual 72, 497, 146, 2, 3) := rfl
set_option maxRecDepth 100000 in
theorem xi_167_497 : xm_ins 167 497 = some (.if_icmp .eq 192, 500, 689, 0, 0) := rfl
set_option maxRecDepth 100000 in
theorem xi_167_500 : xm_ins 167 500 = some (.iconst 0, 501, 0, 0, 0) := rfl
set_option maxRecDepth 100000 in
theorem xi_167_501 : xm_ins 167 501 = some (.ireturn, 502, 0, 0, 0) := rfl
set_option maxRecDepth 100000 in
theorem xi_167_502 : xm_ins 167 502 = some (.aload_n 1, 503, 1, 0, 0) := rfl
set_option maxRecDepth 100000 in
theorem xi_167_503 : xm_ins 167 503 = some (.aload_n 0, 504, 0, 0, 0) := rfl
set_option maxRecDepth 100000 in
theorem xi_167_504 : xm_ins 167 504 = some (.iload_n 3, 505, 3, 0, 0) := rfl
set_option maxRecDepth 100000 in
theorem xi_167_505 : xm_ins 167 505 = some (.iconst 1, 506, 0, 0, 1) := rfl
set_option maxRecDepth 100000 in
theorem xi_167_506 : xm_ins 167 506 = some (.iadd, 507, 0, 0, 0) := rfl
set_option maxRecDepth 100000 in
theorem xi_167_507 : xm_ins 167 507 = some (.iaload, 508, 0, 0, 0) := rfl
set_option maxRecDepth 100000 in
theorem xi_167_508 : xm_ins 167 508 = some (.aload_n 0, 509, 0, 0, 0) := rfl
set_option maxRecDepth 100000 in
theorem xi_167_509 : xm_ins 167 509 = some (.iload_n 3, 510, 3, 0, 0) := rfl
set_option maxRecDepth 100000 in
theorem xi_167_510 : xm_ins 167 510 = some (.iconst 2, 511, 0, 0, 2) := rfl
set_option maxRecDepth 100000 in
theorem xi_167_511 : xm_ins 167 511 = some (.iadd, 512, 0, 0, 0) := rfl
set_option maxRecDepth 100000 in
theorem xi_167_512 : xm_ins 167 512 = some (.iaload, 513, 0, 0, 0) := rfl
set_option maxRecDepth 100000 in
theorem xi_167_513 : xm_ins 167 513 = some (.invokevirtual 73, 516, 70, 3, 2) := rfl
set_option maxRecDepth 100000 in
theorem xi_167_516 : xm_ins 167 516 = some (.aload_n 2, 517, 2, 0, 0) := rfl
set_option maxRecDepth 100000 in
theorem xi_167_517 : xm_ins 167 517 = some (.aload_n 0, 518, 0, 0, 0) := rfl
set_option maxRecDepth 100000 in
theorem xi_167_518 : xm_ins 167 518 = some (.iload_n 3, 519, 3, 0, 0) := rfl
set_option maxRecDepth 100000 in
theorem xi_167_519 : xm_ins 167 519 = some (.iconst 1, 520, 0, 0, 1) := rfl
set_option maxRecDepth 100000 in
theorem xi_167_520 : xm_ins 167 520 = some (.iadd, 521, 0, 0, 0) := rfl
set_option maxRecDepth 100000 in
theorem xi_167_521 : xm_ins 167 521 = some (.iaload, 522, 0, 0, 0) := rfl
set_option maxRecDepth 100000 in
theorem xi_167_522 : xm_ins 167 522 = some (.aload_n 0, 523, 0, 0, 0) := rfl
set_option maxRecDepth 100000 in
theorem xi_167_523 : xm_ins 167 523 = some (.iload_n 3, 524, 3, 0, 0) := rfl
set_option maxRecDepth 100000 in
theorem xi_167_524 : xm_ins 167 524 = some (.iconst 2, 525, 0, 0, 2) := rfl
set_option maxRecDepth 100000 in
theorem xi_167_525 : xm_ins 167 525 = some (.iadd, 526, 0, 0, 0) := rfl
set_option maxRecDepth 100000 in
theorem xi_167_526 : xm_ins 167 526 = some (.iaload, 527, 0, 0, 0) := rfl
set_option maxRecDepth 100000 in
theorem xi_167_527 : xm_ins 167 527 = some (.invokevirtual 76, 530, 147, 3, 3) := rfl
set_option maxRecDepth 100000 in
theorem xi_167_530 : xm_ins 167 530 = some (.if_icmp .eq 159, 533, 689, 0, 0) := rfl
set_option maxRecDepth 100000 in
theorem xi_167_533 : xm_ins 167 533 = some (.iconst 0, 534, 0, 0, 0) := rfl
set_option maxRecDepth 100000 in
theorem xi_167_534 : xm_ins 167 534 = some (.ireturn, 535, 0, 0, 0) := rfl
set_option maxRecDepth 100000 in
theorem xi_167_535 : xm_ins 167 535 = some (.aload_n 1, 536, 1, 0, 0) := rfl
set_option maxRecDepth 100000 in
theorem xi_167_536 : xm_ins 167 536 = some (.aload_n 0, 537, 0, 0, 0) := rfl
set_option maxRecDepth 100000 in
theorem xi_167_537 : xm_ins 167 537 = some (.iload_n 3, 538, 3, 0, 0) := rfl
set_option maxRecDepth 100000 in
theorem xi_167_538 : xm_ins 167 538 = some (.iconst 1, 539, 0, 0, 1) := rfl
set_option maxRecDepth 100000 in
theorem xi_167_539 : xm_ins 167 539 = some (.iadd, 540, 0, 0, 0) := rfl
set_option maxRecDepth 100000 in
theorem xi_167_540 : xm_ins 167 540 = some (.iaload, 541, 0, 0, 0) := rfl
set_option maxRecDepth 100000 in
theorem xi_167_541 : xm_ins 167 541 = some (.invokevirtual 77, 544, 71, 2, 2) := rfl
set_option maxRecDepth 100000 in
theorem xi_167_544 : xm_ins 167 544 = some (.aload_n 2, 545, 2, 0, 0) := rfl
set_option maxRecDepth 100000 in
theorem xi_167_545 : xm_ins 167 545 = some (.aload_n 0, 546, 0, 0, 0) := rfl
set_option maxRecDepth 100000 in
theorem xi_167_546 : xm_ins 167 546 = some (.iload_n 3, 547, 3, 0, 0) := rfl
set_option maxRecDepth 100000 in
theorem xi_167_547 : xm_ins 167 547 = some (.iconst 1, 548, 0, 0, 1) := rfl
set_option maxRecDepth 100000 in
theorem xi_167_548 : xm_ins 167 548 = some (.iadd, 549, 0, 0, 0) := rfl
set_option maxRecDepth 100000 in
theorem xi_167_549 : xm_ins 167 549 = some (.iaload, 550, 0, 0, 0) := rfl
set_option maxRecDepth 100000 in
theorem xi_167_550 : xm_ins 167 550 = some (.invokevirtual 80, 553, 148, 2, 3) := rfl
set_option maxRecDepth 100000 in
theorem xi_167_553 : xm_ins 167 553 = some (.if_icmp .eq 136, 556, 689, 0, 0) := rfl
set_option maxRecDepth 100000 in
theorem xi_167_556 : xm_ins 167 556 = some (.iconst 0, 557, 0, 0, 0) := rfl
set_option maxRecDepth 100000 in
theorem xi_167_557 : xm_ins 167 557 = some (.ireturn, 558, 0, 0, 0) := rfl
set_option maxRecDepth 100000 in
theorem xi_167_558 : xm_ins 167 558 = some (.aload_n 1, 559, 1, 0, 0) := rfl
set_option maxRecDepth 100000 in
theorem xi_167_559 : xm_ins 167 559 = some (.aload_n 0, 560, 0, 0, 0) := rfl
set_option maxRecDepth 100000 in
theorem xi_167_560 : xm_ins 167 560 = some (.iload_n 3, 561, 3, 0, 0) := rfl
set_option maxRecDepth 100000 in
theorem xi_167_561 : xm_ins 167 561 = some (.iconst 1, 562, 0, 0, 1) := rfl
set_option maxRecDepth 100000 in
theorem xi_167_562 : xm_ins 167 562 = some (.iadd, 563, 0, 0, 0) := rfl
set_option maxRecDepth 100000 in
theorem xi_167_563 : xm_ins 167 563 = some (.iaload, 564, 0, 0, 0) := rfl
set_option maxRecDepth 100000 in
theorem xi_167_564 : xm_ins 167 564 = some (.invokevirtual 81, 567, 72, 2, 2) := rfl
set_option maxRecDepth 100000 in
theorem xi_167_567 : xm_ins 167 567 = some (.aload_n 2, 568, 2, 0, 0) := rfl
set_option maxRecDepth 100000 in
theorem xi_167_568 : xm_ins 167 568 = some (.aload_n 0, 569, 0, 0, 0) := rfl
set_option maxRecDepth 100000 in
theorem xi_167_569 : xm_ins 167 569 = some (.iload_n 3, 570, 3, 0, 0) := rfl
set_option maxRecDepth 100000 in
theorem xi_167_570 : xm_ins 167 570 = some (.iconst 1, 571, 0, 0, 1) := rfl
set_option maxRecDepth 100000 in
theorem xi_167_571 : xm_ins 167 571 = some (.iadd, 572, 0, 0, 0) := rfl
set_option maxRecDepth 100000 in
theorem xi_167_572 : xm_ins 167 572 = some (.iaload, 573, 0, 0, 0) := rfl
set_option maxRecDepth 100000 in
theorem xi_167_573 : xm_ins 167 573 = some (.invokevirtual 84, 576, 149, 2, 3) := rfl
set_option maxRecDepth 100000 in
theorem xi_167_576 : xm_ins 167 576 = some (.if_icmp .eq 113, 579, 689, 0, 0) := rfl
set_option maxRecDepth 100000 in
theorem xi_167_579 : xm_ins 167 579 = some (.iconst 0, 580, 0, 0, 0) := rfl
set_option maxRecDepth 100000 in
theorem xi_167_580 : xm_ins 167 580 = some (.ireturn, 581, 0, 0, 0) := rfl
set_option maxRecDepth 100000 in
theorem xi_167_581 : xm_ins 167 581 = some (.aload_n 1, 582, 1, 0, 0) := rfl
set_option maxRecDepth 100000 in
theorem xi_167_582 : xm_ins 167 582 = some (.aload_n 0, 583, 0, 0, 0) := rfl
set_option maxRecDepth 100000 in
theorem xi_167_583 : xm_ins 167 583 = some (.iload_n 3, 584, 3, 0, 0) := rfl
set_option maxRecDepth 100000 in
theorem xi_167_584 : xm_ins 167 584 = some (.iconst 1, 585, 0, 0, 1) := rfl
set_option maxRecDepth 100000 in
theorem xi_167_585 : xm_ins 167 585 = some (.iadd, 586, 0, 0, 0) := rfl
set_option maxRecDepth 100000 in
theorem xi_167_586 : xm_ins 167 586 = some (.iaload, 587, 0, 0, 0) := rfl
set_option maxRecDepth 100000 in
theorem xi_167_587 : xm_ins 167 587 = some (.invokevirtual 85, 590, 73, 2, 2) := rfl
set_option maxRecDepth 100000 in
theorem xi_167_590 : xm_ins 167 590 = some (.aload_n 2, 591, 2, 0, 0) := rfl
set_option maxRecDepth 100000 in
theorem xi_167_591 : xm_ins 167 591 = some (.aload_n 0, 592, 0, 0, 0) := rfl
set_option maxRecDepth 100000 in
theorem xi_167_592 : xm_ins 167 592 = some (.iload_n 3, 593, 3, 0, 0) := rfl
set_option maxRecDepth 100000 in
theorem xi_167_593 : xm_ins 167 593 = some (.iconst 1, 594, 0, 0, 1) := rfl
set_option maxRecDepth 100000 in
theorem xi_167_594 : xm_ins 167 594 = some (.iadd, 595, 0, 0, 0) := rfl
set_option maxRecDepth 100000 in
theorem xi_167_595 : xm_ins 167 595 = some (.iaload, 596, 0, 0, 0) := rfl
set_option maxRecDepth 100000 in
theorem xi_167_596 : xm_ins 167 596 = some (.invokevirtual 88, 599, 151, 2, 3) := rfl
set_option maxRecDepth 100000 in
theorem xi_167_599 : xm_ins 167 599 = some (.if_icmp .eq 90, 602, 689, 0, 0) := rfl
set_option maxRecDepth 100000 in
theorem xi_167_602 : xm_ins 167 602 = some (.iconst 0, 603, 0, 0, 0) := rfl
set_option maxRecDepth 100000 in
theorem xi_167_603 : xm_ins 167 603 = some (.ireturn, 604, 0, 0, 0) := rfl
set_option maxRecDepth 100000 in
theorem xi_167_604 : xm_ins 167 604 = some (.aload_n 1, 605, 1, 0, 0) := rfl
set_option maxRecDepth 100000 in
theorem xi_167_605 : xm_ins 167 605 = some (.invokevirtual 89, 608, 74, 1, 2) := rfl
set_option maxRecDepth 100000 in
theorem xi_167_608 : xm_ins 167 608 = some (.aload_n 2, 609, 2, 0, 0) := rfl
set_option maxRecDepth 100000 in
theorem xi_167_609 : xm_ins 167 609 = some (.invokevirtual 92, 612, 94, 1, 3) := rfl
set_option maxRecDepth 100000 in
theorem xi_167_612 : xm_ins 167 612 = some (.if_icmp .eq 77, 615, 689, 0, 0) := rfl
set_option maxRecDepth 100000 in
theorem xi_167_615 : xm_ins 167 615 = some (.iconst 0, 616, 0, 0, 0) := rfl
set_option maxRecDepth 100000 in
theorem xi_167_616 : xm_ins 167 616 = some (.ireturn, 617, 0, 0, 0) := rfl
set_option maxRecDepth 100000 in
theorem xi_167_617 : xm_ins 167 617 = some (.aload_n 1, 618, 1, 0, 0) := rfl
set_option maxRecDepth 100000 in
theorem xi_167_618 : xm_ins 167 618 = some (.aload_n 0, 619, 0, 0, 0) := rfl
set_option maxRecDepth 100000 in
theorem xi_167_619 : xm_ins 167 619 = some (.iload_n 3, 620, 3, 0, 0) := rfl
set_option maxRecDepth 100000 in
theorem xi_167_620 : xm_ins 167 620 = some (.iconst 1, 621, 0, 0, 1) := rfl
set_option maxRecDepth 100000 in
theorem xi_167_621 : xm_ins 167 621 = some (.iadd, 622, 0, 0, 0) := rfl
set_option maxRecDepth 100000 in
theorem xi_167_622 : xm_ins 167 622 = some (.iaload, 623, 0, 0, 0) := rfl
set_option maxRecDepth 100000 in
theorem xi_167_623 : xm_ins 167 623 = some (.invokevirtual 93, 626, 75, 2, 2) := rfl
set_option maxRecDepth 100000 in
theorem xi_167_626 : xm_ins 167 626 = some (.aload_n 2, 627, 2, 0, 0) := rfl
set_option maxRecDepth 100000 in
theorem xi_167_627 : xm_ins 167 627 = some (.aload_n 0, 628, 0, 0, 0) := rfl
set_option maxRecDepth 100000 in
theorem xi_167_628 : xm_ins 167 628 = some (.iload_n 3, 629, 3, 0, 0) := rfl
set_option maxRecDepth 100000 in
theorem xi_167_629 : xm_ins 167 629 = some (.iconst 1, 630, 0, 0, 1) := rfl
set_option maxRecDepth 100000 in
theorem xi_167_630 : xm_ins 167 630 = some (.iadd, 631, 0, 0, 0) := rfl
set_option maxRecDepth 100000 in
theorem xi_167_631 : xm_ins 167 631 = some (.iaload, 632, 0, 0, 0) := rfl
set_option maxRecDepth 100000 in
theorem xi_167_632 : xm_ins 167 632 = some (.invokevirtual 96, 635, 152, 2, 3) := rfl
set_option maxRecDepth 100000 in
theorem xi_167_635 : xm_ins 167 635 = some (.if_icmp .eq 54, 638, 689, 0, 0) := rfl
set_option maxRecDepth 100000 in
theorem xi_167_638 : xm_ins 167 638 = some (.iconst 0, 639, 0, 0, 0) := rfl
set_option maxRecDepth 100000 in
theorem xi_167_639 : xm_ins 167 639 = some (.ireturn, 640, 0, 0, 0) := rfl
set_option maxRecDepth 100000 in
theorem xi_167_640 : xm_ins 167 640 = some (.aload_n 1, 641, 1, 0, 0) := rfl
set_option maxRecDepth 100000 in
theorem xi_167_641 : xm_ins 167 641 = some (.invokevirtual 97, 644, 76, 1, 2) := rfl
set_option maxRecDepth 100000 in
theorem xi_167_644 : xm_ins 167 644 = some (.aload_n 2, 645, 2, 0, 0) := rfl
set_option maxRecDepth 100000 in
theorem xi_167_645 : xm_ins 167 645 = some (.invokevirtual 100, 648, 153, 1, 3) := rfl
set_option maxRecDepth 100000 in
theorem xi_167_648 : xm_ins 167 648 = some (.if_icmp .eq 41, 651, 689, 0, 0) := rfl
set_option maxRecDepth 100000 in
theorem xi_167_651 : xm_ins 167 651 = some (.iconst 0, 652, 0, 0, 0) := rfl
set_option maxRecDepth 100000 in
theorem xi_167_652 : xm_ins 167 652 = some (.ireturn, 653, 0, 0, 0) := rfl
set_option maxRecDepth 100000 in
theorem xi_167_653 : xm_ins 167 653 = some (.aload_n 1, 654, 1, 0, 0) := rfl
set_option maxRecDepth 100000 in
theorem xi_167_654 : xm_ins 167 654 = some (.aload_n 0, 655, 0, 0, 0) := rfl
set_option maxRecDepth 100000 in
theorem xi_167_655 : xm_ins 167 655 = some (.iload_n 3, 656, 3, 0, 0) := rfl
set_option maxRecDepth 100000 in
theorem xi_167_656 : xm_ins 167 656 = some (.iconst 1, 657, 0, 0, 1) := rfl
set_option maxRecDepth 100000 in
theorem xi_167_657 : xm_ins 167 657 = some (.iadd, 658, 0, 0, 0) := rfl
set_option maxRecDepth 100000 in
theorem xi_167_658 : xm_ins 167 658 = some (.iaload, 659, 0, 0, 0) := rfl
set_option maxRecDepth 100000 in
theorem xi_167_659 : xm_ins 167 659 = some (.invokevirtual 101, 662, 77, 2, 2) := rfl
set_option maxRecDepth 100000 in
theorem xi_167_662 : xm_ins 167 662 = some (.aload_n 2, 663, 2, 0, 0) := rfl
set_option maxRecDepth 100000 in
theorem xi_167_663 : xm_ins 167 663 = some (.aload_n 0, 664, 0, 0, 0) := rfl
set_option maxRecDepth 100000 in
theorem xi_167_664 : xm_ins 167 664 = some (.iload_n 3, 665, 3, 0, 0) := rfl
set_option maxRecDepth 100000 in
theorem xi_167_665 : xm_ins 167 665 = some (.iconst 1, 666, 0, 0, 1) := rfl
set_option maxRecDepth 100000 in
theorem xi_167_666 : xm_ins 167 666 = some (.iadd, 667, 0, 0, 0) := rfl
set_option maxRecDepth 100000 in
theorem xi_167_667 : xm_ins 167 667 = some (.iaload, 668, 0, 0, 0) := rfl
set_option maxRecDepth 100000 in
theorem xi_167_668 : xm_ins 167 668 = some (.invokevirtual 104, 671, 164, 2, 3) := rfl
set_option maxRecDepth 100000 in
theorem xi_167_671 : xm_ins 167 671 = some (.if_icmp .eq 18, 674, 689, 0, 0) := rfl
set_option maxRecDepth 100000 in
theorem xi_167_674 : xm_ins 167 674 = some (.iconst 0, 675, 0, 0, 0) := rfl
set_option maxRecDepth 100000 in
theorem xi_167_675 : xm_ins 167 675 = some (.ireturn, 676, 0, 0, 0) := rfl
set_option maxRecDepth 100000 in
theorem xi_167_676 : xm_ins 167 676 = some (.aload_n 1, 677, 1, 0, 0) := rfl
set_option maxRecDepth 100000 in
theorem xi_167_677 : xm_ins 167 677 = some (.invokevirtual 105, 680, 78, 1, 2) := rfl
set_option maxRecDepth 100000 in
theorem xi_167_680 : xm_ins 167 680 = some (.aload_n 2, 681, 2, 0, 0) := rfl
set_option maxRecDepth 100000 in
theorem xi_167_681 : xm_ins 167 681 = some (.invokevirtual 108, 684, 165, 1, 3) := rfl
set_option maxRecDepth 100000 in
theorem xi_167_684 : xm_ins 167 684 = some (.if_icmp .eq 5, 687, 689, 0, 0) := rfl
set_option maxRecDepth 100000 in
theorem xi_167_687 : xm_ins 167 687 = some (.iconst 0, 688, 0, 0, 0) := rfl
set_option maxRecDepth 100000 in
theorem xi_167_688 : xm_ins 167 688 = some (.ireturn, 689, 0, 0, 0) := rfl
set_option maxRecDepth 100000 in
theorem xi_167_689 : xm_ins 167 689 = some (.iinc 3 4, 692, 3, 0, 4) := rfl
set_option maxRecDepth 100000 in
theorem xi_167_692 : xm_ins 167 692 = some (.goto (-674), 695, 18, 0, 0) := rfl
set_option maxRecDepth 100000 in
theorem xi_167_695 : xm_ins 167 695 = some (.iconst 1, 696, 0, 0, 1) := rfl
set_option maxRecDepth 100000 in
theorem xi_167_696 : xm_ins 167 696 = some (.ireturn, 697, 0, 0, 0) := rfl
end
section
section XINV
variable {L : Nat} {xs : Nat → Int32} {rb : Bool} {pc nx x y : Nat} {v : Int} {ls st : List Value} {hp : xm_H} {o : xm_O}
theorem xv_iconst {n : Int} (h : xm_step L xs rb pc (.iconst n, nx, x, y, v) ls st hp = some o) : o = .inl (nx, ls, .int (xm_i v) :: st, hp) := by
  exact (Option.some.inj h).symm
theorem xv_bipush {n : Int} (h : xm_step L xs rb pc (.bipush n, nx, x, y, v) ls st hp = some o) : o = .inl (nx, ls, .int (xm_i v) :: st, hp) := by
  exact (Option.some.inj h).symm
theorem xv_sipush {n : Int} (h : xm_step L xs rb pc (.sipush n, nx, x, y, v) ls st hp = some o) : o = .inl (nx, ls, .int (xm_i v) :: st, hp) := by
  exact (Option.some.inj h).symm
theorem xv_ldc {n : Nat} (h : xm_step L xs rb pc (.ldc n, nx, x, y, v) ls st hp = some o) : o = .inl (nx, ls, .int (xm_i v) :: st, hp) := by
  exact (Option.some.inj h).symm
theorem xv_ldc_w {n : Nat} (h : xm_step L xs rb pc (.ldc_w n, nx, x, y, v) ls st hp = some o) : o = .inl (nx, ls, .int (xm_i v) :: st, hp) := by
  exact (Option.some.inj h).symm
theorem xv_iload_n {n : Fin 4} (h : xm_step L xs rb pc (.iload_n n, nx, x, y, v) ls st hp = some o) : ∃ u, ls[x]? = some (.int u) ∧ o = .inl (nx, ls, .int u :: st, hp) := by
  simp only [xm_step, xm_to] at h
  split at h
  · next u hu => exact ⟨u, hu, (Option.some.inj h).symm⟩
  · cases h
theorem xv_iload {n : Nat} (h : xm_step L xs rb pc (.iload n, nx, x, y, v) ls st hp = some o) : ∃ u, ls[x]? = some (.int u) ∧ o = .inl (nx, ls, .int u :: st, hp) := by
  simp only [xm_step, xm_to] at h
  split at h
  · next u hu => exact ⟨u, hu, (Option.some.inj h).symm⟩
  · cases h
theorem xv_aload_n {n : Fin 4} (h : xm_step L xs rb pc (.aload_n n, nx, x, y, v) ls st hp = some o) : ∃ u, ls[x]? = some u ∧ ((∃ a, u = .ref a) ∨ (∃ a, u = .float a)) ∧ o = .inl (nx, ls, u :: st, hp) := by
  simp only [xm_step, xm_to] at h
  split at h
  · next u hu => exact ⟨_, hu, Or.inl ⟨_, rfl⟩, (Option.some.inj h).symm⟩
  · next u hu => exact ⟨_, hu, Or.inr ⟨_, rfl⟩, (Option.some.inj h).symm⟩
  · cases h
theorem xv_istore_n {n : Fin 4} (h : xm_step L xs rb pc (.istore_n n, nx, x, y, v) ls st hp = some o) : ∃ u r, st = .int u :: r ∧ x < ls.length ∧ o = .inl (nx, ls.set x (.int u), r, hp) := by
  simp only [xm_step, xm_to] at h
  split at h
  · split at h
    · next hx => exact ⟨_, _, rfl, hx, (Option.some.inj h).symm⟩
    · cases h
  · cases h
theorem xv_istore {n : Nat} (h : xm_step L xs rb pc (.istore n, nx, x, y, v) ls st hp = some o) : ∃ u r, st = .int u :: r ∧ x < ls.length ∧ o = .inl (nx, ls.set x (.int u), r, hp) := by
  simp only [xm_step, xm_to] at h
  split at h
  · split at h
    · next hx => exact ⟨_, _, rfl, hx, (Option.some.inj h).symm⟩
    · cases h
  · cases h
theorem xv_astore_n {n : Fin 4} (h : xm_step L xs rb pc (.astore_n n, nx, x, y, v) ls st hp = some o) : ∃ u r, st = .ref u :: r ∧ x < ls.length ∧ o = .inl (nx, ls.set x (.ref u), r, hp) := by
  simp only [xm_step, xm_to] at h
  split at h
  · split at h
    · next hx => exact ⟨_, _, rfl, hx, (Option.some.inj h).symm⟩
    · cases h
  · cases h
theorem xv_iinc {n : Nat} {z : Int} (h : xm_step L xs rb pc (.iinc n z, nx, x, y, v) ls st hp = some o) : ∃ u, ls[x]? = some (.int u) ∧ o = .inl (nx, ls.set x (.int (u + xm_i v)), st, hp) := by
  simp only [xm_step, xm_to] at h
  split at h
  · next u hu => exact ⟨u, hu, (Option.some.inj h).symm⟩
  · cases h
theorem xv_ifCond {c : ClassFile.Cond} {z : Int} (h : xm_step L xs rb pc (.ifCond c z, nx, x, y, v) ls st hp = some o) : ∃ a r, st = .int a :: r ∧ o = .inl (if xm_cb c a 0 then x else nx, ls, r, hp) := by
  simp only [xm_step, xm_to] at h
  split at h
  · exact ⟨_, _, rfl, (Option.some.inj h).symm⟩
  · cases h
theorem xv_icmp {c : ClassFile.Cond} {z : Int} (h : xm_step L xs rb pc (.if_icmp c z, nx, x, y, v) ls st hp = some o) : ∃ a b r, st = .int b :: .int a :: r ∧ o = .inl (if xm_cb c a b then x else nx, ls, r, hp) := by
  simp only [xm_step, xm_to] at h
  split at h
  · exact ⟨_, _, _, rfl, (Option.some.inj h).symm⟩
  · cases h
theorem xv_goto {z : Int} (h : xm_step L xs rb pc (.goto z, nx, x, y, v) ls st hp = some o) : o = .inl (x, ls, st, hp) := by
  exact (Option.some.inj h).symm
theorem xv_pop (h : xm_step L xs rb pc (.pop, nx, x, y, v) ls st hp = some o) : ∃ a r, st = a :: r ∧ o = .inl (nx, ls, r, hp) := by
  simp only [xm_step, xm_to] at h
  split at h
  · exact ⟨_, _, rfl, (Option.some.inj h).symm⟩
  · cases h
theorem xv_dup (h : xm_step L xs rb pc (.dup, nx, x, y, v) ls st hp = some o) : ∃ a r, st = a :: r ∧ o = .inl (nx, ls, a :: a :: r, hp) := by
  simp only [xm_step, xm_to] at h
  split at h
  · exact ⟨_, _, rfl, (Option.some.inj h).symm⟩
  · cases h
theorem xv_dup2 (h : xm_step L xs rb pc (.dup2, nx, x, y, v) ls st hp = some o) : ∃ a b r, st = a :: b :: r ∧ o = .inl (nx, ls, a :: b :: a :: b :: r, hp) := by
  simp only [xm_step, xm_to] at h
  split at h
  · exact ⟨_, _, _, rfl, (Option.some.inj h).symm⟩
  · cases h
theorem xv_getfield {n : Nat} (h : xm_step L xs rb pc (.getfield n, nx, x, y, v) ls st hp = some o) : ∃ a r fs u, st = .ref a :: r ∧ hp[a]? = some (.inr (.inr (x, fs))) ∧ fs[y]? = some u ∧ o = .inl (nx, ls, u :: r, hp) := by
  simp only [xm_step, xm_to] at h
  split at h
  · split at h
    · next a ci fs ha =>
      split at h
      · next hc =>
        subst hc
        split at h
        · next u hu => exact ⟨_, _, _, _, rfl, ha, hu, (Option.some.inj h).symm⟩
        · cases h
      · cases h
    · cases h
  · cases h
theorem xv_putfield {n : Nat} (h : xm_step L xs rb pc (.putfield n, nx, x, y, v) ls st hp = some o) : ∃ u a r fs, st = u :: .ref a :: r ∧ hp[a]? = some (.inr (.inr (x, fs))) ∧ y < fs.length ∧ ((∃ z, u = .int z ∧ v = 0) ∨ (∃ z, u = .ref z ∧ v = 1)) ∧ o = .inl (nx, ls, r, hp.set a (.inr (.inr (x, fs.set y u)))) := by
  simp only [xm_step, xm_to] at h
  split at h
  · split at h
    · next a ci fs ha =>
      split at h
      · next hc =>
        obtain ⟨rfl, hy, hv⟩ := hc
        exact ⟨_, _, _, _, rfl, ha, hy, Or.inl ⟨_, rfl, hv⟩, (Option.some.inj h).symm⟩
      · cases h
    · cases h
  · split at h
    · next a ci fs ha =>
      split at h
      · next hc =>
        obtain ⟨rfl, hy, hv⟩ := hc
        exact ⟨_, _, _, _, rfl, ha, hy, Or.inr ⟨_, rfl, hv⟩, (Option.some.inj h).symm⟩
      · cases h
    · cases h
  · cases h
theorem xv_iaload (h : xm_step L xs rb pc (.iaload, nx, x, y, v) ls st hp = some o) : (∃ j a r n f, st = .int j :: .ref a :: r ∧ hp[a]? = some (.inl (n, f)) ∧ vp_in j n ∧ o = .inl (nx, ls, .int (f j.toNatClampNeg) :: r, hp)) ∨ (∃ j b r, st = .int j :: .float b :: r ∧ vp_in j L ∧ o = .inl (nx, ls, .int (xs j.toNatClampNeg) :: r, hp)) := by
  simp only [xm_step, xm_to] at h
  split at h
  · split at h
    · next n f ha =>
      split at h
      · cases h
      · next hj => exact Or.inl ⟨_, _, _, _, _, rfl, ha, hj, (Option.some.inj h).symm⟩
    · cases h
  · split at h
    · cases h
    · next hj => exact Or.inr ⟨_, _, _, rfl, hj, (Option.some.inj h).symm⟩
  · cases h
theorem xv_iastore (h : xm_step L xs rb pc (.iastore, nx, x, y, v) ls st hp = some o) : ∃ u j a r n f, st = .int u :: .int j :: .ref a :: r ∧ hp[a]? = some (.inl (n, f)) ∧ vp_in j n ∧ o = .inl (nx, ls, r, hp.set a (.inl (n, upd f j.toNatClampNeg u))) := by
  simp only [xm_step, xm_to] at h
  split at h
  · split at h
    · next n f ha =>
      split at h
      · cases h
      · next hj => exact ⟨_, _, _, _, _, _, rfl, ha, hj, (Option.some.inj h).symm⟩
    · cases h
  · cases h
theorem xv_aaload (h : xm_step L xs rb pc (.aaload, nx, x, y, v) ls st hp = some o) : ∃ j a r n f t, st = .int j :: .ref a :: r ∧ hp[a]? = some (.inr (.inl (n, f))) ∧ vp_in j n ∧ f j.toNatClampNeg = some t ∧ o = .inl (nx, ls, .ref t :: r, hp) := by
  simp only [xm_step, xm_to] at h
  split at h
  · split at h
    · next n f ha =>
      split at h
      · cases h
      · next hj =>
        split at h
        · next t ht => exact ⟨_, _, _, _, _, t, rfl, ha, hj, ht, (Option.some.inj h).symm⟩
        · cases h
    · cases h
  · cases h
theorem xv_aastore (h : xm_step L xs rb pc (.aastore, nx, x, y, v) ls st hp = some o) : ∃ t j a r n f fs, st = .ref t :: .int j :: .ref a :: r ∧ hp[a]? = some (.inr (.inl (n, f))) ∧ vp_in j n ∧ hp[t]? = some (.inr (.inr (1, fs))) ∧ o = .inl (nx, ls, r, hp.set a (.inr (.inl (n, va_up f j.toNatClampNeg (some t))))) := by
  simp only [xm_step, xm_to] at h
  split at h
  · split at h
    · next n f ha =>
      split at h
      · cases h
      · next hj =>
        split at h
        · next ci fs ht =>
          split at h
          · next hc =>
            subst hc
            exact ⟨_, _, _, _, _, _, _, rfl, ha, hj, ht, (Option.some.inj h).symm⟩
          · cases h
        · cases h
    · cases h
  · cases h
theorem xv_alen (h : xm_step L xs rb pc (.arraylength, nx, x, y, v) ls st hp = some o) : (∃ a r n f, st = .ref a :: r ∧ hp[a]? = some (.inl (n, f)) ∧ o = .inl (nx, ls, .int (nI n) :: r, hp)) ∨ (∃ b r, st = .float b :: r ∧ o = .inl (nx, ls, .int (nI L) :: r, hp)) := by
  simp only [xm_step, xm_to] at h
  split at h
  · split at h
    · next n f ha => exact Or.inl ⟨_, _, _, _, rfl, ha, (Option.some.inj h).symm⟩
    · cases h
  · exact Or.inr ⟨_, _, rfl, (Option.some.inj h).symm⟩
  · cases h
theorem xv_newarray {t : ArrayType} (h : xm_step L xs rb pc (.newarray t, nx, x, y, v) ls st hp = some o) : ∃ n r, st = .int n :: r ∧ ¬ n < 0 ∧ 4 * n.toNatClampNeg ≤ 536870912 ∧ o = .inl (nx, ls, .ref hp.length :: r, hp ++ [.inl (n.toNatClampNeg, fun _ => 0)]) := by
  simp only [xm_step, xm_to] at h
  split at h
  · split at h
    · cases h
    · next hj => exact ⟨_, _, rfl, fun q => hj (Or.inl q), Nat.not_lt.mp fun q => hj (Or.inr q), (Option.some.inj h).symm⟩
  · cases h
theorem xv_anewarray {t : Nat} (h : xm_step L xs rb pc (.anewarray t, nx, x, y, v) ls st hp = some o) : ∃ n r, st = .int n :: r ∧ ¬ n < 0 ∧ 4 * n.toNatClampNeg ≤ 536870912 ∧ o = .inl (nx, ls, .ref hp.length :: r, hp ++ [.inr (.inl (n.toNatClampNeg, fun _ => none))]) := by
  simp only [xm_step, xm_to] at h
  split at h
  · split at h
    · cases h
    · next hj => exact ⟨_, _, rfl, fun q => hj (Or.inl q), Nat.not_lt.mp fun q => hj (Or.inr q), (Option.some.inj h).symm⟩
  · cases h
theorem xv_new {t : Nat} (h : xm_step L xs rb pc (.new t, nx, x, y, v) ls st hp = some o) : o = .inl (nx, ls, .ref hp.length :: st, hp ++ [.inr (.inr (x, xm_new x))]) := by
  exact (Option.some.inj h).symm
theorem xm_tgt_spec {pc : Nat} {off : Int} {t : Nat} (h : xm_tgt pc off = some t) : (pc : Int) + off = (t : Int) := by
  unfold xm_tgt at h
  split at h
  · cases h
    omega
  · cases h
theorem xv_tsw {d lo hi : Int} {offs : Array Int} (h : xm_step L xs rb pc (.tableswitch d lo hi offs, nx, x, y, v) ls st hp = some o) : ∃ u r, ∃ t : Nat, st = .int u :: r ∧ (((u.toInt < lo ∨ hi < u.toInt) ∧ (pc : Int) + d = (t : Int)) ∨ (¬ u.toInt < lo ∧ ¬ hi < u.toInt ∧ ∃ f, offs[(u.toInt - lo).toNat]? = some f ∧ (pc : Int) + f = (t : Int))) ∧ o = .inl (t, ls, r, hp) := by
  simp only [xm_step, xm_to] at h
  split at h
  · split at h
    · next hj =>
      split at h
      · next t ht => exact ⟨_, _, t, rfl, Or.inl ⟨hj, xm_tgt_spec ht⟩, (Option.some.inj h).symm⟩
      · cases h
    · next hj =>
      split at h
      · next f hf =>
        split at h
        · next t ht => exact ⟨_, _, t, rfl, Or.inr ⟨fun q => hj (Or.inl q), fun q => hj (Or.inr q), f, hf, xm_tgt_spec ht⟩, (Option.some.inj h).symm⟩
        · cases h
      · cases h
  · cases h
theorem xv_lsw {d : Int} {ps : Array (Int × Int)} (h : xm_step L xs rb pc (.lookupswitch d ps, nx, x, y, v) ls st hp = some o) : ∃ u r, ∃ t : Nat, st = .int u :: r ∧ (pc : Int) + Op.lookupswitch.offset ps.toList d u.toInt = (t : Int) ∧ o = .inl (t, ls, r, hp) := by
  simp only [xm_step, xm_to] at h
  split at h
  · split at h
    · next t ht => exact ⟨_, _, t, rfl, xm_tgt_spec ht, (Option.some.inj h).symm⟩
    · cases h
  · cases h
theorem xv_ireturn (h : xm_step L xs rb pc (.ireturn, nx, x, y, v) ls st hp = some o) : ∃ u, st = [.int u] ∧ (rb = true → u = 0 ∨ u = 1) ∧ o = .inr (.inl (some (.int u), hp)) := by
  simp only [xm_step, xm_to] at h
  split at h
  · next u =>
    split at h
    · cases h
    · next hj => exact ⟨u, rfl, fun q => Classical.byContradiction fun z => hj ⟨q, z⟩, (Option.some.inj h).symm⟩
  · cases h
theorem xv_areturn (h : xm_step L xs rb pc (.areturn, nx, x, y, v) ls st hp = some o) : ∃ u, st = [.ref u] ∧ o = .inr (.inl (some (.ref u), hp)) := by
  simp only [xm_step, xm_to] at h
  split at h
  · exact ⟨_, rfl, (Option.some.inj h).symm⟩
  · cases h
theorem xv_return (h : xm_step L xs rb pc (.return_, nx, x, y, v) ls st hp = some o) : st = [] ∧ o = .inr (.inl (none, hp)) := by
  simp only [xm_step, xm_to] at h
  split at h
  · exact ⟨rfl, (Option.some.inj h).symm⟩
  · cases h
theorem xm_take {st as : List Value} {y : Nat} (h : (st.take y).reverse = as) : st = as.reverse ++ st.drop y := by
  rw [← h, List.reverse_reverse, List.take_append_drop]
theorem xv_virt {n : Nat} (h : xm_step L xs rb pc (.invokevirtual n, nx, x, y, v) ls st hp = some o) : ∃ a as ci fs, st = (Value.ref a :: as).reverse ++ st.drop y ∧ hp[a]? = some (.inr (.inr (ci, fs))) ∧ (ci : Int) = v ∧ as.length + 1 = y ∧ (st.drop y).length ≤ 8 ∧ o = .inr (.inr (x, .ref a :: as, nx, ls, st.drop y, hp)) := by
  simp only [xm_step, xm_to] at h
  split at h
  · next a as has =>
    split at h
    · next ci fs ha =>
      split at h
      · next hc =>
        refine ⟨a, as, ci, fs, xm_take has, ha, hc.1, ?_, hc.2.2, (Option.some.inj h).symm⟩
        have h1 := congrArg List.length has
        rw [List.length_reverse, List.length_take, Nat.min_eq_left hc.2.1, List.length_cons] at h1
        exact h1.symm
      · cases h
    · cases h
  · cases h
theorem xv_stat {n : Nat} (h : xm_step L xs rb pc (.invokestatic n, nx, x, y, v) ls st hp = some o) : (x = 1001 ∧ ∃ n dp d sp s r n0 n1 f g, st = .int n :: .int dp :: .ref d :: .int sp :: .ref s :: r ∧ hp[s]? = some (.inl (n0, f)) ∧ hp[d]? = some (.inl (n1, g)) ∧ ¬ sp < 0 ∧ ¬ dp < 0 ∧ ¬ n < 0 ∧ sp.toNatClampNeg + n.toNatClampNeg ≤ n0 ∧ dp.toNatClampNeg + n.toNatClampNeg ≤ n1 ∧ r.length ≤ 8 ∧ o = .inl (nx, ls, r, hp.set d (.inl (n1, va_cpy f g sp.toNatClampNeg dp.toNatClampNeg n.toNatClampNeg)))) ∨ (x = 1002 ∧ ∃ a b r, st = .int b :: .int a :: r ∧ r.length ≤ 8 ∧ o = .inl (nx, ls, .int (if b < a then b else a) :: r, hp)) ∨ (¬ x = 1001 ∧ ¬ x = 1002 ∧ ∃ as, st = as.reverse ++ st.drop y ∧ as.length = y ∧ (st.drop y).length ≤ 8 ∧ o = .inr (.inr (x, as, nx, ls, st.drop y, hp))) := by
  simp only [xm_step, xm_to] at h
  split at h
  · next hx =>
    split at h
    · split at h
      · next n0 f n1 g hs hd =>
        split at h
        · cases h
        · next hj =>
          simp only [not_or, Nat.not_lt] at hj
          exact Or.inl ⟨hx, _, _, _, _, _, _, _, _, _, _, rfl, hs, hd, hj.1, hj.2.1, hj.2.2.1, hj.2.2.2.1, hj.2.2.2.2.1, hj.2.2.2.2.2, (Option.some.inj h).symm⟩
      · cases h
    · cases h
  · next hx =>
    split at h
    · next hx2 =>
      split at h
      · split at h
        · cases h
        · next hr => exact Or.inr (Or.inl ⟨hx2, _, _, _, rfl, Nat.not_lt.mp hr, (Option.some.inj h).symm⟩)
      · cases h
    · next hx2 =>
      split at h
      · next hc =>
        refine Or.inr (Or.inr ⟨hx, hx2, (st.take y).reverse, xm_take rfl, ?_, hc.2, (Option.some.inj h).symm⟩)
        rw [List.length_reverse, List.length_take, Nat.min_eq_left hc.1]
      · cases h
theorem xv_spec {n : Nat} (h : xm_step L xs rb pc (.invokespecial n, nx, x, y, v) ls st hp = some o) : (x = 1000 ∧ ∃ a r, st = .ref a :: r ∧ r.length ≤ 8 ∧ o = .inl (nx, ls, r, hp)) ∨ (¬ x = 1000 ∧ ∃ a as, st = (Value.ref a :: as).reverse ++ st.drop y ∧ as.length + 1 = y ∧ (st.drop y).length ≤ 8 ∧ o = .inr (.inr (x, .ref a :: as, nx, ls, st.drop y, hp))) := by
  simp only [xm_step, xm_to] at h
  split at h
  · next hx =>
    split at h
    · split at h
      · cases h
      · next hr => exact Or.inl ⟨hx, _, _, rfl, Nat.not_lt.mp hr, (Option.some.inj h).symm⟩
    · cases h
  · next hx =>
    split at h
    · next a as has =>
      split at h
      · next hc =>
        refine Or.inr ⟨hx, a, as, xm_take has, ?_, hc.2, (Option.some.inj h).symm⟩
        have h1 := congrArg List.length has
        rw [List.length_reverse, List.length_take, Nat.min_eq_left hc.1, List.length_cons] at h1
        exact h1.symm
      · cases h
    · cases h
theorem xv_iadd (h : xm_step L xs rb pc (.iadd, nx, x, y, v) ls st hp = some o) : ∃ a b r z, st = .int b :: .int a :: r ∧ xm_bin .iadd a b = some z ∧ o = .inl (nx, ls, .int z :: r, hp) := by
  simp only [xm_step, xm_to] at h
  split at h
  · split at h
    · next z hz => exact ⟨_, _, _, z, rfl, hz, (Option.some.inj h).symm⟩
    · cases h
  · cases h
theorem xv_isub (h : xm_step L xs rb pc (.isub, nx, x, y, v) ls st hp = some o) : ∃ a b r z, st = .int b :: .int a :: r ∧ xm_bin .isub a b = some z ∧ o = .inl (nx, ls, .int z :: r, hp) := by
  simp only [xm_step, xm_to] at h
  split at h
  · split at h
    · next z hz => exact ⟨_, _, _, z, rfl, hz, (Option.some.inj h).symm⟩
    · cases h
  · cases h
theorem xv_imul (h : xm_step L xs rb pc (.imul, nx, x, y, v) ls st hp = some o) : ∃ a b r z, st = .int b :: .int a :: r ∧ xm_bin .imul a b = some z ∧ o = .inl (nx, ls, .int z :: r, hp) := by
  simp only [xm_step, xm_to] at h
  split at h
  · split at h
    · next z hz => exact ⟨_, _, _, z, rfl, hz, (Option.some.inj h).symm⟩
    · cases h
  · cases h
theorem xv_iand (h : xm_step L xs rb pc (.iand, nx, x, y, v) ls st hp = some o) : ∃ a b r z, st = .int b :: .int a :: r ∧ xm_bin .iand a b = some z ∧ o = .inl (nx, ls, .int z :: r, hp) := by
  simp only [xm_step, xm_to] at h
  split at h
  · split at h
    · next z hz => exact ⟨_, _, _, z, rfl, hz, (Option.some.inj h).symm⟩
    · cases h
  · cases h
theorem xv_ior (h : xm_step L xs rb pc (.ior, nx, x, y, v) ls st hp = some o) : ∃ a b r z, st = .int b :: .int a :: r ∧ xm_bin .ior a b = some z ∧ o = .inl (nx, ls, .int z :: r, hp) := by
  simp only [xm_step, xm_to] at h
  split at h
  · split at h
    · next z hz => exact ⟨_, _, _, z, rfl, hz, (Option.some.inj h).symm⟩
    · cases h
  · cases h
theorem xv_ixor (h : xm_step L xs rb pc (.ixor, nx, x, y, v) ls st hp = some o) : ∃ a b r z, st = .int b :: .int a :: r ∧ xm_bin .ixor a b = some z ∧ o = .inl (nx, ls, .int z :: r, hp) := by
  simp only [xm_step, xm_to] at h
  split at h
  · split at h
    · next z hz => exact ⟨_, _, _, z, rfl, hz, (Option.some.inj h).symm⟩
    · cases h
  · cases h
theorem xv_ishl (h : xm_step L xs rb pc (.ishl, nx, x, y, v) ls st hp = some o) : ∃ a b r z, st = .int b :: .int a :: r ∧ xm_bin .ishl a b = some z ∧ o = .inl (nx, ls, .int z :: r, hp) := by
  simp only [xm_step, xm_to] at h
  split at h
  · split at h
    · next z hz => exact ⟨_, _, _, z, rfl, hz, (Option.some.inj h).symm⟩
    · cases h
  · cases h
theorem xv_ishr (h : xm_step L xs rb pc (.ishr, nx, x, y, v) ls st hp = some o) : ∃ a b r z, st = .int b :: .int a :: r ∧ xm_bin .ishr a b = some z ∧ o = .inl (nx, ls, .int z :: r, hp) := by
  simp only [xm_step, xm_to] at h
  split at h
  · split at h
    · next z hz => exact ⟨_, _, _, z, rfl, hz, (Option.some.inj h).symm⟩
    · cases h
  · cases h
theorem xv_iushr (h : xm_step L xs rb pc (.iushr, nx, x, y, v) ls st hp = some o) : ∃ a b r z, st = .int b :: .int a :: r ∧ xm_bin .iushr a b = some z ∧ o = .inl (nx, ls, .int z :: r, hp) := by
  simp only [xm_step, xm_to] at h
  split at h
  · split at h
    · next z hz => exact ⟨_, _, _, z, rfl, hz, (Option.some.inj h).symm⟩
    · cases h
  · cases h
theorem xv_idiv (h : xm_step L xs rb pc (.idiv, nx, x, y, v) ls st hp = some o) : ∃ a b r z, st = .int b :: .int a :: r ∧ xm_bin .idiv a b = some z ∧ o = .inl (nx, ls, .int z :: r, hp) := by
  simp only [xm_step, xm_to] at h
  split at h
  · split at h
    · next z hz => exact ⟨_, _, _, z, rfl, hz, (Option.some.inj h).symm⟩
    · cases h
  · cases h
theorem xv_irem (h : xm_step L xs rb pc (.irem, nx, x, y, v) ls st hp = some o) : ∃ a b r z, st = .int b :: .int a :: r ∧ xm_bin .irem a b = some z ∧ o = .inl (nx, ls, .int z :: r, hp) := by
  simp only [xm_step, xm_to] at h
  split at h
  · split at h
    · next z hz => exact ⟨_, _, _, z, rfl, hz, (Option.some.inj h).symm⟩
    · cases h
  · cases h
end XINV
end
section
/-! what the abstract machine's cells, values and locals are on the machine -/
def xm_es (e : xm_E) : Nat := match e with
  | .inl q => q.1
  | .inr (.inl q) => q.1
  | .inr (.inr q) => q.2.length
def xm_sz (hp : xm_H) : Nat := (hp.map xm_es).sum
theorem xm_sz_set {hp : xm_H} {a : Nat} {e e' : xm_E} (h : hp[a]? = some e) (he : xm_es e' = xm_es e) : xm_sz (hp.set a e') = xm_sz hp := by
  unfold xm_sz
  congr 1
  apply List.ext_getElem?
  intro i
  rw [List.getElem?_map, List.getElem?_map, List.getElem?_set]
  by_cases hi : a = i
  · subst hi
    have hl : a < hp.length := (List.getElem?_eq_some_iff.mp h).1
    rw [if_pos rfl, if_pos hl, h]
    simp [he]
  · rw [if_neg hi]
theorem xm_sz_push (hp : xm_H) (e : xm_E) : xm_sz (hp ++ [e]) = xm_sz hp + xm_es e := by
  simp [xm_sz]
def xm_va (B bs : Nat) (v : Value) : Value := match v with
  | .int u => .int u
  | .ref i => .ref (bs + i)
  | .float _ => .ref B
  | _ => .null
theorem xm_va_cat (B bs : Nat) (v : Value) : (xm_va B bs v).category = 1 := by cases v <;> rfl
def xm_ce (B bs : Nat) (cI cV : ClassId) (e : xm_E) : va_E := match e with
  | .inl (n, f) => .inl (cI, n, .inl f)
  | .inr (.inl (n, g)) => .inl (cV, n, .inr (.inr (.inr (.inr (fun j => (g j).map (fun t => bs + t))))))
  | .inr (.inr (ci, fs)) => .inr (ci, fs.map (xm_va B bs))
def xm_P (D : va_G) (B bs : Nat) (cI cV : ClassId) (H0 : Heap) (hp : xm_H) (H : Heap) : Prop :=
  H.size = bs + hp.length ∧ (∀ q : Nat, q < bs → H[q]? = H0[q]?) ∧ ∀ (i : Nat) (e : xm_E), hp[i]? = some e → va_at D vwCl (bs + i, xm_ce B bs cI cV e) H
theorem xm_P.set {D : va_G} {B bs : Nat} {cI cV : ClassId} {H0 H H' : Heap} {hp : xm_H} {a : Nat} {e' : xm_E} (h : xm_P D B bs cI cV H0 hp H) (ha : va_at D vwCl (bs + a, xm_ce B bs cI cV e') H') (hz : H'.size = H.size) (hq : ∀ q : Nat, q ≠ bs + a → H'[q]? = H[q]?) : xm_P D B bs cI cV H0 (hp.set a e') H' := by
  refine ⟨by rw [hz, h.1, List.length_set], fun q hl => ?_, fun i e hi => ?_⟩
  · rw [hq q (by omega)]
    exact h.2.1 q hl
  · rw [List.getElem?_set] at hi
    by_cases hia : a = i
    · subst hia
      rw [if_pos rfl] at hi
      split at hi
      · cases hi
        exact ha
      · cases hi
    · rw [if_neg hia] at hi
      exact (h.2.2 i e hi).kept (hq _ (by show bs + i ≠ bs + a; omega))
theorem xm_P.push {D : va_G} {B bs : Nat} {cI cV : ClassId} {H0 H H' : Heap} {hp : xm_H} {e' : xm_E} (h : xm_P D B bs cI cV H0 hp H) (ha : va_at D vwCl (bs + hp.length, xm_ce B bs cI cV e') H') (hz : H'.size = H.size + 1) (hq : ∀ q : Nat, q < H.size → H'[q]? = H[q]?) : xm_P D B bs cI cV H0 (hp ++ [e']) H' := by
  refine ⟨by rw [hz, h.1, List.length_append]; rfl, fun q hl => ?_, fun i e hi => ?_⟩
  · rw [hq q (by rw [h.1]; omega)]
    exact h.2.1 q hl
  · by_cases hl : i < hp.length
    · rw [List.getElem?_append_left hl] at hi
      exact (h.2.2 i e hi).kept (hq _ (by show bs + i < H.size; rw [h.1]; omega))
    · rw [List.getElem?_append_right (by omega)] at hi
      have hz : i - hp.length < 1 := (List.getElem?_eq_some_iff.mp hi).1
      have hi0 : i = hp.length := by omega
      subst hi0
      rw [Nat.sub_self] at hi
      cases hi
      exact ha
def xm_K (D : va_G) (B bs : Nat) (cI cV : ClassId) (L : Nat) (xs : Nat → Int32) (H0 : Heap) (U : State) : Prop :=
  va_K D vwCl [(cI, .int), (cV, .object RX1)] U ∧ va_X B L xs U H0 ∧ (B < bs ∧ bs = H0.size) ∧ va_Nw (.methodLinkNest RX2 17 ⟨RX0, "<init>", "()V"⟩ RX2) U ∧ va_Nw (.methodLinkNest RX1 89 ⟨RX2, "has", "(II)Z"⟩ RX2) U ∧ va_AO RX1 U
/-- the locals: what isn't null is there -/
def xm_L (B bs nL : Nat) (ls : List Value) (lsC : Array Slot) : Prop := ls.length = nL ∧ ∃ l : List (Nat × Value), lv_has lsC nL l ∧ (∀ q ∈ l, q.2.category = 1) ∧ ∀ (i : Nat) (v : Value), ls[i]? = some v → v ≠ .null → (i, xm_va B bs v) ∈ l
theorem xm_L.get {B bs nL : Nat} {ls : List Value} {lsC : Array Slot} (h : xm_L B bs nL ls lsC) {i : Nat} {v : Value} (hi : ls[i]? = some v) (hv : v ≠ .null) : lsC[i]? = some (.val (xm_va B bs v)) := by
  obtain ⟨-, l, h1, -, h3⟩ := h
  exact h1.2.2 _ (h3 i v hi hv)
theorem xm_L.put {B bs nL : Nat} {ls : List Value} {lsC' : Array Slot} {l : List (Nat × Value)} {i : Nat} {v : Value} (hlen : ls.length = nL) (hl : ∀ (i : Nat) (v : Value), ls[i]? = some v → v ≠ .null → (i, xm_va B bs v) ∈ l) (hc : ∀ q ∈ l, q.2.category = 1) (h : lv_has lsC' nL ((i, xm_va B bs v) :: l.filter (fun q => !(q.1 == i) && !(q.1 + 1 == i && q.2.category == 2)))) : xm_L B bs nL (ls.set i v) lsC' := by
  refine ⟨by rw [List.length_set]; exact hlen, _, h, fun q hq => ?_, fun j w hj hw => ?_⟩
  · rcases List.mem_cons.mp hq with rfl | hq
    · exact xm_va_cat B bs v
    · exact hc q (List.mem_filter.mp hq).1
  · rw [List.getElem?_set] at hj
    by_cases hij : i = j
    · subst hij
      rw [if_pos rfl] at hj
      split at hj
      · cases hj
        exact List.mem_cons_self
      · cases hj
    · rw [if_neg hij] at hj
      have hm := hl j w hj hw
      refine List.mem_cons_of_mem _ (List.mem_filter.mpr ⟨hm, ?_⟩)
      have h1 : (j == i) = false := by simp; omega
      have h2 : ((xm_va B bs w).category == 2) = false := by rw [xm_va_cat]; rfl
      simp only [h1, h2, Bool.and_false, Bool.not_false, Bool.and_self]
theorem xm_args {vs : List Value} (hc : ∀ v ∈ vs, v.category = 1) : ∀ (i j : Nat) (v : Value), vs[j]? = some v → (i + j, v) ∈ lv_args i vs := by
  induction vs with
  | nil => intro i j v h; simp at h
  | cons w vs ih =>
    intro i j v h
    have hw : ¬ w.category = 2 := by rw [hc w List.mem_cons_self]; decide
    cases j with
    | zero =>
      cases h
      exact List.mem_cons_self
    | succ j =>
      have h1 := ih (fun v hv => hc v (List.mem_cons_of_mem _ hv)) (i + 1) j v h
      unfold lv_args
      rw [if_neg hw]
      rw [show i + (j + 1) = i + 1 + j by omega]
      exact List.mem_cons_of_mem _ h1
theorem xm_args_cat {vs : List Value} (hc : ∀ v ∈ vs, v.category = 1) : ∀ (i : Nat), ∀ q ∈ lv_args i vs, q.2.category = 1 := by
  induction vs with
  | nil => intro i q h; cases h
  | cons w vs ih =>
    intro i q h
    unfold lv_args at h
    rcases List.mem_cons.mp h with rfl | h
    · exact hc _ List.mem_cons_self
    · exact ih (fun v hv => hc v (List.mem_cons_of_mem _ hv)) _ q h
theorem xm_sl_len {vs : List Value} (hc : ∀ v ∈ vs, v.category = 1) : (lg_sl vs).length = vs.length := by
  induction vs with
  | nil => rfl
  | cons w vs ih =>
    have hw : ¬ w.category = 2 := by rw [hc w List.mem_cons_self]; decide
    have h1 := ih (fun v hv => hc v (List.mem_cons_of_mem _ hv))
    simp only [lg_sl, List.flatMap_cons, if_neg hw, List.length_append, List.length_cons, List.length_nil] at h1 ⊢
    omega
theorem xm_entry (B bs : Nat) {as : List Value} {nL : Nat} (h : as.length ≤ nL) : xm_L B bs nL (as ++ List.replicate (nL - as.length) .null) ((lg_sl (as.map (xm_va B bs)) ++ List.replicate (nL - (lg_sl (as.map (xm_va B bs))).length) Slot.unset).toArray) := by
  have hc : ∀ v ∈ as.map (xm_va B bs), v.category = 1 := by
    intro v hv
    obtain ⟨u, -, rfl⟩ := List.mem_map.mp hv
    exact xm_va_cat B bs u
  have hlen := xm_sl_len hc
  rw [List.length_map] at hlen
  refine ⟨by simp; omega, lv_args 0 (as.map (xm_va B bs)), lv_entry _ (by omega), xm_args_cat hc 0, fun i v hi hv => ?_⟩
  by_cases hl : i < as.length
  · rw [List.getElem?_append_left hl] at hi
    have h1 := xm_args hc 0 i (xm_va B bs v) (by rw [List.getElem?_map, hi]; rfl)
    rwa [Nat.zero_add] at h1
  · rw [List.getElem?_append_right (by omega)] at hi
    have h2 := (List.mem_replicate.mp (List.mem_of_getElem? hi)).2
    exact absurd h2 hv
theorem xm_cats (B bs : Nat) (st : List Value) : ((st.map (xm_va B bs)).map fun v => v.category).sum = st.length := by
  induction st with
  | nil => rfl
  | cons v st ih =>
    simp only [List.map_cons, List.sum_cons, ih, xm_va_cat, List.length_cons]
    omega
/-- cells and their elements only grow -/
theorem xm_step_mono {L : Nat} {xs : Nat → Int32} {rb : Bool} {pc : Nat} {q : xm_Q} {ls st : List Value} {hp : xm_H} {o : xm_O} (h : xm_step L xs rb pc q ls st hp = some o) :
    match o with
    | .inl (_, _, _, hp') => hp.length ≤ hp'.length ∧ xm_sz hp ≤ xm_sz hp'
    | .inr (.inl (_, hp')) => hp' = hp
    | .inr (.inr (_, _, _, _, _, hp')) => hp' = hp := by
  obtain ⟨i, nx, x, y, v⟩ := q
  cases i
  case iconst n => cases xv_iconst h; exact ⟨Nat.le_refl _, Nat.le_refl _⟩
  case bipush n => cases xv_bipush h; exact ⟨Nat.le_refl _, Nat.le_refl _⟩
  case sipush n => cases xv_sipush h; exact ⟨Nat.le_refl _, Nat.le_refl _⟩
  case ldc n => cases xv_ldc h; exact ⟨Nat.le_refl _, Nat.le_refl _⟩
  case ldc_w n => cases xv_ldc_w h; exact ⟨Nat.le_refl _, Nat.le_refl _⟩
  case iload_n n => obtain ⟨_, _, rfl⟩ := xv_iload_n h; exact ⟨Nat.le_refl _, Nat.le_refl _⟩
  case iload n => obtain ⟨_, _, rfl⟩ := xv_iload h; exact ⟨Nat.le_refl _, Nat.le_refl _⟩
  case aload_n n => obtain ⟨_, _, _, rfl⟩ := xv_aload_n h; exact ⟨Nat.le_refl _, Nat.le_refl _⟩
  case istore_n n => obtain ⟨_, _, _, _, rfl⟩ := xv_istore_n h; exact ⟨Nat.le_refl _, Nat.le_refl _⟩
  case istore n => obtain ⟨_, _, _, _, rfl⟩ := xv_istore h; exact ⟨Nat.le_refl _, Nat.le_refl _⟩
  case astore_n n => obtain ⟨_, _, _, _, rfl⟩ := xv_astore_n h; exact ⟨Nat.le_refl _, Nat.le_refl _⟩
  case iinc n z => obtain ⟨_, _, rfl⟩ := xv_iinc h; exact ⟨Nat.le_refl _, Nat.le_refl _⟩
  case ifCond c z => obtain ⟨_, _, _, rfl⟩ := xv_ifCond h; exact ⟨Nat.le_refl _, Nat.le_refl _⟩
  case if_icmp c z => obtain ⟨_, _, _, _, rfl⟩ := xv_icmp h; exact ⟨Nat.le_refl _, Nat.le_refl _⟩
  case goto z => cases xv_goto h; exact ⟨Nat.le_refl _, Nat.le_refl _⟩
  case pop => obtain ⟨_, _, _, rfl⟩ := xv_pop h; exact ⟨Nat.le_refl _, Nat.le_refl _⟩
  case dup => obtain ⟨_, _, _, rfl⟩ := xv_dup h; exact ⟨Nat.le_refl _, Nat.le_refl _⟩
  case dup2 => obtain ⟨_, _, _, _, rfl⟩ := xv_dup2 h; exact ⟨Nat.le_refl _, Nat.le_refl _⟩
  case getfield n => obtain ⟨_, _, _, _, _, _, _, rfl⟩ := xv_getfield h; exact ⟨Nat.le_refl _, Nat.le_refl _⟩
  case putfield n =>
    obtain ⟨_, _, _, _, _, ha, _, _, rfl⟩ := xv_putfield h
    exact ⟨by rw [List.length_set]; exact Nat.le_refl _, by rw [xm_sz_set ha (by simp [xm_es])]; exact Nat.le_refl _⟩
  case iaload => rcases xv_iaload h with ⟨_, _, _, _, _, _, _, _, rfl⟩ | ⟨_, _, _, _, _, rfl⟩ <;> exact ⟨Nat.le_refl _, Nat.le_refl _⟩
  case iastore =>
    obtain ⟨_, _, _, _, _, _, _, ha, _, rfl⟩ := xv_iastore h
    exact ⟨by rw [List.length_set]; exact Nat.le_refl _, by rw [xm_sz_set ha (by simp [xm_es])]; exact Nat.le_refl _⟩
  case aaload => obtain ⟨_, _, _, _, _, _, _, _, _, _, rfl⟩ := xv_aaload h; exact ⟨Nat.le_refl _, Nat.le_refl _⟩
  case aastore =>
    obtain ⟨_, _, _, _, _, _, _, _, ha, _, _, rfl⟩ := xv_aastore h
    exact ⟨by rw [List.length_set]; exact Nat.le_refl _, by rw [xm_sz_set ha (by simp [xm_es])]; exact Nat.le_refl _⟩
  case arraylength => rcases xv_alen h with ⟨_, _, _, _, _, _, rfl⟩ | ⟨_, _, _, rfl⟩ <;> exact ⟨Nat.le_refl _, Nat.le_refl _⟩
  case newarray t => obtain ⟨_, _, _, _, _, rfl⟩ := xv_newarray h; exact ⟨by rw [List.length_append]; omega, by rw [xm_sz_push]; omega⟩
  case anewarray t => obtain ⟨_, _, _, _, _, rfl⟩ := xv_anewarray h; exact ⟨by rw [List.length_append]; omega, by rw [xm_sz_push]; omega⟩
  case new t => cases xv_new h; exact ⟨by rw [List.length_append]; omega, by rw [xm_sz_push]; omega⟩
  case tableswitch d lo hi offs => obtain ⟨_, _, _, _, _, rfl⟩ := xv_tsw h; exact ⟨Nat.le_refl _, Nat.le_refl _⟩
  case lookupswitch d ps => obtain ⟨_, _, _, _, _, rfl⟩ := xv_lsw h; exact ⟨Nat.le_refl _, Nat.le_refl _⟩
  case ireturn => obtain ⟨_, _, _, rfl⟩ := xv_ireturn h; rfl
  case areturn => obtain ⟨_, _, rfl⟩ := xv_areturn h; rfl
  case return_ => obtain ⟨_, rfl⟩ := xv_return h; rfl
  case invokevirtual n => obtain ⟨_, _, _, _, _, _, _, _, _, rfl⟩ := xv_virt h; rfl
  case invokestatic n =>
    rcases xv_stat h with ⟨_, _, _, _, _, _, _, _, _, _, _, _, _, hd, _, _, _, _, _, _, rfl⟩ | ⟨_, _, _, _, _, _, rfl⟩ | ⟨_, _, _, _, _, _, rfl⟩
    · exact ⟨by rw [List.length_set]; exact Nat.le_refl _, by rw [xm_sz_set hd (by simp [xm_es])]; exact Nat.le_refl _⟩
    · exact ⟨Nat.le_refl _, Nat.le_refl _⟩
    · rfl
  case invokespecial n =>
    rcases xv_spec h with ⟨_, _, _, _, _, rfl⟩ | ⟨_, _, _, _, _, _, rfl⟩
    · exact ⟨Nat.le_refl _, Nat.le_refl _⟩
    · rfl
  case iadd => obtain ⟨_, _, _, _, _, _, rfl⟩ := xv_iadd h; exact ⟨Nat.le_refl _, Nat.le_refl _⟩
  case isub => obtain ⟨_, _, _, _, _, _, rfl⟩ := xv_isub h; exact ⟨Nat.le_refl _, Nat.le_refl _⟩
  case imul => obtain ⟨_, _, _, _, _, _, rfl⟩ := xv_imul h; exact ⟨Nat.le_refl _, Nat.le_refl _⟩
  case iand => obtain ⟨_, _, _, _, _, _, rfl⟩ := xv_iand h; exact ⟨Nat.le_refl _, Nat.le_refl _⟩
  case ior => obtain ⟨_, _, _, _, _, _, rfl⟩ := xv_ior h; exact ⟨Nat.le_refl _, Nat.le_refl _⟩
  case ixor => obtain ⟨_, _, _, _, _, _, rfl⟩ := xv_ixor h; exact ⟨Nat.le_refl _, Nat.le_refl _⟩
  case ishl => obtain ⟨_, _, _, _, _, _, rfl⟩ := xv_ishl h; exact ⟨Nat.le_refl _, Nat.le_refl _⟩
  case ishr => obtain ⟨_, _, _, _, _, _, rfl⟩ := xv_ishr h; exact ⟨Nat.le_refl _, Nat.le_refl _⟩
  case iushr => obtain ⟨_, _, _, _, _, _, rfl⟩ := xv_iushr h; exact ⟨Nat.le_refl _, Nat.le_refl _⟩
  case idiv => obtain ⟨_, _, _, _, _, _, rfl⟩ := xv_idiv h; exact ⟨Nat.le_refl _, Nat.le_refl _⟩
  case irem => obtain ⟨_, _, _, _, _, _, rfl⟩ := xv_irem h; exact ⟨Nat.le_refl _, Nat.le_refl _⟩
  all_goals
    exfalso
    simp only [xm_step, xm_bin] at h
    split at h <;> cases h
theorem xm_ex_mono {L : Nat} {xs : Nat → Int32} : ∀ (n k pc : Nat) (ls st : List Value) (hp : xm_H) (r : xm_R), xm_ex L xs n k pc ls st hp = some r → hp.length ≤ r.2.length ∧ xm_sz hp ≤ xm_sz r.2 := by
  intro n
  induction n with
  | zero => intro k pc ls st hp r h; cases h
  | succ n ih =>
    intro k pc ls st hp r h
    unfold xm_ex at h
    split at h
    · cases h
    · next q hq =>
      split at h
      · cases h
      · next pc' ls' st' hp' hs =>
        have h1 := xm_step_mono hs
        have h2 := ih _ _ _ _ _ _ h
        exact ⟨Nat.le_trans h1.1 h2.1, Nat.le_trans h1.2 h2.2⟩
      · next r' hs =>
        have h1 := xm_step_mono hs
        cases h
        obtain ⟨a, b⟩ := r
        have h1 : b = hp := h1
        subst h1
        exact ⟨Nat.le_refl _, Nat.le_refl _⟩
      · next j as nx ls' rest hp1 hs =>
        have h1 := xm_step_mono hs
        have h1 : hp1 = hp := h1
        subst h1
        split at h
        · cases h
        · next hp' hc =>
          have h2 := ih _ _ _ _ _ _ hc
          have h3 := ih _ _ _ _ _ _ h
          exact ⟨Nat.le_trans h2.1 h3.1, Nat.le_trans h2.2 h3.2⟩
        · next u hp' hc =>
          have h2 := ih _ _ _ _ _ _ hc
          have h3 := ih _ _ _ _ _ _ h
          exact ⟨Nat.le_trans h2.1 h3.1, Nat.le_trans h2.2 h3.2⟩
end
section
/-! the tables hold what the machine's tables say: checked by program -/
def xm_ws : List Jvm.Cond := lw_tbl.filter goodWord
def xm_tb (t : Nat) : List Jvm.Cond := match t with
  | 0 => k2_sels lw_privs
  | 1 => tables_1_1
  | 2 => tables_1_2
  | 3 => tables_1_3
  | _ => tables_1_4
theorem xm_tb_in {t : Nat} {w : Jvm.Cond} (h : w ∈ xm_tb t) : w ∈ lw_tbl := by
  unfold xm_tb at h
  unfold lw_tbl tables_1
  simp only [List.mem_append]
  split at h
  · exact Or.inl h
  · exact Or.inr (Or.inl h)
  · exact Or.inr (Or.inr (Or.inl h))
  · exact Or.inr (Or.inr (Or.inr (Or.inl h)))
  · exact Or.inr (Or.inr (Or.inr (Or.inr h)))
/-- a word, by its place -/
def xm_mem (ps : List Nat) (j : Nat) (w : Jvm.Cond) : Bool := decide ((xm_tb (ps.getD j 0 / 1000))[ps.getD j 0 % 1000]? = some w) && goodWord w
theorem xm_mem_good {ps : List Nat} {j : Nat} {w : Jvm.Cond} (h : xm_mem ps j w = true) : w ∈ xm_ws ∧ ((w.onTables && w.keeps) = true ∨ ∃ ty, w = .arrayClass ty) := by
  simp only [xm_mem, Bool.and_eq_true, decide_eq_true_eq] at h
  exact ⟨List.mem_filter.mpr ⟨xm_tb_in (List.mem_of_getElem? h.1), h.2⟩, good_of_word h.2⟩
theorem xm_mem_ws {ps : List Nat} {j : Nat} {w : Jvm.Cond} (h : xm_mem ps j w = true) : w ∈ xm_ws := (xm_mem_good h).1
theorem xm_ws_good : GoodIn xm_ws xm_ws := fun _ h => ⟨h, good_of_word (List.mem_filter.mp h).2⟩
def xm_len (i : Instr) (pc nx : Nat) : Nat := match i with
  | .bipush _ => 2
  | .sipush _ => 3
  | .ldc _ => 2
  | .ldc_w _ => 3
  | .iload _ => 2
  | .aload _ => 2
  | .istore _ => 2
  | .iinc _ _ => 3
  | .ifCond _ _ => 3
  | .if_icmp _ _ => 3
  | .goto _ => 3
  | .getfield _ => 3
  | .putfield _ => 3
  | .new _ => 3
  | .anewarray _ => 3
  | .newarray _ => 2
  | .invokevirtual _ => 3
  | .invokestatic _ => 3
  | .invokespecial _ => 3
  | .tableswitch _ _ _ _ => nx - pc
  | .lookupswitch _ _ => nx - pc
  | _ => 1
/-- a callee: its code, its class, its arguments, its room -/
def xm_okC (ps : List Nat) (fr lo : Nat) (x : Nat) (j : xm_M) (y pn : Nat) : Bool := match j with
  | (ownj, yj, _, nLj, _, frj, loj) => decide (x < 167) && (xm_mem ps 0 (.initialized yj.cls) && (decide (yj.cls ≠ "java/lang/invoke/MethodHandle" ∧ yj.cls ≠ "java/lang/invoke/VarHandle") && (decide ((parseMethodDescriptor yj.desc).map (fun d => d.parameters.length) = some pn) && (decide (frj + 1 ≤ fr ∧ 8 + (nLj + 11) + loj ≤ lo) && (decide (y ≤ nLj) && (decide (ownj = yj.cls) && plainName yj.cls))))))
def xm_okX (ps : List Nat) (M : xm_M) (pc : Nat) (q : xm_Q) : Bool := match M with
  | (own, yk, _, _, rt, fr, lo) => match q with
    | (i, _, x, y, v) => match i with
      | .iconst n => decide (Int32.ofInt n = xm_i v)
      | .bipush n => decide ((Int8.ofInt n).toInt32 = xm_i v)
      | .sipush n => decide ((Int16.ofInt n).toInt32 = xm_i v)
      | .ldc n => xm_mem ps 0 (.constant own n (xm_i v))
      | .ldc_w n => xm_mem ps 0 (.constant own n (xm_i v))
      | .iload_n n => decide ((n : Nat) = x)
      | .iload n => decide (n = x)
      | .aload_n n => decide ((n : Nat) = x)
      | .istore_n n => decide ((n : Nat) = x)
      | .istore n => decide (n = x)
      | .astore_n n => decide ((n : Nat) = x)
      | .iinc n z => decide (n = x ∧ Int32.ofInt z = xm_i v)
      | .ifCond _ z => decide ((pc : Int) + z = (x : Int))
      | .if_icmp _ z => decide ((pc : Int) + z = (x : Int))
      | .goto z => decide ((pc : Int) + z = (x : Int))
      | .getfield n => match vwCl[x]? with
        | some (_, T, N) => decide (y < N) && xm_mem ps 0 (.fieldLink own n (T y).1 (T y).2.1 (T y).2.2.1)
        | none => false
      | .putfield n => match vwCl[x]? with
        | some (_, T, N) => decide (y < N) && (xm_mem ps 0 (.fieldLink own n (T y).1 (T y).2.1 (T y).2.2.1) && (decide ((T y).2.2.2 = false ∨ ((T y).2.2.2 = true ∧ yk.name = "<init>" ∧ (T y).1 = own)) && (match parseFieldDescriptor (T y).2.2.1 with
          | some .int => decide (v = 0)
          | some (.object _) => decide (v = 1)
          | some (.array _) => decide (v = 1)
          | _ => false)))
        | none => false
      | .new n => match vwCl[x]? with
        | some (C, _, N) => xm_mem ps 0 (.classLink own n C) && (xm_mem ps 1 (.instantiable C N) && xm_mem ps 2 (.initialized C))
        | none => false
      | .newarray t => decide (t = .int) && xm_mem ps 0 (.arrayClass .int)
      | .anewarray n => xm_mem ps 0 (.classLink own n RX1)
      | .lookupswitch _ ps => (ps.toList.zip (ps.toList.drop 1)).all (fun (a, next) => a.1 < next.1)
      | .ireturn => decide (rt = some .int ∨ rt = some .boolean)
      | .areturn => match rt with
        | some (.object _) => true
        | some (.array _) => true
        | _ => false
      | .return_ => decide (rt = none)
      | .invokevirtual n => match xm_ms[x]? with
        | some j => xm_okC ps fr lo x j y (y - 1) && (xm_mem ps 1 (.methodLink own n j.2.1) && (xm_mem ps 2 (.instanceMethod j.2.1) && (xm_mem ps 3 (.selects j.2.1.cls j.2.1 j.2.1) && (match vwCl[v.toNat]? with
          | some (C, _, _) => decide (C = j.2.1.cls)
          | none => false))))
        | none => false
      | .invokestatic n => if x = 1001 then xm_mem ps 0 (.methodLink own n arraycopyName) && (xm_mem ps 1 (.native arraycopyName) && (xm_mem ps 2 (.static arraycopyName) && (xm_mem ps 3 (.initialized "java/lang/System") && decide (1 ≤ fr ∧ 8 + (nativeFrameWords "java/lang/System" "arraycopy" 5 + 11) ≤ lo))))
        else if x = 1002 then xm_mem ps 0 (.methodLink own n Lib.Math.min.name) && (xm_mem ps 1 (.static Lib.Math.min.name) && (xm_mem ps 2 (.initialized "java/lang/Math") && (xm_mem ps 3 (.code Lib.Math.min.name Lib.Math.min.code 2 (some .int)) && decide (1 ≤ fr ∧ 21 ≤ lo))))
        else match xm_ms[x]? with
        | some j => xm_okC ps fr lo x j y y && ((xm_mem ps 1 (.methodLink own n j.2.1) || decide (own = RX1 ∧ n = 89 ∧ j.2.1 = ⟨RX2, "has", "(II)Z"⟩)) && xm_mem ps 2 (.static j.2.1))
        | none => false
      | .invokespecial n => if x = 1000 then xm_mem ps 0 (.methodLink own n objectInit) && (xm_mem ps 1 (.instanceMethod objectInit) && (xm_mem ps 2 (.code objectInit ⟨#[0xb1]⟩ 1 none) && decide (1 ≤ fr ∧ 20 ≤ lo)))
        else match xm_ms[x]? with
        | some j => xm_okC ps fr lo x j y (y - 1) && ((xm_mem ps 1 (.methodLink own n j.2.1) || decide (own = RX2 ∧ n = 17 ∧ j.2.1 = ⟨RX0, "<init>", "()V"⟩)) && (xm_mem ps 2 (.instanceMethod j.2.1) && decide (j.2.1.name = "<init>" ∧ j.2.2.2.2.1 = none)))
        | none => false
      | _ => true
def xm_okB (M : xm_M) (ps : List Nat) (e : Nat × xm_Q) : Bool := decide (decode M.2.2.1 e.1 = .ok (e.2.1, xm_len e.2.1 e.1 e.2.2.1)) && (decide (e.2.2.1 = e.1 + xm_len e.2.1 e.1 e.2.2.1) && xm_okX ps M e.1 e.2)
def xm_okT (M : xm_M) : List (Nat × xm_Q) → List (List Nat) → Bool
  | e :: t, p :: ps => xm_okB M p e && xm_okT M t ps
  | [], _ => true
  | _, _ => false
def xm_okP : List (List (Nat × xm_Q)) → List xm_M → Prop
  | t :: ts, m :: ms => (∃ ps, xm_okT m t ps = true) ∧ xm_okP ts ms
  | _, _ => True
theorem xm_okT_app {M : xm_M} : ∀ (a b : List (Nat × xm_Q)) (p q : List (List Nat)), a.length = p.length → xm_okT M a p = true → xm_okT M b q = true → xm_okT M (a ++ b) (p ++ q) = true := by
  intro a
  induction a with
  | nil =>
    intro b p q h1 h2 h3
    cases p with
    | nil => exact h3
    | cons _ _ => cases h1
  | cons e a ih =>
    intro b p q h1 h2 h3
    cases p with
    | nil => cases h1
    | cons x p =>
      simp only [xm_okT, Bool.and_eq_true, List.cons_append] at h2 ⊢
      exact ⟨h2.1, ih b p q (by simpa using h1) h2.2 h3⟩
theorem xm_okT_get {M : xm_M} : ∀ (t : List (Nat × xm_Q)) (ps : List (List Nat)) (e : Nat × xm_Q), xm_okT M t ps = true → e ∈ t → ∃ p, xm_okB M p e = true := by
  intro t
  induction t with
  | nil => intro ps e _ h; cases h
  | cons a t ih =>
    intro ps e h he
    cases ps with
    | nil => cases h
    | cons p ps =>
      simp only [xm_okT, Bool.and_eq_true] at h
      rcases List.mem_cons.mp he with rfl | he
      · exact ⟨p, h.1⟩
      · exact ih ps e h.2 he
theorem xk_0 : ∃ ps, xm_okT xq_0 xt_0 ps = true := ⟨[[], [1023, 1014, 1015], [], [], [1046], [1024], [], [], [1046], [1025], [], [], [1026], [], [], [1028], [], [], [1029], [], [], [1031], []], by decide +kernel⟩
theorem xk_1 : ∃ ps, xm_okT xq_1 xt_1 ps = true := ⟨[[], [1026], [], [], [2172], [], [], [1024], [], [1026], [], [], [], [], [1026], [], [], [1026], [], [1026], []], by decide +kernel⟩
theorem xk_2 : ∃ ps, xm_okT xq_2 xt_2 ps = true := ⟨[[], [], [], [], [1028], [], [], [1031], [], [], [], [], [1028], [], [1026], [], [], [1031], [], [], [], [], [1028], [1029], [], [1002, 2185, 2187, 12], [], [], [], [], [1002, 2189, 2191, 13], [], [], [], [], [1002, 2207, 2209, 16], [1002, 2219, 2220], [], [], [1031], [], [], []], by decide +kernel⟩
theorem xk_3 : ∃ ps, xm_okT xq_3 xt_3 ps = true := ⟨[[], [1002, 2193, 2194], [], [], [], [], [], [], [], [], [1028], [], [], [1028], [], [], [], [], [], [], [], [], [], [], [], [], [1002, 2196, 2198, 14], [], [], [], [], [1002, 2200, 2202, 15], [], [], [], [], [], [], [], [1025], [], [], [], [], [], [], [], [1002, 2196, 2198, 14], []], by decide +kernel⟩
theorem xk_4 : ∃ ps, xm_okT xq_4 xt_4 ps = true := ⟨[[], [], [], [], [], [], [], [], [], [], [], []], by decide +kernel⟩
theorem xk_5 : ∃ ps, xm_okT xq_5 xt_5 ps = true := ⟨[[], [1002, 2185, 2187, 12], [1002, 2204, 2205], [], [], [], [], [1002, 2185, 2187, 12], [], [], [], [], [], [1028], [], [], [1028], [], [1002, 2185, 2187, 12], [1002, 2204, 2205], [], [], [], [], [], [1002, 2185, 2187, 12], [], [], [], [], [], [], [1028], [], [], [1028], [], []], by decide +kernel⟩
theorem xk_6 : ∃ ps, xm_okT xq_6 xt_6 ps = true := ⟨[[], [1028], [], [], [1028], [], [1026], [], [], [1028], [], [], [], [1024], [], [1028], [], [], [], []], by decide +kernel⟩
theorem xk_7 : ∃ ps, xm_okT xq_7 xt_7 ps = true := ⟨[[], [1002, 2185, 2187, 12], [], [], [], [], [], [], [1028], [], [], [1028], [], []], by decide +kernel⟩
theorem xk_8 : ∃ ps, xm_okT xq_8 xt_8 ps = true := ⟨[[], [], [], [], [], [], [], [], [], []], by decide +kernel⟩
theorem xk_9_0 : xm_okT xq_9 [(0, .iload_n 2, 1, 2, 0, 0), (1, .tableswitch 174 104 119 #[84, 174, 174, 174, 101, 174, 79, 174, 152, 174, 174, 112, 174, 135, 174, 163], 80, 0, 0, 0), (80, .aload_n 1, 81, 1, 0, 0), (81, .invokevirtual 60, 84, 14, 1, 1), (84, .ireturn, 85, 0, 0, 0), (85, .aload_n 1, 86, 1, 0, 0), (86, .aload_n 0, 87, 0, 0, 0), (87, .getfield 15, 90, 0, 1, 1), (90, .iconst 0, 91, 0, 0, 0), (91, .iaload, 92, 0, 0, 0), (92, .aload_n 0, 93, 0, 0, 0), (93, .getfield 15, 96, 0, 1, 1), (96, .iconst 1, 97, 0, 0, 1), (97, .iaload, 98, 0, 0, 0), (98, .invokevirtual 65, 101, 15, 3, 1), (101, .ireturn, 102, 0, 0, 0), (102, .aload_n 1, 103, 1, 0, 0), (103, .aload_n 0, 104, 0, 0, 0), (104, .getfield 15, 107, 0, 1, 1), (107, .iconst 0, 108, 0, 0, 0), (108, .iaload, 109, 0, 0, 0), (109, .invokevirtual 69, 112, 16, 2, 1), (112, .ireturn, 113, 0, 0, 0), (113, .aload_n 1, 114, 1, 0, 0), (114, .aload_n 0, 115, 0, 0, 0), (115, .getfield 15, 118, 0, 1, 1), (118, .iconst 0, 119, 0, 0, 0), (119, .iaload, 120, 0, 0, 0), (120, .aload_n 0, 121, 0, 0, 0), (121, .getfield 15, 124, 0, 1, 1), (124, .iconst 1, 125, 0, 0, 1), (125, .iaload, 126, 0, 0, 0), (126, .aload_n 0, 127, 0, 0, 0), (127, .getfield 15, 130, 0, 1, 1), (130, .iconst 2, 131, 0, 0, 2), (131, .iaload, 132, 0, 0, 0), (132, .invokevirtual 72, 135, 17, 4, 1), (135, .ireturn, 136, 0, 0, 0), (136, .aload_n 1, 137, 1, 0, 0), (137, .aload_n 0, 138, 0, 0, 0), (138, .getfield 15, 141, 0, 1, 1), (141, .iconst 0, 142, 0, 0, 0), (142, .iaload, 143, 0, 0, 0), (143, .aload_n 0, 144, 0, 0, 0), (144, .getfield 15, 147, 0, 1, 1), (147, .iconst 1, 148, 0, 0, 1), (148, .iaload, 149, 0, 0, 0), (149, .invokevirtual 76, 152, 18, 3, 1), (152, .ireturn, 153, 0, 0, 0), (153, .aload_n 1, 154, 1, 0, 0), (154, .aload_n 0, 155, 0, 0, 0), (155, .getfield 15, 158, 0, 1, 1), (158, .iconst 0, 159, 0, 0, 0), (159, .iaload, 160, 0, 0, 0), (160, .invokevirtual 79, 163, 19, 2, 1), (163, .ireturn, 164, 0, 0, 0), (164, .aload_n 1, 165, 1, 0, 0), (165, .aload_n 0, 166, 0, 0, 0), (166, .getfield 15, 169, 0, 1, 1), (169, .iconst 0, 170, 0, 0, 0)] [[], [], [], [1003, 2211, 1130, 1131], [], [], [], [1025], [], [], [], [1025], [], [], [1003, 2212, 1159, 1160], [], [], [], [1025], [], [], [1003, 2213, 1179, 1180], [], [], [], [1025], [], [], [], [1025], [], [], [], [1025], [], [], [1003, 2214, 1187, 1188], [], [], [], [1025], [], [], [], [1025], [], [], [1003, 2215, 1214, 1215], [], [], [], [1025], [], [], [1003, 2216, 1222, 1223], [], [], [], [1025], []] = true := by decide +kernel
theorem xk_9_1 : xm_okT xq_9 [(170, .iaload, 171, 0, 0, 0), (171, .invokevirtual 82, 174, 21, 2, 1), (174, .ireturn, 175, 0, 0, 0), (175, .aload_n 1, 176, 1, 0, 0), (176, .invokevirtual 85, 179, 22, 1, 1), (179, .ireturn, 180, 0, 0, 0)] [[], [1003, 2217, 2007, 2008], [], [], [1003, 2218, 2071, 2072], []] = true := by decide +kernel
set_option maxRecDepth 100000 in
theorem xk_9 : ∃ ps, xm_okT xq_9 xt_9 ps = true := ⟨_, (xm_okT_app _ _ _ _ rfl xk_9_0 xk_9_1)⟩
theorem xk_10 : ∃ ps, xm_okT xq_10 xt_10 ps = true := ⟨[[], [], [], [], [], [2222], [], [], [], [], []], by decide +kernel⟩
theorem xk_11 : ∃ ps, xm_okT xq_11 xt_11 ps = true := ⟨[[], [1051, 1014, 1015], [], [], [1046], [1055], [], [], [1046], [1057], [], [], [1046], [1059], [], [], [1046], [1060], [], [], [1046], [1061], [], [], [1046], [1062], [], [], [1064], [], [], [1066], [], [], [1068], [], [], [1070], [], [], [1072], [], [1055], [1003, 1052, 1053], [], [1057], [1003, 1052, 1053], [], [1059], [1003, 1052, 1053], [], [1060], [1003, 1052, 1053], [], [1062], [1003, 1052, 1053], []], by decide +kernel⟩
theorem xk_12 : ∃ ps, xm_okT xq_12 xt_12 ps = true := ⟨[[], [], [], [], [], [], [], [], [], [], [], [], []], by decide +kernel⟩
theorem xk_13_0 : xm_okT xq_13 [(0, .aload_n 1, 1, 1, 0, 0), (1, .getfield 9, 4, 1, 0, 1), (4, .iconst 0, 5, 0, 0, 0), (5, .aload_n 0, 6, 0, 0, 0), (6, .getfield 9, 9, 1, 0, 1), (9, .iconst 0, 10, 0, 0, 0), (10, .bipush 8, 12, 0, 0, 8), (12, .invokestatic 50, 15, 1001, 0, 0), (15, .aload_n 1, 16, 1, 0, 0), (16, .getfield 15, 19, 1, 1, 1), (19, .iconst 0, 20, 0, 0, 0), (20, .aload_n 0, 21, 0, 0, 0), (21, .getfield 15, 24, 1, 1, 1), (24, .iconst 0, 25, 0, 0, 0), (25, .bipush 40, 27, 0, 0, 40), (27, .invokestatic 50, 30, 1001, 0, 0), (30, .aload_n 1, 31, 1, 0, 0), (31, .getfield 18, 34, 1, 2, 1), (34, .iconst 0, 35, 0, 0, 0), (35, .aload_n 0, 36, 0, 0, 0), (36, .getfield 18, 39, 1, 2, 1), (39, .iconst 0, 40, 0, 0, 0), (40, .bipush 30, 42, 0, 0, 30), (42, .invokestatic 50, 45, 1001, 0, 0), (45, .aload_n 1, 46, 1, 0, 0), (46, .getfield 21, 49, 1, 3, 1), (49, .iconst 0, 50, 0, 0, 0), (50, .aload_n 0, 51, 0, 0, 0), (51, .getfield 21, 54, 1, 3, 1), (54, .iconst 0, 55, 0, 0, 0), (55, .bipush 90, 57, 0, 0, 90), (57, .invokestatic 50, 60, 1001, 0, 0), (60, .aload_n 1, 61, 1, 0, 0), (61, .getfield 24, 64, 1, 4, 1), (64, .iconst 0, 65, 0, 0, 0), (65, .aload_n 0, 66, 0, 0, 0), (66, .getfield 24, 69, 1, 4, 1), (69, .iconst 0, 70, 0, 0, 0), (70, .bipush 30, 72, 0, 0, 30), (72, .invokestatic 50, 75, 1001, 0, 0), (75, .aload_n 1, 76, 1, 0, 0), (76, .getfield 27, 79, 1, 5, 1), (79, .iconst 0, 80, 0, 0, 0), (80, .aload_n 0, 81, 0, 0, 0), (81, .getfield 27, 84, 1, 5, 1), (84, .iconst 0, 85, 0, 0, 0), (85, .iconst 4, 86, 0, 0, 4), (86, .invokestatic 50, 89, 1001, 0, 0), (89, .aload_n 0, 90, 0, 0, 0), (90, .aload_n 1, 91, 1, 0, 0), (91, .getfield 30, 94, 1, 6, 0), (94, .putfield 30, 97, 1, 6, 0), (97, .aload_n 0, 98, 0, 0, 0), (98, .aload_n 1, 99, 1, 0, 0), (99, .getfield 34, 102, 1, 7, 0), (102, .putfield 34, 105, 1, 7, 0), (105, .aload_n 0, 106, 0, 0, 0), (106, .aload_n 1, 107, 1, 0, 0), (107, .getfield 37, 110, 1, 8, 0), (110, .putfield 37, 113, 1, 8, 0)] [[], [1055], [], [], [1055], [], [], [1126, 1128, 1127, 1005], [], [1057], [], [], [1057], [], [], [1126, 1128, 1127, 1005], [], [1059], [], [], [1059], [], [], [1126, 1128, 1127, 1005], [], [1060], [], [], [1060], [], [], [1126, 1128, 1127, 1005], [], [1061], [], [], [1061], [], [], [1126, 1128, 1127, 1005], [], [1062], [], [], [1062], [], [], [1126, 1128, 1127, 1005], [], [], [1064], [1064], [], [], [1066], [1066], [], [], [1068], [1068]] = true := by decide +kernel
theorem xk_13_1 : xm_okT xq_13 [(113, .aload_n 0, 114, 0, 0, 0), (114, .aload_n 1, 115, 1, 0, 0), (115, .getfield 40, 118, 1, 9, 0), (118, .putfield 40, 121, 1, 9, 0), (121, .aload_n 0, 122, 0, 0, 0), (122, .aload_n 1, 123, 1, 0, 0), (123, .getfield 43, 126, 1, 10, 0), (126, .putfield 43, 129, 1, 10, 0), (129, .return_, 130, 0, 0, 0)] [[], [], [1070], [1070], [], [], [1072], [1072], []] = true := by decide +kernel
set_option maxRecDepth 100000 in
theorem xk_13 : ∃ ps, xm_okT xq_13 xt_13 ps = true := ⟨_, (xm_okT_app _ _ _ _ rfl xk_13_0 xk_13_1)⟩
theorem xk_14 : ∃ ps, xm_okT xq_14 xt_14 ps = true := ⟨[[], [], [1003, 1133, 1135, 2], [], [], [], [], [1141], [], [], [1066], [], [], [1142], [], [], [1066], [], [], [], [1066], [], [], [1066], [], [], [], [], [1003, 1143, 1145, 4], [], []], by decide +kernel⟩
theorem xk_15 : ∃ ps, xm_okT xq_15 xt_15 ps = true := ⟨[[], [1003, 1162, 1163], [], [], [], [1003, 1165, 1166, 1167], [], [1169], [], [], [1062], [], [], [], [], [1003, 1170, 1171, 1172], []], by decide +kernel⟩
theorem xk_16 : ∃ ps, xm_okT xq_16 xt_16 ps = true := ⟨[[], [1003, 1162, 1163], [], [1169], [], [], [1062], [], [], [], [], [], [], [1141], [], [], [1062], [], [], [], [], []], by decide +kernel⟩
theorem xk_17 : ∃ ps, xm_okT xq_17 xt_17 ps = true := ⟨[[], [], [1003, 1165, 1166, 1167], [], [], [1003, 1190, 1191], [], [], [], [1003, 1165, 1166, 1167], [], [1169], [], [], [1060], [], [], [], [], [], [], [], [], [], [], [1003, 1193, 1194, 1195], [], [], [], [], []], by decide +kernel⟩
theorem xk_18 : ∃ ps, xm_okT xq_18 xt_18 ps = true := ⟨[[], [], [1003, 1165, 1166, 1167], [], [], [1003, 1190, 1191], [], [1169], [], [], [], [], [1003, 1197, 1198, 1199], [], [], [], [], [1141], [], [], [1060], [], [], [], [], [], [], [], [], []], by decide +kernel⟩
theorem xk_19 : ∃ ps, xm_okT xq_19 xt_19 ps = true := ⟨[[], [], [1003, 1165, 1166, 1167], [], [1169], [], [], [1064], [], [1001, 9999, 1226], [], [1141], [], [], [], [1064], [], [], [], [], [1064], [], [1064], [1007, 1228, 1229], []], by decide +kernel⟩
theorem xk_20 : ∃ ps, xm_okT xq_20 xt_20 ps = true := ⟨[[], [], [1003, 1165, 1166, 1167], [], [1169], [], [], [1064], [], [1001, 9999, 1226], [], [1141], [], [], [], [1064], [], [], [], [], [], [], [1064], [], [1064], [1007, 1228, 1229], []], by decide +kernel⟩
theorem xk_21_0 : xm_okT xq_21 [(0, .iload_n 1, 1, 1, 0, 0), (1, .ifCond .lt 8, 4, 9, 0, 0), (4, .iload_n 1, 5, 1, 0, 0), (5, .iconst 2, 6, 0, 0, 2), (6, .if_icmp .lt 6, 9, 12, 0, 0), (9, .ldc 73, 11, 0, 0, (-1000001)), (11, .ireturn, 12, 0, 0, 0), (12, .aload_n 0, 13, 0, 0, 0), (13, .iload_n 1, 14, 1, 0, 0), (14, .invokevirtual 97, 17, 52, 2, 1), (17, .istore_n 2, 18, 2, 0, 0), (18, .aload_n 0, 19, 0, 0, 0), (19, .iload_n 1, 20, 1, 0, 0), (20, .invokevirtual 100, 23, 48, 2, 1), (23, .iload_n 2, 24, 2, 0, 0), (24, .iconst (-1), 25, 0, 0, (-1)), (25, .ixor, 26, 0, 0, 0), (26, .iand, 27, 0, 0, 0), (27, .istore_n 3, 28, 3, 0, 0), (28, .aload_n 0, 29, 0, 0, 0), (29, .iconst 0, 30, 0, 0, 0), (30, .invokevirtual 103, 33, 46, 2, 1), (33, .istore 4, 35, 4, 0, 0), (35, .aload_n 0, 36, 0, 0, 0), (36, .iload_n 2, 37, 2, 0, 0), (37, .aload_n 0, 38, 0, 0, 0), (38, .getfield 30, 41, 1, 6, 0), (41, .iand, 42, 0, 0, 0), (42, .invokevirtual 106, 45, 23, 2, 1), (45, .iconst 0, 46, 0, 0, 0), (46, .istore 5, 48, 5, 0, 0), (48, .iload 5, 50, 5, 0, 0), (50, .bipush 30, 52, 0, 0, 30), (52, .if_icmp .ge 52, 55, 104, 0, 0), (55, .iload_n 2, 56, 2, 0, 0), (56, .aload_n 0, 57, 0, 0, 0), (57, .getfield 30, 60, 1, 6, 0), (60, .iconst (-1), 61, 0, 0, (-1)), (61, .ixor, 62, 0, 0, 0), (62, .iand, 63, 0, 0, 0), (63, .iload 5, 65, 5, 0, 0), (65, .invokestatic 89, 68, 83, 2, 2), (68, .ifCond .eq 30, 71, 98, 0, 0), (71, .aload_n 0, 72, 0, 0, 0), (72, .iload 5, 74, 5, 0, 0), (74, .iload 4, 76, 4, 0, 0), (76, .iload 5, 78, 5, 0, 0), (78, .invokestatic 89, 81, 83, 2, 2), (81, .ifCond .eq 7, 84, 88, 0, 0), (84, .iconst 1, 85, 0, 0, 1), (85, .goto 4, 88, 89, 0, 0), (88, .iconst 2, 89, 0, 0, 2), (89, .invokevirtual 110, 92, 24, 3, 1), (92, .ifCond .ne 6, 95, 98, 0, 0), (95, .ldc 60, 97, 0, 0, (-1000002)), (97, .ireturn, 98, 0, 0, 0), (98, .iinc 5 1, 101, 5, 0, 1), (101, .goto (-53), 104, 48, 0, 0), (104, .aload_n 0, 105, 0, 0, 0), (105, .iload_n 3, 106, 3, 0, 0)] [[], [], [], [], [], [1169], [], [], [], [1003, 2010, 2011, 2012], [], [], [], [1003, 2014, 2015, 2016], [], [], [], [], [], [], [], [1003, 2038, 2039, 2040], [], [], [], [], [1064], [], [1003, 2042, 2044, 7], [], [], [], [], [], [], [], [1064], [], [], [], [], [1001, 9999, 1226], [], [], [], [], [], [1001, 9999, 1226], [], [], [], [], [1003, 2050, 2052, 8], [], [1141], [], [], [], [], []] = true := by decide +kernel
theorem xk_21_1 : xm_okT xq_21 [(106, .invokevirtual 113, 109, 27, 2, 1), (109, .aload_n 0, 110, 0, 0, 0), (110, .dup, 111, 0, 0, 0), (111, .getfield 37, 114, 1, 8, 0), (114, .iconst 1, 115, 0, 0, 1), (115, .iadd, 116, 0, 0, 0), (116, .putfield 37, 119, 1, 8, 0), (119, .iload_n 3, 120, 3, 0, 0), (120, .invokestatic 92, 123, 166, 1, 0), (123, .ireturn, 124, 0, 0, 0)] [[1003, 2058, 2060, 10], [], [], [1068], [], [], [1068], [], [1007, 1228, 1229], []] = true := by decide +kernel
set_option maxRecDepth 100000 in
theorem xk_21 : ∃ ps, xm_okT xq_21 xt_21 ps = true := ⟨_, (xm_okT_app _ _ _ _ rfl xk_21_0 xk_21_1)⟩
theorem xk_22 : ∃ ps, xm_okT xq_22 xt_22 ps = true := ⟨[[], [1003, 2022, 2023, 2024], [], [1003, 2074, 2075, 2076], [], [], [], [], [], [], [1003, 2058, 2060, 10], [], [], [1070], [], [], [1070], [], [1007, 1228, 1229], []], by decide +kernel⟩
theorem xk_23 : ∃ ps, xm_okT xq_23 xt_23 ps = true := ⟨[[], [], [], [], [], [], [], [1003, 2046, 2047, 2048], [], [], [], [], [1055], [], [], [], [], [], [], [], [], []], by decide +kernel⟩
theorem xk_24 : ∃ ps, xm_okT xq_24 xt_24 ps = true := ⟨[[], [], [1003, 1133, 1135, 2], [], [], [], [], [], [], [], [], [1003, 2054, 2056, 9], [], [], [], [], [1003, 1143, 1145, 4], [], [1061], [], [], [], [], [], [], [], [], [1072], [], [], [1072], [], []], by decide +kernel⟩
theorem xk_25 : ∃ ps, xm_okT xq_25 xt_25 ps = true := ⟨[[], [1055], [], [], [], [], [], [], [1057], [], [], [], [], [1059], [], [], [], []], by decide +kernel⟩
theorem xk_26 : ∃ ps, xm_okT xq_26 xt_26 ps = true := ⟨[[], [1059], [], [], [], [], [], [], [], [1057], [], [], [], [], [1059], [], [], [], []], by decide +kernel⟩
theorem xk_27 : ∃ ps, xm_okT xq_27 xt_27 ps = true := ⟨[[], [], [], [], [], [], [], [1001, 9999, 1226], [], [], [], [1003, 2054, 2056, 9], [], [], [], [], [], [], [1060], [], [], [], [], [], [], [], [], [], [], [], [], [1003, 2062, 2064, 11], []], by decide +kernel⟩
theorem xk_28 : ∃ ps, xm_okT xq_28 xt_28 ps = true := ⟨[[], [], [], [], [], [], [], [1003, 2046, 2047, 2048], [], [], [1055], [], [], [], [], [], []], by decide +kernel⟩
theorem xk_29 : ∃ ps, xm_okT xq_29 xt_29 ps = true := ⟨[[], [], [], [], [], [], [1055], [], [], [], [], [], [], [1003, 1137, 1139, 3], [], [], [], [], [], [], [], [], [], [], [], [], [], [], [1055], [], [], [], [], [], [], [], [], [], [], [], []], by decide +kernel⟩
theorem xk_30 : ∃ ps, xm_okT xq_30 xt_30 ps = true := ⟨[[], [], [], [], [], [], [], [], [], [], [], [], [1057], [], [], [], [], [], [], [], [], [], []], by decide +kernel⟩
theorem xk_31 : ∃ ps, xm_okT xq_31 xt_31 ps = true := ⟨[[], [], [], [], [], [], [], [], []], by decide +kernel⟩
theorem xk_32 : ∃ ps, xm_okT xq_32 xt_32 ps = true := ⟨[[], [], [], [], [], [], [], [], []], by decide +kernel⟩
theorem xk_33 : ∃ ps, xm_okT xq_33 xt_33 ps = true := ⟨[[], [], [], [], [], [], [], [1066], [], [], [], [], []], by decide +kernel⟩
theorem xk_34 : ∃ ps, xm_okT xq_34 xt_34 ps = true := ⟨[[], [], [], [], [], [], [1059], [], [], [], [], [], [], [], []], by decide +kernel⟩
theorem xk_35 : ∃ ps, xm_okT xq_35 xt_35 ps = true := ⟨[[], [], [1003, 1165, 1166, 1167], [], [], [], [], [1059], [], [], [], [], [], [], [], [1059], [], [], [], [], [], []], by decide +kernel⟩
theorem xk_36 : ∃ ps, xm_okT xq_36 xt_36 ps = true := ⟨[[], [], [1003, 1165, 1166, 1167], [], [], [1055], [], [1059], [], [], [], [], [], [], [], []], by decide +kernel⟩
theorem xk_37 : ∃ ps, xm_okT xq_37 xt_37 ps = true := ⟨[[], [], [1003, 1201, 1202, 1203], [], [], [1061], [], [], [], [], []], by decide +kernel⟩
theorem xk_38 : ∃ ps, xm_okT xq_38 xt_38 ps = true := ⟨[[], [], [1003, 1201, 1202, 1203], [], [], [1003, 1190, 1191], [], [], [], [], [1060], [], [], [], [], [], [], []], by decide +kernel⟩
theorem xk_39 : ∃ ps, xm_okT xq_39 xt_39 ps = true := ⟨[[], [], [], [1003, 1197, 1198, 1199], [], [], [], [], [], [], [1003, 1205, 1206, 1207], [], [], [1003, 1205, 1206, 1207], [], [], [], [], []], by decide +kernel⟩
theorem xk_40 : ∃ ps, xm_okT xq_40 xt_40 ps = true := ⟨[[], [], [], [], [], [], [], [], [1062], [], [], [], [], [], [], [], [], [], [], [], [], [], []], by decide +kernel⟩
theorem xk_41 : ∃ ps, xm_okT xq_41 xt_41 ps = true := ⟨[[], [], [], [], [], [], [], [], [], [], [], [], [], [1060], [], [], [], [], [], [], [], [], [], [], [], [], [], [], [], [], [], [], [], []], by decide +kernel⟩
theorem xk_42 : ∃ ps, xm_okT xq_42 xt_42 ps = true := ⟨[[], [], [], [], [], [], [], [], [], [], [], [], [], [1057], [], [], [], [], [], [], [], [], [], [], [], [], [], [], [], [], [], [], [], []], by decide +kernel⟩
theorem xk_43 : ∃ ps, xm_okT xq_43 xt_43 ps = true := ⟨[[], [], [], [], [], [], [], [], [1062], [], [], [], [], [], [], [], [], []], by decide +kernel⟩
theorem xk_44 : ∃ ps, xm_okT xq_44 xt_44 ps = true := ⟨[[], [], [], [], [], [], [], [], [1055], [], [], [], [], [], [], [], [], []], by decide +kernel⟩
theorem xk_45 : ∃ ps, xm_okT xq_45 xt_45 ps = true := ⟨[[], [], [], [], [], [], [], [], [], [], [], [], [], [], [], [1003, 1193, 1194, 1195], [], [], [], [], [], [], [], []], by decide +kernel⟩
theorem xk_46 : ∃ ps, xm_okT xq_46 xt_46 ps = true := ⟨[[], [], [], [1003, 2018, 2020, 6], []], by decide +kernel⟩
theorem xk_47 : ∃ ps, xm_okT xq_47 xt_47 ps = true := ⟨[[], [], [], [1003, 2018, 2020, 6], []], by decide +kernel⟩
theorem xk_48 : ∃ ps, xm_okT xq_48 xt_48 ps = true := ⟨[[], [], [], [1003, 2018, 2020, 6], []], by decide +kernel⟩
theorem xk_49 : ∃ ps, xm_okT xq_49 xt_49 ps = true := ⟨[[], [], [], [], [], [], [], [], [1059], [], [], [], [], [], [], [], [1055], [], [], [], [], [], [], [], [], [], [], [], [], [], [], [], [], [], [], [], [], []], by decide +kernel⟩
theorem xk_50 : ∃ ps, xm_okT xq_50 xt_50 ps = true := ⟨[[], [1064], [], [], [], [], [], [], [], [1062], [], [], [], [], [], [], [], [1062], [], [], [], [], [], [], [], [], []], by decide +kernel⟩
theorem xk_51 : ∃ ps, xm_okT xq_51 xt_51 ps = true := ⟨[[], [], [1003, 2030, 2031, 2032], [], [1003, 2022, 2023, 2024], [1003, 2034, 2035, 2036], []], by decide +kernel⟩
theorem xk_52 : ∃ ps, xm_okT xq_52 xt_52 ps = true := ⟨[[], [], [1003, 2014, 2015, 2016], [], [], [], [1003, 2022, 2023, 2024], [], [], [], [], [1003, 2026, 2027, 2028], [], [], [], [1003, 2030, 2031, 2032], [], [], [], [1003, 2034, 2035, 2036], []], by decide +kernel⟩
theorem xk_53 : ∃ ps, xm_okT xq_53 xt_53 ps = true := ⟨[[], [], [], [], [], [], [], [], [], [], [], [], [], [], [], [], [], [], [], [1060], [], [], [], [], [], [], [], [], [], [], [], [], [], [], [], [], [], [], [], [], [], []], by decide +kernel⟩
theorem xk_54 : ∃ ps, xm_okT xq_54 xt_54 ps = true := ⟨[[], [], [], [], [], [], [], [], [], [], [], [], [], [], [], [1003, 2026, 2027, 2028], [], [], [], [], [], [], [], [], [], [], [], [], [], [], []], by decide +kernel⟩
theorem xk_55 : ∃ ps, xm_okT xq_55 xt_55 ps = true := ⟨[[], [1013, 1014, 1015], [], [], [1016], [1097], [], [1018, 1019, 1002], [], [1002, 9999, 1021], [1098], [], [], [1099], [], [], [1100], [], [], [], [], [], [], [1097], [], [1016, 1047, 1003], [], [1003, 1048, 1049], [], [], [], []], by decide +kernel⟩
theorem xk_56 : ∃ ps, xm_okT xq_56 xt_56 ps = true := ⟨[[], [], [1001, 1114, 1116, 0], [1003, 1129, 1130, 1131], [1001, 1147, 1149, 5], []], by decide +kernel⟩
theorem xk_57 : ∃ ps, xm_okT xq_57 xt_57 ps = true := ⟨[[], [], [1001, 1114, 1116, 0], [], [], [1003, 1158, 1159, 1160], [1001, 1147, 1149, 5], []], by decide +kernel⟩
theorem xk_58 : ∃ ps, xm_okT xq_58 xt_58 ps = true := ⟨[[], [], [1001, 1114, 1116, 0], [], [1003, 1178, 1179, 1180], [1001, 1147, 1149, 5], []], by decide +kernel⟩
theorem xk_59 : ∃ ps, xm_okT xq_59 xt_59 ps = true := ⟨[[], [], [1001, 1114, 1116, 0], [], [], [], [1003, 1186, 1187, 1188], [1001, 1147, 1149, 5], []], by decide +kernel⟩
theorem xk_60 : ∃ ps, xm_okT xq_60 xt_60 ps = true := ⟨[[], [], [1001, 1114, 1116, 0], [], [], [1003, 1213, 1214, 1215], [1001, 1147, 1149, 5], []], by decide +kernel⟩
theorem xk_61 : ∃ ps, xm_okT xq_61 xt_61 ps = true := ⟨[[], [], [1001, 1114, 1116, 0], [], [1003, 1221, 1222, 1223], [1001, 1147, 1149, 5], []], by decide +kernel⟩
theorem xk_62 : ∃ ps, xm_okT xq_62 xt_62 ps = true := ⟨[[], [], [1001, 1114, 1116, 0], [], [1003, 1238, 1239, 2000], [1001, 1147, 1149, 5], []], by decide +kernel⟩
theorem xk_63 : ∃ ps, xm_okT xq_63 xt_63 ps = true := ⟨[[], [], [1001, 1114, 1116, 0], [], [1003, 2006, 2007, 2008], [1001, 1147, 1149, 5], []], by decide +kernel⟩
theorem xk_64 : ∃ ps, xm_okT xq_64 xt_64 ps = true := ⟨[[], [], [1001, 1114, 1116, 0], [1003, 2070, 2071, 2072], [1001, 1147, 1149, 5], []], by decide +kernel⟩
theorem xk_65 : ∃ ps, xm_okT xq_65 xt_65 ps = true := ⟨[[], [1001, 1118, 1120, 1], [], [], [], [1003, 2082, 1202, 1203], [], [2083], [], [], [], [], [], [1003, 2084, 1166, 1167], [], [], [], [], [], [], [], [1003, 2085, 2086, 2087], [1001, 2089, 2090], [], [], [], [1003, 2093, 1206, 1207], [1001, 2089, 2090], [], [], [1065], [], [1001, 2094, 1226], [], [], [], [], [], [], [], [], [], [], [1003, 2095, 1198, 1199], [1001, 2089, 2090], [], [], [], [1003, 2096, 2097, 2098], [], [], [], [1003, 2100, 2101, 2102], [], [], [], [1003, 2104, 2105, 2106], [], [2083], []], by decide +kernel⟩
theorem xk_66 : ∃ ps, xm_okT xq_66 xt_66 ps = true := ⟨[[], [], [], [], [], [2083], [], [], [1001, 1118, 1120, 1], [], [], [], [], [1056], [], [], [1001, 2089, 2090], [], [], [], [1003, 2112, 2047, 2048], [1007, 2113, 1229], [], [], [], [1003, 2112, 2047, 2048], [], [], [1058], [], [], [], [], [], [], [], [], [1001, 2089, 2090], [], [2083], []], by decide +kernel⟩
theorem xk_67 : ∃ ps, xm_okT xq_67 xt_67 ps = true := ⟨[[], [], [], [], [], [2083], [], [], [1001, 1118, 1120, 1], [1063], [], [], [1001, 2089, 2090], []], by decide +kernel⟩
theorem xk_68 : ∃ ps, xm_okT xq_68 xt_68 ps = true := ⟨[[], [], [2083], [], [], [1001, 1118, 1120, 1], [], [], [], [], [], [], [], [], [], [], [], [], [], [], [], [], [1003, 2122, 1194, 1195], [], [], [], [], [], [], [], [], [], [], [], [], [], [], [2092], []], by decide +kernel⟩
theorem xk_69 : ∃ ps, xm_okT xq_69 xt_69 ps = true := ⟨[[], [1001, 1118, 1120, 1], [], [], [], [], [1003, 2127, 2075, 2076], [], [], [1003, 2128, 2023, 2024], [], [1003, 2127, 2075, 2076], [], [], [], [], [2083], []], by decide +kernel⟩
theorem xk_70 : ∃ ps, xm_okT xq_70 xt_70 ps = true := ⟨[[], [], [], [], [], [2083], [], [], [1001, 1118, 1120, 1], [], [], [], [1003, 2133, 2011, 2012], [], [], [], [], [], [], [], [1003, 2134, 2015, 2016], [], [], [], [], [], [], [], [1065], [], [], [], [1007, 2113, 1229], [], [], [1001, 1114, 1116, 0], [], [1003, 2006, 2007, 2008], [], [], [], [], [], [2083], []], by decide +kernel⟩
theorem xk_71 : ∃ ps, xm_okT xq_71 xt_71 ps = true := ⟨[[], [1001, 1118, 1120, 1], [], [], [], [1003, 2084, 1166, 1167], [], [2083], [], [], [1003, 2128, 2023, 2024], [], [], [], [], [], [], [], [], [], [1003, 2139, 2031, 2032], [], [1003, 2140, 2035, 2036], [], [], [1003, 2127, 2075, 2076], [], [], [], [], [], [], []], by decide +kernel⟩
theorem xk_72 : ∃ ps, xm_okT xq_72 xt_72 ps = true := ⟨[[], [1001, 1118, 1120, 1], [], [], [], [1003, 2084, 1166, 1167], [], [2083], [], [], [1003, 2139, 2031, 2032], [], [], [], [], [], [], [], [], [1001, 2094, 1226], [], [], [], [], [], [], [1003, 2145, 2027, 2028], [], [], [], [], [2092], []], by decide +kernel⟩
theorem xk_73 : ∃ ps, xm_okT xq_73 xt_73 ps = true := ⟨[[], [1001, 1118, 1120, 1], [], [], [1003, 2128, 2023, 2024], [1007, 2113, 1229], [], [], [], [], [1067], [], [], [], [], [1065], [1007, 2113, 1229], [], [], [], [], [], [1003, 2150, 2039, 2040], [1007, 2113, 1229], [], [], [1003, 2151, 2152, 2153], [], [], [1003, 2155, 2156, 2157], [], [], [1069], [], [], [1071], [], [], [1067], [], [], [], [], [1073], [], [], [1100], [], [], [1098], [1027], [], [2083], []], by decide +kernel⟩
theorem xk_74 : ∃ ps, xm_okT xq_74 xt_74 ps = true := ⟨[[], [1100], [], [2163], [], [], [], [1099], [], [], [], [], [], [], [1099], [], [], [1100], [], [], [1100], [], [1100], []], by decide +kernel⟩
theorem xk_75 : ∃ ps, xm_okT xq_75 xt_75 ps = true := ⟨[[], [], [], [], [], [], [2083], [], [], [1098], [], [1002, 2168, 2169, 2170], []], by decide +kernel⟩
theorem xk_76 : ∃ ps, xm_okT xq_76 xt_76 ps = true := ⟨[[], [1098], [1027], [], [], [1098], [], [1027], [], []], by decide +kernel⟩
theorem xk_77 : ∃ ps, xm_okT xq_77 xt_77 ps = true := ⟨[[], [], [], [], [], [2083], [], [], [1098], [], [1001, 1114, 1116, 0], [1002, 2181, 2182, 2183], [], [], [1098], [1032], [], [2092], [], [], [], [], [1098], [1030], [], [], [1098], [1032], []], by decide +kernel⟩
theorem xk_78 : ∃ ps, xm_okT xq_78 xt_78 ps = true := ⟨[[], [1098], [], [1001, 1114, 1116, 0], [1002, 2181, 2182, 2183], [], [], [], [1098], [1032], [], [], [], [2163], [1001, 1147, 1149, 5], []], by decide +kernel⟩
theorem xk_79 : ∃ ps, xm_okT xq_79 xt_79 ps = true := ⟨[[], [1097], [], [1099], [], []], by decide +kernel⟩
theorem xk_80 : ∃ ps, xm_okT xq_80 xt_80 ps = true := ⟨[[], [1097], [], [1099], [], [], [], [], [], [], [], [], [1001, 1118, 1120, 1], [1003, 1122, 1123, 1124], [], []], by decide +kernel⟩
theorem xk_81 : ∃ ps, xm_okT xq_81 xt_81 ps = true := ⟨[[], [], [], [], [1099], [], [], [], [], [1099], [], [], [1100], [], [], [], [1151, 1152, 1006, 1153], [1100], [], []], by decide +kernel⟩
theorem xk_82 : ∃ ps, xm_okT xq_82 xt_82 ps = true := ⟨[[], [], [], [2092], [], [], []], by decide +kernel⟩
theorem xk_83 : ∃ ps, xm_okT xq_83 xt_83 ps = true := ⟨[[], [], [], [], [], [], [], [], [], []], by decide +kernel⟩
theorem xk_84 : ∃ ps, xm_okT xq_84 xt_84 ps = true := ⟨[[], [2232, 1014, 1015], [], [], [1046], [2233], [], [], [1046], [2235], [], [], [1046], [2237], [], [], [1046], [3000], [], [], [1046], [3004], []], by decide +kernel⟩
theorem xk_85 : ∃ ps, xm_okT xq_85 xt_85 ps = true := ⟨[[], [], [], [], [], [], [], [], [], []], by decide +kernel⟩
theorem xk_86 : ∃ ps, xm_okT xq_86 xt_86 ps = true := ⟨[[], [], [], [], [], [], [], []], by decide +kernel⟩
theorem xk_87 : ∃ ps, xm_okT xq_87 xt_87 ps = true := ⟨[[], [], [], [2233], [], [], [], [], [1004, 3083, 3084], [], [], [2233], [], [], [1004, 3059, 3060], [], [], [], [], [], []], by decide +kernel⟩
theorem xk_88 : ∃ ps, xm_okT xq_88 xt_88 ps = true := ⟨[[], [], [], [1004, 3083, 3084], []], by decide +kernel⟩
theorem xk_89 : ∃ ps, xm_okT xq_89 xt_89 ps = true := ⟨[[], [], [], [1004, 3083, 3084], []], by decide +kernel⟩
theorem xk_90 : ∃ ps, xm_okT xq_90 xt_90 ps = true := ⟨[[], [], [], [], [], [], [], [], [], [], []], by decide +kernel⟩
theorem xk_91 : ∃ ps, xm_okT xq_91 xt_91 ps = true := ⟨[[], [], [], [], [], [], [], [], [], [], [], [], [], [], [], [], [], [], []], by decide +kernel⟩
theorem xk_92 : ∃ ps, xm_okT xq_92 xt_92 ps = true := ⟨[[], [], [], [], [], [], [2233], [], [], [], [], [2233], [], [], [], [], [], [], [], []], by decide +kernel⟩
theorem xk_93 : ∃ ps, xm_okT xq_93 xt_93 ps = true := ⟨[[], [2234], [], [], [], [], [], [], [], [], [], [], [], [], [], [], [], [], [1004, 3035, 3037, 17], [], [], [], [], [2234], [], [], [2234], [], [], [], [], [], [2234], [], [], [1004, 3035, 3037, 17], [], [], [2234], [], [], [2234], []], by decide +kernel⟩
theorem xk_94 : ∃ ps, xm_okT xq_94 xt_94 ps = true := ⟨[[], [2234], [], [3034], [], [], [], [2234], [], [], [2234], [], [], [], [], [2234], [], [], [], [1004, 3035, 3037, 17], [], [2234], []], by decide +kernel⟩
theorem xk_95 : ∃ ps, xm_okT xq_95 xt_95 ps = true := ⟨[[], [2233], [], [], [1004, 3059, 3060], [], [], [], [], [], []], by decide +kernel⟩
theorem xk_96 : ∃ ps, xm_okT xq_96 xt_96 ps = true := ⟨[[], [2233], [], [], [], [1004, 3126, 3128, 32], [], [], [], [], []], by decide +kernel⟩
theorem xk_97 : ∃ ps, xm_okT xq_97 xt_97 ps = true := ⟨[[], [], [], [], [], [], [2233], [], [], [], [], [], [], [1004, 3086, 3088, 25], [], [], [], [1004, 3122, 3124, 31], [], [], [], [], [], [], [], [], [], [], [], [], []], by decide +kernel⟩
theorem xk_98 : ∃ ps, xm_okT xq_98 xt_98 ps = true := ⟨[[], [], [], [], [2233], [], [], [], [], [2233], [], [], [1004, 3059, 3060], [], [], [], [], [], [], [], [], [], [3062], []], by decide +kernel⟩
theorem xk_99 : ∃ ps, xm_okT xq_99 xt_99 ps = true := ⟨[[], [], [], [], [], [], [], [], [], [], [], [], [], [1004, 3055, 3057, 21], [3062], [], [], [], [], [], [3062], []], by decide +kernel⟩
theorem xk_100 : ∃ ps, xm_okT xq_100 xt_100 ps = true := ⟨[[], [], [], [], [], [], [2233], [], [], [], [], [], [], [], [], [], [], [1004, 3051, 3053, 20], [3062], [], [], [], [1004, 3051, 3053, 20], [], [], [], [], [], [], [], [], [], [2233], [], [], [], [], [], [], [2233], [], [], [], [], [], [], [], [], [], [], [], [], [], [3062], []], by decide +kernel⟩
theorem xk_101 : ∃ ps, xm_okT xq_101 xt_101 ps = true := ⟨[[], [], [], [], [], [], [], [], [], [], [], [], [], [], [], [], [], [], [], [], [], [], [1004, 3055, 3057, 21], [3062], [], [], [], [], [], [], [], [], [2233], [], [], [], [], [], [], [], [], [2233], [], [], [], [], [], [], [], []], by decide +kernel⟩
theorem xk_102 : ∃ ps, xm_okT xq_102 xt_102 ps = true := ⟨[[], [], [], [1004, 3035, 3037, 17], [], [], [1004, 3047, 3049, 19], [3062], [], [], [], [], [], [], [], [], [1004, 3035, 3037, 17], [], [], [3034], [], [], [2233], [], [], [], [], [3063], [], [], []], by decide +kernel⟩
theorem xk_103 : ∃ ps, xm_okT xq_103 xt_103 ps = true := ⟨[[], [2233], [], [], [], [], [], [1004, 3047, 3049, 19], [], [], [], [], [], [], [], [2233], [], [], [1004, 3059, 3060], [], [], [], [], [], [2233], [], [], [1004, 3059, 3060], [], [], [], [], [], [2233], [], [], [], [], [], [], [], []], by decide +kernel⟩
theorem xk_104 : ∃ ps, xm_okT xq_104 xt_104 ps = true := ⟨[[], [1004, 3043, 3045, 18], [], [], [], [], [], [], [], [1004, 3064, 3066, 22], [], [1004, 3068, 3070, 23], []], by decide +kernel⟩
theorem xk_105 : ∃ ps, xm_okT xq_105 xt_105 ps = true := ⟨[[], [1004, 3080, 3081], [], [], [], [1004, 3086, 3088, 25], [], [], [], [3090], []], by decide +kernel⟩
theorem xk_106 : ∃ ps, xm_okT xq_106 xt_106 ps = true := ⟨[[], [2233], [], [], [], [], [], [], [], [], [], [], [], [], [], [], [], [], [2233], [], [], [], [], [], [], [], [], [], [], [], [], [], []], by decide +kernel⟩
theorem xk_107 : ∃ ps, xm_okT xq_107 xt_107 ps = true := ⟨[[], [], [], [1004, 3076, 3078, 24], [], [], [], [], [], [], [], [1004, 3064, 3066, 22], [], [], [], [1004, 3091, 3093, 26], []], by decide +kernel⟩
theorem xk_108 : ∃ ps, xm_okT xq_108 xt_108 ps = true := ⟨[[], [1004, 3080, 3081], [], [3090], [], [], [2233], [], [], [], [], [], [3034], [], [], []], by decide +kernel⟩
theorem xk_109 : ∃ ps, xm_okT xq_109 xt_109 ps = true := ⟨[[], [2233], [], [], [], [], [], [], [], [], [2233], [], [], [], [], [], [], []], by decide +kernel⟩
theorem xk_110 : ∃ ps, xm_okT xq_110 xt_110 ps = true := ⟨[[], [], [1004, 3099, 3101, 27], [], [], [], [], [], [], [], [1004, 3064, 3066, 22], [], [], [1004, 3103, 3105, 28], []], by decide +kernel⟩
theorem xk_111 : ∃ ps, xm_okT xq_111 xt_111 ps = true := ⟨[[], [], [1004, 3086, 3088, 25], [], [], [1004, 3115, 3116], [], [], [], [1004, 3086, 3088, 25], [], [], [], [3090], []], by decide +kernel⟩
theorem xk_112 : ∃ ps, xm_okT xq_112 xt_112 ps = true := ⟨[[], [2233], [], [], [], [], [1004, 3059, 3060], [], [], [], [], [], [], [1004, 3122, 3124, 31], [], [], [1004, 3122, 3124, 31], [], [], [], [], []], by decide +kernel⟩
theorem xk_113 : ∃ ps, xm_okT xq_113 xt_113 ps = true := ⟨[[], [], [], [], [1004, 3111, 3113, 29], [], [], [], [], [], [], [], [1004, 3064, 3066, 22], [], [], [], [], [1004, 3118, 3120, 30], []], by decide +kernel⟩
theorem xk_114 : ∃ ps, xm_okT xq_114 xt_114 ps = true := ⟨[[], [], [1004, 3086, 3088, 25], [], [], [1004, 3115, 3116], [], [3090], [], [], [2233], [], [], [], [], [1004, 3059, 3060], [], [], [3034], [], [], []], by decide +kernel⟩
theorem xk_115 : ∃ ps, xm_okT xq_115 xt_115 ps = true := ⟨[[], [2233], [], [], [], [], [1004, 3059, 3060], [], [], [], [], [], [2233], [], [], [], [], [1004, 3059, 3060], [], [], [], []], by decide +kernel⟩
theorem xk_116 : ∃ ps, xm_okT xq_116 xt_116 ps = true := ⟨[[], [], [], [1004, 3134, 3136, 33], [], [], [], [], [], [], [], [1004, 3064, 3066, 22], [], [], [], [1004, 3138, 3140, 34], []], by decide +kernel⟩
theorem xk_117 : ∃ ps, xm_okT xq_117 xt_117 ps = true := ⟨[[], [], [], [], [], [], [2233], [], [], [], [], [], [], [1004, 3086, 3088, 25], [], [], [2233], [], [], [1004, 3059, 3060], [], [], [], [], [], [], [], [], [], [], [], [], [], []], by decide +kernel⟩
theorem xk_118 : ∃ ps, xm_okT xq_118 xt_118 ps = true := ⟨[[], [], [1004, 3086, 3088, 25], [], [3090], [], [], [2233], [], [], [1004, 3059, 3060], [], [], [], [3034], [], [], []], by decide +kernel⟩
theorem xk_119 : ∃ ps, xm_okT xq_119 xt_119 ps = true := ⟨[[], [2233], [], [], [1004, 3059, 3060], [], [], [], [1004, 3154, 3156, 37], [1004, 3158, 3159], []], by decide +kernel⟩
theorem xk_120 : ∃ ps, xm_okT xq_120 xt_120 ps = true := ⟨[[], [], [], [1004, 3146, 3148, 35], [], [], [], [], [], [], [], [1004, 3064, 3066, 22], [], [], [], [1004, 3150, 3152, 36], []], by decide +kernel⟩
theorem xk_121 : ∃ ps, xm_okT xq_121 xt_121 ps = true := ⟨[[], [], [], [1004, 3146, 3148, 35], [], [], [], [], [], [], [], [1004, 3064, 3066, 22], [], [], [], [1004, 3150, 3152, 36], []], by decide +kernel⟩
theorem xk_122 : ∃ ps, xm_okT xq_122 xt_122 ps = true := ⟨[[], [], [], [], [], [], [], [], [], [2233], [], [], [], [], [], [], [], [2233], [], [], [], [], [], [], [], [], [], [], [], [], [], [], []], by decide +kernel⟩
theorem xk_123 : ∃ ps, xm_okT xq_123 xt_123 ps = true := ⟨[[], [], [], [], [], [], [2233], [], [], [], [], [], [], [], [], [], [], [1004, 3208, 3209], [], [], [], [2233], [], [], [], [], [1004, 3059, 3060], [], [], [], [], [2233], [], [], [], [], [1004, 3059, 3060], [], [], [], [], [], [], [], [], [], [], [], [], [], []], by decide +kernel⟩
theorem xk_124 : ∃ ps, xm_okT xq_124 xt_124 ps = true := ⟨[[], [], [], [], [], [], [], [], [], [], [1004, 3204, 3206, 46], [], [], [], [], [], [], [], [], [], [], [], [], [], []], by decide +kernel⟩
theorem xk_125 : ∃ ps, xm_okT xq_125 xt_125 ps = true := ⟨[[], [1004, 3196, 3198, 44], [], [1004, 3154, 3156, 37], [], []], by decide +kernel⟩
theorem xk_126 : ∃ ps, xm_okT xq_126 xt_126 ps = true := ⟨[[], [], [1004, 3188, 3190, 42], []], by decide +kernel⟩
theorem xk_127 : ∃ ps, xm_okT xq_127 xt_127 ps = true := ⟨[[], [], [1004, 3192, 3194, 43], [], [1004, 3200, 3202, 45], [1004, 3211, 3213, 47], []], by decide +kernel⟩
theorem xk_128 : ∃ ps, xm_okT xq_128 xt_128 ps = true := ⟨[[], [], [1004, 3188, 3190, 42], [], [], [], [1004, 3192, 3194, 43], [], [], [1004, 3200, 3202, 45], [], [], [], [], [1004, 3204, 3206, 46], [], [], [1004, 3211, 3213, 47], []], by decide +kernel⟩
theorem xk_129 : ∃ ps, xm_okT xq_129 xt_129 ps = true := ⟨[[], [], [], [], [2233], [], [], [], [], [], [], [], [], [], [], [1004, 3208, 3209], [], [], [2233], [], [], [1004, 3059, 3060], [], [], [], [], [], [], [], [1004, 3219, 3221, 49], []], by decide +kernel⟩
theorem xk_130_0 : xm_okT xq_130 [(0, .aload_n 0, 1, 0, 0, 0), (1, .iload_n 1, 2, 1, 0, 0), (2, .invokevirtual 144, 5, 128, 2, 3), (5, .istore_n 2, 6, 2, 0, 0), (6, .aload_n 0, 7, 0, 0, 0), (7, .iload_n 1, 8, 1, 0, 0), (8, .invokevirtual 129, 11, 97, 2, 3), (11, .iload_n 2, 12, 2, 0, 0), (12, .iconst (-1), 13, 0, 0, (-1)), (13, .ixor, 14, 0, 0, 0), (14, .iand, 15, 0, 0, 0), (15, .istore_n 3, 16, 3, 0, 0), (16, .iload_n 2, 17, 2, 0, 0), (17, .aload_n 0, 18, 0, 0, 0), (18, .invokevirtual 107, 21, 117, 1, 3), (21, .iand, 22, 0, 0, 0), (22, .istore 4, 24, 4, 0, 0), (24, .iconst 0, 25, 0, 0, 0), (25, .istore 5, 27, 5, 0, 0), (27, .iload 5, 29, 5, 0, 0), (29, .bipush 8, 31, 0, 0, 8), (31, .if_icmp .ge 25, 34, 56, 0, 0), (34, .aload_n 0, 35, 0, 0, 0), (35, .getfield 16, 38, 3, 4, 1), (38, .iload 5, 40, 5, 0, 0), (40, .aload_n 0, 41, 0, 0, 0), (41, .getfield 7, 44, 3, 0, 1), (44, .iconst 4, 45, 0, 0, 4), (45, .iload 5, 47, 5, 0, 0), (47, .iadd, 48, 0, 0, 0), (48, .iaload, 49, 0, 0, 0), (49, .iastore, 50, 0, 0, 0), (50, .iinc 5 1, 53, 5, 0, 1), (53, .goto (-26), 56, 27, 0, 0), (56, .iconst 0, 57, 0, 0, 0), (57, .istore 5, 59, 5, 0, 0), (59, .iload 5, 61, 5, 0, 0), (61, .aload_n 0, 62, 0, 0, 0), (62, .getfield 7, 65, 3, 0, 1), (65, .iconst 0, 66, 0, 0, 0), (66, .iaload, 67, 0, 0, 0), (67, .if_icmp .ge 45, 70, 112, 0, 0), (70, .iload 4, 72, 4, 0, 0), (72, .iload 5, 74, 5, 0, 0), (74, .invokestatic 119, 77, 90, 2, 3), (77, .ifCond .eq 29, 80, 106, 0, 0), (80, .aload_n 0, 81, 0, 0, 0), (81, .getfield 7, 84, 3, 0, 1), (84, .iconst 4, 85, 0, 0, 4), (85, .aload_n 0, 86, 0, 0, 0), (86, .iload 5, 88, 5, 0, 0), (88, .invokevirtual 42, 91, 95, 2, 3), (91, .iadd, 92, 0, 0, 0), (92, .aload_n 0, 93, 0, 0, 0), (93, .getfield 16, 96, 3, 4, 1), (96, .aload_n 0, 97, 0, 0, 0), (97, .iload 5, 99, 5, 0, 0), (99, .invokevirtual 42, 102, 95, 2, 3), (102, .iaload, 103, 0, 0, 0), (103, .iconst 1, 104, 0, 0, 1)] [[], [], [1004, 3184, 3186, 41], [], [], [], [1004, 3188, 3190, 42], [], [], [], [], [], [], [], [1004, 3154, 3156, 37], [], [], [], [], [], [], [], [], [2237], [], [], [2233], [], [], [], [], [], [], [], [], [], [], [], [2233], [], [], [], [], [], [1004, 3208, 3209], [], [], [2233], [], [], [], [1004, 3126, 3128, 32], [], [], [2237], [], [], [1004, 3126, 3128, 32], [], []] = true := by decide +kernel
theorem xk_130_1 : xm_okT xq_130 [(104, .iadd, 105, 0, 0, 0), (105, .iastore, 106, 0, 0, 0), (106, .iinc 5 1, 109, 5, 0, 1), (109, .goto (-50), 112, 59, 0, 0), (112, .iconst 0, 113, 0, 0, 0), (113, .istore 5, 115, 5, 0, 0), (115, .iload 5, 117, 5, 0, 0), (117, .aload_n 0, 118, 0, 0, 0), (118, .getfield 7, 121, 3, 0, 1), (121, .iconst 0, 122, 0, 0, 0), (122, .iaload, 123, 0, 0, 0), (123, .if_icmp .ge 89, 126, 212, 0, 0), (126, .iload_n 2, 127, 2, 0, 0), (127, .iload 4, 129, 4, 0, 0), (129, .iconst (-1), 130, 0, 0, (-1)), (130, .ixor, 131, 0, 0, 0), (131, .iand, 132, 0, 0, 0), (132, .iload 5, 134, 5, 0, 0), (134, .invokestatic 119, 137, 90, 2, 3), (137, .ifCond .eq 69, 140, 206, 0, 0), (140, .aload_n 0, 141, 0, 0, 0), (141, .aload_n 0, 142, 0, 0, 0), (142, .getfield 16, 145, 3, 4, 1), (145, .aload_n 0, 146, 0, 0, 0), (146, .iload 5, 148, 5, 0, 0), (148, .invokevirtual 42, 151, 95, 2, 3), (151, .iaload, 152, 0, 0, 0), (152, .invokevirtual 60, 155, 100, 2, 3), (155, .istore 6, 157, 6, 0, 0), (157, .iload 6, 159, 6, 0, 0), (159, .ldc 53, 161, 0, 0, (-1000004)), (161, .if_icmp .ne 5, 164, 166, 0, 0), (164, .iconst 0, 165, 0, 0, 0), (165, .ireturn, 166, 0, 0, 0), (166, .aload_n 0, 167, 0, 0, 0), (167, .getfield 7, 170, 3, 0, 1), (170, .iload 5, 172, 5, 0, 0), (172, .iconst 0, 173, 0, 0, 0), (173, .invokestatic 29, 176, 86, 2, 3), (176, .iload 6, 178, 6, 0, 0), (178, .iconst 1, 179, 0, 0, 1), (179, .iadd, 180, 0, 0, 0), (180, .iastore, 181, 0, 0, 0), (181, .aload_n 0, 182, 0, 0, 0), (182, .getfield 7, 185, 3, 0, 1), (185, .iload 5, 187, 5, 0, 0), (187, .iconst 5, 188, 0, 0, 5), (188, .invokestatic 29, 191, 86, 2, 3), (191, .dup2, 192, 0, 0, 0), (192, .iaload, 193, 0, 0, 0), (193, .iconst 1, 194, 0, 0, 1), (194, .iadd, 195, 0, 0, 0), (195, .iastore, 196, 0, 0, 0), (196, .aload_n 0, 197, 0, 0, 0), (197, .getfield 7, 200, 3, 0, 1), (200, .iconst 3, 201, 0, 0, 3), (201, .dup2, 202, 0, 0, 0), (202, .iaload, 203, 0, 0, 0), (203, .iconst 1, 204, 0, 0, 1), (204, .iadd, 205, 0, 0, 0)] [[], [], [], [], [], [], [], [], [2233], [], [], [], [], [], [], [], [], [], [1004, 3208, 3209], [], [], [], [2237], [], [], [1004, 3126, 3128, 32], [], [1004, 3047, 3049, 19], [], [], [3062], [], [], [], [], [2233], [], [], [1004, 3059, 3060], [], [], [], [], [], [2233], [], [], [1004, 3059, 3060], [], [], [], [], [], [], [2233], [], [], [], [], []] = true := by decide +kernel
theorem xk_130_2 : xm_okT xq_130 [(205, .iastore, 206, 0, 0, 0), (206, .iinc 5 1, 209, 5, 0, 1), (209, .goto (-94), 212, 115, 0, 0), (212, .aload_n 0, 213, 0, 0, 0), (213, .iload_n 3, 214, 3, 0, 0), (214, .invokevirtual 147, 217, 129, 2, 3), (217, .aload_n 0, 218, 0, 0, 0), (218, .getfield 7, 221, 3, 0, 1), (221, .iconst 1, 222, 0, 0, 1), (222, .dup2, 223, 0, 0, 0), (223, .iaload, 224, 0, 0, 0), (224, .iconst 1, 225, 0, 0, 1), (225, .iadd, 226, 0, 0, 0), (226, .iastore, 227, 0, 0, 0), (227, .iconst 1, 228, 0, 0, 1), (228, .ireturn, 229, 0, 0, 0)] [[], [], [], [], [], [1004, 3215, 3217, 48], [], [2233], [], [], [], [], [], [], [], []] = true := by decide +kernel
set_option maxRecDepth 100000 in
theorem xk_130 : ∃ ps, xm_okT xq_130 xt_130 ps = true := ⟨_, (xm_okT_app _ _ _ _ rfl xk_130_0 (xm_okT_app _ _ _ _ rfl xk_130_1 xk_130_2))⟩
theorem xk_131 : ∃ ps, xm_okT xq_131 xt_131 ps = true := ⟨[[], [], [], [1004, 3035, 3037, 17], [], [], [1004, 3180, 3182, 40], [], [], [], [], [1004, 3035, 3037, 17], [], []], by decide +kernel⟩
theorem xk_132 : ∃ ps, xm_okT xq_132 xt_132 ps = true := ⟨[[], [], [], [1004, 3083, 3084], []], by decide +kernel⟩
theorem xk_133 : ∃ ps, xm_okT xq_133 xt_133 ps = true := ⟨[[], [1004, 3173, 3174], [], [3090], [], [], [], [1004, 3176, 3178, 39], [], [], [], [3034], []], by decide +kernel⟩
theorem xk_134 : ∃ ps, xm_okT xq_134 xt_134 ps = true := ⟨[[], [], [1004, 3169, 3171, 38], [], [], [], [], [], [], [], [1004, 3064, 3066, 22], [], [1004, 3200, 3202, 45], [1004, 3158, 3159], [], [], [], [1004, 3180, 3182, 40], [], [], [], [1004, 3200, 3202, 45], [1004, 3158, 3159], [], []], by decide +kernel⟩
theorem xk_135 : ∃ ps, xm_okT xq_135 xt_135 ps = true := ⟨[[], [1004, 3200, 3202, 45], [], [1004, 3231, 3233, 51], [], [], [], [], [], [], [1004, 3215, 3217, 48], [], [2233], [], [], [], [], [], [], [], [1004, 3158, 3159], []], by decide +kernel⟩
theorem xk_136 : ∃ ps, xm_okT xq_136 xt_136 ps = true := ⟨[[], [], [1004, 3064, 3066, 22], [], [1004, 3227, 3229, 50], []], by decide +kernel⟩
theorem xk_137 : ∃ ps, xm_okT xq_137 xt_137 ps = true := ⟨[[], [], [], [], [], [], [2233], [], [], [], [], [], [], [], [], [1004, 3204, 3206, 46], [], [1004, 3208, 3209], [], [], [], [], [], [], [], [], [], [], [], []], by decide +kernel⟩
theorem xk_138 : ∃ ps, xm_okT xq_138 xt_138 ps = true := ⟨[[], [], [], [], [], [], [], [], [], [2233], [], [], [], [], [], [], [], [], [], [], [], [], [], [], [], [], [], [], []], by decide +kernel⟩
theorem xk_139_0 : xm_okT xq_139 [(0, .iload_n 1, 1, 1, 0, 0), (1, .iconst 0, 2, 0, 0, 0), (2, .aload_n 0, 3, 0, 0, 0), (3, .getfield 7, 6, 3, 0, 1), (6, .iconst 0, 7, 0, 0, 0), (7, .iaload, 8, 0, 0, 0), (8, .iconst 1, 9, 0, 0, 1), (9, .isub, 10, 0, 0, 0), (10, .invokestatic 25, 13, 85, 3, 3), (13, .ifCond .ne 6, 16, 19, 0, 0), (16, .ldc 78, 18, 0, 0, (-1000001)), (18, .ireturn, 19, 0, 0, 0), (19, .aload_n 0, 20, 0, 0, 0), (20, .iload_n 1, 21, 1, 0, 0), (21, .invokevirtual 46, 24, 87, 2, 3), (24, .istore_n 3, 25, 3, 0, 0), (25, .iload_n 2, 26, 2, 0, 0), (26, .tableswitch 181 0 9 #[54, 64, 97, 112, 123, 123, 123, 158, 164, 170], 80, 0, 0, 0), (80, .iload_n 3, 81, 3, 0, 0), (81, .ifCond .eq 7, 84, 88, 0, 0), (84, .iconst 1, 85, 0, 0, 1), (85, .goto 4, 88, 89, 0, 0), (88, .iconst 0, 89, 0, 0, 0), (89, .ireturn, 90, 0, 0, 0), (90, .iload_n 3, 91, 3, 0, 0), (91, .ifCond .eq 29, 94, 120, 0, 0), (94, .bipush 10, 96, 0, 0, 10), (96, .aload_n 0, 97, 0, 0, 0), (97, .iload_n 1, 98, 1, 0, 0), (98, .invokevirtual 42, 101, 95, 2, 3), (101, .imul, 102, 0, 0, 0), (102, .aload_n 0, 103, 0, 0, 0), (103, .getfield 7, 106, 3, 0, 1), (106, .iload_n 1, 107, 1, 0, 0), (107, .iconst 0, 108, 0, 0, 0), (108, .invokestatic 29, 111, 86, 2, 3), (111, .iaload, 112, 0, 0, 0), (112, .iconst 1, 113, 0, 0, 1), (113, .isub, 114, 0, 0, 0), (114, .iconst 5, 115, 0, 0, 5), (115, .irem, 116, 0, 0, 0), (116, .iadd, 117, 0, 0, 0), (117, .goto 5, 120, 122, 0, 0), (120, .ldc 53, 122, 0, 0, (-1000004)), (122, .ireturn, 123, 0, 0, 0), (123, .iload_n 3, 124, 3, 0, 0), (124, .ifCond .eq 11, 127, 135, 0, 0), (127, .aload_n 0, 128, 0, 0, 0), (128, .iload_n 1, 129, 1, 0, 0), (129, .invokevirtual 50, 132, 96, 2, 3), (132, .goto 5, 135, 137, 0, 0), (135, .ldc 53, 137, 0, 0, (-1000004)), (137, .ireturn, 138, 0, 0, 0), (138, .aload_n 0, 139, 0, 0, 0), (139, .getfield 7, 142, 3, 0, 1), (142, .iload_n 1, 143, 1, 0, 0), (143, .iconst 1, 144, 0, 0, 1), (144, .invokestatic 29, 147, 86, 2, 3), (147, .iaload, 148, 0, 0, 0), (148, .ireturn, 149, 0, 0, 0)] [[], [], [], [2233], [], [], [], [], [1004, 3083, 3084], [], [3090], [], [], [], [1004, 3086, 3088, 25], [], [], [], [], [], [], [], [], [], [], [], [], [], [], [1004, 3126, 3128, 32], [], [], [2233], [], [], [1004, 3059, 3060], [], [], [], [], [], [], [], [3062], [], [], [], [], [], [1004, 3122, 3124, 31], [], [3062], [], [], [2233], [], [], [1004, 3059, 3060], [], []] = true := by decide +kernel
theorem xk_139_1 : xm_okT xq_139 [(149, .aload_n 0, 150, 0, 0, 0), (150, .getfield 7, 153, 3, 0, 1), (153, .iload_n 1, 154, 1, 0, 0), (154, .iload_n 2, 155, 2, 0, 0), (155, .iconst 2, 156, 0, 0, 2), (156, .isub, 157, 0, 0, 0), (157, .invokestatic 29, 160, 86, 2, 3), (160, .iaload, 161, 0, 0, 0), (161, .ifCond .ne 8, 164, 169, 0, 0), (164, .ldc 53, 166, 0, 0, (-1000004)), (166, .goto 17, 169, 183, 0, 0), (169, .aload_n 0, 170, 0, 0, 0), (170, .getfield 7, 173, 3, 0, 1), (173, .iload_n 1, 174, 1, 0, 0), (174, .iload_n 2, 175, 2, 0, 0), (175, .iconst 2, 176, 0, 0, 2), (176, .isub, 177, 0, 0, 0), (177, .invokestatic 29, 180, 86, 2, 3), (180, .iaload, 181, 0, 0, 0), (181, .iconst 1, 182, 0, 0, 1), (182, .isub, 183, 0, 0, 0), (183, .ireturn, 184, 0, 0, 0), (184, .aload_n 0, 185, 0, 0, 0), (185, .iload_n 1, 186, 1, 0, 0), (186, .invokevirtual 168, 189, 138, 2, 3), (189, .ireturn, 190, 0, 0, 0), (190, .aload_n 0, 191, 0, 0, 0), (191, .iload_n 1, 192, 1, 0, 0), (192, .invokevirtual 171, 195, 137, 2, 3), (195, .ireturn, 196, 0, 0, 0), (196, .aload_n 0, 197, 0, 0, 0), (197, .getfield 7, 200, 3, 0, 1), (200, .iload_n 1, 201, 1, 0, 0), (201, .iconst 5, 202, 0, 0, 5), (202, .invokestatic 29, 205, 86, 2, 3), (205, .iaload, 206, 0, 0, 0), (206, .ireturn, 207, 0, 0, 0), (207, .ldc 78, 209, 0, 0, (-1000001)), (209, .ireturn, 210, 0, 0, 0)] [[], [2233], [], [], [], [], [1004, 3059, 3060], [], [], [3062], [], [], [2233], [], [], [], [], [1004, 3059, 3060], [], [], [], [], [], [], [1004, 3239, 4001, 52], [], [], [], [1004, 4003, 4005, 53], [], [], [2233], [], [], [1004, 3059, 3060], [], [], [3090], []] = true := by decide +kernel
set_option maxRecDepth 100000 in
theorem xk_139 : ∃ ps, xm_okT xq_139 xt_139 ps = true := ⟨_, (xm_okT_app _ _ _ _ rfl xk_139_0 xk_139_1)⟩
theorem xk_140 : ∃ ps, xm_okT xq_140 xt_140 ps = true := ⟨[[], [], [], [], [], [], [2233], [], [], [], [], [], [], [1004, 3086, 3088, 25], [], [], [], [1004, 3126, 3128, 32], [], [], [], [], [], [], [], [], [], [], [], [], []], by decide +kernel⟩
theorem xk_141 : ∃ ps, xm_okT xq_141 xt_141 ps = true := ⟨[[], [], [], [1004, 3083, 3084], [], [], [], [], [1004, 3083, 3084], [], [3090], [], [], [], [], [2233], [], [], [], [], [], [3062], [], [], [2233], [], [], [], [], [], [], [], [], [], [], [], [], [1004, 4011, 4013, 54], [1004, 3158, 3159], [], [], [], [], [], [], [1004, 4011, 4013, 54], [], [], [], [], [], [], [], [], [], [1004, 3055, 3057, 21], []], by decide +kernel⟩
theorem xk_142 : ∃ ps, xm_okT xq_142 xt_142 ps = true := ⟨[[], [1004, 3080, 3081], [], [3090], [], [], [2233], [], [], [], [], [], [3062], [], [], [2233], [], [], [], [], [], [], []], by decide +kernel⟩
theorem xk_143 : ∃ ps, xm_okT xq_143 xt_143 ps = true := ⟨[[], [2233], [], [], [], [], [1004, 3059, 3060], [], [], [], [], [], [], [1004, 3086, 3088, 25], [], [], [], [], [], [1004, 3122, 3124, 31], [], [], [1004, 3122, 3124, 31], [], [], [], [], []], by decide +kernel⟩
theorem xk_144 : ∃ ps, xm_okT xq_144 xt_144 ps = true := ⟨[[], [], [], [], [], [], [], [2233], [], [], [], [], [], [], [], [], [], [], [], [1004, 4027, 4029, 56], [], [], [], [], [], [], [], [], [], [], [], [], [], [], [], [], [], [], [], [], [], [3062], []], by decide +kernel⟩
theorem xk_145 : ∃ ps, xm_okT xq_145 xt_145 ps = true := ⟨[[], [], [3090], [], [], [], [1004, 4023, 4025, 55], []], by decide +kernel⟩
theorem xk_146 : ∃ ps, xm_okT xq_146 xt_146 ps = true := ⟨[[], [], [], [1004, 3231, 3233, 51], [], [], [], [], [], [1004, 3200, 3202, 45], [], [1004, 3231, 3233, 51], [], [], [], [], [3090], []], by decide +kernel⟩
theorem xk_147 : ∃ ps, xm_okT xq_147 xt_147 ps = true := ⟨[[], [1004, 3173, 3174], [], [], [], [], [1004, 3083, 3084], [], [3090], [], [], [], [1004, 3184, 3186, 41], [], [], [], [], [], [], [], [], [], [], [1004, 3188, 3190, 42], [], [], [], [], [], [], [], [], [], [], [1004, 3154, 3156, 37], [], [], [], [1004, 3158, 3159], [], [], [], [1004, 3176, 3178, 39], [], [], [], [], []], by decide +kernel⟩
theorem xk_148 : ∃ ps, xm_okT xq_148 xt_148 ps = true := ⟨[[], [], [1004, 3086, 3088, 25], [], [3090], [], [], [1004, 3200, 3202, 45], [], [], [], [], [], [], [], [], [1004, 3231, 3233, 51], [], [], [], [], [1004, 3192, 3194, 43], [], [1004, 3211, 3213, 47], [], [], [], []], by decide +kernel⟩
theorem xk_149 : ∃ ps, xm_okT xq_149 xt_149 ps = true := ⟨[[], [], [1004, 3086, 3088, 25], [], [3090], [], [], [1004, 3192, 3194, 43], [], [], [], [], [], [1004, 3208, 3209], [], [], [], [1004, 3204, 3206, 46], [], [], [], [], [], [], [], [], [1004, 3204, 3206, 46], [], [], [], [], [], [], [1004, 3208, 3209], [], [], [], [3062], []], by decide +kernel⟩
theorem xk_150 : ∃ ps, xm_okT xq_150 xt_150 ps = true := ⟨[[], [], [], [], [], [], [], [], [], [2233], [], [], [], [], [], [], [], [], [], [], [], [], [], []], by decide +kernel⟩
theorem xk_151_0 : xm_okT xq_151 [(0, .iload_n 1, 1, 1, 0, 0), (1, .tableswitch 180 0 13 #[71, 78, 86, 94, 103, 103, 125, 130, 136, 136, 148, 163, 170, 175], 72, 0, 0, 0), (72, .aload_n 0, 73, 0, 0, 0), (73, .getfield 7, 76, 3, 0, 1), (76, .iconst 0, 77, 0, 0, 0), (77, .iaload, 78, 0, 0, 0), (78, .ireturn, 79, 0, 0, 0), (79, .aload_n 0, 80, 0, 0, 0), (80, .invokevirtual 135, 83, 126, 1, 3), (83, .invokestatic 110, 86, 91, 1, 3), (86, .ireturn, 87, 0, 0, 0), (87, .aload_n 0, 88, 0, 0, 0), (88, .invokevirtual 107, 91, 117, 1, 3), (91, .invokestatic 110, 94, 91, 1, 3), (94, .ireturn, 95, 0, 0, 0), (95, .aload_n 0, 96, 0, 0, 0), (96, .iconst 0, 97, 0, 0, 0), (97, .invokevirtual 129, 100, 97, 2, 3), (100, .invokestatic 110, 103, 91, 1, 3), (103, .ireturn, 104, 0, 0, 0), (104, .aload_n 0, 105, 0, 0, 0), (105, .iload_n 1, 106, 1, 0, 0), (106, .iconst 3, 107, 0, 0, 3), (107, .isub, 108, 0, 0, 0), (108, .invokevirtual 129, 111, 97, 2, 3), (111, .invokestatic 110, 114, 91, 1, 3), (114, .aload_n 0, 115, 0, 0, 0), (115, .iload_n 1, 116, 1, 0, 0), (116, .iconst 4, 117, 0, 0, 4), (117, .isub, 118, 0, 0, 0), (118, .invokevirtual 129, 121, 97, 2, 3), (121, .invokestatic 110, 124, 91, 1, 3), (124, .isub, 125, 0, 0, 0), (125, .ireturn, 126, 0, 0, 0), (126, .aload_n 0, 127, 0, 0, 0), (127, .invokevirtual 183, 130, 150, 1, 3), (130, .ireturn, 131, 0, 0, 0), (131, .aload_n 0, 132, 0, 0, 0), (132, .iconst (-1), 133, 0, 0, (-1)), (133, .invokevirtual 180, 136, 144, 2, 3), (136, .ireturn, 137, 0, 0, 0), (137, .aload_n 0, 138, 0, 0, 0), (138, .getfield 7, 141, 3, 0, 1), (141, .iconst 1, 142, 0, 0, 1), (142, .iload_n 1, 143, 1, 0, 0), (143, .iadd, 144, 0, 0, 0), (144, .bipush 8, 146, 0, 0, 8), (146, .isub, 147, 0, 0, 0), (147, .iaload, 148, 0, 0, 0), (148, .ireturn, 149, 0, 0, 0), (149, .aload_n 0, 150, 0, 0, 0), (150, .getfield 7, 153, 3, 0, 1), (153, .iconst 0, 154, 0, 0, 0), (154, .iaload, 155, 0, 0, 0), (155, .aload_n 0, 156, 0, 0, 0), (156, .invokevirtual 135, 159, 126, 1, 3), (159, .invokestatic 110, 162, 91, 1, 3), (162, .isub, 163, 0, 0, 0), (163, .ireturn, 164, 0, 0, 0), (164, .aload_n 0, 165, 0, 0, 0)] [[], [], [], [2233], [], [], [], [], [1004, 3200, 3202, 45], [1004, 3158, 3159], [], [], [1004, 3154, 3156, 37], [1004, 3158, 3159], [], [], [], [1004, 3188, 3190, 42], [1004, 3158, 3159], [], [], [], [], [], [1004, 3188, 3190, 42], [1004, 3158, 3159], [], [], [], [], [1004, 3188, 3190, 42], [1004, 3158, 3159], [], [], [], [1004, 4051, 4053, 57], [], [], [], [1004, 4023, 4025, 55], [], [], [2233], [], [], [], [], [], [], [], [], [2233], [], [], [], [1004, 3200, 3202, 45], [1004, 3158, 3159], [], [], []] = true := by decide +kernel
theorem xk_151_1 : xm_okT xq_151 [(165, .getfield 7, 168, 3, 0, 1), (168, .iconst 3, 169, 0, 0, 3), (169, .iaload, 170, 0, 0, 0), (170, .ireturn, 171, 0, 0, 0), (171, .aload_n 0, 172, 0, 0, 0), (172, .getfield 33, 175, 3, 1, 0), (175, .ireturn, 176, 0, 0, 0), (176, .aload_n 0, 177, 0, 0, 0), (177, .getfield 186, 180, 3, 3, 0), (180, .ireturn, 181, 0, 0, 0), (181, .ldc 78, 183, 0, 0, (-1000001)), (183, .ireturn, 184, 0, 0, 0)] [[2233], [], [], [], [], [2234], [], [], [2236], [], [3090], []] = true := by decide +kernel
set_option maxRecDepth 100000 in
theorem xk_151 : ∃ ps, xm_okT xq_151 xt_151 ps = true := ⟨_, (xm_okT_app _ _ _ _ rfl xk_151_0 xk_151_1)⟩
theorem xk_152 : ∃ ps, xm_okT xq_152 xt_152 ps = true := ⟨[[], [], [], [1004, 3083, 3084], [], [3090], [], [], [2236], [], [], [3063], [], [], [2235], [], [2236], [], [], [], [], [2236], [], [], [2236], [], [2236], []], by decide +kernel⟩
theorem xk_153 : ∃ ps, xm_okT xq_153 xt_153 ps = true := ⟨[[], [2236], [], [], [], [2236], [], []], by decide +kernel⟩
theorem xk_154 : ∃ ps, xm_okT xq_154 xt_154 ps = true := ⟨[[], [2238], [], [2236], [], [], [2235], [], [2238], [], [], [], []], by decide +kernel⟩
theorem xk_155 : ∃ ps, xm_okT xq_155 xt_155 ps = true := ⟨[[], [1004, 4079, 4081, 61], [], [], [], [], [], [], [], [], [2238], [], [], [], [], [], [], [2238], [], []], by decide +kernel⟩
theorem xk_156 : ∃ ps, xm_okT xq_156 xt_156 ps = true := ⟨[[], [], [], [3000], [], [], [], [], [1004, 4079, 4081, 61], [], [], [1004, 3083, 3084], [], [], [], [], [], [3000], [], [], [], [3000], [], [], [], [], [1004, 4079, 4081, 61], [], [], [], [], [], [], [2238], [], [], [2238], [], [], [], [], [], [], [], []], by decide +kernel⟩
theorem xk_157 : ∃ ps, xm_okT xq_157 xt_157 ps = true := ⟨[[], [], [], [], [], [], [], [], [], [], [], [], [], [], [], [], [], [], [], [], [], [], [], [], [], [], [], [], [], [], [], [], [], []], by decide +kernel⟩
theorem xk_158 : ∃ ps, xm_okT xq_158 xt_158 ps = true := ⟨[[], [], [1004, 4079, 4081, 61], [2239], [], [2239], [1004, 4083, 4084], [], [], [], [2238], [], [], [], [], [], [], [2238], [], [], [], [], [], [], [], [], [], [], [], [], [], [], [], [], [], [1004, 4086, 4088, 62], [], [], [], [1004, 4090, 4092, 63], [], [], [], [], [], [], [], [], [], [], [], [1004, 4086, 4088, 62], [], [], [], [], []], by decide +kernel⟩
theorem xk_159 : ∃ ps, xm_okT xq_159 xt_159 ps = true := ⟨[[], [3000], [], [], [], [], [3000], [], [], [], [], [2239], [], [], [1004, 3043, 3045, 18], [], [], [], [], [1004, 3076, 3078, 24], [], [], [], [1004, 3099, 3101, 27], [], [], [], [], [], [3000], [], [], [1004, 3111, 3113, 29], [], [], [], [], [1004, 3134, 3136, 33], [], [], [], [], [1004, 3146, 3148, 35], [], [], [], [1004, 3169, 3171, 38], [], [], []], by decide +kernel⟩
theorem xk_160 : ∃ ps, xm_okT xq_160 xt_160 ps = true := ⟨[[], [3000], [], [], [], [], [3000], [], [], [], [], [2239], [], [], [1004, 3068, 3070, 23], [], [], [], [], [], [1004, 3091, 3093, 26], [], [], [], [], [1004, 3103, 3105, 28], [], [], [], [], [], [], [3000], [], [], [1004, 3118, 3120, 30], [], [], [], [], [], [1004, 3138, 3140, 34], [], [], [], [], [], [1004, 3150, 3152, 36], [], [], [], [], [1004, 3180, 3182, 40], [], [], [], [1004, 3227, 3229, 50], [], []], by decide +kernel⟩
theorem xk_161 : ∃ ps, xm_okT xq_161 xt_161 ps = true := ⟨[[], [], [2238], [], [], [3002], [], [], [3003], [], [2238], [], [2236], [], [], [3002], [], [], [], [2238], [3001], [], [1004, 4075, 4077, 60], [], [], [], [], [1004, 4094, 4096, 64], [], [], [], [], [], [], [], [3002], [], [], [], [], [], [3090], [], [], [], [], [3002], [], [], [1004, 4098, 4100, 65], [], [], [3003], [], [], [3003], [], []], by decide +kernel⟩
theorem xk_162 : ∃ ps, xm_okT xq_162 xt_162 ps = true := ⟨[[], [], [], [], [], [], [2233], [], [], [3004], [], [], [], [], [], []], by decide +kernel⟩
theorem xk_163 : ∃ ps, xm_okT xq_163 xt_163 ps = true := ⟨[[], [], [], [], [], [], [3004], [], [], [2233], [], [], [], [], [], []], by decide +kernel⟩
theorem xk_164 : ∃ ps, xm_okT xq_164 xt_164 ps = true := ⟨[[], [], [], [1004, 3083, 3084], [], [3090], [], [], [1004, 4067, 4069, 58], [], [1004, 4071, 4073, 59], [], [1004, 4102, 4104, 66], [], [3002], [], [3062], [], [], [], [], [3001], [], [], [3002], []], by decide +kernel⟩
theorem xk_165 : ∃ ps, xm_okT xq_165 xt_165 ps = true := ⟨[[], [1004, 4067, 4069, 58], [], [1004, 4071, 4073, 59], [], [1004, 4102, 4104, 66], [], [3002], [], [3034], [], [], [], [1004, 3064, 3066, 22], [], [1004, 4071, 4073, 59], [], [3003], []], by decide +kernel⟩
theorem xk_166 : ∃ ps, xm_okT xq_166 xt_166 ps = true := ⟨[[], [], [], [], [1231], [], [], [], [], [1232], [], [], [], [], [1232], [], [], [], [], [], [], [], [], [1233], [], [], [], [], [], [], [], [], [], [], [], [], [], [], [], [], [], []], by decide +kernel⟩
theorem xk_167_0 : xm_okT xq_167 [(0, .new 7, 3, 2, 4, 0), (3, .dup, 4, 0, 0, 0), (4, .invokespecial 9, 7, 55, 1, 2), (7, .astore_n 1, 8, 1, 0, 0), (8, .new 10, 11, 3, 12, 0), (11, .dup, 12, 0, 0, 0), (12, .invokespecial 12, 15, 84, 1, 3), (15, .astore_n 2, 16, 2, 0, 0), (16, .iconst 0, 17, 0, 0, 0), (17, .istore_n 3, 18, 3, 0, 0), (18, .iload_n 3, 19, 3, 0, 0), (19, .aload_n 0, 20, 0, 0, 0), (20, .arraylength, 21, 0, 0, 0), (21, .iconst 4, 22, 0, 0, 4), (22, .isub, 23, 0, 0, 0), (23, .if_icmp .gt 672, 26, 695, 0, 0), (26, .aload_n 0, 27, 0, 0, 0), (27, .iload_n 3, 28, 3, 0, 0), (28, .iaload, 29, 0, 0, 0), (29, .bipush 31, 31, 0, 0, 31), (31, .iand, 32, 0, 0, 0), (32, .tableswitch 657 0 22 #[108, 121, 154, 177, 220, 253, 276, 299, 322, 335, 368, 401, 424, 447, 470, 503, 526, 549, 572, 585, 608, 621, 644], 140, 0, 0, 0), (140, .aload_n 1, 141, 1, 0, 0), (141, .invokevirtual 13, 144, 56, 1, 2), (144, .aload_n 2, 145, 2, 0, 0), (145, .invokevirtual 17, 148, 104, 1, 3), (148, .if_icmp .eq 541, 151, 689, 0, 0), (151, .iconst 0, 152, 0, 0, 0), (152, .ireturn, 153, 0, 0, 0), (153, .aload_n 1, 154, 1, 0, 0), (154, .aload_n 0, 155, 0, 0, 0), (155, .iload_n 3, 156, 3, 0, 0), (156, .iconst 1, 157, 0, 0, 1), (157, .iadd, 158, 0, 0, 0), (158, .iaload, 159, 0, 0, 0), (159, .aload_n 0, 160, 0, 0, 0), (160, .iload_n 3, 161, 3, 0, 0), (161, .iconst 2, 162, 0, 0, 2), (162, .iadd, 163, 0, 0, 0), (163, .iaload, 164, 0, 0, 0), (164, .invokevirtual 18, 167, 57, 3, 2), (167, .aload_n 2, 168, 2, 0, 0), (168, .aload_n 0, 169, 0, 0, 0), (169, .iload_n 3, 170, 3, 0, 0), (170, .iconst 1, 171, 0, 0, 1), (171, .iadd, 172, 0, 0, 0), (172, .iaload, 173, 0, 0, 0), (173, .aload_n 0, 174, 0, 0, 0), (174, .iload_n 3, 175, 3, 0, 0), (175, .iconst 2, 176, 0, 0, 2), (176, .iadd, 177, 0, 0, 0), (177, .iaload, 178, 0, 0, 0), (178, .invokevirtual 22, 181, 107, 3, 3), (181, .if_icmp .eq 508, 184, 689, 0, 0), (184, .iconst 0, 185, 0, 0, 0), (185, .ireturn, 186, 0, 0, 0), (186, .aload_n 1, 187, 1, 0, 0), (187, .aload_n 0, 188, 0, 0, 0), (188, .iload_n 3, 189, 3, 0, 0), (189, .iconst 1, 190, 0, 0, 1)] [[1008, 1009, 1001], [], [1001, 1010, 1011], [], [2227, 2228, 1004], [], [1004, 2229, 2230], [], [], [], [], [], [], [], [], [], [], [], [], [], [], [], [], [1001, 1110, 1111, 1112], [], [1004, 3039, 3040, 3041], [], [], [], [], [], [], [], [], [], [], [], [], [], [], [1001, 1154, 1155, 1156], [], [], [], [], [], [], [], [], [], [], [], [1004, 3072, 3073, 3074], [], [], [], [], [], [], []] = true := by decide +kernel
theorem xk_167_1 : xm_okT xq_167 [(190, .iadd, 191, 0, 0, 0), (191, .iaload, 192, 0, 0, 0), (192, .invokevirtual 23, 195, 58, 2, 2), (195, .aload_n 2, 196, 2, 0, 0), (196, .aload_n 0, 197, 0, 0, 0), (197, .iload_n 3, 198, 3, 0, 0), (198, .iconst 1, 199, 0, 0, 1), (199, .iadd, 200, 0, 0, 0), (200, .iaload, 201, 0, 0, 0), (201, .invokevirtual 27, 204, 110, 2, 3), (204, .if_icmp .eq 485, 207, 689, 0, 0), (207, .iconst 0, 208, 0, 0, 0), (208, .ireturn, 209, 0, 0, 0), (209, .aload_n 1, 210, 1, 0, 0), (210, .aload_n 0, 211, 0, 0, 0), (211, .iload_n 3, 212, 3, 0, 0), (212, .iconst 1, 213, 0, 0, 1), (213, .iadd, 214, 0, 0, 0), (214, .iaload, 215, 0, 0, 0), (215, .aload_n 0, 216, 0, 0, 0), (216, .iload_n 3, 217, 3, 0, 0), (217, .iconst 2, 218, 0, 0, 2), (218, .iadd, 219, 0, 0, 0), (219, .iaload, 220, 0, 0, 0), (220, .aload_n 0, 221, 0, 0, 0), (221, .iload_n 3, 222, 3, 0, 0), (222, .iconst 3, 223, 0, 0, 3), (223, .iadd, 224, 0, 0, 0), (224, .iaload, 225, 0, 0, 0), (225, .invokevirtual 28, 228, 59, 4, 2), (228, .aload_n 2, 229, 2, 0, 0), (229, .aload_n 0, 230, 0, 0, 0), (230, .iload_n 3, 231, 3, 0, 0), (231, .iconst 1, 232, 0, 0, 1), (232, .iadd, 233, 0, 0, 0), (233, .iaload, 234, 0, 0, 0), (234, .aload_n 0, 235, 0, 0, 0), (235, .iload_n 3, 236, 3, 0, 0), (236, .iconst 2, 237, 0, 0, 2), (237, .iadd, 238, 0, 0, 0), (238, .iaload, 239, 0, 0, 0), (239, .aload_n 0, 240, 0, 0, 0), (240, .iload_n 3, 241, 3, 0, 0), (241, .iconst 3, 242, 0, 0, 3), (242, .iadd, 243, 0, 0, 0), (243, .iaload, 244, 0, 0, 0), (244, .invokevirtual 32, 247, 113, 4, 3), (247, .if_icmp .eq 442, 250, 689, 0, 0), (250, .iconst 0, 251, 0, 0, 0), (251, .ireturn, 252, 0, 0, 0), (252, .aload_n 1, 253, 1, 0, 0), (253, .aload_n 0, 254, 0, 0, 0), (254, .iload_n 3, 255, 3, 0, 0), (255, .iconst 1, 256, 0, 0, 1), (256, .iadd, 257, 0, 0, 0), (257, .iaload, 258, 0, 0, 0), (258, .aload_n 0, 259, 0, 0, 0), (259, .iload_n 3, 260, 3, 0, 0), (260, .iconst 2, 261, 0, 0, 2), (261, .iadd, 262, 0, 0, 0)] [[], [], [1001, 1174, 1175, 1176], [], [], [], [], [], [], [1004, 3095, 3096, 3097], [], [], [], [], [], [], [], [], [], [], [], [], [], [], [], [], [], [], [], [1001, 1182, 1183, 1184], [], [], [], [], [], [], [], [], [], [], [], [], [], [], [], [], [1004, 3107, 3108, 3109], [], [], [], [], [], [], [], [], [], [], [], [], []] = true := by decide +kernel
theorem xk_167_2 : xm_okT xq_167 [(262, .iaload, 263, 0, 0, 0), (263, .invokevirtual 33, 266, 60, 3, 2), (266, .aload_n 2, 267, 2, 0, 0), (267, .aload_n 0, 268, 0, 0, 0), (268, .iload_n 3, 269, 3, 0, 0), (269, .iconst 1, 270, 0, 0, 1), (270, .iadd, 271, 0, 0, 0), (271, .iaload, 272, 0, 0, 0), (272, .aload_n 0, 273, 0, 0, 0), (273, .iload_n 3, 274, 3, 0, 0), (274, .iconst 2, 275, 0, 0, 2), (275, .iadd, 276, 0, 0, 0), (276, .iaload, 277, 0, 0, 0), (277, .invokevirtual 36, 280, 116, 3, 3), (280, .if_icmp .eq 409, 283, 689, 0, 0), (283, .iconst 0, 284, 0, 0, 0), (284, .ireturn, 285, 0, 0, 0), (285, .aload_n 1, 286, 1, 0, 0), (286, .aload_n 0, 287, 0, 0, 0), (287, .iload_n 3, 288, 3, 0, 0), (288, .iconst 1, 289, 0, 0, 1), (289, .iadd, 290, 0, 0, 0), (290, .iaload, 291, 0, 0, 0), (291, .invokevirtual 37, 294, 61, 2, 2), (294, .aload_n 2, 295, 2, 0, 0), (295, .aload_n 0, 296, 0, 0, 0), (296, .iload_n 3, 297, 3, 0, 0), (297, .iconst 1, 298, 0, 0, 1), (298, .iadd, 299, 0, 0, 0), (299, .iaload, 300, 0, 0, 0), (300, .invokevirtual 40, 303, 120, 2, 3), (303, .if_icmp .eq 386, 306, 689, 0, 0), (306, .iconst 0, 307, 0, 0, 0), (307, .ireturn, 308, 0, 0, 0), (308, .aload_n 1, 309, 1, 0, 0), (309, .aload_n 0, 310, 0, 0, 0), (310, .iload_n 3, 311, 3, 0, 0), (311, .iconst 1, 312, 0, 0, 1), (312, .iadd, 313, 0, 0, 0), (313, .iaload, 314, 0, 0, 0), (314, .invokevirtual 41, 317, 62, 2, 2), (317, .aload_n 2, 318, 2, 0, 0), (318, .aload_n 0, 319, 0, 0, 0), (319, .iload_n 3, 320, 3, 0, 0), (320, .iconst 1, 321, 0, 0, 1), (321, .iadd, 322, 0, 0, 0), (322, .iaload, 323, 0, 0, 0), (323, .invokevirtual 44, 326, 121, 2, 3), (326, .if_icmp .eq 363, 329, 689, 0, 0), (329, .iconst 0, 330, 0, 0, 0), (330, .ireturn, 331, 0, 0, 0), (331, .aload_n 1, 332, 1, 0, 0), (332, .aload_n 0, 333, 0, 0, 0), (333, .iload_n 3, 334, 3, 0, 0), (334, .iconst 1, 335, 0, 0, 1), (335, .iadd, 336, 0, 0, 0), (336, .iaload, 337, 0, 0, 0), (337, .invokevirtual 45, 340, 63, 2, 2), (340, .aload_n 2, 341, 2, 0, 0), (341, .aload_n 0, 342, 0, 0, 0)] [[], [1001, 1209, 1210, 1211], [], [], [], [], [], [], [], [], [], [], [], [1004, 3130, 3131, 3132], [], [], [], [], [], [], [], [], [], [1001, 1217, 1218, 1219], [], [], [], [], [], [], [1004, 3142, 3143, 3144], [], [], [], [], [], [], [], [], [], [1001, 1234, 1235, 1236], [], [], [], [], [], [], [1004, 3161, 3162, 3163], [], [], [], [], [], [], [], [], [], [1001, 2002, 2003, 2004], [], []] = true := by decide +kernel
theorem xk_167_3 : xm_okT xq_167 [(342, .iload_n 3, 343, 3, 0, 0), (343, .iconst 1, 344, 0, 0, 1), (344, .iadd, 345, 0, 0, 0), (345, .iaload, 346, 0, 0, 0), (346, .invokevirtual 48, 349, 134, 2, 3), (349, .if_icmp .eq 340, 352, 689, 0, 0), (352, .iconst 0, 353, 0, 0, 0), (353, .ireturn, 354, 0, 0, 0), (354, .aload_n 1, 355, 1, 0, 0), (355, .invokevirtual 49, 358, 64, 1, 2), (358, .aload_n 2, 359, 2, 0, 0), (359, .invokevirtual 52, 362, 136, 1, 3), (362, .if_icmp .eq 327, 365, 689, 0, 0), (365, .iconst 0, 366, 0, 0, 0), (366, .ireturn, 367, 0, 0, 0), (367, .aload_n 1, 368, 1, 0, 0), (368, .aload_n 0, 369, 0, 0, 0), (369, .iload_n 3, 370, 3, 0, 0), (370, .iconst 1, 371, 0, 0, 1), (371, .iadd, 372, 0, 0, 0), (372, .iaload, 373, 0, 0, 0), (373, .aload_n 0, 374, 0, 0, 0), (374, .iload_n 3, 375, 3, 0, 0), (375, .iconst 2, 376, 0, 0, 2), (376, .iadd, 377, 0, 0, 0), (377, .iaload, 378, 0, 0, 0), (378, .invokevirtual 53, 381, 65, 3, 2), (381, .aload_n 2, 382, 2, 0, 0), (382, .aload_n 0, 383, 0, 0, 0), (383, .iload_n 3, 384, 3, 0, 0), (384, .iconst 1, 385, 0, 0, 1), (385, .iadd, 386, 0, 0, 0), (386, .iaload, 387, 0, 0, 0), (387, .aload_n 0, 388, 0, 0, 0), (388, .iload_n 3, 389, 3, 0, 0), (389, .iconst 2, 390, 0, 0, 2), (390, .iadd, 391, 0, 0, 0), (391, .iaload, 392, 0, 0, 0), (392, .invokevirtual 56, 395, 139, 3, 3), (395, .if_icmp .eq 294, 398, 689, 0, 0), (398, .iconst 0, 399, 0, 0, 0), (399, .ireturn, 400, 0, 0, 0), (400, .aload_n 1, 401, 1, 0, 0), (401, .aload_n 0, 402, 0, 0, 0), (402, .iload_n 3, 403, 3, 0, 0), (403, .iconst 1, 404, 0, 0, 1), (404, .iadd, 405, 0, 0, 0), (405, .iaload, 406, 0, 0, 0), (406, .aload_n 0, 407, 0, 0, 0), (407, .iload_n 3, 408, 3, 0, 0), (408, .iconst 2, 409, 0, 0, 2), (409, .iadd, 410, 0, 0, 0), (410, .iaload, 411, 0, 0, 0), (411, .invokevirtual 57, 414, 66, 3, 2), (414, .aload_n 2, 415, 2, 0, 0), (415, .aload_n 0, 416, 0, 0, 0), (416, .iload_n 3, 417, 3, 0, 0), (417, .iconst 1, 418, 0, 0, 1), (418, .iadd, 419, 0, 0, 0), (419, .iaload, 420, 0, 0, 0)] [[], [], [], [], [1004, 3165, 3166, 3167], [], [], [], [], [1001, 2066, 2067, 2068], [], [1004, 3223, 3224, 3225], [], [], [], [], [], [], [], [], [], [], [], [], [], [], [1001, 2078, 2079, 2080], [], [], [], [], [], [], [], [], [], [], [], [1004, 3235, 3236, 3237], [], [], [], [], [], [], [], [], [], [], [], [], [], [], [1001, 2108, 2109, 2110], [], [], [], [], [], []] = true := by decide +kernel
theorem xk_167_4 : xm_okT xq_167 [(420, .aload_n 0, 421, 0, 0, 0), (421, .iload_n 3, 422, 3, 0, 0), (422, .iconst 2, 423, 0, 0, 2), (423, .iadd, 424, 0, 0, 0), (424, .iaload, 425, 0, 0, 0), (425, .invokevirtual 60, 428, 141, 3, 3), (428, .if_icmp .eq 261, 431, 689, 0, 0), (431, .iconst 0, 432, 0, 0, 0), (432, .ireturn, 433, 0, 0, 0), (433, .aload_n 1, 434, 1, 0, 0), (434, .aload_n 0, 435, 0, 0, 0), (435, .iload_n 3, 436, 3, 0, 0), (436, .iconst 1, 437, 0, 0, 1), (437, .iadd, 438, 0, 0, 0), (438, .iaload, 439, 0, 0, 0), (439, .invokevirtual 61, 442, 67, 2, 2), (442, .aload_n 2, 443, 2, 0, 0), (443, .aload_n 0, 444, 0, 0, 0), (444, .iload_n 3, 445, 3, 0, 0), (445, .iconst 1, 446, 0, 0, 1), (446, .iadd, 447, 0, 0, 0), (447, .iaload, 448, 0, 0, 0), (448, .invokevirtual 64, 451, 142, 2, 3), (451, .if_icmp .eq 238, 454, 689, 0, 0), (454, .iconst 0, 455, 0, 0, 0), (455, .ireturn, 456, 0, 0, 0), (456, .aload_n 1, 457, 1, 0, 0), (457, .aload_n 0, 458, 0, 0, 0), (458, .iload_n 3, 459, 3, 0, 0), (459, .iconst 1, 460, 0, 0, 1), (460, .iadd, 461, 0, 0, 0), (461, .iaload, 462, 0, 0, 0), (462, .invokevirtual 65, 465, 68, 2, 2), (465, .aload_n 2, 466, 2, 0, 0), (466, .aload_n 0, 467, 0, 0, 0), (467, .iload_n 3, 468, 3, 0, 0), (468, .iconst 1, 469, 0, 0, 1), (469, .iadd, 470, 0, 0, 0), (470, .iaload, 471, 0, 0, 0), (471, .invokevirtual 68, 474, 145, 2, 3), (474, .if_icmp .eq 215, 477, 689, 0, 0), (477, .iconst 0, 478, 0, 0, 0), (478, .ireturn, 479, 0, 0, 0), (479, .aload_n 1, 480, 1, 0, 0), (480, .aload_n 0, 481, 0, 0, 0), (481, .iload_n 3, 482, 3, 0, 0), (482, .iconst 1, 483, 0, 0, 1), (483, .iadd, 484, 0, 0, 0), (484, .iaload, 485, 0, 0, 0), (485, .invokevirtual 69, 488, 69, 2, 2), (488, .aload_n 2, 489, 2, 0, 0), (489, .aload_n 0, 490, 0, 0, 0), (490, .iload_n 3, 491, 3, 0, 0), (491, .iconst 1, 492, 0, 0, 1), (492, .iadd, 493, 0, 0, 0), (493, .iaload, 494, 0, 0, 0), (494, .invokevirtual 72, 497, 146, 2, 3), (497, .if_icmp .eq 192, 500, 689, 0, 0), (500, .iconst 0, 501, 0, 0, 0), (501, .ireturn, 502, 0, 0, 0)] [[], [], [], [], [], [1004, 4007, 4008, 4009], [], [], [], [], [], [], [], [], [], [1001, 2114, 2115, 2116], [], [], [], [], [], [], [1004, 4015, 4016, 4017], [], [], [], [], [], [], [], [], [], [1001, 2118, 2119, 2120], [], [], [], [], [], [], [1004, 4019, 4020, 4021], [], [], [], [], [], [], [], [], [], [1001, 2123, 2124, 2125], [], [], [], [], [], [], [1004, 4031, 4032, 4033], [], [], []] = true := by decide +kernel
theorem xk_167_5 : xm_okT xq_167 [(502, .aload_n 1, 503, 1, 0, 0), (503, .aload_n 0, 504, 0, 0, 0), (504, .iload_n 3, 505, 3, 0, 0), (505, .iconst 1, 506, 0, 0, 1), (506, .iadd, 507, 0, 0, 0), (507, .iaload, 508, 0, 0, 0), (508, .aload_n 0, 509, 0, 0, 0), (509, .iload_n 3, 510, 3, 0, 0), (510, .iconst 2, 511, 0, 0, 2), (511, .iadd, 512, 0, 0, 0), (512, .iaload, 513, 0, 0, 0), (513, .invokevirtual 73, 516, 70, 3, 2), (516, .aload_n 2, 517, 2, 0, 0), (517, .aload_n 0, 518, 0, 0, 0), (518, .iload_n 3, 519, 3, 0, 0), (519, .iconst 1, 520, 0, 0, 1), (520, .iadd, 521, 0, 0, 0), (521, .iaload, 522, 0, 0, 0), (522, .aload_n 0, 523, 0, 0, 0), (523, .iload_n 3, 524, 3, 0, 0), (524, .iconst 2, 525, 0, 0, 2), (525, .iadd, 526, 0, 0, 0), (526, .iaload, 527, 0, 0, 0), (527, .invokevirtual 76, 530, 147, 3, 3), (530, .if_icmp .eq 159, 533, 689, 0, 0), (533, .iconst 0, 534, 0, 0, 0), (534, .ireturn, 535, 0, 0, 0), (535, .aload_n 1, 536, 1, 0, 0), (536, .aload_n 0, 537, 0, 0, 0), (537, .iload_n 3, 538, 3, 0, 0), (538, .iconst 1, 539, 0, 0, 1), (539, .iadd, 540, 0, 0, 0), (540, .iaload, 541, 0, 0, 0), (541, .invokevirtual 77, 544, 71, 2, 2), (544, .aload_n 2, 545, 2, 0, 0), (545, .aload_n 0, 546, 0, 0, 0), (546, .iload_n 3, 547, 3, 0, 0), (547, .iconst 1, 548, 0, 0, 1), (548, .iadd, 549, 0, 0, 0), (549, .iaload, 550, 0, 0, 0), (550, .invokevirtual 80, 553, 148, 2, 3), (553, .if_icmp .eq 136, 556, 689, 0, 0), (556, .iconst 0, 557, 0, 0, 0), (557, .ireturn, 558, 0, 0, 0), (558, .aload_n 1, 559, 1, 0, 0), (559, .aload_n 0, 560, 0, 0, 0), (560, .iload_n 3, 561, 3, 0, 0), (561, .iconst 1, 562, 0, 0, 1), (562, .iadd, 563, 0, 0, 0), (563, .iaload, 564, 0, 0, 0), (564, .invokevirtual 81, 567, 72, 2, 2), (567, .aload_n 2, 568, 2, 0, 0), (568, .aload_n 0, 569, 0, 0, 0), (569, .iload_n 3, 570, 3, 0, 0), (570, .iconst 1, 571, 0, 0, 1), (571, .iadd, 572, 0, 0, 0), (572, .iaload, 573, 0, 0, 0), (573, .invokevirtual 84, 576, 149, 2, 3), (576, .if_icmp .eq 113, 579, 689, 0, 0), (579, .iconst 0, 580, 0, 0, 0)] [[], [], [], [], [], [], [], [], [], [], [], [1001, 2129, 2130, 2131], [], [], [], [], [], [], [], [], [], [], [], [1004, 4035, 4036, 4037], [], [], [], [], [], [], [], [], [], [1001, 2135, 2136, 2137], [], [], [], [], [], [], [1004, 4039, 4040, 4041], [], [], [], [], [], [], [], [], [], [1001, 2141, 2142, 2143], [], [], [], [], [], [], [1004, 4043, 4044, 4045], [], []] = true := by decide +kernel
theorem xk_167_6 : xm_okT xq_167 [(580, .ireturn, 581, 0, 0, 0), (581, .aload_n 1, 582, 1, 0, 0), (582, .aload_n 0, 583, 0, 0, 0), (583, .iload_n 3, 584, 3, 0, 0), (584, .iconst 1, 585, 0, 0, 1), (585, .iadd, 586, 0, 0, 0), (586, .iaload, 587, 0, 0, 0), (587, .invokevirtual 85, 590, 73, 2, 2), (590, .aload_n 2, 591, 2, 0, 0), (591, .aload_n 0, 592, 0, 0, 0), (592, .iload_n 3, 593, 3, 0, 0), (593, .iconst 1, 594, 0, 0, 1), (594, .iadd, 595, 0, 0, 0), (595, .iaload, 596, 0, 0, 0), (596, .invokevirtual 88, 599, 151, 2, 3), (599, .if_icmp .eq 90, 602, 689, 0, 0), (602, .iconst 0, 603, 0, 0, 0), (603, .ireturn, 604, 0, 0, 0), (604, .aload_n 1, 605, 1, 0, 0), (605, .invokevirtual 89, 608, 74, 1, 2), (608, .aload_n 2, 609, 2, 0, 0), (609, .invokevirtual 92, 612, 94, 1, 3), (612, .if_icmp .eq 77, 615, 689, 0, 0), (615, .iconst 0, 616, 0, 0, 0), (616, .ireturn, 617, 0, 0, 0), (617, .aload_n 1, 618, 1, 0, 0), (618, .aload_n 0, 619, 0, 0, 0), (619, .iload_n 3, 620, 3, 0, 0), (620, .iconst 1, 621, 0, 0, 1), (621, .iadd, 622, 0, 0, 0), (622, .iaload, 623, 0, 0, 0), (623, .invokevirtual 93, 626, 75, 2, 2), (626, .aload_n 2, 627, 2, 0, 0), (627, .aload_n 0, 628, 0, 0, 0), (628, .iload_n 3, 629, 3, 0, 0), (629, .iconst 1, 630, 0, 0, 1), (630, .iadd, 631, 0, 0, 0), (631, .iaload, 632, 0, 0, 0), (632, .invokevirtual 96, 635, 152, 2, 3), (635, .if_icmp .eq 54, 638, 689, 0, 0), (638, .iconst 0, 639, 0, 0, 0), (639, .ireturn, 640, 0, 0, 0), (640, .aload_n 1, 641, 1, 0, 0), (641, .invokevirtual 97, 644, 76, 1, 2), (644, .aload_n 2, 645, 2, 0, 0), (645, .invokevirtual 100, 648, 153, 1, 3), (648, .if_icmp .eq 41, 651, 689, 0, 0), (651, .iconst 0, 652, 0, 0, 0), (652, .ireturn, 653, 0, 0, 0), (653, .aload_n 1, 654, 1, 0, 0), (654, .aload_n 0, 655, 0, 0, 0), (655, .iload_n 3, 656, 3, 0, 0), (656, .iconst 1, 657, 0, 0, 1), (657, .iadd, 658, 0, 0, 0), (658, .iaload, 659, 0, 0, 0), (659, .invokevirtual 101, 662, 77, 2, 2), (662, .aload_n 2, 663, 2, 0, 0), (663, .aload_n 0, 664, 0, 0, 0), (664, .iload_n 3, 665, 3, 0, 0), (665, .iconst 1, 666, 0, 0, 1)] [[], [], [], [], [], [], [], [1001, 2146, 2147, 2148], [], [], [], [], [], [], [1004, 4047, 4048, 4049], [], [], [], [], [1001, 2159, 2160, 2161], [], [1004, 3030, 3031, 3032], [], [], [], [], [], [], [], [], [], [1001, 2164, 2165, 2166], [], [], [], [], [], [], [1004, 4055, 4056, 4057], [], [], [], [], [1001, 2173, 2174, 2175], [], [1004, 4059, 4060, 4061], [], [], [], [], [], [], [], [], [], [1001, 2177, 2178, 2179], [], [], [], []] = true := by decide +kernel
theorem xk_167_7 : xm_okT xq_167 [(666, .iadd, 667, 0, 0, 0), (667, .iaload, 668, 0, 0, 0), (668, .invokevirtual 104, 671, 164, 2, 3), (671, .if_icmp .eq 18, 674, 689, 0, 0), (674, .iconst 0, 675, 0, 0, 0), (675, .ireturn, 676, 0, 0, 0), (676, .aload_n 1, 677, 1, 0, 0), (677, .invokevirtual 105, 680, 78, 1, 2), (680, .aload_n 2, 681, 2, 0, 0), (681, .invokevirtual 108, 684, 165, 1, 3), (684, .if_icmp .eq 5, 687, 689, 0, 0), (687, .iconst 0, 688, 0, 0, 0), (688, .ireturn, 689, 0, 0, 0), (689, .iinc 3 4, 692, 3, 0, 4), (692, .goto (-674), 695, 18, 0, 0), (695, .iconst 1, 696, 0, 0, 1), (696, .ireturn, 697, 0, 0, 0)] [[], [], [1004, 4063, 4064, 4065], [], [], [], [], [1001, 2223, 2224, 2225], [], [1004, 4106, 4107, 4108], [], [], [], [], [], [], []] = true := by decide +kernel
set_option maxRecDepth 100000 in
theorem xk_167 : ∃ ps, xm_okT xq_167 xt_167 ps = true := ⟨_, (xm_okT_app _ _ _ _ rfl xk_167_0 (xm_okT_app _ _ _ _ rfl xk_167_1 (xm_okT_app _ _ _ _ rfl xk_167_2 (xm_okT_app _ _ _ _ rfl xk_167_3 (xm_okT_app _ _ _ _ rfl xk_167_4 (xm_okT_app _ _ _ _ rfl xk_167_5 (xm_okT_app _ _ _ _ rfl xk_167_6 xk_167_7)))))))⟩
set_option maxRecDepth 100000 in
theorem xm_oks : xm_okP xm_tabs xm_ms := ⟨xk_0, xk_1, xk_2, xk_3, xk_4, xk_5, xk_6, xk_7, xk_8, xk_9, xk_10, xk_11, xk_12, xk_13, xk_14, xk_15, xk_16, xk_17, xk_18, xk_19, xk_20, xk_21, xk_22, xk_23, xk_24, xk_25, xk_26, xk_27, xk_28, xk_29, xk_30, xk_31, xk_32, xk_33, xk_34, xk_35, xk_36, xk_37, xk_38, xk_39, xk_40, xk_41, xk_42, xk_43, xk_44, xk_45, xk_46, xk_47, xk_48, xk_49, xk_50, xk_51, xk_52, xk_53, xk_54, xk_55, xk_56, xk_57, xk_58, xk_59, xk_60, xk_61, xk_62, xk_63, xk_64, xk_65, xk_66, xk_67, xk_68, xk_69, xk_70, xk_71, xk_72, xk_73, xk_74, xk_75, xk_76, xk_77, xk_78, xk_79, xk_80, xk_81, xk_82, xk_83, xk_84, xk_85, xk_86, xk_87, xk_88, xk_89, xk_90, xk_91, xk_92, xk_93, xk_94, xk_95, xk_96, xk_97, xk_98, xk_99, xk_100, xk_101, xk_102, xk_103, xk_104, xk_105, xk_106, xk_107, xk_108, xk_109, xk_110, xk_111, xk_112, xk_113, xk_114, xk_115, xk_116, xk_117, xk_118, xk_119, xk_120, xk_121, xk_122, xk_123, xk_124, xk_125, xk_126, xk_127, xk_128, xk_129, xk_130, xk_131, xk_132, xk_133, xk_134, xk_135, xk_136, xk_137, xk_138, xk_139, xk_140, xk_141, xk_142, xk_143, xk_144, xk_145, xk_146, xk_147, xk_148, xk_149, xk_150, xk_151, xk_152, xk_153, xk_154, xk_155, xk_156, xk_157, xk_158, xk_159, xk_160, xk_161, xk_162, xk_163, xk_164, xk_165, xk_166, xk_167, trivial⟩
theorem xw_0 : Jvm.Cond.code xq_0.2.1 xq_0.2.2.1 xq_0.2.2.2.1 xq_0.2.2.2.2.1 ∈ lw_tbl := xm_tb_in (t := 1) (List.mem_of_getElem? (i := 22) rfl)
theorem xw_1 : Jvm.Cond.code xq_1.2.1 xq_1.2.2.1 xq_1.2.2.2.1 xq_1.2.2.2.2.1 ∈ lw_tbl := xm_tb_in (t := 2) (List.mem_of_getElem? (i := 171) rfl)
theorem xw_2 : Jvm.Cond.code xq_2.2.1 xq_2.2.2.1 xq_2.2.2.2.1 xq_2.2.2.2.2.1 ∈ lw_tbl := xm_tb_in (t := 2) (List.mem_of_getElem? (i := 184) rfl)
theorem xw_3 : Jvm.Cond.code xq_3.2.1 xq_3.2.2.1 xq_3.2.2.2.1 xq_3.2.2.2.2.1 ∈ lw_tbl := xm_tb_in (t := 2) (List.mem_of_getElem? (i := 192) rfl)
theorem xw_4 : Jvm.Cond.code xq_4.2.1 xq_4.2.2.1 xq_4.2.2.2.1 xq_4.2.2.2.2.1 ∈ lw_tbl := xm_tb_in (t := 2) (List.mem_of_getElem? (i := 195) rfl)
theorem xw_5 : Jvm.Cond.code xq_5.2.1 xq_5.2.2.1 xq_5.2.2.2.1 xq_5.2.2.2.2.1 ∈ lw_tbl := xm_tb_in (t := 2) (List.mem_of_getElem? (i := 203) rfl)
theorem xw_6 : Jvm.Cond.code xq_6.2.1 xq_6.2.2.1 xq_6.2.2.2.1 xq_6.2.2.2.2.1 ∈ lw_tbl := xm_tb_in (t := 2) (List.mem_of_getElem? (i := 188) rfl)
theorem xw_7 : Jvm.Cond.code xq_7.2.1 xq_7.2.2.1 xq_7.2.2.2.1 xq_7.2.2.2.2.1 ∈ lw_tbl := xm_tb_in (t := 2) (List.mem_of_getElem? (i := 199) rfl)
theorem xw_8 : Jvm.Cond.code xq_8.2.1 xq_8.2.2.1 xq_8.2.2.2.1 xq_8.2.2.2.2.1 ∈ lw_tbl := xm_tb_in (t := 2) (List.mem_of_getElem? (i := 206) rfl)
theorem xw_9 : Jvm.Cond.code xq_9.2.1 xq_9.2.2.1 xq_9.2.2.2.1 xq_9.2.2.2.2.1 ∈ lw_tbl := xm_tb_in (t := 2) (List.mem_of_getElem? (i := 210) rfl)
theorem xw_10 : Jvm.Cond.code xq_10.2.1 xq_10.2.2.1 xq_10.2.2.2.1 xq_10.2.2.2.2.1 ∈ lw_tbl := xm_tb_in (t := 2) (List.mem_of_getElem? (i := 221) rfl)
theorem xw_11 : Jvm.Cond.code xq_11.2.1 xq_11.2.2.1 xq_11.2.2.2.1 xq_11.2.2.2.2.1 ∈ lw_tbl := xm_tb_in (t := 1) (List.mem_of_getElem? (i := 50) rfl)
theorem xw_12 : Jvm.Cond.code xq_12.2.1 xq_12.2.2.1 xq_12.2.2.2.1 xq_12.2.2.2.2.1 ∈ lw_tbl := xm_tb_in (t := 1) (List.mem_of_getElem? (i := 54) rfl)
theorem xw_13 : Jvm.Cond.code xq_13.2.1 xq_13.2.2.1 xq_13.2.2.2.1 xq_13.2.2.2.2.1 ∈ lw_tbl := xm_tb_in (t := 1) (List.mem_of_getElem? (i := 125) rfl)
theorem xw_14 : Jvm.Cond.code xq_14.2.1 xq_14.2.2.1 xq_14.2.2.2.1 xq_14.2.2.2.2.1 ∈ lw_tbl := xm_tb_in (t := 1) (List.mem_of_getElem? (i := 132) rfl)
theorem xw_15 : Jvm.Cond.code xq_15.2.1 xq_15.2.2.1 xq_15.2.2.2.1 xq_15.2.2.2.2.1 ∈ lw_tbl := xm_tb_in (t := 1) (List.mem_of_getElem? (i := 161) rfl)
theorem xw_16 : Jvm.Cond.code xq_16.2.1 xq_16.2.2.1 xq_16.2.2.2.1 xq_16.2.2.2.2.1 ∈ lw_tbl := xm_tb_in (t := 1) (List.mem_of_getElem? (i := 181) rfl)
theorem xw_17 : Jvm.Cond.code xq_17.2.1 xq_17.2.2.1 xq_17.2.2.2.1 xq_17.2.2.2.2.1 ∈ lw_tbl := xm_tb_in (t := 1) (List.mem_of_getElem? (i := 189) rfl)
theorem xw_18 : Jvm.Cond.code xq_18.2.1 xq_18.2.2.1 xq_18.2.2.2.1 xq_18.2.2.2.2.1 ∈ lw_tbl := xm_tb_in (t := 1) (List.mem_of_getElem? (i := 216) rfl)
theorem xw_19 : Jvm.Cond.code xq_19.2.1 xq_19.2.2.1 xq_19.2.2.2.1 xq_19.2.2.2.2.1 ∈ lw_tbl := xm_tb_in (t := 1) (List.mem_of_getElem? (i := 224) rfl)
theorem xw_20 : Jvm.Cond.code xq_20.2.1 xq_20.2.2.1 xq_20.2.2.2.1 xq_20.2.2.2.2.1 ∈ lw_tbl := xm_tb_in (t := 2) (List.mem_of_getElem? (i := 1) rfl)
theorem xw_21 : Jvm.Cond.code xq_21.2.1 xq_21.2.2.1 xq_21.2.2.2.1 xq_21.2.2.2.2.1 ∈ lw_tbl := xm_tb_in (t := 2) (List.mem_of_getElem? (i := 9) rfl)
theorem xw_22 : Jvm.Cond.code xq_22.2.1 xq_22.2.2.1 xq_22.2.2.2.1 xq_22.2.2.2.2.1 ∈ lw_tbl := xm_tb_in (t := 2) (List.mem_of_getElem? (i := 73) rfl)
theorem xw_23 : Jvm.Cond.code xq_23.2.1 xq_23.2.2.1 xq_23.2.2.2.1 xq_23.2.2.2.2.1 ∈ lw_tbl := xm_tb_in (t := 2) (List.mem_of_getElem? (i := 45) rfl)
theorem xw_24 : Jvm.Cond.code xq_24.2.1 xq_24.2.2.1 xq_24.2.2.2.1 xq_24.2.2.2.2.1 ∈ lw_tbl := xm_tb_in (t := 2) (List.mem_of_getElem? (i := 53) rfl)
theorem xw_25 : Jvm.Cond.code xq_25.2.1 xq_25.2.2.1 xq_25.2.2.2.1 xq_25.2.2.2.2.1 ∈ lw_tbl := xm_tb_in (t := 1) (List.mem_of_getElem? (i := 146) rfl)
theorem xw_26 : Jvm.Cond.code xq_26.2.1 xq_26.2.2.1 xq_26.2.2.2.1 xq_26.2.2.2.2.1 ∈ lw_tbl := xm_tb_in (t := 2) (List.mem_of_getElem? (i := 57) rfl)
theorem xw_27 : Jvm.Cond.code xq_27.2.1 xq_27.2.2.1 xq_27.2.2.2.1 xq_27.2.2.2.2.1 ∈ lw_tbl := xm_tb_in (t := 2) (List.mem_of_getElem? (i := 61) rfl)
theorem xw_28 : Jvm.Cond.code xq_28.2.1 xq_28.2.2.1 xq_28.2.2.2.1 xq_28.2.2.2.2.1 ∈ lw_tbl := xm_tb_in (t := 2) (List.mem_of_getElem? (i := 65) rfl)
theorem xw_29 : Jvm.Cond.code xq_29.2.1 xq_29.2.2.1 xq_29.2.2.2.1 xq_29.2.2.2.2.1 ∈ lw_tbl := xm_tb_in (t := 1) (List.mem_of_getElem? (i := 136) rfl)
theorem xw_30 : Jvm.Cond.code xq_30.2.1 xq_30.2.2.1 xq_30.2.2.2.1 xq_30.2.2.2.2.1 ∈ lw_tbl := xm_tb_in (t := 1) (List.mem_of_getElem? (i := 140) rfl)
theorem xw_31 : Jvm.Cond.code xq_31.2.1 xq_31.2.2.1 xq_31.2.2.2.1 xq_31.2.2.2.2.1 ∈ lw_tbl := xm_tb_in (t := 1) (List.mem_of_getElem? (i := 164) rfl)
theorem xw_32 : Jvm.Cond.code xq_32.2.1 xq_32.2.2.1 xq_32.2.2.2.1 xq_32.2.2.2.2.1 ∈ lw_tbl := xm_tb_in (t := 1) (List.mem_of_getElem? (i := 192) rfl)
theorem xw_33 : Jvm.Cond.code xq_33.2.1 xq_33.2.2.1 xq_33.2.2.2.1 xq_33.2.2.2.2.1 ∈ lw_tbl := xm_tb_in (t := 1) (List.mem_of_getElem? (i := 204) rfl)
theorem xw_34 : Jvm.Cond.code xq_34.2.1 xq_34.2.2.1 xq_34.2.2.2.1 xq_34.2.2.2.2.1 ∈ lw_tbl := xm_tb_in (t := 1) (List.mem_of_getElem? (i := 168) rfl)
theorem xw_35 : Jvm.Cond.code xq_35.2.1 xq_35.2.2.1 xq_35.2.2.2.1 xq_35.2.2.2.2.1 ∈ lw_tbl := xm_tb_in (t := 2) (List.mem_of_getElem? (i := 88) rfl)
theorem xw_36 : Jvm.Cond.code xq_36.2.1 xq_36.2.2.1 xq_36.2.2.2.1 xq_36.2.2.2.2.1 ∈ lw_tbl := xm_tb_in (t := 1) (List.mem_of_getElem? (i := 208) rfl)
theorem xw_37 : Jvm.Cond.code xq_37.2.1 xq_37.2.2.1 xq_37.2.2.2.1 xq_37.2.2.2.2.1 ∈ lw_tbl := xm_tb_in (t := 2) (List.mem_of_getElem? (i := 107) rfl)
theorem xw_38 : Jvm.Cond.code xq_38.2.1 xq_38.2.2.1 xq_38.2.2.2.1 xq_38.2.2.2.2.1 ∈ lw_tbl := xm_tb_in (t := 1) (List.mem_of_getElem? (i := 200) rfl)
theorem xw_39 : Jvm.Cond.code xq_39.2.1 xq_39.2.2.1 xq_39.2.2.2.1 xq_39.2.2.2.2.1 ∈ lw_tbl := xm_tb_in (t := 1) (List.mem_of_getElem? (i := 196) rfl)
theorem xw_40 : Jvm.Cond.code xq_40.2.1 xq_40.2.2.1 xq_40.2.2.2.1 xq_40.2.2.2.2.1 ∈ lw_tbl := xm_tb_in (t := 2) (List.mem_of_getElem? (i := 99) rfl)
theorem xw_41 : Jvm.Cond.code xq_41.2.1 xq_41.2.2.1 xq_41.2.2.2.1 xq_41.2.2.2.2.1 ∈ lw_tbl := xm_tb_in (t := 2) (List.mem_of_getElem? (i := 103) rfl)
theorem xw_42 : Jvm.Cond.code xq_42.2.1 xq_42.2.2.1 xq_42.2.2.2.1 xq_42.2.2.2.2.1 ∈ lw_tbl := xm_tb_in (t := 2) (List.mem_of_getElem? (i := 49) rfl)
theorem xw_43 : Jvm.Cond.code xq_43.2.1 xq_43.2.2.1 xq_43.2.2.2.1 xq_43.2.2.2.2.1 ∈ lw_tbl := xm_tb_in (t := 1) (List.mem_of_getElem? (i := 173) rfl)
theorem xw_44 : Jvm.Cond.code xq_44.2.1 xq_44.2.2.1 xq_44.2.2.2.1 xq_44.2.2.2.2.1 ∈ lw_tbl := xm_tb_in (t := 2) (List.mem_of_getElem? (i := 154) rfl)
theorem xw_45 : Jvm.Cond.code xq_45.2.1 xq_45.2.2.1 xq_45.2.2.2.1 xq_45.2.2.2.2.1 ∈ lw_tbl := xm_tb_in (t := 2) (List.mem_of_getElem? (i := 158) rfl)
theorem xw_46 : Jvm.Cond.code xq_46.2.1 xq_46.2.2.1 xq_46.2.2.2.1 xq_46.2.2.2.2.1 ∈ lw_tbl := xm_tb_in (t := 2) (List.mem_of_getElem? (i := 41) rfl)
theorem xw_47 : Jvm.Cond.code xq_47.2.1 xq_47.2.2.1 xq_47.2.2.2.1 xq_47.2.2.2.2.1 ∈ lw_tbl := xm_tb_in (t := 2) (List.mem_of_getElem? (i := 25) rfl)
theorem xw_48 : Jvm.Cond.code xq_48.2.1 xq_48.2.2.1 xq_48.2.2.2.1 xq_48.2.2.2.2.1 ∈ lw_tbl := xm_tb_in (t := 2) (List.mem_of_getElem? (i := 17) rfl)
theorem xw_49 : Jvm.Cond.code xq_49.2.1 xq_49.2.2.1 xq_49.2.2.2.1 xq_49.2.2.2.2.1 ∈ lw_tbl := xm_tb_in (t := 2) (List.mem_of_getElem? (i := 21) rfl)
theorem xw_50 : Jvm.Cond.code xq_50.2.1 xq_50.2.2.1 xq_50.2.2.2.1 xq_50.2.2.2.2.1 ∈ lw_tbl := xm_tb_in (t := 2) (List.mem_of_getElem? (i := 33) rfl)
theorem xw_51 : Jvm.Cond.code xq_51.2.1 xq_51.2.2.1 xq_51.2.2.2.1 xq_51.2.2.2.2.1 ∈ lw_tbl := xm_tb_in (t := 2) (List.mem_of_getElem? (i := 77) rfl)
theorem xw_52 : Jvm.Cond.code xq_52.2.1 xq_52.2.2.1 xq_52.2.2.2.1 xq_52.2.2.2.2.1 ∈ lw_tbl := xm_tb_in (t := 2) (List.mem_of_getElem? (i := 13) rfl)
theorem xw_53 : Jvm.Cond.code xq_53.2.1 xq_53.2.2.1 xq_53.2.2.2.1 xq_53.2.2.2.2.1 ∈ lw_tbl := xm_tb_in (t := 2) (List.mem_of_getElem? (i := 29) rfl)
theorem xw_54 : Jvm.Cond.code xq_54.2.1 xq_54.2.2.1 xq_54.2.2.2.1 xq_54.2.2.2.2.1 ∈ lw_tbl := xm_tb_in (t := 2) (List.mem_of_getElem? (i := 37) rfl)
theorem xw_55 : Jvm.Cond.code xq_55.2.1 xq_55.2.2.1 xq_55.2.2.2.1 xq_55.2.2.2.2.1 ∈ lw_tbl := xm_tb_in (t := 1) (List.mem_of_getElem? (i := 12) rfl)
theorem xw_56 : Jvm.Cond.code xq_56.2.1 xq_56.2.2.1 xq_56.2.2.2.1 xq_56.2.2.2.2.1 ∈ lw_tbl := xm_tb_in (t := 1) (List.mem_of_getElem? (i := 113) rfl)
theorem xw_57 : Jvm.Cond.code xq_57.2.1 xq_57.2.2.1 xq_57.2.2.2.1 xq_57.2.2.2.2.1 ∈ lw_tbl := xm_tb_in (t := 1) (List.mem_of_getElem? (i := 157) rfl)
theorem xw_58 : Jvm.Cond.code xq_58.2.1 xq_58.2.2.1 xq_58.2.2.2.1 xq_58.2.2.2.2.1 ∈ lw_tbl := xm_tb_in (t := 1) (List.mem_of_getElem? (i := 177) rfl)
theorem xw_59 : Jvm.Cond.code xq_59.2.1 xq_59.2.2.1 xq_59.2.2.2.1 xq_59.2.2.2.2.1 ∈ lw_tbl := xm_tb_in (t := 1) (List.mem_of_getElem? (i := 185) rfl)
theorem xw_60 : Jvm.Cond.code xq_60.2.1 xq_60.2.2.1 xq_60.2.2.2.1 xq_60.2.2.2.2.1 ∈ lw_tbl := xm_tb_in (t := 1) (List.mem_of_getElem? (i := 212) rfl)
theorem xw_61 : Jvm.Cond.code xq_61.2.1 xq_61.2.2.1 xq_61.2.2.2.1 xq_61.2.2.2.2.1 ∈ lw_tbl := xm_tb_in (t := 1) (List.mem_of_getElem? (i := 220) rfl)
theorem xw_62 : Jvm.Cond.code xq_62.2.1 xq_62.2.2.1 xq_62.2.2.2.1 xq_62.2.2.2.2.1 ∈ lw_tbl := xm_tb_in (t := 1) (List.mem_of_getElem? (i := 237) rfl)
theorem xw_63 : Jvm.Cond.code xq_63.2.1 xq_63.2.2.1 xq_63.2.2.2.1 xq_63.2.2.2.2.1 ∈ lw_tbl := xm_tb_in (t := 2) (List.mem_of_getElem? (i := 5) rfl)
theorem xw_64 : Jvm.Cond.code xq_64.2.1 xq_64.2.2.1 xq_64.2.2.2.1 xq_64.2.2.2.2.1 ∈ lw_tbl := xm_tb_in (t := 2) (List.mem_of_getElem? (i := 69) rfl)
theorem xw_65 : Jvm.Cond.code xq_65.2.1 xq_65.2.2.1 xq_65.2.2.2.1 xq_65.2.2.2.2.1 ∈ lw_tbl := xm_tb_in (t := 2) (List.mem_of_getElem? (i := 81) rfl)
theorem xw_66 : Jvm.Cond.code xq_66.2.1 xq_66.2.2.1 xq_66.2.2.2.1 xq_66.2.2.2.2.1 ∈ lw_tbl := xm_tb_in (t := 2) (List.mem_of_getElem? (i := 111) rfl)
theorem xw_67 : Jvm.Cond.code xq_67.2.1 xq_67.2.2.1 xq_67.2.2.2.1 xq_67.2.2.2.2.1 ∈ lw_tbl := xm_tb_in (t := 2) (List.mem_of_getElem? (i := 117) rfl)
theorem xw_68 : Jvm.Cond.code xq_68.2.1 xq_68.2.2.1 xq_68.2.2.2.1 xq_68.2.2.2.2.1 ∈ lw_tbl := xm_tb_in (t := 2) (List.mem_of_getElem? (i := 121) rfl)
theorem xw_69 : Jvm.Cond.code xq_69.2.1 xq_69.2.2.1 xq_69.2.2.2.1 xq_69.2.2.2.2.1 ∈ lw_tbl := xm_tb_in (t := 2) (List.mem_of_getElem? (i := 126) rfl)
theorem xw_70 : Jvm.Cond.code xq_70.2.1 xq_70.2.2.1 xq_70.2.2.2.1 xq_70.2.2.2.2.1 ∈ lw_tbl := xm_tb_in (t := 2) (List.mem_of_getElem? (i := 132) rfl)
theorem xw_71 : Jvm.Cond.code xq_71.2.1 xq_71.2.2.1 xq_71.2.2.2.1 xq_71.2.2.2.2.1 ∈ lw_tbl := xm_tb_in (t := 2) (List.mem_of_getElem? (i := 138) rfl)
theorem xw_72 : Jvm.Cond.code xq_72.2.1 xq_72.2.2.1 xq_72.2.2.2.1 xq_72.2.2.2.2.1 ∈ lw_tbl := xm_tb_in (t := 2) (List.mem_of_getElem? (i := 144) rfl)
theorem xw_73 : Jvm.Cond.code xq_73.2.1 xq_73.2.2.1 xq_73.2.2.2.1 xq_73.2.2.2.2.1 ∈ lw_tbl := xm_tb_in (t := 2) (List.mem_of_getElem? (i := 149) rfl)
theorem xw_74 : Jvm.Cond.code xq_74.2.1 xq_74.2.2.1 xq_74.2.2.2.1 xq_74.2.2.2.2.1 ∈ lw_tbl := xm_tb_in (t := 2) (List.mem_of_getElem? (i := 162) rfl)
theorem xw_75 : Jvm.Cond.code xq_75.2.1 xq_75.2.2.1 xq_75.2.2.2.1 xq_75.2.2.2.2.1 ∈ lw_tbl := xm_tb_in (t := 2) (List.mem_of_getElem? (i := 167) rfl)
theorem xw_76 : Jvm.Cond.code xq_76.2.1 xq_76.2.2.1 xq_76.2.2.2.1 xq_76.2.2.2.2.1 ∈ lw_tbl := xm_tb_in (t := 2) (List.mem_of_getElem? (i := 176) rfl)
theorem xw_77 : Jvm.Cond.code xq_77.2.1 xq_77.2.2.1 xq_77.2.2.2.1 xq_77.2.2.2.2.1 ∈ lw_tbl := xm_tb_in (t := 2) (List.mem_of_getElem? (i := 180) rfl)
theorem xw_78 : Jvm.Cond.code xq_78.2.1 xq_78.2.2.1 xq_78.2.2.2.1 xq_78.2.2.2.2.1 ∈ lw_tbl := xm_tb_in (t := 2) (List.mem_of_getElem? (i := 226) rfl)
theorem xw_79 : Jvm.Cond.code xq_79.2.1 xq_79.2.2.1 xq_79.2.2.2.1 xq_79.2.2.2.2.1 ∈ lw_tbl := xm_tb_in (t := 1) (List.mem_of_getElem? (i := 121) rfl)
theorem xw_80 : Jvm.Cond.code xq_80.2.1 xq_80.2.2.1 xq_80.2.2.2.1 xq_80.2.2.2.2.1 ∈ lw_tbl := xm_tb_in (t := 1) (List.mem_of_getElem? (i := 117) rfl)
theorem xw_81 : Jvm.Cond.code xq_81.2.1 xq_81.2.2.1 xq_81.2.2.2.1 xq_81.2.2.2.2.1 ∈ lw_tbl := xm_tb_in (t := 1) (List.mem_of_getElem? (i := 150) rfl)
theorem xw_82 : Jvm.Cond.code xq_82.2.1 xq_82.2.2.1 xq_82.2.2.2.1 xq_82.2.2.2.2.1 ∈ lw_tbl := xm_tb_in (t := 2) (List.mem_of_getElem? (i := 91) rfl)
theorem xw_83 : Jvm.Cond.code xq_83.2.1 xq_83.2.2.1 xq_83.2.2.2.1 xq_83.2.2.2.2.1 ∈ lw_tbl := xm_tb_in (t := 1) (List.mem_of_getElem? (i := 227) rfl)
theorem xw_84 : Jvm.Cond.code xq_84.2.1 xq_84.2.2.1 xq_84.2.2.2.1 xq_84.2.2.2.2.1 ∈ lw_tbl := xm_tb_in (t := 2) (List.mem_of_getElem? (i := 231) rfl)
theorem xw_85 : Jvm.Cond.code xq_85.2.1 xq_85.2.2.1 xq_85.2.2.2.1 xq_85.2.2.2.2.1 ∈ lw_tbl := xm_tb_in (t := 3) (List.mem_of_getElem? (i := 85) rfl)
theorem xw_86 : Jvm.Cond.code xq_86.2.1 xq_86.2.2.1 xq_86.2.2.2.1 xq_86.2.2.2.2.1 ∈ lw_tbl := xm_tb_in (t := 3) (List.mem_of_getElem? (i := 61) rfl)
theorem xw_87 : Jvm.Cond.code xq_87.2.1 xq_87.2.2.1 xq_87.2.2.2.1 xq_87.2.2.2.2.1 ∈ lw_tbl := xm_tb_in (t := 3) (List.mem_of_getElem? (i := 89) rfl)
theorem xw_88 : Jvm.Cond.code xq_88.2.1 xq_88.2.2.1 xq_88.2.2.2.1 xq_88.2.2.2.2.1 ∈ lw_tbl := xm_tb_in (t := 3) (List.mem_of_getElem? (i := 82) rfl)
theorem xw_89 : Jvm.Cond.code xq_89.2.1 xq_89.2.2.1 xq_89.2.2.2.1 xq_89.2.2.2.2.1 ∈ lw_tbl := xm_tb_in (t := 3) (List.mem_of_getElem? (i := 117) rfl)
theorem xw_90 : Jvm.Cond.code xq_90.2.1 xq_90.2.2.1 xq_90.2.2.2.1 xq_90.2.2.2.2.1 ∈ lw_tbl := xm_tb_in (t := 3) (List.mem_of_getElem? (i := 210) rfl)
theorem xw_91 : Jvm.Cond.code xq_91.2.1 xq_91.2.2.1 xq_91.2.2.2.1 xq_91.2.2.2.2.1 ∈ lw_tbl := xm_tb_in (t := 3) (List.mem_of_getElem? (i := 160) rfl)
theorem xw_92 : Jvm.Cond.code xq_92.2.1 xq_92.2.2.1 xq_92.2.2.2.1 xq_92.2.2.2.2.1 ∈ lw_tbl := xm_tb_in (t := 3) (List.mem_of_getElem? (i := 38) rfl)
theorem xw_93 : Jvm.Cond.code xq_93.2.1 xq_93.2.2.1 xq_93.2.2.2.1 xq_93.2.2.2.2.1 ∈ lw_tbl := xm_tb_in (t := 3) (List.mem_of_getElem? (i := 67) rfl)
theorem xw_94 : Jvm.Cond.code xq_94.2.1 xq_94.2.2.1 xq_94.2.2.2.1 xq_94.2.2.2.2.1 ∈ lw_tbl := xm_tb_in (t := 3) (List.mem_of_getElem? (i := 33) rfl)
theorem xw_95 : Jvm.Cond.code xq_95.2.1 xq_95.2.2.1 xq_95.2.2.2.1 xq_95.2.2.2.2.1 ∈ lw_tbl := xm_tb_in (t := 3) (List.mem_of_getElem? (i := 129) rfl)
theorem xw_96 : Jvm.Cond.code xq_96.2.1 xq_96.2.2.1 xq_96.2.2.2.1 xq_96.2.2.2.2.1 ∈ lw_tbl := xm_tb_in (t := 3) (List.mem_of_getElem? (i := 125) rfl)
theorem xw_97 : Jvm.Cond.code xq_97.2.1 xq_97.2.2.1 xq_97.2.2.2.1 xq_97.2.2.2.2.1 ∈ lw_tbl := xm_tb_in (t := 3) (List.mem_of_getElem? (i := 191) rfl)
theorem xw_98 : Jvm.Cond.code xq_98.2.1 xq_98.2.2.1 xq_98.2.2.2.1 xq_98.2.2.2.2.1 ∈ lw_tbl := xm_tb_in (t := 3) (List.mem_of_getElem? (i := 58) rfl)
theorem xw_99 : Jvm.Cond.code xq_99.2.1 xq_99.2.2.1 xq_99.2.2.2.1 xq_99.2.2.2.2.1 ∈ lw_tbl := xm_tb_in (t := 3) (List.mem_of_getElem? (i := 54) rfl)
theorem xw_100 : Jvm.Cond.code xq_100.2.1 xq_100.2.2.1 xq_100.2.2.2.1 xq_100.2.2.2.2.1 ∈ lw_tbl := xm_tb_in (t := 3) (List.mem_of_getElem? (i := 50) rfl)
theorem xw_101 : Jvm.Cond.code xq_101.2.1 xq_101.2.2.1 xq_101.2.2.2.1 xq_101.2.2.2.2.1 ∈ lw_tbl := xm_tb_in (t := 3) (List.mem_of_getElem? (i := 222) rfl)
theorem xw_102 : Jvm.Cond.code xq_102.2.1 xq_102.2.2.1 xq_102.2.2.2.1 xq_102.2.2.2.2.1 ∈ lw_tbl := xm_tb_in (t := 3) (List.mem_of_getElem? (i := 46) rfl)
theorem xw_103 : Jvm.Cond.code xq_103.2.1 xq_103.2.2.1 xq_103.2.2.2.1 xq_103.2.2.2.2.1 ∈ lw_tbl := xm_tb_in (t := 3) (List.mem_of_getElem? (i := 71) rfl)
theorem xw_104 : Jvm.Cond.code xq_104.2.1 xq_104.2.2.1 xq_104.2.2.2.1 xq_104.2.2.2.2.1 ∈ lw_tbl := xm_tb_in (t := 3) (List.mem_of_getElem? (i := 42) rfl)
theorem xw_105 : Jvm.Cond.code xq_105.2.1 xq_105.2.2.1 xq_105.2.2.2.1 xq_105.2.2.2.2.1 ∈ lw_tbl := xm_tb_in (t := 3) (List.mem_of_getElem? (i := 79) rfl)
theorem xw_106 : Jvm.Cond.code xq_106.2.1 xq_106.2.2.1 xq_106.2.2.2.1 xq_106.2.2.2.2.1 ∈ lw_tbl := xm_tb_in (t := 3) (List.mem_of_getElem? (i := 94) rfl)
theorem xw_107 : Jvm.Cond.code xq_107.2.1 xq_107.2.2.1 xq_107.2.2.2.1 xq_107.2.2.2.2.1 ∈ lw_tbl := xm_tb_in (t := 3) (List.mem_of_getElem? (i := 75) rfl)
theorem xw_108 : Jvm.Cond.code xq_108.2.1 xq_108.2.2.1 xq_108.2.2.2.1 xq_108.2.2.2.2.1 ∈ lw_tbl := xm_tb_in (t := 3) (List.mem_of_getElem? (i := 102) rfl)
theorem xw_109 : Jvm.Cond.code xq_109.2.1 xq_109.2.2.1 xq_109.2.2.2.1 xq_109.2.2.2.2.1 ∈ lw_tbl := xm_tb_in (t := 3) (List.mem_of_getElem? (i := 106) rfl)
theorem xw_110 : Jvm.Cond.code xq_110.2.1 xq_110.2.2.1 xq_110.2.2.2.1 xq_110.2.2.2.2.1 ∈ lw_tbl := xm_tb_in (t := 3) (List.mem_of_getElem? (i := 98) rfl)
theorem xw_111 : Jvm.Cond.code xq_111.2.1 xq_111.2.2.1 xq_111.2.2.2.1 xq_111.2.2.2.2.1 ∈ lw_tbl := xm_tb_in (t := 3) (List.mem_of_getElem? (i := 114) rfl)
theorem xw_112 : Jvm.Cond.code xq_112.2.1 xq_112.2.2.1 xq_112.2.2.2.1 xq_112.2.2.2.2.1 ∈ lw_tbl := xm_tb_in (t := 3) (List.mem_of_getElem? (i := 121) rfl)
theorem xw_113 : Jvm.Cond.code xq_113.2.1 xq_113.2.2.1 xq_113.2.2.2.1 xq_113.2.2.2.2.1 ∈ lw_tbl := xm_tb_in (t := 3) (List.mem_of_getElem? (i := 110) rfl)
theorem xw_114 : Jvm.Cond.code xq_114.2.1 xq_114.2.2.1 xq_114.2.2.2.1 xq_114.2.2.2.2.1 ∈ lw_tbl := xm_tb_in (t := 3) (List.mem_of_getElem? (i := 137) rfl)
theorem xw_115 : Jvm.Cond.code xq_115.2.1 xq_115.2.2.1 xq_115.2.2.2.1 xq_115.2.2.2.2.1 ∈ lw_tbl := xm_tb_in (t := 3) (List.mem_of_getElem? (i := 141) rfl)
theorem xw_116 : Jvm.Cond.code xq_116.2.1 xq_116.2.2.1 xq_116.2.2.2.1 xq_116.2.2.2.2.1 ∈ lw_tbl := xm_tb_in (t := 3) (List.mem_of_getElem? (i := 133) rfl)
theorem xw_117 : Jvm.Cond.code xq_117.2.1 xq_117.2.2.1 xq_117.2.2.2.1 xq_117.2.2.2.2.1 ∈ lw_tbl := xm_tb_in (t := 3) (List.mem_of_getElem? (i := 157) rfl)
theorem xw_118 : Jvm.Cond.code xq_118.2.1 xq_118.2.2.1 xq_118.2.2.2.1 xq_118.2.2.2.2.1 ∈ lw_tbl := xm_tb_in (t := 3) (List.mem_of_getElem? (i := 149) rfl)
theorem xw_119 : Jvm.Cond.code xq_119.2.1 xq_119.2.2.1 xq_119.2.2.2.1 xq_119.2.2.2.2.1 ∈ lw_tbl := xm_tb_in (t := 3) (List.mem_of_getElem? (i := 153) rfl)
theorem xw_120 : Jvm.Cond.code xq_120.2.1 xq_120.2.2.1 xq_120.2.2.2.1 xq_120.2.2.2.2.1 ∈ lw_tbl := xm_tb_in (t := 3) (List.mem_of_getElem? (i := 145) rfl)
theorem xw_121 : Jvm.Cond.code xq_121.2.1 xq_121.2.2.1 xq_121.2.2.2.1 xq_121.2.2.2.2.1 ∈ lw_tbl := xm_tb_in (t := 3) (List.mem_of_getElem? (i := 164) rfl)
theorem xw_122 : Jvm.Cond.code xq_122.2.1 xq_122.2.2.1 xq_122.2.2.2.1 xq_122.2.2.2.2.1 ∈ lw_tbl := xm_tb_in (t := 3) (List.mem_of_getElem? (i := 199) rfl)
theorem xw_123 : Jvm.Cond.code xq_123.2.1 xq_123.2.2.1 xq_123.2.2.2.1 xq_123.2.2.2.2.1 ∈ lw_tbl := xm_tb_in (t := 3) (List.mem_of_getElem? (i := 207) rfl)
theorem xw_124 : Jvm.Cond.code xq_124.2.1 xq_124.2.2.1 xq_124.2.2.2.1 xq_124.2.2.2.2.1 ∈ lw_tbl := xm_tb_in (t := 3) (List.mem_of_getElem? (i := 214) rfl)
theorem xw_125 : Jvm.Cond.code xq_125.2.1 xq_125.2.2.1 xq_125.2.2.2.1 xq_125.2.2.2.2.1 ∈ lw_tbl := xm_tb_in (t := 3) (List.mem_of_getElem? (i := 195) rfl)
theorem xw_126 : Jvm.Cond.code xq_126.2.1 xq_126.2.2.1 xq_126.2.2.2.1 xq_126.2.2.2.2.1 ∈ lw_tbl := xm_tb_in (t := 3) (List.mem_of_getElem? (i := 203) rfl)
theorem xw_127 : Jvm.Cond.code xq_127.2.1 xq_127.2.2.1 xq_127.2.2.2.1 xq_127.2.2.2.2.1 ∈ lw_tbl := xm_tb_in (t := 3) (List.mem_of_getElem? (i := 234) rfl)
theorem xw_128 : Jvm.Cond.code xq_128.2.1 xq_128.2.2.1 xq_128.2.2.2.1 xq_128.2.2.2.2.1 ∈ lw_tbl := xm_tb_in (t := 3) (List.mem_of_getElem? (i := 187) rfl)
theorem xw_129 : Jvm.Cond.code xq_129.2.1 xq_129.2.2.1 xq_129.2.2.2.1 xq_129.2.2.2.2.1 ∈ lw_tbl := xm_tb_in (t := 3) (List.mem_of_getElem? (i := 218) rfl)
theorem xw_130 : Jvm.Cond.code xq_130.2.1 xq_130.2.2.1 xq_130.2.2.2.1 xq_130.2.2.2.2.1 ∈ lw_tbl := xm_tb_in (t := 3) (List.mem_of_getElem? (i := 183) rfl)
theorem xw_131 : Jvm.Cond.code xq_131.2.1 xq_131.2.2.1 xq_131.2.2.2.1 xq_131.2.2.2.2.1 ∈ lw_tbl := xm_tb_in (t := 3) (List.mem_of_getElem? (i := 179) rfl)
theorem xw_132 : Jvm.Cond.code xq_132.2.1 xq_132.2.2.1 xq_132.2.2.2.1 xq_132.2.2.2.2.1 ∈ lw_tbl := xm_tb_in (t := 3) (List.mem_of_getElem? (i := 175) rfl)
theorem xw_133 : Jvm.Cond.code xq_133.2.1 xq_133.2.2.1 xq_133.2.2.2.1 xq_133.2.2.2.2.1 ∈ lw_tbl := xm_tb_in (t := 3) (List.mem_of_getElem? (i := 172) rfl)
theorem xw_134 : Jvm.Cond.code xq_134.2.1 xq_134.2.2.1 xq_134.2.2.2.1 xq_134.2.2.2.2.1 ∈ lw_tbl := xm_tb_in (t := 3) (List.mem_of_getElem? (i := 168) rfl)
theorem xw_135 : Jvm.Cond.code xq_135.2.1 xq_135.2.2.1 xq_135.2.2.2.1 xq_135.2.2.2.2.1 ∈ lw_tbl := xm_tb_in (t := 3) (List.mem_of_getElem? (i := 230) rfl)
theorem xw_136 : Jvm.Cond.code xq_136.2.1 xq_136.2.2.1 xq_136.2.2.2.1 xq_136.2.2.2.2.1 ∈ lw_tbl := xm_tb_in (t := 3) (List.mem_of_getElem? (i := 226) rfl)
theorem xw_137 : Jvm.Cond.code xq_137.2.1 xq_137.2.2.1 xq_137.2.2.2.1 xq_137.2.2.2.2.1 ∈ lw_tbl := xm_tb_in (t := 4) (List.mem_of_getElem? (i := 6) rfl)
theorem xw_138 : Jvm.Cond.code xq_138.2.1 xq_138.2.2.1 xq_138.2.2.2.1 xq_138.2.2.2.2.1 ∈ lw_tbl := xm_tb_in (t := 4) (List.mem_of_getElem? (i := 2) rfl)
theorem xw_139 : Jvm.Cond.code xq_139.2.1 xq_139.2.2.1 xq_139.2.2.2.1 xq_139.2.2.2.2.1 ∈ lw_tbl := xm_tb_in (t := 3) (List.mem_of_getElem? (i := 238) rfl)
theorem xw_140 : Jvm.Cond.code xq_140.2.1 xq_140.2.2.1 xq_140.2.2.2.1 xq_140.2.2.2.2.1 ∈ lw_tbl := xm_tb_in (t := 4) (List.mem_of_getElem? (i := 14) rfl)
theorem xw_141 : Jvm.Cond.code xq_141.2.1 xq_141.2.2.1 xq_141.2.2.2.1 xq_141.2.2.2.2.1 ∈ lw_tbl := xm_tb_in (t := 4) (List.mem_of_getElem? (i := 10) rfl)
theorem xw_142 : Jvm.Cond.code xq_142.2.1 xq_142.2.2.1 xq_142.2.2.2.1 xq_142.2.2.2.2.1 ∈ lw_tbl := xm_tb_in (t := 4) (List.mem_of_getElem? (i := 18) rfl)
theorem xw_143 : Jvm.Cond.code xq_143.2.1 xq_143.2.2.1 xq_143.2.2.2.1 xq_143.2.2.2.2.1 ∈ lw_tbl := xm_tb_in (t := 4) (List.mem_of_getElem? (i := 30) rfl)
theorem xw_144 : Jvm.Cond.code xq_144.2.1 xq_144.2.2.1 xq_144.2.2.2.1 xq_144.2.2.2.2.1 ∈ lw_tbl := xm_tb_in (t := 4) (List.mem_of_getElem? (i := 26) rfl)
theorem xw_145 : Jvm.Cond.code xq_145.2.1 xq_145.2.2.1 xq_145.2.2.2.1 xq_145.2.2.2.2.1 ∈ lw_tbl := xm_tb_in (t := 4) (List.mem_of_getElem? (i := 22) rfl)
theorem xw_146 : Jvm.Cond.code xq_146.2.1 xq_146.2.2.1 xq_146.2.2.2.1 xq_146.2.2.2.2.1 ∈ lw_tbl := xm_tb_in (t := 4) (List.mem_of_getElem? (i := 34) rfl)
theorem xw_147 : Jvm.Cond.code xq_147.2.1 xq_147.2.2.1 xq_147.2.2.2.1 xq_147.2.2.2.2.1 ∈ lw_tbl := xm_tb_in (t := 4) (List.mem_of_getElem? (i := 38) rfl)
theorem xw_148 : Jvm.Cond.code xq_148.2.1 xq_148.2.2.1 xq_148.2.2.2.1 xq_148.2.2.2.2.1 ∈ lw_tbl := xm_tb_in (t := 4) (List.mem_of_getElem? (i := 42) rfl)
theorem xw_149 : Jvm.Cond.code xq_149.2.1 xq_149.2.2.1 xq_149.2.2.2.1 xq_149.2.2.2.2.1 ∈ lw_tbl := xm_tb_in (t := 4) (List.mem_of_getElem? (i := 46) rfl)
theorem xw_150 : Jvm.Cond.code xq_150.2.1 xq_150.2.2.1 xq_150.2.2.2.1 xq_150.2.2.2.2.1 ∈ lw_tbl := xm_tb_in (t := 4) (List.mem_of_getElem? (i := 54) rfl)
theorem xw_151 : Jvm.Cond.code xq_151.2.1 xq_151.2.2.1 xq_151.2.2.2.1 xq_151.2.2.2.2.1 ∈ lw_tbl := xm_tb_in (t := 4) (List.mem_of_getElem? (i := 50) rfl)
theorem xw_152 : Jvm.Cond.code xq_152.2.1 xq_152.2.2.1 xq_152.2.2.2.1 xq_152.2.2.2.2.1 ∈ lw_tbl := xm_tb_in (t := 4) (List.mem_of_getElem? (i := 58) rfl)
theorem xw_153 : Jvm.Cond.code xq_153.2.1 xq_153.2.2.1 xq_153.2.2.2.1 xq_153.2.2.2.2.1 ∈ lw_tbl := xm_tb_in (t := 4) (List.mem_of_getElem? (i := 62) rfl)
theorem xw_154 : Jvm.Cond.code xq_154.2.1 xq_154.2.2.1 xq_154.2.2.2.1 xq_154.2.2.2.2.1 ∈ lw_tbl := xm_tb_in (t := 4) (List.mem_of_getElem? (i := 82) rfl)
theorem xw_155 : Jvm.Cond.code xq_155.2.1 xq_155.2.2.1 xq_155.2.2.2.1 xq_155.2.2.2.2.1 ∈ lw_tbl := xm_tb_in (t := 4) (List.mem_of_getElem? (i := 89) rfl)
theorem xw_156 : Jvm.Cond.code xq_156.2.1 xq_156.2.2.1 xq_156.2.2.2.1 xq_156.2.2.2.2.1 ∈ lw_tbl := xm_tb_in (t := 4) (List.mem_of_getElem? (i := 93) rfl)
theorem xw_157 : Jvm.Cond.code xq_157.2.1 xq_157.2.2.1 xq_157.2.2.2.1 xq_157.2.2.2.2.1 ∈ lw_tbl := xm_tb_in (t := 4) (List.mem_of_getElem? (i := 85) rfl)
theorem xw_158 : Jvm.Cond.code xq_158.2.1 xq_158.2.2.1 xq_158.2.2.2.1 xq_158.2.2.2.2.1 ∈ lw_tbl := xm_tb_in (t := 4) (List.mem_of_getElem? (i := 78) rfl)
theorem xw_159 : Jvm.Cond.code xq_159.2.1 xq_159.2.2.1 xq_159.2.2.2.1 xq_159.2.2.2.2.1 ∈ lw_tbl := xm_tb_in (t := 4) (List.mem_of_getElem? (i := 97) rfl)
theorem xw_160 : Jvm.Cond.code xq_160.2.1 xq_160.2.2.1 xq_160.2.2.2.1 xq_160.2.2.2.2.1 ∈ lw_tbl := xm_tb_in (t := 4) (List.mem_of_getElem? (i := 101) rfl)
theorem xw_161 : Jvm.Cond.code xq_161.2.1 xq_161.2.2.1 xq_161.2.2.2.1 xq_161.2.2.2.2.1 ∈ lw_tbl := xm_tb_in (t := 4) (List.mem_of_getElem? (i := 74) rfl)
theorem xw_162 : Jvm.Cond.code xq_162.2.1 xq_162.2.2.1 xq_162.2.2.2.1 xq_162.2.2.2.2.1 ∈ lw_tbl := xm_tb_in (t := 4) (List.mem_of_getElem? (i := 105) rfl)
theorem xw_163 : Jvm.Cond.code xq_163.2.1 xq_163.2.2.1 xq_163.2.2.2.1 xq_163.2.2.2.2.1 ∈ lw_tbl := xm_tb_in (t := 4) (List.mem_of_getElem? (i := 70) rfl)
theorem xw_164 : Jvm.Cond.code xq_164.2.1 xq_164.2.2.1 xq_164.2.2.2.1 xq_164.2.2.2.2.1 ∈ lw_tbl := xm_tb_in (t := 4) (List.mem_of_getElem? (i := 66) rfl)
theorem xw_165 : Jvm.Cond.code xq_165.2.1 xq_165.2.2.1 xq_165.2.2.2.1 xq_165.2.2.2.2.1 ∈ lw_tbl := xm_tb_in (t := 4) (List.mem_of_getElem? (i := 109) rfl)
theorem xw_166 : Jvm.Cond.code xq_166.2.1 xq_166.2.2.1 xq_166.2.2.2.1 xq_166.2.2.2.2.1 ∈ lw_tbl := xm_tb_in (t := 1) (List.mem_of_getElem? (i := 230) rfl)
def xm_cdP : List xm_M → Prop
  | m :: m2 :: ms => Jvm.Cond.code m.2.1 m.2.2.1 m.2.2.2.1 m.2.2.2.2.1 ∈ lw_tbl ∧ xm_cdP (m2 :: ms)
  | _ => True
set_option maxRecDepth 100000 in
theorem xm_cds : xm_cdP xm_ms := ⟨xw_0, xw_1, xw_2, xw_3, xw_4, xw_5, xw_6, xw_7, xw_8, xw_9, xw_10, xw_11, xw_12, xw_13, xw_14, xw_15, xw_16, xw_17, xw_18, xw_19, xw_20, xw_21, xw_22, xw_23, xw_24, xw_25, xw_26, xw_27, xw_28, xw_29, xw_30, xw_31, xw_32, xw_33, xw_34, xw_35, xw_36, xw_37, xw_38, xw_39, xw_40, xw_41, xw_42, xw_43, xw_44, xw_45, xw_46, xw_47, xw_48, xw_49, xw_50, xw_51, xw_52, xw_53, xw_54, xw_55, xw_56, xw_57, xw_58, xw_59, xw_60, xw_61, xw_62, xw_63, xw_64, xw_65, xw_66, xw_67, xw_68, xw_69, xw_70, xw_71, xw_72, xw_73, xw_74, xw_75, xw_76, xw_77, xw_78, xw_79, xw_80, xw_81, xw_82, xw_83, xw_84, xw_85, xw_86, xw_87, xw_88, xw_89, xw_90, xw_91, xw_92, xw_93, xw_94, xw_95, xw_96, xw_97, xw_98, xw_99, xw_100, xw_101, xw_102, xw_103, xw_104, xw_105, xw_106, xw_107, xw_108, xw_109, xw_110, xw_111, xw_112, xw_113, xw_114, xw_115, xw_116, xw_117, xw_118, xw_119, xw_120, xw_121, xw_122, xw_123, xw_124, xw_125, xw_126, xw_127, xw_128, xw_129, xw_130, xw_131, xw_132, xw_133, xw_134, xw_135, xw_136, xw_137, xw_138, xw_139, xw_140, xw_141, xw_142, xw_143, xw_144, xw_145, xw_146, xw_147, xw_148, xw_149, xw_150, xw_151, xw_152, xw_153, xw_154, xw_155, xw_156, xw_157, xw_158, xw_159, xw_160, xw_161, xw_162, xw_163, xw_164, xw_165, xw_166, trivial⟩
theorem xm_cdP_get : ∀ (ms : List xm_M) (k : Nat) (m : xm_M), xm_cdP ms → k + 1 < ms.length → ms[k]? = some m → Jvm.Cond.code m.2.1 m.2.2.1 m.2.2.2.1 m.2.2.2.2.1 ∈ lw_tbl := by
  intro ms
  induction ms with
  | nil => intro k m _ h; simp at h
  | cons a ms ih =>
    intro k m hp hl hm
    cases ms with
    | nil => simp at hl
    | cons b ms =>
      cases k with
      | zero =>
        cases hm
        exact hp.1
      | succ k => exact ih k m hp.2 (by simpa using hl) hm
theorem xm_code {j : Nat} {m : xm_M} (hj : j < 167) (hm : xm_ms[j]? = some m) : Jvm.Cond.code m.2.1 m.2.2.1 m.2.2.2.1 m.2.2.2.2.1 ∈ xm_ws :=
  List.mem_filter.mpr ⟨xm_cdP_get xm_ms j m xm_cds (by show j + 1 < 168; omega) hm, rfl⟩
theorem xm_find_mem {t : List (Nat × xm_Q)} {pc : Nat} {q : xm_Q} (h : xm_find t pc = some q) : (pc, q) ∈ t := by
  induction t with
  | nil => cases h
  | cons e t ih =>
    unfold xm_find at h
    split at h
    · next he =>
      cases h
      subst he
      exact List.mem_cons_self
    · exact List.mem_cons_of_mem _ (ih h)
theorem xm_okP_get : ∀ (ts : List (List (Nat × xm_Q))) (ms : List xm_M) (k : Nat) (t : List (Nat × xm_Q)) (m : xm_M), xm_okP ts ms → ts[k]? = some t → ms[k]? = some m → ∃ ps, xm_okT m t ps = true := by
  intro ts
  induction ts with
  | nil => intro ms k t m _ h; simp at h
  | cons a ts ih =>
    intro ms k t m hp ht hm
    cases ms with
    | nil => simp at hm
    | cons b ms =>
      cases k with
      | zero =>
        cases ht
        cases hm
        exact hp.1
      | succ k => exact ih ms k t m hp.2 ht hm
theorem xm_ok {k pc : Nat} {q : xm_Q} {M : xm_M} (hM : xm_ms[k]? = some M) (h : xm_ins k pc = some q) : decode M.2.2.1 pc = .ok (q.1, xm_len q.1 pc q.2.1) ∧ q.2.1 = pc + xm_len q.1 pc q.2.1 ∧ ∃ ps, xm_okX ps M pc q = true := by
  unfold xm_ins at h
  split at h
  · next t ht =>
    obtain ⟨ps0, h0⟩ := xm_okP_get _ _ k t M xm_oks ht hM
    obtain ⟨ps, h1⟩ := xm_okT_get t ps0 _ h0 (xm_find_mem h)
    simp only [xm_okB, Bool.and_eq_true, decide_eq_true_eq] at h1
    exact ⟨h1.1, h1.2.1, ps, h1.2.2⟩
  · cases h
theorem xm_cls_ws : ∀ (ci : Nat) (q : vw_C), vwCl[ci]? = some q → ∀ w ∈ u_ws q.1 q.2.1 q.2.2, w ∈ xm_ws := by
  have h : ∀ q ∈ vwCl, (u_ws q.1 q.2.1 q.2.2).all (fun w => decide (w ∈ lw_tbl) && goodWord w) = true := by decide +kernel
  intro ci q hq w hw
  have h1 := List.all_eq_true.mp (h q (List.mem_of_getElem? hq)) w hw
  simp only [Bool.and_eq_true, decide_eq_true_eq] at h1
  exact List.mem_filter.mpr h1
theorem xm_cls_ty : ∀ (ci : Nat) (q : vw_C), vwCl[ci]? = some q → ∃ ty : Nat → FieldType, (∀ k, k < q.2.2 → parseFieldDescriptor (q.2.1 k).2.2.1 = some (ty k)) ∧ (∀ a, a < q.2.2 → ∀ b, b < q.2.2 → a ≠ b → (q.2.1 a).2.1 ≠ (q.2.1 b).2.1) ∧ (∀ j, j < q.2.2 → defaultValue (ty j) = vp_V (xm_new ci) j) ∧ (xm_new ci).length = q.2.2 := by
  intro ci q hq
  match ci, hq with
  | 0, hq => cases hq; exact ⟨tyX0, tyX0_ok, nmX0, by decide +kernel, rfl⟩
  | 1, hq => cases hq; exact ⟨tyX1, tyX1_ok, nmX1, by decide +kernel, rfl⟩
  | 2, hq => cases hq; exact ⟨tyX2, tyX2_ok, nmX2, by decide +kernel, rfl⟩
  | 3, hq => cases hq; exact ⟨tyX3, tyX3_ok, nmX3, by decide +kernel, rfl⟩
  | k + 4, hq => simp [vwCl] at hq
end
section
/-! a run of the abstract machine is a run of the machine -/
def xm_wk (M : xm_M) : List Jvm.Cond := Jvm.Cond.code M.2.1 M.2.2.1 M.2.2.2.1 M.2.2.2.2.1 :: xm_ws
def xm_rm (M : xm_M) (mc ms : Nat) : Room := { frames := M.2.2.2.2.2.1, cells := mc, slots := ms, locals := M.2.2.2.2.2.2 }
def xm_Pc (D : va_G) (B bs : Nat) (cI cV : ClassId) (L : Nat) (xs : Nat → Int32) (H0 : Heap) (as : List Value) (hp : xm_H) : Array Value → State → Prop := fun a U => a = (as.map (xm_va B bs)).toArray ∧ xm_P D B bs cI cV H0 hp U.heap ∧ xm_K D B bs cI cV L xs H0 U
def xm_Qc (D : va_G) (B bs : Nat) (cI cV : ClassId) (H0 : Heap) (r : Option Value) (hp' : xm_H) : Array Value → State → Outcome → State → Prop := fun _ _ o t => o = .returned (r.map (xm_va B bs)) ∧ xm_P D B bs cI cV H0 hp' t.heap
theorem xm_K.moved {D : va_G} {B bs : Nat} {cI cV : ClassId} {L : Nat} {xs : Nat → Int32} {H0 : Heap} {s U : State} (hW : s.WarmedH U.vm) (h : xm_K D B bs cI cV L xs H0 s) : xm_K D B bs cI cV L xs H0 U :=
  ⟨va_K.moved hW.alike h.1, va_X.moved hW.alike h.2.1, h.2.2.1, va_Nw.warmM hW h.2.2.2.1, va_Nw.warmM hW h.2.2.2.2.1, va_AO.moved hW.alike h.2.2.2.2.2⟩
theorem xm_blind {D : va_G} {B bs : Nat} {cI cV : ClassId} {L : Nat} {xs : Nat → Int32} {H0 : Heap} {as : List Value} {hp : xm_H} : FrameBlind (xm_Pc D B bs cI cV L xs H0 as hp) := by
  intro a U g mk h
  obtain ⟨h1, h2, h⟩ := h
  exact ⟨h1, h2, va_K.moved (u := U) (U := U.calling g mk a) (Vm.Alike.refl U.vm) h.1, va_X.moved (u := U) (U := U.calling g mk a) (Vm.Alike.refl U.vm) h.2.1, h.2.2.1, va_Nw.same rfl rfl h.2.2.2.1, va_Nw.same rfl rfl h.2.2.2.2.1, va_AO.moved (u := U) (U := U.calling g mk a) (Vm.Alike.refl U.vm) h.2.2.2.2.2⟩
def xm_Ws (B bs : Nat) (cI cV : ClassId) (hp : xm_H) : va_W := hp.mapIdx (fun i e => (bs + i, xm_ce B bs cI cV e))
theorem xm_Ws_at {B bs : Nat} {cI cV : ClassId} {hp : xm_H} {a : Nat} {e : xm_E} (h : hp[a]? = some e) : (xm_Ws B bs cI cV hp)[a]? = some (bs + a, xm_ce B bs cI cV e) := by
  unfold xm_Ws
  rw [List.getElem?_mapIdx, h]
  rfl
theorem xm_P.ws {D : va_G} {B bs : Nat} {cI cV : ClassId} {H0 H : Heap} {hp : xm_H} (h : xm_P D B bs cI cV H0 hp H) : va_P D vwCl (xm_Ws B bs cI cV hp) H := by
  intro k q hq
  unfold xm_Ws at hq
  rw [List.getElem?_mapIdx] at hq
  cases he : hp[k]? with
  | none => rw [he] at hq; cases hq
  | some e =>
    rw [he] at hq
    cases hq
    exact h.2.2 k e he
/-- a method's end -/
def xm_end (cc : ByteArray) (rt : Option FieldType) (k : Nat) (r : Option Value) (pc : Nat) (st : List Value) : Prop :=
  (decode cc pc = .ok (.ireturn, 1) ∧ (rt = some .int ∨ rt = some .boolean) ∧ ∃ u, st = [.int u] ∧ r = some (.int u) ∧ (xm_rb k = true → u = 0 ∨ u = 1)) ∨
  (decode cc pc = .ok (.areturn, 1) ∧ (∃ ty, rt = some ty ∧ ((∃ n, ty = .object n) ∨ ∃ t, ty = .array t)) ∧ ∃ u, st = [.ref u] ∧ r = some (.ref u)) ∨
  (decode cc pc = .ok (.return_, 1) ∧ rt = none ∧ st = [] ∧ r = none)
def xm_SW (l : Launch) (D : va_G) (B bs : Nat) (cI cV : ClassId) (L : Nat) (xs : Nat → Int32) (H0 : Heap) (n : Nat) : Prop :=
  ∀ (p : Program) (e : Env) (R : Room) (s : State) (m : MethodId) (args : Array Value) (below : List Frame) (meth : Method) (c : Code) (Q : State → Prop) (k : Nat) (own : String) (yk : MethodName) (cc : ByteArray) (nL : Nat) (rt : Option FieldType) (fr lo mc ms : Nat) (r : Option Value) (hp' : xm_H),
    xm_ms[k]? = some (own, yk, cc, nL, rt, fr, lo) → p.tables.exec = Jvm.exec → c.code = cc → c.maxLocals = nL → s.vm.findClass own = some m.cls → (yk.name = "<init>" → meth.name = "<init>") → (∀ w ∈ xm_ws, w.before args s = true) → xm_K D B bs cI cV L xs H0 s → fr ≤ R.frames → lo ≤ R.locals → mc ≤ R.cells → ms ≤ R.slots →
    (∀ (pc : Nat) (st : List Value) (lsC : Array Slot) (H : Heap) (locs : List Loc), xm_end cc rt k r pc st → xm_P D B bs cI cV H0 hp' H → (∀ q ∈ locs, bs ≤ q.base) → W p l e R s m args below meth c H locs mc ms Q (F0 m pc lsC (st.map (xm_va B bs)))) →
    ∀ (pc : Nat) (ls st : List Value) (hp : xm_H) (H : Heap) (lsC : Array Slot) (locs : List Loc) (cells slots : Nat), xm_ex L xs n k pc ls st hp = some (r, hp') → xm_L B bs nL ls lsC → xm_P D B bs cI cV H0 hp H → (∀ q ∈ locs, bs ≤ q.base) → cells + hp'.length ≤ mc + hp.length → slots + xm_sz hp' ≤ ms + xm_sz hp → W p l e R s m args below meth c H locs cells slots Q (F0 m pc lsC (st.map (xm_va B bs)))
theorem xm_rb_of {k : Nat} {own : String} {yk : MethodName} {cc : ByteArray} {nL fr lo : Nat} (h : xm_ms[k]? = some (own, yk, cc, nL, some .boolean, fr, lo)) (hk : k < 167) : xm_rb k = true := by
  unfold xm_rb
  rw [h]
  show (k != 167) = true
  simp
  omega
set_option maxHeartbeats 4000000 in
theorem xm_met {l : Launch} {D : va_G} {B bs : Nat} {cI cV : ClassId} {L : Nat} {xs : Nat → Int32} {H0 : Heap} {n : Nat} (hS : xm_SW l D B bs cI cV L xs H0 n) {j : Nat} {M : xm_M} (hM : xm_ms[j]? = some M) (hj : j < 167) (hpl : plainName M.2.1.cls = true) (hown : M.1 = M.2.1.cls) {as : List Value} {hp : xm_H} {r : Option Value} {hp' : xm_H} (hlen : as.length ≤ M.2.2.2.1) (h : xm_ex L xs n j 0 (xm_pad j as) [] hp = some (r, hp')) :
    Met l M.2.1 (xm_wk M) (xm_rm M (hp'.length - hp.length) (xm_sz hp' - xm_sz hp)) (xm_Pc D B bs cI cV L xs H0 as hp) (xm_Qc D B bs cI cV H0 r hp') (hp'.length - hp.length) (xm_sz hp' - xm_sz hp) (fun q => bs ≤ q) := by
  obtain ⟨own, yk, cc, nL, rt, fr, lo⟩ := M
  refine Met.ofW (cc := cc) (maxL := nL) (ret := rt) (ws' := xm_ws) hpl rfl ?_
  intro p e s m args below meth c s₁ Bd hml hv
  obtain ⟨rfl, hP, hK⟩ := hv
  have hts := atoms_spec (ws := xm_wk (own, yk, cc, nL, rt, fr, lo)) Bd.pre
  have hmono := xm_ex_mono _ _ _ _ _ _ _ h
  have hmono1 : hp.length ≤ hp'.length := hmono.1
  have hmono2 : xm_sz hp ≤ xm_sz hp' := hmono.2
  have hx := Bd.exec
  have hb := Bd.bytes
  have hr := Bd.returns
  have hlocks := Bd.notSynchronized
  rw [lg_entry_eq]
  have hown' : own = yk.cls := hown
  refine hS p e _ s m _ below meth c _ j own yk cc nL rt fr lo (hp'.length - hp.length) (xm_sz hp' - xm_sz hp) r hp' hM hx hb hml (by rw [hown']; exact findClass_of_methodNamed Bd.named) (fun h => ((name_of_methodNamed Bd.named Bd.method).1).trans h) (fun w h => hts w (List.mem_cons_of_mem _ h)) hK (Nat.le_refl _) (Nat.le_refl _) (Nat.le_refl _) (Nat.le_refl _) ?_ 0 (xm_pad j as) [] hp s.heap _ [] 0 0 h ?_ hP (fun _ h => by cases h) (by omega) (by omega)
  · intro pc st lsC H locs hend hP' hl
    rcases hend with ⟨hd, hrt, u, rfl, rfl, hu⟩ | ⟨hd, ⟨ty, rfl, hty⟩, u, rfl, rfl⟩ | ⟨hd, rfl, rfl, rfl⟩
    · rcases hrt with rfl | rfl
      · exact W.iret (v := u) hx hb hr (fun t ht _ => ⟨rfl, by rw [ht]; exact hP'⟩) hl hd
      · have h01 := hu (xm_rb_of hM hj)
        exact W.zret (v := u) hx hb hr (by rcases h01 with rfl | rfl <;> rfl) (fun t ht _ => ⟨rfl, by rw [ht]; exact hP'⟩) hl hd
    · exact W.aret (v := .ref (bs + u)) hx hb hr hty (Or.inr ⟨_, rfl⟩) (fun t ht _ => ⟨rfl, by rw [ht]; exact hP'⟩) hl hd
    · exact W.vret hx hb hr (fun t ht _ => ⟨rfl, by rw [ht]; exact hP'⟩) hl hd
  · have e1 : xm_ml j = nL := by unfold xm_ml; rw [hM]
    unfold xm_pad
    rw [e1]
    exact xm_entry B bs hlen
def xm_cont (L : Nat) (xs : Nat → Int32) (n k : Nat) (r : Option Value) (hp' : xm_H) (o : xm_O) : Prop := match o with
  | .inl (pc', ls', st', hp1) => xm_ex L xs n k pc' ls' st' hp1 = some (r, hp')
  | .inr (.inl q) => q = (r, hp')
  | .inr (.inr (j, as, nx, ls', rest, hp1)) => ∃ u hp2, xm_ex L xs n j 0 (xm_pad j as) [] hp1 = some (u, hp2) ∧ xm_ex L xs n k nx ls' (u.toList ++ rest) hp2 = some (r, hp')
theorem xm_ex_cases {L : Nat} {xs : Nat → Int32} {n k pc : Nat} {ls st : List Value} {hp hp' : xm_H} {r : Option Value} (h : xm_ex L xs (n + 1) k pc ls st hp = some (r, hp')) : ∃ q o, xm_ins k pc = some q ∧ xm_step L xs (xm_rb k) pc q ls st hp = some o ∧ xm_cont L xs n k r hp' o := by
  unfold xm_ex at h
  split at h
  · cases h
  · next q hq =>
    split at h
    · cases h
    · next pc' ls' st' hp1 hs => exact ⟨q, _, hq, hs, h⟩
    · next r' hs => exact ⟨q, _, hq, hs, Option.some.inj h⟩
    · next j as nx ls' rest hp1 hs =>
      split at h
      · cases h
      · next hp2 hc => exact ⟨q, _, hq, hs, none, hp2, hc, h⟩
      · next u hp2 hc => exact ⟨q, _, hq, hs, some u, hp2, hc, h⟩
section XSND
variable {p : Program} {l : Launch} {e : Env} {R : Room} {s : State} {m : MethodId} {args : Array Value} {below : List Frame} {meth : Method} {c : Code} {H : Heap} {locs : List Loc} {cells slots : Nat} {Q : State → Prop}
variable {pc : Nat} {ls : Array Slot} {rest st0 : List Value} {a : Array Value} {mc ms : Nat}
theorem xm_callW {D : va_G} {B bs : Nat} {cI cV : ClassId} {H0 : Heap} {r : Option Value} {hp' : xm_H} (hr : va_Run p l e R s m args below meth c H locs cells slots mc ms (F0 m pc ls st0) rest (xm_Qc D B bs cI cV H0 r hp' a) (fun q => bs ≤ q)) (hl : ∀ q ∈ locs, bs ≤ q.base)
    (kk : ∀ (H1 : Heap) (locs1 : List Loc), xm_P D B bs cI cV H0 hp' H1 → (∀ q ∈ locs1, bs ≤ q.base) → W p l e R s m args below meth c H1 locs1 (cells + mc) (slots + ms) Q (F0 m (pc + 3) ls ((r.map (xm_va B bs)).toList ++ rest))) : W p l e R s m args below meth c H locs cells slots Q (F0 m pc ls st0) := by
  intro T hT X
  obtain ⟨v, st₀, t, T', Lc, h0, X', hL, e1, e2, ⟨hv, hP⟩, st⟩ := hr T hT X
  cases hv
  obtain ⟨t2, a1, b1⟩ := kk T'.heap (locs ++ Lc) (by rw [e1]; exact hP) (fun q hq => by
      rcases List.mem_append.mp hq with h | h
      · exact hl q h
      · exact hL q h) T' rfl X'
  exact ⟨t2, st t2 a1, b1⟩
theorem xm_putf {cc : ByteArray} {D : va_G} {tys : List (ClassId × FieldType)} (hexec : p.tables.exec = Jvm.exec) (hb : c.code = cc) {own C : String} {T : u_T} {N ci index : Nat} (hts : ∀ w ∈ xm_ws, w.before args s = true) (hown : s.vm.findClass own = some m.cls) (hK : va_K D vwCl tys s) (hc : vwCl[ci]? = some (C, T, N)) {k : Nat} (hk : k < N)
    (hlink : (Jvm.Cond.fieldLink own index (T k).1 (T k).2.1 (T k).2.2.1).before args s = true) (hfin : (T k).2.2.2 = false ∨ ((T k).2.2.2 = true ∧ meth.name = "<init>" ∧ (T k).1 = own)) {ty : FieldType} {v : Value} (hd : parseFieldDescriptor (T k).2.2.1 = some ty) (hn : narrow ty v = v) (hfit : fits ty v = true) {fs : List Value} (hl : k < fs.length) {a : Nat} (hat : va_at D vwCl (a, .inr (ci, fs)) H) (hdg : decode cc pc = .ok (.putfield index, 3))
    (kk : ∀ (H1 : Heap) (z : Loc), va_at D vwCl (a, .inr (ci, fs.set k v)) H1 → H1.size = H.size → (∀ q, q ≠ a → H1[q]? = H[q]?) → z.base = a → W p l e R s m args below meth c H1 (locs ++ [z]) cells slots Q (F0 m (pc + 3) ls rest)) : W p l e R s m args below meth c H locs cells slots Q (F0 m pc ls (v :: .ref a :: rest)) := by
  have hin := xm_cls_ws ci _ hc
  obtain ⟨ty0, hty, hnm, -, -⟩ := xm_cls_ty ci _ hc
  have hap := va_apart (own := own) hts hin ty0 hty hnm hK hc
  obtain ⟨r, h1, cell, q1, q2, q3, q4⟩ := hat
  have hr : r = (C, T, N) := Option.some.inj (h1.symm.trans hc)
  subst hr
  obtain ⟨hS, hfc, kC, hkC, hkind⟩ := hK.1 ci _ hc
  obtain ⟨cf, kf, fi, f, hi, hsl⟩ := hS k hk
  have hlay := hts _ (hin _ (u_in_lay hk))
  have hst := (u_facts hfc hkC (u_lays hts hin hk) hi).1
  unfold u_lay at hlay
  rcases hfin with hfin | ⟨hfin, hin2, hdecl⟩
  · rw [if_neg (by rw [hfin]; decide)] at hlay
    have h6 := u_store hfc hkC hkind hlay hi hd hn hfit
    refine W.putK hexec hb (f := f) ⟨hown, hlink, ⟨_, _, _, hi⟩, hst⟩ (by rw [q2]; exact h6) q1 q3 (by rw [hsl]; exact k2_hasslot (q4 k hk)) rfl rfl hdg fun H' e1 e2 e3 => ?_
    rw [hsl] at e1 ⊢
    exact kk H' _ ⟨_, hc, t_OB.to (V := updV (vp_V fs) k v) ⟨_, e1, q2, q3, t_set q4 hap hk v⟩ (fun j _ => vp_updV_set hl v j)⟩ e2 e3 rfl
  · rw [if_pos hfin] at hlay
    have hcf : m.cls = cf := by
      obtain ⟨_, _, c', _, _, _, -, -, hf', -, -, -, hown2, -⟩ := Cond.laysFinal_spec hlay
      have e1 : c' = cf := by have := hi.symm.trans hf'; simp at this; exact this.1.symm
      rw [hdecl] at hown2
      rw [← e1]; exact Option.some.inj (hown.symm.trans hown2)
    have h6 := u_fits hfc hkC hkind (Or.inr hlay) hi hd hn hfit
    refine W.putFinK hexec hb hown hlink hi hst hcf hin2 (by rw [q2]; exact h6) q1 q3 (by rw [hsl]; exact k2_hasslot (q4 k hk)) rfl rfl hdg fun H' e1 e2 e3 => ?_
    rw [hsl] at e1 ⊢
    exact kk H' _ ⟨_, hc, t_OB.to (V := updV (vp_V fs) k v) ⟨_, e1, q2, q3, t_set q4 hap hk v⟩ (fun j _ => vp_updV_set hl v j)⟩ e2 e3 rfl
end XSND
theorem xm_toList (B bs : Nat) (u : Option Value) (rest : List Value) : (u.map (xm_va B bs)).toList ++ rest.map (xm_va B bs) = (u.toList ++ rest).map (xm_va B bs) := by
  cases u <;> simp
theorem xm_locs {bs : Nat} {locs : List Loc} {z : Loc} (h : ∀ q ∈ locs, bs ≤ q.base) (hz : bs ≤ z.base) : ∀ q ∈ locs ++ [z], bs ≤ q.base := by
  intro q hq
  rcases List.mem_append.mp hq with h1 | h1
  · exact h q h1
  · rw [List.mem_singleton.mp h1]; exact hz
end
section
/-! every instruction: the abstract step is the machine's step -/
/-- a callee's room and words, out of the check -/
theorem xm_CB {R : Room} {s : State} {args : Array Value} {own : String} {n fr lo x y pn mc ms : Nat} {ps : List Nat} {M : xm_M} (hts : ∀ w ∈ xm_ws, w.before args s = true) (hM : xm_ms[x]? = some M) (hC : xm_okC ps fr lo x M y pn = true) (hfr : fr ≤ R.frames) (hlo : lo ≤ R.locals) (hl : (Jvm.Cond.methodLink own n M.2.1).before args s = true) :
    CallB R s args own n M.2.1 M.2.2.1 M.2.2.2.1 M.2.2.2.2.1 (xm_wk M) (xm_rm M mc ms) mc ms pn ∧ x < 167 ∧ y ≤ M.2.2.2.1 ∧ M.1 = M.2.1.cls ∧ plainName M.2.1.cls = true := by
  obtain ⟨own', yk, cc, nL, rt, frj, loj⟩ := M
  simp only [xm_okC, Bool.and_eq_true, decide_eq_true_eq] at hC
  obtain ⟨h1, h2, h3, h4, h5, h6, h7, h8⟩ := hC
  have hcode := xm_code h1 hM
  have hG : GoodIn xm_ws (xm_wk (own', yk, cc, nL, rt, frj, loj)) := by
    intro w hw
    rcases List.mem_cons.mp hw with rfl | hw
    · exact xm_ws_good _ hcode
    · exact xm_ws_good _ hw
  exact ⟨callB_of (Ts := xm_ws) (ws' := xm_ws) pn hts hG rfl rfl rfl (hts _ (xm_mem_ws h2)) hl ⟨h3.1, h3.2, h4⟩ ⟨Nat.le_trans h5.1 hfr, Nat.le_trans h5.2 hlo⟩, h1, h6, h7, h8⟩
theorem xm_CN {R : Room} {s : State} {args : Array Value} {own : String} {n fr lo x y pn mc ms : Nat} {ps : List Nat} {M : xm_M} (host : String) (hts : ∀ w ∈ xm_ws, w.before args s = true) (hM : xm_ms[x]? = some M) (hC : xm_okC ps fr lo x M y pn = true) (hfr : fr ≤ R.frames) (hlo : lo ≤ R.locals) (hl : va_Nw (.methodLinkNest own n M.2.1 host) s) :
    va_CN R s args own n M.2.1 host M.2.2.1 M.2.2.2.1 M.2.2.2.2.1 (xm_wk M) (xm_rm M mc ms) mc ms pn ∧ x < 167 ∧ y ≤ M.2.2.2.1 ∧ M.1 = M.2.1.cls ∧ plainName M.2.1.cls = true := by
  obtain ⟨own', yk, cc, nL, rt, frj, loj⟩ := M
  simp only [xm_okC, Bool.and_eq_true, decide_eq_true_eq] at hC
  obtain ⟨h1, h2, h3, h4, h5, h6, h7, h8⟩ := hC
  have hcode := xm_code h1 hM
  have hG : GoodIn xm_ws (xm_wk (own', yk, cc, nL, rt, frj, loj)) := by
    intro w hw
    rcases List.mem_cons.mp hw with rfl | hw
    · exact xm_ws_good _ hcode
    · exact xm_ws_good _ hw
  exact ⟨va_cnB (Ts := xm_ws) (ws' := xm_ws) pn hts hG rfl rfl rfl hl (hts _ (xm_mem_ws h2)) ⟨h3.1, h3.2, h4⟩ ⟨Nat.le_trans h5.1 hfr, Nat.le_trans h5.2 hlo⟩, h1, h6, h7, h8⟩
theorem xm_preS {D : va_G} {B bs : Nat} {cI cV : ClassId} {L : Nat} {xs : Nat → Int32} {H0 H : Heap} {s : State} {hp : xm_H} (hP : xm_P D B bs cI cV H0 hp H) (hK : xm_K D B bs cI cV L xs H0 s) (as : List Value) : PreS s H (xm_Pc D B bs cI cV L xs H0 as hp) (as.map (xm_va B bs)) :=
  ⟨xm_blind, fun U hU hW => ⟨rfl, by rw [hU]; exact hP, hK.moved hW⟩⟩
set_option maxHeartbeats 4000000 in
theorem xm_walk (l : Launch) (D : va_G) (B bs : Nat) (cI cV : ClassId) (L : Nat) (xs : Nat → Int32) (H0 : Heap) : ∀ n, xm_SW l D B bs cI cV L xs H0 n := by
  intro n
  induction n with
  | zero =>
    intro p e R s m args below meth c Q k own yk cc nL rt fr lo mc ms r hp' _ _ _ _ _ _ _ _ _ _ _ _ _ pc ls st hp H lsC locs cells slots h
    cases h
  | succ n ih =>
    intro p e R s m args below meth c Q k own yk cc nL rt fr lo mc ms r hp' hM hx hb hml hown hname hts hK hfr hlo hmc hms hret pc ls st hp H lsC locs cells slots h hL hP hlocs hcl hsl
    have go := ih p e R s m args below meth c Q k own yk cc nL rt fr lo mc ms r hp' hM hx hb hml hown hname hts hK hfr hlo hmc hms hret
    have hmono := xm_ex_mono _ _ _ _ _ _ _ h
    have hmA : hp.length ≤ hp'.length := hmono.1
    have hmB : xm_sz hp ≤ xm_sz hp' := hmono.2
    obtain ⟨q, o, hq, hs, hk⟩ := xm_ex_cases h
    obtain ⟨i, nx, x, y, v⟩ := q
    obtain ⟨hd, hn, ps, hX⟩ := xm_ok hM hq
    cases i
    case iconst z =>
      cases xv_iconst hs
      simp only [xm_okX, decide_eq_true_eq] at hX
      have hn : nx = pc + 1 := hn
      subst hn
      exact lv_iconst hx hb hd hX (go _ _ _ _ _ _ _ _ _ hk hL hP hlocs hcl hsl)
    case bipush z =>
      cases xv_bipush hs
      simp only [xm_okX, decide_eq_true_eq] at hX
      have hn : nx = pc + 2 := hn
      subst hn
      exact lv_bipush hx hb hd hX (go _ _ _ _ _ _ _ _ _ hk hL hP hlocs hcl hsl)
    case sipush z =>
      cases xv_sipush hs
      simp only [xm_okX, decide_eq_true_eq] at hX
      have hn : nx = pc + 3 := hn
      subst hn
      exact lv_sipush hx hb hd hX (go _ _ _ _ _ _ _ _ _ hk hL hP hlocs hcl hsl)
    case ldc z =>
      cases xv_ldc hs
      simp only [xm_okX] at hX
      have hn : nx = pc + 2 := hn
      subst hn
      exact lv_ldc hx hb hown (hts _ (xm_mem_ws hX)) hd (go _ _ _ _ _ _ _ _ _ hk hL hP hlocs hcl hsl)
    case ldc_w z =>
      cases xv_ldc_w hs
      simp only [xm_okX] at hX
      have hn : nx = pc + 3 := hn
      subst hn
      exact lv_ldcw hx hb hown (hts _ (xm_mem_ws hX)) hd (go _ _ _ _ _ _ _ _ _ hk hL hP hlocs hcl hsl)
    case iload_n z =>
      obtain ⟨u, hu, rfl⟩ := xv_iload_n hs
      simp only [xm_okX, decide_eq_true_eq] at hX
      have hn : nx = pc + 1 := hn
      subst hn
      exact lv_iload_n (x := u) hx hb hd hX (hL.get hu (fun h => by cases h)) (go _ _ _ _ _ _ _ _ _ hk hL hP hlocs hcl hsl)
    case iload z =>
      obtain ⟨u, hu, rfl⟩ := xv_iload hs
      simp only [xm_okX, decide_eq_true_eq] at hX
      subst hX
      have hn : nx = pc + 2 := hn
      subst hn
      exact lv_iload (x := u) hx hb hd (hL.get hu (fun h => by cases h)) (go _ _ _ _ _ _ _ _ _ hk hL hP hlocs hcl hsl)
    case aload_n z =>
      obtain ⟨w, hw, hw2, rfl⟩ := xv_aload_n hs
      simp only [xm_okX, decide_eq_true_eq] at hX
      have hn : nx = pc + 1 := hn
      subst hn
      rcases hw2 with ⟨a, rfl⟩ | ⟨a, rfl⟩
      · exact lv_aload_n (x := bs + a) hx hb hd hX (hL.get hw (fun h => by cases h)) (go _ _ _ _ _ _ _ _ _ hk hL hP hlocs hcl hsl)
      · exact lv_aload_n (x := B) hx hb hd hX (hL.get hw (fun h => by cases h)) (go _ _ _ _ _ _ _ _ _ hk hL hP hlocs hcl hsl)
    case istore_n z =>
      obtain ⟨u, r0, rfl, hxl, rfl⟩ := xv_istore_n hs
      simp only [xm_okX, decide_eq_true_eq] at hX
      have hn : nx = pc + 1 := hn
      subst hn
      obtain ⟨hlen, lst, hl1, hl2, hl3⟩ := hL
      exact lv_istore_n (x := u) (i := x) hx hb hd hX hl1 (by omega) rfl (fun ls' hl' => go _ _ _ _ _ _ _ _ _ hk (xm_L.put (v := .int u) hlen hl3 hl2 hl') hP hlocs hcl hsl)
    case istore z =>
      obtain ⟨u, r0, rfl, hxl, rfl⟩ := xv_istore hs
      simp only [xm_okX, decide_eq_true_eq] at hX
      subst hX
      have hn : nx = pc + 2 := hn
      subst hn
      obtain ⟨hlen, lst, hl1, hl2, hl3⟩ := hL
      exact lv_istore (x := u) hx hb hd hl1 (by omega) rfl (fun ls' hl' => go _ _ _ _ _ _ _ _ _ hk (xm_L.put (v := .int u) hlen hl3 hl2 hl') hP hlocs hcl hsl)
    case astore_n z =>
      obtain ⟨u, r0, rfl, hxl, rfl⟩ := xv_astore_n hs
      simp only [xm_okX, decide_eq_true_eq] at hX
      have hn : nx = pc + 1 := hn
      subst hn
      obtain ⟨hlen, lst, hl1, hl2, hl3⟩ := hL
      exact lv_astore_n (x := bs + u) (i := x) hx hb hd hX hl1 (by omega) rfl (fun ls' hl' => go _ _ _ _ _ _ _ _ _ hk (xm_L.put (v := .ref u) hlen hl3 hl2 hl') hP hlocs hcl hsl)
    case iinc z z2 =>
      obtain ⟨u, hu, rfl⟩ := xv_iinc hs
      simp only [xm_okX, decide_eq_true_eq] at hX
      obtain ⟨hX1, hX2⟩ := hX
      subst hX1
      have hn : nx = pc + 3 := hn
      subst hn
      obtain ⟨hlen, lst, hl1, hl2, hl3⟩ := hL
      obtain ⟨kk, hkk⟩ := List.getElem?_of_mem (hl3 z (.int u) hu (fun h => by cases h))
      have hzl : z < ls.length := (List.getElem?_eq_some_iff.mp hu).1
      exact lv_iinc (x := u) hx hb hd hl1 hkk (by rw [hX2]) (by omega) rfl (fun ls' hl' => go _ _ _ _ _ _ _ _ _ hk (xm_L.put (v := .int (u + xm_i v)) hlen hl3 hl2 hl') hP hlocs hcl hsl)
    case ifCond c z =>
      obtain ⟨a, r0, rfl, rfl⟩ := xv_ifCond hs
      simp only [xm_okX, decide_eq_true_eq] at hX
      have hn : nx = pc + 3 := hn
      subst hn
      have hk : xm_ex L xs n k (if xm_cb c a 0 then x else pc + 3) ls r0 hp = some (r, hp') := hk
      cases c
      case eq =>
        simp only [xm_cb, decide_eq_true_eq] at hk
        exact lv_if_eq (x := a) hx hb hd hX (fun hc => go _ _ _ _ _ _ _ _ _ (by rw [if_pos hc] at hk; exact hk) hL hP hlocs hcl hsl) (fun hc => go _ _ _ _ _ _ _ _ _ (by rw [if_neg hc] at hk; exact hk) hL hP hlocs hcl hsl)
      case ne =>
        simp only [xm_cb, decide_eq_true_eq] at hk
        exact lv_if_ne (x := a) hx hb hd hX (fun hc => go _ _ _ _ _ _ _ _ _ (by rw [if_pos hc] at hk; exact hk) hL hP hlocs hcl hsl) (fun hc => go _ _ _ _ _ _ _ _ _ (by rw [if_neg (fun q => q hc)] at hk; exact hk) hL hP hlocs hcl hsl)
      case lt =>
        simp only [xm_cb, decide_eq_true_eq] at hk
        exact lv_if_lt (x := a) hx hb hd hX (fun hc => go _ _ _ _ _ _ _ _ _ (by rw [if_pos hc] at hk; exact hk) hL hP hlocs hcl hsl) (fun hc => go _ _ _ _ _ _ _ _ _ (by rw [if_neg hc] at hk; exact hk) hL hP hlocs hcl hsl)
      case ge =>
        simp only [xm_cb, decide_eq_true_eq] at hk
        exact lv_if_ge (x := a) hx hb hd hX (fun hc => go _ _ _ _ _ _ _ _ _ (by rw [if_pos hc] at hk; exact hk) hL hP hlocs hcl hsl) (fun hc => go _ _ _ _ _ _ _ _ _ (by rw [if_neg hc] at hk; exact hk) hL hP hlocs hcl hsl)
      case gt =>
        simp only [xm_cb, decide_eq_true_eq] at hk
        exact lv_if_gt (x := a) hx hb hd hX (fun hc => go _ _ _ _ _ _ _ _ _ (by rw [if_pos hc] at hk; exact hk) hL hP hlocs hcl hsl) (fun hc => go _ _ _ _ _ _ _ _ _ (by rw [if_neg hc] at hk; exact hk) hL hP hlocs hcl hsl)
      case le =>
        simp only [xm_cb, decide_eq_true_eq] at hk
        exact lv_if_le (x := a) hx hb hd hX (fun hc => go _ _ _ _ _ _ _ _ _ (by rw [if_pos hc] at hk; exact hk) hL hP hlocs hcl hsl) (fun hc => go _ _ _ _ _ _ _ _ _ (by rw [if_neg hc] at hk; exact hk) hL hP hlocs hcl hsl)
    case if_icmp c z =>
      obtain ⟨a, b, r0, rfl, rfl⟩ := xv_icmp hs
      simp only [xm_okX, decide_eq_true_eq] at hX
      have hn : nx = pc + 3 := hn
      subst hn
      have hk : xm_ex L xs n k (if xm_cb c a b then x else pc + 3) ls r0 hp = some (r, hp') := hk
      cases c
      case eq =>
        simp only [xm_cb, decide_eq_true_eq] at hk
        exact lv_icmp_eq (x := a) (y := b) hx hb hd hX (fun hc => go _ _ _ _ _ _ _ _ _ (by rw [if_pos hc] at hk; exact hk) hL hP hlocs hcl hsl) (fun hc => go _ _ _ _ _ _ _ _ _ (by rw [if_neg hc] at hk; exact hk) hL hP hlocs hcl hsl)
      case ne =>
        simp only [xm_cb, decide_eq_true_eq] at hk
        exact lv_icmp_ne (x := a) (y := b) hx hb hd hX (fun hc => go _ _ _ _ _ _ _ _ _ (by rw [if_pos hc] at hk; exact hk) hL hP hlocs hcl hsl) (fun hc => go _ _ _ _ _ _ _ _ _ (by rw [if_neg (fun q => q hc)] at hk; exact hk) hL hP hlocs hcl hsl)
      case lt =>
        simp only [xm_cb, decide_eq_true_eq] at hk
        exact lv_icmp_lt (x := a) (y := b) hx hb hd hX (fun hc => go _ _ _ _ _ _ _ _ _ (by rw [if_pos hc] at hk; exact hk) hL hP hlocs hcl hsl) (fun hc => go _ _ _ _ _ _ _ _ _ (by rw [if_neg hc] at hk; exact hk) hL hP hlocs hcl hsl)
      case ge =>
        simp only [xm_cb, decide_eq_true_eq] at hk
        exact lv_icmp_ge (x := a) (y := b) hx hb hd hX (fun hc => go _ _ _ _ _ _ _ _ _ (by rw [if_pos hc] at hk; exact hk) hL hP hlocs hcl hsl) (fun hc => go _ _ _ _ _ _ _ _ _ (by rw [if_neg hc] at hk; exact hk) hL hP hlocs hcl hsl)
      case gt =>
        simp only [xm_cb, decide_eq_true_eq] at hk
        exact lv_icmp_gt (x := a) (y := b) hx hb hd hX (fun hc => go _ _ _ _ _ _ _ _ _ (by rw [if_pos hc] at hk; exact hk) hL hP hlocs hcl hsl) (fun hc => go _ _ _ _ _ _ _ _ _ (by rw [if_neg hc] at hk; exact hk) hL hP hlocs hcl hsl)
      case le =>
        simp only [xm_cb, decide_eq_true_eq] at hk
        exact lv_icmp_le (x := a) (y := b) hx hb hd hX (fun hc => go _ _ _ _ _ _ _ _ _ (by rw [if_pos hc] at hk; exact hk) hL hP hlocs hcl hsl) (fun hc => go _ _ _ _ _ _ _ _ _ (by rw [if_neg hc] at hk; exact hk) hL hP hlocs hcl hsl)
    case goto z =>
      cases xv_goto hs
      simp only [xm_okX, decide_eq_true_eq] at hX
      exact lv_goto hx hb hd hX (go _ _ _ _ _ _ _ _ _ hk hL hP hlocs hcl hsl)
    case pop =>
      obtain ⟨a, r0, rfl, rfl⟩ := xv_pop hs
      have hn : nx = pc + 1 := hn
      subst hn
      exact lv_pop hx hb hd (xm_va_cat B bs a) (go _ _ _ _ _ _ _ _ _ hk hL hP hlocs hcl hsl)
    case dup =>
      obtain ⟨a, r0, rfl, rfl⟩ := xv_dup hs
      have hn : nx = pc + 1 := hn
      subst hn
      exact lv_dup hx hb hd (xm_va_cat B bs a) (go _ _ _ _ _ _ _ _ _ hk hL hP hlocs hcl hsl)
    case dup2 =>
      obtain ⟨a, b, r0, rfl, rfl⟩ := xv_dup2 hs
      have hn : nx = pc + 1 := hn
      subst hn
      exact lv_dup2_11 hx hb hd (xm_va_cat B bs a) (xm_va_cat B bs b) (go _ _ _ _ _ _ _ _ _ hk hL hP hlocs hcl hsl)
    case getfield z =>
      obtain ⟨a, r0, fs, u, rfl, ha, hu, rfl⟩ := xv_getfield hs
      have hn : nx = pc + 3 := hn
      subst hn
      simp only [xm_okX] at hX
      split at hX
      · next C T N hc =>
        simp only [Bool.and_eq_true, decide_eq_true_eq] at hX
        have hv : (fs.map (xm_va B bs))[y]? = some (xm_va B bs u) := by rw [List.getElem?_map, hu]; rfl
        exact va_get (D := D) (cl := vwCl) (C := C) (T := T) (N := N) (ci := x) hx hb hts (xm_cls_ws x _ hc) hown hK.1 hP.ws a (xm_Ws_at ha) hc y hX.1 (hts _ (xm_mem_ws hX.2)) (fun _ h => h) hv hd (go _ _ _ _ _ _ _ _ _ hk hL hP hlocs hcl hsl)
      · cases hX
    case putfield z =>
      obtain ⟨u, a, r0, fs, rfl, ha, hy, hu, rfl⟩ := xv_putfield hs
      have hn : nx = pc + 3 := hn
      subst hn
      simp only [xm_okX] at hX
      split at hX
      · next C T N hc =>
        simp only [Bool.and_eq_true, decide_eq_true_eq] at hX
        obtain ⟨hX1, hX2, hX3, hX4⟩ := hX
        have hX3 : (T y).2.2.2 = false ∨ ((T y).2.2.2 = true ∧ meth.name = "<init>" ∧ (T y).1 = own) := by
          rcases hX3 with h1 | h1
          · exact Or.inl h1
          · exact Or.inr ⟨h1.1, hname h1.2.1, h1.2.2⟩
        have hty : ∃ ty, parseFieldDescriptor (T y).2.2.1 = some ty ∧ narrow ty (xm_va B bs u) = xm_va B bs u ∧ fits ty (xm_va B bs u) = true := by
          split at hX4
          · next hp =>
            have hv := of_decide_eq_true hX4
            rcases hu with ⟨z, rfl, -⟩ | ⟨z, rfl, h1⟩
            · exact ⟨_, hp, rfl, rfl⟩
            · omega
          · next hp =>
            have hv := of_decide_eq_true hX4
            rcases hu with ⟨z, rfl, h1⟩ | ⟨z, rfl, h1⟩
            · omega
            · exact ⟨_, hp, rfl, rfl⟩
          · next hp =>
            have hv := of_decide_eq_true hX4
            rcases hu with ⟨z, rfl, h1⟩ | ⟨z, rfl, h1⟩
            · omega
            · exact ⟨_, hp, rfl, rfl⟩
          · cases hX4
        obtain ⟨ty, hp, hn, hfit⟩ := hty
        refine xm_putf (own := own) hx hb hts hown hK.1 hc hX1 (hts _ (xm_mem_ws hX2)) hX3 hp hn hfit (fs := fs.map (xm_va B bs)) (by rw [List.length_map]; exact hy) (hP.2.2 a _ ha) hd (fun H1 z h1 h2 h3 h4 => ?_)
        rw [← List.map_set] at h1
        exact go _ _ _ _ _ _ _ _ _ hk hL (hP.set h1 h2 h3) (xm_locs hlocs (by rw [h4]; exact Nat.le_add_right _ _)) (by rw [List.length_set]; exact hcl) (by rw [xm_sz_set ha (by simp [xm_es])]; exact hsl)
      · cases hX
    case iaload =>
      have hn : nx = pc + 1 := hn
      subst hn
      rcases xv_iaload hs with ⟨j, a, r0, N, f, rfl, ha, hj, rfl⟩ | ⟨j, b, r0, rfl, hj, rfl⟩
      · exact va_iald (D := D) (cl := vwCl) (cA := cI) hx hb hK.1 hP.ws a 0 (xm_Ws_at ha) rfl hj hd (go _ _ _ _ _ _ _ _ _ hk hL hP hlocs hcl hsl)
      · obtain ⟨hB, hbs⟩ := hK.2.2.1
        have hS : va_S (fun q => bs ≤ q) H0 H locs := ⟨by rw [hP.1]; omega, fun q h1 _ => hP.2.1 q (by omega), hlocs⟩
        exact va_sld hx hb hK.2.1 (by omega) (by omega) hS hj hd (go _ _ _ _ _ _ _ _ _ hk hL hP hlocs hcl hsl)
    case iastore =>
      obtain ⟨u, j, a, r0, N, f, rfl, ha, hj, rfl⟩ := xv_iastore hs
      have hn : nx = pc + 1 := hn
      subst hn
      refine W.iast hx hb (hP.2.2 a _ ha) ((hK.1.2 0 _ rfl).1 N (fun j => .int (f j))) (fun q => by cases q) (by show ¬ (j < 0 ∨ (arrV _ _ _).slots.size ≤ _); rw [arrV_size]; exact hj) rfl rfl hd fun H1 e1 z oq => ?_
      refine go _ _ _ _ _ _ _ _ _ hk hL (hP.set ?_ z oq) (xm_locs hlocs (Nat.le_add_right _ _)) (by rw [List.length_set]; exact hcl) (by rw [xm_sz_set ha (by simp [xm_es])]; exact hsl)
      show H1[bs + a]? = some (vp_cell _ _)
      rw [e1]
      rw [vp_cell_i, vp_cell_i, arrV_store]
      congr 2
      funext q
      by_cases hq : q = j.toNatClampNeg
      · subst hq
        simp [updV, upd]
      · simp [updV, upd, hq]
    case aaload =>
      obtain ⟨j, a, r0, N, f, t, rfl, ha, hj, ht, rfl⟩ := xv_aaload hs
      have hn : nx = pc + 1 := hn
      subst hn
      refine va_aldq (D := D) (cl := vwCl) (cA := cV) hx hb hK.1 hP.ws a 1 (xm_Ws_at ha) rfl hj hd ?_
      have e1 : va_rf ((f j.toNatClampNeg).map (fun t => bs + t)) = .ref (bs + t) := by rw [ht]; rfl
      rw [e1]
      exact go _ _ _ _ _ _ _ _ _ hk hL hP hlocs hcl hsl
    case aastore =>
      obtain ⟨t, j, a, r0, N, f, fs, rfl, ha, hj, ht, rfl⟩ := xv_aastore hs
      have hn : nx = pc + 1 := hn
      subst hn
      have hlt : j.toNatClampNeg < N := Nat.not_le.mp fun q => hj (Or.inr q)
      have h0 : ¬ j < 0 := fun q => hj (Or.inl q)
      obtain ⟨r', hr', cellV, g1, g2, g3, -⟩ := hP.2.2 t _ ht
      have hcls := (hK.1.1 1 _ rfl).2
      obtain ⟨kA, comp, k1, k2, k3, -⟩ := (hK.1.2 1 _ rfl).2
      have hcomp : comp = D.1 1 := Option.some.inj (k3.symm.trans hcls.1)
      subst hcomp
      obtain ⟨kC, hkC, -⟩ := hcls.2
      refine W.aast hx hb (hP.2.2 a _ ha) (fun q h => by cases h) (fun h => by cases h) k1 k2 rfl hkC ⟨h0, by show _ < (arrV _ _ _).slots.size; rw [arrV_size]; exact hlt⟩ g1 (fun q h => by rw [g3] at h; cases h) (by rw [g2]; exact hkC) (by rw [g2]; exact va_assign hcls) rfl rfl hd fun H1 e1 z oq => ?_
      refine go _ _ _ _ _ _ _ _ _ hk hL (hP.set ?_ z oq) (xm_locs hlocs (Nat.le_add_right _ _)) (by rw [List.length_set]; exact hcl) (by rw [xm_sz_set ha (by simp [xm_es])]; exact hsl)
      show H1[bs + a]? = some (vp_cell _ _)
      rw [e1]
      rw [vp_cell_q, vp_cell_q, arrV_store]
      congr 2
      funext q
      by_cases hq : q = j.toNatClampNeg
      · subst hq
        simp [updV, va_up, va_rf]
      · simp [updV, va_up, hq]
    case arraylength =>
      have hn : nx = pc + 1 := hn
      subst hn
      rcases xv_alen hs with ⟨a, r0, N, f, rfl, ha, rfl⟩ | ⟨b, r0, rfl, rfl⟩
      · exact va_alen (D := D) (cl := vwCl) (cA := cI) hx hb hK.1 hP.ws a 0 (xm_Ws_at ha) rfl rfl hd (go _ _ _ _ _ _ _ _ _ hk hL hP hlocs hcl hsl)
      · obtain ⟨hB, hbs⟩ := hK.2.2.1
        have hS : va_S (fun q => bs ≤ q) H0 H locs := ⟨by rw [hP.1]; omega, fun q h1 _ => hP.2.1 q (by omega), hlocs⟩
        exact va_slen hx hb hK.2.1 (by omega) (by omega) hS hd (go _ _ _ _ _ _ _ _ _ hk hL hP hlocs hcl hsl)
    case newarray t =>
      obtain ⟨N, r0, rfl, hN0, hNb, rfl⟩ := xv_newarray hs
      simp only [xm_okX, Bool.and_eq_true, decide_eq_true_eq] at hX
      obtain ⟨rfl, hX2⟩ := hX
      have hn : nx = pc + 2 := hn
      subst hn
      have hm2 := xm_ex_mono _ _ _ _ _ _ _ hk
      have hm3 : hp.length + 1 ≤ hp'.length := by have := hm2.1; rw [List.length_append] at this; exact this
      have hm4 : xm_sz hp + N.toNatClampNeg ≤ xm_sz hp' := by have := hm2.2; rw [xm_sz_push] at this; exact this
      refine va_newaK (atype := .int) hx hb (hts _ (xm_mem_ws hX2)) rfl hd rfl hN0 rfl (by show N.toNatClampNeg * 4 ≤ _; omega) (by omega) (by omega) rfl fun H1 cA e1 z1 o1 _ hNm => ?_
      have hcA : cA = cI := Option.some.inj (hNm.symm.trans (hK.1.2 0 _ rfl).2)
      subst hcA
      have hsz : bs + hp.length = H.size := hP.1.symm
      rw [hP.1]
      refine go _ _ _ _ _ _ _ _ _ hk hL (hP.push (by rw [hsz]; exact e1) z1 o1) hlocs (by rw [List.length_append]; simp only [List.length_cons, List.length_nil]; omega) (by rw [xm_sz_push]; simp only [xm_es]; omega)
    case anewarray t =>
      obtain ⟨N, r0, rfl, hN0, hNb, rfl⟩ := xv_anewarray hs
      simp only [xm_okX] at hX
      have hn : nx = pc + 3 := hn
      subst hn
      have hm2 := xm_ex_mono _ _ _ _ _ _ _ hk
      have hm3 : hp.length + 1 ≤ hp'.length := by have := hm2.1; rw [List.length_append] at this; exact this
      have hm4 : xm_sz hp + N.toNatClampNeg ≤ xm_sz hp' := by have := hm2.2; rw [xm_sz_push] at this; exact this
      refine W.anew hx hb hown (hts _ (xm_mem_ws hX)) (va_AO.use hK.2.2.2.2.2) rfl hd rfl hN0 (by omega) (by omega) (by omega) fun cA kA comp f1 f2 f3 f4 => ?_
      obtain ⟨kA', comp', k1, k2, k3, k4⟩ := (hK.1.2 1 _ rfl).2
      have hcA : cA = cV := Option.some.inj (f1.symm.trans k4)
      subst hcA
      have hsz : bs + hp.length = H.size := hP.1.symm
      generalize hH1 : H.push ({ cls := cA, slots := Array.replicate N.toNatClampNeg .null, vm := .none } : Cell) = H1
      have z1 : H1.size = H.size + 1 := by rw [← hH1, Array.size_push]
      have e1 : H1[H.size]? = some (arrV cA N.toNatClampNeg (fun _ => .null)) := by rw [← hH1, Array.getElem?_push_size, ← arrV_new]
      have o1 : ∀ q : Nat, q < H.size → H1[q]? = H[q]? := fun q hq => by rw [← hH1, Array.getElem?_push, if_neg (Nat.ne_of_lt hq)]
      rw [hP.1]
      refine go _ _ _ _ _ _ _ _ _ hk hL (hP.push (by rw [hsz]; exact e1) z1 o1) hlocs (by rw [List.length_append]; simp only [List.length_cons, List.length_nil]; omega) (by rw [xm_sz_push]; simp only [xm_es]; omega)
    case new t =>
      cases xv_new hs
      have hn : nx = pc + 3 := hn
      subst hn
      simp only [xm_okX] at hX
      split at hX
      · next C T N hc =>
        simp only [Bool.and_eq_true] at hX
        obtain ⟨hX1, hX2, hX3⟩ := hX
        obtain ⟨ty0, hty, hnm, hdef, hlen⟩ := xm_cls_ty x _ hc
        have hm2 := xm_ex_mono _ _ _ _ _ _ _ hk
        have hm3 : hp.length + 1 ≤ hp'.length := by have := hm2.1; rw [List.length_append] at this; exact this
        have hm4 : xm_sz hp + N ≤ xm_sz hp' := by have := hm2.2; rw [xm_sz_push] at this; simp only [xm_es] at this; rw [hlen] at this; exact this
        have hKn := hK.1.1 x _ hc
        refine W.newcK hx hb hown (hts _ (xm_mem_ws hX1)) (hts _ (xm_mem_ws hX2)) (hts _ (xm_mem_ws hX3)) rfl hd (by omega) (by omega) hKn.2.1 rfl fun H1 kC hkC e1 z1 o1 => ?_
        have hsz : bs + hp.length = H.size := hP.1.symm
        have hat : va_at D vwCl (bs + hp.length, xm_ce B bs cI cV (.inr (.inr (x, xm_new x)))) H1 := by
          rw [hsz]
          refine ⟨_, hc, (u_born ty0 hts (xm_cls_ws x _ hc) hKn hkC e1 hty).to (fun j hj => (hdef j hj).trans ?_)⟩
          show vp_V (xm_new x) j = vp_V ((xm_new x).map (xm_va B bs)) j
          have hx4 : x < 4 := (List.getElem?_eq_some_iff.mp hc).1
          have key : (xm_new x).map (xm_va B bs) = xm_new x := by
            match x, hx4 with
            | 0, _ => rfl
            | 1, _ => rfl
            | 2, _ => rfl
            | 3, _ => rfl
          rw [key]
        rw [hP.1]
        refine go _ _ _ _ _ _ _ _ _ hk hL (hP.push hat z1 o1) hlocs (by rw [List.length_append]; simp only [List.length_cons, List.length_nil]; omega) (by rw [xm_sz_push]; simp only [xm_es]; rw [hlen]; show slots + N + _ ≤ _ + (_ + N); omega)
      · cases hX
    case tableswitch d lo hi offs =>
      obtain ⟨u, r0, t, rfl, ht, rfl⟩ := xv_tsw hs
      rcases ht with ⟨h1, h2⟩ | ⟨h1, h2, f, h3, h4⟩
      · exact lv_tableOut (x := u) hx hb hd h1 h2 (go _ _ _ _ _ _ _ _ _ hk hL hP hlocs hcl hsl)
      · exact lv_tableIn (x := u) hx hb hd h1 h2 h3 h4 (go _ _ _ _ _ _ _ _ _ hk hL hP hlocs hcl hsl)
    case lookupswitch d qs =>
      obtain ⟨u, r0, t, rfl, ht, rfl⟩ := xv_lsw hs
      exact lv_lookup (x := u) hx hb hd hX rfl ht (go _ _ _ _ _ _ _ _ _ hk hL hP hlocs hcl hsl)
    case ireturn =>
      obtain ⟨u, rfl, hu, rfl⟩ := xv_ireturn hs
      cases hk
      simp only [xm_okX, decide_eq_true_eq] at hX
      exact W.widen (by omega) (by omega) (hret pc [.int u] lsC H locs (Or.inl ⟨hd, hX, u, rfl, rfl, hu⟩) hP hlocs)
    case areturn =>
      obtain ⟨u, rfl, rfl⟩ := xv_areturn hs
      cases hk
      simp only [xm_okX] at hX
      refine W.widen (by omega) (by omega) (hret pc [.ref u] lsC H locs (Or.inr (Or.inl ⟨hd, ?_, u, rfl, rfl⟩)) hP hlocs)
      split at hX
      · exact ⟨_, rfl, Or.inl ⟨_, rfl⟩⟩
      · exact ⟨_, rfl, Or.inr ⟨_, rfl⟩⟩
      · cases hX
    case return_ =>
      obtain ⟨rfl, rfl⟩ := xv_return hs
      cases hk
      simp only [xm_okX, decide_eq_true_eq] at hX
      exact W.widen (by omega) (by omega) (hret pc [] lsC H locs (Or.inr (Or.inr ⟨hd, hX, rfl, rfl⟩)) hP hlocs)
    case invokevirtual z =>
      obtain ⟨a, as, ci, fs, hst, ha, hci, hlen, h8, rfl⟩ := xv_virt hs
      obtain ⟨u, hp2, h1, h2⟩ := hk
      have hn : nx = pc + 3 := hn
      subst hn
      have hm1 := xm_ex_mono _ _ _ _ _ _ _ h1
      have hm2 := xm_ex_mono _ _ _ _ _ _ _ h2
      have hm1a : hp.length ≤ hp2.length := hm1.1
      have hm1b : xm_sz hp ≤ xm_sz hp2 := hm1.2
      have hm2a : hp2.length ≤ hp'.length := hm2.1
      have hm2b : xm_sz hp2 ≤ xm_sz hp' := hm2.2
      simp only [xm_okX] at hX
      split at hX
      · next M hM' =>
        simp only [Bool.and_eq_true] at hX
        obtain ⟨hC, hX1, hX2, hX3, hX4⟩ := hX
        generalize st.drop y = rest at hst h8 h2
        obtain ⟨cb, hj, hyl, hcl', hpl⟩ := xm_CB (mc := hp2.length - hp.length) (ms := xm_sz hp2 - xm_sz hp) hts hM' hC hfr hlo (hts _ (xm_mem_ws hX1))
        have hmet := xm_met ih hM' hj hpl hcl' (by rw [List.length_cons, hlen]; exact hyl) h1
        have hrecv : ∃ cellB : Cell, H[bs + a]? = some cellB ∧ cellB.vm.isStatics = false ∧ s.vm.findClass M.2.1.cls = some cellB.cls := by
          split at hX4
          · next C T N hc =>
            have hC := of_decide_eq_true hX4
            have hci' : v.toNat = ci := by omega
            rw [hci'] at hc
            have hq := va_recv hK.1 hP.ws hc (xm_Ws_at ha)
            rw [hC] at hq
            exact hq
          · cases hX4
        have hpre := xm_preS hP hK (.ref a :: as)
        have hstk : st.map (xm_va B bs) = (as.map (xm_va B bs)).reverse ++ .ref (bs + a) :: rest.map (xm_va B bs) := by
          rw [hst]
          simp [xm_va]
        rw [hstk]
        refine xm_callW (va_runV (C := M.2.1.cls) (b := bs + a) (As := as.map (xm_va B bs)) (rest := rest.map (xm_va B bs)) ⟨hx, hb, hml, hown, hts⟩ hmet ⟨cb, hts _ (xm_mem_ws hX2), hts _ (xm_mem_ws hX3)⟩ ⟨hpre.1, hrecv, hpre.2⟩ rfl (by rw [List.length_map]; omega) hL.2.choose_spec.1.1 rfl (lv_room (by rw [xm_cats]; exact h8)) hd ⟨by omega, by omega⟩) hlocs (fun H1 locs1 hP1 hl1 => ?_)
        rw [xm_toList]
        exact go _ _ _ _ _ _ _ _ _ h2 hL hP1 hl1 (by omega) (by omega)
      · cases hX
    case invokestatic z =>
      have hn : nx = pc + 3 := hn
      subst hn
      rcases xv_stat hs with ⟨hx1, N, dp, d, sp, sa, r0, n0, n1, f, g, rfl, hsa, hda, g1, g2, g3, g4, g5, g6, rfl⟩ | ⟨hx2, a, b, r0, rfl, h8, rfl⟩ | ⟨hx1, hx2, as, hst, hlen, h8, rfl⟩
      · simp only [xm_okX, if_pos hx1, Bool.and_eq_true, decide_eq_true_eq] at hX
        obtain ⟨hX1, hX2, hX3, hX4, hX5⟩ := hX
        have hh : ∀ q : Nat, q < hp.length → bs + q < H.size := fun q hq => by rw [hP.1]; omega
        intro T hT X
        have hc0 : H[bs + sa]? = some (vp_cell cI (n0, .inl f)) := hP.2.2 sa _ hsa
        have hc1 : H[bs + d]? = some (vp_cell cI (n1, .inl g)) := hP.2.2 d _ hda
        have hD : va_D (fun q => bs ≤ q) (xm_Ws B bs cI cV hp) := by
          refine ⟨fun i j p q hi hj hpq => ?_, fun k q hk => ?_⟩
          · unfold xm_Ws at hi hj
            rw [List.getElem?_mapIdx] at hi hj
            cases hi' : hp[i]? with
            | none => rw [hi'] at hi; cases hi
            | some ei =>
              cases hj' : hp[j]? with
              | none => rw [hj'] at hj; cases hj
              | some ej =>
                rw [hi'] at hi
                rw [hj'] at hj
                cases hi
                cases hj
                have : bs + i = bs + j := hpq
                omega
          · unfold xm_Ws at hk
            rw [List.getElem?_mapIdx] at hk
            cases hk' : hp[k]? with
            | none => rw [hk'] at hk; cases hk
            | some ek =>
              rw [hk'] at hk
              cases hk
              exact Nat.le_add_right _ _
        have nn : ∀ z : Int32, ¬ z < 0 → z.toInt = (z.toNatClampNeg : Int) := by
          intro z hz
          have hz0 : (0 : Int) ≤ z.toInt := by
            have := Int32.not_lt.mp hz
            simpa using Int32.le_iff_toInt_le.mp this
          show z.toInt = ((z.toInt.toNat : Nat) : Int)
          omega
        obtain ⟨-, k0, hk0, cm0, hkk0⟩ := (hK.1.2 0 _ rfl).1 n0 (fun j => .int (f j))
        obtain ⟨-, k1, hk1, cm1, hkk1⟩ := (hK.1.2 0 _ rfl).1 n1 (fun j => .int (g j))
        obtain ⟨vm', X', step⟩ := X.arraycopy hx hown (hts _ (xm_mem_ws hX1)) (hts _ (xm_mem_ws hX2)) (hts _ (xm_mem_ws hX3)) (hts _ (xm_mem_ws hX4)) (src := bs + sa) (dst := bs + d) (cs := vp_cell cI (n0, .inl f)) (cd := vp_cell cI (n1, .inl g)) (srcPos := sp) (destPos := dp) (n := N) (by rw [hT]; exact hc0) (by rw [hT]; exact hc1)
          (fun _ h => by cases h) (fun _ h => by cases h) (fun h => by cases h) (fun h => by cases h) hk0 hk1 hkk0 hkk1 (by rfl) g1 g2 g3
          (by rw [nn sp g1, nn N g3]; show ¬ _ > ((arrV cI n0 (fun j => .int (f j))).slots.size : Int); rw [arrV_size]; omega)
          (by rw [nn dp g2, nn N g3]; show ¬ _ > ((arrV cI n1 (fun j => .int (g j))).slots.size : Int); rw [arrV_size]; omega)
          (fun vm₁ _ i hi => by
            have e : (vp_cell cI (n0, .inl f)).slots.getD (sp.toNatClampNeg + i) .null = .int (f (sp.toNatClampNeg + i)) := by
              show (arrV cI n0 (fun j => .int (f j))).slots.getD _ _ = _
              rw [Array.getD_eq_getD_getElem?, arrV_read _ _ (by omega)]
              rfl
            refine ⟨?_, ?_⟩
            · rw [e]
              rfl
            · rw [e]
              exact trivial)
          (g := F0 m pc lsC (.int N :: .int dp :: .ref (bs + d) :: .int sp :: .ref (bs + sa) :: r0.map (xm_va B bs))) rfl (by rw [hml]; exact hL.2.choose_spec.1.1) (rest := r0.map (xm_va B bs)) rfl (by rw [hb]; exact hd) (by omega) (by rw [xm_cats]; show 2 * 0 + _ + _ ≤ _; omega)
        have e1 : copied (vp_cell cI (n0, .inl f)) (vp_cell cI (n1, .inl g)) sp dp N = vp_cell cI (n1, .inl (va_cpy f g sp.toNatClampNeg dp.toNatClampNeg N.toNatClampNeg)) := va_copied (fun z => .int z) cI cI f g g4
        rw [e1] at X' step
        have hl : bs + d < H.size := (Array.getElem?_eq_some_iff.mp hc1).1
        have hheap : ((T.setVm vm').setCell (bs + d) (vp_cell cI (n1, .inl (va_cpy f g sp.toNatClampNeg dp.toNatClampNeg N.toNatClampNeg)))).heap = H.setIfInBounds (bs + d) (vp_cell cI (n1, .inl (va_cpy f g sp.toNatClampNeg dp.toNatClampNeg N.toNatClampNeg))) := by rw [← hT]; rfl
        have oq : ∀ q : Nat, q ≠ bs + d → (H.setIfInBounds (bs + d) (vp_cell cI (n1, .inl (va_cpy f g sp.toNatClampNeg dp.toNatClampNeg N.toNatClampNeg))))[q]? = H[q]? := fun q hq => by simp [Array.getElem?_setIfInBounds, Ne.symm hq]
        obtain ⟨t, a1, b1⟩ := go _ _ _ _ _ _ _ cells slots hk hL (hP.set (e' := .inl (n1, va_cpy f g sp.toNatClampNeg dp.toNatClampNeg N.toNatClampNeg)) (show (H.setIfInBounds (bs + d) _)[bs + d]? = some _ by simp [Array.getElem?_setIfInBounds, hl, xm_ce]) (by simp) oq) (fun q hq => by
            rcases List.mem_append.mp hq with h | h
            · exact hlocs q h
            · obtain ⟨z, -, hz⟩ := List.mem_map.mp h
              rw [← hz]
              exact Nat.le_add_right _ _) (by rw [List.length_set]; exact hcl) (by rw [xm_sz_set hda (by simp [xm_es])]; exact hsl) _ hheap X'
        exact ⟨t, step t a1, b1⟩
      · have hx1 : ¬ x = 1001 := by omega
        simp only [xm_okX, if_neg hx1, if_pos hx2, Bool.and_eq_true, decide_eq_true_eq] at hX
        obtain ⟨hX1, hX2, hX3, hX4, hX5⟩ := hX
        exact va_mmin hx hb (by rw [hml]; exact hL.2.choose_spec.1.1.symm) hown (hts _ (xm_mem_ws hX1)) (hts _ (xm_mem_ws hX2)) (hts _ (xm_mem_ws hX3)) (hts _ (xm_mem_ws hX4)) (by omega) (by rw [xm_cats]; omega) (by omega) (by omega) hd (go _ _ _ _ _ _ _ _ _ hk hL hP hlocs hcl hsl)
      · obtain ⟨u, hp2, h1, h2⟩ := hk
        have hm1 := xm_ex_mono _ _ _ _ _ _ _ h1
        have hm2 := xm_ex_mono _ _ _ _ _ _ _ h2
        have hm1a : hp.length ≤ hp2.length := hm1.1
        have hm1b : xm_sz hp ≤ xm_sz hp2 := hm1.2
        have hm2a : hp2.length ≤ hp'.length := hm2.1
        have hm2b : xm_sz hp2 ≤ xm_sz hp' := hm2.2
        simp only [xm_okX, if_neg hx1, if_neg hx2] at hX
        split at hX
        · next M hM' =>
          simp only [Bool.and_eq_true, Bool.or_eq_true, decide_eq_true_eq] at hX
          obtain ⟨hC, hX1, hX2⟩ := hX
          generalize st.drop y = rest at hst h8 h2
          have hpre := xm_preS hP hK as
          have hstk : st.map (xm_va B bs) = (as.map (xm_va B bs)).reverse ++ rest.map (xm_va B bs) := by
            rw [hst]
            simp
          rw [hstk]
          rcases hX1 with hX1 | ⟨rfl, rfl, hyj⟩
          · obtain ⟨cb, hj, hyl, hcl', hpl⟩ := xm_CB (mc := hp2.length - hp.length) (ms := xm_sz hp2 - xm_sz hp) hts hM' hC hfr hlo (hts _ (xm_mem_ws hX1))
            have hmet := xm_met ih hM' hj hpl hcl' (by rw [hlen]; exact hyl) h1
            refine xm_callW (va_runS (As := as.map (xm_va B bs)) (rest := rest.map (xm_va B bs)) ⟨hx, hb, hml, hown, hts⟩ hmet ⟨cb, hts _ (xm_mem_ws hX2)⟩ hpre rfl (by rw [List.length_map]; exact hlen) hL.2.choose_spec.1.1 rfl (lv_room (by rw [xm_cats]; exact h8)) hd ⟨by omega, by omega⟩) hlocs (fun H1 locs1 hP1 hl1 => ?_)
            rw [xm_toList]
            exact go _ _ _ _ _ _ _ _ _ h2 hL hP1 hl1 (by omega) (by omega)
          · obtain ⟨cb, hj, hyl, hcl', hpl⟩ := xm_CN (mc := hp2.length - hp.length) (ms := xm_sz hp2 - xm_sz hp) RX2 hts hM' hC hfr hlo (by rw [hyj]; exact hK.2.2.2.2.1)
            have hmet := xm_met ih hM' hj hpl hcl' (by rw [hlen]; exact hyl) h1
            refine xm_callW (va_runSN (As := as.map (xm_va B bs)) (rest := rest.map (xm_va B bs)) ⟨hx, hb, hml, hown, hts⟩ hmet ⟨cb, hts _ (xm_mem_ws hX2), trivial⟩ hpre rfl (by rw [List.length_map]; exact hlen) hL.2.choose_spec.1.1 rfl (lv_room (by rw [xm_cats]; exact h8)) hd ⟨by omega, by omega⟩) hlocs (fun H1 locs1 hP1 hl1 => ?_)
            rw [xm_toList]
            exact go _ _ _ _ _ _ _ _ _ h2 hL hP1 hl1 (by omega) (by omega)
        · cases hX
    case invokespecial z =>
      have hn : nx = pc + 3 := hn
      subst hn
      rcases xv_spec hs with ⟨hx1, a, r0, rfl, h8, rfl⟩ | ⟨hx1, a, as, hst, hlen, h8, rfl⟩
      · simp only [xm_okX, if_pos hx1, Bool.and_eq_true, decide_eq_true_eq] at hX
        obtain ⟨hX1, hX2, hX3, hX4⟩ := hX
        refine W.objInit hx hb hown (hts _ (xm_mem_ws hX1)) (hts _ (xm_mem_ws hX2)) (hts _ (xm_mem_ws hX3)) rfl (by rw [hml]; exact hL.2.choose_spec.1.1) rfl hd (by omega) (by rw [xm_cats]; show 2 * 0 + _ + 12 ≤ _; omega) ?_
        exact go _ _ _ _ _ _ _ _ _ hk hL hP hlocs hcl hsl
      · obtain ⟨u, hp2, h1, h2⟩ := hk
        have hm1 := xm_ex_mono _ _ _ _ _ _ _ h1
        have hm2 := xm_ex_mono _ _ _ _ _ _ _ h2
        have hm1a : hp.length ≤ hp2.length := hm1.1
        have hm1b : xm_sz hp ≤ xm_sz hp2 := hm1.2
        have hm2a : hp2.length ≤ hp'.length := hm2.1
        have hm2b : xm_sz hp2 ≤ xm_sz hp' := hm2.2
        simp only [xm_okX, if_neg hx1] at hX
        split at hX
        · next M hM' =>
          simp only [Bool.and_eq_true, Bool.or_eq_true, decide_eq_true_eq] at hX
          obtain ⟨hC, hX1, hX2, hX3, hX4⟩ := hX
          generalize st.drop y = rest at hst h8 h2
          have hpre := xm_preS hP hK (.ref a :: as)
          have hstk : st.map (xm_va B bs) = (as.map (xm_va B bs)).reverse ++ .ref (bs + a) :: rest.map (xm_va B bs) := by
            rw [hst]
            simp [xm_va]
          rw [hstk]
          rcases hX1 with hX1 | ⟨rfl, rfl, hyj⟩
          · obtain ⟨cb, hj, hyl, hcl', hpl⟩ := xm_CB (mc := hp2.length - hp.length) (ms := xm_sz hp2 - xm_sz hp) hts hM' hC hfr hlo (hts _ (xm_mem_ws hX1))
            have hmet := xm_met ih hM' hj hpl hcl' (by rw [List.length_cons, hlen]; exact hyl) h1
            rw [hX4] at cb
            refine xm_callW (va_runI (b := bs + a) (As := as.map (xm_va B bs)) (rest := rest.map (xm_va B bs)) ⟨hx, hb, hml, hown, hts⟩ hmet ⟨cb, hX3, hts _ (xm_mem_ws hX2)⟩ hpre rfl (by rw [List.length_map]; omega) hL.2.choose_spec.1.1 rfl (lv_room (by rw [xm_cats]; exact h8)) hd ⟨by omega, by omega⟩) hlocs (fun H1 locs1 hP1 hl1 => ?_)
            rw [xm_toList]
            exact go _ _ _ _ _ _ _ _ _ h2 hL hP1 hl1 (by omega) (by omega)
          · obtain ⟨cb, hj, hyl, hcl', hpl⟩ := xm_CN (mc := hp2.length - hp.length) (ms := xm_sz hp2 - xm_sz hp) RX2 hts hM' hC hfr hlo (by rw [hyj]; exact hK.2.2.2.1)
            have hmet := xm_met ih hM' hj hpl hcl' (by rw [List.length_cons, hlen]; exact hyl) h1
            rw [hX4] at cb
            refine xm_callW (va_runIN (b := bs + a) (As := as.map (xm_va B bs)) (rest := rest.map (xm_va B bs)) ⟨hx, hb, hml, hown, hts⟩ hmet ⟨cb, hX3, hts _ (xm_mem_ws hX2)⟩ hpre rfl (by rw [List.length_map]; omega) hL.2.choose_spec.1.1 rfl (lv_room (by rw [xm_cats]; exact h8)) hd ⟨by omega, by omega⟩) hlocs (fun H1 locs1 hP1 hl1 => ?_)
            rw [xm_toList]
            exact go _ _ _ _ _ _ _ _ _ h2 hL hP1 hl1 (by omega) (by omega)
        · cases hX
    case iadd =>
      obtain ⟨a, b, r0, z, rfl, hz, rfl⟩ := xv_iadd hs
      cases hz
      have hn : nx = pc + 1 := hn
      subst hn
      exact lv_iadd hx hb hd (go _ _ _ _ _ _ _ _ _ hk hL hP hlocs hcl hsl)
    case isub =>
      obtain ⟨a, b, r0, z, rfl, hz, rfl⟩ := xv_isub hs
      cases hz
      have hn : nx = pc + 1 := hn
      subst hn
      exact lv_isub hx hb hd (go _ _ _ _ _ _ _ _ _ hk hL hP hlocs hcl hsl)
    case imul =>
      obtain ⟨a, b, r0, z, rfl, hz, rfl⟩ := xv_imul hs
      cases hz
      have hn : nx = pc + 1 := hn
      subst hn
      exact lv_imul hx hb hd (go _ _ _ _ _ _ _ _ _ hk hL hP hlocs hcl hsl)
    case iand =>
      obtain ⟨a, b, r0, z, rfl, hz, rfl⟩ := xv_iand hs
      cases hz
      have hn : nx = pc + 1 := hn
      subst hn
      exact lv_iand hx hb hd (go _ _ _ _ _ _ _ _ _ hk hL hP hlocs hcl hsl)
    case ior =>
      obtain ⟨a, b, r0, z, rfl, hz, rfl⟩ := xv_ior hs
      cases hz
      have hn : nx = pc + 1 := hn
      subst hn
      exact lv_ior hx hb hd (go _ _ _ _ _ _ _ _ _ hk hL hP hlocs hcl hsl)
    case ixor =>
      obtain ⟨a, b, r0, z, rfl, hz, rfl⟩ := xv_ixor hs
      cases hz
      have hn : nx = pc + 1 := hn
      subst hn
      exact lv_ixor hx hb hd (go _ _ _ _ _ _ _ _ _ hk hL hP hlocs hcl hsl)
    case ishl =>
      obtain ⟨a, b, r0, z, rfl, hz, rfl⟩ := xv_ishl hs
      cases hz
      have hn : nx = pc + 1 := hn
      subst hn
      exact lv_ishl hx hb hd (go _ _ _ _ _ _ _ _ _ hk hL hP hlocs hcl hsl)
    case ishr =>
      obtain ⟨a, b, r0, z, rfl, hz, rfl⟩ := xv_ishr hs
      cases hz
      have hn : nx = pc + 1 := hn
      subst hn
      exact lv_ishr hx hb hd (go _ _ _ _ _ _ _ _ _ hk hL hP hlocs hcl hsl)
    case iushr =>
      obtain ⟨a, b, r0, z, rfl, hz, rfl⟩ := xv_iushr hs
      cases hz
      have hn : nx = pc + 1 := hn
      subst hn
      exact lv_iushr hx hb hd rfl (go _ _ _ _ _ _ _ _ _ hk hL hP hlocs hcl hsl)
    case idiv =>
      obtain ⟨a, b, r0, z, rfl, hz, rfl⟩ := xv_idiv hs
      have hn : nx = pc + 1 := hn
      subst hn
      simp only [xm_bin] at hz
      split at hz
      · cases hz
      · next hb0 =>
        cases hz
        exact lv_idiv hx hb hd hb0 (go _ _ _ _ _ _ _ _ _ hk hL hP hlocs hcl hsl)
    case irem =>
      obtain ⟨a, b, r0, z, rfl, hz, rfl⟩ := xv_irem hs
      have hn : nx = pc + 1 := hn
      subst hn
      simp only [xm_bin] at hz
      split at hz
      · cases hz
      · next hb0 =>
        cases hz
        exact lv_irem hx hb hd hb0 (go _ _ _ _ _ _ _ _ _ hk hL hP hlocs hcl hsl)
    all_goals
      exfalso
      simp only [xm_step, xm_bin] at hs
      split at hs <;> cases hs
end
section
/-! runs of the abstract machine as a judgement: it ends, and its end is as Q says; a rule an instruction -/
theorem xm_ex_succ {L : Nat} {xs : Nat → Int32} : ∀ (n k pc : Nat) (ls st : List Value) (hp : xm_H) (r : xm_R), xm_ex L xs n k pc ls st hp = some r → xm_ex L xs (n + 1) k pc ls st hp = some r := by
  intro n
  induction n with
  | zero => intro k pc ls st hp r h; cases h
  | succ n ih =>
    intro k pc ls st hp r h
    rw [xm_ex] at h ⊢
    cases hq : xm_ins k pc with
    | none => rw [hq] at h; cases h
    | some q =>
      rw [hq] at h
      dsimp only at h ⊢
      cases hs : xm_step L xs (xm_rb k) pc q ls st hp with
      | none => rw [hs] at h; cases h
      | some o =>
        rw [hs] at h
        obtain ⟨pc', ls', st', hp'⟩ | r' | ⟨j, as, nx, ls', rest, hp1⟩ := o
        · exact ih _ _ _ _ _ _ h
        · exact h
        · dsimp only at h ⊢
          cases hc : xm_ex L xs n j 0 (xm_pad j as) [] hp1 with
          | none => rw [hc] at h; cases h
          | some w =>
            rw [hc] at h
            rw [ih _ _ _ _ _ _ hc]
            obtain ⟨u, hp'⟩ := w
            cases u with
            | none => exact ih _ _ _ _ _ _ h
            | some u => exact ih _ _ _ _ _ _ h
theorem xm_ex_le {L : Nat} {xs : Nat → Int32} {n n' k pc : Nat} {ls st : List Value} {hp : xm_H} {r : xm_R} (hn : n ≤ n') (h : xm_ex L xs n k pc ls st hp = some r) : xm_ex L xs n' k pc ls st hp = some r := by
  obtain ⟨d, rfl⟩ := Nat.le.dest hn
  induction d with
  | zero => exact h
  | succ d ih => exact xm_ex_succ _ _ _ _ _ _ _ (ih (Nat.le_add_right _ _))
def xw (L : Nat) (xs : Nat → Int32) (k pc : Nat) (ls st : List Value) (hp : xm_H) (Q : Option Value → xm_H → Prop) : Prop := ∃ n r hp', xm_ex L xs n k pc ls st hp = some (r, hp') ∧ Q r hp'
def xc (L : Nat) (xs : Nat → Int32) (j : Nat) (as : List Value) (hp : xm_H) (Q : Option Value → xm_H → Prop) : Prop := xw L xs j 0 (xm_pad j as) [] hp Q
/-- behind a call -/
def xk (L : Nat) (xs : Nat → Int32) (k nx : Nat) (ls rest : List Value) (Q : Option Value → xm_H → Prop) : Option Value → xm_H → Prop := fun u hp => xw L xs k nx ls (u.toList ++ rest) hp Q
section XR
variable {L : Nat} {xs : Nat → Int32} {k pc nx x y : Nat} {v : Int} {ls st : List Value} {hp : xm_H} {Q : Option Value → xm_H → Prop}
theorem xw.step {q : xm_Q} {pc' : Nat} {ls' st' : List Value} {hp' : xm_H} (hi : xm_ins k pc = some q) (hs : xm_step L xs (xm_rb k) pc q ls st hp = some (.inl (pc', ls', st', hp'))) (hk : xw L xs k pc' ls' st' hp' Q) : xw L xs k pc ls st hp Q := by
  obtain ⟨n, r, h1, h2, h3⟩ := hk
  refine ⟨n + 1, r, h1, ?_, h3⟩
  unfold xm_ex
  rw [hi]
  dsimp only
  rw [hs]
  exact h2
theorem xw.ret {q : xm_Q} {r : Option Value} {hp' : xm_H} (hi : xm_ins k pc = some q) (hs : xm_step L xs (xm_rb k) pc q ls st hp = some (.inr (.inl (r, hp')))) (hk : Q r hp') : xw L xs k pc ls st hp Q := by
  refine ⟨1, r, hp', ?_, hk⟩
  unfold xm_ex
  rw [hi]
  dsimp only
  rw [hs]
theorem xw.call {q : xm_Q} {j : Nat} {as ls' rest : List Value} {hp' : xm_H} (hi : xm_ins k pc = some q) (hs : xm_step L xs (xm_rb k) pc q ls st hp = some (.inr (.inr (j, as, nx, ls', rest, hp')))) (hk : xc L xs j as hp' (xk L xs k nx ls' rest Q)) : xw L xs k pc ls st hp Q := by
  obtain ⟨n, u, h1, h2, n', r, h3, h4, h5⟩ := hk
  refine ⟨max n n' + 1, r, h3, ?_, h5⟩
  unfold xm_ex
  rw [hi]
  dsimp only
  rw [hs]
  dsimp only
  rw [xm_ex_le (Nat.le_max_left n n') h2]
  have h6 := xm_ex_le (Nat.le_max_right n n') h4
  cases u with
  | none => exact h6
  | some u => exact h6
theorem xw.mono {Q' : Option Value → xm_H → Prop} (h : xw L xs k pc ls st hp Q) (hq : ∀ r hp', Q r hp' → Q' r hp') : xw L xs k pc ls st hp Q' := by
  obtain ⟨n, r, h1, h2, h3⟩ := h
  exact ⟨n, r, h1, h2, hq _ _ h3⟩
theorem xr_k {u : Value} {rest : List Value} (h : xw L xs k nx ls (u :: rest) hp Q) : xk L xs k nx ls rest Q (some u) hp := h
theorem xr_kv {rest : List Value} (h : xw L xs k nx ls rest hp Q) : xk L xs k nx ls rest Q none hp := h
-- constants
theorem xr_iconst {n : Int} {z : Int32} (hi : xm_ins k pc = some (.iconst n, nx, x, y, v)) (hz : xm_i v = z) (hk : xw L xs k nx ls (.int z :: st) hp Q) : xw L xs k pc ls st hp Q := xw.step hi (by rw [← hz]; rfl) hk
theorem xr_bipush {n : Int} {z : Int32} (hi : xm_ins k pc = some (.bipush n, nx, x, y, v)) (hz : xm_i v = z) (hk : xw L xs k nx ls (.int z :: st) hp Q) : xw L xs k pc ls st hp Q := xw.step hi (by rw [← hz]; rfl) hk
theorem xr_sipush {n : Int} {z : Int32} (hi : xm_ins k pc = some (.sipush n, nx, x, y, v)) (hz : xm_i v = z) (hk : xw L xs k nx ls (.int z :: st) hp Q) : xw L xs k pc ls st hp Q := xw.step hi (by rw [← hz]; rfl) hk
theorem xr_ldc {n : Nat} {z : Int32} (hi : xm_ins k pc = some (.ldc n, nx, x, y, v)) (hz : xm_i v = z) (hk : xw L xs k nx ls (.int z :: st) hp Q) : xw L xs k pc ls st hp Q := xw.step hi (by rw [← hz]; rfl) hk
theorem xr_ldc_w {n : Nat} {z : Int32} (hi : xm_ins k pc = some (.ldc_w n, nx, x, y, v)) (hz : xm_i v = z) (hk : xw L xs k nx ls (.int z :: st) hp Q) : xw L xs k pc ls st hp Q := xw.step hi (by rw [← hz]; rfl) hk
-- locals
theorem xr_iload_n {n : Fin 4} {u : Int32} (hi : xm_ins k pc = some (.iload_n n, nx, x, y, v)) (hl : ls[x]? = some (.int u)) (hk : xw L xs k nx ls (.int u :: st) hp Q) : xw L xs k pc ls st hp Q := xw.step hi (by simp only [xm_step, hl]) hk
theorem xr_iload {n : Nat} {u : Int32} (hi : xm_ins k pc = some (.iload n, nx, x, y, v)) (hl : ls[x]? = some (.int u)) (hk : xw L xs k nx ls (.int u :: st) hp Q) : xw L xs k pc ls st hp Q := xw.step hi (by simp only [xm_step, hl]) hk
theorem xr_aload_n {n : Fin 4} {u : Nat} (hi : xm_ins k pc = some (.aload_n n, nx, x, y, v)) (hl : ls[x]? = some (.ref u)) (hk : xw L xs k nx ls (.ref u :: st) hp Q) : xw L xs k pc ls st hp Q := xw.step hi (by simp only [xm_step, hl]) hk
theorem xr_aloads {n : Fin 4} {u : UInt32} (hi : xm_ins k pc = some (.aload_n n, nx, x, y, v)) (hl : ls[x]? = some (.float u)) (hk : xw L xs k nx ls (.float u :: st) hp Q) : xw L xs k pc ls st hp Q := xw.step hi (by simp only [xm_step, hl]) hk
theorem xr_istore_n {n : Fin 4} {u : Int32} {ls' : List Value} (hi : xm_ins k pc = some (.istore_n n, nx, x, y, v)) (hx : x < ls.length) (hl : ls.set x (.int u) = ls') (hk : xw L xs k nx ls' st hp Q) : xw L xs k pc ls (.int u :: st) hp Q := xw.step hi (by simp only [xm_step, if_pos hx, hl]) hk
theorem xr_istore {n : Nat} {u : Int32} {ls' : List Value} (hi : xm_ins k pc = some (.istore n, nx, x, y, v)) (hx : x < ls.length) (hl : ls.set x (.int u) = ls') (hk : xw L xs k nx ls' st hp Q) : xw L xs k pc ls (.int u :: st) hp Q := xw.step hi (by simp only [xm_step, if_pos hx, hl]) hk
theorem xr_astore_n {n : Fin 4} {u : Nat} {ls' : List Value} (hi : xm_ins k pc = some (.astore_n n, nx, x, y, v)) (hx : x < ls.length) (hl : ls.set x (.ref u) = ls') (hk : xw L xs k nx ls' st hp Q) : xw L xs k pc ls (.ref u :: st) hp Q := xw.step hi (by simp only [xm_step, if_pos hx, hl]) hk
theorem xr_iinc {n : Nat} {c : Int} {u z : Int32} {ls' : List Value} (hi : xm_ins k pc = some (.iinc n c, nx, x, y, v)) (hl0 : ls[x]? = some (.int u)) (hz : u + xm_i v = z) (hl : ls.set x (.int z) = ls') (hk : xw L xs k nx ls' st hp Q) : xw L xs k pc ls st hp Q := xw.step hi (by simp only [xm_step, hl0, hz, hl]) hk
-- the stack
theorem xr_goto {c : Int} (hi : xm_ins k pc = some (.goto c, nx, x, y, v)) (hk : xw L xs k x ls st hp Q) : xw L xs k pc ls st hp Q := xw.step hi rfl hk
theorem xr_pop {a : Value} (hi : xm_ins k pc = some (.pop, nx, x, y, v)) (hk : xw L xs k nx ls st hp Q) : xw L xs k pc ls (a :: st) hp Q := xw.step hi rfl hk
theorem xr_dup {a : Value} (hi : xm_ins k pc = some (.dup, nx, x, y, v)) (hk : xw L xs k nx ls (a :: a :: st) hp Q) : xw L xs k pc ls (a :: st) hp Q := xw.step hi rfl hk
theorem xr_dup2 {a b : Value} (hi : xm_ins k pc = some (.dup2, nx, x, y, v)) (hk : xw L xs k nx ls (a :: b :: a :: b :: st) hp Q) : xw L xs k pc ls (a :: b :: st) hp Q := xw.step hi rfl hk
-- arithmetic
theorem xr_iadd {a b z : Int32} (hi : xm_ins k pc = some (.iadd, nx, x, y, v)) (hz : a + b = z) (hk : xw L xs k nx ls (.int z :: st) hp Q) : xw L xs k pc ls (.int b :: .int a :: st) hp Q := xw.step hi (by rw [← hz]; rfl) hk
theorem xr_isub {a b z : Int32} (hi : xm_ins k pc = some (.isub, nx, x, y, v)) (hz : a - b = z) (hk : xw L xs k nx ls (.int z :: st) hp Q) : xw L xs k pc ls (.int b :: .int a :: st) hp Q := xw.step hi (by rw [← hz]; rfl) hk
theorem xr_imul {a b z : Int32} (hi : xm_ins k pc = some (.imul, nx, x, y, v)) (hz : a * b = z) (hk : xw L xs k nx ls (.int z :: st) hp Q) : xw L xs k pc ls (.int b :: .int a :: st) hp Q := xw.step hi (by rw [← hz]; rfl) hk
theorem xr_iand {a b z : Int32} (hi : xm_ins k pc = some (.iand, nx, x, y, v)) (hz : a &&& b = z) (hk : xw L xs k nx ls (.int z :: st) hp Q) : xw L xs k pc ls (.int b :: .int a :: st) hp Q := xw.step hi (by rw [← hz]; rfl) hk
theorem xr_ior {a b z : Int32} (hi : xm_ins k pc = some (.ior, nx, x, y, v)) (hz : a ||| b = z) (hk : xw L xs k nx ls (.int z :: st) hp Q) : xw L xs k pc ls (.int b :: .int a :: st) hp Q := xw.step hi (by rw [← hz]; rfl) hk
theorem xr_ixor {a b z : Int32} (hi : xm_ins k pc = some (.ixor, nx, x, y, v)) (hz : a ^^^ b = z) (hk : xw L xs k nx ls (.int z :: st) hp Q) : xw L xs k pc ls (.int b :: .int a :: st) hp Q := xw.step hi (by rw [← hz]; rfl) hk
theorem xr_ishl {a b z : Int32} (hi : xm_ins k pc = some (.ishl, nx, x, y, v)) (hz : a <<< (b &&& 31) = z) (hk : xw L xs k nx ls (.int z :: st) hp Q) : xw L xs k pc ls (.int b :: .int a :: st) hp Q := xw.step hi (by rw [← hz]; rfl) hk
theorem xr_ishr {a b z : Int32} (hi : xm_ins k pc = some (.ishr, nx, x, y, v)) (hz : a >>> (b &&& 31) = z) (hk : xw L xs k nx ls (.int z :: st) hp Q) : xw L xs k pc ls (.int b :: .int a :: st) hp Q := xw.step hi (by rw [← hz]; rfl) hk
theorem xr_iushr {a b z : Int32} (hi : xm_ins k pc = some (.iushr, nx, x, y, v)) (hz : (a.toUInt32 >>> (b.toUInt32 &&& Int32.toUInt32 31)).toInt32 = z) (hk : xw L xs k nx ls (.int z :: st) hp Q) : xw L xs k pc ls (.int b :: .int a :: st) hp Q := xw.step hi (by rw [← hz]; rfl) hk
theorem xr_idiv {a b z : Int32} (hi : xm_ins k pc = some (.idiv, nx, x, y, v)) (hb : ¬ b = 0) (hz : a / b = z) (hk : xw L xs k nx ls (.int z :: st) hp Q) : xw L xs k pc ls (.int b :: .int a :: st) hp Q := xw.step hi (by simp only [xm_step, xm_bin, if_neg hb, hz]) hk
theorem xr_irem {a b z : Int32} (hi : xm_ins k pc = some (.irem, nx, x, y, v)) (hb : ¬ b = 0) (hz : a - a / b * b = z) (hk : xw L xs k nx ls (.int z :: st) hp Q) : xw L xs k pc ls (.int b :: .int a :: st) hp Q := xw.step hi (by simp only [xm_step, xm_bin, if_neg hb, hz]) hk
-- branches, over what the values are as integers
theorem xr_ifj {c : ClassFile.Cond} {z : Int} {a : Int32} (hi : xm_ins k pc = some (.ifCond c z, nx, x, y, v)) (kt : xm_cb c a 0 = true → xw L xs k x ls st hp Q) (kf : ¬ xm_cb c a 0 = true → xw L xs k nx ls st hp Q) : xw L xs k pc ls (.int a :: st) hp Q := by
  by_cases h : xm_cb c a 0 = true
  · exact xw.step hi rfl (by rw [if_pos h]; exact kt h)
  · exact xw.step hi rfl (by rw [if_neg h]; exact kf h)
theorem xr_icj {c : ClassFile.Cond} {z : Int} {a b : Int32} (hi : xm_ins k pc = some (.if_icmp c z, nx, x, y, v)) (kt : xm_cb c a b = true → xw L xs k x ls st hp Q) (kf : ¬ xm_cb c a b = true → xw L xs k nx ls st hp Q) : xw L xs k pc ls (.int b :: .int a :: st) hp Q := by
  by_cases h : xm_cb c a b = true
  · exact xw.step hi rfl (by rw [if_pos h]; exact kt h)
  · exact xw.step hi rfl (by rw [if_neg h]; exact kf h)
theorem xr_cb {c : ClassFile.Cond} {a b : Int32} {i j : Int} (ha : a.toInt = i) (hb : b.toInt = j) : xm_cb c a b = true ↔ (match c with
  | .eq => i = j
  | .ne => ¬ i = j
  | .lt => i < j
  | .ge => j ≤ i
  | .gt => j < i
  | .le => i ≤ j) := by
  subst ha
  subst hb
  cases c <;> simp only [xm_cb, decide_eq_true_eq]
  · exact ⟨fun h => by rw [h], fun h => Int32.toInt_inj.mp h⟩
  · exact ⟨fun h q => h (Int32.toInt_inj.mp q), fun h q => h (by rw [q])⟩
  · exact Int32.lt_iff_toInt_lt
  · exact Int32.le_iff_toInt_le
  · exact Int32.lt_iff_toInt_lt
  · exact Int32.le_iff_toInt_le
theorem xr_if_eq {z : Int} {a : Int32} {i : Int} (hi : xm_ins k pc = some (.ifCond .eq z, nx, x, y, v)) (ha : a.toInt = i) (kt : i = 0 → xw L xs k x ls st hp Q) (kf : ¬ i = 0 → xw L xs k nx ls st hp Q) : xw L xs k pc ls (.int a :: st) hp Q :=
  xr_ifj hi (fun h => kt ((xr_cb (c := .eq) ha Int32.toInt_zero).mp h)) (fun h => kf (by have h := fun q => h ((xr_cb (c := .eq) ha Int32.toInt_zero).mpr q); exact h))
theorem xr_ic_eq {z : Int} {a b : Int32} {i j : Int} (hi : xm_ins k pc = some (.if_icmp .eq z, nx, x, y, v)) (ha : a.toInt = i) (hb : b.toInt = j) (kt : i = j → xw L xs k x ls st hp Q) (kf : ¬ i = j → xw L xs k nx ls st hp Q) : xw L xs k pc ls (.int b :: .int a :: st) hp Q :=
  xr_icj hi (fun h => kt ((xr_cb (c := .eq) ha hb).mp h)) (fun h => kf (by have h := fun q => h ((xr_cb (c := .eq) ha hb).mpr q); exact h))
theorem xr_if_ne {z : Int} {a : Int32} {i : Int} (hi : xm_ins k pc = some (.ifCond .ne z, nx, x, y, v)) (ha : a.toInt = i) (kt : ¬ i = 0 → xw L xs k x ls st hp Q) (kf : i = 0 → xw L xs k nx ls st hp Q) : xw L xs k pc ls (.int a :: st) hp Q :=
  xr_ifj hi (fun h => kt ((xr_cb (c := .ne) ha Int32.toInt_zero).mp h)) (fun h => kf (by have h := fun q => h ((xr_cb (c := .ne) ha Int32.toInt_zero).mpr q); exact Classical.not_not.mp h))
theorem xr_ic_ne {z : Int} {a b : Int32} {i j : Int} (hi : xm_ins k pc = some (.if_icmp .ne z, nx, x, y, v)) (ha : a.toInt = i) (hb : b.toInt = j) (kt : ¬ i = j → xw L xs k x ls st hp Q) (kf : i = j → xw L xs k nx ls st hp Q) : xw L xs k pc ls (.int b :: .int a :: st) hp Q :=
  xr_icj hi (fun h => kt ((xr_cb (c := .ne) ha hb).mp h)) (fun h => kf (by have h := fun q => h ((xr_cb (c := .ne) ha hb).mpr q); exact Classical.not_not.mp h))
theorem xr_if_lt {z : Int} {a : Int32} {i : Int} (hi : xm_ins k pc = some (.ifCond .lt z, nx, x, y, v)) (ha : a.toInt = i) (kt : i < 0 → xw L xs k x ls st hp Q) (kf : 0 ≤ i → xw L xs k nx ls st hp Q) : xw L xs k pc ls (.int a :: st) hp Q :=
  xr_ifj hi (fun h => kt ((xr_cb (c := .lt) ha Int32.toInt_zero).mp h)) (fun h => kf (by have h := fun q => h ((xr_cb (c := .lt) ha Int32.toInt_zero).mpr q); exact Int.not_lt.mp h))
theorem xr_ic_lt {z : Int} {a b : Int32} {i j : Int} (hi : xm_ins k pc = some (.if_icmp .lt z, nx, x, y, v)) (ha : a.toInt = i) (hb : b.toInt = j) (kt : i < j → xw L xs k x ls st hp Q) (kf : j ≤ i → xw L xs k nx ls st hp Q) : xw L xs k pc ls (.int b :: .int a :: st) hp Q :=
  xr_icj hi (fun h => kt ((xr_cb (c := .lt) ha hb).mp h)) (fun h => kf (by have h := fun q => h ((xr_cb (c := .lt) ha hb).mpr q); exact Int.not_lt.mp h))
theorem xr_if_ge {z : Int} {a : Int32} {i : Int} (hi : xm_ins k pc = some (.ifCond .ge z, nx, x, y, v)) (ha : a.toInt = i) (kt : 0 ≤ i → xw L xs k x ls st hp Q) (kf : i < 0 → xw L xs k nx ls st hp Q) : xw L xs k pc ls (.int a :: st) hp Q :=
  xr_ifj hi (fun h => kt ((xr_cb (c := .ge) ha Int32.toInt_zero).mp h)) (fun h => kf (by have h := fun q => h ((xr_cb (c := .ge) ha Int32.toInt_zero).mpr q); exact Int.not_le.mp h))
theorem xr_ic_ge {z : Int} {a b : Int32} {i j : Int} (hi : xm_ins k pc = some (.if_icmp .ge z, nx, x, y, v)) (ha : a.toInt = i) (hb : b.toInt = j) (kt : j ≤ i → xw L xs k x ls st hp Q) (kf : i < j → xw L xs k nx ls st hp Q) : xw L xs k pc ls (.int b :: .int a :: st) hp Q :=
  xr_icj hi (fun h => kt ((xr_cb (c := .ge) ha hb).mp h)) (fun h => kf (by have h := fun q => h ((xr_cb (c := .ge) ha hb).mpr q); exact Int.not_le.mp h))
theorem xr_if_gt {z : Int} {a : Int32} {i : Int} (hi : xm_ins k pc = some (.ifCond .gt z, nx, x, y, v)) (ha : a.toInt = i) (kt : 0 < i → xw L xs k x ls st hp Q) (kf : i ≤ 0 → xw L xs k nx ls st hp Q) : xw L xs k pc ls (.int a :: st) hp Q :=
  xr_ifj hi (fun h => kt ((xr_cb (c := .gt) ha Int32.toInt_zero).mp h)) (fun h => kf (by have h := fun q => h ((xr_cb (c := .gt) ha Int32.toInt_zero).mpr q); exact Int.not_lt.mp h))
theorem xr_ic_gt {z : Int} {a b : Int32} {i j : Int} (hi : xm_ins k pc = some (.if_icmp .gt z, nx, x, y, v)) (ha : a.toInt = i) (hb : b.toInt = j) (kt : j < i → xw L xs k x ls st hp Q) (kf : i ≤ j → xw L xs k nx ls st hp Q) : xw L xs k pc ls (.int b :: .int a :: st) hp Q :=
  xr_icj hi (fun h => kt ((xr_cb (c := .gt) ha hb).mp h)) (fun h => kf (by have h := fun q => h ((xr_cb (c := .gt) ha hb).mpr q); exact Int.not_lt.mp h))
theorem xr_if_le {z : Int} {a : Int32} {i : Int} (hi : xm_ins k pc = some (.ifCond .le z, nx, x, y, v)) (ha : a.toInt = i) (kt : i ≤ 0 → xw L xs k x ls st hp Q) (kf : 0 < i → xw L xs k nx ls st hp Q) : xw L xs k pc ls (.int a :: st) hp Q :=
  xr_ifj hi (fun h => kt ((xr_cb (c := .le) ha Int32.toInt_zero).mp h)) (fun h => kf (by have h := fun q => h ((xr_cb (c := .le) ha Int32.toInt_zero).mpr q); exact Int.not_le.mp h))
theorem xr_ic_le {z : Int} {a b : Int32} {i j : Int} (hi : xm_ins k pc = some (.if_icmp .le z, nx, x, y, v)) (ha : a.toInt = i) (hb : b.toInt = j) (kt : i ≤ j → xw L xs k x ls st hp Q) (kf : j < i → xw L xs k nx ls st hp Q) : xw L xs k pc ls (.int b :: .int a :: st) hp Q :=
  xr_icj hi (fun h => kt ((xr_cb (c := .le) ha hb).mp h)) (fun h => kf (by have h := fun q => h ((xr_cb (c := .le) ha hb).mpr q); exact Int.not_le.mp h))
-- fields and arrays
theorem xr_getf {n a : Nat} {fs : List Value} {u : Value} (hi : xm_ins k pc = some (.getfield n, nx, x, y, v)) (ha : hp[a]? = some (.inr (.inr (x, fs)))) (hu : fs[y]? = some u) (hk : xw L xs k nx ls (u :: st) hp Q) : xw L xs k pc ls (.ref a :: st) hp Q := xw.step hi (by simp only [xm_step, ha, hu, if_pos]) hk
theorem xr_putf {n a : Nat} {fs : List Value} {u : Int32} {hp' : xm_H} (hi : xm_ins k pc = some (.putfield n, nx, x, y, 0)) (ha : hp[a]? = some (.inr (.inr (x, fs)))) (hy : y < fs.length) (hh : hp.set a (.inr (.inr (x, fs.set y (.int u)))) = hp') (hk : xw L xs k nx ls st hp' Q) : xw L xs k pc ls (.int u :: .ref a :: st) hp Q := xw.step hi (by rw [← hh]; simp only [xm_step, ha, hy, and_self, if_pos]) hk
theorem xr_putr {n a : Nat} {fs : List Value} {u : Nat} {hp' : xm_H} (hi : xm_ins k pc = some (.putfield n, nx, x, y, 1)) (ha : hp[a]? = some (.inr (.inr (x, fs)))) (hy : y < fs.length) (hh : hp.set a (.inr (.inr (x, fs.set y (.ref u)))) = hp') (hk : xw L xs k nx ls st hp' Q) : xw L xs k pc ls (.ref u :: .ref a :: st) hp Q := xw.step hi (by rw [← hh]; simp only [xm_step, ha, hy, and_self, if_pos]) hk
theorem xr_clamp {j : Int32} {i n : Nat} (hj : j.toInt = (i : Int)) (hn : i < n) : ¬ (j < 0 ∨ n ≤ j.toNatClampNeg) ∧ j.toNatClampNeg = i := by
  have h1 : j.toNatClampNeg = i := by
    show j.toInt.toNat = i
    rw [hj]
    exact Int.toNat_natCast i
  refine ⟨?_, h1⟩
  rintro (h | h)
  · rw [Int32.lt_iff_toInt_lt, hj, Int32.toInt_zero] at h
    omega
  · rw [h1] at h
    omega
theorem xr_iald {j : Int32} {i a n : Nat} {f : Nat → Int32} (hi : xm_ins k pc = some (.iaload, nx, x, y, v)) (ha : hp[a]? = some (.inl (n, f))) (hj : j.toInt = (i : Int)) (hn : i < n) (hk : xw L xs k nx ls (.int (f i) :: st) hp Q) : xw L xs k pc ls (.int j :: .ref a :: st) hp Q := xw.step hi (by simp only [xm_step, ha]; rw [if_neg (xr_clamp hj hn).1, (xr_clamp hj hn).2]) hk
theorem xr_iast {j u : Int32} {i a n : Nat} {f : Nat → Int32} {hp' : xm_H} (hi : xm_ins k pc = some (.iastore, nx, x, y, v)) (ha : hp[a]? = some (.inl (n, f))) (hj : j.toInt = (i : Int)) (hn : i < n) (hh : hp.set a (.inl (n, upd f i u)) = hp') (hk : xw L xs k nx ls st hp' Q) : xw L xs k pc ls (.int u :: .int j :: .ref a :: st) hp Q := xw.step hi (by rw [← hh]; simp only [xm_step, ha]; rw [if_neg (xr_clamp hj hn).1, (xr_clamp hj hn).2]) hk
theorem xr_aald {j : Int32} {i a n t : Nat} {f : Nat → Option Nat} (hi : xm_ins k pc = some (.aaload, nx, x, y, v)) (ha : hp[a]? = some (.inr (.inl (n, f)))) (hj : j.toInt = (i : Int)) (hn : i < n) (ht : f i = some t) (hk : xw L xs k nx ls (.ref t :: st) hp Q) : xw L xs k pc ls (.int j :: .ref a :: st) hp Q := xw.step hi (by simp only [xm_step, ha]; rw [if_neg (xr_clamp hj hn).1, (xr_clamp hj hn).2, ht]) hk
theorem xr_aast {j : Int32} {i a n t : Nat} {f : Nat → Option Nat} {fs : List Value} {hp' : xm_H} (hi : xm_ins k pc = some (.aastore, nx, x, y, v)) (ha : hp[a]? = some (.inr (.inl (n, f)))) (hj : j.toInt = (i : Int)) (hn : i < n) (ht : hp[t]? = some (.inr (.inr (1, fs)))) (hh : hp.set a (.inr (.inl (n, va_up f i (some t)))) = hp') (hk : xw L xs k nx ls st hp' Q) : xw L xs k pc ls (.ref t :: .int j :: .ref a :: st) hp Q := xw.step hi (by rw [← hh]; simp only [xm_step, ha, ht, if_pos]; rw [if_neg (xr_clamp hj hn).1, (xr_clamp hj hn).2]) hk
theorem xr_alen {a n : Nat} {f : Nat → Int32} (hi : xm_ins k pc = some (.arraylength, nx, x, y, v)) (ha : hp[a]? = some (.inl (n, f))) (hk : xw L xs k nx ls (.int (nI n) :: st) hp Q) : xw L xs k pc ls (.ref a :: st) hp Q := xw.step hi (by simp only [xm_step, ha]) hk
theorem xr_slen {b : UInt32} (hi : xm_ins k pc = some (.arraylength, nx, x, y, v)) (hk : xw L xs k nx ls (.int (nI L) :: st) hp Q) : xw L xs k pc ls (.float b :: st) hp Q := xw.step hi rfl hk
theorem xr_sald {j : Int32} {i : Nat} {b : UInt32} (hi : xm_ins k pc = some (.iaload, nx, x, y, v)) (hj : j.toInt = (i : Int)) (hn : i < L) (hk : xw L xs k nx ls (.int (xs i) :: st) hp Q) : xw L xs k pc ls (.int j :: .float b :: st) hp Q := xw.step hi (by simp only [xm_step]; rw [if_neg (xr_clamp hj hn).1, (xr_clamp hj hn).2]) hk
theorem xr_newa {t : ArrayType} {n : Int32} {N : Nat} (hi : xm_ins k pc = some (.newarray t, nx, x, y, v)) (hj : n.toInt = (N : Int)) (hn : N < 134217729) (hk : xw L xs k nx ls (.ref hp.length :: st) (hp ++ [.inl (N, fun _ => 0)]) Q) : xw L xs k pc ls (.int n :: st) hp Q := by
  have h1 := xr_clamp hj (Nat.lt_succ_self N)
  refine xw.step hi ?_ hk
  simp only [xm_step]
  rw [if_neg, h1.2]
  rintro (h | h)
  · exact h1.1 (Or.inl h)
  · rw [h1.2] at h; omega
theorem xr_anew {t : Nat} {n : Int32} {N : Nat} (hi : xm_ins k pc = some (.anewarray t, nx, x, y, v)) (hj : n.toInt = (N : Int)) (hn : N < 134217729) (hk : xw L xs k nx ls (.ref hp.length :: st) (hp ++ [.inr (.inl (N, fun _ => none))]) Q) : xw L xs k pc ls (.int n :: st) hp Q := by
  have h1 := xr_clamp hj (Nat.lt_succ_self N)
  refine xw.step hi ?_ hk
  simp only [xm_step]
  rw [if_neg, h1.2]
  rintro (h | h)
  · exact h1.1 (Or.inl h)
  · rw [h1.2] at h; omega
theorem xr_new {t : Nat} (hi : xm_ins k pc = some (.new t, nx, x, y, v)) (hk : xw L xs k nx ls (.ref hp.length :: st) (hp ++ [.inr (.inr (x, xm_new x))]) Q) : xw L xs k pc ls st hp Q := xw.step hi rfl hk
-- switches
theorem xr_tsw {d lo hi' : Int} {offs : Array Int} {u : Int32} {i : Int} {t : Nat} (hi : xm_ins k pc = some (.tableswitch d lo hi' offs, nx, x, y, v)) (hu : u.toInt = i) (ht : (if i < lo ∨ hi' < i then xm_tgt pc d else (offs[(i - lo).toNat]?).bind (xm_tgt pc)) = some t) (hk : xw L xs k t ls st hp Q) : xw L xs k pc ls (.int u :: st) hp Q := by
  refine xw.step hi ?_ hk
  subst hu
  simp only [xm_step]
  split at ht
  · next h => rw [if_pos h, ht]
  · next h =>
    rw [if_neg h]
    cases ho : offs[(u.toInt - lo).toNat]? with
    | none => rw [ho] at ht; cases ht
    | some o =>
      rw [ho] at ht
      have ht : xm_tgt pc o = some t := ht
      dsimp only
      rw [ht]
theorem xr_lsw {d : Int} {qs : Array (Int × Int)} {u : Int32} {i : Int} {t : Nat} (hi : xm_ins k pc = some (.lookupswitch d qs, nx, x, y, v)) (hu : u.toInt = i) (ht : xm_tgt pc (Op.lookupswitch.offset qs.toList d i) = some t) (hk : xw L xs k t ls st hp Q) : xw L xs k pc ls (.int u :: st) hp Q := by
  refine xw.step hi ?_ hk
  subst hu
  simp only [xm_step, ht]
-- ends
theorem xr_iret {u : Int32} (hi : xm_ins k pc = some (.ireturn, nx, x, y, v)) (hr : xm_rb k = true → u = 0 ∨ u = 1) (hk : Q (some (.int u)) hp) : xw L xs k pc ls [.int u] hp Q := by
  refine xw.ret hi ?_ hk
  simp only [xm_step]
  rw [if_neg]
  rintro ⟨h1, h2⟩
  exact h2 (hr h1)
theorem xr_aret {u : Nat} (hi : xm_ins k pc = some (.areturn, nx, x, y, v)) (hk : Q (some (.ref u)) hp) : xw L xs k pc ls [.ref u] hp Q := xw.ret hi rfl hk
theorem xr_ret (hi : xm_ins k pc = some (.return_, nx, x, y, v)) (hk : Q none hp) : xw L xs k pc ls [] hp Q := xw.ret hi rfl hk
-- calls
theorem xr_virt {n a ci : Nat} {as rest : List Value} {fs : List Value} (hi : xm_ins k pc = some (.invokevirtual n, nx, x, y, v)) (hs : (st.take y).reverse = .ref a :: as) (hr : st.drop y = rest) (ha : hp[a]? = some (.inr (.inr (ci, fs)))) (hc : (ci : Int) = v) (hy : y ≤ st.length) (h8 : rest.length ≤ 8) (hk : xc L xs x (.ref a :: as) hp (xk L xs k nx ls rest Q)) : xw L xs k pc ls st hp Q := by
  subst hr
  refine xw.call hi ?_ hk
  simp only [xm_step, hs, ha, hc, hy, h8, and_self, if_pos]
theorem xr_stat {n : Nat} {as rest : List Value} (hi : xm_ins k pc = some (.invokestatic n, nx, x, y, v)) (hx : x < 1000) (hs : (st.take y).reverse = as) (hr : st.drop y = rest) (hy : y ≤ st.length) (h8 : rest.length ≤ 8) (hk : xc L xs x as hp (xk L xs k nx ls rest Q)) : xw L xs k pc ls st hp Q := by
  subst hr
  subst hs
  refine xw.call hi ?_ hk
  have h1 : ¬ x = 1001 := by omega
  have h2 : ¬ x = 1002 := by omega
  simp only [xm_step, if_neg h1, if_neg h2, hy, h8, and_self, if_pos]
theorem xr_spec {n a : Nat} {as rest : List Value} (hi : xm_ins k pc = some (.invokespecial n, nx, x, y, v)) (hx : x < 1000) (hs : (st.take y).reverse = .ref a :: as) (hr : st.drop y = rest) (hy : y ≤ st.length) (h8 : rest.length ≤ 8) (hk : xc L xs x (.ref a :: as) hp (xk L xs k nx ls rest Q)) : xw L xs k pc ls st hp Q := by
  subst hr
  refine xw.call hi ?_ hk
  have h1 : ¬ x = 1000 := by omega
  simp only [xm_step, if_neg h1, hs, hy, h8, and_self, if_pos]
theorem xr_oinit {n a : Nat} (hi : xm_ins k pc = some (.invokespecial n, nx, 1000, y, v)) (h8 : st.length ≤ 8) (hk : xw L xs k nx ls st hp Q) : xw L xs k pc ls (.ref a :: st) hp Q := by
  refine xw.step hi ?_ hk
  have h1 : ¬ 8 < st.length := by omega
  simp only [xm_step, if_pos, if_neg h1]
theorem xr_min {n : Nat} {a b z : Int32} (hi : xm_ins k pc = some (.invokestatic n, nx, 1002, y, v)) (h8 : st.length ≤ 8) (hz : (if b < a then b else a) = z) (hk : xw L xs k nx ls (.int z :: st) hp Q) : xw L xs k pc ls (.int b :: .int a :: st) hp Q := by
  refine xw.step hi ?_ hk
  have h1 : ¬ 8 < st.length := by omega
  have h2 : ¬ (1002 : Nat) = 1001 := by decide
  simp only [xm_step, if_pos, if_neg h1, if_neg h2, hz]
theorem xr_copy {m : Nat} {n dp sp : Int32} {s d n0 n1 N DP SP : Nat} {f g : Nat → Int32} {hp' : xm_H} (hi : xm_ins k pc = some (.invokestatic m, nx, 1001, y, v)) (hs : hp[s]? = some (.inl (n0, f))) (hd : hp[d]? = some (.inl (n1, g))) (h1 : sp.toInt = (SP : Int)) (h2 : dp.toInt = (DP : Int)) (h3 : n.toInt = (N : Int)) (h4 : SP + N ≤ n0) (h5 : DP + N ≤ n1) (h8 : st.length ≤ 8) (hh : hp.set d (.inl (n1, va_cpy f g SP DP N)) = hp') (hk : xw L xs k nx ls st hp' Q) : xw L xs k pc ls (.int n :: .int dp :: .ref d :: .int sp :: .ref s :: st) hp Q := by
  refine xw.step hi ?_ hk
  have e1 := xr_clamp h1 (Nat.lt_succ_self SP)
  have e2 := xr_clamp h2 (Nat.lt_succ_self DP)
  have e3 := xr_clamp h3 (Nat.lt_succ_self N)
  rw [← hh]
  simp only [xm_step, if_pos, hs, hd]
  rw [if_neg, e1.2, e2.2, e3.2]
  rw [e1.2, e2.2, e3.2]
  rintro (h | h | h | h | h | h)
  · exact e1.1 (Or.inl h)
  · exact e2.1 (Or.inl h)
  · exact e3.1 (Or.inl h)
  · omega
  · omega
  · omega
end XR
end
section
/-! numbers: counted ones (nI), and ones less by one (dI: none is -1) -/
def dI (n : Nat) : Int32 := nI n - nI 1
def xE1 : Int32 := Int32.ofInt (Int.negSucc 1000000)
def xE2 : Int32 := Int32.ofInt (Int.negSucc 1000001)
def xE3 : Int32 := Int32.ofInt (Int.negSucc 1000002)
def xE4 : Int32 := Int32.ofInt (Int.negSucc 1000003)
theorem xm_m1 : xm_i (-1) = dI 0 := by decide +kernel
theorem tI_n {n : Nat} (h : n < 2147483648) : (nI n).toInt = (n : Int) := nI_toInt h
theorem nI_d (n : Nat) : nI n - nI 1 = dI n := rfl
theorem dI_1 (n : Nat) : dI (n + 1) = nI n := by
  unfold dI
  rw [pk_sub (by omega)]
  congr 1
theorem dI_0 : dI 0 = -1 := by decide +kernel
theorem tI_d {n : Nat} (h : n < 2147483648) : (dI n).toInt = (n : Int) - 1 := by
  cases n with
  | zero => decide +kernel
  | succ n =>
    rw [dI_1, tI_n (by omega)]
    omega
theorem tI_dn {n : Nat} (h1 : 0 < n) (h : n < 2147483648) : (dI n).toInt = ((n - 1 : Nat) : Int) := by
  rw [tI_d h]
  omega
theorem dI_pos {n : Nat} (h : 0 < n) : dI n = nI (n - 1) := by
  obtain ⟨m, rfl⟩ : ∃ m, n = m + 1 := ⟨n - 1, by omega⟩
  exact dI_1 m
theorem tI_e1 : xE1.toInt = -1000001 := by decide +kernel
theorem tI_e2 : xE2.toInt = -1000002 := by decide +kernel
theorem tI_e3 : xE3.toInt = -1000003 := by decide +kernel
theorem tI_e4 : xE4.toInt = -1000004 := by decide +kernel
theorem nI_m1 {n : Nat} (h : 0 < n) : nI n + xm_i (-1) = nI (n - 1) := by
  rw [xm_m1, ← dI_pos h]
  unfold dI
  rw [show nI 0 - nI 1 = -nI 1 by decide +kernel, ← Int32.sub_eq_add_neg]
theorem nI_inj {a b : Nat} (ha : a < 2147483648) (hb : b < 2147483648) : nI a = nI b ↔ a = b := nI_eq ha hb
theorem dI_inj {a b : Nat} (ha : a < 2147483648) (hb : b < 2147483648) : dI a = dI b ↔ a = b := by
  constructor
  · intro h
    have h1 := congrArg Int32.toInt h
    rw [tI_d ha, tI_d hb] at h1
    omega
  · intro h
    rw [h]
theorem xr_ialz {L : Nat} {xs : Nat → Int32} {k pc nx x y : Nat} {v : Int} {ls st : List Value} {hp : xm_H} {Q : Option Value → xm_H → Prop} {j z : Int32} {i a n : Nat} {f : Nat → Int32} (hi : xm_ins k pc = some (.iaload, nx, x, y, v)) (ha : hp[a]? = some (.inl (n, f))) (hj : j.toInt = (i : Int)) (hn : i < n) (hz : f i = z) (hk : xw L xs k nx ls (.int z :: st) hp Q) : xw L xs k pc ls (.int j :: .ref a :: st) hp Q := by
  subst hz
  exact xr_iald hi ha hj hn hk
end
section
/-! bits (rows 3 to 39 of the kit's BITS to paste), and sets of things: bits below 30 -/
def bt (x : Int32) (i : Nat) : Bool := x.toBitVec.getLsbD i
theorem b_ext {x y : Int32} (h : ∀ i, i < 32 → bt x i = bt y i) : x = y := Int32.toBitVec_inj.mp (BitVec.eq_of_getLsbD_eq (fun i hi => h i hi))
theorem b_or (x y : Int32) (i : Nat) : bt (x ||| y) i = (bt x i || bt y i) := by unfold bt; rw [Int32.toBitVec_or, BitVec.getLsbD_or]
theorem b_and (x y : Int32) (i : Nat) : bt (x &&& y) i = (bt x i && bt y i) := by unfold bt; rw [Int32.toBitVec_and, BitVec.getLsbD_and]
theorem b_xor (x y : Int32) (i : Nat) : bt (x ^^^ y) i = (bt x i ^^ bt y i) := by unfold bt; rw [Int32.toBitVec_xor, BitVec.getLsbD_xor]
theorem b_big {x : Int32} {i : Nat} (h : 32 ≤ i) : bt x i = false := BitVec.getLsbD_of_ge _ _ h
theorem b_m1 : ∀ i, i < 32 → bt (-1) i = true := by decide +kernel
theorem b_0 (i : Nat) : bt 0 i = false := BitVec.getLsbD_zero
theorem s_l : ∀ n, n < 32 → ((nI n &&& 31).toBitVec.smod 32).toNat = n := by decide +kernel
theorem s_u : ∀ n, n < 32 → (((nI n).toUInt32 &&& Int32.toUInt32 31).toBitVec % 32).toNat = n := by decide +kernel
theorem b_shl (n : Nat) (hn : n < 32) (x : Int32) {i : Nat} (hi : i < 32) : bt (x <<< (nI n &&& 31)) i = (decide (n ≤ i) && bt x (i - n)) := by
  unfold bt
  rw [Int32.toBitVec_shiftLeft]
  show (x.toBitVec <<< ((nI n &&& 31).toBitVec.smod 32).toNat).getLsbD i = _
  rw [s_l n hn, BitVec.getLsbD_shiftLeft]
  rcases Nat.lt_or_ge i n with h | h
  · simp [h, Nat.not_le.mpr h]
  · simp [hi, h, Nat.not_lt.mpr h]
theorem b_ushr (n : Nat) (hn : n < 32) (x : Int32) (i : Nat) : bt ((x.toUInt32 >>> ((nI n).toUInt32 &&& Int32.toUInt32 31)).toInt32) i = bt x (n + i) := by
  show (x.toUInt32 >>> ((nI n).toUInt32 &&& Int32.toUInt32 31)).toBitVec.getLsbD i = x.toUInt32.toBitVec.getLsbD (n + i)
  rw [UInt32.toBitVec_shiftRight]
  show (x.toUInt32.toBitVec >>> (((nI n).toUInt32 &&& Int32.toUInt32 31).toBitVec % 32).toNat).getLsbD i = _
  rw [s_u n hn, BitVec.getLsbD_ushiftRight]
theorem b_sshr (n : Nat) (hn : n < 32) (x : Int32) {i : Nat} (hi : i < 32) : bt (x >>> (nI n &&& 31)) i = if n + i < 32 then bt x (n + i) else bt x 31 := by
  unfold bt
  rw [Int32.toBitVec_shiftRight]
  show (x.toBitVec.sshiftRight ((nI n &&& 31).toBitVec.smod 32).toNat).getLsbD i = _
  rw [s_l n hn, BitVec.getLsbD_sshiftRight, BitVec.msb_eq_getLsbD_last]
  simp [hi]
noncomputable def cd (p : Prop) : Bool := @decide p (Classical.propDecidable p)
theorem cd_t {p : Prop} : cd p = true ↔ p := @decide_eq_true_iff p (Classical.propDecidable p)
theorem cd_f {p : Prop} : cd p = false ↔ ¬ p := @decide_eq_false_iff_not p (Classical.propDecidable p)
noncomputable def mkN (P : Nat → Prop) : Nat → Int32
  | 0 => nI 0
  | n + 1 => mkN P n ||| (if cd (P n) = true then nI 1 <<< (nI n &&& 31) else nI 0)
noncomputable def mk (P : Nat → Prop) : Int32 := mkN P 30
theorem b_one : ∀ n, n < 32 → ∀ i, i < 32 → bt (nI 1 <<< (nI n &&& 31)) i = decide (i = n) := by decide +kernel
theorem bt_mkN (P : Nat → Prop) : ∀ n, n ≤ 32 → ∀ i, i < 32 → (bt (mkN P n) i = true ↔ i < n ∧ P i) := by
  intro n
  induction n with
  | zero =>
    intro _ i hi
    have h0 : bt (nI 0) i = false := b_0 i
    simp [mkN, h0]
  | succ n ih =>
    intro hn i hi
    simp only [mkN]
    rw [b_or, Bool.or_eq_true, ih (by omega) i hi]
    by_cases hp : P n
    · rw [if_pos (cd_t.mpr hp), b_one n (by omega) i hi, decide_eq_true_eq]
      constructor
      · rintro (h | h)
        · exact ⟨by omega, h.2⟩
        · subst h
          exact ⟨by omega, hp⟩
      · rintro ⟨h1, h2⟩
        by_cases h : i = n
        · exact Or.inr h
        · exact Or.inl ⟨by omega, h2⟩
    · rw [if_neg (fun q => hp (cd_t.mp q))]
      have h0 : bt (nI 0) i = false := b_0 i
      rw [h0]
      constructor
      · rintro (h | h)
        · exact ⟨by omega, h.2⟩
        · cases h
      · rintro ⟨h1, h2⟩
        refine Or.inl ⟨?_, h2⟩
        have : i ≠ n := fun q => hp (q ▸ h2)
        omega
theorem bt_mk {P : Nat → Prop} {i : Nat} (hi : i < 32) : bt (mk P) i = true ↔ i < 30 ∧ P i := bt_mkN P 30 (by omega) i hi
theorem mk_ext {x : Int32} {P : Nat → Prop} (h : ∀ i, i < 32 → (bt x i = true ↔ i < 30 ∧ P i)) : x = mk P := by
  refine b_ext (fun i hi => ?_)
  rw [Bool.eq_iff_iff, bt_mk hi]
  exact h i hi
theorem mk_congr {P R : Nat → Prop} (h : ∀ t, t < 30 → (P t ↔ R t)) : mk P = mk R :=
  mk_ext (fun i hi => by rw [bt_mk hi]; exact ⟨fun q => ⟨q.1, (h i q.1).mp q.2⟩, fun q => ⟨q.1, (h i q.1).mpr q.2⟩⟩)
theorem mk_inj {P R : Nat → Prop} (h : mk P = mk R) {t : Nat} (ht : t < 30) : P t ↔ R t := by
  have h1 := (bt_mk (P := P) (show t < 32 by omega))
  have h2 := (bt_mk (P := R) (show t < 32 by omega))
  rw [h] at h1
  exact ⟨fun q => (h2.mp (h1.mpr ⟨ht, q⟩)).2, fun q => (h1.mp (h2.mpr ⟨ht, q⟩)).2⟩
theorem mk_or (P R : Nat → Prop) : mk P ||| mk R = mk (fun t => P t ∨ R t) := by
  refine mk_ext (fun i hi => ?_)
  rw [b_or, Bool.or_eq_true, bt_mk hi, bt_mk hi]
  constructor
  · rintro (h | h)
    · exact ⟨h.1, Or.inl h.2⟩
    · exact ⟨h.1, Or.inr h.2⟩
  · rintro ⟨h, h1 | h1⟩
    · exact Or.inl ⟨h, h1⟩
    · exact Or.inr ⟨h, h1⟩
theorem mk_and (P R : Nat → Prop) : mk P &&& mk R = mk (fun t => P t ∧ R t) := by
  refine mk_ext (fun i hi => ?_)
  rw [b_and, Bool.and_eq_true, bt_mk hi, bt_mk hi]
  exact ⟨fun h => ⟨h.1.1, h.1.2, h.2.2⟩, fun h => ⟨⟨h.1, h.2.1⟩, h.1, h.2.2⟩⟩
theorem b_not (x : Int32) {i : Nat} (hi : i < 32) : bt (x ^^^ dI 0) i = !(bt x i) := by
  rw [b_xor, dI_0, b_m1 i hi, Bool.xor_true]
theorem mk_andn (P R : Nat → Prop) : mk P &&& (mk R ^^^ dI 0) = mk (fun t => P t ∧ ¬ R t) := by
  refine mk_ext (fun i hi => ?_)
  rw [b_and, Bool.and_eq_true, bt_mk hi, b_not _ hi, Bool.not_eq_true', ← Bool.not_eq_true, bt_mk hi]
  exact ⟨fun h => ⟨h.1.1, h.1.2, fun q => h.2 ⟨h.1.1, q⟩⟩, fun h => ⟨⟨h.1, h.2.1⟩, fun q => h.2.2 q.2⟩⟩
theorem mk_0 : nI 0 = mk (fun _ => False) := by
  refine mk_ext (fun i hi => ?_)
  have h0 : bt (nI 0) i = false := b_0 i
  simp [h0]
theorem mk_1 {n : Nat} (hn : n < 30) : nI 1 <<< (nI n &&& 31) = mk (fun t => t = n) := by
  refine mk_ext (fun i hi => ?_)
  rw [b_one n (by omega) i hi, decide_eq_true_eq]
  exact ⟨fun h => ⟨by omega, h⟩, fun h => h.2⟩
theorem mk_or1 (P : Nat → Prop) {n : Nat} (hn : n < 30) : mk P ||| (nI 1 <<< (nI n &&& 31)) = mk (fun t => P t ∨ t = n) := by
  rw [mk_1 hn, mk_or]
theorem mk_or0 (P : Nat → Prop) : mk P ||| nI 0 = mk P := by
  rw [mk_0, mk_or]
  exact mk_congr (fun t _ => by simp)
theorem mk_eq0 {P : Nat → Prop} : mk P = 0 ↔ ∀ t, t < 30 → ¬ P t := by
  have h0 : (0 : Int32) = mk (fun _ => False) := mk_0
  rw [h0]
  exact ⟨fun h t ht q => (mk_inj h ht).mp q, fun h => mk_congr (fun t ht => ⟨fun q => h t ht q, fun q => q.elim⟩)⟩
theorem bt_test {x : Int32} {n : Nat} (hn : n < 31) : (x >>> (nI n &&& 31)) &&& nI 1 = if bt x n = true then nI 1 else nI 0 := by
  have b1 : ∀ i, i < 32 → bt (nI 1) i = decide (i = 0) := by decide +kernel
  refine b_ext (fun i hi => ?_)
  rw [b_and, b1 i hi, b_sshr n (by omega) x hi]
  have h0 : bt (nI 0) i = false := b_0 i
  by_cases h : i = 0
  · subst h
    rw [if_pos (show n + 0 < 32 by omega)]
    cases hb : bt x n
    · rw [if_neg (by decide), h0]
      rfl
    · rw [if_pos rfl, b1 0 (by omega)]
      rfl
  · have hd : decide (i = 0) = false := by simp [h]
    rw [hd, Bool.and_false]
    split
    · rw [b1 i hi, hd]
    · rw [h0]
theorem mk_test (P : Nat → Prop) {n : Nat} (hn : n < 30) : ((mk P >>> (nI n &&& 31)) &&& nI 1 = nI 1 ∧ P n) ∨ ((mk P >>> (nI n &&& 31)) &&& nI 1 = nI 0 ∧ ¬ P n) := by
  rw [bt_test (by omega)]
  by_cases h : P n
  · exact Or.inl ⟨if_pos ((bt_mk (by omega)).mpr ⟨hn, h⟩), h⟩
  · exact Or.inr ⟨if_neg (fun q => h ((bt_mk (by omega)).mp q).2), h⟩
/-- how many there are below n -/
noncomputable def cnt (P : Nat → Prop) : Nat → Nat
  | 0 => 0
  | n + 1 => cnt P n + (if cd (P n) = true then 1 else 0)
theorem cnt_le (P : Nat → Prop) : ∀ n, cnt P n ≤ n := by
  intro n
  induction n with
  | zero => exact Nat.le_refl _
  | succ n ih =>
    simp only [cnt]
    split <;> omega
theorem cnt_congr {P R : Nat → Prop} : ∀ n, (∀ t, t < n → (P t ↔ R t)) → cnt P n = cnt R n := by
  intro n
  induction n with
  | zero => intro _; rfl
  | succ n ih =>
    intro h
    simp only [cnt]
    rw [ih (fun t ht => h t (by omega))]
    have e : cd (P n) = cd (R n) := by
      rw [Bool.eq_iff_iff, cd_t, cd_t]
      exact h n (by omega)
    rw [e]
theorem mk_start (P : Nat → Prop) : nI 0 = mk (fun t => t < 0 ∧ P t) := by
  rw [mk_0]
  exact mk_congr (fun t _ => ⟨fun h => h.elim, fun h => by omega⟩)
theorem mk_step1 {P : Nat → Prop} {i : Nat} (hi : i < 30) (h : P i) : mk (fun t => t < i ∧ P t) ||| (nI 1 <<< (nI i &&& 31)) = mk (fun t => t < i + 1 ∧ P t) := by
  rw [mk_or1 _ hi]
  refine mk_congr (fun t _ => ⟨?_, ?_⟩)
  · rintro (h1 | h1)
    · exact ⟨by omega, h1.2⟩
    · subst h1
      exact ⟨by omega, h⟩
  · rintro ⟨h1, h2⟩
    by_cases e : t = i
    · exact Or.inr e
    · exact Or.inl ⟨by omega, h2⟩
theorem mk_step0 {P : Nat → Prop} {i : Nat} (h : ¬ P i) : mk (fun t => t < i ∧ P t) ||| nI 0 = mk (fun t => t < i + 1 ∧ P t) := by
  rw [mk_or0]
  refine mk_congr (fun t _ => ⟨fun h1 => ⟨by omega, h1.2⟩, fun h1 => ⟨?_, h1.2⟩⟩)
  have : t ≠ i := fun q => h (q ▸ h1.2)
  omega
theorem mk_all {P : Nat → Prop} {n : Nat} (h : ∀ t, t < 30 → P t → t < n) : mk (fun t => t < n ∧ P t) = mk P :=
  mk_congr (fun t ht => ⟨fun q => q.2, fun q => ⟨h t ht q, q⟩⟩)
/-- the first below n -/
noncomputable def fstN (P : Nat → Prop) : Nat → Option Nat
  | 0 => none
  | n + 1 => match fstN P n with
    | some i => some i
    | none => if cd (P n) = true then some n else none
theorem fstN_none {P : Nat → Prop} : ∀ {n : Nat}, fstN P n = none ↔ ∀ i, i < n → ¬ P i := by
  intro n
  induction n with
  | zero => exact ⟨fun _ i hi => by omega, fun _ => rfl⟩
  | succ n ih =>
    simp only [fstN]
    cases h : fstN P n with
    | some j =>
      refine ⟨fun q => (by cases q), fun q => ?_⟩
      have := ih.mpr (fun i hi => q i (by omega))
      rw [h] at this
      cases this
    | none =>
      have h1 := ih.mp h
      dsimp only
      by_cases hp : P n
      · rw [if_pos (cd_t.mpr hp)]
        exact ⟨fun q => (by cases q), fun q => absurd hp (q n (by omega))⟩
      · rw [if_neg (fun q => hp (cd_t.mp q))]
        refine ⟨fun _ i hi => ?_, fun _ => rfl⟩
        by_cases e : i = n
        · subst e; exact hp
        · exact h1 i (by omega)
theorem fstN_some {P : Nat → Prop} : ∀ {n i : Nat}, fstN P n = some i ↔ i < n ∧ P i ∧ ∀ j, j < i → ¬ P j := by
  intro n
  induction n with
  | zero => exact fun {i} => ⟨fun h => (by cases h), fun h => by omega⟩
  | succ n ih =>
    intro i
    simp only [fstN]
    cases h : fstN P n with
    | some j =>
      have h1 := ih.mp h
      dsimp only
      constructor
      · intro q
        cases q
        exact ⟨by omega, h1.2⟩
      · rintro ⟨q1, q2, q3⟩
        by_cases e1 : j < i
        · exact absurd h1.2.1 (q3 j e1)
        · by_cases e2 : i < j
          · exact absurd q2 (h1.2.2 i e2)
          · rw [show j = i by omega]
    | none =>
      have h1 := fstN_none.mp h
      dsimp only
      by_cases hp : P n
      · rw [if_pos (cd_t.mpr hp)]
        constructor
        · intro q
          cases q
          exact ⟨by omega, hp, h1⟩
        · rintro ⟨q1, q2, q3⟩
          by_cases e : i = n
          · rw [e]
          · exact absurd q2 (h1 i (by omega))
      · rw [if_neg (fun q => hp (cd_t.mp q))]
        refine ⟨fun q => (by cases q), ?_⟩
        rintro ⟨q1, q2, q3⟩
        by_cases e : i = n
        · subst e; exact absurd q2 hp
        · exact absurd q2 (h1 i (by omega))
theorem fstN_congr {P R : Nat → Prop} {n : Nat} (h : ∀ i, i < n → (P i ↔ R i)) : fstN P n = fstN R n := by
  induction n with
  | zero => rfl
  | succ n ih =>
    simp only [fstN]
    rw [ih (fun i hi => h i (by omega))]
    have e : cd (P n) = cd (R n) := by
      rw [Bool.eq_iff_iff, cd_t, cd_t]
      exact h n (by omega)
    rw [e]
theorem cnt_s1 {P : Nat → Prop} {i : Nat} (h : P i) : nI (cnt P i) + nI 1 = nI (cnt P (i + 1)) := by
  rw [nI_add]
  simp only [cnt, if_pos (cd_t.mpr h)]
theorem cnt_s0 {P : Nat → Prop} {i : Nat} (h : ¬ P i) : nI (cnt P i) + nI 0 = nI (cnt P (i + 1)) := by
  rw [nI_add]
  simp only [cnt, if_neg (fun q => h (cd_t.mp q))]
theorem cnt_lt {P R : Nat → Prop} : ∀ n, (∀ t, t < n → P t → R t) → (∃ t, t < n ∧ R t ∧ ¬ P t) → cnt P n + 1 ≤ cnt R n := by
  have le : ∀ n, (∀ t, t < n → P t → R t) → cnt P n ≤ cnt R n := by
    intro n
    induction n with
    | zero => intro _; exact Nat.le_refl _
    | succ n ih =>
      intro h
      have h1 := ih (fun t ht => h t (by omega))
      simp only [cnt]
      by_cases hp : P n
      · rw [if_pos (cd_t.mpr hp), if_pos (cd_t.mpr (h n (by omega) hp))]
        omega
      · rw [if_neg (fun q => hp (cd_t.mp q))]
        omega
  intro n
  induction n with
  | zero => rintro _ ⟨t, ht, -⟩; omega
  | succ n ih =>
    rintro h ⟨t, ht, h1, h2⟩
    simp only [cnt]
    by_cases e : t = n
    · subst e
      rw [if_pos (cd_t.mpr h1), if_neg (fun q => h2 (cd_t.mp q))]
      have := le t (fun u hu => h u (by omega))
      omega
    · have h3 := ih (fun t ht => h t (by omega)) ⟨t, by omega, h1, h2⟩
      by_cases hp : P n
      · rw [if_pos (cd_t.mpr hp), if_pos (cd_t.mpr (h n (by omega) hp))]
        omega
      · rw [if_neg (fun q => hp (cd_t.mp q))]
        omega
end
section
/-! the mathematical state: a row of numbers, laid out as the reference lays it out -/
def ri (t w : Nat) : Nat := 16 + 6 * t + w
def un (G : Nat → Nat) (k x : Nat) : Nat → Nat := fun i => if i = k then x else G i
theorem un_s (G : Nat → Nat) (k x : Nat) : un G k x k = x := if_pos rfl
theorem un_n {G : Nat → Nat} {k x i : Nat} (h : i ≠ k) : un G k x i = G i := if_neg h
def sLive (G : Nat → Nat) (t : Nat) : Prop := t < G 0 ∧ 0 < G (ri t 0)
def sHome (G : Nat → Nat) (t : Nat) : Nat := (G (ri t 0) - 1) / 5
def sAge (G : Nat → Nat) (t : Nat) : Nat := G (4 + sHome G t)
/-- things of an age up to a -/
def sYoung (G : Nat → Nat) (a t : Nat) : Prop := sLive G t ∧ sAge G t ≤ a + 1
def sPin (G : Nat → Nat) (t : Nat) : Prop := sLive G t ∧ G (ri t 1) = 1
def sHeld (G : Nat → Nat) (t : Nat) : Prop := ∃ k, k < 4 ∧ G (12 + k) = t + 1
def sRoots (G : Nat → Nat) (t : Nat) : Prop := sHeld G t ∨ sPin G t
def sTied (G : Nat → Nat) (P : Nat → Prop) (j : Nat) : Prop := ∃ t k, t < G 0 ∧ k < 3 ∧ P t ∧ G (ri t (2 + k)) = j + 1
/-- the place p is empty -/
def sEmp (G : Nat → Nat) (p : Nat) : Prop := ∀ t, t < G 0 → G (ri t 0) ≠ p + 1
/-- room of an age (b: the age and 1): a place, and the row then -/
noncomputable def sRoom (G : Nat → Nat) (b : Nat) : Option (Nat × (Nat → Nat)) :=
  match fstN (fun h => G (4 + h) = b ∧ ∃ q, q < 5 ∧ sEmp G (5 * h + q)) 8 with
  | some h => (match fstN (fun q => sEmp G (5 * h + q)) 5 with
    | some q => some (5 * h + q, G)
    | none => none)
  | none => (match fstN (fun h => G (4 + h) = 0) 8 with
    | some h => some (5 * h, un G (4 + h) b)
    | none => none)
noncomputable def sFree (G : Nat → Nat) : Nat → Nat := fun i => if cd (4 ≤ i ∧ i < 12 ∧ ∀ q, q < 5 → sEmp G (5 * (i - 4) + q)) = true then 0 else G i
/-- what always holds of a row -/
def sInv (G : Nat → Nat) : Prop :=
  G 0 ≤ 30 ∧ (∀ t w, t < 30 → w < 6 → G 0 ≤ t → G (ri t w) = 0) ∧ (∀ t, t < 30 → G (ri t 0) ≤ 40) ∧ (∀ h, h < 8 → G (4 + h) ≤ 3) ∧
  (∀ k, k < 4 → G (12 + k) ≤ 30 ∧ (0 < G (12 + k) → sLive G (G (12 + k) - 1))) ∧
  (∀ t k, t < 30 → k < 3 → G (ri t (2 + k)) ≤ 30 ∧ (0 < G (ri t (2 + k)) → sLive G t ∧ sLive G (G (ri t (2 + k)) - 1))) ∧
  (∀ t u, sLive G t → sLive G u → G (ri t 0) = G (ri u 0) → t = u) ∧
  (∀ t, sLive G t → 0 < sAge G t) ∧
  (∀ t, t < 30 → G (ri t 1) ≤ 1 ∧ (0 < G (ri t 1) → sLive G t))
theorem sInv.c {G : Nat → Nat} (h : sInv G) : G 0 ≤ 30 := h.1
theorem sInv.z {G : Nat → Nat} (h : sInv G) {t w : Nat} (ht : t < 30) (hw : w < 6) (hc : G 0 ≤ t) : G (ri t w) = 0 := h.2.1 t w ht hw hc
theorem sInv.l {G : Nat → Nat} (h : sInv G) {t : Nat} (ht : t < 30) : G (ri t 0) ≤ 40 := h.2.2.1 t ht
theorem sInv.a {G : Nat → Nat} (h : sInv G) {k : Nat} (hk : k < 8) : G (4 + k) ≤ 3 := h.2.2.2.1 k hk
theorem sInv.h {G : Nat → Nat} (h : sInv G) {k : Nat} (hk : k < 4) : G (12 + k) ≤ 30 ∧ (0 < G (12 + k) → sLive G (G (12 + k) - 1)) := h.2.2.2.2.1 k hk
theorem sInv.t {G : Nat → Nat} (h : sInv G) {t k : Nat} (ht : t < 30) (hk : k < 3) : G (ri t (2 + k)) ≤ 30 ∧ (0 < G (ri t (2 + k)) → sLive G t ∧ sLive G (G (ri t (2 + k)) - 1)) := h.2.2.2.2.2.1 t k ht hk
theorem sInv.d {G : Nat → Nat} (h : sInv G) {t u : Nat} (ht : sLive G t) (hu : sLive G u) (e : G (ri t 0) = G (ri u 0)) : t = u := h.2.2.2.2.2.2.1 t u ht hu e
theorem sInv.g {G : Nat → Nat} (h : sInv G) {t : Nat} (ht : sLive G t) : 0 < sAge G t := h.2.2.2.2.2.2.2.1 t ht
theorem sInv.p {G : Nat → Nat} (h : sInv G) {t : Nat} (ht : t < 30) : G (ri t 1) ≤ 1 ∧ (0 < G (ri t 1) → sLive G t) := h.2.2.2.2.2.2.2.2 t ht
theorem sInv.lt {G : Nat → Nat} (h : sInv G) {t : Nat} (ht : sLive G t) : t < 30 := Nat.lt_of_lt_of_le ht.1 h.1
theorem sInv.ho {G : Nat → Nat} (h : sInv G) {t : Nat} (ht : t < 30) : sHome G t < 8 := by
  have := h.l ht
  unfold sHome
  omega
theorem sInv.ag {G : Nat → Nat} (h : sInv G) {t : Nat} (ht : t < 30) : sAge G t ≤ 3 := h.a (h.ho ht)
theorem sInv.yl {G : Nat → Nat} (h : sInv G) {a t : Nat} (ht : sYoung G a t) : t < G 0 := ht.1.1
/-- an argument that is a number below n, or isn't -/
theorem x_of {x : Int32} {n : Nat} (h0 : 0 ≤ x.toInt) (h1 : x.toInt < (n : Int)) (hn : n ≤ 2147483647) : ∃ k, k < n ∧ x = nI k := by
  refine ⟨x.toInt.toNat, by omega, ?_⟩
  apply Int32.toInt_inj.mp
  rw [tI_n (by omega)]
  omega
def cpN (G : Nat → Nat) (a b n : Nat) : Nat → Nat := fun j => if b ≤ j ∧ j < b + n then G (a + (j - b)) else G j
theorem cpN_0 (G : Nat → Nat) (a b : Nat) : cpN G a b 0 = G := by
  funext j
  unfold cpN
  rw [if_neg (by omega)]
theorem cpN_s {G : Nat → Nat} {a b i n : Nat} (hd : a + n ≤ b ∨ b + n ≤ a) (hi : i < n) : un (cpN G a b i) (b + i) (cpN G a b i (a + i)) = cpN G a b (i + 1) := by
  funext j
  unfold un cpN
  by_cases h : j = b + i
  · subst h
    rw [if_pos rfl, if_neg (by omega), if_pos (by omega)]
    congr 1
    omega
  · rw [if_neg h]
    by_cases h2 : b ≤ j ∧ j < b + i
    · rw [if_pos h2, if_pos (by omega)]
    · rw [if_neg h2, if_neg (by omega)]
theorem sRoom_in {G : Nat → Nat} {b h q : Nat} (h1 : fstN (fun h => G (4 + h) = b ∧ ∃ q, q < 5 ∧ sEmp G (5 * h + q)) 8 = some h) (h2 : fstN (fun q => sEmp G (5 * h + q)) 5 = some q) : sRoom G b = some (5 * h + q, G) := by
  unfold sRoom
  rw [h1]
  dsimp only
  rw [h2]
theorem sRoom_free {G : Nat → Nat} {b h : Nat} (h1 : fstN (fun h => G (4 + h) = b ∧ ∃ q, q < 5 ∧ sEmp G (5 * h + q)) 8 = none) (h2 : fstN (fun h => G (4 + h) = 0) 8 = some h) : sRoom G b = some (5 * h, un G (4 + h) b) := by
  unfold sRoom
  rw [h1]
  dsimp only
  rw [h2]
theorem sRoom_no {G : Nat → Nat} {b : Nat} (h1 : fstN (fun h => G (4 + h) = b ∧ ∃ q, q < 5 ∧ sEmp G (5 * h + q)) 8 = none) (h2 : fstN (fun h => G (4 + h) = 0) 8 = none) : sRoom G b = none := by
  unfold sRoom
  rw [h1]
  dsimp only
  rw [h2]
noncomputable def sFreeN (G : Nat → Nat) (n : Nat) : Nat → Nat := fun i => if cd (4 ≤ i ∧ i < 4 + n ∧ ∀ q, q < 5 → sEmp G (5 * (i - 4) + q)) = true then 0 else G i
theorem sFreeN_8 (G : Nat → Nat) : sFreeN G 8 = sFree G := rfl
theorem sFreeN_0 (G : Nat → Nat) : sFreeN G 0 = G := by
  funext i
  unfold sFreeN
  rw [if_neg (fun q => by have := cd_t.mp q; omega)]
theorem sFreeN_o {G : Nat → Nat} {n i : Nat} (h : i < 4 ∨ 4 + n ≤ i) : sFreeN G n i = G i := by
  unfold sFreeN
  rw [if_neg (fun q => by have := cd_t.mp q; omega)]
theorem sEmp_F {G : Nat → Nat} {n p : Nat} (hn : n ≤ 8) : sEmp (sFreeN G n) p ↔ sEmp G p := by
  unfold sEmp
  rw [sFreeN_o (by omega)]
  constructor
  · intro h t ht
    have := h t ht
    rwa [sFreeN_o (by unfold ri; omega)] at this
  · intro h t ht
    rw [sFreeN_o (by unfold ri; omega)]
    exact h t ht
theorem sFreeN_s1 {G : Nat → Nat} {n : Nat} (h : ∀ q, q < 5 → sEmp G (5 * n + q)) : un (sFreeN G n) (4 + n) 0 = sFreeN G (n + 1) := by
  funext i
  unfold un sFreeN
  by_cases e : i = 4 + n
  · subst e
    rw [if_pos rfl, if_pos (cd_t.mpr ⟨by omega, by omega, by rw [show 4 + n - 4 = n by omega]; exact h⟩)]
  · rw [if_neg e]
    by_cases c : 4 ≤ i ∧ i < 4 + n ∧ ∀ q, q < 5 → sEmp G (5 * (i - 4) + q)
    · rw [if_pos (cd_t.mpr c), if_pos (cd_t.mpr ⟨c.1, by omega, c.2.2⟩)]
    · rw [if_neg (fun q => c (cd_t.mp q)), if_neg (fun q => c (by have := cd_t.mp q; exact ⟨this.1, by omega, this.2.2⟩))]
theorem sFreeN_s0 {G : Nat → Nat} {n : Nat} (h : ¬ ∀ q, q < 5 → sEmp G (5 * n + q)) : un (sFreeN G n) (4 + n) (sFreeN G n (4 + n)) = sFreeN G (n + 1) := by
  funext i
  unfold un
  by_cases e : i = 4 + n
  · subst e
    rw [if_pos rfl, sFreeN_o (by omega)]
    unfold sFreeN
    rw [if_neg (fun q => h (by have := (cd_t.mp q).2.2; rwa [show 4 + n - 4 = n by omega] at this))]
  · rw [if_neg e]
    unfold sFreeN
    by_cases c : 4 ≤ i ∧ i < 4 + n ∧ ∀ q, q < 5 → sEmp G (5 * (i - 4) + q)
    · rw [if_pos (cd_t.mpr c), if_pos (cd_t.mpr ⟨c.1, by omega, c.2.2⟩)]
    · rw [if_neg (fun q => c (cd_t.mp q)), if_neg (fun q => c (by have := cd_t.mp q; exact ⟨this.1, by omega, this.2.2⟩))]
/-- the row (below 196) and what lies behind it -/
def jn (G Z : Nat → Nat) : Nat → Nat := fun i => if i < 196 then G i else Z i
theorem jn_lo {G Z : Nat → Nat} {i : Nat} (h : i < 196) : jn G Z i = G i := if_pos h
theorem jn_hi {G Z : Nat → Nat} {i : Nat} (h : 196 ≤ i) : jn G Z i = Z i := if_neg (by omega)
theorem jn_un {G Z : Nat → Nat} {k x : Nat} (h : k < 196) : un (jn G Z) k x = jn (un G k x) Z := by
  funext i
  unfold un jn
  by_cases e : i = k
  · subst e
    simp [h]
  · rw [if_neg e]
    by_cases c : i < 196
    · simp [c, e]
    · simp [c]
theorem un_id {G : Nat → Nat} {k x : Nat} (h : G k = x) : un G k x = G := by
  funext i
  unfold un
  split
  · next e => rw [e, h]
  · rfl
theorem sRoom_hi {G G' : Nat → Nat} {b p i : Nat} (h : sRoom G b = some (p, G')) (hi : 12 ≤ i ∨ i < 4) : G' i = G i := by
  unfold sRoom at h
  split at h
  · split at h
    · cases h; rfl
    · cases h
  · split at h
    · next k hk =>
      cases h
      have := (fstN_some.mp hk).1
      exact un_n (by omega)
    · cases h
theorem sRoom_lt {G G' : Nat → Nat} {b p : Nat} (h : sRoom G b = some (p, G')) : p < 40 := by
  unfold sRoom at h
  split at h
  · next k hk =>
    have h1 := (fstN_some.mp hk).1
    split at h
    · next q hq =>
      have h2 := (fstN_some.mp hq).1
      cases h
      omega
    · cases h
  · split at h
    · next k hk =>
      have h1 := (fstN_some.mp hk).1
      cases h
      omega
    · cases h
/-- what is reached, step by step -/
def rch (G : Nat → Nat) (I F : Nat → Prop) : Nat → (Nat → Prop) × (Nat → Prop)
  | 0 => (fun t => F t ∧ I t, fun t => F t ∧ I t)
  | n + 1 => (fun t => (rch G I F n).1 t ∨ ((sTied G (rch G I F n).2 t ∧ I t) ∧ ¬ (rch G I F n).1 t), fun t => (sTied G (rch G I F n).2 t ∧ I t) ∧ ¬ (rch G I F n).1 t)
def sReach (G : Nat → Nat) (I F : Nat → Prop) : Nat → Prop := (rch G I F 30).1
theorem rch_cnt {G : Nat → Nat} {I F : Nat → Prop} (hc : G 0 ≤ 30) : ∀ n, (∃ t, t < 30 ∧ (rch G I F n).2 t) → n + 1 ≤ cnt (rch G I F n).1 30 := by
  have c0 : ∀ m, cnt (fun _ => False) m = 0 := by
    intro m
    induction m with
    | zero => rfl
    | succ m ih =>
      simp only [cnt, ih]
      rw [if_neg (fun q => cd_t.mp q)]
  intro n
  induction n with
  | zero =>
    rintro ⟨t, ht, h⟩
    have := cnt_lt (P := fun _ => False) (R := (rch G I F 0).1) 30 (fun _ _ q => q.elim) ⟨t, ht, h, fun q => q⟩
    rw [c0] at this
    exact this
  | succ n ih =>
    rintro ⟨t, ht, h⟩
    obtain ⟨⟨⟨u, k, hu, hk, hm, hz⟩, hi⟩, hs⟩ := h
    have h1 := ih ⟨u, by omega, hm⟩
    have h2 := cnt_lt (P := (rch G I F n).1) (R := (rch G I F (n + 1)).1) 30 (fun _ _ q => Or.inl q) ⟨t, ht, Or.inr ⟨⟨⟨u, k, hu, hk, hm, hz⟩, hi⟩, hs⟩, hs⟩
    omega
theorem rch_30 {G : Nat → Nat} {I F : Nat → Prop} (hc : G 0 ≤ 30) {t : Nat} (ht : t < 30) : ¬ (rch G I F 30).2 t := by
  intro h
  have h1 := rch_cnt hc 30 ⟨t, ht, h⟩
  have h2 := cnt_le (rch G I F 30).1 30
  omega
theorem rch_end {G : Nat → Nat} {I F : Nat → Prop} (hc : G 0 ≤ 30) {n : Nat} (h : ∀ t, t < 30 → ¬ (rch G I F n).2 t) : ∀ d, (∀ t, t < 30 → ¬ (rch G I F (n + d)).2 t) ∧ ∀ t, t < 30 → ((rch G I F (n + d)).1 t ↔ (rch G I F n).1 t) := by
  intro d
  induction d with
  | zero => exact ⟨h, fun _ _ => Iff.rfl⟩
  | succ d ih =>
    have e : ∀ t, t < 30 → ¬ (rch G I F (n + d + 1)).2 t := by
      rintro t ht ⟨⟨⟨u, k, hu, hk, hm, -⟩, -⟩, -⟩
      exact ih.1 u (by omega) hm
    refine ⟨e, fun t ht => ?_⟩
    rw [← ih.2 t ht]
    exact ⟨fun q => q.elim (fun z => z) (fun z => absurd z (e t ht)), fun q => Or.inl q⟩
theorem sReach_at {G : Nat → Nat} {I F : Nat → Prop} (hc : G 0 ≤ 30) {n : Nat} (hn : n ≤ 30) (h : ∀ t, t < 30 → ¬ (rch G I F n).2 t) : mk (rch G I F n).1 = mk (sReach G I F) := by
  obtain ⟨d, hd⟩ := Nat.le.dest hn
  have h1 := (rch_end hc h d).2
  rw [hd] at h1
  exact mk_congr (fun t ht => (h1 t ht).symm)
def sAll (G : Nat → Nat) : Nat → Prop := sYoung G 2
def sNeed (G : Nat → Nat) : Nat → Prop := sReach G (sAll G) (sRoots G)
def sSurv (G : Nat → Nat) (a : Nat) : Nat → Prop := sReach G (sYoung G a) (fun t => sRoots G t ∨ sTied G (fun t => sAll G t ∧ ¬ sYoung G a t) t)
theorem sReach_I {G : Nat → Nat} {I F : Nat → Prop} {t : Nat} (h : sReach G I F t) : I t := by
  have key : ∀ n, (rch G I F n).1 t → I t := by
    intro n
    induction n with
    | zero => exact fun q => q.2
    | succ n ih => exact fun q => q.elim ih (fun z => z.1.2)
  exact key 30 h
/-- gone things -/
noncomputable def sWipe (G : Nat → Nat) (P : Nat → Prop) : Nat → Nat := fun i => if cd (∃ t w, t < G 0 ∧ P t ∧ w < 5 ∧ i = ri t w) = true then 0 else G i
noncomputable def sLose (G : Nat → Nat) (P : Nat → Prop) : Nat → Nat := sFree (sWipe G P)
noncomputable def sWipeN (G : Nat → Nat) (P : Nat → Prop) (n m : Nat) : Nat → Nat := fun i => if cd (∃ t w, (t < n ∧ w < 5 ∨ t = n ∧ w < m) ∧ P t ∧ i = ri t w) = true then 0 else G i
theorem sWipeN_lo {G : Nat → Nat} {P : Nat → Prop} {n m i : Nat} (h : i < 16) : sWipeN G P n m i = G i := by
  unfold sWipeN
  rw [if_neg]
  intro q
  obtain ⟨t, w, -, -, e⟩ := cd_t.mp q
  unfold ri at e
  omega
theorem sWipeN_s {G : Nat → Nat} {P : Nat → Prop} {n m : Nat} (hm : m < 5) (hp : P n) : un (sWipeN G P n m) (ri n m) 0 = sWipeN G P n (m + 1) := by
  funext i
  unfold un sWipeN
  by_cases e : i = ri n m
  · subst e
    rw [if_pos rfl, if_pos (cd_t.mpr ⟨n, m, Or.inr ⟨rfl, by omega⟩, hp, rfl⟩)]
  · rw [if_neg e]
    congr 2
    rw [Bool.eq_iff_iff, cd_t, cd_t]
    constructor
    · rintro ⟨t, w, h1, h2, h3⟩
      exact ⟨t, w, by omega, h2, h3⟩
    · rintro ⟨t, w, h1, h2, h3⟩
      refine ⟨t, w, ?_, h2, h3⟩
      rcases h1 with h1 | ⟨h1, h4⟩
      · exact Or.inl h1
      · refine Or.inr ⟨h1, ?_⟩
        have : w ≠ m := fun q => e (by rw [h3, h1, q])
        omega
theorem sWipeN_5 {G : Nat → Nat} {P : Nat → Prop} {n : Nat} : sWipeN G P n 5 = sWipeN G P (n + 1) 0 := by
  funext i
  unfold sWipeN
  congr 2
  rw [Bool.eq_iff_iff, cd_t, cd_t]
  constructor
  · rintro ⟨t, w, h1, h2, h3⟩
    exact ⟨t, w, by omega, h2, h3⟩
  · rintro ⟨t, w, h1, h2, h3⟩
    exact ⟨t, w, by omega, h2, h3⟩
theorem sWipeN_no {G : Nat → Nat} {P : Nat → Prop} {n : Nat} (hp : ¬ P n) : sWipeN G P n 0 = sWipeN G P (n + 1) 0 := by
  funext i
  unfold sWipeN
  congr 2
  rw [Bool.eq_iff_iff, cd_t, cd_t]
  constructor
  · rintro ⟨t, w, h1, h2, h3⟩
    exact ⟨t, w, by omega, h2, h3⟩
  · rintro ⟨t, w, h1, h2, h3⟩
    refine ⟨t, w, ?_, h2, h3⟩
    have : t ≠ n := fun q => hp (q ▸ h2)
    omega
theorem sWipeN_0 {G : Nat → Nat} {P : Nat → Prop} : sWipeN G P 0 0 = G := by
  funext i
  unfold sWipeN
  rw [if_neg]
  intro q
  obtain ⟨t, w, h1, -⟩ := cd_t.mp q
  omega
theorem sWipeN_e {G : Nat → Nat} {P : Nat → Prop} : sWipeN G P (G 0) 0 = sWipe G P := by
  funext i
  unfold sWipeN sWipe
  congr 2
  rw [Bool.eq_iff_iff, cd_t, cd_t]
  constructor
  · rintro ⟨t, w, h1, h2, h3⟩
    exact ⟨t, w, by omega, h2, by omega, h3⟩
  · rintro ⟨t, w, h1, h2, h3, h4⟩
    exact ⟨t, w, Or.inl ⟨h1, h3⟩, h2, h4⟩
/-- winters -/
noncomputable def sBump (G : Nat → Nat) (S : Nat → Prop) (n : Nat) : Nat → Nat := fun i => if cd (∃ t, t < n ∧ S t ∧ i = 4 + sHome G t) = true then G i + 1 else G i
theorem sBump_0 {G : Nat → Nat} {S : Nat → Prop} : sBump G S 0 = G := by
  funext i
  unfold sBump
  rw [if_neg]
  intro q
  obtain ⟨t, h, -⟩ := cd_t.mp q
  omega
theorem sBump_s {G : Nat → Nat} {S : Nat → Prop} {n : Nat} (h : S n) : un (sBump G S n) (4 + sHome G n) (G (4 + sHome G n) + 1) = sBump G S (n + 1) := by
  funext i
  unfold un sBump
  by_cases e : i = 4 + sHome G n
  · subst e
    rw [if_pos rfl, if_pos (cd_t.mpr ⟨n, by omega, h, rfl⟩)]
  · rw [if_neg e]
    congr 2
    rw [Bool.eq_iff_iff, cd_t, cd_t]
    constructor
    · rintro ⟨t, h1, h2, h3⟩
      exact ⟨t, by omega, h2, h3⟩
    · rintro ⟨t, h1, h2, h3⟩
      refine ⟨t, ?_, h2, h3⟩
      have : t ≠ n := fun q => e (by rw [h3, q])
      omega
theorem sBump_no {G : Nat → Nat} {S : Nat → Prop} {n : Nat} (h : ¬ S n) : sBump G S n = sBump G S (n + 1) := by
  funext i
  unfold sBump
  congr 2
  rw [Bool.eq_iff_iff, cd_t, cd_t]
  constructor
  · rintro ⟨t, h1, h2, h3⟩
    exact ⟨t, by omega, h2, h3⟩
  · rintro ⟨t, h1, h2, h3⟩
    refine ⟨t, ?_, h2, h3⟩
    have : t ≠ n := fun q => h (q ▸ h2)
    omega
theorem sBump_o {G : Nat → Nat} {S : Nat → Prop} {n i : Nat} (hh : ∀ t, S t → sHome G t < 8) (h : i < 4 ∨ 12 ≤ i) : sBump G S n i = G i := by
  unfold sBump
  rw [if_neg]
  intro q
  obtain ⟨t, -, h2, h3⟩ := cd_t.mp q
  have := hh t h2
  omega
/-- a thing has moved to the place p -/
def sStep (H : Nat → Nat) (t p : Nat) : Nat → Nat := un (un (un H (ri t 0) (p + 1)) (ri t 5) (H (ri t 5) + 1)) 3 (H 3 + 1)
noncomputable def sMv (G : Nat → Nat) (S M : Nat → Prop) : Nat → Option (Nat → Nat)
  | 0 => some (sBump G S (G 0))
  | n + 1 => match sMv G S M n with
    | none => none
    | some H => if cd (M n) = true then (match sRoom H (sAge G n + 1) with
      | none => none
      | some (p, H1) => some (sStep H1 n p)) else some H
def sStay (G : Nat → Nat) (a t : Nat) : Prop := sSurv G a t ∧ sPin G t
def sMove (G : Nat → Nat) (a t : Nat) : Prop := sSurv G a t ∧ ¬ sStay G a t
def sGone (G : Nat → Nat) (a t : Nat) : Prop := sYoung G a t ∧ ¬ sSurv G a t
noncomputable def sWin (G : Nat → Nat) (a : Nat) : Option (Nat → Nat) := match sMv G (sStay G a) (sMove G a) (G 0) with
  | none => none
  | some H => some (un (sLose H (sGone G a)) 1 (sLose H (sGone G a) 1 + 1))
theorem sFree_o {G : Nat → Nat} {i : Nat} (h : i < 4 ∨ 12 ≤ i) : sFree G i = G i := sFreeN_o (n := 8) (by omega)
theorem sWipe_o {G : Nat → Nat} {P : Nat → Prop} {i : Nat} (h : i < 16 ∨ 196 ≤ i) (hc : G 0 ≤ 30) : sWipe G P i = G i := by
  unfold sWipe
  rw [if_neg]
  intro q
  obtain ⟨t, w, h1, -, h2, e⟩ := cd_t.mp q
  unfold ri at e
  omega
theorem sLose_o {G : Nat → Nat} {P : Nat → Prop} {i : Nat} (h : i < 4 ∨ (12 ≤ i ∧ i < 16) ∨ 196 ≤ i) (hc : G 0 ≤ 30) : sLose G P i = G i := by
  unfold sLose
  rw [sFree_o (by omega), sWipe_o (by omega) hc]
/-- in the course of a winter -/
def sMid (G H : Nat → Nat) (n : Nat) : Prop := H 0 = G 0 ∧ (∀ t, t < 30 → H (ri t 0) ≤ 40) ∧ (∀ h, h < 8 → H (4 + h) ≤ 3) ∧ (∀ u, n ≤ u → u < 30 → H (ri u 0) = G (ri u 0)) ∧ ∀ i, 196 ≤ i → H i = G i
theorem sRoom_a {G G' : Nat → Nat} {b p : Nat} (h : sRoom G b = some (p, G')) (hb : b ≤ 3) (ha : ∀ h, h < 8 → G (4 + h) ≤ 3) : ∀ h, h < 8 → G' (4 + h) ≤ 3 := by
  unfold sRoom at h
  split at h
  · split at h
    · cases h; exact ha
    · cases h
  · split at h
    · next k hk =>
      cases h
      intro j hj
      unfold un
      split
      · exact hb
      · exact ha j hj
    · cases h
theorem sSurv_y {G : Nat → Nat} {a t : Nat} (h : sSurv G a t) : sYoung G a t := sReach_I h
theorem sMid_0 {G : Nat → Nat} {a : Nat} (hI : sInv G) (ha : a < 2) {n : Nat} : sMid G (sBump G (sStay G a) n) 0 := by
  have hh : ∀ t, sStay G a t → sHome G t < 8 := fun t h => hI.ho (hI.lt (sSurv_y h.1).1)
  refine ⟨sBump_o hh (by omega), fun t ht => ?_, fun h hh2 => ?_, fun u _ hu => ?_, fun i hi => sBump_o hh (by omega)⟩
  · rw [sBump_o hh (by unfold ri; omega)]
    exact hI.l ht
  · unfold sBump
    split
    · next q =>
      obtain ⟨t, h1, h2, h3⟩ := cd_t.mp q
      have h4 := (sSurv_y h2.1).2
      unfold sAge at h4
      rw [h3]
      omega
    · exact hI.a hh2
  · exact sBump_o hh (by unfold ri; omega)
theorem sMid_s {G H H1 : Nat → Nat} {n p : Nat} (hn : n < 30) (h : sMid G H n) (hr : sRoom H (sAge G n + 1) = some (p, H1)) (hb : sAge G n + 1 ≤ 3) : sMid G (sStep H1 n p) (n + 1) := by
  obtain ⟨h1, h2, h3, h4, h5⟩ := h
  have hp := sRoom_lt hr
  have hi : ∀ i, 12 ≤ i ∨ i < 4 → H1 i = H i := fun i hi => sRoom_hi hr hi
  have e : ∀ i, i ≠ ri n 0 → i ≠ ri n 5 → i ≠ 3 → sStep H1 n p i = H1 i := fun i e1 e2 e3 => by
    unfold sStep
    rw [un_n e3, un_n e2, un_n e1]
  refine ⟨?_, fun t ht => ?_, fun k hk => ?_, fun u hu hu2 => ?_, fun i hi2 => ?_⟩
  · rw [e 0 (by unfold ri; omega) (by unfold ri; omega) (by omega), hi 0 (by omega), h1]
  · by_cases c : t = n
    · subst c
      unfold sStep
      rw [un_n (by unfold ri; omega), un_n (by unfold ri; omega), un_s]
      omega
    · rw [e _ (by unfold ri; omega) (by unfold ri; omega) (by unfold ri; omega), hi _ (by unfold ri; omega)]
      exact h2 t ht
  · rw [e _ (by unfold ri; omega) (by unfold ri; omega) (by omega)]
    exact sRoom_a hr hb h3 k hk
  · rw [e _ (by unfold ri; omega) (by unfold ri; omega) (by unfold ri; omega), hi _ (by unfold ri; omega)]
    exact h4 u (by omega) hu2
  · rw [e _ (by unfold ri; omega) (by unfold ri; omega) (by omega), hi _ (by omega)]
    exact h5 i hi2
theorem sMid.no {G H : Nat → Nat} {n : Nat} (h : sMid G H n) : sMid G H (n + 1) := ⟨h.1, h.2.1, h.2.2.1, fun u hu hu2 => h.2.2.2.1 u (by omega) hu2, h.2.2.2.2⟩
theorem sMv_s1 {G H H1 : Nat → Nat} {S M : Nat → Prop} {n p : Nat} (h : sMv G S M n = some H) (hm : M n) (hr : sRoom H (sAge G n + 1) = some (p, H1)) : sMv G S M (n + 1) = some (sStep H1 n p) := by
  unfold sMv
  rw [h]
  dsimp only
  rw [if_pos (cd_t.mpr hm), hr]
theorem sMv_sn {G H : Nat → Nat} {S M : Nat → Prop} {n : Nat} (h : sMv G S M n = some H) (hm : M n) (hr : sRoom H (sAge G n + 1) = none) : sMv G S M (n + 1) = none := by
  unfold sMv
  rw [h]
  dsimp only
  rw [if_pos (cd_t.mpr hm), hr]
theorem sMv_s0 {G H : Nat → Nat} {S M : Nat → Prop} {n : Nat} (h : sMv G S M n = some H) (hm : ¬ M n) : sMv G S M (n + 1) = some H := by
  unfold sMv
  rw [h]
  dsimp only
  rw [if_neg (fun q => hm (cd_t.mp q))]
theorem sMv_none {G : Nat → Nat} {S M : Nat → Prop} {n : Nat} (h : sMv G S M n = none) : ∀ d, sMv G S M (n + d) = none := by
  intro d
  induction d with
  | zero => exact h
  | succ d ih =>
    show sMv G S M (n + d + 1) = none
    unfold sMv
    rw [ih]
theorem sWin_1 {G H : Nat → Nat} {a : Nat} (h : sMv G (sStay G a) (sMove G a) (G 0) = some H) : sWin G a = some (un (sLose H (sGone G a)) 1 (sLose H (sGone G a) 1 + 1)) := by
  unfold sWin
  rw [h]
theorem sWin_0 {G : Nat → Nat} {a n : Nat} (hn : n ≤ G 0) (h : sMv G (sStay G a) (sMove G a) n = none) : sWin G a = none := by
  obtain ⟨d, hd⟩ := Nat.le.dest hn
  have := sMv_none h d
  rw [hd] at this
  unfold sWin
  rw [this]
/-- a new thing -/
def sNew (G G1 : Nat → Nat) (p : Nat) : Nat → Nat := un (un G1 (ri (G 0) 0) (p + 1)) 0 (G 0 + 1)
def agC (G ag : Nat → Nat) (n : Nat) : Nat → Nat := fun i => if i < n then G (4 + i) else ag i
theorem agC_s {G ag : Nat → Nat} {n : Nat} : un (agC G ag n) n (G (4 + n)) = agC G ag (n + 1) := by
  funext i
  unfold un agC
  by_cases e : i = n
  · subst e
    rw [if_pos rfl, if_pos (by omega)]
  · rw [if_neg e]
    by_cases c : i < n
    · rw [if_pos c, if_pos (by omega)]
    · rw [if_neg c, if_neg (by omega)]
end
section
/-! what always holds stays -/
theorem sInv_light {G G' : Nat → Nat} (hI : sInv G) (h0 : ∀ i, i < 12 → i ≠ 1 → i ≠ 2 → i ≠ 3 → G' i = G i) (h1 : ∀ t, G' (ri t 0) = G (ri t 0)) (hh : ∀ k, k < 4 → G' (12 + k) ≤ 30 ∧ (0 < G' (12 + k) → sLive G (G' (12 + k) - 1))) (ht : ∀ t k, t < 30 → k < 3 → G' (ri t (2 + k)) ≤ 30 ∧ (0 < G' (ri t (2 + k)) → sLive G t ∧ sLive G (G' (ri t (2 + k)) - 1))) (hp : ∀ t, t < 30 → G' (ri t 1) ≤ 1 ∧ (0 < G' (ri t 1) → sLive G t)) (hz : ∀ t w, t < 30 → w < 6 → G 0 ≤ t → G' (ri t w) = 0) :
    sInv G' ∧ (∀ t, sLive G' t ↔ sLive G t) ∧ (∀ t, sHome G' t = sHome G t) ∧ ∀ t, t < 30 → sAge G' t = sAge G t := by
  have e0 : G' 0 = G 0 := h0 0 (by omega) (by omega) (by omega) (by omega)
  have hl : ∀ t, sLive G' t ↔ sLive G t := fun t => by unfold sLive; rw [e0, h1]
  have ho : ∀ t, sHome G' t = sHome G t := fun t => by unfold sHome; rw [h1]
  have hg : ∀ t, t < 30 → sAge G' t = sAge G t := fun t h => by
    have := hI.ho h
    unfold sAge
    rw [ho, h0 _ (by omega) (by omega) (by omega) (by omega)]
  refine ⟨⟨by rw [e0]; exact hI.c, fun t w a b c => hz t w a b (by rw [← e0]; exact c), fun t h => by rw [h1]; exact hI.l h, fun h hh => by rw [h0 _ (by omega) (by omega) (by omega) (by omega)]; exact hI.a hh, fun k hk => ⟨(hh k hk).1, fun q => (hl _).mpr ((hh k hk).2 q)⟩, fun t k a b => ⟨(ht t k a b).1, fun q => ⟨(hl _).mpr ((ht t k a b).2 q).1, (hl _).mpr ((ht t k a b).2 q).2⟩⟩, fun t u a b c => ?_, fun t a => ?_, fun t a => ⟨(hp t a).1, fun q => (hl _).mpr ((hp t a).2 q)⟩⟩, hl, ho, hg⟩
  · rw [h1, h1] at c
    exact hI.d ((hl t).mp a) ((hl u).mp b) c
  · have a' := (hl t).mp a
    rw [hg t (hI.lt a')]
    exact hI.g a'
theorem ri_inj {t u w v : Nat} (hw : w < 6) (hv : v < 6) (h : ri t w = ri u v) : t = u ∧ w = v := by
  unfold ri at h
  omega
theorem ri_ge (t w : Nat) : 16 ≤ ri t w := by unfold ri; omega
theorem ri_ne {t u w v : Nat} (hw : w < 6) (hv : v < 6) (h : w ≠ v) : ri t w ≠ ri u v := fun q => h (ri_inj hw hv q).2
/-- a hand -/
theorem sInv_hand {G : Nat → Nat} {h x : Nat} (hI : sInv G) (hh : h < 4) (hx : x ≤ 30) (hx2 : 0 < x → sLive G (x - 1)) : sInv (un G (12 + h) x) ∧ (∀ t, sLive (un G (12 + h) x) t ↔ sLive G t) ∧ (∀ t, sHome (un G (12 + h) x) t = sHome G t) ∧ ∀ t, t < 30 → sAge (un G (12 + h) x) t = sAge G t := by
  have e : ∀ t w, un G (12 + h) x (ri t w) = G (ri t w) := fun t w => un_n (by unfold ri; omega)
  refine sInv_light hI (fun i hi _ _ _ => un_n (by omega)) (fun t => e t 0) (fun k hk => ?_) (fun t k a b => by rw [e]; exact hI.t a b) (fun t a => by rw [e]; exact hI.p a) (fun t w a b c => by rw [e]; exact hI.z a b c)
  by_cases q : k = h
  · subst q
    rw [un_s]
    exact ⟨hx, hx2⟩
  · rw [un_n (by omega)]
    exact hI.h hk
/-- a string -/
theorem sInv_tie {G : Nat → Nat} {t s x : Nat} (hI : sInv G) (hl : sLive G t) (hs : s < 3) (hx : x ≤ 30) (hx2 : 0 < x → sLive G (x - 1)) : sInv (un G (ri t (2 + s)) x) ∧ (∀ u, sLive (un G (ri t (2 + s)) x) u ↔ sLive G u) ∧ (∀ u, sHome (un G (ri t (2 + s)) x) u = sHome G u) ∧ ∀ u, u < 30 → sAge (un G (ri t (2 + s)) x) u = sAge G u := by
  have ht := hI.lt hl
  have hr := ri_ge t (2 + s)
  refine sInv_light hI (fun i hi _ _ _ => un_n (by omega)) (fun u => un_n (ri_ne (by omega) (by omega) (by omega))) (fun k hk => ?_) (fun u k a b => ?_) (fun u a => ?_) (fun u w a b c => ?_)
  · rw [un_n (by omega)]
    exact hI.h hk
  · by_cases q : ri u (2 + k) = ri t (2 + s)
    · have q2 := ri_inj (by omega) (by omega) q
      rw [q, un_s, q2.1]
      exact ⟨hx, fun z => ⟨hl, hx2 z⟩⟩
    · rw [un_n q]
      exact hI.t a b
  · rw [un_n (ri_ne (by omega) (by omega) (by omega))]
    exact hI.p a
  · have := hl.1
    rw [un_n (fun q => by have := (ri_inj (by omega) (by omega) q).1; omega)]
    exact hI.z a b c
/-- a pin -/
theorem sInv_pin {G : Nat → Nat} {t x : Nat} (hI : sInv G) (hl : sLive G t) (hx : x ≤ 1) : sInv (un G (ri t 1) x) ∧ (∀ u, sLive (un G (ri t 1) x) u ↔ sLive G u) ∧ (∀ u, sHome (un G (ri t 1) x) u = sHome G u) ∧ ∀ u, u < 30 → sAge (un G (ri t 1) x) u = sAge G u := by
  have ht := hI.lt hl
  have hr := ri_ge t 1
  refine sInv_light hI (fun i hi _ _ _ => un_n (by omega)) (fun u => un_n (ri_ne (by omega) (by omega) (by omega))) (fun k hk => ?_) (fun u k a b => ?_) (fun u a => ?_) (fun u w a b c => ?_)
  · rw [un_n (by omega)]
    exact hI.h hk
  · rw [un_n (ri_ne (by omega) (by omega) (by omega))]
    exact hI.t a b
  · by_cases q : ri u 1 = ri t 1
    · have q2 := ri_inj (by omega) (by omega) q
      rw [q, un_s, q2.1]
      exact ⟨hx, fun z => hl⟩
    · rw [un_n q]
      exact hI.p a
  · have := hl.1
    rw [un_n (fun q => by have := (ri_inj (by omega) (by omega) q).1; omega)]
    exact hI.z a b c
theorem sRoom_spec {G G1 : Nat → Nat} {b p : Nat} (hI : sInv G) (hb : 0 < b) (h : sRoom G b = some (p, G1)) : p < 40 ∧ sEmp G p ∧ G1 (4 + p / 5) = b ∧ (∀ i, i ≠ 4 + p / 5 → G1 i = G i) ∧ (G (4 + p / 5) = b ∨ G (4 + p / 5) = 0) := by
  refine ⟨sRoom_lt h, ?_⟩
  unfold sRoom at h
  split at h
  · next k hk =>
    have h1 := fstN_some.mp hk
    split at h
    · next q hq =>
      have h2 := fstN_some.mp hq
      cases h
      have e : (5 * k + q) / 5 = k := by omega
      rw [e]
      exact ⟨h2.2.1, h1.2.1.1, fun _ _ => rfl, Or.inl h1.2.1.1⟩
    · cases h
  · split at h
    · next k hk =>
      have h1 := fstN_some.mp hk
      cases h
      have e : 5 * k / 5 = k := by omega
      rw [e]
      refine ⟨fun t ht q => ?_, un_s _ _ _, fun i hi => un_n hi, Or.inr h1.2.1⟩
      have hl : sLive G t := ⟨ht, by omega⟩
      have hg := hI.g hl
      have hho : sHome G t = k := by unfold sHome; omega
      unfold sAge at hg
      rw [hho, h1.2.1] at hg
      omega
    · cases h
theorem sInv_new {G G1 : Nat → Nat} {p : Nat} (hI : sInv G) (hc : G 0 < 30) (h : sRoom G 1 = some (p, G1)) : sInv (sNew G G1 p) ∧ (∀ t, sLive (sNew G G1 p) t ↔ sLive G t ∨ t = G 0) ∧ (∀ t, t ≠ G 0 → sHome (sNew G G1 p) t = sHome G t) ∧ sHome (sNew G G1 p) (G 0) = p / 5 ∧ (∀ t, sLive G t → sAge (sNew G G1 p) t = sAge G t) ∧ sAge (sNew G G1 p) (G 0) = 1 := by
  obtain ⟨hp, he, ha, ho, hb⟩ := sRoom_spec hI (by omega) h
  have e0 : sNew G G1 p 0 = G 0 + 1 := un_s _ _ _
  have en : sNew G G1 p (ri (G 0) 0) = p + 1 := by unfold sNew; rw [un_n (by unfold ri; omega), un_s]
  have eo : ∀ i, i ≠ 0 → i ≠ ri (G 0) 0 → i ≠ 4 + p / 5 → sNew G G1 p i = G i := fun i h1 h2 h3 => by unfold sNew; rw [un_n h1, un_n h2, ho i h3]
  have ea : sNew G G1 p (4 + p / 5) = 1 := by unfold sNew; rw [un_n (by omega), un_n (by have := ri_ge (G 0) 0; omega), ha]
  have er : ∀ t w, (t ≠ G 0 ∨ w ≠ 0) → w < 6 → sNew G G1 p (ri t w) = G (ri t w) := fun t w h1 h2 => eo _ (by have := ri_ge t w; omega) (fun q => by have := ri_inj h2 (by omega) q; omega) (by have := ri_ge t w; omega)
  have hnl : ¬ sLive G (G 0) := fun q => by have := q.1; omega
  have hl : ∀ t, sLive (sNew G G1 p) t ↔ sLive G t ∨ t = G 0 := by
    intro t
    by_cases q : t = G 0
    · subst q
      unfold sLive
      rw [e0, en]
      exact ⟨fun _ => Or.inr rfl, fun _ => ⟨by omega, by omega⟩⟩
    · unfold sLive
      rw [e0, er t 0 (Or.inl q) (by omega)]
      constructor
      · rintro ⟨h1, h2⟩
        exact Or.inl ⟨by omega, h2⟩
      · rintro (⟨h1, h2⟩ | h1)
        · exact ⟨by omega, h2⟩
        · exact absurd h1 q
  have hho : ∀ t, t ≠ G 0 → sHome (sNew G G1 p) t = sHome G t := fun t q => by unfold sHome; rw [er t 0 (Or.inl q) (by omega)]
  have hhn : sHome (sNew G G1 p) (G 0) = p / 5 := by unfold sHome; rw [en]; omega
  have hag : ∀ t, sLive G t → sAge (sNew G G1 p) t = sAge G t := by
    intro t ht
    have q : t ≠ G 0 := by have := ht.1; omega
    unfold sAge
    rw [hho t q]
    have h8 := hI.ho (hI.lt ht)
    by_cases c : 4 + sHome G t = 4 + p / 5
    · rw [c, ea]
      have hg := hI.g ht
      unfold sAge at hg
      rw [c] at hg
      omega
    · exact eo _ (by omega) (by have := ri_ge (G 0) 0; omega) c
  have hagn : sAge (sNew G G1 p) (G 0) = 1 := by unfold sAge; rw [hhn, ea]
  refine ⟨⟨by rw [e0]; omega, fun t w a b c => ?_, fun t a => ?_, fun k a => ?_, fun k a => ?_, fun t k a b => ?_, fun t u a b c => ?_, fun t a => ?_, fun t a => ?_⟩, hl, hho, hhn, hag, hagn⟩
  · rw [e0] at c
    rw [er t w (Or.inl (by omega)) b]
    exact hI.z a b (by omega)
  · by_cases q : t = G 0
    · rw [q, en]
      omega
    · rw [er t 0 (Or.inl q) (by omega)]
      exact hI.l a
  · by_cases q : 4 + k = 4 + p / 5
    · rw [q, ea]
      omega
    · rw [eo _ (by omega) (by have := ri_ge (G 0) 0; omega) q]
      exact hI.a a
  · rw [eo _ (by omega) (by have := ri_ge (G 0) 0; omega) (by omega)]
    exact ⟨(hI.h a).1, fun q => (hl _).mpr (Or.inl ((hI.h a).2 q))⟩
  · rw [er t _ (Or.inr (by omega)) (by omega)]
    exact ⟨(hI.t a b).1, fun q => ⟨(hl _).mpr (Or.inl ((hI.t a b).2 q).1), (hl _).mpr (Or.inl ((hI.t a b).2 q).2)⟩⟩
  · rcases (hl t).mp a with a | a
    · have q1 : t ≠ G 0 := by have := a.1; omega
      rcases (hl u).mp b with b | b
      · have q2 : u ≠ G 0 := by have := b.1; omega
        rw [er t 0 (Or.inl q1) (by omega), er u 0 (Or.inl q2) (by omega)] at c
        exact hI.d a b c
      · rw [b, en, er t 0 (Or.inl q1) (by omega)] at c
        exact absurd c (he t a.1)
    · rcases (hl u).mp b with b | b
      · have q2 : u ≠ G 0 := by have := b.1; omega
        rw [a, en, er u 0 (Or.inl q2) (by omega)] at c
        exact absurd c.symm (he u b.1)
      · rw [a, b]
  · rcases (hl t).mp a with a | a
    · rw [hag t a]
      exact hI.g a
    · rw [a, hagn]
      omega
  · rw [er t 1 (Or.inr (by omega)) (by omega)]
    exact ⟨(hI.p a).1, fun q => (hl _).mpr (Or.inl ((hI.p a).2 q))⟩
end
section
/-! winters and full turns keep what always holds -/
theorem rch_in {G : Nat → Nat} {I F : Nat → Prop} : ∀ n t, (rch G I F n).1 t → ∃ m, m ≤ n ∧ (rch G I F m).2 t := by
  intro n
  induction n with
  | zero => exact fun t h => ⟨0, Nat.le_refl _, h⟩
  | succ n ih =>
    rintro t (h | h)
    · obtain ⟨m, h1, h2⟩ := ih t h
      exact ⟨m, by omega, h2⟩
    · exact ⟨n + 1, Nat.le_refl _, h⟩
theorem rch_up {G : Nat → Nat} {I F : Nat → Prop} {n : Nat} : ∀ d t, (rch G I F n).1 t → (rch G I F (n + d)).1 t := by
  intro d
  induction d with
  | zero => exact fun t h => h
  | succ d ih => exact fun t h => Or.inl (ih t h)
theorem sReach_F {G : Nat → Nat} {I F : Nat → Prop} {t : Nat} (h1 : F t) (h2 : I t) : sReach G I F t := by
  have := rch_up (G := G) (I := I) (F := F) (n := 0) 30 t ⟨h1, h2⟩
  rwa [Nat.zero_add] at this
theorem sReach_T {G : Nat → Nat} {I F : Nat → Prop} (hc : G 0 ≤ 30) {t u k : Nat} (hu : u < G 0) (hk : k < 3) (h : sReach G I F u) (ht : G (ri u (2 + k)) = t + 1) (hi : I t) : sReach G I F t := by
  obtain ⟨m, hm, h2⟩ := rch_in 30 u h
  by_cases q : m = 30
  · subst q
    exact absurd h2 (rch_30 hc (by omega))
  · have h3 : (rch G I F (m + 1)).1 t := by
      by_cases c : (rch G I F m).1 t
      · exact Or.inl c
      · exact Or.inr ⟨⟨⟨u, k, hu, hk, h2, ht⟩, hi⟩, c⟩
    have := rch_up (30 - (m + 1)) t h3
    rwa [show m + 1 + (30 - (m + 1)) = 30 by omega] at this
/-- houses grow older -/
theorem sInv_bump {G : Nat → Nat} {S : Nat → Prop} {n : Nat} (hI : sInv G) (hS : ∀ t, S t → sLive G t ∧ sAge G t ≤ 2) : sInv (sBump G S n) ∧ (∀ t, sLive (sBump G S n) t ↔ sLive G t) ∧ ∀ i, (i < 4 ∨ 12 ≤ i) → sBump G S n i = G i := by
  have hh : ∀ t, S t → sHome G t < 8 := fun t h => hI.ho (hI.lt (hS t h).1)
  have eo : ∀ i, (i < 4 ∨ 12 ≤ i) → sBump G S n i = G i := fun i hi => sBump_o hh hi
  have er : ∀ t w, sBump G S n (ri t w) = G (ri t w) := fun t w => eo _ (by have := ri_ge t w; omega)
  have e0 := eo 0 (by omega)
  have hl : ∀ t, sLive (sBump G S n) t ↔ sLive G t := fun t => by unfold sLive; rw [e0, er]
  have ho : ∀ t, sHome (sBump G S n) t = sHome G t := fun t => by unfold sHome; rw [er]
  refine ⟨⟨by rw [e0]; exact hI.c, fun t w a b c => by rw [er]; exact hI.z a b (by rw [← e0]; exact c), fun t h => by rw [er]; exact hI.l h, fun k hk => ?_, fun k hk => ?_, fun t k a b => ?_, fun t u a b c => ?_, fun t a => ?_, fun t a => ?_⟩, hl, eo⟩
  · unfold sBump
    split
    · next q =>
      obtain ⟨t, -, h2, h3⟩ := cd_t.mp q
      have h4 := (hS t h2).2
      unfold sAge at h4
      rw [h3]
      omega
    · exact hI.a hk
  · rw [eo _ (by omega)]
    exact ⟨(hI.h hk).1, fun q => (hl _).mpr ((hI.h hk).2 q)⟩
  · rw [er]
    exact ⟨(hI.t a b).1, fun q => ⟨(hl _).mpr ((hI.t a b).2 q).1, (hl _).mpr ((hI.t a b).2 q).2⟩⟩
  · rw [er, er] at c
    exact hI.d ((hl t).mp a) ((hl u).mp b) c
  · have hg := hI.g ((hl t).mp a)
    unfold sAge at hg ⊢
    rw [ho]
    unfold sBump
    split <;> omega
  · rw [er]
    exact ⟨(hI.p a).1, fun q => (hl _).mpr ((hI.p a).2 q)⟩
/-- a thing moves -/
theorem sInv_step {H H1 : Nat → Nat} {n p b : Nat} (hI : sInv H) (hl : sLive H n) (hb : 0 < b) (hb2 : b ≤ 3) (h : sRoom H b = some (p, H1)) : sInv (sStep H1 n p) ∧ (∀ t, sLive (sStep H1 n p) t ↔ sLive H t) ∧ (∀ i, 12 ≤ i → i ≠ ri n 0 → i ≠ ri n 5 → sStep H1 n p i = H i) ∧ (∀ i, i < 3 → sStep H1 n p i = H i) ∧ sStep H1 n p (ri n 0) = p + 1 ∧ (∀ t, t ≠ n → sLive H t → sHome (sStep H1 n p) t = sHome H t ∧ sAge (sStep H1 n p) t = sAge H t) ∧ sAge (sStep H1 n p) n = b := by
  obtain ⟨hp, he, ha, ho, hbb⟩ := sRoom_spec hI hb h
  have hn := hI.lt hl
  have r0 := ri_ge n 0
  have r5 := ri_ge n 5
  have en : sStep H1 n p (ri n 0) = p + 1 := by unfold sStep; rw [un_n (by omega), un_n (ri_ne (by omega) (by omega) (by omega)), un_s]
  have eo : ∀ i, i ≠ 3 → i ≠ ri n 0 → i ≠ ri n 5 → i ≠ 4 + p / 5 → sStep H1 n p i = H i := fun i h0 h1 h2 h3 => by unfold sStep; rw [un_n h0, un_n h2, un_n h1, ho i h3]
  have ea : sStep H1 n p (4 + p / 5) = b := by unfold sStep; rw [un_n (by omega), un_n (by omega), un_n (by omega), ha]
  have er : ∀ t w, (t ≠ n ∨ (w ≠ 0 ∧ w ≠ 5)) → w < 6 → sStep H1 n p (ri t w) = H (ri t w) := fun t w h1 h2 => by
    have := ri_ge t w
    exact eo _ (by omega) (fun q => by have := ri_inj h2 (by omega) q; omega) (fun q => by have := ri_inj h2 (by omega) q; omega) (by omega)
  have e0 : sStep H1 n p 0 = H 0 := eo 0 (by omega) (by omega) (by omega) (by omega)
  have hlv : ∀ t, sLive (sStep H1 n p) t ↔ sLive H t := by
    intro t
    unfold sLive
    rw [e0]
    by_cases q : t = n
    · subst q
      rw [en]
      exact ⟨fun _ => hl, fun _ => ⟨hl.1, by omega⟩⟩
    · rw [er t 0 (Or.inl q) (by omega)]
  have hag : ∀ t, t ≠ n → sLive H t → sHome (sStep H1 n p) t = sHome H t ∧ sAge (sStep H1 n p) t = sAge H t := by
    intro t q ht
    have e1 : sHome (sStep H1 n p) t = sHome H t := by unfold sHome; rw [er t 0 (Or.inl q) (by omega)]
    refine ⟨e1, ?_⟩
    have h8 := hI.ho (hI.lt ht)
    unfold sAge
    rw [e1]
    by_cases c : 4 + sHome H t = 4 + p / 5
    · rw [c, ea]
      have hg := hI.g ht
      unfold sAge at hg
      rw [c] at hg
      omega
    · exact eo _ (by omega) (by omega) (by omega) c
  have hgn : sAge (sStep H1 n p) n = b := by
    unfold sAge sHome
    rw [en, show (p + 1 - 1) / 5 = p / 5 by omega, ea]
  refine ⟨⟨by rw [e0]; exact hI.c, fun t w a b2 c => ?_, fun t a => ?_, fun k a => ?_, fun k a => ?_, fun t k a b2 => ?_, fun t u a b2 c => ?_, fun t a => ?_, fun t a => ?_⟩, hlv, fun i h1 h2 h3 => eo i (by omega) h2 h3 (by omega), fun i h1 => eo i (by omega) (by omega) (by omega) (by omega), en, hag, hgn⟩
  · rw [e0] at c
    have := hl.1
    rw [er t w (Or.inl (by omega)) b2]
    exact hI.z a b2 c
  · by_cases q : t = n
    · rw [q, en]
      omega
    · rw [er t 0 (Or.inl q) (by omega)]
      exact hI.l a
  · by_cases q : 4 + k = 4 + p / 5
    · rw [q, ea]
      exact hb2
    · rw [eo _ (by omega) (by omega) (by omega) q]
      exact hI.a a
  · rw [eo _ (by omega) (by omega) (by omega) (by omega)]
    exact ⟨(hI.h a).1, fun q => (hlv _).mpr ((hI.h a).2 q)⟩
  · rw [er t _ (Or.inr (by omega)) (by omega)]
    exact ⟨(hI.t a b2).1, fun q => ⟨(hlv _).mpr ((hI.t a b2).2 q).1, (hlv _).mpr ((hI.t a b2).2 q).2⟩⟩
  · have a' := (hlv t).mp a
    have b' := (hlv u).mp b2
    by_cases q1 : t = n
    · by_cases q2 : u = n
      · rw [q1, q2]
      · rw [q1, en, er u 0 (Or.inl q2) (by omega)] at c
        exact absurd c.symm (he u b'.1)
    · by_cases q2 : u = n
      · rw [q2, en, er t 0 (Or.inl q1) (by omega)] at c
        exact absurd c (he t a'.1)
      · rw [er t 0 (Or.inl q1) (by omega), er u 0 (Or.inl q2) (by omega)] at c
        exact hI.d a' b' c
  · by_cases q : t = n
    · rw [q, hgn]
      exact hb
    · rw [(hag t q ((hlv t).mp a)).2]
      exact hI.g ((hlv t).mp a)
  · rw [er t 1 (Or.inr (by omega)) (by omega)]
    exact ⟨(hI.p a).1, fun q => (hlv _).mpr ((hI.p a).2 q)⟩
/-- things are gone -/
theorem sWipe_e {G : Nat → Nat} {P : Nat → Prop} {t w : Nat} (ht : t < G 0) (hw : w < 5) (hp : P t) : sWipe G P (ri t w) = 0 := by
  unfold sWipe
  rw [if_pos (cd_t.mpr ⟨t, w, ht, hp, hw, rfl⟩)]
theorem sWipe_k {G : Nat → Nat} {P : Nat → Prop} {t w : Nat} (hw : w < 6) (hp : ¬ P t ∨ w = 5) : sWipe G P (ri t w) = G (ri t w) := by
  unfold sWipe
  rw [if_neg]
  intro q
  obtain ⟨u, v, -, h2, h3, e⟩ := cd_t.mp q
  have := ri_inj hw (by omega) e
  rcases hp with hp | hp
  · exact hp (this.1 ▸ h2)
  · omega
theorem sLose_r {G : Nat → Nat} {P : Nat → Prop} {i : Nat} (h : i < 4 ∨ 12 ≤ i) : sLose G P i = sWipe G P i := sFree_o h
theorem sLose_l {G : Nat → Nat} {P : Nat → Prop} (hc : G 0 ≤ 30) : ∀ t, sLive (sLose G P) t ↔ sLive G t ∧ ¬ P t := by
  intro t
  unfold sLive
  rw [sLose_o (by omega) hc, sLose_r (by have := ri_ge t 0; omega)]
  constructor
  · rintro ⟨h1, h2⟩
    have hp : ¬ P t := fun q => by rw [sWipe_e h1 (by omega) q] at h2; omega
    rw [sWipe_k (by omega) (Or.inl hp)] at h2
    exact ⟨⟨h1, h2⟩, hp⟩
  · rintro ⟨⟨h1, h2⟩, hp⟩
    rw [sWipe_k (by omega) (Or.inl hp)]
    exact ⟨h1, h2⟩
theorem sInv_lose {G : Nat → Nat} {P : Nat → Prop} (hI : sInv G) (hh : ∀ k, k < 4 → 0 < G (12 + k) → ¬ P (G (12 + k) - 1)) (ht : ∀ t k, t < 30 → k < 3 → ¬ P t → 0 < G (ri t (2 + k)) → ¬ P (G (ri t (2 + k)) - 1)) : sInv (sLose G P) ∧ (∀ t, sLive (sLose G P) t → sHome (sLose G P) t = sHome G t ∧ sAge (sLose G P) t = sAge G t) := by
  have hc := hI.c
  have hl := sLose_l (P := P) hc
  have e0 : sLose G P 0 = G 0 := sLose_o (by omega) hc
  have er : ∀ t w, sLose G P (ri t w) = sWipe G P (ri t w) := fun t w => sLose_r (by have := ri_ge t w; omega)
  have ele : ∀ i, sWipe G P i ≤ G i := fun i => by unfold sWipe; split <;> omega
  have ho : ∀ t, sLive (sLose G P) t → sHome (sLose G P) t = sHome G t := fun t h => by
    unfold sHome
    rw [er, sWipe_k (by omega) (Or.inl ((hl t).mp h).2)]
  have hg : ∀ t, sLive (sLose G P) t → sAge (sLose G P) t = sAge G t := fun t h => by
    have h1 := (hl t).mp h
    have h8 := hI.ho (hI.lt h1.1)
    unfold sAge
    rw [ho t h]
    unfold sLose sFree
    rw [if_neg]
    · exact sWipe_o (by omega) hc
    · intro q
      obtain ⟨-, -, q3⟩ := cd_t.mp q
      have hz := h1.1.2
      have := q3 ((G (ri t 0) - 1) % 5) (by omega) t (by rw [sWipe_o (by omega) hc]; exact h1.1.1)
      rw [sWipe_k (by omega) (Or.inl h1.2)] at this
      apply this
      unfold sHome
      omega
  refine ⟨⟨by rw [e0]; exact hc, fun t w a b c => ?_, fun t a => ?_, fun k a => ?_, fun k a => ?_, fun t k a b => ?_, fun t u a b c => ?_, fun t a => ?_, fun t a => ?_⟩, fun t h => ⟨ho t h, hg t h⟩⟩
  · rw [e0] at c
    have := ele (ri t w)
    rw [hI.z a b c] at this
    rw [er]
    omega
  · rw [er]
    exact Nat.le_trans (ele _) (hI.l a)
  · have h1 := ele (4 + k)
    have h2 := hI.a a
    unfold sLose sFree
    split <;> omega
  · rw [sLose_o (by omega) hc]
    exact ⟨(hI.h a).1, fun q => (hl _).mpr ⟨(hI.h a).2 q, hh k a q⟩⟩
  · rw [er]
    have h1 := hI.t a b
    refine ⟨Nat.le_trans (ele _) h1.1, fun q => ?_⟩
    have q2 : 0 < G (ri t (2 + k)) := Nat.lt_of_lt_of_le q (ele _)
    have hp : ¬ P t := fun z => by
      rw [sWipe_e (h1.2 q2).1.1 (by omega) z] at q
      omega
    rw [sWipe_k (by omega) (Or.inl hp)]
    exact ⟨(hl _).mpr ⟨(h1.2 q2).1, hp⟩, (hl _).mpr ⟨(h1.2 q2).2, ht t k a b hp q2⟩⟩
  · have a' := (hl t).mp a
    have b' := (hl u).mp b
    rw [er, er, sWipe_k (by omega) (Or.inl a'.2), sWipe_k (by omega) (Or.inl b'.2)] at c
    exact hI.d a'.1 b'.1 c
  · rw [hg t a]
    exact hI.g ((hl t).mp a).1
  · rw [er]
    have h1 := hI.p a
    refine ⟨Nat.le_trans (ele _) h1.1, fun q => ?_⟩
    have q2 : 0 < G (ri t 1) := Nat.lt_of_lt_of_le q (ele _)
    refine (hl _).mpr ⟨h1.2 q2, fun z => ?_⟩
    rw [sWipe_e (h1.2 q2).1 (by omega) z] at q
    omega
/-- counters -/
theorem sInv_cnt {G : Nat → Nat} {k x : Nat} (hI : sInv G) (hk : k = 1 ∨ k = 2 ∨ k = 3) : sInv (un G k x) ∧ (∀ t, sLive (un G k x) t ↔ sLive G t) ∧ (∀ t, sHome (un G k x) t = sHome G t) ∧ ∀ t, t < 30 → sAge (un G k x) t = sAge G t :=
  sInv_light hI (fun i hi a b c => un_n (by omega)) (fun t => un_n (by have := ri_ge t 0; omega)) (fun j hj => by rw [un_n (by omega)]; exact hI.h hj) (fun t j a b => by rw [un_n (by have := ri_ge t (2 + j); omega)]; exact hI.t a b) (fun t a => by rw [un_n (by have := ri_ge t 1; omega)]; exact hI.p a) (fun t w a b c => by rw [un_n (by have := ri_ge t w; omega)]; exact hI.z a b c)
theorem sAll_l {G : Nat → Nat} (hI : sInv G) {t : Nat} : sAll G t ↔ sLive G t := by
  constructor
  · exact fun h => h.1
  · intro h
    have := hI.ag (hI.lt h)
    exact ⟨h, by omega⟩
/-- the course of a winter -/
theorem sMv_inv {G : Nat → Nat} {a : Nat} (hI : sInv G) (ha : a < 2) : ∀ n H, n ≤ G 0 → sMv G (sStay G a) (sMove G a) n = some H → sInv H ∧ (∀ t, sLive H t ↔ sLive G t) ∧ (∀ i, i < 3 → H i = G i) ∧ (∀ i, 12 ≤ i → (∀ t, i ≠ ri t 0) → (∀ t, i ≠ ri t 5) → H i = G i) ∧ (∀ t, n ≤ t → H (ri t 0) = G (ri t 0)) := by
  intro n
  induction n with
  | zero =>
    intro H _ h
    cases h
    obtain ⟨h1, h2, h3⟩ := sInv_bump (n := G 0) hI (S := sStay G a) (fun t h => ⟨(sSurv_y h.1).1, by have := (sSurv_y h.1).2; omega⟩)
    exact ⟨h1, h2, fun i hi => h3 i (by omega), fun i hi _ _ => h3 i (by omega), fun t _ => h3 _ (by have := ri_ge t 0; omega)⟩
  | succ n ih =>
    intro H hn h
    unfold sMv at h
    split at h
    · cases h
    · next H0 h0 =>
      obtain ⟨h1, h2, h3, h4, h5⟩ := ih H0 (by omega) h0
      split at h
      · next hm =>
        have hm := cd_t.mp hm
        have hy := sSurv_y hm.1
        split at h
        · cases h
        · next p H1 hr =>
          cases h
          obtain ⟨g1, g2, g3, g4, g5, -, -⟩ := sInv_step h1 ((h2 n).mpr hy.1) (by omega) (by have := hy.2; omega) hr
          refine ⟨g1, fun t => (g2 t).trans (h2 t), fun i hi => (g4 i hi).trans (h3 i hi), fun i hi q1 q2 => (g3 i hi (q1 n) (q2 n)).trans (h4 i hi q1 q2), fun t ht => ?_⟩
          rw [g3 _ (by have := ri_ge t 0; omega) (fun q => by have := (ri_inj (by omega) (by omega) q).1; omega) (ri_ne (by omega) (by omega) (by omega))]
          exact h5 t (by omega)
      · cases h
        exact ⟨h1, h2, h3, h4, fun t ht => h5 t (by omega)⟩
theorem sGone_ok {G : Nat → Nat} {a : Nat} (hI : sInv G) : (∀ k, k < 4 → 0 < G (12 + k) → ¬ sGone G a (G (12 + k) - 1)) ∧ (∀ t, sPin G t → ¬ sGone G a t) ∧ ∀ t k, t < 30 → k < 3 → ¬ sGone G a t → 0 < G (ri t (2 + k)) → ¬ sGone G a (G (ri t (2 + k)) - 1) := by
  refine ⟨fun k hk h0 ⟨h1, h2⟩ => h2 (sReach_F (Or.inl (Or.inl ⟨k, hk, by omega⟩)) h1), fun t hp ⟨h1, h2⟩ => h2 (sReach_F (Or.inl (Or.inr hp)) h1), fun t k ht hk hg h0 ⟨h1, h2⟩ => ?_⟩
  have h3 := (hI.t ht hk).2 h0
  by_cases hy : sYoung G a t
  · have hs : sSurv G a t := Classical.byContradiction fun q => hg ⟨hy, q⟩
    exact h2 (sReach_T hI.c h3.1.1 hk hs (by omega) h1)
  · exact h2 (sReach_F (Or.inr ⟨t, k, h3.1.1, hk, ⟨(sAll_l hI).mpr h3.1, hy⟩, by omega⟩) h1)
theorem sWin_inv {G G' : Nat → Nat} {a : Nat} (hI : sInv G) (ha : a < 2) (h : sWin G a = some G') : sInv G' ∧ (∀ t, sLive G' t ↔ sLive G t ∧ ¬ sGone G a t) ∧ ∃ H, sMv G (sStay G a) (sMove G a) (G 0) = some H ∧ G' = un (sLose H (sGone G a)) 1 (sLose H (sGone G a) 1 + 1) := by
  unfold sWin at h
  split at h
  · cases h
  · next H hH =>
    cases h
    obtain ⟨h1, h2, h3, h4, h5⟩ := sMv_inv hI ha (G 0) H (Nat.le_refl _) hH
    obtain ⟨g1, g2, g3⟩ := sGone_ok (a := a) hI
    have eh : ∀ k, k < 4 → H (12 + k) = G (12 + k) := fun k hk => h4 _ (by omega) (fun t => by have := ri_ge t 0; omega) (fun t => by have := ri_ge t 5; omega)
    have et : ∀ t k, k < 3 → H (ri t (2 + k)) = G (ri t (2 + k)) := fun t k hk => h4 _ (by have := ri_ge t (2 + k); omega) (fun u => ri_ne (by omega) (by omega) (by omega)) (fun u => ri_ne (by omega) (by omega) (by omega))
    obtain ⟨l1, l2⟩ := sInv_lose (P := sGone G a) h1 (fun k hk q => by rw [eh k hk] at q ⊢; exact g1 k hk q) (fun t k ht hk q1 q2 => by rw [et t k hk] at q2 ⊢; exact g3 t k ht hk q1 q2)
    obtain ⟨m1, m2, -, -⟩ := sInv_cnt (k := 1) (x := sLose H (sGone G a) 1 + 1) l1 (by omega)
    exact ⟨m1, fun t => (m2 t).trans ((sLose_l h1.c t).trans (by rw [h2 t])), H, hH, rfl⟩
/-- full turns -/
def sForg (G : Nat → Nat) (t : Nat) : Prop := sAll G t ∧ ¬ sNeed G t
noncomputable def sFull (G : Nat → Nat) : Nat → Nat := un (sLose G (sForg G)) 2 (sLose G (sForg G) 2 + 1)
theorem sFull_inv {G : Nat → Nat} (hI : sInv G) : sInv (sFull G) ∧ ∀ t, sLive (sFull G) t ↔ sLive G t ∧ ¬ sForg G t := by
  obtain ⟨l1, l2⟩ := sInv_lose (P := sForg G) hI (fun k hk q ⟨h1, h2⟩ => h2 (sReach_F (Or.inl ⟨k, hk, by omega⟩) h1)) (fun t k ht hk q1 q2 ⟨h1, h2⟩ => by
    have h3 := (hI.t ht hk).2 q2
    have hs : sNeed G t := Classical.byContradiction fun q => q1 ⟨(sAll_l hI).mpr h3.1, q⟩
    exact h2 (sReach_T hI.c h3.1.1 hk hs (by omega) h1))
  obtain ⟨m1, m2, -, -⟩ := sInv_cnt (k := 2) (x := sLose G (sForg G) 2 + 1) l1 (by omega)
  exact ⟨m1, fun t => (m2 t).trans (sLose_l hI.c t)⟩
end
section
/-! what each change answers, and the row then -/
noncomputable def pThing (G : Nat → Nat) : Int32 × (Nat → Nat) := match sRoom G 1 with
  | none => (xE2, G)
  | some (p, G1) => if G 0 = 30 then (xE3, G) else (nI (G 0), sNew G G1 p)
noncomputable def pHold (G : Nat → Nat) (x y : Int32) : Int32 × (Nat → Nat) := if cd (∃ h t, h < 4 ∧ sLive G t ∧ x = nI h ∧ y = nI t) = true then (nI (cnt (fun k => 0 < un G (12 + x.toInt.toNat) (y.toInt.toNat + 1) (12 + k)) 4), un G (12 + x.toInt.toNat) (y.toInt.toNat + 1)) else (xE1, G)
noncomputable def pRelease (G : Nat → Nat) (x : Int32) : Int32 × (Nat → Nat) := if cd (∃ h, h < 4 ∧ x = nI h) = true then (if G (12 + x.toInt.toNat) = 0 then (xE2, G) else (nI (G (12 + x.toInt.toNat) - 1), un G (12 + x.toInt.toNat) 0)) else (xE1, G)
noncomputable def pTie (G : Nat → Nat) (x y z : Int32) : Int32 × (Nat → Nat) := if cd (∃ t s u, sLive G t ∧ s < 3 ∧ sLive G u ∧ x = nI t ∧ y = nI s ∧ z = nI u) = true then (if sAge G z.toInt.toNat < sAge G x.toInt.toNat then nI 1 else nI 0, un G (ri x.toInt.toNat (2 + y.toInt.toNat)) (z.toInt.toNat + 1)) else (xE1, G)
noncomputable def pLoosen (G : Nat → Nat) (x y : Int32) : Int32 × (Nat → Nat) := if cd (∃ t s, sLive G t ∧ s < 3 ∧ x = nI t ∧ y = nI s) = true then (if G (ri x.toInt.toNat (2 + y.toInt.toNat)) = 0 then (xE2, G) else (nI (G (ri x.toInt.toNat (2 + y.toInt.toNat)) - 1), un G (ri x.toInt.toNat (2 + y.toInt.toNat)) 0)) else (xE1, G)
noncomputable def pPin (G : Nat → Nat) (x : Int32) (b : Nat) : Int32 × (Nat → Nat) := if cd (∃ t, sLive G t ∧ x = nI t) = true then (if G (ri x.toInt.toNat 1) = b then (xE2, G) else (nI (cnt (sPin (un G (ri x.toInt.toNat 1) b)) 30), un G (ri x.toInt.toNat 1) b)) else (xE1, G)
noncomputable def pWinter (G : Nat → Nat) (x : Int32) : Int32 × (Nat → Nat) := if cd (∃ a, a < 2 ∧ x = nI a) = true then (match sWin G x.toInt.toNat with
  | none => (xE2, G)
  | some G' => (nI (cnt (sGone G x.toInt.toNat) 30), G')) else (xE1, G)
noncomputable def pFull (G : Nat → Nat) : Int32 × (Nat → Nat) := (nI (cnt (sForg G) 30), sFull G)
theorem tN {n : Nat} (h : n < 2147483648) : (nI n).toInt.toNat = n := by rw [tI_n h]; omega
theorem pThing_2 {G : Nat → Nat} (h : sRoom G 1 = none) : pThing G = (xE2, G) := by unfold pThing; rw [h]
theorem pThing_3 {G : Nat → Nat} (h : sRoom G 1 ≠ none) (hc : G 0 = 30) : pThing G = (xE3, G) := by
  unfold pThing
  cases hr : sRoom G 1 with
  | none => exact absurd hr h
  | some q => obtain ⟨p, G1⟩ := q; exact if_pos hc
theorem pThing_0 {G G1 : Nat → Nat} {p : Nat} (h : sRoom G 1 = some (p, G1)) (hc : G 0 < 30) : pThing G = (nI (G 0), sNew G G1 p) := by
  unfold pThing
  rw [h]
  exact if_neg (by omega)
theorem pHold_0 {G : Nat → Nat} {h t : Nat} (hI : sInv G) (hh : h < 4) (ht : sLive G t) : pHold G (nI h) (nI t) = (nI (cnt (fun k => 0 < un G (12 + h) (t + 1) (12 + k)) 4), un G (12 + h) (t + 1)) := by
  have := hI.lt ht
  unfold pHold
  rw [if_pos (cd_t.mpr ⟨h, t, hh, ht, rfl, rfl⟩), tN (by omega), tN (by omega)]
theorem pHold_1 {G : Nat → Nat} {x y : Int32} (h : ¬ ∃ h t, h < 4 ∧ sLive G t ∧ x = nI h ∧ y = nI t) : pHold G x y = (xE1, G) := if_neg (fun q => h (cd_t.mp q))
theorem pRelease_0 {G : Nat → Nat} {h : Nat} (hh : h < 4) (h0 : 0 < G (12 + h)) : pRelease G (nI h) = (nI (G (12 + h) - 1), un G (12 + h) 0) := by
  unfold pRelease
  rw [if_pos (cd_t.mpr ⟨h, hh, rfl⟩), tN (by omega), if_neg (by omega)]
theorem pRelease_2 {G : Nat → Nat} {h : Nat} (hh : h < 4) (h0 : G (12 + h) = 0) : pRelease G (nI h) = (xE2, G) := by
  unfold pRelease
  rw [if_pos (cd_t.mpr ⟨h, hh, rfl⟩), tN (by omega), if_pos h0]
theorem pRelease_1 {G : Nat → Nat} {x : Int32} (h : ∀ h, h < 4 → x ≠ nI h) : pRelease G x = (xE1, G) := if_neg (fun q => by obtain ⟨k, h1, h2⟩ := cd_t.mp q; exact h k h1 h2)
theorem pTie_0 {G : Nat → Nat} {t s u : Nat} (hI : sInv G) (ht : sLive G t) (hs : s < 3) (hu : sLive G u) : pTie G (nI t) (nI s) (nI u) = (if sAge G u < sAge G t then nI 1 else nI 0, un G (ri t (2 + s)) (u + 1)) := by
  have := hI.lt ht
  have := hI.lt hu
  unfold pTie
  rw [if_pos (cd_t.mpr ⟨t, s, u, ht, hs, hu, rfl, rfl, rfl⟩), tN (by omega), tN (by omega), tN (by omega)]
theorem pTie_1 {G : Nat → Nat} {x y z : Int32} (h : ¬ ∃ t s u, sLive G t ∧ s < 3 ∧ sLive G u ∧ x = nI t ∧ y = nI s ∧ z = nI u) : pTie G x y z = (xE1, G) := if_neg (fun q => h (cd_t.mp q))
theorem pLoosen_0 {G : Nat → Nat} {t s : Nat} (hI : sInv G) (ht : sLive G t) (hs : s < 3) (h0 : 0 < G (ri t (2 + s))) : pLoosen G (nI t) (nI s) = (nI (G (ri t (2 + s)) - 1), un G (ri t (2 + s)) 0) := by
  have := hI.lt ht
  unfold pLoosen
  rw [if_pos (cd_t.mpr ⟨t, s, ht, hs, rfl, rfl⟩), tN (by omega), tN (by omega), if_neg (by omega)]
theorem pLoosen_2 {G : Nat → Nat} {t s : Nat} (hI : sInv G) (ht : sLive G t) (hs : s < 3) (h0 : G (ri t (2 + s)) = 0) : pLoosen G (nI t) (nI s) = (xE2, G) := by
  have := hI.lt ht
  unfold pLoosen
  rw [if_pos (cd_t.mpr ⟨t, s, ht, hs, rfl, rfl⟩), tN (by omega), tN (by omega), if_pos h0]
theorem pLoosen_1 {G : Nat → Nat} {x y : Int32} (h : ¬ ∃ t s, sLive G t ∧ s < 3 ∧ x = nI t ∧ y = nI s) : pLoosen G x y = (xE1, G) := if_neg (fun q => h (cd_t.mp q))
theorem pPin_0 {G : Nat → Nat} {t b : Nat} (hI : sInv G) (ht : sLive G t) (h0 : G (ri t 1) ≠ b) : pPin G (nI t) b = (nI (cnt (sPin (un G (ri t 1) b)) 30), un G (ri t 1) b) := by
  have := hI.lt ht
  unfold pPin
  rw [if_pos (cd_t.mpr ⟨t, ht, rfl⟩), tN (by omega), if_neg h0]
theorem pPin_2 {G : Nat → Nat} {t b : Nat} (hI : sInv G) (ht : sLive G t) (h0 : G (ri t 1) = b) : pPin G (nI t) b = (xE2, G) := by
  have := hI.lt ht
  unfold pPin
  rw [if_pos (cd_t.mpr ⟨t, ht, rfl⟩), tN (by omega), if_pos h0]
theorem pPin_1 {G : Nat → Nat} {x : Int32} {b : Nat} (h : ∀ t, sLive G t → x ≠ nI t) : pPin G x b = (xE1, G) := if_neg (fun q => by obtain ⟨k, h1, h2⟩ := cd_t.mp q; exact h k h1 h2)
theorem pWinter_0 {G G' : Nat → Nat} {a : Nat} (ha : a < 2) (h : sWin G a = some G') : pWinter G (nI a) = (nI (cnt (sGone G a) 30), G') := by
  unfold pWinter
  rw [if_pos (cd_t.mpr ⟨a, ha, rfl⟩), tN (by omega), h]
theorem pWinter_2 {G : Nat → Nat} {a : Nat} (ha : a < 2) (h : sWin G a = none) : pWinter G (nI a) = (xE2, G) := by
  unfold pWinter
  rw [if_pos (cd_t.mpr ⟨a, ha, rfl⟩), tN (by omega), h]
theorem pWinter_1 {G : Nat → Nat} {x : Int32} (h : ∀ a, a < 2 → x ≠ nI a) : pWinter G x = (xE1, G) := if_neg (fun q => by obtain ⟨k, h1, h2⟩ := cd_t.mp q; exact h k h1 h2)
/-- the history, in what lies behind the row: a state comes -/
def hrec (st : Nat) (Z G : Nat → Nat) (st' : Nat) (Z' : Nat → Nat) : Prop := st' = min (st + 1) 4 ∧ (∀ i, i < 196 → Z' (196 * st' + i) = G i) ∧ ∀ s, s + 1 < st' → ∀ i, i < 196 → Z' (196 + 196 * s + i) = Z (196 + 196 * (s + (st + 1 - st')) + i)
theorem hrec_congr {st st' : Nat} {Z Z1 G Z' : Nat → Nat} (hst : st ≤ 4) (h : hrec st Z1 G st' Z') (hz : ∀ i, i < 980 → Z1 i = Z i) : hrec st Z G st' Z' := by
  obtain ⟨h1, h2, h3⟩ := h
  refine ⟨h1, h2, fun s hs i hi => ?_⟩
  rw [h3 s hs i hi, hz _ (by omega)]
/-- behind a change, or behind an error -/
def mPost (st : Nat) (Z G : Nat → Nat) (ans : Int32) (st' : Nat) (Z' : Nat → Nat) : Prop := (0 ≤ ans.toInt → hrec st Z G st' Z') ∧ (ans.toInt < 0 → st' = st ∧ ∀ i, i < 980 → Z' i = Z i)
theorem mPost_e {st : Nat} {Z G Z' : Nat → Nat} {ans : Int32} (h : ans.toInt < 0) (hz : ∀ i, i < 980 → Z' i = Z i) : mPost st Z G ans st Z' := ⟨fun q => by omega, fun _ => ⟨rfl, hz⟩⟩
theorem mPost_c {st st' : Nat} {Z G Z' : Nat → Nat} {n : Nat} (hn : n < 2147483648) (h : hrec st Z G st' Z') : mPost st Z G (nI n) st' Z' := ⟨fun _ => h, fun q => by rw [tI_n hn] at q; omega⟩
theorem cnt_sub {P R : Nat → Prop} : ∀ n, (∀ t, t < n → R t → P t) → cnt (fun t => P t ∧ ¬ R t) n + cnt R n = cnt P n := by
  intro n
  induction n with
  | zero => intro _; rfl
  | succ n ih =>
    intro h
    have h1 := ih (fun t ht => h t (by omega))
    simp only [cnt]
    by_cases hp : P n
    · by_cases hr : R n
      · rw [if_neg (fun q => (cd_t.mp q).2 hr), if_pos (cd_t.mpr hr), if_pos (cd_t.mpr hp)]
        omega
      · rw [if_pos (cd_t.mpr ⟨hp, hr⟩), if_neg (fun q => hr (cd_t.mp q)), if_pos (cd_t.mpr hp)]
        omega
    · have hr : ¬ R n := fun q => hp (h n (by omega) q)
      rw [if_neg (fun q => hp (cd_t.mp q).1), if_neg (fun q => hr (cd_t.mp q)), if_neg (fun q => hp (cd_t.mp q))]
      omega
end
section
/-! what the reading calls answer -/
def sHset (G : Nat → Nat) (t k : Nat) : Prop := k < 4 ∧ G (12 + k) = t + 1
def sTfrom (G : Nat → Nat) (t u : Nat) : Prop := u < G 0 ∧ ∃ k, k < 3 ∧ G (ri u (2 + k)) = t + 1
noncomputable def qThing (G : Nat → Nat) (t w : Nat) : Int32 := match w with
  | 0 => if cd (sLive G t) = true then nI 1 else nI 0
  | 1 => if cd (sLive G t) = true then nI (10 * sHome G t + (G (ri t 0) - 1) % 5) else xE4
  | 2 => if cd (sLive G t) = true then dI (sAge G t) else xE4
  | 3 => nI (G (ri t 1))
  | 4 => if G (ri t (2 + 0)) = 0 then xE4 else dI (G (ri t (2 + 0)))
  | 5 => if G (ri t (2 + 1)) = 0 then xE4 else dI (G (ri t (2 + 1)))
  | 6 => if G (ri t (2 + 2)) = 0 then xE4 else dI (G (ri t (2 + 2)))
  | 7 => mk (sHset G t)
  | 8 => mk (sTfrom G t)
  | _ => nI (G (ri t 5))
def sInH (G : Nat → Nat) (h t : Nat) : Prop := sLive G t ∧ sHome G t = h
noncomputable def qAt (G : Nat → Nat) (p : Nat) : Int32 := match fstN (fun t => G (ri t 0) = p + 1) (G 0) with
  | some t => nI t
  | none => xE4
noncomputable def qHouse (G : Nat → Nat) (h w : Nat) : Int32 := match w with
  | 0 => if G (4 + h) = 0 then xE4 else dI (G (4 + h))
  | 1 => nI (cnt (sInH G h) 30)
  | 2 => mk (sInH G h)
  | w + 3 => qAt G (5 * h + w)
noncomputable def qHand (G : Nat → Nat) (h : Nat) : Int32 := if G (12 + h) = 0 then xE4 else dI (G (12 + h))
def sNoted (G : Nat → Nat) (t k : Nat) : Prop := sLive G t ∧ 0 < G (ri t (2 + k)) ∧ sAge G (G (ri t (2 + k)) - 1) < sAge G t
def sNf (G : Nat → Nat) (j : Nat) : Prop := sNoted G (j / 3) (j % 3)
noncomputable def qNote (G : Nat → Nat) (i : Nat) : Int32 := match fstN (fun j => sNf G j ∧ cnt (sNf G) j = i) 90 with
  | some j => nI (10 * (j / 3) + j % 3)
  | none => xE4
noncomputable def qSurv (G : Nat → Nat) (a w : Nat) : Int32 := match w with
  | 0 => mk (sSurv G a)
  | 1 => mk (sGone G a)
  | 2 => nI (cnt (fun t => sSurv G a t ∧ ¬ sPin G t) 30)
  | _ => if cd (sWin G a = none) = true then nI 0 else nI 1
def sKept (G : Nat → Nat) (t u : Nat) : Prop := (sNeed G u ∧ (sAll G u ∧ ¬ u = t)) ∧ ¬ sReach G (fun u => sAll G u ∧ ¬ u = t) (sRoots G) u
def fS (G : Nat → Nat) : Nat → Nat → Prop
  | 0 => sRoots G
  | n + 1 => fun t => fS G n t ∨ sTied G (fS G n) t
noncomputable def qFar (G : Nat → Nat) (t : Nat) : Int32 := match fstN (fun n => fS G n t) 30 with
  | some n => nI n
  | none => xE4
def sAged (G : Nat → Nat) (b t : Nat) : Prop := sLive G t ∧ sAge G t = b
noncomputable def qCount (G : Nat → Nat) (st ln w : Nat) : Int32 := match w with
  | 0 => nI (G 0)
  | 1 => nI (cnt (sAll G) 30)
  | 2 => nI (cnt (sPin G) 30)
  | 3 => nI (cnt (sAged G 1) 30)
  | 4 => nI (cnt (sAged G 2) 30)
  | 5 => nI (cnt (sAged G 3) 30)
  | 6 => nI (cnt (fun h => G (4 + h) = 0) 8)
  | 7 => nI (cnt (sNf G) 90)
  | 8 => nI (G 1)
  | 9 => nI (G 2)
  | 10 => nI (G 0) - nI (cnt (sAll G) 30)
  | 11 => nI (G 3)
  | 12 => nI st
  | _ => nI ln
theorem qThing_t {G : Nat → Nat} {t s : Nat} (hs : s < 3) : qThing G t (4 + s) = if G (ri t (2 + s)) = 0 then xE4 else dI (G (ri t (2 + s))) := by
  have : s = 0 ∨ s = 1 ∨ s = 2 := by omega
  rcases this with rfl | rfl | rfl <;> rfl
theorem qAt_some {G : Nat → Nat} {p t : Nat} (ht : t < G 0) (h1 : G (ri t 0) = p + 1) (h2 : ∀ u, u < t → G (ri u 0) ≠ p + 1) : qAt G p = nI t := by
  unfold qAt
  rw [fstN_some.mpr ⟨ht, h1, h2⟩]
theorem qAt_none {G : Nat → Nat} {p : Nat} (h : sEmp G p) : qAt G p = xE4 := by
  unfold qAt
  rw [fstN_none.mpr (fun t ht => h t ht)]
theorem cnt_up {P : Nat → Prop} {n : Nat} (h : P n) : cnt P (n + 1) = cnt P n + 1 := by
  show cnt P n + (if cd (P n) = true then 1 else 0) = _
  rw [if_pos (cd_t.mpr h)]
theorem cnt_st {P : Nat → Prop} {n : Nat} (h : ¬ P n) : cnt P (n + 1) = cnt P n := by
  show cnt P n + (if cd (P n) = true then 1 else 0) = _
  rw [if_neg (fun q => h (cd_t.mp q))]
  rfl
theorem cnt_mono {P : Nat → Prop} {m : Nat} : ∀ d, cnt P m ≤ cnt P (m + d) := by
  intro d
  induction d with
  | zero => exact Nat.le_refl _
  | succ d ih =>
    refine Nat.le_trans ih ?_
    show cnt P (m + d) ≤ cnt P (m + d + 1)
    by_cases h : P (m + d)
    · rw [cnt_up h]; omega
    · rw [cnt_st h]; exact Nat.le_refl _
theorem qNote_some {G : Nat → Nat} {i j : Nat} (hj : j < 90) (h1 : sNf G j) (h2 : cnt (sNf G) j = i) : qNote G i = nI (10 * (j / 3) + j % 3) := by
  unfold qNote
  rw [fstN_some.mpr ⟨hj, ⟨h1, h2⟩, fun k hk q => ?_⟩]
  have h3 := cnt_mono (P := sNf G) (m := k + 1) (j - (k + 1))
  rw [show k + 1 + (j - (k + 1)) = j by omega, cnt_up q.1] at h3
  have := q.2
  omega
theorem qNote_none {G : Nat → Nat} {i : Nat} (h : cnt (sNf G) 90 ≤ i) : qNote G i = xE4 := by
  unfold qNote
  rw [fstN_none.mpr (fun k hk q => ?_)]
  have h3 := cnt_mono (P := sNf G) (m := k + 1) (90 - (k + 1))
  rw [show k + 1 + (90 - (k + 1)) = 90 by omega, cnt_up q.1] at h3
  have := q.2
  omega
theorem sNf_lo {G : Nat → Nat} {j : Nat} (h : 3 * G 0 ≤ j) : ¬ sNf G j := fun q => by
  have := q.1.1
  omega
theorem cnt_ext {P : Nat → Prop} {n : Nat} (h : ∀ j, n ≤ j → ¬ P j) : ∀ d, cnt P (n + d) = cnt P n := by
  intro d
  induction d with
  | zero => rfl
  | succ d ih =>
    show cnt P (n + d + 1) = _
    rw [cnt_st (h (n + d) (by omega)), ih]
theorem fS_up {G : Nat → Nat} {n : Nat} : ∀ d t, fS G n t → fS G (n + d) t := by
  intro d
  induction d with
  | zero => exact fun t h => h
  | succ d ih => exact fun t h => Or.inl (ih t h)
theorem fS_end {G : Nat → Nat} {n : Nat} (hc : G 0 ≤ 30) (h : ∀ t, t < 30 → sTied G (fS G n) t → fS G n t) : ∀ d t, t < 30 → fS G (n + d) t → fS G n t := by
  intro d
  induction d with
  | zero => exact fun t _ h => h
  | succ d ih =>
    rintro t ht (h1 | ⟨u, k, hu, hk, h1, h2⟩)
    · exact ih t ht h1
    · exact h t ht ⟨u, k, hu, hk, ih u (by omega) h1, h2⟩
theorem fS_cnt {G : Nat → Nat} (hc : G 0 ≤ 30) : ∀ n, (∀ m, m < n → ∃ t, t < 30 ∧ sTied G (fS G m) t ∧ ¬ fS G m t) → 0 < n → n + 1 ≤ cnt (fS G n) 30 := by
  have c0 : ∀ m, cnt (fun _ => False) m = 0 := by
    intro m
    induction m with
    | zero => rfl
    | succ m ih =>
      simp only [cnt, ih]
      rw [if_neg (fun q => cd_t.mp q)]
  intro n
  induction n with
  | zero => intro _ h; omega
  | succ n ih =>
    intro h _
    obtain ⟨t, ht, h1, h2⟩ := h n (by omega)
    have h3 := cnt_lt (P := fS G n) (R := fS G (n + 1)) 30 (fun _ _ q => Or.inl q) ⟨t, ht, Or.inr h1, h2⟩
    by_cases hn : n = 0
    · subst hn
      obtain ⟨u, k, hu, hk, h4, -⟩ := h1
      have h5 := cnt_lt (P := fun _ => False) (R := fS G 0) 30 (fun _ _ q => q.elim) ⟨u, by omega, h4, fun q => q⟩
      rw [c0] at h5
      omega
    · have h4 := ih (fun m hm => h m (by omega)) (by omega)
      omega
theorem qFar_some {G : Nat → Nat} {t n : Nat} (hn : n < 30) (h1 : fS G n t) (h2 : ∀ m, m < n → ¬ fS G m t) : qFar G t = nI n := by
  unfold qFar
  rw [fstN_some.mpr ⟨hn, h1, h2⟩]
theorem qFar_none {G : Nat → Nat} {t : Nat} (h : ∀ m, m < 30 → ¬ fS G m t) : qFar G t = xE4 := by
  unfold qFar
  rw [fstN_none.mpr h]
end
section
/-! each change keeps what always holds -/
theorem pThing_inv {G : Nat → Nat} (hI : sInv G) : sInv (pThing G).2 := by
  unfold pThing
  split
  · exact hI
  · next p G1 h =>
    split
    · exact hI
    · exact (sInv_new hI (by have := hI.c; omega) h).1
theorem pHold_inv {G : Nat → Nat} {x y : Int32} (hI : sInv G) : sInv (pHold G x y).2 := by
  by_cases h : ∃ h t, h < 4 ∧ sLive G t ∧ x = nI h ∧ y = nI t
  · obtain ⟨a, t, ha, ht, rfl, rfl⟩ := h
    rw [pHold_0 hI ha ht]
    exact (sInv_hand (x := t + 1) hI ha (by have := hI.lt ht; omega) (fun _ => ht)).1
  · rw [pHold_1 h]
    exact hI
theorem pRelease_inv {G : Nat → Nat} {x : Int32} (hI : sInv G) : sInv (pRelease G x).2 := by
  by_cases h : ∃ h, h < 4 ∧ x = nI h
  · obtain ⟨a, ha, rfl⟩ := h
    by_cases h0 : G (12 + a) = 0
    · rw [pRelease_2 ha h0]
      exact hI
    · rw [pRelease_0 ha (by omega)]
      exact (sInv_hand hI ha (by omega) (fun q => by omega)).1
  · rw [pRelease_1 (fun a ha e => h ⟨a, ha, e⟩)]
    exact hI
theorem pTie_inv {G : Nat → Nat} {x y z : Int32} (hI : sInv G) : sInv (pTie G x y z).2 := by
  by_cases h : ∃ t s u, sLive G t ∧ s < 3 ∧ sLive G u ∧ x = nI t ∧ y = nI s ∧ z = nI u
  · obtain ⟨t, s, u, ht, hs, hu, rfl, rfl, rfl⟩ := h
    rw [pTie_0 hI ht hs hu]
    exact (sInv_tie (x := u + 1) hI ht hs (by have := hI.lt hu; omega) (fun _ => hu)).1
  · rw [pTie_1 h]
    exact hI
theorem pLoosen_inv {G : Nat → Nat} {x y : Int32} (hI : sInv G) : sInv (pLoosen G x y).2 := by
  by_cases h : ∃ t s, sLive G t ∧ s < 3 ∧ x = nI t ∧ y = nI s
  · obtain ⟨t, s, ht, hs, rfl, rfl⟩ := h
    by_cases h0 : G (ri t (2 + s)) = 0
    · rw [pLoosen_2 hI ht hs h0]
      exact hI
    · rw [pLoosen_0 hI ht hs (by omega)]
      exact (sInv_tie hI ht hs (by omega) (fun q => by omega)).1
  · rw [pLoosen_1 h]
    exact hI
theorem pPin_inv {G : Nat → Nat} {x : Int32} {b : Nat} (hb : b ≤ 1) (hI : sInv G) : sInv (pPin G x b).2 := by
  by_cases h : ∃ t, sLive G t ∧ x = nI t
  · obtain ⟨t, ht, rfl⟩ := h
    by_cases h0 : G (ri t 1) = b
    · rw [pPin_2 hI ht h0]
      exact hI
    · rw [pPin_0 hI ht h0]
      exact (sInv_pin hI ht hb).1
  · rw [pPin_1 (fun a ha e => h ⟨a, ha, e⟩)]
    exact hI
theorem pWinter_inv {G : Nat → Nat} {x : Int32} (hI : sInv G) : sInv (pWinter G x).2 := by
  by_cases h : ∃ a, a < 2 ∧ x = nI a
  · obtain ⟨a, ha, rfl⟩ := h
    cases hw : sWin G a with
    | none => rw [pWinter_2 ha hw]; exact hI
    | some G' => rw [pWinter_0 ha hw]; exact (sWin_inv hI ha hw).1
  · rw [pWinter_1 (fun a ha e => h ⟨a, ha, e⟩)]
    exact hI
theorem pFull_inv {G : Nat → Nat} (hI : sInv G) : sInv (pFull G).2 := (sFull_inv hI).1
/-! texts -/
def tC (tx : Nat → Nat) (ln p : Nat) : Nat := if p < ln then tx p else 0
def sDg (tx : Nat → Nat) (ln p : Nat) : Prop := 48 ≤ tC tx ln p ∧ tC tx ln p ≤ 57
noncomputable def sNum (tx : Nat → Nat) (ln p : Nat) : Option (Nat × Nat) := if cd (sDg tx ln p) = true then (if cd (sDg tx ln (p + 1)) = true then some (10 * (tC tx ln p - 48) + (tC tx ln (p + 1) - 48), p + 2) else some (tC tx ln p - 48, p + 1)) else none
noncomputable def sSig (tx : Nat → Nat) (ln c p : Nat) : Option Nat := if tC tx ln p = c then some (p + 1) else none
noncomputable def sArgs (tx : Nat → Nat) (ln : Nat) : Nat → Nat → Nat → (Nat → Nat) → Option ((Nat → Nat) × Nat)
  | 0, _, p, ns => some (ns, p)
  | m + 1, k, p, ns => match (if k = 0 then some p else sSig tx ln 44 p) with
    | none => none
    | some p1 => match sNum tx ln p1 with
      | none => none
      | some (v, p2) => sArgs tx ln m (k + 1) p2 (un ns k v)
def sWant (c : Nat) : Option Nat := if c = 110 ∨ c = 102 then some 0 else if c = 108 ∨ c = 112 ∨ c = 119 then some 1 else if c = 104 ∨ c = 117 then some 2 else if c = 115 then some 3 else none
noncomputable def sOrd (tx : Nat → Nat) (ln p : Nat) : Option (Nat × (Nat → Nat) × Nat) := match sWant (tC tx ln p) with
  | none => none
  | some w => match sArgs tx ln w 0 (p + 1) (fun _ => 0) with
    | none => none
    | some (ns, p1) => match sSig tx ln 59 p1 with
      | none => none
      | some p2 => some (tC tx ln p, ns, p2)
noncomputable def sDo (G : Nat → Nat) (le : Nat) (ns : Nat → Nat) : Int32 × (Nat → Nat) := if le = 110 then pThing G else if le = 104 then pHold G (nI (ns 0)) (nI (ns 1)) else if le = 108 then pRelease G (nI (ns 0)) else if le = 115 then pTie G (nI (ns 0)) (nI (ns 1)) (nI (ns 2)) else if le = 117 then pLoosen G (nI (ns 0)) (nI (ns 1)) else if le = 112 then pPin G (nI (ns 0)) 1 else if le = 119 then pWinter G (nI (ns 0)) else pFull G
theorem sDo_inv {G : Nat → Nat} {le : Nat} {ns : Nat → Nat} (hI : sInv G) : sInv (sDo G le ns).2 := by
  unfold sDo
  split
  · exact pThing_inv hI
  · split
    · exact pHold_inv hI
    · split
      · exact pRelease_inv hI
      · split
        · exact pTie_inv hI
        · split
          · exact pLoosen_inv hI
          · split
            · exact pPin_inv (by omega) hI
            · split
              · exact pWinter_inv hI
              · exact pFull_inv hI
theorem sDo_congr {G : Nat → Nat} {le w : Nat} {ns ns' : Nat → Nat} (hw : sWant le = some w) (h : ∀ i, i < w → ns i = ns' i) : sDo G le ns = sDo G le ns' := by
  unfold sWant at hw
  unfold sDo
  split
  · rfl
  · next h1 =>
    split
    · next e =>
      subst e
      rw [if_neg (by omega), if_neg (by omega), if_pos (by omega)] at hw
      cases hw
      rw [h 0 (by omega), h 1 (by omega)]
    · split
      · next e =>
        subst e
        rw [if_neg (by omega), if_pos (by omega)] at hw
        cases hw
        rw [h 0 (by omega)]
      · split
        · next e =>
          subst e
          rw [if_neg (by omega), if_neg (by omega), if_neg (by omega), if_pos rfl] at hw
          cases hw
          rw [h 0 (by omega), h 1 (by omega), h 2 (by omega)]
        · split
          · next e =>
            subst e
            rw [if_neg (by omega), if_neg (by omega), if_pos (by omega)] at hw
            cases hw
            rw [h 0 (by omega), h 1 (by omega)]
          · split
            · next e =>
              subst e
              rw [if_neg (by omega), if_pos (by omega)] at hw
              cases hw
              rw [h 0 (by omega)]
            · split
              · next e =>
                subst e
                rw [if_neg (by omega), if_pos (by omega)] at hw
                cases hw
                rw [h 0 (by omega)]
              · rfl
theorem sNum_le {tx : Nat → Nat} {ln p v p' : Nat} (h : sNum tx ln p = some (v, p')) : p < p' ∧ p' ≤ p + 2 ∧ v ≤ 99 := by
  unfold sNum at h
  split at h
  · next h1 =>
    have h1 := cd_t.mp h1
    unfold sDg at h1
    split at h
    · next h2 =>
      have h2 := cd_t.mp h2
      unfold sDg at h2
      cases h
      omega
    · cases h
      omega
  · cases h
theorem sSig_le {tx : Nat → Nat} {ln c p p' : Nat} (hc : 0 < c) (h : sSig tx ln c p = some p') : p' = p + 1 ∧ p < ln := by
  unfold sSig at h
  by_cases h1 : tC tx ln p = c
  · rw [if_pos h1] at h
    cases h
    refine ⟨rfl, ?_⟩
    unfold tC at h1
    by_cases h2 : p < ln
    · exact h2
    · rw [if_neg h2] at h1
      omega
  · rw [if_neg h1] at h
    cases h
theorem sArgs_le {tx : Nat → Nat} {ln : Nat} : ∀ m k p ns ns' p', sArgs tx ln m k p ns = some (ns', p') → p ≤ p' ∧ ∀ i, (∀ j, ns j ≤ 99) → ns' i ≤ 99 := by
  intro m
  induction m with
  | zero =>
    intro k p ns ns' p' h
    cases h
    exact ⟨Nat.le_refl _, fun i q => q i⟩
  | succ m ih =>
    intro k p ns ns' p' h
    unfold sArgs at h
    split at h
    · cases h
    · next p1 hp1 =>
      have h1 : p ≤ p1 := by
        split at hp1
        · cases hp1; exact Nat.le_refl _
        · have := sSig_le (by omega) hp1
          omega
      split at h
      · cases h
      · next v p2 hn =>
        have h2 := sNum_le hn
        have h3 := ih _ _ _ _ _ h
        refine ⟨by omega, fun i q => h3.2 i (fun j => ?_)⟩
        unfold un
        split
        · exact h2.2.2
        · exact q j
theorem sOrd_le {tx : Nat → Nat} {ln p le p' : Nat} {ns : Nat → Nat} (h : sOrd tx ln p = some (le, ns, p')) : p + 2 ≤ p' ∧ p' ≤ ln ∧ le = tC tx ln p ∧ ∃ w, sWant le = some w := by
  unfold sOrd at h
  split at h
  · cases h
  · next w hw =>
    split at h
    · cases h
    · next ns1 p1 ha =>
      have h1 := (sArgs_le _ _ _ _ _ _ ha).1
      split at h
      · cases h
      · next p2 hs =>
        have h2 := sSig_le (by omega) hs
        cases h
        exact ⟨by omega, by omega, rfl, w, hw⟩
/-- the orders of a text: the reason of the fault (0: none), its position, how many were done, the row -/
noncomputable def sGo (tx : Nat → Nat) (ln : Nat) : Nat → Nat → Nat → (Nat → Nat) → Nat × Nat × Nat × (Nat → Nat)
  | 0, p, c, G => (0, p, c, G)
  | f + 1, p, c, G => if p < ln then (match sOrd tx ln p with
    | none => (1, p, c, G)
    | some (le, ns, p') => if 0 ≤ (sDo G le ns).1.toInt then sGo tx ln f p' (c + 1) (sDo G le ns).2 else (if (sDo G le ns).1.toInt = -1000001 then 2 else 3, p, c, G)) else (0, p, c, G)
noncomputable def pPlay (tx : Nat → Nat) (ln : Nat) (G : Nat → Nat) : Int32 × (Nat → Nat) := if (sGo tx ln 61 0 0 G).1 = 0 then (nI (sGo tx ln 61 0 0 G).2.2.1, (sGo tx ln 61 0 0 G).2.2.2) else (xE2, G)
noncomputable def qFault (tx : Nat → Nat) (ln : Nat) (G : Nat → Nat) (w : Nat) : Int32 := if (sGo tx ln 61 0 0 G).1 = 0 then xE4 else if w = 0 then nI (sGo tx ln 61 0 0 G).2.1 else nI (sGo tx ln 61 0 0 G).1
theorem sGo_s {tx : Nat → Nat} {ln f p c le p' : Nat} {G ns : Nat → Nat} (hp : p < ln) (h : sOrd tx ln p = some (le, ns, p')) (ha : 0 ≤ (sDo G le ns).1.toInt) : sGo tx ln (f + 1) p c G = sGo tx ln f p' (c + 1) (sDo G le ns).2 := by
  simp only [sGo, if_pos hp, h, if_pos ha]
theorem sGo_1 {tx : Nat → Nat} {ln f p c : Nat} {G : Nat → Nat} (hp : p < ln) (h : sOrd tx ln p = none) : sGo tx ln (f + 1) p c G = (1, p, c, G) := by
  simp only [sGo, if_pos hp, h]
theorem sGo_2 {tx : Nat → Nat} {ln f p c le p' : Nat} {G ns : Nat → Nat} (hp : p < ln) (h : sOrd tx ln p = some (le, ns, p')) (ha : ¬ 0 ≤ (sDo G le ns).1.toInt) (h1 : (sDo G le ns).1.toInt = -1000001) : sGo tx ln (f + 1) p c G = (2, p, c, G) := by
  simp only [sGo, if_pos hp, h, if_neg ha, if_pos h1]
theorem sGo_3 {tx : Nat → Nat} {ln f p c le p' : Nat} {G ns : Nat → Nat} (hp : p < ln) (h : sOrd tx ln p = some (le, ns, p')) (ha : ¬ 0 ≤ (sDo G le ns).1.toInt) (h1 : ¬ (sDo G le ns).1.toInt = -1000001) : sGo tx ln (f + 1) p c G = (3, p, c, G) := by
  simp only [sGo, if_pos hp, h, if_neg ha, if_neg h1]
theorem sGo_e {tx : Nat → Nat} {ln f p c : Nat} {G : Nat → Nat} (hp : ¬ p < ln) : sGo tx ln f p c G = (0, p, c, G) := by
  cases f with
  | zero => rfl
  | succ f => simp only [sGo, if_neg hp]
theorem sGo_inv {tx : Nat → Nat} {ln : Nat} : ∀ f p c G, sInv G → p ≤ ln → sInv (sGo tx ln f p c G).2.2.2 ∧ (sGo tx ln f p c G).1 ≤ 3 ∧ (sGo tx ln f p c G).2.1 ≤ ln ∧ 2 * (sGo tx ln f p c G).2.2.1 + p ≤ ln + 2 * c := by
  intro f
  induction f with
  | zero => exact fun p c G hI hp => ⟨hI, Nat.zero_le _, hp, by show 2 * c + p ≤ _; omega⟩
  | succ f ih =>
    intro p c G hI hp
    by_cases h : p < ln
    · cases ho : sOrd tx ln p with
      | none => rw [sGo_1 h ho]; exact ⟨hI, by show 1 ≤ 3; omega, hp, by show 2 * c + p ≤ _; omega⟩
      | some q =>
        obtain ⟨le, ns, p'⟩ := q
        have hle := sOrd_le ho
        by_cases ha : 0 ≤ (sDo G le ns).1.toInt
        · rw [sGo_s h ho ha]
          have h1 := ih p' (c + 1) _ (sDo_inv (le := le) (ns := ns) hI) hle.2.1
          exact ⟨h1.1, h1.2.1, h1.2.2.1, by omega⟩
        · by_cases h1 : (sDo G le ns).1.toInt = -1000001
          · rw [sGo_2 h ho ha h1]; exact ⟨hI, by show 2 ≤ 3; omega, hp, by show 2 * c + p ≤ _; omega⟩
          · rw [sGo_3 h ho ha h1]; exact ⟨hI, Nat.le_refl 3, hp, by show 2 * c + p ≤ _; omega⟩
    · rw [sGo_e h]; exact ⟨hI, Nat.zero_le _, hp, by show 2 * c + p ≤ _; omega⟩
theorem pPlay_inv {tx : Nat → Nat} {ln : Nat} {G : Nat → Nat} (hI : sInv G) : sInv (pPlay tx ln G).2 := by
  unfold pPlay
  split
  · exact (sGo_inv 61 0 0 G hI (Nat.zero_le _)).1
  · exact hI
/-- a text: characters from 32 to 126 -/
def tOk (tx : Nat → Nat) (ln : Nat) : Prop := ln ≤ 60 ∧ ∀ i, i < ln → 32 ≤ tx i ∧ tx i ≤ 126
theorem tC_le {tx : Nat → Nat} {ln : Nat} (h : tOk tx ln) (p : Nat) : tC tx ln p ≤ 126 := by
  unfold tC
  split
  · next hp => exact (h.2 p hp).2
  · omega
theorem tOk_type {tx : Nat → Nat} {ln c : Nat} (h : tOk tx ln) (hl : ln < 60) (h1 : 32 ≤ c) (h2 : c ≤ 126) : tOk (un tx ln c) (ln + 1) := by
  refine ⟨by omega, fun i hi => ?_⟩
  unfold un
  split
  · exact ⟨h1, h2⟩
  · exact h.2 i (by omega)
end
