-- ===== PART A: goes FIRST, ahead of the names: the tables' words, and 'selects' of the private methods out of them =====
/-- a private method of a class that the tables say can be made, by its rows of tables_1 -/
def lw_okq (q : MethodName × Nat) : Prop := (q.1.cls ≠ "java/lang/invoke/MethodHandle" ∧ q.1.cls ≠ "java/lang/invoke/VarHandle") ∧ Cond.instantiable q.1.cls q.2 ∈ tables_1 ∧ Cond.privateMethod q.1 ∈ tables_1 ∧ Cond.instanceMethod q.1 ∈ tables_1
theorem lw_p0 : lw_okq (⟨"StillMinutes", "settleIn", "()V"⟩, 15) := ⟨⟨by decide +kernel, by decide +kernel⟩, List.mem_of_getElem? (i := 16) (by decide +kernel), List.mem_of_getElem? (i := 292) (by decide +kernel), List.mem_of_getElem? (i := 293) (by decide +kernel)⟩
theorem lw_p1 : lw_okq (⟨"StillMinutes$City", "bringsNearer", "(I[I)Z"⟩, 13) := ⟨⟨by decide +kernel, by decide +kernel⟩, List.mem_of_getElem? (i := 24) (by decide +kernel), List.mem_of_getElem? (i := 307) (by decide +kernel), List.mem_of_getElem? (i := 308) (by decide +kernel)⟩
theorem lw_p2 : lw_okq (⟨"StillMinutes$CityReader", "nextToken", "()V"⟩, 9) := ⟨⟨by decide +kernel, by decide +kernel⟩, List.mem_of_getElem? (i := 113) (by decide +kernel), List.mem_of_getElem? (i := 385) (by decide +kernel), List.mem_of_getElem? (i := 386) (by decide +kernel)⟩
theorem lw_p3 : lw_okq (⟨"StillMinutes$CityReader", "readItem", "(I)V"⟩, 9) := ⟨⟨by decide +kernel, by decide +kernel⟩, List.mem_of_getElem? (i := 113) (by decide +kernel), List.mem_of_getElem? (i := 395) (by decide +kernel), List.mem_of_getElem? (i := 396) (by decide +kernel)⟩
theorem lw_p4 : lw_okq (⟨"StillMinutes$CityReader", "readRooms", "(I)V"⟩, 9) := ⟨⟨by decide +kernel, by decide +kernel⟩, List.mem_of_getElem? (i := 113) (by decide +kernel), List.mem_of_getElem? (i := 399) (by decide +kernel), List.mem_of_getElem? (i := 400) (by decide +kernel)⟩
theorem lw_p5 : lw_okq (⟨"StillMinutes$CityReader", "refuse", "()V"⟩, 9) := ⟨⟨by decide +kernel, by decide +kernel⟩, List.mem_of_getElem? (i := 113) (by decide +kernel), List.mem_of_getElem? (i := 403) (by decide +kernel), List.mem_of_getElem? (i := 404) (by decide +kernel)⟩
theorem lw_p6 : lw_okq (⟨"StillMinutes$CityReader", "needNumber", "(II)I"⟩, 9) := ⟨⟨by decide +kernel, by decide +kernel⟩, List.mem_of_getElem? (i := 113) (by decide +kernel), List.mem_of_getElem? (i := 407) (by decide +kernel), List.mem_of_getElem? (i := 408) (by decide +kernel)⟩
theorem lw_p7 : lw_okq (⟨"StillMinutes$CityReader", "readSteps", "()V"⟩, 9) := ⟨⟨by decide +kernel, by decide +kernel⟩, List.mem_of_getElem? (i := 113) (by decide +kernel), List.mem_of_getElem? (i := 411) (by decide +kernel), List.mem_of_getElem? (i := 412) (by decide +kernel)⟩
theorem lw_p8 : lw_okq (⟨"StillMinutes$CityReader", "readDoor", "()V"⟩, 9) := ⟨⟨by decide +kernel, by decide +kernel⟩, List.mem_of_getElem? (i := 113) (by decide +kernel), List.mem_of_getElem? (i := 415) (by decide +kernel), List.mem_of_getElem? (i := 416) (by decide +kernel)⟩
theorem lw_p9 : lw_okq (⟨"StillMinutes$CityReader", "readPerson", "()V"⟩, 9) := ⟨⟨by decide +kernel, by decide +kernel⟩, List.mem_of_getElem? (i := 113) (by decide +kernel), List.mem_of_getElem? (i := 419) (by decide +kernel), List.mem_of_getElem? (i := 420) (by decide +kernel)⟩
theorem lw_p10 : lw_okq (⟨"StillMinutes$CityReader", "readThing", "()V"⟩, 9) := ⟨⟨by decide +kernel, by decide +kernel⟩, List.mem_of_getElem? (i := 113) (by decide +kernel), List.mem_of_getElem? (i := 423) (by decide +kernel), List.mem_of_getElem? (i := 424) (by decide +kernel)⟩
theorem lw_p11 : lw_okq (⟨"StillMinutes$CityReader", "needEnd", "()V"⟩, 9) := ⟨⟨by decide +kernel, by decide +kernel⟩, List.mem_of_getElem? (i := 113) (by decide +kernel), List.mem_of_getElem? (i := 427) (by decide +kernel), List.mem_of_getElem? (i := 428) (by decide +kernel)⟩
theorem lw_p12 : lw_okq (⟨"StillMinutes", "isPerson", "(I)Z"⟩, 15) := ⟨⟨by decide +kernel, by decide +kernel⟩, List.mem_of_getElem? (i := 16) (by decide +kernel), List.mem_of_getElem? (i := 439) (by decide +kernel), List.mem_of_getElem? (i := 440) (by decide +kernel)⟩
theorem lw_p13 : lw_okq (⟨"StillMinutes", "isThing", "(I)Z"⟩, 15) := ⟨⟨by decide +kernel, by decide +kernel⟩, List.mem_of_getElem? (i := 16) (by decide +kernel), List.mem_of_getElem? (i := 447) (by decide +kernel), List.mem_of_getElem? (i := 448) (by decide +kernel)⟩
theorem lw_p14 : lw_okq (⟨"StillMinutes", "roomOfThing", "(I)I"⟩, 15) := ⟨⟨by decide +kernel, by decide +kernel⟩, List.mem_of_getElem? (i := 16) (by decide +kernel), List.mem_of_getElem? (i := 451) (by decide +kernel), List.mem_of_getElem? (i := 452) (by decide +kernel)⟩
theorem lw_p15 : lw_okq (⟨"StillMinutes", "upPeople", "()I"⟩, 15) := ⟨⟨by decide +kernel, by decide +kernel⟩, List.mem_of_getElem? (i := 16) (by decide +kernel), List.mem_of_getElem? (i := 463) (by decide +kernel), List.mem_of_getElem? (i := 464) (by decide +kernel)⟩
def lw_privs_1 : List (MethodName × Nat) := [(⟨"StillMinutes", "settleIn", "()V"⟩, 15), (⟨"StillMinutes$City", "bringsNearer", "(I[I)Z"⟩, 13), (⟨"StillMinutes$CityReader", "nextToken", "()V"⟩, 9), (⟨"StillMinutes$CityReader", "readItem", "(I)V"⟩, 9), (⟨"StillMinutes$CityReader", "readRooms", "(I)V"⟩, 9), (⟨"StillMinutes$CityReader", "refuse", "()V"⟩, 9), (⟨"StillMinutes$CityReader", "needNumber", "(II)I"⟩, 9), (⟨"StillMinutes$CityReader", "readSteps", "()V"⟩, 9), (⟨"StillMinutes$CityReader", "readDoor", "()V"⟩, 9), (⟨"StillMinutes$CityReader", "readPerson", "()V"⟩, 9), (⟨"StillMinutes$CityReader", "readThing", "()V"⟩, 9), (⟨"StillMinutes$CityReader", "needEnd", "()V"⟩, 9), (⟨"StillMinutes", "isPerson", "(I)Z"⟩, 15), (⟨"StillMinutes", "isThing", "(I)Z"⟩, 15), (⟨"StillMinutes", "roomOfThing", "(I)I"⟩, 15), (⟨"StillMinutes", "upPeople", "()I"⟩, 15)]
theorem lw_r1 : ∀ q ∈ lw_privs_1, lw_okq q := List.forall_mem_cons.mpr ⟨lw_p0, List.forall_mem_cons.mpr ⟨lw_p1, List.forall_mem_cons.mpr ⟨lw_p2, List.forall_mem_cons.mpr ⟨lw_p3, List.forall_mem_cons.mpr ⟨lw_p4, List.forall_mem_cons.mpr ⟨lw_p5, List.forall_mem_cons.mpr ⟨lw_p6, List.forall_mem_cons.mpr ⟨lw_p7, List.forall_mem_cons.mpr ⟨lw_p8, List.forall_mem_cons.mpr ⟨lw_p9, List.forall_mem_cons.mpr ⟨lw_p10, List.forall_mem_cons.mpr ⟨lw_p11, List.forall_mem_cons.mpr ⟨lw_p12, List.forall_mem_cons.mpr ⟨lw_p13, List.forall_mem_cons.mpr ⟨lw_p14, List.forall_mem_cons.mpr ⟨lw_p15, fun _ h => absurd h List.not_mem_nil⟩⟩⟩⟩⟩⟩⟩⟩⟩⟩⟩⟩⟩⟩⟩⟩
theorem lw_p16 : lw_okq (⟨"StillMinutes", "isUp", "(I)Z"⟩, 15) := ⟨⟨by decide +kernel, by decide +kernel⟩, List.mem_of_getElem? (i := 16) (by decide +kernel), List.mem_of_getElem? (i := 467) (by decide +kernel), List.mem_of_getElem? (i := 468) (by decide +kernel)⟩
theorem lw_p17 : lw_okq (⟨"StillMinutes", "isRoom", "(I)Z"⟩, 15) := ⟨⟨by decide +kernel, by decide +kernel⟩, List.mem_of_getElem? (i := 16) (by decide +kernel), List.mem_of_getElem? (i := 502) (by decide +kernel), List.mem_of_getElem? (i := 503) (by decide +kernel)⟩
theorem lw_p18 : lw_okq (⟨"StillMinutes", "moveTo", "(III)I"⟩, 15) := ⟨⟨by decide +kernel, by decide +kernel⟩, List.mem_of_getElem? (i := 16) (by decide +kernel), List.mem_of_getElem? (i := 514) (by decide +kernel), List.mem_of_getElem? (i := 515) (by decide +kernel)⟩
theorem lw_p19 : lw_okq (⟨"StillMinutes$PressTable", "fillCarried", "()V"⟩, 7) := ⟨⟨by decide +kernel, by decide +kernel⟩, List.mem_of_getElem? (i := 225) (by decide +kernel), List.mem_of_getElem? (i := 560) (by decide +kernel), List.mem_of_getElem? (i := 561) (by decide +kernel)⟩
theorem lw_p20 : lw_okq (⟨"StillMinutes$PressTable", "isSpot", "(I)Z"⟩, 7) := ⟨⟨by decide +kernel, by decide +kernel⟩, List.mem_of_getElem? (i := 225) (by decide +kernel), List.mem_of_getElem? (i := 564) (by decide +kernel), List.mem_of_getElem? (i := 565) (by decide +kernel)⟩
theorem lw_p21 : lw_okq (⟨"StillMinutes$PressTable", "spotsInReach", "(II)I"⟩, 7) := ⟨⟨by decide +kernel, by decide +kernel⟩, List.mem_of_getElem? (i := 225) (by decide +kernel), List.mem_of_getElem? (i := 569) (by decide +kernel), List.mem_of_getElem? (i := 570) (by decide +kernel)⟩
theorem lw_p22 : lw_okq (⟨"StillMinutes$PressTable", "spotsInRoom", "(I)I"⟩, 7) := ⟨⟨by decide +kernel, by decide +kernel⟩, List.mem_of_getElem? (i := 225) (by decide +kernel), List.mem_of_getElem? (i := 575) (by decide +kernel), List.mem_of_getElem? (i := 576) (by decide +kernel)⟩
theorem lw_p23 : lw_okq (⟨"StillMinutes$PressTable", "fillRow", "(III)Z"⟩, 7) := ⟨⟨by decide +kernel, by decide +kernel⟩, List.mem_of_getElem? (i := 225) (by decide +kernel), List.mem_of_getElem? (i := 579) (by decide +kernel), List.mem_of_getElem? (i := 580) (by decide +kernel)⟩
theorem lw_p24 : lw_okq (⟨"StillMinutes$PressTable", "carriedFrom", "(II)I"⟩, 7) := ⟨⟨by decide +kernel, by decide +kernel⟩, List.mem_of_getElem? (i := 225) (by decide +kernel), List.mem_of_getElem? (i := 583) (by decide +kernel), List.mem_of_getElem? (i := 584) (by decide +kernel)⟩
theorem lw_p25 : lw_okq (⟨"StillMinutes$PressTable", "aSecondLater", "(I)I"⟩, 7) := ⟨⟨by decide +kernel, by decide +kernel⟩, List.mem_of_getElem? (i := 225) (by decide +kernel), List.mem_of_getElem? (i := 587) (by decide +kernel), List.mem_of_getElem? (i := 588) (by decide +kernel)⟩
theorem lw_p26 : lw_okq (⟨"StillMinutes$DoneSearch", "settleThing", "(LStillMinutes$City;LStillMinutes$Moment;LStillMinutes$Finds;I)V"⟩, 2) := ⟨⟨by decide +kernel, by decide +kernel⟩, List.mem_of_getElem? (i := 254) (by decide +kernel), List.mem_of_getElem? (i := 633) (by decide +kernel), List.mem_of_getElem? (i := 634) (by decide +kernel)⟩
theorem lw_p27 : lw_okq (⟨"StillMinutes$DoneSearch", "mostLeft", "(LStillMinutes$City;II)I"⟩, 2) := ⟨⟨by decide +kernel, by decide +kernel⟩, List.mem_of_getElem? (i := 254) (by decide +kernel), List.mem_of_getElem? (i := 645) (by decide +kernel), List.mem_of_getElem? (i := 646) (by decide +kernel)⟩
theorem lw_p28 : lw_okq (⟨"StillMinutes", "anybodyCarries", "(III)Z"⟩, 15) := ⟨⟨by decide +kernel, by decide +kernel⟩, List.mem_of_getElem? (i := 16) (by decide +kernel), List.mem_of_getElem? (i := 662) (by decide +kernel), List.mem_of_getElem? (i := 663) (by decide +kernel)⟩
theorem lw_p29 : lw_okq (⟨"StillMinutes$TakingGame", "canTake", "(II)Z"⟩, 6) := ⟨⟨by decide +kernel, by decide +kernel⟩, List.mem_of_getElem? (i := 267) (by decide +kernel), List.mem_of_getElem? (i := 682) (by decide +kernel), List.mem_of_getElem? (i := 683) (by decide +kernel)⟩
theorem lw_p30 : lw_okq (⟨"StillMinutes", "ratePerson", "(I)I"⟩, 15) := ⟨⟨by decide +kernel, by decide +kernel⟩, List.mem_of_getElem? (i := 16) (by decide +kernel), List.mem_of_getElem? (i := 718) (by decide +kernel), List.mem_of_getElem? (i := 719) (by decide +kernel)⟩
theorem lw_p31 : lw_okq (⟨"StillMinutes", "rateBarber", "(I)I"⟩, 15) := ⟨⟨by decide +kernel, by decide +kernel⟩, List.mem_of_getElem? (i := 16) (by decide +kernel), List.mem_of_getElem? (i := 722) (by decide +kernel), List.mem_of_getElem? (i := 723) (by decide +kernel)⟩
def lw_privs_2 : List (MethodName × Nat) := [(⟨"StillMinutes", "isUp", "(I)Z"⟩, 15), (⟨"StillMinutes", "isRoom", "(I)Z"⟩, 15), (⟨"StillMinutes", "moveTo", "(III)I"⟩, 15), (⟨"StillMinutes$PressTable", "fillCarried", "()V"⟩, 7), (⟨"StillMinutes$PressTable", "isSpot", "(I)Z"⟩, 7), (⟨"StillMinutes$PressTable", "spotsInReach", "(II)I"⟩, 7), (⟨"StillMinutes$PressTable", "spotsInRoom", "(I)I"⟩, 7), (⟨"StillMinutes$PressTable", "fillRow", "(III)Z"⟩, 7), (⟨"StillMinutes$PressTable", "carriedFrom", "(II)I"⟩, 7), (⟨"StillMinutes$PressTable", "aSecondLater", "(I)I"⟩, 7), (⟨"StillMinutes$DoneSearch", "settleThing", "(LStillMinutes$City;LStillMinutes$Moment;LStillMinutes$Finds;I)V"⟩, 2), (⟨"StillMinutes$DoneSearch", "mostLeft", "(LStillMinutes$City;II)I"⟩, 2), (⟨"StillMinutes", "anybodyCarries", "(III)Z"⟩, 15), (⟨"StillMinutes$TakingGame", "canTake", "(II)Z"⟩, 6), (⟨"StillMinutes", "ratePerson", "(I)I"⟩, 15), (⟨"StillMinutes", "rateBarber", "(I)I"⟩, 15)]
theorem lw_r2 : ∀ q ∈ lw_privs_2, lw_okq q := List.forall_mem_cons.mpr ⟨lw_p16, List.forall_mem_cons.mpr ⟨lw_p17, List.forall_mem_cons.mpr ⟨lw_p18, List.forall_mem_cons.mpr ⟨lw_p19, List.forall_mem_cons.mpr ⟨lw_p20, List.forall_mem_cons.mpr ⟨lw_p21, List.forall_mem_cons.mpr ⟨lw_p22, List.forall_mem_cons.mpr ⟨lw_p23, List.forall_mem_cons.mpr ⟨lw_p24, List.forall_mem_cons.mpr ⟨lw_p25, List.forall_mem_cons.mpr ⟨lw_p26, List.forall_mem_cons.mpr ⟨lw_p27, List.forall_mem_cons.mpr ⟨lw_p28, List.forall_mem_cons.mpr ⟨lw_p29, List.forall_mem_cons.mpr ⟨lw_p30, List.forall_mem_cons.mpr ⟨lw_p31, fun _ h => absurd h List.not_mem_nil⟩⟩⟩⟩⟩⟩⟩⟩⟩⟩⟩⟩⟩⟩⟩⟩
theorem lw_p32 : lw_okq (⟨"StillMinutes", "rateThief", "(I)I"⟩, 15) := ⟨⟨by decide +kernel, by decide +kernel⟩, List.mem_of_getElem? (i := 16) (by decide +kernel), List.mem_of_getElem? (i := 727) (by decide +kernel), List.mem_of_getElem? (i := 728) (by decide +kernel)⟩
theorem lw_p33 : lw_okq (⟨"StillMinutes", "rateGrey", "(I)I"⟩, 15) := ⟨⟨by decide +kernel, by decide +kernel⟩, List.mem_of_getElem? (i := 16) (by decide +kernel), List.mem_of_getElem? (i := 732) (by decide +kernel), List.mem_of_getElem? (i := 733) (by decide +kernel)⟩
theorem lw_p34 : lw_okq (⟨"StillMinutes", "rateTenth", "(I)I"⟩, 15) := ⟨⟨by decide +kernel, by decide +kernel⟩, List.mem_of_getElem? (i := 16) (by decide +kernel), List.mem_of_getElem? (i := 737) (by decide +kernel), List.mem_of_getElem? (i := 738) (by decide +kernel)⟩
theorem lw_p35 : lw_okq (⟨"StillMinutes", "rateChild", "(I)I"⟩, 15) := ⟨⟨by decide +kernel, by decide +kernel⟩, List.mem_of_getElem? (i := 16) (by decide +kernel), List.mem_of_getElem? (i := 742) (by decide +kernel), List.mem_of_getElem? (i := 743) (by decide +kernel)⟩
theorem lw_p36 : lw_okq (⟨"StillMinutesModel", "next", "()V"⟩, 39) := ⟨⟨by decide +kernel, by decide +kernel⟩, List.mem_of_getElem? (i := 764) (by decide +kernel), List.mem_of_getElem? (i := 903) (by decide +kernel), List.mem_of_getElem? (i := 904) (by decide +kernel)⟩
theorem lw_p37 : lw_okq (⟨"StillMinutesModel", "letterAt", "(I)I"⟩, 39) := ⟨⟨by decide +kernel, by decide +kernel⟩, List.mem_of_getElem? (i := 764) (by decide +kernel), List.mem_of_getElem? (i := 907) (by decide +kernel), List.mem_of_getElem? (i := 908) (by decide +kernel)⟩
theorem lw_p38 : lw_okq (⟨"StillMinutesModel", "readItem", "(Z)V"⟩, 39) := ⟨⟨by decide +kernel, by decide +kernel⟩, List.mem_of_getElem? (i := 764) (by decide +kernel), List.mem_of_getElem? (i := 911) (by decide +kernel), List.mem_of_getElem? (i := 912) (by decide +kernel)⟩
theorem lw_p39 : lw_okq (⟨"StillMinutesModel", "readRooms", "(Z)V"⟩, 39) := ⟨⟨by decide +kernel, by decide +kernel⟩, List.mem_of_getElem? (i := 764) (by decide +kernel), List.mem_of_getElem? (i := 915) (by decide +kernel), List.mem_of_getElem? (i := 916) (by decide +kernel)⟩
theorem lw_p40 : lw_okq (⟨"StillMinutesModel", "must", "(Z)V"⟩, 39) := ⟨⟨by decide +kernel, by decide +kernel⟩, List.mem_of_getElem? (i := 764) (by decide +kernel), List.mem_of_getElem? (i := 919) (by decide +kernel), List.mem_of_getElem? (i := 920) (by decide +kernel)⟩
theorem lw_p41 : lw_okq (⟨"StillMinutesModel", "readInto", "([IIII)I"⟩, 39) := ⟨⟨by decide +kernel, by decide +kernel⟩, List.mem_of_getElem? (i := 764) (by decide +kernel), List.mem_of_getElem? (i := 923) (by decide +kernel), List.mem_of_getElem? (i := 924) (by decide +kernel)⟩
theorem lw_p42 : lw_okq (⟨"StillMinutesModel", "readSteps", "()V"⟩, 39) := ⟨⟨by decide +kernel, by decide +kernel⟩, List.mem_of_getElem? (i := 764) (by decide +kernel), List.mem_of_getElem? (i := 927) (by decide +kernel), List.mem_of_getElem? (i := 928) (by decide +kernel)⟩
theorem lw_p43 : lw_okq (⟨"StillMinutesModel", "readDoor", "()V"⟩, 39) := ⟨⟨by decide +kernel, by decide +kernel⟩, List.mem_of_getElem? (i := 764) (by decide +kernel), List.mem_of_getElem? (i := 931) (by decide +kernel), List.mem_of_getElem? (i := 932) (by decide +kernel)⟩
theorem lw_p44 : lw_okq (⟨"StillMinutesModel", "readPerson", "()V"⟩, 39) := ⟨⟨by decide +kernel, by decide +kernel⟩, List.mem_of_getElem? (i := 764) (by decide +kernel), List.mem_of_getElem? (i := 935) (by decide +kernel), List.mem_of_getElem? (i := 936) (by decide +kernel)⟩
theorem lw_p45 : lw_okq (⟨"StillMinutesModel", "readThing", "()V"⟩, 39) := ⟨⟨by decide +kernel, by decide +kernel⟩, List.mem_of_getElem? (i := 764) (by decide +kernel), List.mem_of_getElem? (i := 939) (by decide +kernel), List.mem_of_getElem? (i := 940) (by decide +kernel)⟩
theorem lw_p46 : lw_okq (⟨"StillMinutesModel", "settles", "()V"⟩, 39) := ⟨⟨by decide +kernel, by decide +kernel⟩, List.mem_of_getElem? (i := 764) (by decide +kernel), List.mem_of_getElem? (i := 943) (by decide +kernel), List.mem_of_getElem? (i := 944) (by decide +kernel)⟩
theorem lw_p47 : lw_okq (⟨"StillMinutesModel", "isPerson", "(I)Z"⟩, 39) := ⟨⟨by decide +kernel, by decide +kernel⟩, List.mem_of_getElem? (i := 764) (by decide +kernel), List.mem_of_getElem? (i := 955) (by decide +kernel), List.mem_of_getElem? (i := 956) (by decide +kernel)⟩
def lw_privs_3 : List (MethodName × Nat) := [(⟨"StillMinutes", "rateThief", "(I)I"⟩, 15), (⟨"StillMinutes", "rateGrey", "(I)I"⟩, 15), (⟨"StillMinutes", "rateTenth", "(I)I"⟩, 15), (⟨"StillMinutes", "rateChild", "(I)I"⟩, 15), (⟨"StillMinutesModel", "next", "()V"⟩, 39), (⟨"StillMinutesModel", "letterAt", "(I)I"⟩, 39), (⟨"StillMinutesModel", "readItem", "(Z)V"⟩, 39), (⟨"StillMinutesModel", "readRooms", "(Z)V"⟩, 39), (⟨"StillMinutesModel", "must", "(Z)V"⟩, 39), (⟨"StillMinutesModel", "readInto", "([IIII)I"⟩, 39), (⟨"StillMinutesModel", "readSteps", "()V"⟩, 39), (⟨"StillMinutesModel", "readDoor", "()V"⟩, 39), (⟨"StillMinutesModel", "readPerson", "()V"⟩, 39), (⟨"StillMinutesModel", "readThing", "()V"⟩, 39), (⟨"StillMinutesModel", "settles", "()V"⟩, 39), (⟨"StillMinutesModel", "isPerson", "(I)Z"⟩, 39)]
theorem lw_r3 : ∀ q ∈ lw_privs_3, lw_okq q := List.forall_mem_cons.mpr ⟨lw_p32, List.forall_mem_cons.mpr ⟨lw_p33, List.forall_mem_cons.mpr ⟨lw_p34, List.forall_mem_cons.mpr ⟨lw_p35, List.forall_mem_cons.mpr ⟨lw_p36, List.forall_mem_cons.mpr ⟨lw_p37, List.forall_mem_cons.mpr ⟨lw_p38, List.forall_mem_cons.mpr ⟨lw_p39, List.forall_mem_cons.mpr ⟨lw_p40, List.forall_mem_cons.mpr ⟨lw_p41, List.forall_mem_cons.mpr ⟨lw_p42, List.forall_mem_cons.mpr ⟨lw_p43, List.forall_mem_cons.mpr ⟨lw_p44, List.forall_mem_cons.mpr ⟨lw_p45, List.forall_mem_cons.mpr ⟨lw_p46, List.forall_mem_cons.mpr ⟨lw_p47, fun _ h => absurd h List.not_mem_nil⟩⟩⟩⟩⟩⟩⟩⟩⟩⟩⟩⟩⟩⟩⟩⟩
theorem lw_p48 : lw_okq (⟨"StillMinutesModel", "isThing", "(I)Z"⟩, 39) := ⟨⟨by decide +kernel, by decide +kernel⟩, List.mem_of_getElem? (i := 764) (by decide +kernel), List.mem_of_getElem? (i := 966) (by decide +kernel), List.mem_of_getElem? (i := 967) (by decide +kernel)⟩
theorem lw_p49 : lw_okq (⟨"StillMinutesModel", "remembers", "()V"⟩, 39) := ⟨⟨by decide +kernel, by decide +kernel⟩, List.mem_of_getElem? (i := 764) (by decide +kernel), List.mem_of_getElem? (i := 978) (by decide +kernel), List.mem_of_getElem? (i := 979) (by decide +kernel)⟩
theorem lw_p50 : lw_okq (⟨"StillMinutesModel", "isRoom", "(I)Z"⟩, 39) := ⟨⟨by decide +kernel, by decide +kernel⟩, List.mem_of_getElem? (i := 764) (by decide +kernel), List.mem_of_getElem? (i := 990) (by decide +kernel), List.mem_of_getElem? (i := 991) (by decide +kernel)⟩
theorem lw_p51 : lw_okq (⟨"StillMinutesModel", "findFar", "(I)V"⟩, 39) := ⟨⟨by decide +kernel, by decide +kernel⟩, List.mem_of_getElem? (i := 764) (by decide +kernel), List.mem_of_getElem? (i := 994) (by decide +kernel), List.mem_of_getElem? (i := 995) (by decide +kernel)⟩
theorem lw_p52 : lw_okq (⟨"StillMinutesModel", "by", "(III)I"⟩, 39) := ⟨⟨by decide +kernel, by decide +kernel⟩, List.mem_of_getElem? (i := 764) (by decide +kernel), List.mem_of_getElem? (i := 998) (by decide +kernel), List.mem_of_getElem? (i := 999) (by decide +kernel)⟩
theorem lw_p53 : lw_okq (⟨"StillMinutesModel", "mayGo", "(II)Z"⟩, 39) := ⟨⟨by decide +kernel, by decide +kernel⟩, List.mem_of_getElem? (i := 764) (by decide +kernel), List.mem_of_getElem? (i := 1002) (by decide +kernel), List.mem_of_getElem? (i := 1003) (by decide +kernel)⟩
theorem lw_p54 : lw_okq (⟨"StillMinutesModel", "placeIn", "(II)I"⟩, 39) := ⟨⟨by decide +kernel, by decide +kernel⟩, List.mem_of_getElem? (i := 764) (by decide +kernel), List.mem_of_getElem? (i := 1006) (by decide +kernel), List.mem_of_getElem? (i := 1007) (by decide +kernel)⟩
theorem lw_p55 : lw_okq (⟨"StillMinutesModel", "roomIn", "(II)I"⟩, 39) := ⟨⟨by decide +kernel, by decide +kernel⟩, List.mem_of_getElem? (i := 764) (by decide +kernel), List.mem_of_getElem? (i := 1022) (by decide +kernel), List.mem_of_getElem? (i := 1023) (by decide +kernel)⟩
theorem lw_p56 : lw_okq (⟨"StillMinutesModel", "isNow", "(I)I"⟩, 39) := ⟨⟨by decide +kernel, by decide +kernel⟩, List.mem_of_getElem? (i := 764) (by decide +kernel), List.mem_of_getElem? (i := 1026) (by decide +kernel), List.mem_of_getElem? (i := 1027) (by decide +kernel)⟩
theorem lw_p57 : lw_okq (⟨"StillMinutesModel", "later", "(III)I"⟩, 39) := ⟨⟨by decide +kernel, by decide +kernel⟩, List.mem_of_getElem? (i := 764) (by decide +kernel), List.mem_of_getElem? (i := 1030) (by decide +kernel), List.mem_of_getElem? (i := 1031) (by decide +kernel)⟩
theorem lw_p58 : lw_okq (⟨"StillMinutesModel", "roomOf", "(II)I"⟩, 39) := ⟨⟨by decide +kernel, by decide +kernel⟩, List.mem_of_getElem? (i := 764) (by decide +kernel), List.mem_of_getElem? (i := 1034) (by decide +kernel), List.mem_of_getElem? (i := 1035) (by decide +kernel)⟩
theorem lw_p59 : lw_okq (⟨"StillMinutesModel", "mayPress", "()I"⟩, 39) := ⟨⟨by decide +kernel, by decide +kernel⟩, List.mem_of_getElem? (i := 764) (by decide +kernel), List.mem_of_getElem? (i := 1050) (by decide +kernel), List.mem_of_getElem? (i := 1051) (by decide +kernel)⟩
theorem lw_p60 : lw_okq (⟨"StillMinutesModel", "fewest", "(IIII)I"⟩, 39) := ⟨⟨by decide +kernel, by decide +kernel⟩, List.mem_of_getElem? (i := 764) (by decide +kernel), List.mem_of_getElem? (i := 1054) (by decide +kernel), List.mem_of_getElem? (i := 1055) (by decide +kernel)⟩
theorem lw_p61 : lw_okq (⟨"StillMinutesModel", "pressesMore", "(II)V"⟩, 39) := ⟨⟨by decide +kernel, by decide +kernel⟩, List.mem_of_getElem? (i := 764) (by decide +kernel), List.mem_of_getElem? (i := 1058) (by decide +kernel), List.mem_of_getElem? (i := 1059) (by decide +kernel)⟩
theorem lw_p62 : lw_okq (⟨"StillMinutesModel", "carriesOn", "(IIII)V"⟩, 39) := ⟨⟨by decide +kernel, by decide +kernel⟩, List.mem_of_getElem? (i := 764) (by decide +kernel), List.mem_of_getElem? (i := 1062) (by decide +kernel), List.mem_of_getElem? (i := 1063) (by decide +kernel)⟩
theorem lw_p63 : lw_okq (⟨"StillMinutesModel", "putIn", "(II)I"⟩, 39) := ⟨⟨by decide +kernel, by decide +kernel⟩, List.mem_of_getElem? (i := 764) (by decide +kernel), List.mem_of_getElem? (i := 1066) (by decide +kernel), List.mem_of_getElem? (i := 1067) (by decide +kernel)⟩
def lw_privs_4 : List (MethodName × Nat) := [(⟨"StillMinutesModel", "isThing", "(I)Z"⟩, 39), (⟨"StillMinutesModel", "remembers", "()V"⟩, 39), (⟨"StillMinutesModel", "isRoom", "(I)Z"⟩, 39), (⟨"StillMinutesModel", "findFar", "(I)V"⟩, 39), (⟨"StillMinutesModel", "by", "(III)I"⟩, 39), (⟨"StillMinutesModel", "mayGo", "(II)Z"⟩, 39), (⟨"StillMinutesModel", "placeIn", "(II)I"⟩, 39), (⟨"StillMinutesModel", "roomIn", "(II)I"⟩, 39), (⟨"StillMinutesModel", "isNow", "(I)I"⟩, 39), (⟨"StillMinutesModel", "later", "(III)I"⟩, 39), (⟨"StillMinutesModel", "roomOf", "(II)I"⟩, 39), (⟨"StillMinutesModel", "mayPress", "()I"⟩, 39), (⟨"StillMinutesModel", "fewest", "(IIII)I"⟩, 39), (⟨"StillMinutesModel", "pressesMore", "(II)V"⟩, 39), (⟨"StillMinutesModel", "carriesOn", "(IIII)V"⟩, 39), (⟨"StillMinutesModel", "putIn", "(II)I"⟩, 39)]
theorem lw_r4 : ∀ q ∈ lw_privs_4, lw_okq q := List.forall_mem_cons.mpr ⟨lw_p48, List.forall_mem_cons.mpr ⟨lw_p49, List.forall_mem_cons.mpr ⟨lw_p50, List.forall_mem_cons.mpr ⟨lw_p51, List.forall_mem_cons.mpr ⟨lw_p52, List.forall_mem_cons.mpr ⟨lw_p53, List.forall_mem_cons.mpr ⟨lw_p54, List.forall_mem_cons.mpr ⟨lw_p55, List.forall_mem_cons.mpr ⟨lw_p56, List.forall_mem_cons.mpr ⟨lw_p57, List.forall_mem_cons.mpr ⟨lw_p58, List.forall_mem_cons.mpr ⟨lw_p59, List.forall_mem_cons.mpr ⟨lw_p60, List.forall_mem_cons.mpr ⟨lw_p61, List.forall_mem_cons.mpr ⟨lw_p62, List.forall_mem_cons.mpr ⟨lw_p63, fun _ h => absurd h List.not_mem_nil⟩⟩⟩⟩⟩⟩⟩⟩⟩⟩⟩⟩⟩⟩⟩⟩
theorem lw_p64 : lw_okq (⟨"StillMinutesModel", "notes", "(II)V"⟩, 39) := ⟨⟨by decide +kernel, by decide +kernel⟩, List.mem_of_getElem? (i := 764) (by decide +kernel), List.mem_of_getElem? (i := 1070) (by decide +kernel), List.mem_of_getElem? (i := 1071) (by decide +kernel)⟩
theorem lw_p65 : lw_okq (⟨"StillMinutesModel", "canHave", "(I)Z"⟩, 39) := ⟨⟨by decide +kernel, by decide +kernel⟩, List.mem_of_getElem? (i := 764) (by decide +kernel), List.mem_of_getElem? (i := 1089) (by decide +kernel), List.mem_of_getElem? (i := 1090) (by decide +kernel)⟩
theorem lw_p66 : lw_okq (⟨"StillMinutesModel", "isFound", "(I)Z"⟩, 39) := ⟨⟨by decide +kernel, by decide +kernel⟩, List.mem_of_getElem? (i := 764) (by decide +kernel), List.mem_of_getElem? (i := 1093) (by decide +kernel), List.mem_of_getElem? (i := 1094) (by decide +kernel)⟩
theorem lw_p67 : lw_okq (⟨"StillMinutesModel", "findCosts", "(I)V"⟩, 39) := ⟨⟨by decide +kernel, by decide +kernel⟩, List.mem_of_getElem? (i := 764) (by decide +kernel), List.mem_of_getElem? (i := 1097) (by decide +kernel), List.mem_of_getElem? (i := 1098) (by decide +kernel)⟩
theorem lw_p68 : lw_okq (⟨"StillMinutesModel", "isSo", "(II)Z"⟩, 39) := ⟨⟨by decide +kernel, by decide +kernel⟩, List.mem_of_getElem? (i := 764) (by decide +kernel), List.mem_of_getElem? (i := 1101) (by decide +kernel), List.mem_of_getElem? (i := 1102) (by decide +kernel)⟩
theorem lw_p69 : lw_okq (⟨"StillMinutesModel", "canCarry", "(III)Z"⟩, 39) := ⟨⟨by decide +kernel, by decide +kernel⟩, List.mem_of_getElem? (i := 764) (by decide +kernel), List.mem_of_getElem? (i := 1109) (by decide +kernel), List.mem_of_getElem? (i := 1110) (by decide +kernel)⟩
theorem lw_p70 : lw_okq (⟨"StillMinutesModel", "comesBack", "(II)V"⟩, 39) := ⟨⟨by decide +kernel, by decide +kernel⟩, List.mem_of_getElem? (i := 764) (by decide +kernel), List.mem_of_getElem? (i := 1118) (by decide +kernel), List.mem_of_getElem? (i := 1119) (by decide +kernel)⟩
theorem lw_p71 : lw_okq (⟨"StillMinutesModel", "triesOn", "(II)Z"⟩, 39) := ⟨⟨by decide +kernel, by decide +kernel⟩, List.mem_of_getElem? (i := 764) (by decide +kernel), List.mem_of_getElem? (i := 1122) (by decide +kernel), List.mem_of_getElem? (i := 1123) (by decide +kernel)⟩
theorem lw_p72 : lw_okq (⟨"StillMinutesModel", "copiesOn", "(I)V"⟩, 39) := ⟨⟨by decide +kernel, by decide +kernel⟩, List.mem_of_getElem? (i := 764) (by decide +kernel), List.mem_of_getElem? (i := 1126) (by decide +kernel), List.mem_of_getElem? (i := 1127) (by decide +kernel)⟩
theorem lw_p73 : lw_okq (⟨"StillMinutesModel", "personRate", "(I)I"⟩, 39) := ⟨⟨by decide +kernel, by decide +kernel⟩, List.mem_of_getElem? (i := 764) (by decide +kernel), List.mem_of_getElem? (i := 1142) (by decide +kernel), List.mem_of_getElem? (i := 1143) (by decide +kernel)⟩
theorem lw_p74 : lw_okq (⟨"StillMinutesModel", "barberRate", "(I)I"⟩, 39) := ⟨⟨by decide +kernel, by decide +kernel⟩, List.mem_of_getElem? (i := 764) (by decide +kernel), List.mem_of_getElem? (i := 1146) (by decide +kernel), List.mem_of_getElem? (i := 1147) (by decide +kernel)⟩
theorem lw_p75 : lw_okq (⟨"StillMinutesModel", "thiefRate", "(I)I"⟩, 39) := ⟨⟨by decide +kernel, by decide +kernel⟩, List.mem_of_getElem? (i := 764) (by decide +kernel), List.mem_of_getElem? (i := 1151) (by decide +kernel), List.mem_of_getElem? (i := 1152) (by decide +kernel)⟩
def lw_privs_5 : List (MethodName × Nat) := [(⟨"StillMinutesModel", "notes", "(II)V"⟩, 39), (⟨"StillMinutesModel", "canHave", "(I)Z"⟩, 39), (⟨"StillMinutesModel", "isFound", "(I)Z"⟩, 39), (⟨"StillMinutesModel", "findCosts", "(I)V"⟩, 39), (⟨"StillMinutesModel", "isSo", "(II)Z"⟩, 39), (⟨"StillMinutesModel", "canCarry", "(III)Z"⟩, 39), (⟨"StillMinutesModel", "comesBack", "(II)V"⟩, 39), (⟨"StillMinutesModel", "triesOn", "(II)Z"⟩, 39), (⟨"StillMinutesModel", "copiesOn", "(I)V"⟩, 39), (⟨"StillMinutesModel", "personRate", "(I)I"⟩, 39), (⟨"StillMinutesModel", "barberRate", "(I)I"⟩, 39), (⟨"StillMinutesModel", "thiefRate", "(I)I"⟩, 39)]
theorem lw_r5 : ∀ q ∈ lw_privs_5, lw_okq q := List.forall_mem_cons.mpr ⟨lw_p64, List.forall_mem_cons.mpr ⟨lw_p65, List.forall_mem_cons.mpr ⟨lw_p66, List.forall_mem_cons.mpr ⟨lw_p67, List.forall_mem_cons.mpr ⟨lw_p68, List.forall_mem_cons.mpr ⟨lw_p69, List.forall_mem_cons.mpr ⟨lw_p70, List.forall_mem_cons.mpr ⟨lw_p71, List.forall_mem_cons.mpr ⟨lw_p72, List.forall_mem_cons.mpr ⟨lw_p73, List.forall_mem_cons.mpr ⟨lw_p74, List.forall_mem_cons.mpr ⟨lw_p75, fun _ h => absurd h List.not_mem_nil⟩⟩⟩⟩⟩⟩⟩⟩⟩⟩⟩⟩
def lw_privs : List (MethodName × Nat) := lw_privs_1 ++ (lw_privs_2 ++ (lw_privs_3 ++ (lw_privs_4 ++ (lw_privs_5))))
def lw_tbl : List Cond := k2_sels lw_privs ++ tables_1
theorem lw_privs_ok : ∀ q ∈ lw_privs, lw_okq q := by
  show ∀ q ∈ lw_privs_1 ++ (lw_privs_2 ++ (lw_privs_3 ++ (lw_privs_4 ++ (lw_privs_5)))), lw_okq q
  exact List.forall_mem_append.mpr ⟨lw_r1, List.forall_mem_append.mpr ⟨lw_r2, List.forall_mem_append.mpr ⟨lw_r3, List.forall_mem_append.mpr ⟨lw_r4, lw_r5⟩⟩⟩⟩
-- ===== names, by program =====
theorem goodIn_r {big : List Cond} (ws : List Cond) (ps : List Nat) (hp : ws = ps.filterMap (fun i => big[i]?)) (h : ws.all goodWord = true) : GoodIn big ws := by
  intro w hw
  have h1 := List.all_eq_true.mp h w hw
  rw [hp] at hw
  obtain ⟨i, -, hi⟩ := List.mem_filterMap.mp hw
  have hm : w ∈ big := by first | exact List.mem_of_getElem? hi | exact List.getElem?_mem hi
  exact ⟨hm, good_of_word h1⟩
def jm_gt : List Cond := lw_tbl.filter goodWord
theorem jm_in {w : Cond} (i : Nat) (h : lw_tbl[i]? = some w) (g : goodWord w = true) : w ∈ jm_gt := List.mem_filter.mpr ⟨List.mem_of_getElem? h, g⟩
theorem jm_inR {ws : List Cond} (h : GoodIn lw_tbl ws) (h2 : ws.all goodWord = true) : ∀ w ∈ ws, w ∈ jm_gt := fun w hw => List.mem_filter.mpr ⟨(h w hw).1, List.all_eq_true.mp h2 w hw⟩
def RX0 : String := "StillMinutes$City"
def TX0 : u_T := fun k => match k with
  | 0 => ("StillMinutes$City", "rooms", "I", false)
  | 1 => ("StillMinutes$City", "steps", "I", false)
  | 2 => ("StillMinutes$City", "doors", "I", false)
  | 3 => ("StillMinutes$City", "people", "I", false)
  | 4 => ("StillMinutes$City", "things", "I", false)
  | 5 => ("StillMinutes$City", "doorFrom", "[I", true)
  | 6 => ("StillMinutes$City", "doorTo", "[I", true)
  | 7 => ("StillMinutes$City", "doorShut", "[I", true)
  | 8 => ("StillMinutes$City", "home", "[I", true)
  | 9 => ("StillMinutes$City", "ageAtFirst", "[I", true)
  | 10 => ("StillMinutes$City", "roundLength", "[I", true)
  | 11 => ("StillMinutes$City", "round", "[[I", true)
  | _ => ("StillMinutes$City", "distance", "[[I", true)
def tyX0 : Nat → FieldType := fun k => match k with
  | 0 => .int
  | 1 => .int
  | 2 => .int
  | 3 => .int
  | 4 => .int
  | 5 => .array .int
  | 6 => .array .int
  | 7 => .array .int
  | 8 => .array .int
  | 9 => .array .int
  | 10 => .array .int
  | 11 => .array (.array .int)
  | _ => .array (.array .int)
def RX1 : String := "StillMinutes$CityReader"
def TX1 : u_T := fun k => match k with
  | 0 => ("StillMinutes$CityReader", "text", "[I", false)
  | 1 => ("StillMinutes$CityReader", "length", "I", false)
  | 2 => ("StillMinutes$CityReader", "city", "LStillMinutes$City;", false)
  | 3 => ("StillMinutes$CityReader", "at", "I", false)
  | 4 => ("StillMinutes$CityReader", "token", "I", false)
  | 5 => ("StillMinutes$CityReader", "start", "I", false)
  | 6 => ("StillMinutes$CityReader", "value", "I", false)
  | 7 => ("StillMinutes$CityReader", "stepsTold", "Z", false)
  | _ => ("StillMinutes$CityReader", "fault", "I", false)
def tyX1 : Nat → FieldType := fun k => match k with
  | 0 => .array .int
  | 1 => .int
  | 2 => .object "StillMinutes$City"
  | 3 => .int
  | 4 => .int
  | 5 => .int
  | 6 => .int
  | 7 => .boolean
  | _ => .int
def RX2 : String := "StillMinutes$DoneSearch"
def TX2 : u_T := fun k => match k with
  | 0 => ("StillMinutes$DoneSearch", "left", "[I", true)
  | _ => ("StillMinutes$DoneSearch", "leftThen", "[I", true)
def tyX2 : Nat → FieldType := fun k => match k with
  | 0 => .array .int
  | _ => .array .int
def RX3 : String := "StillMinutes$Finds"
def TX3 : u_T := fun k => match k with
  | 0 => ("StillMinutes$Finds", "many", "I", false)
  | 1 => ("StillMinutes$Finds", "thing", "[I", true)
  | 2 => ("StillMinutes$Finds", "room", "[I", true)
  | _ => ("StillMinutes$Finds", "seconds", "[I", true)
def tyX3 : Nat → FieldType := fun k => match k with
  | 0 => .int
  | 1 => .array .int
  | 2 => .array .int
  | _ => .array .int
def RX4 : String := "StillMinutes$History"
def TX4 : u_T := fun k => match k with
  | 0 => ("StillMinutes$History", "moments", "[LStillMinutes$Moment;", true)
  | 1 => ("StillMinutes$History", "next", "I", false)
  | _ => ("StillMinutes$History", "known", "I", false)
def tyX4 : Nat → FieldType := fun k => match k with
  | 0 => .array (.object "StillMinutes$Moment")
  | 1 => .int
  | _ => .int
def RX5 : String := "StillMinutes$Moment"
def TX5 : u_T := fun k => match k with
  | 0 => ("StillMinutes$Moment", "second", "I", false)
  | 1 => ("StillMinutes$Moment", "pressed", "I", false)
  | 2 => ("StillMinutes$Moment", "room", "[I", true)
  | 3 => ("StillMinutes$Moment", "age", "[I", true)
  | 4 => ("StillMinutes$Moment", "left", "[I", true)
  | _ => ("StillMinutes$Moment", "spot", "[I", true)
def tyX5 : Nat → FieldType := fun k => match k with
  | 0 => .int
  | 1 => .int
  | 2 => .array .int
  | 3 => .array .int
  | 4 => .array .int
  | _ => .array .int
def RX6 : String := "StillMinutes$PressTable"
def TX6 : u_T := fun k => match k with
  | 0 => ("StillMinutes$PressTable", "city", "LStillMinutes$City;", false)
  | 1 => ("StillMinutes$PressTable", "now", "LStillMinutes$Moment;", false)
  | 2 => ("StillMinutes$PressTable", "thing", "I", false)
  | 3 => ("StillMinutes$PressTable", "rested", "I", false)
  | 4 => ("StillMinutes$PressTable", "spots", "[[I", true)
  | 5 => ("StillMinutes$PressTable", "carried", "[[I", true)
  | _ => ("StillMinutes$PressTable", "comes", "[Z", true)
def tyX6 : Nat → FieldType := fun k => match k with
  | 0 => .object "StillMinutes$City"
  | 1 => .object "StillMinutes$Moment"
  | 2 => .int
  | 3 => .int
  | 4 => .array (.array .int)
  | 5 => .array (.array .int)
  | _ => .array .boolean
def RX7 : String := "StillMinutes$TakingGame"
def TX7 : u_T := fun k => match k with
  | 0 => ("StillMinutes$TakingGame", "city", "LStillMinutes$City;", false)
  | 1 => ("StillMinutes$TakingGame", "taken", "I", false)
  | 2 => ("StillMinutes$TakingGame", "thingRoom", "[I", true)
  | 3 => ("StillMinutes$TakingGame", "room", "[I", true)
  | 4 => ("StillMinutes$TakingGame", "left", "[I", true)
  | _ => ("StillMinutes$TakingGame", "ended", "[Z", true)
def tyX7 : Nat → FieldType := fun k => match k with
  | 0 => .object "StillMinutes$City"
  | 1 => .int
  | 2 => .array .int
  | 3 => .array .int
  | 4 => .array .int
  | _ => .array .boolean
def RX8 : String := "StillMinutes"
def TX8 : u_T := fun k => match k with
  | 0 => ("StillMinutes", "city", "LStillMinutes$City;", false)
  | 1 => ("StillMinutes", "draft", "LStillMinutes$City;", false)
  | 2 => ("StillMinutes", "reader", "LStillMinutes$CityReader;", true)
  | 3 => ("StillMinutes", "text", "[I", true)
  | 4 => ("StillMinutes", "letters", "I", false)
  | 5 => ("StillMinutes", "now", "LStillMinutes$Moment;", true)
  | 6 => ("StillMinutes", "history", "LStillMinutes$History;", true)
  | 7 => ("StillMinutes", "images", "[LStillMinutes$Moment;", true)
  | 8 => ("StillMinutes", "kept", "[Z", true)
  | 9 => ("StillMinutes", "finds", "LStillMinutes$Finds;", true)
  | 10 => ("StillMinutes", "pressTable", "LStillMinutes$PressTable;", true)
  | 11 => ("StillMinutes", "doneSearch", "LStillMinutes$DoneSearch;", true)
  | 12 => ("StillMinutes", "takingGame", "LStillMinutes$TakingGame;", true)
  | 13 => ("StillMinutes", "guardRow", "[I", true)
  | _ => ("StillMinutes", "trace", "J", false)
def tyX8 : Nat → FieldType := fun k => match k with
  | 0 => .object "StillMinutes$City"
  | 1 => .object "StillMinutes$City"
  | 2 => .object "StillMinutes$CityReader"
  | 3 => .array .int
  | 4 => .int
  | 5 => .object "StillMinutes$Moment"
  | 6 => .object "StillMinutes$History"
  | 7 => .array (.object "StillMinutes$Moment")
  | 8 => .array .boolean
  | 9 => .object "StillMinutes$Finds"
  | 10 => .object "StillMinutes$PressTable"
  | 11 => .object "StillMinutes$DoneSearch"
  | 12 => .object "StillMinutes$TakingGame"
  | 13 => .array .int
  | _ => .long
def RX9 : String := "StillMinutesModel"
def TX9 : u_T := fun k => match k with
  | 0 => ("StillMinutesModel", "rooms", "I", false)
  | 1 => ("StillMinutesModel", "doors", "I", false)
  | 2 => ("StillMinutesModel", "door", "[I", true)
  | 3 => ("StillMinutesModel", "steps", "I", false)
  | 4 => ("StillMinutesModel", "people", "I", false)
  | 5 => ("StillMinutesModel", "things", "I", false)
  | 6 => ("StillMinutesModel", "longs", "[I", true)
  | 7 => ("StillMinutesModel", "round", "[I", true)
  | 8 => ("StillMinutesModel", "st", "[I", true)
  | 9 => ("StillMinutesModel", "was", "[I", true)
  | 10 => ("StillMinutesModel", "known", "I", false)
  | 11 => ("StillMinutesModel", "images", "[I", true)
  | 12 => ("StillMinutesModel", "isKept", "[Z", true)
  | 13 => ("StillMinutesModel", "founds", "I", false)
  | 14 => ("StillMinutesModel", "found", "[I", true)
  | 15 => ("StillMinutesModel", "trace", "J", false)
  | 16 => ("StillMinutesModel", "text", "[I", true)
  | 17 => ("StillMinutesModel", "texted", "I", false)
  | 18 => ("StillMinutesModel", "cursor", "I", false)
  | 19 => ("StillMinutesModel", "start", "I", false)
  | 20 => ("StillMinutesModel", "token", "I", false)
  | 21 => ("StillMinutesModel", "number", "I", false)
  | 22 => ("StillMinutesModel", "isWrong", "Z", false)
  | 23 => ("StillMinutesModel", "saidNumbers", "[I", true)
  | 24 => ("StillMinutesModel", "isStepsSaid", "Z", false)
  | 25 => ("StillMinutesModel", "saidDoors", "I", false)
  | 26 => ("StillMinutesModel", "saidDoor", "[I", true)
  | 27 => ("StillMinutesModel", "saidPeople", "I", false)
  | 28 => ("StillMinutesModel", "saidPerson", "[I", true)
  | 29 => ("StillMinutesModel", "saidThings", "I", false)
  | 30 => ("StillMinutesModel", "saidLongs", "[I", true)
  | 31 => ("StillMinutesModel", "saidRound", "[I", true)
  | 32 => ("StillMinutesModel", "far", "[I", true)
  | 33 => ("StillMinutesModel", "ways", "[I", true)
  | 34 => ("StillMinutesModel", "then", "[I", true)
  | 35 => ("StillMinutesModel", "comes", "I", false)
  | 36 => ("StillMinutesModel", "cost", "[I", true)
  | 37 => ("StillMinutesModel", "more", "[I", true)
  | _ => ("StillMinutesModel", "stack", "[I", true)
def tyX9 : Nat → FieldType := fun k => match k with
  | 0 => .int
  | 1 => .int
  | 2 => .array .int
  | 3 => .int
  | 4 => .int
  | 5 => .int
  | 6 => .array .int
  | 7 => .array .int
  | 8 => .array .int
  | 9 => .array .int
  | 10 => .int
  | 11 => .array .int
  | 12 => .array .boolean
  | 13 => .int
  | 14 => .array .int
  | 15 => .long
  | 16 => .array .int
  | 17 => .int
  | 18 => .int
  | 19 => .int
  | 20 => .int
  | 21 => .int
  | 22 => .boolean
  | 23 => .array .int
  | 24 => .boolean
  | 25 => .int
  | 26 => .array .int
  | 27 => .int
  | 28 => .array .int
  | 29 => .int
  | 30 => .array .int
  | 31 => .array .int
  | 32 => .array .int
  | 33 => .array .int
  | 34 => .array .int
  | 35 => .int
  | 36 => .array .int
  | 37 => .array .int
  | _ => .array .int
abbrev vwCl : List vw_C := [(RX0, TX0, 13), (RX1, TX1, 9), (RX2, TX2, 2), (RX3, TX3, 4), (RX4, TX4, 3), (RX5, TX5, 6), (RX6, TX6, 7), (RX7, TX7, 6), (RX8, TX8, 15), (RX9, TX9, 39)]
def jm_cn : Nat → String := fun c => match c with
  | 0 => RX0
  | 1 => RX1
  | 2 => RX2
  | 3 => RX3
  | 4 => RX4
  | 5 => RX5
  | 6 => RX6
  | 7 => RX7
  | 8 => RX8
  | _ => RX9
def jm_T : Nat → u_T := fun c => match c with
  | 0 => TX0
  | 1 => TX1
  | 2 => TX2
  | 3 => TX3
  | 4 => TX4
  | 5 => TX5
  | 6 => TX6
  | 7 => TX7
  | 8 => TX8
  | _ => TX9
def jm_ty : Nat → Nat → FieldType := fun c => match c with
  | 0 => tyX0
  | 1 => tyX1
  | 2 => tyX2
  | 3 => tyX3
  | 4 => tyX4
  | 5 => tyX5
  | 6 => tyX6
  | 7 => tyX7
  | 8 => tyX8
  | _ => tyX9
def jm_fkl : List (List Nat) := [[0, 0, 0, 0, 0, 1, 1, 1, 1, 1, 1, 1, 1], [2, 0, 2, 0, 0, 0, 0, 4, 0], [1, 1], [0, 1, 1, 1], [1, 0, 0], [0, 0, 1, 1, 1, 1], [2, 2, 0, 0, 1, 1, 1], [2, 0, 1, 1, 1, 1], [2, 2, 1, 1, 0, 1, 1, 1, 1, 1, 1, 1, 1, 1, 3], [0, 0, 1, 0, 0, 0, 1, 1, 1, 1, 0, 1, 1, 0, 1, 3, 1, 0, 0, 0, 0, 0, 4, 1, 4, 0, 1, 0, 1, 0, 1, 1, 1, 1, 1, 0, 1, 1, 1]]
def jm_fk (c k : Nat) : Nat := (jm_fkl.getD c []).getD k 9
def jm_nf (c : Nat) : Nat := (jm_fkl.getD c []).length
/-- the kinds of the fields are those of their types -/
def jm_kd (c k : Nat) : Bool := match jm_fk c k, jm_ty c k with
  | 0, .int => !(jm_T c k).2.2.2
  | 4, .boolean => !(jm_T c k).2.2.2
  | 3, .long => !(jm_T c k).2.2.2
  | 1, .object _ => (jm_T c k).2.2.2
  | 1, .array _ => (jm_T c k).2.2.2
  | 2, .object _ => !(jm_T c k).2.2.2
  | 2, .array _ => !(jm_T c k).2.2.2
  | _, _ => false
def jm_COk (c : Nat) : Prop := vwCl[c]? = some (jm_cn c, jm_T c, jm_nf c) ∧ (∀ w ∈ u_ws (jm_cn c) (jm_T c) (jm_nf c), w ∈ jm_gt) ∧ (∀ k, k < jm_nf c → parseFieldDescriptor (jm_T c k).2.2.1 = some (jm_ty c k)) ∧ (∀ a, a < jm_nf c → ∀ b, b < jm_nf c → a ≠ b → (jm_T c a).2.1 ≠ (jm_T c b).2.1) ∧ (∀ k, k < jm_nf c → jm_kd c k = true) ∧ c < 10
set_option maxRecDepth 100000 in
theorem co_X0 : jm_COk 0 := ⟨rfl, jm_inR (goodIn_r _ [160, 162, 164, 166, 168, 170, 172, 174, 176, 178, 180, 182, 184] (by decide +kernel) (by decide +kernel)) (by decide +kernel), by decide +kernel, by decide +kernel, by decide +kernel, by decide⟩
set_option maxRecDepth 100000 in
theorem co_X1 : jm_COk 1 := ⟨rfl, jm_inR (goodIn_r _ [203, 205, 207, 209, 211, 213, 215, 217, 219] (by decide +kernel) (by decide +kernel)) (by decide +kernel), by decide +kernel, by decide +kernel, by decide +kernel, by decide⟩
set_option maxRecDepth 100000 in
theorem co_X2 : jm_COk 2 := ⟨rfl, jm_inR (goodIn_r _ [337, 339] (by decide +kernel) (by decide +kernel)) (by decide +kernel), by decide +kernel, by decide +kernel, by decide +kernel, by decide⟩
set_option maxRecDepth 100000 in
theorem co_X3 : jm_COk 3 := ⟨rfl, jm_inR (goodIn_r _ [290, 292, 294, 296] (by decide +kernel) (by decide +kernel)) (by decide +kernel), by decide +kernel, by decide +kernel, by decide +kernel, by decide⟩
set_option maxRecDepth 100000 in
theorem co_X4 : jm_COk 4 := ⟨rfl, jm_inR (goodIn_r _ [272, 274, 276] (by decide +kernel) (by decide +kernel)) (by decide +kernel), by decide +kernel, by decide +kernel, by decide +kernel, by decide⟩
set_option maxRecDepth 100000 in
theorem co_X5 : jm_COk 5 := ⟨rfl, jm_inR (goodIn_r _ [246, 248, 250, 252, 254, 256] (by decide +kernel) (by decide +kernel)) (by decide +kernel), by decide +kernel, by decide +kernel, by decide +kernel, by decide⟩
set_option maxRecDepth 100000 in
theorem co_X6 : jm_COk 6 := ⟨rfl, jm_inR (goodIn_r _ [314, 316, 318, 320, 322, 324, 326] (by decide +kernel) (by decide +kernel)) (by decide +kernel), by decide +kernel, by decide +kernel, by decide +kernel, by decide⟩
set_option maxRecDepth 100000 in
theorem co_X7 : jm_COk 7 := ⟨rfl, jm_inR (goodIn_r _ [354, 356, 358, 360, 362, 364] (by decide +kernel) (by decide +kernel)) (by decide +kernel), by decide +kernel, by decide +kernel, by decide +kernel, by decide⟩
set_option maxRecDepth 100000 in
theorem co_X8 : jm_COk 8 := ⟨rfl, jm_inR (goodIn_r _ [409, 411, 413, 415, 417, 419, 421, 423, 425, 427, 429, 431, 433, 435, 437] (by decide +kernel) (by decide +kernel)) (by decide +kernel), by decide +kernel, by decide +kernel, by decide +kernel, by decide⟩
set_option maxRecDepth 100000 in
theorem co_X9 : jm_COk 9 := ⟨rfl, jm_inR (goodIn_r _ [884, 886, 888, 890, 892, 894, 896, 898, 900, 902, 904, 906, 908, 910, 912, 914, 916, 918, 920, 922, 924, 926, 928, 930, 932, 934, 936, 938, 940, 942, 944, 946, 948, 950, 952, 954, 956, 958, 960] (by decide +kernel) (by decide +kernel)) (by decide +kernel), by decide +kernel, by decide +kernel, by decide +kernel, by decide⟩
