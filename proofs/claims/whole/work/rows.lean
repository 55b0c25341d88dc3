section
-- ===== PART A: goes FIRST, ahead of the names: the tables' words, and 'selects' of the private methods out of them =====
/-- a private method of a class that the tables say can be made, by its rows of tables_1 -/
def lw_okq (q : MethodName × Nat) : Prop := (q.1.cls ≠ "java/lang/invoke/MethodHandle" ∧ q.1.cls ≠ "java/lang/invoke/VarHandle") ∧ Cond.instantiable q.1.cls q.2 ∈ tables_1 ∧ Cond.privateMethod q.1 ∈ tables_1 ∧ Cond.instanceMethod q.1 ∈ tables_1
theorem lw_p0 : lw_okq (⟨"StillMinutes", "settleIn", "()V"⟩, 15) := ⟨⟨by decide +kernel, by decide +kernel⟩, List.mem_of_getElem? (i := 16) (by decide +kernel), List.mem_of_getElem? (i := 292) (by decide +kernel), List.mem_of_getElem? (i := 293) (by decide +kernel)⟩
theorem lw_p1 : lw_okq (⟨"StillMinutes$City", "bringsNearer", "(I[I)Z"⟩, 13) := ⟨⟨by decide +kernel, by decide +kernel⟩, List.mem_of_getElem? (i := 24) (by decide +kernel), List.mem_of_getElem? (i := 307) (by decide +kernel), List.mem_of_getElem? (i := 308) (by decide +kernel)⟩
theorem lw_p2 : lw_okq (⟨"StillMinutes$CityReader", "nextToken", "()V"⟩, 9) := ⟨⟨by decide +kernel, by decide +kernel⟩, List.mem_of_getElem? (i := 113) (by decide +kernel), List.mem_of_getElem? (i := 385) (by decide +kernel), List.mem_of_getElem? (i := 386) (by decide +kernel)⟩
theorem lw_p3 : lw_okq (⟨"StillMinutes$CityReader", "readItem", "(I)V"⟩, 9) := ⟨⟨by decide +kernel, by decide +kernel⟩, List.mem_of_getElem? (i := 113) (by decide +kernel), List.mem_of_getElem? (i := 395) (by decide +kernel), List.mem_of_getElem? (i := 396) (by decide +kernel)⟩
theorem lw_p4 : lw_okq (⟨"StillMinutes$CityReader", "readRooms", "(I)V"⟩, 9) := ⟨⟨by decide +kernel, by decide +kernel⟩, List.mem_of_getElem? (i := 113) (by decide +kernel), List.mem_of_getElem? (i := 399) (by decide +kernel), List.mem_of_getElem? (i := 400) (by decide +kernel)⟩
theorem lw_p5 : lw_okq (⟨"StillMinutes$CityReader", "refuse", "()V"⟩, 9) := ⟨⟨by decide +kernel, by decide +kernel⟩, List.mem_of_getElem? (i := 113) (by decide +kernel), List.mem_of_getElem? (i := 403) (by decide +kernel), List.mem_of_getElem? (i := 404) (by decide +kernel)⟩
theorem lw_p6 : lw_okq (⟨"StillMinutes$CityReader", "needNumber", "(II)I"⟩, 9) := ⟨⟨by decide +kernel, by decide +kernel⟩, List.mem_of_getElem? (i := 113) (by decide +kernel), List.mem_of_getElem? (i := 407) (by decide +kernel), List.mem_of_getElem? (i := 408) (by decide +kernel)⟩
theorem lw_p7 : lw_okq (⟨"StillMinutes$CityReader", "readSteps", "()V"⟩, 9) := ⟨⟨by decide +kernel, by decide +kernel⟩, List.mem_of_getElem? (i := 113) (by decide +kernel), List.mem_of_getElem? (i := 411) (by decide +kernel), List.mem_of_getElem? (i := 412) (by decide +kernel)⟩
theorem lw_p8 : lw_okq (⟨"StillMinutes$CityReader", "readDoor", "()V"⟩, 9) := ⟨⟨by decide +kernel, by decide +kernel⟩, List.mem_of_getElem? (i := 113) (by decide +kernel), List.mem_of_getElem? (i := 415) (by decide +kernel), List.mem_of_getElem? (i := 416) (by decide +kernel)⟩
theorem lw_p9 : lw_okq (⟨"StillMinutes$CityReader", "readPerson", "()V"⟩, 9) := ⟨⟨by decide +kernel, by decide +kernel⟩, List.mem_of_getElem? (i := 113) (by decide +kernel), List.mem_of_getElem? (i := 419) (by decide +kernel), List.mem_of_getElem? (i := 420) (by decide +kernel)⟩
theorem lw_p10 : lw_okq (⟨"StillMinutes$CityReader", "readThing", "()V"⟩, 9) := ⟨⟨by decide +kernel, by decide +kernel⟩, List.mem_of_getElem? (i := 113) (by decide +kernel), List.mem_of_getElem? (i := 423) (by decide +kernel), List.mem_of_getElem? (i := 424) (by decide +kernel)⟩
theorem lw_p11 : lw_okq (⟨"StillMinutes$CityReader", "needEnd", "()V"⟩, 9) := ⟨⟨by decide +kernel, by decide +kernel⟩, List.mem_of_getElem? (i := 113) (by decide +kernel), List.mem_of_getElem? (i := 427) (by decide +kernel), List.mem_of_getElem? (i := 428) (by decide +kernel)⟩
theorem lw_p12 : lw_okq (⟨"StillMinutes", "isPerson", "(I)Z"⟩, 15) := ⟨⟨by decide +kernel, by decide +kernel⟩, List.mem_of_getElem? (i := 16) (by decide +kernel), List.mem_of_getElem? (i := 439) (by decide +kernel), List.mem_of_getElem? (i := 440) (by decide +kernel)⟩
theorem lw_p13 : lw_okq (⟨"StillMinutes", "isThing", "(I)Z"⟩, 15) := ⟨⟨by decide +kernel, by decide +kernel⟩, List.mem_of_getElem? (i := 16) (by decide +kernel), List.mem_of_getElem? (i := 447) (by decide +kernel), List.mem_of_getElem? (i := 448) (by decide +kernel)⟩
theorem lw_p14 : lw_okq (⟨"StillMinutes", "roomOfThing", "(I)I"⟩, 15) := ⟨⟨by decide +kernel, by decide +kernel⟩, List.mem_of_getElem? (i := 16) (by decide +kernel), List.mem_of_getElem? (i := 451) (by decide +kernel), List.mem_of_getElem? (i := 452) (by decide +kernel)⟩
theorem lw_p15 : lw_okq (⟨"StillMinutes", "upPeople", "()I"⟩, 15) := ⟨⟨by decide +kernel, by decide +kernel⟩, List.mem_of_getElem? (i := 16) (by decide +kernel), List.mem_of_getElem? (i := 463) (by decide +kernel), List.mem_of_getElem? (i := 464) (by decide +kernel)⟩
def lw_privs_1 : List (MethodName × Nat) := [(⟨"StillMinutes", "settleIn", "()V"⟩, 15), (⟨"StillMinutes$City", "bringsNearer", "(I[I)Z"⟩, 13), (⟨"StillMinutes$CityReader", "nextToken", "()V"⟩, 9), (⟨"StillMinutes$CityReader", "readItem", "(I)V"⟩, 9), (⟨"StillMinutes$CityReader", "readRooms", "(I)V"⟩, 9), (⟨"StillMinutes$CityReader", "refuse", "()V"⟩, 9), (⟨"StillMinutes$CityReader", "needNumber", "(II)I"⟩, 9), (⟨"StillMinutes$CityReader", "readSteps", "()V"⟩, 9), (⟨"StillMinutes$CityReader", "readDoor", "()V"⟩, 9), (⟨"StillMinutes$CityReader", "readPerson", "()V"⟩, 9), (⟨"StillMinutes$CityReader", "readThing", "()V"⟩, 9), (⟨"StillMinutes$CityReader", "needEnd", "()V"⟩, 9), (⟨"StillMinutes", "isPerson", "(I)Z"⟩, 15), (⟨"StillMinutes", "isThing", "(I)Z"⟩, 15), (⟨"StillMinutes", "roomOfThing", "(I)I"⟩, 15), (⟨"StillMinutes", "upPeople", "()I"⟩, 15)]
theorem lw_r1 : ∀ q ∈ lw_privs_1, lw_okq q := List.forall_mem_cons.mpr ⟨lw_p0, List.forall_mem_cons.mpr ⟨lw_p1, List.forall_mem_cons.mpr ⟨lw_p2, List.forall_mem_cons.mpr ⟨lw_p3, List.forall_mem_cons.mpr ⟨lw_p4, List.forall_mem_cons.mpr ⟨lw_p5, List.forall_mem_cons.mpr ⟨lw_p6, List.forall_mem_cons.mpr ⟨lw_p7, List.forall_mem_cons.mpr ⟨lw_p8, List.forall_mem_cons.mpr ⟨lw_p9, List.forall_mem_cons.mpr ⟨lw_p10, List.forall_mem_cons.mpr ⟨lw_p11, List.forall_mem_cons.mpr ⟨lw_p12, List.forall_mem_cons.mpr ⟨lw_p13, List.forall_mem_cons.mpr ⟨lw_p14, List.forall_mem_cons.mpr ⟨lw_p15, fun _ h => absurd h List.not_mem_nil⟩⟩⟩⟩⟩⟩⟩⟩⟩⟩⟩⟩⟩⟩⟩⟩
theorem lw_p16 : lw_okq (⟨"StillMinutes", "isUp", "(I)Z"⟩, 15) := ⟨⟨by decide +kernel, by decide +kernel⟩, List.mem_of_getElem? (i := 16) (by decide +kernel), List.mem_of_getElem? (i := 467) (by decide +kernel), List.mem_of_getElem? (i := 468) (by decide +kernel)⟩
theorem lw_p17 : lw_okq (⟨"StillMinutes", "isRoom", "(I)Z"⟩, 15) := ⟨⟨by decide +kernel, by decide +kernel⟩, List.mem_of_getElem? (i := 16) (by decide +kernel), List.mem_of_getElem? (i := 502) (by decide +kernel), List.mem_of_getElem? (i := 503) (by decide +kernel)⟩
theorem lw_p18 : lw_okq (⟨"StillMinutes", "moveTo", "(III)I"⟩, 15) := ⟨⟨by decide +kernel, by decide +kernel⟩, List.mem_of_getElem? (i := 16) (by decide +kernel), List.mem_of_getElem? (i := 514) (by decide +kernel), List.mem_of_getElem? (i := 515) (by decide +kernel)⟩
theorem lw_p19 : lw_okq (⟨"StillMinutes$PressTable", "fillCarried", "()V"⟩, 7) := ⟨⟨by decide +kernel, by decide +kernel⟩, List.mem_of_getElem? (i := 225) (by decide +kernel), List.mem_of_getElem? (i := 560) (by decide +kernel), List.mem_of_getElem? (i := 561) (by decide +kernel)⟩
theorem lw_p20 : lw_okq (⟨"StillMinutes$PressTable", "isSpot", "(I)Z"⟩, 7) := ⟨⟨by decide +kernel, by decide +kernel⟩, List.mem_of_getElem? (i := 225) (by decide +kernel), List.mem_of_getElem? (i := 564) (by decide +kernel), List.mem_of_getElem? (i := 565) (by decide +kernel)⟩
theorem lw_p21 : lw_okq (⟨"StillMinutes$PressTable", "spotsInReach", "(II)I"⟩, 7) := ⟨⟨by decide +kernel, by decide +kernel⟩, List.mem_of_getElem? (i := 225) (by decide +kernel), List.mem_of_getElem? (i := 569) (by decide +kernel), List.mem_of_getElem? (i := 570) (by decide +kernel)⟩
theorem lw_p22 : lw_okq (⟨"StillMinutes$PressTable", "spotsInRoom", "(I)I"⟩, 7) := ⟨⟨by decide +kernel, by decide +kernel⟩, List.mem_of_getElem? (i := 225) (by decide +kernel), List.mem_of_getElem? (i := 575) (by decide +kernel), List.mem_of_getElem? (i := 576) (by decide +kernel)⟩
theorem lw_p23 : lw_okq (⟨"StillMinutes$PressTable", "fillRow", "(III)Z"⟩, 7) := ⟨⟨by decide +kernel, by decide +kernel⟩, List.mem_of_getElem? (i := 225) (by decide +kernel), List.mem_of_getElem? (i := 579) (by decide +kernel), List.mem_of_getElem? (i := 580) (by decide +kernel)⟩
theorem lw_p24 : lw_okq (⟨"StillMinutes$PressTable", "carriedFrom", "(II)I"⟩, 7) := ⟨⟨by decide +kernel, by decide +kernel⟩, List.mem_of_getElem? (i := 225) (by decide +kernel), List.mem_of_getElem? (i := 583) (by decide +kernel), List.mem_of_getElem? (i := 584) (by decide +kernel)⟩
theorem lw_p25 : lw_okq (⟨"StillMinutes$PressTable", "aSecondLater", "(I)I"⟩, 7) := ⟨⟨by decide +kernel, by decide +kernel⟩, List.mem_of_getElem? (i := 225) (by decide +kernel), List.mem_of_getElem? (i := 587) (by decide +kernel), List.mem_of_getElem? (i := 588) (by decide +kernel)⟩
theorem lw_p26 : lw_okq (⟨"StillMinutes$DoneSearch", "settleThing", "(LStillMinutes$City;LStillMinutes$Moment;LStillMinutes$Finds;I)V"⟩, 2) := ⟨⟨by decide +kernel, by decide +kernel⟩, List.mem_of_getElem? (i := 254) (by decide +kernel), List.mem_of_getElem? (i := 633) (by decide +kernel), List.mem_of_getElem? (i := 634) (by decide +kernel)⟩
theorem lw_p27 : lw_okq (⟨"StillMinutes$DoneSearch", "mostLeft", "(LStillMinutes$City;II)I"⟩, 2) := ⟨⟨by decide +kernel, by decide +kernel⟩, List.mem_of_getElem? (i := 254) (by decide +kernel), List.mem_of_getElem? (i := 645) (by decide +kernel), List.mem_of_getElem? (i := 646) (by decide +kernel)⟩
theorem lw_p28 : lw_okq (⟨"StillMinutes", "anybodyCarries", "(III)Z"⟩, 15) := ⟨⟨by decide +kernel, by decide +kernel⟩, List.mem_of_getElem? (i := 16) (by decide +kernel), List.mem_of_getElem? (i := 662) (by decide +kernel), List.mem_of_getElem? (i := 663) (by decide +kernel)⟩
theorem lw_p29 : lw_okq (⟨"StillMinutes$TakingGame", "canTake", "(II)Z"⟩, 6) := ⟨⟨by decide +kernel, by decide +kernel⟩, List.mem_of_getElem? (i := 267) (by decide +kernel), List.mem_of_getElem? (i := 682) (by decide +kernel), List.mem_of_getElem? (i := 683) (by decide +kernel)⟩
theorem lw_p30 : lw_okq (⟨"StillMinutes", "ratePerson", "(I)I"⟩, 15) := ⟨⟨by decide +kernel, by decide +kernel⟩, List.mem_of_getElem? (i := 16) (by decide +kernel), List.mem_of_getElem? (i := 718) (by decide +kernel), List.mem_of_getElem? (i := 719) (by decide +kernel)⟩
theorem lw_p31 : lw_okq (⟨"StillMinutes", "rateBarber", "(I)I"⟩, 15) := ⟨⟨by decide +kernel, by decide +kernel⟩, List.mem_of_getElem? (i := 16) (by decide +kernel), List.mem_of_getElem? (i := 722) (by decide +kernel), List.mem_of_getElem? (i := 723) (by decide +kernel)⟩
def lw_privs_2 : List (MethodName × Nat) := [(⟨"StillMinutes", "isUp", "(I)Z"⟩, 15), (⟨"StillMinutes", "isRoom", "(I)Z"⟩, 15), (⟨"StillMinutes", "moveTo", "(III)I"⟩, 15), (⟨"StillMinutes$PressTable", "fillCarried", "()V"⟩, 7), (⟨"StillMinutes$PressTable", "isSpot", "(I)Z"⟩, 7), (⟨"StillMinutes$PressTable", "spotsInReach", "(II)I"⟩, 7), (⟨"StillMinutes$PressTable", "spotsInRoom", "(I)I"⟩, 7), (⟨"StillMinutes$PressTable", "fillRow", "(III)Z"⟩, 7), (⟨"StillMinutes$PressTable", "carriedFrom", "(II)I"⟩, 7), (⟨"StillMinutes$PressTable", "aSecondLater", "(I)I"⟩, 7), (⟨"StillMinutes$DoneSearch", "settleThing", "(LStillMinutes$City;LStillMinutes$Moment;LStillMinutes$Finds;I)V"⟩, 2), (⟨"StillMinutes$DoneSearch", "mostLeft", "(LStillMinutes$City;II)I"⟩, 2), (⟨"StillMinutes", "anybodyCarries", "(III)Z"⟩, 15), (⟨"StillMinutes$TakingGame", "canTake", "(II)Z"⟩, 6), (⟨"StillMinutes", "ratePerson", "(I)I"⟩, 15), (⟨"StillMinutes", "rateBarber", "(I)I"⟩, 15)]
theorem lw_r2 : ∀ q ∈ lw_privs_2, lw_okq q := List.forall_mem_cons.mpr ⟨lw_p16, List.forall_mem_cons.mpr ⟨lw_p17, List.forall_mem_cons.mpr ⟨lw_p18, List.forall_mem_cons.mpr ⟨lw_p19, List.forall_mem_cons.mpr ⟨lw_p20, List.forall_mem_cons.mpr ⟨lw_p21, List.forall_mem_cons.mpr ⟨lw_p22, List.forall_mem_cons.mpr ⟨lw_p23, List.forall_mem_cons.mpr ⟨lw_p24, List.forall_mem_cons.mpr ⟨lw_p25, List.forall_mem_cons.mpr ⟨lw_p26, List.forall_mem_cons.mpr ⟨lw_p27, List.forall_mem_cons.mpr ⟨lw_p28, List.forall_mem_cons.mpr ⟨lw_p29, List.forall_mem_cons.mpr ⟨lw_p30, List.forall_mem_cons.mpr ⟨lw_p31, fun _ h => absurd h List.not_mem_nil⟩⟩⟩⟩⟩⟩⟩⟩⟩⟩⟩⟩⟩⟩⟩⟩
theorem lw_p32 : lw_okq (⟨"StillMinutes", "rateThief", "(I)I"⟩, 15) := ⟨⟨by decide +kernel, by decide +kernel⟩, List.mem_of_getElem? (i := 16) (by decide +kernel), List.mem_of_getElem? (i := 727) (by decide +kernel), List.mem_of_getElem? (i := 728) (by decide +kernel)⟩
theorem lw_p33 : lw_okq (⟨"StillMinutes", "rateGrey", "(I)I"⟩, 15) := ⟨⟨by decide +kernel, by decide +kernel⟩, List.mem_of_getElem? (i := 16) (by decide +kernel), List.mem_of_getElem? (i := 732) (by decide +kernel), List.mem_of_getElem? (i := 733) (by decide +kernel)⟩
theorem lw_p34 : lw_okq (⟨"StillMinutes", "rateTenth", "(I)I"⟩, 15) := ⟨⟨by decide +kernel, by decide +kernel⟩, List.mem_of_getElem? (i := 16) (by decide +kernel), List.mem_of_getElem? (i := 737) (by decide +kernel), List.mem_of_getElem? (i := 738) (by decide +kernel)⟩
theorem lw_p35 : lw_okq (⟨"StillMinutes", "rateChild", "(I)I"⟩, 15) := ⟨⟨by decide +kernel, by decide +kernel⟩, List.mem_of_getElem? (i := 16) (by decide +kernel), List.mem_of_getElem? (i := 742) (by decide +kernel), List.mem_of_getElem? (i := 743) (by decide +kernel)⟩
theorem lw_p36 : lw_okq (⟨"StillMinutesModel", "next", "()V"⟩, 39) := ⟨⟨by decide +kernel, by decide +kernel⟩, List.mem_of_getElem? (i := 764) (by decide +kernel), List.mem_of_getElem? (i := 903) (by decide +kernel), List.mem_of_getElem? (i := 904) (by decide +kernel)⟩
theorem lw_p37 : lw_okq (⟨"StillMinutesModel", "letterAt", "(I)I"⟩, 39) := ⟨⟨by decide +kernel, by decide +kernel⟩, List.mem_of_getElem? (i := 764) (by decide +kernel), List.mem_of_getElem? (i := 907) (by decide +kernel), List.mem_of_getElem? (i := 908) (by decide +kernel)⟩
theorem lw_p38 : lw_okq (⟨"StillMinutesModel", "readItem", "(Z)V"⟩, 39) := ⟨⟨by decide +kernel, by decide +kernel⟩, List.mem_of_getElem? (i := 764) (by decide +kernel), List.mem_of_getElem? (i := 911) (by decide +kernel), List.mem_of_getElem? (i := 912) (by decide +kernel)⟩
theorem lw_p39 : lw_okq (⟨"StillMinutesModel", "readRooms", "(Z)V"⟩, 39) := ⟨⟨by decide +kernel, by decide +kernel⟩, List.mem_of_getElem? (i := 764) (by decide +kernel), List.mem_of_getElem? (i := 915) (by decide +kernel), List.mem_of_getElem? (i := 916) (by decide +kernel)⟩
theorem lw_p40 : lw_okq (⟨"StillMinutesModel", "must", "(Z)V"⟩, 39) := ⟨⟨by decide +kernel, by decide +kernel⟩, List.mem_of_getElem? (i := 764) (by decide +kernel), List.mem_of_getElem? (i := 919) (by decide +kernel), List.mem_of_getElem? (i := 920) (by decide +kernel)⟩
theorem lw_p41 : lw_okq (⟨"StillMinutesModel", "readInto", "([IIII)I"⟩, 39) := ⟨⟨by decide +kernel, by decide +kernel⟩, List.mem_of_getElem? (i := 764) (by decide +kernel), List.mem_of_getElem? (i := 923) (by decide +kernel), List.mem_of_getElem? (i := 924) (by decide +kernel)⟩
theorem lw_p42 : lw_okq (⟨"StillMinutesModel", "readSteps", "()V"⟩, 39) := ⟨⟨by decide +kernel, by decide +kernel⟩, List.mem_of_getElem? (i := 764) (by decide +kernel), List.mem_of_getElem? (i := 927) (by decide +kernel), List.mem_of_getElem? (i := 928) (by decide +kernel)⟩
theorem lw_p43 : lw_okq (⟨"StillMinutesModel", "readDoor", "()V"⟩, 39) := ⟨⟨by decide +kernel, by decide +kernel⟩, List.mem_of_getElem? (i := 764) (by decide +kernel), List.mem_of_getElem? (i := 931) (by decide +kernel), List.mem_of_getElem? (i := 932) (by decide +kernel)⟩
theorem lw_p44 : lw_okq (⟨"StillMinutesModel", "readPerson", "()V"⟩, 39) := ⟨⟨by decide +kernel, by decide +kernel⟩, List.mem_of_getElem? (i := 764) (by decide +kernel), List.mem_of_getElem? (i := 935) (by decide +kernel), List.mem_of_getElem? (i := 936) (by decide +kernel)⟩
theorem lw_p45 : lw_okq (⟨"StillMinutesModel", "readThing", "()V"⟩, 39) := ⟨⟨by decide +kernel, by decide +kernel⟩, List.mem_of_getElem? (i := 764) (by decide +kernel), List.mem_of_getElem? (i := 939) (by decide +kernel), List.mem_of_getElem? (i := 940) (by decide +kernel)⟩
theorem lw_p46 : lw_okq (⟨"StillMinutesModel", "settles", "()V"⟩, 39) := ⟨⟨by decide +kernel, by decide +kernel⟩, List.mem_of_getElem? (i := 764) (by decide +kernel), List.mem_of_getElem? (i := 943) (by decide +kernel), List.mem_of_getElem? (i := 944) (by decide +kernel)⟩
theorem lw_p47 : lw_okq (⟨"StillMinutesModel", "isPerson", "(I)Z"⟩, 39) := ⟨⟨by decide +kernel, by decide +kernel⟩, List.mem_of_getElem? (i := 764) (by decide +kernel), List.mem_of_getElem? (i := 955) (by decide +kernel), List.mem_of_getElem? (i := 956) (by decide +kernel)⟩
def lw_privs_3 : List (MethodName × Nat) := [(⟨"StillMinutes", "rateThief", "(I)I"⟩, 15), (⟨"StillMinutes", "rateGrey", "(I)I"⟩, 15), (⟨"StillMinutes", "rateTenth", "(I)I"⟩, 15), (⟨"StillMinutes", "rateChild", "(I)I"⟩, 15), (⟨"StillMinutesModel", "next", "()V"⟩, 39), (⟨"StillMinutesModel", "letterAt", "(I)I"⟩, 39), (⟨"StillMinutesModel", "readItem", "(Z)V"⟩, 39), (⟨"StillMinutesModel", "readRooms", "(Z)V"⟩, 39), (⟨"StillMinutesModel", "must", "(Z)V"⟩, 39), (⟨"StillMinutesModel", "readInto", "([IIII)I"⟩, 39), (⟨"StillMinutesModel", "readSteps", "()V"⟩, 39), (⟨"StillMinutesModel", "readDoor", "()V"⟩, 39), (⟨"StillMinutesModel", "readPerson", "()V"⟩, 39), (⟨"StillMinutesModel", "readThing", "()V"⟩, 39), (⟨"StillMinutesModel", "settles", "()V"⟩, 39), (⟨"StillMinutesModel", "isPerson", "(I)Z"⟩, 39)]
theorem lw_r3 : ∀ q ∈ lw_privs_3, lw_okq q := List.forall_mem_cons.mpr ⟨lw_p32, List.forall_mem_cons.mpr ⟨lw_p33, List.forall_mem_cons.mpr ⟨lw_p34, List.forall_mem_cons.mpr ⟨lw_p35, List.forall_mem_cons.mpr ⟨lw_p36, List.forall_mem_cons.mpr ⟨lw_p37, List.forall_mem_cons.mpr ⟨lw_p38, List.forall_mem_cons.mpr ⟨lw_p39, List.forall_mem_cons.mpr ⟨lw_p40, List.forall_mem_cons.mpr ⟨lw_p41, List.forall_mem_cons.mpr ⟨lw_p42, List.forall_mem_cons.mpr ⟨lw_p43, List.forall_mem_cons.mpr ⟨lw_p44, List.forall_mem_cons.mpr ⟨lw_p45, List.forall_mem_cons.mpr ⟨lw_p46, List.forall_mem_cons.mpr ⟨lw_p47, fun _ h => absurd h List.not_mem_nil⟩⟩⟩⟩⟩⟩⟩⟩⟩⟩⟩⟩⟩⟩⟩⟩
theorem lw_p48 : lw_okq (⟨"StillMinutesModel", "isThing", "(I)Z"⟩, 39) := ⟨⟨by decide +kernel, by decide +kernel⟩, List.mem_of_getElem? (i := 764) (by decide +kernel), List.mem_of_getElem? (i := 966) (by decide +kernel), List.mem_of_getElem? (i := 967) (by decide +kernel)⟩
theorem lw_p49 : lw_okq (⟨"StillMinutesModel", "remembers", "()V"⟩, 39) := ⟨⟨by decide +kernel, by decide +kernel⟩, List.mem_of_getElem? (i := 764) (by decide +kernel), List.mem_of_getElem? (i := 978) (by decide +kernel), List.mem_of_getElem? (i := 979) (by decide +kernel)⟩
theorem lw_p50 : lw_okq (⟨"StillMinutesModel", "isRoom", "(I)Z"⟩, 39) := ⟨⟨by decide +kernel, by decide +kernel⟩, List.mem_of_getElem? (i := 764) (by decide +kernel), List.mem_of_getElem? (i := 990) (by decide +kernel), List.mem_of_getElem? (i := 991) (by decide +kernel)⟩
theorem lw_p51 : lw_okq (⟨"StillMinutesModel", "findFar", "(I)V"⟩, 39) := ⟨⟨by decide +kernel, by decide +kernel⟩, List.mem_of_getElem? (i := 764) (by decide +kernel), List.mem_of_getElem? (i := 994) (by decide +kernel), List.mem_of_getElem? (i := 995) (by decide +kernel)⟩
theorem lw_p52 : lw_okq (⟨"StillMinutesModel", "by", "(III)I"⟩, 39) := ⟨⟨by decide +kernel, by decide +kernel⟩, List.mem_of_getElem? (i := 764) (by decide +kernel), List.mem_of_getElem? (i := 998) (by decide +kernel), List.mem_of_getElem? (i := 999) (by decide +kernel)⟩
theorem lw_p53 : lw_okq (⟨"StillMinutesModel", "mayGo", "(II)Z"⟩, 39) := ⟨⟨by decide +kernel, by decide +kernel⟩, List.mem_of_getElem? (i := 764) (by decide +kernel), List.mem_of_getElem? (i := 1002) (by decide +kernel), List.mem_of_getElem? (i := 1003) (by decide +kernel)⟩
theorem lw_p54 : lw_okq (⟨"StillMinutesModel", "placeIn", "(II)I"⟩, 39) := ⟨⟨by decide +kernel, by decide +kernel⟩, List.mem_of_getElem? (i := 764) (by decide +kernel), List.mem_of_getElem? (i := 1006) (by decide +kernel), List.mem_of_getElem? (i := 1007) (by decide +kernel)⟩
theorem lw_p55 : lw_okq (⟨"StillMinutesModel", "roomIn", "(II)I"⟩, 39) := ⟨⟨by decide +kernel, by decide +kernel⟩, List.mem_of_getElem? (i := 764) (by decide +kernel), List.mem_of_getElem? (i := 1022) (by decide +kernel), List.mem_of_getElem? (i := 1023) (by decide +kernel)⟩
theorem lw_p56 : lw_okq (⟨"StillMinutesModel", "isNow", "(I)I"⟩, 39) := ⟨⟨by decide +kernel, by decide +kernel⟩, List.mem_of_getElem? (i := 764) (by decide +kernel), List.mem_of_getElem? (i := 1026) (by decide +kernel), List.mem_of_getElem? (i := 1027) (by decide +kernel)⟩
theorem lw_p57 : lw_okq (⟨"StillMinutesModel", "later", "(III)I"⟩, 39) := ⟨⟨by decide +kernel, by decide +kernel⟩, List.mem_of_getElem? (i := 764) (by decide +kernel), List.mem_of_getElem? (i := 1030) (by decide +kernel), List.mem_of_getElem? (i := 1031) (by decide +kernel)⟩
theorem lw_p58 : lw_okq (⟨"StillMinutesModel", "roomOf", "(II)I"⟩, 39) := ⟨⟨by decide +kernel, by decide +kernel⟩, List.mem_of_getElem? (i := 764) (by decide +kernel), List.mem_of_getElem? (i := 1034) (by decide +kernel), List.mem_of_getElem? (i := 1035) (by decide +kernel)⟩
theorem lw_p59 : lw_okq (⟨"StillMinutesModel", "mayPress", "()I"⟩, 39) := ⟨⟨by decide +kernel, by decide +kernel⟩, List.mem_of_getElem? (i := 764) (by decide +kernel), List.mem_of_getElem? (i := 1050) (by decide +kernel), List.mem_of_getElem? (i := 1051) (by decide +kernel)⟩
theorem lw_p60 : lw_okq (⟨"StillMinutesModel", "fewest", "(IIII)I"⟩, 39) := ⟨⟨by decide +kernel, by decide +kernel⟩, List.mem_of_getElem? (i := 764) (by decide +kernel), List.mem_of_getElem? (i := 1054) (by decide +kernel), List.mem_of_getElem? (i := 1055) (by decide +kernel)⟩
theorem lw_p61 : lw_okq (⟨"StillMinutesModel", "pressesMore", "(II)V"⟩, 39) := ⟨⟨by decide +kernel, by decide +kernel⟩, List.mem_of_getElem? (i := 764) (by decide +kernel), List.mem_of_getElem? (i := 1058) (by decide +kernel), List.mem_of_getElem? (i := 1059) (by decide +kernel)⟩
theorem lw_p62 : lw_okq (⟨"StillMinutesModel", "carriesOn", "(IIII)V"⟩, 39) := ⟨⟨by decide +kernel, by decide +kernel⟩, List.mem_of_getElem? (i := 764) (by decide +kernel), List.mem_of_getElem? (i := 1062) (by decide +kernel), List.mem_of_getElem? (i := 1063) (by decide +kernel)⟩
theorem lw_p63 : lw_okq (⟨"StillMinutesModel", "putIn", "(II)I"⟩, 39) := ⟨⟨by decide +kernel, by decide +kernel⟩, List.mem_of_getElem? (i := 764) (by decide +kernel), List.mem_of_getElem? (i := 1066) (by decide +kernel), List.mem_of_getElem? (i := 1067) (by decide +kernel)⟩
def lw_privs_4 : List (MethodName × Nat) := [(⟨"StillMinutesModel", "isThing", "(I)Z"⟩, 39), (⟨"StillMinutesModel", "remembers", "()V"⟩, 39), (⟨"StillMinutesModel", "isRoom", "(I)Z"⟩, 39), (⟨"StillMinutesModel", "findFar", "(I)V"⟩, 39), (⟨"StillMinutesModel", "by", "(III)I"⟩, 39), (⟨"StillMinutesModel", "mayGo", "(II)Z"⟩, 39), (⟨"StillMinutesModel", "placeIn", "(II)I"⟩, 39), (⟨"StillMinutesModel", "roomIn", "(II)I"⟩, 39), (⟨"StillMinutesModel", "isNow", "(I)I"⟩, 39), (⟨"StillMinutesModel", "later", "(III)I"⟩, 39), (⟨"StillMinutesModel", "roomOf", "(II)I"⟩, 39), (⟨"StillMinutesModel", "mayPress", "()I"⟩, 39), (⟨"StillMinutesModel", "fewest", "(IIII)I"⟩, 39), (⟨"StillMinutesModel", "pressesMore", "(II)V"⟩, 39), (⟨"StillMinutesModel", "carriesOn", "(IIII)V"⟩, 39), (⟨"StillMinutesModel", "putIn", "(II)I"⟩, 39)]
theorem lw_r4 : ∀ q ∈ lw_privs_4, lw_okq q := List.forall_mem_cons.mpr ⟨lw_p48, List.forall_mem_cons.mpr ⟨lw_p49, List.forall_mem_cons.mpr ⟨lw_p50, List.forall_mem_cons.mpr ⟨lw_p51, List.forall_mem_cons.mpr ⟨lw_p52, List.forall_mem_cons.mpr ⟨lw_p53, List.forall_mem_cons.mpr ⟨lw_p54, List.forall_mem_cons.mpr ⟨lw_p55, List.forall_mem_cons.mpr ⟨lw_p56, List.forall_mem_cons.mpr ⟨lw_p57, List.forall_mem_cons.mpr ⟨lw_p58, List.forall_mem_cons.mpr ⟨lw_p59, List.forall_mem_cons.mpr ⟨lw_p60, List.forall_mem_cons.mpr ⟨lw_p61, List.forall_mem_cons.mpr ⟨lw_p62, List.forall_mem_cons.mpr ⟨lw_p63, fun _ h => absurd h List.not_mem_nil⟩⟩⟩⟩⟩⟩⟩⟩⟩⟩⟩⟩⟩⟩⟩⟩
theorem lw_p64 : lw_okq (⟨"StillMinutesModel", "notes", "(II)V"⟩, 39) := ⟨⟨by decide +kernel, by decide +kernel⟩, List.mem_of_getElem? (i := 764) (by decide +kernel), List.mem_of_getElem? (i := 1070) (by decide +kernel), List.mem_of_getElem? (i := 1071) (by decide +kernel)⟩
theorem lw_p65 : lw_okq (⟨"StillMinutesModel", "canHave", "(I)Z"⟩, 39) := ⟨⟨by decide +kernel, by decide +kernel⟩, List.mem_of_getElem? (i := 764) (by decide +kernel), List.mem_of_getElem? (i := 1089) (by decide +kernel), List.mem_of_getElem? (i := 1090) (by decide +kernel)⟩
theorem lw_p66 : lw_okq (⟨"StillMinutesModel", "isFound", "(I)Z"⟩, 39) := ⟨⟨by decide +kernel, by decide +kernel⟩, List.mem_of_getElem? (i := 764) (by decide +kernel), List.mem_of_getElem? (i := 1093) (by decide +kernel), List.mem_of_getElem? (i := 1094) (by decide +kernel)⟩
theorem lw_p67 : lw_okq (⟨"StillMinutesModel", "findCosts", "(I)V"⟩, 39) := ⟨⟨by decide +kernel, by decide +kernel⟩, List.mem_of_getElem? (i := 764) (by decide +kernel), List.mem_of_getElem? (i := 1097) (by decide +kernel), List.mem_of_getElem? (i := 1098) (by decide +kernel)⟩
theorem lw_p68 : lw_okq (⟨"StillMinutesModel", "isSo", "(II)Z"⟩, 39) := ⟨⟨by decide +kernel, by decide +kernel⟩, List.mem_of_getElem? (i := 764) (by decide +kernel), List.mem_of_getElem? (i := 1101) (by decide +kernel), List.mem_of_getElem? (i := 1102) (by decide +kernel)⟩
theorem lw_p69 : lw_okq (⟨"StillMinutesModel", "canCarry", "(III)Z"⟩, 39) := ⟨⟨by decide +kernel, by decide +kernel⟩, List.mem_of_getElem? (i := 764) (by decide +kernel), List.mem_of_getElem? (i := 1109) (by decide +kernel), List.mem_of_getElem? (i := 1110) (by decide +kernel)⟩
theorem lw_p70 : lw_okq (⟨"StillMinutesModel", "comesBack", "(II)V"⟩, 39) := ⟨⟨by decide +kernel, by decide +kernel⟩, List.mem_of_getElem? (i := 764) (by decide +kernel), List.mem_of_getElem? (i := 1118) (by decide +kernel), List.mem_of_getElem? (i := 1119) (by decide +kernel)⟩
theorem lw_p71 : lw_okq (⟨"StillMinutesModel", "triesOn", "(II)Z"⟩, 39) := ⟨⟨by decide +kernel, by decide +kernel⟩, List.mem_of_getElem? (i := 764) (by decide +kernel), List.mem_of_getElem? (i := 1122) (by decide +kernel), List.mem_of_getElem? (i := 1123) (by decide +kernel)⟩
theorem lw_p72 : lw_okq (⟨"StillMinutesModel", "copiesOn", "(I)V"⟩, 39) := ⟨⟨by decide +kernel, by decide +kernel⟩, List.mem_of_getElem? (i := 764) (by decide +kernel), List.mem_of_getElem? (i := 1126) (by decide +kernel), List.mem_of_getElem? (i := 1127) (by decide +kernel)⟩
theorem lw_p73 : lw_okq (⟨"StillMinutesModel", "personRate", "(I)I"⟩, 39) := ⟨⟨by decide +kernel, by decide +kernel⟩, List.mem_of_getElem? (i := 764) (by decide +kernel), List.mem_of_getElem? (i := 1142) (by decide +kernel), List.mem_of_getElem? (i := 1143) (by decide +kernel)⟩
theorem lw_p74 : lw_okq (⟨"StillMinutesModel", "barberRate", "(I)I"⟩, 39) := ⟨⟨by decide +kernel, by decide +kernel⟩, List.mem_of_getElem? (i := 764) (by decide +kernel), List.mem_of_getElem? (i := 1146) (by decide +kernel), List.mem_of_getElem? (i := 1147) (by decide +kernel)⟩
theorem lw_p75 : lw_okq (⟨"StillMinutesModel", "thiefRate", "(I)I"⟩, 39) := ⟨⟨by decide +kernel, by decide +kernel⟩, List.mem_of_getElem? (i := 764) (by decide +kernel), List.mem_of_getElem? (i := 1151) (by decide +kernel), List.mem_of_getElem? (i := 1152) (by decide +kernel)⟩
def lw_privs_5 : List (MethodName × Nat) := [(⟨"StillMinutesModel", "notes", "(II)V"⟩, 39), (⟨"StillMinutesModel", "canHave", "(I)Z"⟩, 39), (⟨"StillMinutesModel", "isFound", "(I)Z"⟩, 39), (⟨"StillMinutesModel", "findCosts", "(I)V"⟩, 39), (⟨"StillMinutesModel", "isSo", "(II)Z"⟩, 39), (⟨"StillMinutesModel", "canCarry", "(III)Z"⟩, 39), (⟨"StillMinutesModel", "comesBack", "(II)V"⟩, 39), (⟨"StillMinutesModel", "triesOn", "(II)Z"⟩, 39), (⟨"StillMinutesModel", "copiesOn", "(I)V"⟩, 39), (⟨"StillMinutesModel", "personRate", "(I)I"⟩, 39), (⟨"StillMinutesModel", "barberRate", "(I)I"⟩, 39), (⟨"StillMinutesModel", "thiefRate", "(I)I"⟩, 39)]
theorem lw_r5 : ∀ q ∈ lw_privs_5, lw_okq q := List.forall_mem_cons.mpr ⟨lw_p64, List.forall_mem_cons.mpr ⟨lw_p65, List.forall_mem_cons.mpr ⟨lw_p66, List.forall_mem_cons.mpr ⟨lw_p67, List.forall_mem_cons.mpr ⟨lw_p68, List.forall_mem_cons.mpr ⟨lw_p69, List.forall_mem_cons.mpr ⟨lw_p70, List.forall_mem_cons.mpr ⟨lw_p71, List.forall_mem_cons.mpr ⟨lw_p72, List.forall_mem_cons.mpr ⟨lw_p73, List.forall_mem_cons.mpr ⟨lw_p74, List.forall_mem_cons.mpr ⟨lw_p75, fun _ h => absurd h List.not_mem_nil⟩⟩⟩⟩⟩⟩⟩⟩⟩⟩⟩⟩
def lw_privs : List (MethodName × Nat) := lw_privs_1 ++ (lw_privs_2 ++ (lw_privs_3 ++ (lw_privs_4 ++ (lw_privs_5))))
def lw_tbl : List Cond := k2_sels lw_privs ++ tables_1
theorem lw_privs_ok : ∀ q ∈ lw_privs, lw_okq q := by
  show ∀ q ∈ lw_privs_1 ++ (lw_privs_2 ++ (lw_privs_3 ++ (lw_privs_4 ++ (lw_privs_5)))), lw_okq q
  exact List.forall_mem_append.mpr ⟨lw_r1, List.forall_mem_append.mpr ⟨lw_r2, List.forall_mem_append.mpr ⟨lw_r3, List.forall_mem_append.mpr ⟨lw_r4, lw_r5⟩⟩⟩⟩
-- ===== names, by program =====
theorem goodIn_r {big : List Cond} (ws : List Cond) (ps : List Nat) (hp : ws = ps.filterMap (fun i => big[i]?)) (h : ws.all goodWord = true) : GoodIn big ws := by
  intro w hw
  have h1 := List.all_eq_true.mp h w hw
  rw [hp] at hw
  obtain ⟨i, -, hi⟩ := List.mem_filterMap.mp hw
  have hm : w ∈ big := by first | exact List.mem_of_getElem? hi | exact List.getElem?_mem hi
  exact ⟨hm, good_of_word h1⟩
def jm_gt : List Cond := lw_tbl.filter goodWord
theorem jm_in {w : Cond} (i : Nat) (h : lw_tbl[i]? = some w) (g : goodWord w = true) : w ∈ jm_gt := List.mem_filter.mpr ⟨List.mem_of_getElem? h, g⟩
theorem jm_inR {ws : List Cond} (h : GoodIn lw_tbl ws) (h2 : ws.all goodWord = true) : ∀ w ∈ ws, w ∈ jm_gt := fun w hw => List.mem_filter.mpr ⟨(h w hw).1, List.all_eq_true.mp h2 w hw⟩
def RX0 : String := "StillMinutes$City"
def TX0 : u_T := fun k => match k with
  | 0 => ("StillMinutes$City", "rooms", "I", false)
  | 1 => ("StillMinutes$City", "steps", "I", false)
  | 2 => ("StillMinutes$City", "doors", "I", false)
  | 3 => ("StillMinutes$City", "people", "I", false)
  | 4 => ("StillMinutes$City", "things", "I", false)
  | 5 => ("StillMinutes$City", "doorFrom", "[I", true)
  | 6 => ("StillMinutes$City", "doorTo", "[I", true)
  | 7 => ("StillMinutes$City", "doorShut", "[I", true)
  | 8 => ("StillMinutes$City", "home", "[I", true)
  | 9 => ("StillMinutes$City", "ageAtFirst", "[I", true)
  | 10 => ("StillMinutes$City", "roundLength", "[I", true)
  | 11 => ("StillMinutes$City", "round", "[[I", true)
  | _ => ("StillMinutes$City", "distance", "[[I", true)
def tyX0 : Nat → FieldType := fun k => match k with
  | 0 => .int
  | 1 => .int
  | 2 => .int
  | 3 => .int
  | 4 => .int
  | 5 => .array .int
  | 6 => .array .int
  | 7 => .array .int
  | 8 => .array .int
  | 9 => .array .int
  | 10 => .array .int
  | 11 => .array (.array .int)
  | _ => .array (.array .int)
def RX1 : String := "StillMinutes$CityReader"
def TX1 : u_T := fun k => match k with
  | 0 => ("StillMinutes$CityReader", "text", "[I", false)
  | 1 => ("StillMinutes$CityReader", "length", "I", false)
  | 2 => ("StillMinutes$CityReader", "city", "LStillMinutes$City;", false)
  | 3 => ("StillMinutes$CityReader", "at", "I", false)
  | 4 => ("StillMinutes$CityReader", "token", "I", false)
  | 5 => ("StillMinutes$CityReader", "start", "I", false)
  | 6 => ("StillMinutes$CityReader", "value", "I", false)
  | 7 => ("StillMinutes$CityReader", "stepsTold", "Z", false)
  | _ => ("StillMinutes$CityReader", "fault", "I", false)
def tyX1 : Nat → FieldType := fun k => match k with
  | 0 => .array .int
  | 1 => .int
  | 2 => .object "StillMinutes$City"
  | 3 => .int
  | 4 => .int
  | 5 => .int
  | 6 => .int
  | 7 => .boolean
  | _ => .int
def RX2 : String := "StillMinutes$DoneSearch"
def TX2 : u_T := fun k => match k with
  | 0 => ("StillMinutes$DoneSearch", "left", "[I", true)
  | _ => ("StillMinutes$DoneSearch", "leftThen", "[I", true)
def tyX2 : Nat → FieldType := fun k => match k with
  | 0 => .array .int
  | _ => .array .int
def RX3 : String := "StillMinutes$Finds"
def TX3 : u_T := fun k => match k with
  | 0 => ("StillMinutes$Finds", "many", "I", false)
  | 1 => ("StillMinutes$Finds", "thing", "[I", true)
  | 2 => ("StillMinutes$Finds", "room", "[I", true)
  | _ => ("StillMinutes$Finds", "seconds", "[I", true)
def tyX3 : Nat → FieldType := fun k => match k with
  | 0 => .int
  | 1 => .array .int
  | 2 => .array .int
  | _ => .array .int
def RX4 : String := "StillMinutes$History"
def TX4 : u_T := fun k => match k with
  | 0 => ("StillMinutes$History", "moments", "[LStillMinutes$Moment;", true)
  | 1 => ("StillMinutes$History", "next", "I", false)
  | _ => ("StillMinutes$History", "known", "I", false)
def tyX4 : Nat → FieldType := fun k => match k with
  | 0 => .array (.object "StillMinutes$Moment")
  | 1 => .int
  | _ => .int
def RX5 : String := "StillMinutes$Moment"
def TX5 : u_T := fun k => match k with
  | 0 => ("StillMinutes$Moment", "second", "I", false)
  | 1 => ("StillMinutes$Moment", "pressed", "I", false)
  | 2 => ("StillMinutes$Moment", "room", "[I", true)
  | 3 => ("StillMinutes$Moment", "age", "[I", true)
  | 4 => ("StillMinutes$Moment", "left", "[I", true)
  | _ => ("StillMinutes$Moment", "spot", "[I", true)
def tyX5 : Nat → FieldType := fun k => match k with
  | 0 => .int
  | 1 => .int
  | 2 => .array .int
  | 3 => .array .int
  | 4 => .array .int
  | _ => .array .int
def RX6 : String := "StillMinutes$PressTable"
def TX6 : u_T := fun k => match k with
  | 0 => ("StillMinutes$PressTable", "city", "LStillMinutes$City;", false)
  | 1 => ("StillMinutes$PressTable", "now", "LStillMinutes$Moment;", false)
  | 2 => ("StillMinutes$PressTable", "thing", "I", false)
  | 3 => ("StillMinutes$PressTable", "rested", "I", false)
  | 4 => ("StillMinutes$PressTable", "spots", "[[I", true)
  | 5 => ("StillMinutes$PressTable", "carried", "[[I", true)
  | _ => ("StillMinutes$PressTable", "comes", "[Z", true)
def tyX6 : Nat → FieldType := fun k => match k with
  | 0 => .object "StillMinutes$City"
  | 1 => .object "StillMinutes$Moment"
  | 2 => .int
  | 3 => .int
  | 4 => .array (.array .int)
  | 5 => .array (.array .int)
  | _ => .array .boolean
def RX7 : String := "StillMinutes$TakingGame"
def TX7 : u_T := fun k => match k with
  | 0 => ("StillMinutes$TakingGame", "city", "LStillMinutes$City;", false)
  | 1 => ("StillMinutes$TakingGame", "taken", "I", false)
  | 2 => ("StillMinutes$TakingGame", "thingRoom", "[I", true)
  | 3 => ("StillMinutes$TakingGame", "room", "[I", true)
  | 4 => ("StillMinutes$TakingGame", "left", "[I", true)
  | _ => ("StillMinutes$TakingGame", "ended", "[Z", true)
def tyX7 : Nat → FieldType := fun k => match k with
  | 0 => .object "StillMinutes$City"
  | 1 => .int
  | 2 => .array .int
  | 3 => .array .int
  | 4 => .array .int
  | _ => .array .boolean
def RX8 : String := "StillMinutes"
def TX8 : u_T := fun k => match k with
  | 0 => ("StillMinutes", "city", "LStillMinutes$City;", false)
  | 1 => ("StillMinutes", "draft", "LStillMinutes$City;", false)
  | 2 => ("StillMinutes", "reader", "LStillMinutes$CityReader;", true)
  | 3 => ("StillMinutes", "text", "[I", true)
  | 4 => ("StillMinutes", "letters", "I", false)
  | 5 => ("StillMinutes", "now", "LStillMinutes$Moment;", true)
  | 6 => ("StillMinutes", "history", "LStillMinutes$History;", true)
  | 7 => ("StillMinutes", "images", "[LStillMinutes$Moment;", true)
  | 8 => ("StillMinutes", "kept", "[Z", true)
  | 9 => ("StillMinutes", "finds", "LStillMinutes$Finds;", true)
  | 10 => ("StillMinutes", "pressTable", "LStillMinutes$PressTable;", true)
  | 11 => ("StillMinutes", "doneSearch", "LStillMinutes$DoneSearch;", true)
  | 12 => ("StillMinutes", "takingGame", "LStillMinutes$TakingGame;", true)
  | 13 => ("StillMinutes", "guardRow", "[I", true)
  | _ => ("StillMinutes", "trace", "J", false)
def tyX8 : Nat → FieldType := fun k => match k with
  | 0 => .object "StillMinutes$City"
  | 1 => .object "StillMinutes$City"
  | 2 => .object "StillMinutes$CityReader"
  | 3 => .array .int
  | 4 => .int
  | 5 => .object "StillMinutes$Moment"
  | 6 => .object "StillMinutes$History"
  | 7 => .array (.object "StillMinutes$Moment")
  | 8 => .array .boolean
  | 9 => .object "StillMinutes$Finds"
  | 10 => .object "StillMinutes$PressTable"
  | 11 => .object "StillMinutes$DoneSearch"
  | 12 => .object "StillMinutes$TakingGame"
  | 13 => .array .int
  | _ => .long
def RX9 : String := "StillMinutesModel"
def TX9 : u_T := fun k => match k with
  | 0 => ("StillMinutesModel", "rooms", "I", false)
  | 1 => ("StillMinutesModel", "doors", "I", false)
  | 2 => ("StillMinutesModel", "door", "[I", true)
  | 3 => ("StillMinutesModel", "steps", "I", false)
  | 4 => ("StillMinutesModel", "people", "I", false)
  | 5 => ("StillMinutesModel", "things", "I", false)
  | 6 => ("StillMinutesModel", "longs", "[I", true)
  | 7 => ("StillMinutesModel", "round", "[I", true)
  | 8 => ("StillMinutesModel", "st", "[I", true)
  | 9 => ("StillMinutesModel", "was", "[I", true)
  | 10 => ("StillMinutesModel", "known", "I", false)
  | 11 => ("StillMinutesModel", "images", "[I", true)
  | 12 => ("StillMinutesModel", "isKept", "[Z", true)
  | 13 => ("StillMinutesModel", "founds", "I", false)
  | 14 => ("StillMinutesModel", "found", "[I", true)
  | 15 => ("StillMinutesModel", "trace", "J", false)
  | 16 => ("StillMinutesModel", "text", "[I", true)
  | 17 => ("StillMinutesModel", "texted", "I", false)
  | 18 => ("StillMinutesModel", "cursor", "I", false)
  | 19 => ("StillMinutesModel", "start", "I", false)
  | 20 => ("StillMinutesModel", "token", "I", false)
  | 21 => ("StillMinutesModel", "number", "I", false)
  | 22 => ("StillMinutesModel", "isWrong", "Z", false)
  | 23 => ("StillMinutesModel", "saidNumbers", "[I", true)
  | 24 => ("StillMinutesModel", "isStepsSaid", "Z", false)
  | 25 => ("StillMinutesModel", "saidDoors", "I", false)
  | 26 => ("StillMinutesModel", "saidDoor", "[I", true)
  | 27 => ("StillMinutesModel", "saidPeople", "I", false)
  | 28 => ("StillMinutesModel", "saidPerson", "[I", true)
  | 29 => ("StillMinutesModel", "saidThings", "I", false)
  | 30 => ("StillMinutesModel", "saidLongs", "[I", true)
  | 31 => ("StillMinutesModel", "saidRound", "[I", true)
  | 32 => ("StillMinutesModel", "far", "[I", true)
  | 33 => ("StillMinutesModel", "ways", "[I", true)
  | 34 => ("StillMinutesModel", "then", "[I", true)
  | 35 => ("StillMinutesModel", "comes", "I", false)
  | 36 => ("StillMinutesModel", "cost", "[I", true)
  | 37 => ("StillMinutesModel", "more", "[I", true)
  | _ => ("StillMinutesModel", "stack", "[I", true)
def tyX9 : Nat → FieldType := fun k => match k with
  | 0 => .int
  | 1 => .int
  | 2 => .array .int
  | 3 => .int
  | 4 => .int
  | 5 => .int
  | 6 => .array .int
  | 7 => .array .int
  | 8 => .array .int
  | 9 => .array .int
  | 10 => .int
  | 11 => .array .int
  | 12 => .array .boolean
  | 13 => .int
  | 14 => .array .int
  | 15 => .long
  | 16 => .array .int
  | 17 => .int
  | 18 => .int
  | 19 => .int
  | 20 => .int
  | 21 => .int
  | 22 => .boolean
  | 23 => .array .int
  | 24 => .boolean
  | 25 => .int
  | 26 => .array .int
  | 27 => .int
  | 28 => .array .int
  | 29 => .int
  | 30 => .array .int
  | 31 => .array .int
  | 32 => .array .int
  | 33 => .array .int
  | 34 => .array .int
  | 35 => .int
  | 36 => .array .int
  | 37 => .array .int
  | _ => .array .int
abbrev vwCl : List vw_C := [(RX0, TX0, 13), (RX1, TX1, 9), (RX2, TX2, 2), (RX3, TX3, 4), (RX4, TX4, 3), (RX5, TX5, 6), (RX6, TX6, 7), (RX7, TX7, 6), (RX8, TX8, 15), (RX9, TX9, 39)]
def jm_cn : Nat → String := fun c => match c with
  | 0 => RX0
  | 1 => RX1
  | 2 => RX2
  | 3 => RX3
  | 4 => RX4
  | 5 => RX5
  | 6 => RX6
  | 7 => RX7
  | 8 => RX8
  | _ => RX9
def jm_T : Nat → u_T := fun c => match c with
  | 0 => TX0
  | 1 => TX1
  | 2 => TX2
  | 3 => TX3
  | 4 => TX4
  | 5 => TX5
  | 6 => TX6
  | 7 => TX7
  | 8 => TX8
  | _ => TX9
def jm_ty : Nat → Nat → FieldType := fun c => match c with
  | 0 => tyX0
  | 1 => tyX1
  | 2 => tyX2
  | 3 => tyX3
  | 4 => tyX4
  | 5 => tyX5
  | 6 => tyX6
  | 7 => tyX7
  | 8 => tyX8
  | _ => tyX9
def jm_fkl : List (List Nat) := [[0, 0, 0, 0, 0, 1, 1, 1, 1, 1, 1, 1, 1], [2, 0, 2, 0, 0, 0, 0, 4, 0], [1, 1], [0, 1, 1, 1], [1, 0, 0], [0, 0, 1, 1, 1, 1], [2, 2, 0, 0, 1, 1, 1], [2, 0, 1, 1, 1, 1], [2, 2, 1, 1, 0, 1, 1, 1, 1, 1, 1, 1, 1, 1, 3], [0, 0, 1, 0, 0, 0, 1, 1, 1, 1, 0, 1, 1, 0, 1, 3, 1, 0, 0, 0, 0, 0, 4, 1, 4, 0, 1, 0, 1, 0, 1, 1, 1, 1, 1, 0, 1, 1, 1]]
def jm_fk (c k : Nat) : Nat := (jm_fkl.getD c []).getD k 9
def jm_nf (c : Nat) : Nat := (jm_fkl.getD c []).length
/-- the kinds of the fields are those of their types -/
def jm_kd (c k : Nat) : Bool := match jm_fk c k, jm_ty c k with
  | 0, .int => !(jm_T c k).2.2.2
  | 4, .boolean => !(jm_T c k).2.2.2
  | 3, .long => !(jm_T c k).2.2.2
  | 1, .object _ => (jm_T c k).2.2.2
  | 1, .array _ => (jm_T c k).2.2.2
  | 2, .object _ => !(jm_T c k).2.2.2
  | 2, .array _ => !(jm_T c k).2.2.2
  | _, _ => false
def jm_COk (c : Nat) : Prop := vwCl[c]? = some (jm_cn c, jm_T c, jm_nf c) ∧ (∀ w ∈ u_ws (jm_cn c) (jm_T c) (jm_nf c), w ∈ jm_gt) ∧ (∀ k, k < jm_nf c → parseFieldDescriptor (jm_T c k).2.2.1 = some (jm_ty c k)) ∧ (∀ a, a < jm_nf c → ∀ b, b < jm_nf c → a ≠ b → (jm_T c a).2.1 ≠ (jm_T c b).2.1) ∧ (∀ k, k < jm_nf c → jm_kd c k = true) ∧ c < 10
set_option maxRecDepth 100000 in
theorem co_X0 : jm_COk 0 := ⟨rfl, jm_inR (goodIn_r _ [160, 162, 164, 166, 168, 170, 172, 174, 176, 178, 180, 182, 184] (by decide +kernel) (by decide +kernel)) (by decide +kernel), by decide +kernel, by decide +kernel, by decide +kernel, by decide⟩
set_option maxRecDepth 100000 in
theorem co_X1 : jm_COk 1 := ⟨rfl, jm_inR (goodIn_r _ [203, 205, 207, 209, 211, 213, 215, 217, 219] (by decide +kernel) (by decide +kernel)) (by decide +kernel), by decide +kernel, by decide +kernel, by decide +kernel, by decide⟩
set_option maxRecDepth 100000 in
theorem co_X2 : jm_COk 2 := ⟨rfl, jm_inR (goodIn_r _ [337, 339] (by decide +kernel) (by decide +kernel)) (by decide +kernel), by decide +kernel, by decide +kernel, by decide +kernel, by decide⟩
set_option maxRecDepth 100000 in
theorem co_X3 : jm_COk 3 := ⟨rfl, jm_inR (goodIn_r _ [290, 292, 294, 296] (by decide +kernel) (by decide +kernel)) (by decide +kernel), by decide +kernel, by decide +kernel, by decide +kernel, by decide⟩
set_option maxRecDepth 100000 in
theorem co_X4 : jm_COk 4 := ⟨rfl, jm_inR (goodIn_r _ [272, 274, 276] (by decide +kernel) (by decide +kernel)) (by decide +kernel), by decide +kernel, by decide +kernel, by decide +kernel, by decide⟩
set_option maxRecDepth 100000 in
theorem co_X5 : jm_COk 5 := ⟨rfl, jm_inR (goodIn_r _ [246, 248, 250, 252, 254, 256] (by decide +kernel) (by decide +kernel)) (by decide +kernel), by decide +kernel, by decide +kernel, by decide +kernel, by decide⟩
set_option maxRecDepth 100000 in
theorem co_X6 : jm_COk 6 := ⟨rfl, jm_inR (goodIn_r _ [314, 316, 318, 320, 322, 324, 326] (by decide +kernel) (by decide +kernel)) (by decide +kernel), by decide +kernel, by decide +kernel, by decide +kernel, by decide⟩
set_option maxRecDepth 100000 in
theorem co_X7 : jm_COk 7 := ⟨rfl, jm_inR (goodIn_r _ [354, 356, 358, 360, 362, 364] (by decide +kernel) (by decide +kernel)) (by decide +kernel), by decide +kernel, by decide +kernel, by decide +kernel, by decide⟩
set_option maxRecDepth 100000 in
theorem co_X8 : jm_COk 8 := ⟨rfl, jm_inR (goodIn_r _ [409, 411, 413, 415, 417, 419, 421, 423, 425, 427, 429, 431, 433, 435, 437] (by decide +kernel) (by decide +kernel)) (by decide +kernel), by decide +kernel, by decide +kernel, by decide +kernel, by decide⟩
set_option maxRecDepth 100000 in
theorem co_X9 : jm_COk 9 := ⟨rfl, jm_inR (goodIn_r _ [884, 886, 888, 890, 892, 894, 896, 898, 900, 902, 904, 906, 908, 910, 912, 914, 916, 918, 920, 922, 924, 926, 928, 930, 932, 934, 936, 938, 940, 942, 944, 946, 948, 950, 952, 954, 956, 958, 960] (by decide +kernel) (by decide +kernel)) (by decide +kernel), by decide +kernel, by decide +kernel, by decide +kernel, by decide⟩
end
section
/-! ===== the small machine: what a state is ===== -/
abbrev jm_V : Type := Int ⊕ (Nat ⊕ Int)
abbrev jm_Ls : Type := List (Option jm_V)
/-- how many cells and slots are made; a cell's kind and length; fixed references; numbers -/
abbrev jm_M : Type := (Nat × Nat) × ((Nat → Nat × Nat) × ((Nat → Nat → Option Nat) × (Nat → Nat → Int)))
/-- a method: name, bytes, locals, what it gives back -/
abbrev jm_Md : Type := MethodName × (ByteArray × (Nat × Option FieldType))
/-- what stays over a whole run: launch, classes, array classes, the script -/
abbrev jm_G : Type := Launch × (va_G × ((ClassId × ClassId × ClassId × ClassId) × (Nat × Nat × Nat × (Nat → Int32))))
def jg_sz (G : jm_G) : Nat := G.2.2.2.1
def jg_b (G : jm_G) : Nat := G.2.2.2.2.1
def jg_L (G : jm_G) : Nat := G.2.2.2.2.2.1
def jg_xs (G : jm_G) : Nat → Int32 := G.2.2.2.2.2.2
def jg_I (G : jm_G) : ClassId := G.2.2.1.1
def jg_Z (G : jm_G) : ClassId := G.2.2.1.2.1
def jg_O (G : jm_G) : ClassId := G.2.2.1.2.2.1
def jg_A (G : jm_G) : ClassId := G.2.2.1.2.2.2
def jm_tys (G : jm_G) : List (ClassId × FieldType) := [(jg_I G, .int), (jg_Z G, .boolean), (jg_O G, .object RX5), (jg_A G, .array .int)]
def jm_ad (G : jm_G) : Nat → Nat
  | 0 => jg_b G
  | a + 1 => jg_sz G + a
def jm_cv (G : jm_G) : jm_V → Value
  | .inl i => .int (Int32.ofInt i)
  | .inr (.inl r) => .ref (jm_ad G r)
  | .inr (.inr j) => .long (Int64.ofInt j)
def jm_ct : jm_V → Nat
  | .inr (.inr _) => 2
  | _ => 1
def jm_fv (G : jm_G) (M : jm_M) (c a k : Nat) : Value := match jm_fk c k with
  | 1 => va_rf ((M.2.2.1 a k).map (jm_ad G))
  | 2 => if M.2.2.2 a k = 0 then .null else .ref (jm_ad G (M.2.2.2 a k).toNat)
  | 3 => .long (Int64.ofInt (M.2.2.2 a k))
  | _ => .int (Int32.ofInt (M.2.2.2 a k))
def jm_cl (G : jm_G) (M : jm_M) (a : Nat) : va_E := match (M.2.1 a).1 with
  | 20 => .inl (jg_I G, (M.2.1 a).2, .inl (fun k => Int32.ofInt (M.2.2.2 a k)))
  | 21 => .inl (jg_Z G, (M.2.1 a).2, .inl (fun k => Int32.ofInt (M.2.2.2 a k)))
  | 22 => .inl (jg_O G, (M.2.1 a).2, .inr (.inr (.inr (.inr (fun k => (M.2.2.1 a k).map (jm_ad G))))))
  | 23 => .inl (jg_A G, (M.2.1 a).2, .inr (.inr (.inr (.inr (fun k => (M.2.2.1 a k).map (jm_ad G))))))
  | c => .inr (c, (List.range (jm_nf c)).map (jm_fv G M c a))
def jm_ws (G : jm_G) (M : jm_M) : va_W := (List.range M.1.1).map (fun a => (jg_sz G + a, jm_cl G M (a + 1)))
def jm_A (G : jm_G) : Nat → Prop := fun q => jg_sz G ≤ q
/-- a kind below 98 is that of a made cell -/
def jm_wf (M : jm_M) : Prop := ∀ a, (M.2.1 a).1 < 98 → 1 ≤ a ∧ a ≤ M.1.1
/-- cell 0 is the script -/
def jm_sc (G : jm_G) (M : jm_M) : Prop := M.2.1 0 = (98, jg_L G) ∧ ∀ k, k < jg_L G → M.2.2.2 0 k = (jg_xs G k).toInt
def jm_Rp (G : jm_G) (M : jm_M) (H : Heap) : Prop := H.size = jg_sz G + M.1.1 ∧ va_P G.2.1 vwCl (jm_ws G M) H ∧ jm_wf M ∧ jm_sc G M
/-- words that a callee is handed beside its own -/
def jm_nOk (w : Cond) : Bool := match w with
  | .methodLinkNest _ _ _ _ => true
  | .arrayOver _ => true
  | _ => false
def jm_nw : List Cond := lw_tbl.filter jm_nOk
/-- what holds in a method's body -/
def jm_Cx (G : jm_G) (μ : jm_Md) (p : Program) (s : State) (m : MethodId) (args : Array Value) (meth : Method) (c : Code) : Prop :=
  p.tables.exec = Jvm.exec ∧ c.code = μ.2.1 ∧ meth.sig.returnType = μ.2.2.2 ∧ meth.locks = false ∧ c.maxLocals = μ.2.2.1 ∧ s.vm.findClass μ.1.cls = some m.cls ∧ meth.name = μ.1.name ∧ (∀ w ∈ jm_gt, w.before args s = true) ∧ (∀ w ∈ jm_nw, w.before #[] s = true) ∧ va_K G.2.1 vwCl (jm_tys G) s ∧ va_X (jg_b G) (jg_L G) (jg_xs G) s s.heap ∧ jg_b G < jg_sz G ∧ jg_sz G ≤ s.heap.size
/-- the locals: no long among them -/
def jm_Lo (G : jm_G) (n : Nat) (ls : jm_Ls) (lr : Array Slot) : Prop := ls.length = n ∧ lr.size = n ∧ lv_wf lr ∧ ∀ (k : Nat) (v : jm_V), ls[k]? = some (some v) → jm_ct v = 1 ∧ lr[k]? = some (.val (jm_cv G v))
def jm_Qc (G : jm_G) (Q : Option jm_V → jm_M → Prop) : Array Value → State → Outcome → State → Prop := fun _ st o t => (∃ (r : Option jm_V) (M : jm_M), o = .returned (r.map (jm_cv G)) ∧ Q r M ∧ jm_Rp G M t.heap) ∧ va_F (jm_A G) st t
/-- from here the method comes to its end, with Q of what it gives back and of the memory: d calls deep at most, mc cells of ms slots more -/
def jm_Go (d mc ms : Nat) (μ : jm_Md) (pc : Nat) (ls : jm_Ls) (st : List jm_V) (M : jm_M) (Q : Option jm_V → jm_M → Prop) : Prop :=
  ∀ (G : jm_G) (p : Program) (e : Env) (R : Room) (s : State) (m : MethodId) (args : Array Value) (below : List Frame) (meth : Method) (c : Code) (H : Heap) (locs : List Loc) (cells slots : Nat) (lr : Array Slot),
    jm_Cx G μ p s m args meth c → d + 1 ≤ R.frames → 64 * (d + 1) ≤ R.locals → cells + mc ≤ R.cells → slots + ms ≤ R.slots → jm_Rp G M H → va_S (jm_A G) s.heap H locs → jm_Lo G μ.2.2.1 ls lr →
    W p G.1 e R s m args below meth c H locs cells slots (MQ below (jm_Qc G Q) args s (cells + mc) (slots + ms) (jm_A G)) (F0 m pc lr (st.map (jm_cv G)))
/-- the instructions from a place on -/
def jm_dc (cc : ByteArray) : Nat → List (Instr × Nat) → Bool
  | _, [] => true
  | pc, (i, n) :: r => decide (decode cc pc = .ok (i, n)) && jm_dc cc (pc + n) r
theorem jm_d1 {cc : ByteArray} {pc n : Nat} {i : Instr} {r : List (Instr × Nat)} (h : jm_dc cc pc ((i, n) :: r) = true) : decode cc pc = .ok (i, n) := by
  simp only [jm_dc, Bool.and_eq_true, decide_eq_true_eq] at h
  exact h.1
theorem jm_d2 {cc : ByteArray} {pc n : Nat} {i : Instr} {r : List (Instr × Nat)} (h : jm_dc cc pc ((i, n) :: r) = true) : jm_dc cc (pc + n) r = true := by
  simp only [jm_dc, Bool.and_eq_true] at h
  exact h.2
/-! ===== the world's rows ===== -/
theorem jm_ws_get {G : jm_G} {M : jm_M} {a : Nat} (h : a < M.1.1) : (jm_ws G M)[a]? = some (jm_ad G (a + 1), jm_cl G M (a + 1)) := by
  unfold jm_ws
  rw [List.getElem?_map, List.getElem?_range h]
  rfl
theorem jm_ws_len {G : jm_G} {M : jm_M} : (jm_ws G M).length = M.1.1 := by
  unfold jm_ws
  rw [List.length_map, List.length_range]
theorem jm_ws_inv {G : jm_G} {M : jm_M} {k : Nat} {q : Nat × va_E} (h : (jm_ws G M)[k]? = some q) : k < M.1.1 ∧ q = (jg_sz G + k, jm_cl G M (k + 1)) := by
  have hl : k < M.1.1 := by
    have := (List.getElem?_eq_some_iff.mp h).1
    rwa [jm_ws_len] at this
  refine ⟨hl, ?_⟩
  rw [jm_ws_get hl] at h
  exact (Option.some.inj h).symm
theorem jm_D {G : jm_G} {M : jm_M} : va_D (jm_A G) (jm_ws G M) := by
  refine ⟨fun i j p q hi hj hpq => ?_, fun k q hk => ?_⟩
  · obtain ⟨-, rfl⟩ := jm_ws_inv hi
    obtain ⟨-, rfl⟩ := jm_ws_inv hj
    have h : jg_sz G + i = jg_sz G + j := hpq
    omega
  · obtain ⟨-, rfl⟩ := jm_ws_inv hk
    exact Nat.le_add_right _ _
/-- one cell changes -/
theorem jm_ws_set {G : jm_G} {M M' : jm_M} {a : Nat} {e : va_E} (hn : M'.1.1 = M.1.1) (he : jm_cl G M' (a + 1) = e) (ho : ∀ b, b ≠ a → jm_cl G M' (b + 1) = jm_cl G M (b + 1)) : (jm_ws G M).set a (jm_ad G (a + 1), e) = jm_ws G M' := by
  apply List.ext_getElem?
  intro k
  by_cases hk : k < M.1.1
  · rw [jm_ws_get (by rw [hn]; exact hk)]
    by_cases hka : k = a
    · subst hka
      rw [List.getElem?_set_self (by rw [jm_ws_len]; exact hk), he]
    · rw [List.getElem?_set_ne (fun h => hka h.symm), jm_ws_get hk, ho k hka]
  · rw [List.getElem?_eq_none (by rw [List.length_set, jm_ws_len]; omega), List.getElem?_eq_none (by rw [jm_ws_len, hn]; omega)]
/-- a cell by its number -/
theorem jm_at {G : jm_G} {M : jm_M} {H : Heap} (h : jm_Rp G M H) {a : Nat} (hk : (M.2.1 a).1 < 98) : ∃ b, a = b + 1 ∧ (jm_ws G M)[b]? = some (jm_ad G a, jm_cl G M a) := by
  obtain ⟨h1, h2⟩ := h.2.2.1 a hk
  obtain ⟨b, rfl⟩ : ∃ b, a = b + 1 := ⟨a - 1, by omega⟩
  exact ⟨b, rfl, jm_ws_get (by omega)⟩
theorem jm_cl_I {G : jm_G} {M : jm_M} {a n : Nat} (h : M.2.1 a = (20, n)) : jm_cl G M a = .inl (jg_I G, n, .inl (fun k => Int32.ofInt (M.2.2.2 a k))) := by
  simp [jm_cl, h]
theorem jm_cl_Z {G : jm_G} {M : jm_M} {a n : Nat} (h : M.2.1 a = (21, n)) : jm_cl G M a = .inl (jg_Z G, n, .inl (fun k => Int32.ofInt (M.2.2.2 a k))) := by
  simp [jm_cl, h]
theorem jm_cl_O {G : jm_G} {M : jm_M} {a n : Nat} (h : M.2.1 a = (22, n)) : jm_cl G M a = .inl (jg_O G, n, .inr (.inr (.inr (.inr (fun k => (M.2.2.1 a k).map (jm_ad G)))))) := by
  simp [jm_cl, h]
theorem jm_cl_A {G : jm_G} {M : jm_M} {a n : Nat} (h : M.2.1 a = (23, n)) : jm_cl G M a = .inl (jg_A G, n, .inr (.inr (.inr (.inr (fun k => (M.2.2.1 a k).map (jm_ad G)))))) := by
  simp [jm_cl, h]
theorem jm_cl_C {G : jm_G} {M : jm_M} {a c : Nat} (h : (M.2.1 a).1 = c) (hc : c < 10) : jm_cl G M a = .inr (c, (List.range (jm_nf c)).map (jm_fv G M c a)) := by
  unfold jm_cl
  rw [h]
  split <;> first | omega | rfl
/-- a cell that neither kind, references nor numbers have changed -/
theorem jm_cl_eq {G : jm_G} {M M' : jm_M} {a : Nat} (h1 : M'.2.1 a = M.2.1 a) (h2 : M'.2.2.1 a = M.2.2.1 a) (h3 : M'.2.2.2 a = M.2.2.2 a) : jm_cl G M' a = jm_cl G M a := by
  unfold jm_cl
  rw [h1, h2, h3]
  have hf : ∀ c, jm_fv G M' c a = jm_fv G M c a := by
    intro c
    funext k
    unfold jm_fv
    rw [h2, h3]
  split <;> simp [hf]
/-- a number put -/
def jm_up (I : Nat → Nat → Int) (a k : Nat) (v : Int) : Nat → Nat → Int := fun b j => if b = a ∧ j = k then v else I b j
theorem jm_up_o {I : Nat → Nat → Int} {a b k : Nat} {v : Int} (h : b ≠ a) : jm_up I a k v b = I b := by
  funext j
  simp [jm_up, h]
abbrev jm_pu (M : jm_M) (a k : Nat) (v : Int) : jm_M := (M.1, M.2.1, M.2.2.1, jm_up M.2.2.2 a k v)
theorem jm_fs_set {n k : Nat} {f g : Nat → Value} {v : Value} (hk : k < n) (h1 : g k = v) (h2 : ∀ j, j ≠ k → g j = f j) : ((List.range n).map f).set k v = (List.range n).map g := by
  apply List.ext_getElem?
  intro j
  by_cases hj : j < n
  · by_cases e : j = k
    · subst e
      rw [List.getElem?_set_self (by simpa using hj), List.getElem?_map, List.getElem?_range hj]
      simp [h1]
    · rw [List.getElem?_set_ne (fun h => e h.symm), List.getElem?_map, List.getElem?_map, List.getElem?_range hj]
      simp [h2 j e]
  · rw [List.getElem?_eq_none (by simpa using hj), List.getElem?_eq_none (by simpa using hj)]
theorem jm_clamp {i : Int} {n : Nat} (h0 : 0 ≤ i) (h1 : i < n) (hn : n < 2 ^ 31) : vp_in (Int32.ofInt i) n ∧ (Int32.ofInt i).toNatClampNeg = i.toNat := by
  obtain ⟨j, rfl⟩ : ∃ j : Nat, i = j := ⟨i.toNat, by omega⟩
  have e : Int32.ofInt (j : Int) = nI j := Int32.ofInt_eq_ofNat
  rw [e]
  exact ⟨vp_in_nI (by omega) hn, by rw [nI_clamp (by omega)]; simp⟩
end
section
/-! ===== rules: plain instructions (by program, wip/gen/gen3.py) ===== -/
def jm_rg (a : Int) : Prop := -2147483648 ≤ a ∧ a < 2147483648
theorem jr_le {a b : Int} (ha : jm_rg a) (hb : jm_rg b) : Int32.ofInt a ≤ Int32.ofInt b ↔ a ≤ b := by
  rw [Int32.le_iff_toInt_le, Int32.toInt_ofInt_of_le ha.1 ha.2, Int32.toInt_ofInt_of_le hb.1 hb.2]
theorem jr_lt {a b : Int} (ha : jm_rg a) (hb : jm_rg b) : Int32.ofInt a < Int32.ofInt b ↔ a < b := by
  rw [Int32.lt_iff_toInt_lt, Int32.toInt_ofInt_of_le ha.1 ha.2, Int32.toInt_ofInt_of_le hb.1 hb.2]
theorem jr_eq {a b : Int} (ha : jm_rg a) (hb : jm_rg b) : Int32.ofInt a = Int32.ofInt b ↔ a = b := by
  rw [← Int32.toInt_inj, Int32.toInt_ofInt_of_le ha.1 ha.2, Int32.toInt_ofInt_of_le hb.1 hb.2]
theorem jr_0 : jm_rg 0 := ⟨by decide, by decide⟩
def jb_and (a b : Int) : Int := (Int32.ofInt a &&& Int32.ofInt b).toInt
def jb_or (a b : Int) : Int := (Int32.ofInt a ||| Int32.ofInt b).toInt
def jb_xor (a b : Int) : Int := (Int32.ofInt a ^^^ Int32.ofInt b).toInt
def jb_shl (a b : Int) : Int := (Int32.ofInt a <<< (Int32.ofInt b &&& 31)).toInt
def jb_shr (a b : Int) : Int := (Int32.ofInt a >>> (Int32.ofInt b &&& 31)).toInt
def jb_ushr (a b : Int) : Int := ((Int32.ofInt a).toUInt32 >>> ((Int32.ofInt b).toUInt32 &&& Int32.toUInt32 31)).toInt32.toInt
def jm_pr (G : jm_G) (ls : jm_Ls) : List (Nat × Value) := (List.range ls.length).filterMap (fun k => match ls[k]? with
  | some (some v) => some (k, jm_cv G v)
  | _ => none)
theorem jm_pr_mem {G : jm_G} {ls : jm_Ls} {k : Nat} {v : jm_V} (h : ls[k]? = some (some v)) : (k, jm_cv G v) ∈ jm_pr G ls := by
  refine List.mem_filterMap.mpr ⟨k, List.mem_range.mpr (List.getElem?_eq_some_iff.mp h).1, ?_⟩
  rw [h]
theorem jm_pr_inv {G : jm_G} {ls : jm_Ls} {q : Nat × Value} (h : q ∈ jm_pr G ls) : ∃ v, ls[q.1]? = some (some v) ∧ q.2 = jm_cv G v := by
  obtain ⟨k, -, hk⟩ := List.mem_filterMap.mp h
  split at hk
  · rename_i v hv
    cases hk
    exact ⟨v, hv, rfl⟩
  · cases hk
theorem jm_cat {G : jm_G} {v : jm_V} : (jm_cv G v).category = jm_ct v := by
  rcases v with i | r | j <;> rfl
theorem jm_Lo.has {G : jm_G} {n : Nat} {ls : jm_Ls} {lr : Array Slot} (h : jm_Lo G n ls lr) : lv_has lr n (jm_pr G ls) := by
  refine ⟨h.2.1, h.2.2.1, fun q hq => ?_⟩
  obtain ⟨v, h1, h2⟩ := jm_pr_inv hq
  rw [h2]
  exact (h.2.2.2 q.1 v h1).2
theorem jm_Lo.st {G : jm_G} {n i : Nat} {ls : jm_Ls} {lr lr' : Array Slot} {v : jm_V} {w : Value} (h : jm_Lo G n ls lr) (hw : w = jm_cv G v) (hv : jm_ct v = 1) (h' : lv_has lr' n ((i, w) :: (jm_pr G ls).filter (fun q => !(q.1 == i) && !(q.1 + 1 == i && q.2.category == 2)))) : jm_Lo G n (ls.set i (some v)) lr' := by
  subst hw
  refine ⟨by rw [List.length_set]; exact h.1, h'.1, h'.2.1, fun k x hk => ?_⟩
  by_cases e : k = i
  · subst e
    have hl : k < ls.length := by
      have := (List.getElem?_eq_some_iff.mp hk).1
      rwa [List.length_set] at this
    rw [List.getElem?_set_self hl] at hk
    cases hk
    exact ⟨hv, h'.2.2 _ List.mem_cons_self⟩
  · rw [List.getElem?_set_ne (fun q => e q.symm)] at hk
    obtain ⟨c1, c2⟩ := h.2.2.2 k x hk
    refine ⟨c1, h'.2.2 (k, jm_cv G x) (List.mem_cons_of_mem _ (List.mem_filter.mpr ⟨jm_pr_mem hk, ?_⟩))⟩
    have hc : (jm_cv G x).category = 1 := by rw [jm_cat]; exact c1
    simp [e, hc]
section PLAIN
variable {d mc ms pc : Nat} {μ : jm_Md} {ls : jm_Ls} {st : List jm_V} {M : jm_M} {Q : Option jm_V → jm_M → Prop} {r : List (Instr × Nat)}
theorem go_iconst {n : Int} (hd : jm_dc μ.2.1 pc ((.iconst n, 1) :: r) = true) (k : jm_dc μ.2.1 (pc + 1) r = true → jm_Go d mc ms μ (pc + 1) ls (.inl n :: st) M Q) : jm_Go d mc ms μ pc ls (st) M Q := by
  intro G p e R s m args below meth c H locs cells slots lr C hF hL hc hs hR hS hl
  exact lv_iconst C.1 C.2.1 (jm_d1 hd) rfl (k (jm_d2 hd) G p e R s m args below meth c H locs cells slots lr C hF hL hc hs hR hS hl)
theorem go_bipush {n : Int} (hv : (Int8.ofInt n).toInt32 = Int32.ofInt n) (hd : jm_dc μ.2.1 pc ((.bipush n, 2) :: r) = true) (k : jm_dc μ.2.1 (pc + 2) r = true → jm_Go d mc ms μ (pc + 2) ls (.inl n :: st) M Q) : jm_Go d mc ms μ pc ls (st) M Q := by
  intro G p e R s m args below meth c H locs cells slots lr C hF hL hc hs hR hS hl
  exact lv_bipush C.1 C.2.1 (jm_d1 hd) hv (k (jm_d2 hd) G p e R s m args below meth c H locs cells slots lr C hF hL hc hs hR hS hl)
theorem go_sipush {n : Int} (hv : (Int16.ofInt n).toInt32 = Int32.ofInt n) (hd : jm_dc μ.2.1 pc ((.sipush n, 3) :: r) = true) (k : jm_dc μ.2.1 (pc + 3) r = true → jm_Go d mc ms μ (pc + 3) ls (.inl n :: st) M Q) : jm_Go d mc ms μ pc ls (st) M Q := by
  intro G p e R s m args below meth c H locs cells slots lr C hF hL hc hs hR hS hl
  exact lv_sipush C.1 C.2.1 (jm_d1 hd) hv (k (jm_d2 hd) G p e R s m args below meth c H locs cells slots lr C hF hL hc hs hR hS hl)
theorem go_lconst {n : Fin 2} (v : Int) (hv : Int64.ofNat (n : Nat) = Int64.ofInt v) (hd : jm_dc μ.2.1 pc ((.lconst n, 1) :: r) = true) (k : jm_dc μ.2.1 (pc + 1) r = true → jm_Go d mc ms μ (pc + 1) ls (.inr (.inr v) :: st) M Q) : jm_Go d mc ms μ pc ls (st) M Q := by
  intro G p e R s m args below meth c H locs cells slots lr C hF hL hc hs hR hS hl
  exact lv_lconst C.1 C.2.1 (jm_d1 hd) hv (k (jm_d2 hd) G p e R s m args below meth c H locs cells slots lr C hF hL hc hs hR hS hl)
theorem go_ldc {i : Nat} (n : Int) (v : Int32) (hv : v = Int32.ofInt n) (hw : Cond.constant μ.1.cls i v ∈ jm_gt) (hd : jm_dc μ.2.1 pc ((.ldc i, 2) :: r) = true) (k : jm_dc μ.2.1 (pc + 2) r = true → jm_Go d mc ms μ (pc + 2) ls (.inl n :: st) M Q) : jm_Go d mc ms μ pc ls (st) M Q := by
  intro G p e R s m args below meth c H locs cells slots lr C hF hL hc hs hR hS hl
  subst hv
  exact lv_ldc C.1 C.2.1 C.2.2.2.2.2.1 (C.2.2.2.2.2.2.2.1 _ hw) (jm_d1 hd) (k (jm_d2 hd) G p e R s m args below meth c H locs cells slots lr C hF hL hc hs hR hS hl)
theorem go_ldcw {i : Nat} (n : Int) (v : Int32) (hv : v = Int32.ofInt n) (hw : Cond.constant μ.1.cls i v ∈ jm_gt) (hd : jm_dc μ.2.1 pc ((.ldc_w i, 3) :: r) = true) (k : jm_dc μ.2.1 (pc + 3) r = true → jm_Go d mc ms μ (pc + 3) ls (.inl n :: st) M Q) : jm_Go d mc ms μ pc ls (st) M Q := by
  intro G p e R s m args below meth c H locs cells slots lr C hF hL hc hs hR hS hl
  subst hv
  exact lv_ldcw C.1 C.2.1 C.2.2.2.2.2.1 (C.2.2.2.2.2.2.2.1 _ hw) (jm_d1 hd) (k (jm_d2 hd) G p e R s m args below meth c H locs cells slots lr C hF hL hc hs hR hS hl)
theorem go_ldc2 {i : Nat} (n : Int) (v : Int64) (hv : v = Int64.ofInt n) (hw : Cond.constantLong μ.1.cls i v ∈ jm_gt) (hd : jm_dc μ.2.1 pc ((.ldc2_w i, 3) :: r) = true) (k : jm_dc μ.2.1 (pc + 3) r = true → jm_Go d mc ms μ (pc + 3) ls (.inr (.inr n) :: st) M Q) : jm_Go d mc ms μ pc ls (st) M Q := by
  intro G p e R s m args below meth c H locs cells slots lr C hF hL hc hs hR hS hl
  subst hv
  exact lv_ldc2 C.1 C.2.1 C.2.2.2.2.2.1 (C.2.2.2.2.2.2.2.1 _ hw) (jm_d1 hd) (k (jm_d2 hd) G p e R s m args below meth c H locs cells slots lr C hF hL hc hs hR hS hl)
theorem go_iload {i : Nat} {v : Int} (hv : ls[i]? = some (some (.inl v))) (hd : jm_dc μ.2.1 pc ((.iload i, 2) :: r) = true) (k : jm_dc μ.2.1 (pc + 2) r = true → jm_Go d mc ms μ (pc + 2) ls (.inl v :: st) M Q) : jm_Go d mc ms μ pc ls (st) M Q := by
  intro G p e R s m args below meth c H locs cells slots lr C hF hL hc hs hR hS hl
  exact lv_iload C.1 C.2.1 (jm_d1 hd) (hl.2.2.2 _ _ hv).2 (k (jm_d2 hd) G p e R s m args below meth c H locs cells slots lr C hF hL hc hs hR hS hl)
theorem go_iload_n {i : Fin 4} {v : Int} (hv : ls[(i : Nat)]? = some (some (.inl v))) (hd : jm_dc μ.2.1 pc ((.iload_n i, 1) :: r) = true) (k : jm_dc μ.2.1 (pc + 1) r = true → jm_Go d mc ms μ (pc + 1) ls (.inl v :: st) M Q) : jm_Go d mc ms μ pc ls (st) M Q := by
  intro G p e R s m args below meth c H locs cells slots lr C hF hL hc hs hR hS hl
  exact lv_iload_n C.1 C.2.1 (jm_d1 hd) rfl (hl.2.2.2 _ _ hv).2 (k (jm_d2 hd) G p e R s m args below meth c H locs cells slots lr C hF hL hc hs hR hS hl)
theorem go_istore {i : Nat} {v : Int} (hi : i < μ.2.2.1) (hd : jm_dc μ.2.1 pc ((.istore i, 2) :: r) = true) (k : jm_dc μ.2.1 (pc + 2) r = true → jm_Go d mc ms μ (pc + 2) (ls.set i (some (.inl v))) (st) M Q) : jm_Go d mc ms μ pc ls (.inl v :: st) M Q := by
  intro G p e R s m args below meth c H locs cells slots lr C hF hL hc hs hR hS hl
  exact lv_istore C.1 C.2.1 (jm_d1 hd) hl.has hi rfl (fun lr2 h2 => k (jm_d2 hd) G p e R s m args below meth c H locs cells slots lr2 C hF hL hc hs hR hS (hl.st (v := .inl v) rfl rfl h2))
theorem go_istore_n {i : Fin 4} {v : Int} (hi : (i : Nat) < μ.2.2.1) (hd : jm_dc μ.2.1 pc ((.istore_n i, 1) :: r) = true) (k : jm_dc μ.2.1 (pc + 1) r = true → jm_Go d mc ms μ (pc + 1) (ls.set (i : Nat) (some (.inl v))) (st) M Q) : jm_Go d mc ms μ pc ls (.inl v :: st) M Q := by
  intro G p e R s m args below meth c H locs cells slots lr C hF hL hc hs hR hS hl
  exact lv_istore_n C.1 C.2.1 (jm_d1 hd) rfl hl.has hi rfl (fun lr2 h2 => k (jm_d2 hd) G p e R s m args below meth c H locs cells slots lr2 C hF hL hc hs hR hS (hl.st (v := .inl v) rfl rfl h2))
theorem go_aload {i : Nat} {v : Nat} (hv : ls[i]? = some (some (.inr (.inl v)))) (hd : jm_dc μ.2.1 pc ((.aload i, 2) :: r) = true) (k : jm_dc μ.2.1 (pc + 2) r = true → jm_Go d mc ms μ (pc + 2) ls (.inr (.inl v) :: st) M Q) : jm_Go d mc ms μ pc ls (st) M Q := by
  intro G p e R s m args below meth c H locs cells slots lr C hF hL hc hs hR hS hl
  exact lv_aload C.1 C.2.1 (jm_d1 hd) (hl.2.2.2 _ _ hv).2 (k (jm_d2 hd) G p e R s m args below meth c H locs cells slots lr C hF hL hc hs hR hS hl)
theorem go_aload_n {i : Fin 4} {v : Nat} (hv : ls[(i : Nat)]? = some (some (.inr (.inl v)))) (hd : jm_dc μ.2.1 pc ((.aload_n i, 1) :: r) = true) (k : jm_dc μ.2.1 (pc + 1) r = true → jm_Go d mc ms μ (pc + 1) ls (.inr (.inl v) :: st) M Q) : jm_Go d mc ms μ pc ls (st) M Q := by
  intro G p e R s m args below meth c H locs cells slots lr C hF hL hc hs hR hS hl
  exact lv_aload_n C.1 C.2.1 (jm_d1 hd) rfl (hl.2.2.2 _ _ hv).2 (k (jm_d2 hd) G p e R s m args below meth c H locs cells slots lr C hF hL hc hs hR hS hl)
theorem go_astore {i : Nat} {v : Nat} (hi : i < μ.2.2.1) (hd : jm_dc μ.2.1 pc ((.astore i, 2) :: r) = true) (k : jm_dc μ.2.1 (pc + 2) r = true → jm_Go d mc ms μ (pc + 2) (ls.set i (some (.inr (.inl v)))) (st) M Q) : jm_Go d mc ms μ pc ls (.inr (.inl v) :: st) M Q := by
  intro G p e R s m args below meth c H locs cells slots lr C hF hL hc hs hR hS hl
  exact lv_astore C.1 C.2.1 (jm_d1 hd) hl.has hi rfl (fun lr2 h2 => k (jm_d2 hd) G p e R s m args below meth c H locs cells slots lr2 C hF hL hc hs hR hS (hl.st (v := .inr (.inl v)) rfl rfl h2))
theorem go_astore_n {i : Fin 4} {v : Nat} (hi : (i : Nat) < μ.2.2.1) (hd : jm_dc μ.2.1 pc ((.astore_n i, 1) :: r) = true) (k : jm_dc μ.2.1 (pc + 1) r = true → jm_Go d mc ms μ (pc + 1) (ls.set (i : Nat) (some (.inr (.inl v)))) (st) M Q) : jm_Go d mc ms μ pc ls (.inr (.inl v) :: st) M Q := by
  intro G p e R s m args below meth c H locs cells slots lr C hF hL hc hs hR hS hl
  exact lv_astore_n C.1 C.2.1 (jm_d1 hd) rfl hl.has hi rfl (fun lr2 h2 => k (jm_d2 hd) G p e R s m args below meth c H locs cells slots lr2 C hF hL hc hs hR hS (hl.st (v := .inr (.inl v)) rfl rfl h2))
theorem jm_pr_at {G : jm_G} {ls : jm_Ls} {i : Nat} {v : jm_V} (h : ls[i]? = some (some v)) : ∃ k : Nat, (jm_pr G ls)[k]? = some (i, jm_cv G v) := List.getElem?_of_mem (jm_pr_mem h)
theorem go_iinc {i : Nat} {n v : Int} (hv : ls[i]? = some (some (.inl v))) (hd : jm_dc μ.2.1 pc ((.iinc i n, 3) :: r) = true) (k : jm_dc μ.2.1 (pc + 3) r = true → jm_Go d mc ms μ (pc + 3) (ls.set i (some (.inl (v + n)))) (st) M Q) : jm_Go d mc ms μ pc ls (st) M Q := by
  intro G p e R s m args below meth c H locs cells slots lr C hF hL hc hs hR hS hl
  obtain ⟨q, hq⟩ := jm_pr_at (G := G) hv
  have hi : i < μ.2.2.1 := by rw [← hl.1]; exact (List.getElem?_eq_some_iff.mp hv).1
  exact lv_iinc (x := Int32.ofInt v) (v := Int32.ofInt (v + n)) C.1 C.2.1 (jm_d1 hd) hl.has hq (by rw [Int32.ofInt_add]) hi rfl (fun lr2 h2 => k (jm_d2 hd) G p e R s m args below meth c H locs cells slots lr2 C hF hL hc hs hR hS (hl.st (v := .inl (v + n)) rfl rfl h2))
theorem go_iadd {a b : Int} (hd : jm_dc μ.2.1 pc ((.iadd, 1) :: r) = true) (k : jm_dc μ.2.1 (pc + 1) r = true → jm_Go d mc ms μ (pc + 1) ls (.inl (a + b) :: st) M Q) : jm_Go d mc ms μ pc ls (.inl b :: .inl a :: st) M Q := by
  intro G p e R s m args below meth c H locs cells slots lr C hF hL hc hs hR hS hl
  have K := k (jm_d2 hd) G p e R s m args below meth c H locs cells slots lr C hF hL hc hs hR hS hl
  simp only [List.map_cons, jm_cv, Int32.ofInt_add] at K
  exact lv_iadd C.1 C.2.1 (jm_d1 hd) K
theorem go_isub {a b : Int} (hd : jm_dc μ.2.1 pc ((.isub, 1) :: r) = true) (k : jm_dc μ.2.1 (pc + 1) r = true → jm_Go d mc ms μ (pc + 1) ls (.inl (a - b) :: st) M Q) : jm_Go d mc ms μ pc ls (.inl b :: .inl a :: st) M Q := by
  intro G p e R s m args below meth c H locs cells slots lr C hF hL hc hs hR hS hl
  have K := k (jm_d2 hd) G p e R s m args below meth c H locs cells slots lr C hF hL hc hs hR hS hl
  simp only [List.map_cons, jm_cv, Int32.ofInt_sub] at K
  exact lv_isub C.1 C.2.1 (jm_d1 hd) K
theorem go_imul {a b : Int} (hd : jm_dc μ.2.1 pc ((.imul, 1) :: r) = true) (k : jm_dc μ.2.1 (pc + 1) r = true → jm_Go d mc ms μ (pc + 1) ls (.inl (a * b) :: st) M Q) : jm_Go d mc ms μ pc ls (.inl b :: .inl a :: st) M Q := by
  intro G p e R s m args below meth c H locs cells slots lr C hF hL hc hs hR hS hl
  have K := k (jm_d2 hd) G p e R s m args below meth c H locs cells slots lr C hF hL hc hs hR hS hl
  simp only [List.map_cons, jm_cv, Int32.ofInt_mul] at K
  exact lv_imul C.1 C.2.1 (jm_d1 hd) K
theorem go_iand {a b : Int} (hd : jm_dc μ.2.1 pc ((.iand, 1) :: r) = true) (k : jm_dc μ.2.1 (pc + 1) r = true → jm_Go d mc ms μ (pc + 1) ls (.inl (jb_and a b) :: st) M Q) : jm_Go d mc ms μ pc ls (.inl b :: .inl a :: st) M Q := by
  intro G p e R s m args below meth c H locs cells slots lr C hF hL hc hs hR hS hl
  have K := k (jm_d2 hd) G p e R s m args below meth c H locs cells slots lr C hF hL hc hs hR hS hl
  simp only [List.map_cons, jm_cv, jb_and, Int32.ofInt_toInt] at K
  exact lv_iand C.1 C.2.1 (jm_d1 hd) K
theorem go_ior {a b : Int} (hd : jm_dc μ.2.1 pc ((.ior, 1) :: r) = true) (k : jm_dc μ.2.1 (pc + 1) r = true → jm_Go d mc ms μ (pc + 1) ls (.inl (jb_or a b) :: st) M Q) : jm_Go d mc ms μ pc ls (.inl b :: .inl a :: st) M Q := by
  intro G p e R s m args below meth c H locs cells slots lr C hF hL hc hs hR hS hl
  have K := k (jm_d2 hd) G p e R s m args below meth c H locs cells slots lr C hF hL hc hs hR hS hl
  simp only [List.map_cons, jm_cv, jb_or, Int32.ofInt_toInt] at K
  exact lv_ior C.1 C.2.1 (jm_d1 hd) K
theorem go_ixor {a b : Int} (hd : jm_dc μ.2.1 pc ((.ixor, 1) :: r) = true) (k : jm_dc μ.2.1 (pc + 1) r = true → jm_Go d mc ms μ (pc + 1) ls (.inl (jb_xor a b) :: st) M Q) : jm_Go d mc ms μ pc ls (.inl b :: .inl a :: st) M Q := by
  intro G p e R s m args below meth c H locs cells slots lr C hF hL hc hs hR hS hl
  have K := k (jm_d2 hd) G p e R s m args below meth c H locs cells slots lr C hF hL hc hs hR hS hl
  simp only [List.map_cons, jm_cv, jb_xor, Int32.ofInt_toInt] at K
  exact lv_ixor C.1 C.2.1 (jm_d1 hd) K
theorem go_ishl {a b : Int} (hd : jm_dc μ.2.1 pc ((.ishl, 1) :: r) = true) (k : jm_dc μ.2.1 (pc + 1) r = true → jm_Go d mc ms μ (pc + 1) ls (.inl (jb_shl a b) :: st) M Q) : jm_Go d mc ms μ pc ls (.inl b :: .inl a :: st) M Q := by
  intro G p e R s m args below meth c H locs cells slots lr C hF hL hc hs hR hS hl
  have K := k (jm_d2 hd) G p e R s m args below meth c H locs cells slots lr C hF hL hc hs hR hS hl
  simp only [List.map_cons, jm_cv, jb_shl, Int32.ofInt_toInt] at K
  exact lv_ishl C.1 C.2.1 (jm_d1 hd) K
theorem go_ishr {a b : Int} (hd : jm_dc μ.2.1 pc ((.ishr, 1) :: r) = true) (k : jm_dc μ.2.1 (pc + 1) r = true → jm_Go d mc ms μ (pc + 1) ls (.inl (jb_shr a b) :: st) M Q) : jm_Go d mc ms μ pc ls (.inl b :: .inl a :: st) M Q := by
  intro G p e R s m args below meth c H locs cells slots lr C hF hL hc hs hR hS hl
  have K := k (jm_d2 hd) G p e R s m args below meth c H locs cells slots lr C hF hL hc hs hR hS hl
  simp only [List.map_cons, jm_cv, jb_shr, Int32.ofInt_toInt] at K
  exact lv_ishr C.1 C.2.1 (jm_d1 hd) K
theorem go_iushr {a b : Int} (hd : jm_dc μ.2.1 pc ((.iushr, 1) :: r) = true) (k : jm_dc μ.2.1 (pc + 1) r = true → jm_Go d mc ms μ (pc + 1) ls (.inl (jb_ushr a b) :: st) M Q) : jm_Go d mc ms μ pc ls (.inl b :: .inl a :: st) M Q := by
  intro G p e R s m args below meth c H locs cells slots lr C hF hL hc hs hR hS hl
  exact lv_iushr C.1 C.2.1 (jm_d1 hd) (by unfold jb_ushr; rw [Int32.ofInt_toInt]) (k (jm_d2 hd) G p e R s m args below meth c H locs cells slots lr C hF hL hc hs hR hS hl)
theorem jm_nat {a : Int} (h : 0 ≤ a) : Int32.ofInt a = nI a.toNat := by
  obtain ⟨j, rfl⟩ : ∃ j : Nat, a = j := ⟨a.toNat, by omega⟩
  exact Int32.ofInt_eq_ofNat
theorem go_idiv {a b : Int} (ha : 0 ≤ a ∧ a < 2147483648) (hb : 0 < b ∧ b < 2147483648) (hd : jm_dc μ.2.1 pc ((.idiv, 1) :: r) = true) (k : jm_dc μ.2.1 (pc + 1) r = true → jm_Go d mc ms μ (pc + 1) ls (.inl (a / b) :: st) M Q) : jm_Go d mc ms μ pc ls (.inl b :: .inl a :: st) M Q := by
  intro G p e R s m args below meth c H locs cells slots lr C hF hL hc hs hR hS hl
  have K := k (jm_d2 hd) G p e R s m args below meth c H locs cells slots lr C hF hL hc hs hR hS hl
  have e : Int32.ofInt (a / b) = Int32.ofInt a / Int32.ofInt b := by
    obtain ⟨x, rfl⟩ : ∃ j : Nat, a = j := ⟨a.toNat, by omega⟩
    obtain ⟨y, rfl⟩ : ∃ j : Nat, b = j := ⟨b.toNat, by omega⟩
    rw [show ((x : Int) / (y : Int)) = ((x / y : Nat) : Int) from by simp, Int32.ofInt_eq_ofNat, Int32.ofInt_eq_ofNat, Int32.ofInt_eq_ofNat]
    exact (pk_div (by omega) (by omega) (by omega)).symm
  simp only [List.map_cons, jm_cv, e] at K
  exact lv_idiv C.1 C.2.1 (jm_d1 hd) (fun h => by have := (jr_eq ⟨by omega, by omega⟩ jr_0).mp h; omega) K
theorem go_irem {a b : Int} (ha : 0 ≤ a ∧ a < 2147483648) (hb : 0 < b ∧ b < 2147483648) (hd : jm_dc μ.2.1 pc ((.irem, 1) :: r) = true) (k : jm_dc μ.2.1 (pc + 1) r = true → jm_Go d mc ms μ (pc + 1) ls (.inl (a % b) :: st) M Q) : jm_Go d mc ms μ pc ls (.inl b :: .inl a :: st) M Q := by
  intro G p e R s m args below meth c H locs cells slots lr C hF hL hc hs hR hS hl
  have K := k (jm_d2 hd) G p e R s m args below meth c H locs cells slots lr C hF hL hc hs hR hS hl
  have e : Int32.ofInt (a % b) = Int32.ofInt a - Int32.ofInt a / Int32.ofInt b * Int32.ofInt b := by
    obtain ⟨x, rfl⟩ : ∃ j : Nat, a = j := ⟨a.toNat, by omega⟩
    obtain ⟨y, rfl⟩ : ∃ j : Nat, b = j := ⟨b.toNat, by omega⟩
    rw [show ((x : Int) % (y : Int)) = ((x % y : Nat) : Int) from by simp, Int32.ofInt_eq_ofNat, Int32.ofInt_eq_ofNat, Int32.ofInt_eq_ofNat]
    exact (pk_rem (by omega) (by omega) (by omega)).symm
  simp only [List.map_cons, jm_cv, e] at K
  exact lv_irem C.1 C.2.1 (jm_d1 hd) (fun h => by have := (jr_eq ⟨by omega, by omega⟩ jr_0).mp h; omega) K
theorem go_ladd {a b : Int} (hd : jm_dc μ.2.1 pc ((.ladd, 1) :: r) = true) (k : jm_dc μ.2.1 (pc + 1) r = true → jm_Go d mc ms μ (pc + 1) ls (.inr (.inr (a + b)) :: st) M Q) : jm_Go d mc ms μ pc ls (.inr (.inr b) :: .inr (.inr a) :: st) M Q := by
  intro G p e R s m args below meth c H locs cells slots lr C hF hL hc hs hR hS hl
  have K := k (jm_d2 hd) G p e R s m args below meth c H locs cells slots lr C hF hL hc hs hR hS hl
  simp only [List.map_cons, jm_cv, Int64.ofInt_add] at K
  exact lv_ladd C.1 C.2.1 (jm_d1 hd) K
theorem go_lcmp {a b : Int} (h : a = b) (hd : jm_dc μ.2.1 pc ((.lcmp, 1) :: r) = true) (k : jm_dc μ.2.1 (pc + 1) r = true → jm_Go d mc ms μ (pc + 1) ls (.inl 0 :: st) M Q) : jm_Go d mc ms μ pc ls (.inr (.inr b) :: .inr (.inr a) :: st) M Q := by
  intro G p e R s m args below meth c H locs cells slots lr C hF hL hc hs hR hS hl
  have K := k (jm_d2 hd) G p e R s m args below meth c H locs cells slots lr C hF hL hc hs hR hS hl
  subst h
  have e : lg_cmp (Int64.ofInt a) (Int64.ofInt a) = Int32.ofInt 0 := by simp [lg_cmp]
  refine W.lcmp C.1 C.2.1 (jm_d1 hd) ?_
  rw [e]
  exact K
theorem go_dup {v : jm_V} (hv : jm_ct v = 1) (hd : jm_dc μ.2.1 pc ((.dup, 1) :: r) = true) (k : jm_dc μ.2.1 (pc + 1) r = true → jm_Go d mc ms μ (pc + 1) ls (v :: v :: st) M Q) : jm_Go d mc ms μ pc ls (v :: st) M Q := by
  intro G p e R s m args below meth c H locs cells slots lr C hF hL hc hs hR hS hl
  exact lv_dup C.1 C.2.1 (jm_d1 hd) (by rw [jm_cat]; exact hv) (k (jm_d2 hd) G p e R s m args below meth c H locs cells slots lr C hF hL hc hs hR hS hl)
theorem go_dup2 {v w : jm_V} (hv : jm_ct v = 1) (hw : jm_ct w = 1) (hd : jm_dc μ.2.1 pc ((.dup2, 1) :: r) = true) (k : jm_dc μ.2.1 (pc + 1) r = true → jm_Go d mc ms μ (pc + 1) ls (v :: w :: v :: w :: st) M Q) : jm_Go d mc ms μ pc ls (v :: w :: st) M Q := by
  intro G p e R s m args below meth c H locs cells slots lr C hF hL hc hs hR hS hl
  exact lv_dup2_11 C.1 C.2.1 (jm_d1 hd) (by rw [jm_cat]; exact hv) (by rw [jm_cat]; exact hw) (k (jm_d2 hd) G p e R s m args below meth c H locs cells slots lr C hF hL hc hs hR hS hl)
theorem go_pop {v : jm_V} (hv : jm_ct v = 1) (hd : jm_dc μ.2.1 pc ((.pop, 1) :: r) = true) (k : jm_dc μ.2.1 (pc + 1) r = true → jm_Go d mc ms μ (pc + 1) ls (st) M Q) : jm_Go d mc ms μ pc ls (v :: st) M Q := by
  intro G p e R s m args below meth c H locs cells slots lr C hF hL hc hs hR hS hl
  exact lv_pop C.1 C.2.1 (jm_d1 hd) (by rw [jm_cat]; exact hv) (k (jm_d2 hd) G p e R s m args below meth c H locs cells slots lr C hF hL hc hs hR hS hl)
theorem go_goto {off : Int} {t : Nat} (ht : (pc : Int) + off = (t : Int)) (hd : jm_dc μ.2.1 pc ((.goto off, 3) :: r) = true) (k : jm_Go d mc ms μ t ls st M Q) : jm_Go d mc ms μ pc ls (st) M Q := by
  intro G p e R s m args below meth c H locs cells slots lr C hF hL hc hs hR hS hl
  exact lv_goto C.1 C.2.1 (jm_d1 hd) ht (k G p e R s m args below meth c H locs cells slots lr C hF hL hc hs hR hS hl)
theorem go_icmp_eq {a b : Int} {off : Int} {t : Nat} (ht : (pc : Int) + off = (t : Int)) (ha : jm_rg a) (hb : jm_rg b) (hd : jm_dc μ.2.1 pc ((.if_icmp .eq off, 3) :: r) = true) (kt : a = b → jm_Go d mc ms μ t ls st M Q) (kf : ¬ a = b → jm_Go d mc ms μ (pc + 3) ls st M Q) : jm_Go d mc ms μ pc ls (.inl b :: .inl a :: st) M Q := by
  intro G p e R s m args below meth c H locs cells slots lr C hF hL hc hs hR hS hl
  exact lv_icmp_eq C.1 C.2.1 (jm_d1 hd) ht (fun q => kt ((jr_eq ha hb).mp q) G p e R s m args below meth c H locs cells slots lr C hF hL hc hs hR hS hl) (fun q => kf ((not_congr (jr_eq ha hb)).mp q) G p e R s m args below meth c H locs cells slots lr C hF hL hc hs hR hS hl)
theorem go_if_eq {a : Int} {off : Int} {t : Nat} (ht : (pc : Int) + off = (t : Int)) (ha : jm_rg a) (hd : jm_dc μ.2.1 pc ((.ifCond .eq off, 3) :: r) = true) (kt : a = 0 → jm_Go d mc ms μ t ls st M Q) (kf : ¬ a = 0 → jm_Go d mc ms μ (pc + 3) ls st M Q) : jm_Go d mc ms μ pc ls (.inl a :: st) M Q := by
  intro G p e R s m args below meth c H locs cells slots lr C hF hL hc hs hR hS hl
  exact lv_if_eq C.1 C.2.1 (jm_d1 hd) ht (fun q => kt ((jr_eq ha jr_0).mp q) G p e R s m args below meth c H locs cells slots lr C hF hL hc hs hR hS hl) (fun q => kf ((not_congr (jr_eq ha jr_0)).mp q) G p e R s m args below meth c H locs cells slots lr C hF hL hc hs hR hS hl)
theorem go_icmp_ne {a b : Int} {off : Int} {t : Nat} (ht : (pc : Int) + off = (t : Int)) (ha : jm_rg a) (hb : jm_rg b) (hd : jm_dc μ.2.1 pc ((.if_icmp .ne off, 3) :: r) = true) (kt : ¬ a = b → jm_Go d mc ms μ t ls st M Q) (kf : a = b → jm_Go d mc ms μ (pc + 3) ls st M Q) : jm_Go d mc ms μ pc ls (.inl b :: .inl a :: st) M Q := by
  intro G p e R s m args below meth c H locs cells slots lr C hF hL hc hs hR hS hl
  exact lv_icmp_ne C.1 C.2.1 (jm_d1 hd) ht (fun q => kt ((not_congr (jr_eq ha hb)).mp q) G p e R s m args below meth c H locs cells slots lr C hF hL hc hs hR hS hl) (fun q => kf ((jr_eq ha hb).mp q) G p e R s m args below meth c H locs cells slots lr C hF hL hc hs hR hS hl)
theorem go_if_ne {a : Int} {off : Int} {t : Nat} (ht : (pc : Int) + off = (t : Int)) (ha : jm_rg a) (hd : jm_dc μ.2.1 pc ((.ifCond .ne off, 3) :: r) = true) (kt : ¬ a = 0 → jm_Go d mc ms μ t ls st M Q) (kf : a = 0 → jm_Go d mc ms μ (pc + 3) ls st M Q) : jm_Go d mc ms μ pc ls (.inl a :: st) M Q := by
  intro G p e R s m args below meth c H locs cells slots lr C hF hL hc hs hR hS hl
  exact lv_if_ne C.1 C.2.1 (jm_d1 hd) ht (fun q => kt ((not_congr (jr_eq ha jr_0)).mp q) G p e R s m args below meth c H locs cells slots lr C hF hL hc hs hR hS hl) (fun q => kf ((jr_eq ha jr_0).mp q) G p e R s m args below meth c H locs cells slots lr C hF hL hc hs hR hS hl)
theorem go_icmp_lt {a b : Int} {off : Int} {t : Nat} (ht : (pc : Int) + off = (t : Int)) (ha : jm_rg a) (hb : jm_rg b) (hd : jm_dc μ.2.1 pc ((.if_icmp .lt off, 3) :: r) = true) (kt : a < b → jm_Go d mc ms μ t ls st M Q) (kf : ¬ a < b → jm_Go d mc ms μ (pc + 3) ls st M Q) : jm_Go d mc ms μ pc ls (.inl b :: .inl a :: st) M Q := by
  intro G p e R s m args below meth c H locs cells slots lr C hF hL hc hs hR hS hl
  exact lv_icmp_lt C.1 C.2.1 (jm_d1 hd) ht (fun q => kt ((jr_lt ha hb).mp q) G p e R s m args below meth c H locs cells slots lr C hF hL hc hs hR hS hl) (fun q => kf ((not_congr (jr_lt ha hb)).mp q) G p e R s m args below meth c H locs cells slots lr C hF hL hc hs hR hS hl)
theorem go_if_lt {a : Int} {off : Int} {t : Nat} (ht : (pc : Int) + off = (t : Int)) (ha : jm_rg a) (hd : jm_dc μ.2.1 pc ((.ifCond .lt off, 3) :: r) = true) (kt : a < 0 → jm_Go d mc ms μ t ls st M Q) (kf : ¬ a < 0 → jm_Go d mc ms μ (pc + 3) ls st M Q) : jm_Go d mc ms μ pc ls (.inl a :: st) M Q := by
  intro G p e R s m args below meth c H locs cells slots lr C hF hL hc hs hR hS hl
  exact lv_if_lt C.1 C.2.1 (jm_d1 hd) ht (fun q => kt ((jr_lt ha jr_0).mp q) G p e R s m args below meth c H locs cells slots lr C hF hL hc hs hR hS hl) (fun q => kf ((not_congr (jr_lt ha jr_0)).mp q) G p e R s m args below meth c H locs cells slots lr C hF hL hc hs hR hS hl)
theorem go_icmp_ge {a b : Int} {off : Int} {t : Nat} (ht : (pc : Int) + off = (t : Int)) (ha : jm_rg a) (hb : jm_rg b) (hd : jm_dc μ.2.1 pc ((.if_icmp .ge off, 3) :: r) = true) (kt : b ≤ a → jm_Go d mc ms μ t ls st M Q) (kf : ¬ b ≤ a → jm_Go d mc ms μ (pc + 3) ls st M Q) : jm_Go d mc ms μ pc ls (.inl b :: .inl a :: st) M Q := by
  intro G p e R s m args below meth c H locs cells slots lr C hF hL hc hs hR hS hl
  exact lv_icmp_ge C.1 C.2.1 (jm_d1 hd) ht (fun q => kt ((jr_le hb ha).mp q) G p e R s m args below meth c H locs cells slots lr C hF hL hc hs hR hS hl) (fun q => kf ((not_congr (jr_le hb ha)).mp q) G p e R s m args below meth c H locs cells slots lr C hF hL hc hs hR hS hl)
theorem go_if_ge {a : Int} {off : Int} {t : Nat} (ht : (pc : Int) + off = (t : Int)) (ha : jm_rg a) (hd : jm_dc μ.2.1 pc ((.ifCond .ge off, 3) :: r) = true) (kt : 0 ≤ a → jm_Go d mc ms μ t ls st M Q) (kf : ¬ 0 ≤ a → jm_Go d mc ms μ (pc + 3) ls st M Q) : jm_Go d mc ms μ pc ls (.inl a :: st) M Q := by
  intro G p e R s m args below meth c H locs cells slots lr C hF hL hc hs hR hS hl
  exact lv_if_ge C.1 C.2.1 (jm_d1 hd) ht (fun q => kt ((jr_le jr_0 ha).mp q) G p e R s m args below meth c H locs cells slots lr C hF hL hc hs hR hS hl) (fun q => kf ((not_congr (jr_le jr_0 ha)).mp q) G p e R s m args below meth c H locs cells slots lr C hF hL hc hs hR hS hl)
theorem go_icmp_gt {a b : Int} {off : Int} {t : Nat} (ht : (pc : Int) + off = (t : Int)) (ha : jm_rg a) (hb : jm_rg b) (hd : jm_dc μ.2.1 pc ((.if_icmp .gt off, 3) :: r) = true) (kt : b < a → jm_Go d mc ms μ t ls st M Q) (kf : ¬ b < a → jm_Go d mc ms μ (pc + 3) ls st M Q) : jm_Go d mc ms μ pc ls (.inl b :: .inl a :: st) M Q := by
  intro G p e R s m args below meth c H locs cells slots lr C hF hL hc hs hR hS hl
  exact lv_icmp_gt C.1 C.2.1 (jm_d1 hd) ht (fun q => kt ((jr_lt hb ha).mp q) G p e R s m args below meth c H locs cells slots lr C hF hL hc hs hR hS hl) (fun q => kf ((not_congr (jr_lt hb ha)).mp q) G p e R s m args below meth c H locs cells slots lr C hF hL hc hs hR hS hl)
theorem go_if_gt {a : Int} {off : Int} {t : Nat} (ht : (pc : Int) + off = (t : Int)) (ha : jm_rg a) (hd : jm_dc μ.2.1 pc ((.ifCond .gt off, 3) :: r) = true) (kt : 0 < a → jm_Go d mc ms μ t ls st M Q) (kf : ¬ 0 < a → jm_Go d mc ms μ (pc + 3) ls st M Q) : jm_Go d mc ms μ pc ls (.inl a :: st) M Q := by
  intro G p e R s m args below meth c H locs cells slots lr C hF hL hc hs hR hS hl
  exact lv_if_gt C.1 C.2.1 (jm_d1 hd) ht (fun q => kt ((jr_lt jr_0 ha).mp q) G p e R s m args below meth c H locs cells slots lr C hF hL hc hs hR hS hl) (fun q => kf ((not_congr (jr_lt jr_0 ha)).mp q) G p e R s m args below meth c H locs cells slots lr C hF hL hc hs hR hS hl)
theorem go_icmp_le {a b : Int} {off : Int} {t : Nat} (ht : (pc : Int) + off = (t : Int)) (ha : jm_rg a) (hb : jm_rg b) (hd : jm_dc μ.2.1 pc ((.if_icmp .le off, 3) :: r) = true) (kt : a ≤ b → jm_Go d mc ms μ t ls st M Q) (kf : ¬ a ≤ b → jm_Go d mc ms μ (pc + 3) ls st M Q) : jm_Go d mc ms μ pc ls (.inl b :: .inl a :: st) M Q := by
  intro G p e R s m args below meth c H locs cells slots lr C hF hL hc hs hR hS hl
  exact lv_icmp_le C.1 C.2.1 (jm_d1 hd) ht (fun q => kt ((jr_le ha hb).mp q) G p e R s m args below meth c H locs cells slots lr C hF hL hc hs hR hS hl) (fun q => kf ((not_congr (jr_le ha hb)).mp q) G p e R s m args below meth c H locs cells slots lr C hF hL hc hs hR hS hl)
theorem go_if_le {a : Int} {off : Int} {t : Nat} (ht : (pc : Int) + off = (t : Int)) (ha : jm_rg a) (hd : jm_dc μ.2.1 pc ((.ifCond .le off, 3) :: r) = true) (kt : a ≤ 0 → jm_Go d mc ms μ t ls st M Q) (kf : ¬ a ≤ 0 → jm_Go d mc ms μ (pc + 3) ls st M Q) : jm_Go d mc ms μ pc ls (.inl a :: st) M Q := by
  intro G p e R s m args below meth c H locs cells slots lr C hF hL hc hs hR hS hl
  exact lv_if_le C.1 C.2.1 (jm_d1 hd) ht (fun q => kt ((jr_le ha jr_0).mp q) G p e R s m args below meth c H locs cells slots lr C hF hL hc hs hR hS hl) (fun q => kf ((not_congr (jr_le ha jr_0)).mp q) G p e R s m args below meth c H locs cells slots lr C hF hL hc hs hR hS hl)
theorem go_icmp_eqT {a b : Int} {off : Int} {t : Nat} (ht : (pc : Int) + off = (t : Int)) (hab : a = b) (hd : jm_dc μ.2.1 pc ((.if_icmp .eq off, 3) :: r) = true) (kt : jm_Go d mc ms μ t ls st M Q) : jm_Go d mc ms μ pc ls (.inl b :: .inl a :: st) M Q := by
  intro G p e R s m args below meth c H locs cells slots lr C hF hL hc hs hR hS hl
  subst hab
  exact lv_icmp_eq C.1 C.2.1 (jm_d1 hd) ht (fun _ => kt G p e R s m args below meth c H locs cells slots lr C hF hL hc hs hR hS hl) (fun q => absurd rfl q)
theorem go_tableIn {a : Int} {dflt lo hi : Int} {offs : Array Int} {len : Nat} {off : Int} {t : Nat} (ha : jm_rg a) (h1 : lo ≤ a) (h2 : a ≤ hi) (ho : offs[(a - lo).toNat]? = some off) (ht : (pc : Int) + off = (t : Int)) (hd : jm_dc μ.2.1 pc ((.tableswitch dflt lo hi offs, len) :: r) = true) (k : jm_Go d mc ms μ t ls st M Q) : jm_Go d mc ms μ pc ls (.inl a :: st) M Q := by
  intro G p e R s m args below meth c H locs cells slots lr C hF hL hc hs hR hS hl
  have hE : (Int32.ofInt a).toInt = a := Int32.toInt_ofInt_of_le ha.1 ha.2
  exact lv_tableIn C.1 C.2.1 (jm_d1 hd) (by rw [hE]; omega) (by rw [hE]; omega) (by rw [hE]; exact ho) ht (k G p e R s m args below meth c H locs cells slots lr C hF hL hc hs hR hS hl)
theorem go_tableOut {a : Int} {dflt lo hi : Int} {offs : Array Int} {len : Nat} {t : Nat} (ha : jm_rg a) (h1 : a < lo ∨ hi < a) (ht : (pc : Int) + dflt = (t : Int)) (hd : jm_dc μ.2.1 pc ((.tableswitch dflt lo hi offs, len) :: r) = true) (k : jm_Go d mc ms μ t ls st M Q) : jm_Go d mc ms μ pc ls (.inl a :: st) M Q := by
  intro G p e R s m args below meth c H locs cells slots lr C hF hL hc hs hR hS hl
  have hE : (Int32.ofInt a).toInt = a := Int32.toInt_ofInt_of_le ha.1 ha.2
  exact lv_tableOut C.1 C.2.1 (jm_d1 hd) (by rw [hE]; exact h1) ht (k G p e R s m args below meth c H locs cells slots lr C hF hL hc hs hR hS hl)
theorem go_lookup {a : Int} {dflt : Int} {ps : Array (Int × Int)} {len : Nat} {off : Int} {t : Nat} (ha : jm_rg a) (hp : (ps.toList.zip (ps.toList.drop 1)).all (fun (a, next) => a.1 < next.1) = true) (ho : Op.lookupswitch.offset ps.toList dflt a = off) (ht : (pc : Int) + off = (t : Int)) (hd : jm_dc μ.2.1 pc ((.lookupswitch dflt ps, len) :: r) = true) (k : jm_Go d mc ms μ t ls st M Q) : jm_Go d mc ms μ pc ls (.inl a :: st) M Q := by
  intro G p e R s m args below meth c H locs cells slots lr C hF hL hc hs hR hS hl
  have hE : (Int32.ofInt a).toInt = a := Int32.toInt_ofInt_of_le ha.1 ha.2
  exact lv_lookup C.1 C.2.1 (jm_d1 hd) hp (by rw [hE]; exact ho) ht (k G p e R s m args below meth c H locs cells slots lr C hF hL hc hs hR hS hl)
theorem go_ireturn {v : Int} (hd : jm_dc μ.2.1 pc ((.ireturn, 1) :: r) = true) (hr : μ.2.2.2 = some .int) (k : Q (some (.inl v)) M) : jm_Go d mc ms μ pc ls [.inl v] M Q := by
  intro G p e R s m args below meth c H locs cells slots lr C hF hL hc hs hR hS hl
  have hlocks := C.2.2.2.1
  refine W.widen (k := cells + mc) (n := slots + ms) (Nat.le_add_right _ _) (Nat.le_add_right _ _) ?_
  exact W.iret C.1 C.2.1 (C.2.2.1.trans hr) (fun t ht _ => ⟨⟨some (.inl v), M, rfl, k, by rw [ht]; exact hR⟩, hS.F ht⟩) hS.2.2 (jm_d1 hd)
theorem go_zreturn {v : Int} (hd : jm_dc μ.2.1 pc ((.ireturn, 1) :: r) = true) (hr : μ.2.2.2 = some .boolean) (hv : v = 0 ∨ v = 1) (k : Q (some (.inl v)) M) : jm_Go d mc ms μ pc ls [.inl v] M Q := by
  intro G p e R s m args below meth c H locs cells slots lr C hF hL hc hs hR hS hl
  have hlocks := C.2.2.2.1
  refine W.widen (k := cells + mc) (n := slots + ms) (Nat.le_add_right _ _) (Nat.le_add_right _ _) ?_
  exact W.zret C.1 C.2.1 (C.2.2.1.trans hr) (by rcases hv with rfl | rfl <;> decide) (fun t ht _ => ⟨⟨some (.inl v), M, rfl, k, by rw [ht]; exact hR⟩, hS.F ht⟩) hS.2.2 (jm_d1 hd)
theorem go_lreturn {v : Int} (hd : jm_dc μ.2.1 pc ((.lreturn, 1) :: r) = true) (hr : μ.2.2.2 = some .long) (k : Q (some (.inr (.inr v))) M) : jm_Go d mc ms μ pc ls [.inr (.inr v)] M Q := by
  intro G p e R s m args below meth c H locs cells slots lr C hF hL hc hs hR hS hl
  have hlocks := C.2.2.2.1
  refine W.widen (k := cells + mc) (n := slots + ms) (Nat.le_add_right _ _) (Nat.le_add_right _ _) ?_
  exact W.lret C.1 C.2.1 (C.2.2.1.trans hr) (fun t ht _ => ⟨⟨some (.inr (.inr v)), M, rfl, k, by rw [ht]; exact hR⟩, hS.F ht⟩) hS.2.2 (jm_d1 hd)
theorem go_vreturn (hd : jm_dc μ.2.1 pc ((.return_, 1) :: r) = true) (hr : μ.2.2.2 = none) (k : Q none M) : jm_Go d mc ms μ pc ls [] M Q := by
  intro G p e R s m args below meth c H locs cells slots lr C hF hL hc hs hR hS hl
  have hlocks := C.2.2.2.1
  refine W.widen (k := cells + mc) (n := slots + ms) (Nat.le_add_right _ _) (Nat.le_add_right _ _) ?_
  exact W.vret C.1 C.2.1 (C.2.2.1.trans hr) (fun t ht _ => ⟨⟨none, M, rfl, k, by rw [ht]; exact hR⟩, hS.F ht⟩) hS.2.2 (jm_d1 hd)
/-- what is asked of the end may be weakened -/
theorem jm_Go.mono {Q' : Option jm_V → jm_M → Prop} (h : jm_Go d mc ms μ pc ls st M Q') (hq : ∀ r M, Q' r M → Q r M) : jm_Go d mc ms μ pc ls st M Q := by
  intro G p e R s m args below meth c H locs cells slots lr C hF hL hc hs hR hS hl
  intro T hT X
  obtain ⟨t, h1, o, h2, h3, ⟨⟨r, M', h4, h5, h6⟩, h7⟩, h8⟩ := h G p e R s m args below meth c H locs cells slots lr C hF hL hc hs hR hS hl T hT X
  exact ⟨t, h1, o, h2, h3, ⟨⟨r, M', h4, hq r M' h5, h6⟩, h7⟩, h8⟩
end PLAIN
end
section
/-! ===== rules: fields and arrays ===== -/
section MEMRULES
variable {d mc ms pc : Nat} {μ : jm_Md} {ls : jm_Ls} {st : List jm_V} {M : jm_M} {Q : Option jm_V → jm_M → Prop} {r : List (Instr × Nat)}
theorem jm_ne99 {c : Nat} (h : c < 10) {M : jm_M} {a : Nat} (hs : (M.2.1 a).1 = c) : (M.2.1 a).1 < 98 := by omega
/-- a field, read -/
theorem go_getf {c k i a : Nat} {w : jm_V} (hC : jm_COk c) (hw : Cond.fieldLink μ.1.cls i (jm_T c k).1 (jm_T c k).2.1 (jm_T c k).2.2.1 ∈ jm_gt) (hk : k < jm_nf c) (hs : (M.2.1 a).1 = c) (hv : ∀ G : jm_G, jm_fv G M c a k = jm_cv G w) (hd : jm_dc μ.2.1 pc ((.getfield i, 3) :: r) = true) (kk : jm_dc μ.2.1 (pc + 3) r = true → jm_Go d mc ms μ (pc + 3) ls (w :: st) M Q) : jm_Go d mc ms μ pc ls (.inr (.inl a) :: st) M Q := by
  intro G p e R s m args below meth c0 H locs cells slots lr C hF hL hc hs0 hR hS hl
  obtain ⟨c1, c2, c3, c4, c5, c6⟩ := hC
  obtain ⟨b, rfl, hb⟩ := jm_at hR (jm_ne99 c6 hs)
  rw [jm_cl_C hs c6] at hb
  refine va_get C.1 C.2.1 (Ts := jm_gt) C.2.2.2.2.2.2.2.1 c2 C.2.2.2.2.2.1 C.2.2.2.2.2.2.2.2.2.1 hR.2.1 b hb c1 k hk (C.2.2.2.2.2.2.2.1 _ hw) (fun x hx => hx) (v := jm_cv G w) ?_ (jm_d1 hd) (kk (jm_d2 hd) G p e R s m args below meth c0 H locs cells slots lr C hF hL hc hs0 hR hS hl)
  rw [List.getElem?_map, List.getElem?_range hk, ← hv G]
  rfl
theorem go_getI {c k i a : Nat} (hC : jm_COk c) (hw : Cond.fieldLink μ.1.cls i (jm_T c k).1 (jm_T c k).2.1 (jm_T c k).2.2.1 ∈ jm_gt) (hk : k < jm_nf c) (hf : jm_fk c k = 0 ∨ jm_fk c k = 4) (hs : (M.2.1 a).1 = c) (hd : jm_dc μ.2.1 pc ((.getfield i, 3) :: r) = true) (kk : jm_dc μ.2.1 (pc + 3) r = true → jm_Go d mc ms μ (pc + 3) ls (.inl (M.2.2.2 a k) :: st) M Q) : jm_Go d mc ms μ pc ls (.inr (.inl a) :: st) M Q :=
  go_getf hC hw hk hs (fun G => by rcases hf with h | h <;> simp [jm_fv, h, jm_cv]) hd kk
theorem go_getJ {c k i a : Nat} (hC : jm_COk c) (hw : Cond.fieldLink μ.1.cls i (jm_T c k).1 (jm_T c k).2.1 (jm_T c k).2.2.1 ∈ jm_gt) (hk : k < jm_nf c) (hf : jm_fk c k = 3) (hs : (M.2.1 a).1 = c) (hd : jm_dc μ.2.1 pc ((.getfield i, 3) :: r) = true) (kk : jm_dc μ.2.1 (pc + 3) r = true → jm_Go d mc ms μ (pc + 3) ls (.inr (.inr (M.2.2.2 a k)) :: st) M Q) : jm_Go d mc ms μ pc ls (.inr (.inl a) :: st) M Q :=
  go_getf hC hw hk hs (fun G => by simp [jm_fv, hf, jm_cv]) hd kk
/-- a fixed reference -/
theorem go_getR {c k i a b : Nat} (hC : jm_COk c) (hw : Cond.fieldLink μ.1.cls i (jm_T c k).1 (jm_T c k).2.1 (jm_T c k).2.2.1 ∈ jm_gt) (hk : k < jm_nf c) (hf : jm_fk c k = 1) (hs : (M.2.1 a).1 = c) (hr : M.2.2.1 a k = some b) (hd : jm_dc μ.2.1 pc ((.getfield i, 3) :: r) = true) (kk : jm_dc μ.2.1 (pc + 3) r = true → jm_Go d mc ms μ (pc + 3) ls (.inr (.inl b) :: st) M Q) : jm_Go d mc ms μ pc ls (.inr (.inl a) :: st) M Q :=
  go_getf hC hw hk hs (fun G => by simp [jm_fv, hf, hr, jm_cv, va_rf]) hd kk
/-- a reference that may change -/
theorem go_getD {c k i a b : Nat} (hC : jm_COk c) (hw : Cond.fieldLink μ.1.cls i (jm_T c k).1 (jm_T c k).2.1 (jm_T c k).2.2.1 ∈ jm_gt) (hk : k < jm_nf c) (hf : jm_fk c k = 2) (hs : (M.2.1 a).1 = c) (hr : M.2.2.2 a k = (b : Int)) (h0 : 0 < b) (hd : jm_dc μ.2.1 pc ((.getfield i, 3) :: r) = true) (kk : jm_dc μ.2.1 (pc + 3) r = true → jm_Go d mc ms μ (pc + 3) ls (.inr (.inl b) :: st) M Q) : jm_Go d mc ms μ pc ls (.inr (.inl a) :: st) M Q :=
  go_getf hC hw hk hs (fun G => by
    have hne : ¬ (b = 0) := by omega
    simp [jm_fv, hf, hr, jm_cv, hne]) hd kk
/-- one cell of the heap is another one -/
theorem jm_Rp_put {G : jm_G} {M M' : jm_M} {H H1 : Heap} {b : Nat} {e0 e : va_E} (hR : jm_Rp G M H) (hb : (jm_ws G M)[b]? = some (jm_ad G (b + 1), e0)) (he : va_at G.2.1 vwCl (jm_ad G (b + 1), e) H1) (z : H1.size = H.size) (oq : ∀ q : Nat, q ≠ jm_ad G (b + 1) → H1[q]? = H[q]?) (hset : (jm_ws G M).set b (jm_ad G (b + 1), e) = jm_ws G M') (hM1 : M'.1 = M.1) (hM2 : M'.2.1 = M.2.1) (hM0 : M'.2.2.2 0 = M.2.2.2 0) : jm_Rp G M' H1 := by
  refine ⟨by rw [z, hR.1, hM1], ?_, fun x hx => ?_, by rw [hM2]; exact hR.2.2.2.1, by rw [hM0]; exact hR.2.2.2.2⟩
  · rw [← hset]
    exact hR.2.1.set jm_D hb he oq
  · rw [hM2] at hx
    rw [hM1]
    exact hR.2.2.1 x hx
/-- a field, put: M' is M but for that field -/
theorem go_putf {c k i a : Nat} {w : jm_V} {M' : jm_M} (hC : jm_COk c) (hw : Cond.fieldLink μ.1.cls i (jm_T c k).1 (jm_T c k).2.1 (jm_T c k).2.2.1 ∈ jm_gt) (hk : k < jm_nf c) (hs : (M.2.1 a).1 = c) (hfin : (jm_T c k).2.2.2 = false ∨ ((jm_T c k).2.2.2 = true ∧ μ.1.name = "<init>" ∧ (jm_T c k).1 = μ.1.cls)) (hn : ∀ G : jm_G, narrow (jm_ty c k) (jm_cv G w) = jm_cv G w) (hfit : ∀ G : jm_G, fits (jm_ty c k) (jm_cv G w) = true)
    (hM1 : M'.1 = M.1) (hM2 : M'.2.1 = M.2.1) (hM3 : ∀ b, b ≠ a → M'.2.2.1 b = M.2.2.1 b ∧ M'.2.2.2 b = M.2.2.2 b) (hv : ∀ G : jm_G, jm_fv G M' c a k = jm_cv G w) (ho : ∀ (G : jm_G) (j : Nat), j ≠ k → jm_fv G M' c a j = jm_fv G M c a j)
    (hd : jm_dc μ.2.1 pc ((.putfield i, 3) :: r) = true) (kk : jm_dc μ.2.1 (pc + 3) r = true → jm_Go d mc ms μ (pc + 3) ls st M' Q) : jm_Go d mc ms μ pc ls (w :: .inr (.inl a) :: st) M Q := by
  intro G p e R s m args below meth c0 H locs cells slots lr C hF hL hc hs0 hR hS hl
  obtain ⟨c1, c2, c3, c4, c5, c6⟩ := hC
  obtain ⟨b, rfl, hb⟩ := jm_at hR (jm_ne99 c6 hs)
  rw [jm_cl_C hs c6] at hb
  have hset : (jm_ws G M).set b (jm_ad G (b + 1), .inr (c, ((List.range (jm_nf c)).map (jm_fv G M c (b + 1))).set k (jm_cv G w))) = jm_ws G M' := by
    refine jm_ws_set (by rw [hM1]) ?_ (fun x hx => jm_cl_eq (by rw [hM2]) (hM3 (x + 1) (by omega)).1 (hM3 (x + 1) (by omega)).2)
    rw [jm_cl_C (by rw [hM2]; exact hs) c6, jm_fs_set hk (hv G) (fun j hj => ho G j hj)]
  have hts := C.2.2.2.2.2.2.2.1
  have hown := C.2.2.2.2.2.1
  have hK := C.2.2.2.2.2.2.2.2.2.1
  have hap := va_apart (own := μ.1.cls) hts c2 (jm_ty c) c3 c4 hK c1
  obtain ⟨r0, h1, cell, q1, q2, q3, q4⟩ := hR.2.1 b _ hb
  have hr : r0 = (jm_cn c, jm_T c, jm_nf c) := Option.some.inj (h1.symm.trans c1)
  subst hr
  obtain ⟨hSl, hfc, kC, hkC, hkind⟩ := hK.1 c _ c1
  obtain ⟨cf, kf, fi, f, hi, hsl⟩ := hSl k hk
  have hst := (u_facts hfc hkC (u_lays hts c2 hk) hi).1
  have hlay := hts _ (c2 _ (u_in_lay hk))
  unfold u_lay at hlay
  have fin : ∀ H' : Heap, H'[jm_ad G (b + 1)]? = some (cell.setSlot f.slot (jm_cv G w)) → H'.size = H.size → (∀ q, q ≠ jm_ad G (b + 1) → H'[q]? = H[q]?) → W p G.1 e R s m args below meth c0 H' (locs ++ [⟨jm_ad G (b + 1), f.slot⟩]) cells slots (MQ below (jm_Qc G Q) args s (cells + mc) (slots + ms) (jm_A G)) (F0 m (pc + 3) lr (st.map (jm_cv G))) := by
    intro H' e1 e2 e3
    rw [hsl] at e1 ⊢
    refine kk (jm_d2 hd) G p e R s m args below meth c0 H' _ cells slots lr C hF hL hc hs0 (jm_Rp_put (e := .inr (c, ((List.range (jm_nf c)).map (jm_fv G M c (b + 1))).set k (jm_cv G w))) hR hb ⟨_, c1, t_OB.to (V := updV (vp_V ((List.range (jm_nf c)).map (jm_fv G M c (b + 1)))) k (jm_cv G w)) ⟨_, e1, q2, q3, t_set q4 hap hk _⟩ (fun j _ => vp_updV_set (by simpa using hk) _ j)⟩ e2 e3 hset hM1 hM2 (hM3 0 (by omega)).2) (hS.put e2 e3 (jm_D.2 b _ hb)) hl
  rcases hfin with hfin | ⟨hfin, hin, hcl⟩
  · rw [if_neg (by rw [hfin]; decide)] at hlay
    exact W.putK C.1 C.2.1 (f := f) ⟨hown, hts _ hw, ⟨_, _, _, hi⟩, hst⟩ (by rw [q2]; exact u_store hfc hkC hkind hlay hi (c3 k hk) (hn G) (hfit G)) q1 q3 (by rw [hsl]; exact k2_hasslot (q4 k hk)) rfl rfl (jm_d1 hd) fin
  · rw [if_pos hfin] at hlay
    have hcf : m.cls = cf := by
      obtain ⟨_, _, c', _, _, _, -, -, hf', -, -, -, hown2, -⟩ := Cond.laysFinal_spec hlay
      have e1 : c' = cf := by have := hi.symm.trans hf'; simp at this; exact this.1.symm
      rw [hcl] at hown2
      rw [← e1]; exact Option.some.inj (hown.symm.trans hown2)
    exact W.putFinK C.1 C.2.1 hown (hts _ hw) hi hst hcf (C.2.2.2.2.2.2.1.trans hin) (by rw [q2]; exact u_fits hfc hkC hkind (Or.inr hlay) hi (c3 k hk) (hn G) (hfit G)) q1 q3 (by rw [hsl]; exact k2_hasslot (q4 k hk)) rfl rfl (jm_d1 hd) fin
theorem jm_kd_spec {c k : Nat} (h : jm_kd c k = true) : (jm_fk c k = 0 → jm_ty c k = .int ∧ (jm_T c k).2.2.2 = false) ∧ (jm_fk c k = 4 → jm_ty c k = .boolean ∧ (jm_T c k).2.2.2 = false) ∧ (jm_fk c k = 3 → jm_ty c k = .long ∧ (jm_T c k).2.2.2 = false) ∧ (jm_fk c k = 1 → ((∃ x, jm_ty c k = .object x) ∨ ∃ x, jm_ty c k = .array x) ∧ (jm_T c k).2.2.2 = true) ∧ (jm_fk c k = 2 → ((∃ x, jm_ty c k = .object x) ∨ ∃ x, jm_ty c k = .array x) ∧ (jm_T c k).2.2.2 = false) := by
  unfold jm_kd at h
  split at h <;> simp_all
theorem jm_fv_up {G : jm_G} {M : jm_M} {c a k j : Nat} {v : Int} (h : j ≠ k) : jm_fv G (jm_pu M a k v) c a j = jm_fv G M c a j := by
  simp [jm_fv, jm_pu, jm_up, h]
theorem go_putI {c k i a : Nat} {v : Int} (hC : jm_COk c) (hw : Cond.fieldLink μ.1.cls i (jm_T c k).1 (jm_T c k).2.1 (jm_T c k).2.2.1 ∈ jm_gt) (hk : k < jm_nf c) (hf : jm_fk c k = 0) (hs : (M.2.1 a).1 = c) (hd : jm_dc μ.2.1 pc ((.putfield i, 3) :: r) = true) (kk : jm_dc μ.2.1 (pc + 3) r = true → jm_Go d mc ms μ (pc + 3) ls st (jm_pu M a k v) Q) : jm_Go d mc ms μ pc ls (.inl v :: .inr (.inl a) :: st) M Q := by
  obtain ⟨h1, h2⟩ := (jm_kd_spec (hC.2.2.2.2.1 k hk)).1 hf
  exact go_putf (M' := jm_pu M a k v) hC hw hk hs (Or.inl h2) (fun G => by rw [h1]; rfl) (fun G => by rw [h1]; rfl) rfl rfl (fun b hb => ⟨rfl, jm_up_o hb⟩) (fun G => by simp [jm_fv, hf, jm_up, jm_cv]) (fun G j hj => jm_fv_up hj) hd kk
theorem go_putZ {c k i a : Nat} {v : Int} (hC : jm_COk c) (hw : Cond.fieldLink μ.1.cls i (jm_T c k).1 (jm_T c k).2.1 (jm_T c k).2.2.1 ∈ jm_gt) (hk : k < jm_nf c) (hf : jm_fk c k = 4) (hs : (M.2.1 a).1 = c) (hv : v = 0 ∨ v = 1) (hd : jm_dc μ.2.1 pc ((.putfield i, 3) :: r) = true) (kk : jm_dc μ.2.1 (pc + 3) r = true → jm_Go d mc ms μ (pc + 3) ls st (jm_pu M a k v) Q) : jm_Go d mc ms μ pc ls (.inl v :: .inr (.inl a) :: st) M Q := by
  obtain ⟨h1, h2⟩ := (jm_kd_spec (hC.2.2.2.2.1 k hk)).2.1 hf
  exact go_putf (M' := jm_pu M a k v) hC hw hk hs (Or.inl h2) (fun G => by rw [h1]; rcases hv with rfl | rfl <;> simp only [jm_cv] <;> decide) (fun G => by rw [h1]; rcases hv with rfl | rfl <;> simp only [jm_cv] <;> decide) rfl rfl (fun b hb => ⟨rfl, jm_up_o hb⟩) (fun G => by simp [jm_fv, hf, jm_up, jm_cv]) (fun G j hj => jm_fv_up hj) hd kk
theorem go_putJ {c k i a : Nat} {v : Int} (hC : jm_COk c) (hw : Cond.fieldLink μ.1.cls i (jm_T c k).1 (jm_T c k).2.1 (jm_T c k).2.2.1 ∈ jm_gt) (hk : k < jm_nf c) (hf : jm_fk c k = 3) (hs : (M.2.1 a).1 = c) (hd : jm_dc μ.2.1 pc ((.putfield i, 3) :: r) = true) (kk : jm_dc μ.2.1 (pc + 3) r = true → jm_Go d mc ms μ (pc + 3) ls st (jm_pu M a k v) Q) : jm_Go d mc ms μ pc ls (.inr (.inr v) :: .inr (.inl a) :: st) M Q := by
  obtain ⟨h1, h2⟩ := (jm_kd_spec (hC.2.2.2.2.1 k hk)).2.2.1 hf
  exact go_putf (M' := jm_pu M a k v) hC hw hk hs (Or.inl h2) (fun G => by rw [h1]; rfl) (fun G => by rw [h1]; rfl) rfl rfl (fun b hb => ⟨rfl, jm_up_o hb⟩) (fun G => by simp [jm_fv, hf, jm_up, jm_cv]) (fun G j hj => jm_fv_up hj) hd kk
theorem go_putD {c k i a b : Nat} (hC : jm_COk c) (hw : Cond.fieldLink μ.1.cls i (jm_T c k).1 (jm_T c k).2.1 (jm_T c k).2.2.1 ∈ jm_gt) (hk : k < jm_nf c) (hf : jm_fk c k = 2) (hs : (M.2.1 a).1 = c) (h0 : 0 < b) (hd : jm_dc μ.2.1 pc ((.putfield i, 3) :: r) = true) (kk : jm_dc μ.2.1 (pc + 3) r = true → jm_Go d mc ms μ (pc + 3) ls st (jm_pu M a k (b : Int)) Q) : jm_Go d mc ms μ pc ls (.inr (.inl b) :: .inr (.inl a) :: st) M Q := by
  obtain ⟨h1, h2⟩ := (jm_kd_spec (hC.2.2.2.2.1 k hk)).2.2.2.2 hf
  have hne : ¬ b = 0 := by omega
  exact go_putf (M' := jm_pu M a k (b : Int)) hC hw hk hs (Or.inl h2) (fun G => by rcases h1 with ⟨x, h1⟩ | ⟨x, h1⟩ <;> rw [h1] <;> rfl) (fun G => by rcases h1 with ⟨x, h1⟩ | ⟨x, h1⟩ <;> rw [h1] <;> rfl) rfl rfl (fun b hb => ⟨rfl, jm_up_o hb⟩) (fun G => by simp [jm_fv, hf, jm_up, jm_cv, hne]) (fun G j hj => jm_fv_up hj) hd kk
/-- a fixed reference, put by its own constructor -/
def jm_ur (R : Nat → Nat → Option Nat) (a k : Nat) (v : Nat) : Nat → Nat → Option Nat := fun b j => if b = a ∧ j = k then some v else R b j
abbrev jm_pr2 (M : jm_M) (a k : Nat) (v : Nat) : jm_M := (M.1, M.2.1, jm_ur M.2.2.1 a k v, M.2.2.2)
theorem jm_ur_o {R : Nat → Nat → Option Nat} {a b k v : Nat} (h : b ≠ a) : jm_ur R a k v b = R b := by
  funext j
  simp [jm_ur, h]
theorem go_putR {c k i a b : Nat} (hC : jm_COk c) (hw : Cond.fieldLink μ.1.cls i (jm_T c k).1 (jm_T c k).2.1 (jm_T c k).2.2.1 ∈ jm_gt) (hk : k < jm_nf c) (hf : jm_fk c k = 1) (hs : (M.2.1 a).1 = c) (hin : μ.1.name = "<init>") (hcl : (jm_T c k).1 = μ.1.cls) (hd : jm_dc μ.2.1 pc ((.putfield i, 3) :: r) = true) (kk : jm_dc μ.2.1 (pc + 3) r = true → jm_Go d mc ms μ (pc + 3) ls st (jm_pr2 M a k b) Q) : jm_Go d mc ms μ pc ls (.inr (.inl b) :: .inr (.inl a) :: st) M Q := by
  obtain ⟨h1, h2⟩ := (jm_kd_spec (hC.2.2.2.2.1 k hk)).2.2.2.1 hf
  exact go_putf (M' := jm_pr2 M a k b) hC hw hk hs (Or.inr ⟨h2, hin, hcl⟩) (fun G => by rcases h1 with ⟨x, h1⟩ | ⟨x, h1⟩ <;> rw [h1] <;> rfl) (fun G => by rcases h1 with ⟨x, h1⟩ | ⟨x, h1⟩ <;> rw [h1] <;> rfl) rfl rfl (fun b hb => ⟨jm_ur_o hb, rfl⟩) (fun G => by simp [jm_fv, hf, jm_ur, jm_cv, va_rf]) (fun G j hj => by simp [jm_fv, jm_pr2, jm_ur, hj]) hd kk
/-! arrays -/
theorem go_iaload {a n : Nat} {i : Int} (hs : M.2.1 a = (20, n)) (h0 : 0 ≤ i) (h1 : i < n) (hn : n < 2 ^ 31) (hd : jm_dc μ.2.1 pc ((.iaload, 1) :: r) = true) (kk : jm_dc μ.2.1 (pc + 1) r = true → jm_Go d mc ms μ (pc + 1) ls (.inl (M.2.2.2 a i.toNat) :: st) M Q) : jm_Go d mc ms μ pc ls (.inl i :: .inr (.inl a) :: st) M Q := by
  intro G p e R s m args below meth c0 H locs cells slots lr C hF hL hc hs0 hR hS hl
  obtain ⟨b, rfl, hb⟩ := jm_at hR (show (M.2.1 a).1 < 98 by rw [hs]; simp)
  rw [jm_cl_I hs] at hb
  obtain ⟨g1, g2⟩ := jm_clamp h0 h1 hn
  refine va_iald C.1 C.2.1 C.2.2.2.2.2.2.2.2.2.1 hR.2.1 b 0 hb rfl g1 (jm_d1 hd) ?_
  rw [g2]
  exact kk (jm_d2 hd) G p e R s m args below meth c0 H locs cells slots lr C hF hL hc hs0 hR hS hl
theorem go_zaload {a n : Nat} {i : Int} (hs : M.2.1 a = (21, n)) (h0 : 0 ≤ i) (h1 : i < n) (hn : n < 2 ^ 31) (hd : jm_dc μ.2.1 pc ((.baload, 1) :: r) = true) (kk : jm_dc μ.2.1 (pc + 1) r = true → jm_Go d mc ms μ (pc + 1) ls (.inl (M.2.2.2 a i.toNat) :: st) M Q) : jm_Go d mc ms μ pc ls (.inl i :: .inr (.inl a) :: st) M Q := by
  intro G p e R s m args below meth c0 H locs cells slots lr C hF hL hc hs0 hR hS hl
  obtain ⟨b, rfl, hb⟩ := jm_at hR (show (M.2.1 a).1 < 98 by rw [hs]; simp)
  rw [jm_cl_Z hs] at hb
  obtain ⟨g1, g2⟩ := jm_clamp h0 h1 hn
  refine va_zald C.1 C.2.1 C.2.2.2.2.2.2.2.2.2.1 hR.2.1 b 1 hb rfl g1 (jm_d1 hd) ?_
  rw [g2]
  exact kk (jm_d2 hd) G p e R s m args below meth c0 H locs cells slots lr C hF hL hc hs0 hR hS hl
/-- an array of references -/
theorem go_aaload {a n b0 : Nat} {i : Int} (hs : M.2.1 a = (22, n) ∨ M.2.1 a = (23, n)) (h0 : 0 ≤ i) (h1 : i < n) (hn : n < 2 ^ 31) (hb0 : M.2.2.1 a i.toNat = some b0) (hd : jm_dc μ.2.1 pc ((.aaload, 1) :: r) = true) (kk : jm_dc μ.2.1 (pc + 1) r = true → jm_Go d mc ms μ (pc + 1) ls (.inr (.inl b0) :: st) M Q) : jm_Go d mc ms μ pc ls (.inl i :: .inr (.inl a) :: st) M Q := by
  intro G p e R s m args below meth c0 H locs cells slots lr C hF hL hc hs0 hR hS hl
  obtain ⟨b, rfl, hb⟩ := jm_at hR (show (M.2.1 a).1 < 98 by rcases hs with h | h <;> rw [h] <;> simp)
  obtain ⟨g1, g2⟩ := jm_clamp h0 h1 hn
  have hlt : (Int32.ofInt i).toNatClampNeg < n := by rw [g2]; omega
  have K := kk (jm_d2 hd) G p e R s m args below meth c0 H locs cells slots lr C hF hL hc hs0 hR hS hl
  have hK := C.2.2.2.2.2.2.2.2.2.1
  rcases hs with hs | hs
  · rw [jm_cl_O hs] at hb
    refine W.aald (v := .ref (jm_ad G b0)) (ty := .object RX5) C.1 C.2.1 (hR.2.1 b _ hb) ((hK.2 2 _ rfl).1 n (fun j => va_rf ((M.2.2.1 (b + 1) j).map (jm_ad G)))) rfl (fun q => by cases q) ?_ ?_ rfl rfl (jm_d1 hd) K
    · show ¬ (_ ∨ (arrV _ _ _).slots.size ≤ _)
      rw [arrV_size]; exact g1
    · show (arrV _ _ _).slots[_]? = _
      rw [arrV_read _ _ hlt, g2]
      show some (va_rf (Option.map (jm_ad G) (M.2.2.1 (b + 1) i.toNat))) = _
      rw [hb0]
      rfl
  · rw [jm_cl_A hs] at hb
    refine W.aald (v := .ref (jm_ad G b0)) (ty := .array .int) C.1 C.2.1 (hR.2.1 b _ hb) ((hK.2 3 _ rfl).1 n (fun j => va_rf ((M.2.2.1 (b + 1) j).map (jm_ad G)))) rfl (fun q => by cases q) ?_ ?_ rfl rfl (jm_d1 hd) K
    · show ¬ (_ ∨ (arrV _ _ _).slots.size ≤ _)
      rw [arrV_size]; exact g1
    · show (arrV _ _ _).slots[_]? = _
      rw [arrV_read _ _ hlt, g2]
      show some (va_rf (Option.map (jm_ad G) (M.2.2.1 (b + 1) i.toNat))) = _
      rw [hb0]
      rfl
theorem jm_set_num {G : jm_G} {M : jm_M} {b k : Nat} {v : Int} {e : va_E} (he : jm_cl G (jm_pu M (b + 1) k v) (b + 1) = e) : (jm_ws G M).set b (jm_ad G (b + 1), e) = jm_ws G (jm_pu M (b + 1) k v) :=
  jm_ws_set rfl he (fun x hx => jm_cl_eq rfl rfl (jm_up_o (by omega)))
theorem jm_upf {I : Nat → Nat → Int} {a k : Nat} {v : Int} : (fun j => Int32.ofInt (jm_up I a k v a j)) = upd (fun j => Int32.ofInt (I a j)) k (Int32.ofInt v) := by
  funext j
  by_cases h : j = k
  · simp [jm_up, upd, h]
  · simp [jm_up, upd, h]
theorem go_iastore {a n : Nat} {i v : Int} (hs : M.2.1 a = (20, n)) (h0 : 0 ≤ i) (h1 : i < n) (hn : n < 2 ^ 31) (hd : jm_dc μ.2.1 pc ((.iastore, 1) :: r) = true) (kk : jm_dc μ.2.1 (pc + 1) r = true → jm_Go d mc ms μ (pc + 1) ls st (jm_pu M a i.toNat v) Q) : jm_Go d mc ms μ pc ls (.inl v :: .inl i :: .inr (.inl a) :: st) M Q := by
  intro G p e R s m args below meth c0 H locs cells slots lr C hF hL hc hs0 hR hS hl
  obtain ⟨b, rfl, hb⟩ := jm_at hR (show (M.2.1 a).1 < 98 by rw [hs]; simp)
  have hb' := hb
  rw [jm_cl_I hs] at hb'
  obtain ⟨g1, g2⟩ := jm_clamp h0 h1 hn
  refine W.iast (x := Int32.ofInt v) C.1 C.2.1 (hR.2.1 b _ hb') ((C.2.2.2.2.2.2.2.2.2.1.2 0 _ rfl).1 n (fun j => .int (Int32.ofInt (M.2.2.2 (b + 1) j)))) (fun q => by cases q) (by show ¬ (_ ∨ (arrV _ _ _).slots.size ≤ _); rw [arrV_size]; exact g1) rfl rfl (jm_d1 hd) (fun H1 e1 e2 e3 => ?_)
  have h00 : (0 : Nat) ≠ b + 1 := by omega
  refine kk (jm_d2 hd) G p e R s m args below meth c0 H1 _ cells slots lr C hF hL hc hs0 (jm_Rp_put (M' := jm_pu M (b + 1) i.toNat v) (e := jm_cl G (jm_pu M (b + 1) i.toNat v) (b + 1)) hR hb ?_ e2 e3 (jm_set_num rfl) rfl rfl (jm_up_o (I := M.2.2.2) (k := i.toNat) (v := v) h00)) (hS.put e2 e3 (show jm_A G (jm_ad G (b + 1)) from Nat.le_add_right _ _)) hl
  rw [jm_cl_I (M := jm_pu M (b + 1) i.toNat v) hs]
  show H1[_]? = some (vp_cell _ _)
  rw [e1, g2, vp_cell_i, vp_cell_i, arrV_store]
  congr 2
  funext q
  by_cases hq : q = i.toNat
  · simp [updV, jm_up, hq]
  · simp [updV, jm_up, hq]
theorem go_zastore {a n : Nat} {i v : Int} (hs : M.2.1 a = (21, n)) (h0 : 0 ≤ i) (h1 : i < n) (hn : n < 2 ^ 31) (hv : v = 0 ∨ v = 1) (hd : jm_dc μ.2.1 pc ((.bastore, 1) :: r) = true) (kk : jm_dc μ.2.1 (pc + 1) r = true → jm_Go d mc ms μ (pc + 1) ls st (jm_pu M a i.toNat v) Q) : jm_Go d mc ms μ pc ls (.inl v :: .inl i :: .inr (.inl a) :: st) M Q := by
  intro G p e R s m args below meth c0 H locs cells slots lr C hF hL hc hs0 hR hS hl
  obtain ⟨b, rfl, hb⟩ := jm_at hR (show (M.2.1 a).1 < 98 by rw [hs]; simp)
  have hb' := hb
  rw [jm_cl_Z hs] at hb'
  obtain ⟨g1, g2⟩ := jm_clamp h0 h1 hn
  have hnar : narrow .boolean (.int (Int32.ofInt v)) = .int (Int32.ofInt v) := by rcases hv with rfl | rfl <;> decide
  refine W.zast (x := Int32.ofInt v) C.1 C.2.1 (hR.2.1 b _ hb') ((C.2.2.2.2.2.2.2.2.2.1.2 1 _ rfl).1 n (fun j => .int (Int32.ofInt (M.2.2.2 (b + 1) j)))) (fun q => by cases q) (by show ¬ (_ ∨ (arrV _ _ _).slots.size ≤ _); rw [arrV_size]; exact g1) rfl rfl (jm_d1 hd) (fun H1 e1 e2 e3 => ?_)
  have h00 : (0 : Nat) ≠ b + 1 := by omega
  refine kk (jm_d2 hd) G p e R s m args below meth c0 H1 _ cells slots lr C hF hL hc hs0 (jm_Rp_put (M' := jm_pu M (b + 1) i.toNat v) (e := jm_cl G (jm_pu M (b + 1) i.toNat v) (b + 1)) hR hb ?_ e2 e3 (jm_set_num rfl) rfl rfl (jm_up_o (I := M.2.2.2) (k := i.toNat) (v := v) h00)) (hS.put e2 e3 (show jm_A G (jm_ad G (b + 1)) from Nat.le_add_right _ _)) hl
  rw [jm_cl_Z (M := jm_pu M (b + 1) i.toNat v) hs]
  show H1[_]? = some (vp_cell _ _)
  rw [e1, g2, hnar, vp_cell_i, vp_cell_i, arrV_store]
  congr 2
  funext q
  by_cases hq : q = i.toNat
  · simp [updV, jm_up, hq]
  · simp [updV, jm_up, hq]
/-- the script: its length, a number of it -/
theorem go_slen (hd : jm_dc μ.2.1 pc ((.arraylength, 1) :: r) = true) (kk : jm_dc μ.2.1 (pc + 1) r = true → jm_Go d mc ms μ (pc + 1) ls (.inl ((M.2.1 0).2 : Int) :: st) M Q) : jm_Go d mc ms μ pc ls (.inr (.inl 0) :: st) M Q := by
  intro G p e R s m args below meth c0 H locs cells slots lr C hF hL hc hs0 hR hS hl
  have hA : ¬ jm_A G (jg_b G) := Nat.not_le.mpr C.2.2.2.2.2.2.2.2.2.2.2.1
  refine va_slen C.1 C.2.1 C.2.2.2.2.2.2.2.2.2.2.1 (Nat.lt_of_lt_of_le C.2.2.2.2.2.2.2.2.2.2.2.1 C.2.2.2.2.2.2.2.2.2.2.2.2) hA hS (jm_d1 hd) ?_
  have K := kk (jm_d2 hd) G p e R s m args below meth c0 H locs cells slots lr C hF hL hc hs0 hR hS hl
  rw [hR.2.2.2.1] at K
  simp only [List.map_cons, jm_cv, Int32.ofInt_eq_ofNat] at K
  exact K
theorem go_sload {i : Int} (h0 : 0 ≤ i) (h1 : i < (M.2.1 0).2) (hn : (M.2.1 0).2 < 2 ^ 31) (hd : jm_dc μ.2.1 pc ((.iaload, 1) :: r) = true) (kk : jm_dc μ.2.1 (pc + 1) r = true → jm_Go d mc ms μ (pc + 1) ls (.inl (M.2.2.2 0 i.toNat) :: st) M Q) : jm_Go d mc ms μ pc ls (.inl i :: .inr (.inl 0) :: st) M Q := by
  intro G p e R s m args below meth c0 H locs cells slots lr C hF hL hc hs0 hR hS hl
  have hA : ¬ jm_A G (jg_b G) := Nat.not_le.mpr C.2.2.2.2.2.2.2.2.2.2.2.1
  rw [hR.2.2.2.1] at h1 hn
  obtain ⟨g1, g2⟩ := jm_clamp h0 h1 hn
  refine va_sld C.1 C.2.1 C.2.2.2.2.2.2.2.2.2.2.1 (Nat.lt_of_lt_of_le C.2.2.2.2.2.2.2.2.2.2.2.1 C.2.2.2.2.2.2.2.2.2.2.2.2) hA hS g1 (jm_d1 hd) ?_
  have K := kk (jm_d2 hd) G p e R s m args below meth c0 H locs cells slots lr C hF hL hc hs0 hR hS hl
  rw [hR.2.2.2.2 i.toNat (by have : i < (jg_L G : Int) := h1; omega)] at K
  simp only [List.map_cons, jm_cv, Int32.ofInt_toInt] at K
  rw [g2]
  exact K
end MEMRULES
end
section
/-! ===== rules: calls ===== -/
def jm_ls0 (n : Nat) (as : List jm_V) : jm_Ls := as.map some ++ List.replicate (n - as.length) none
/-- a method, called -/
def jm_Call (d mc ms : Nat) (ν : jm_Md) (as : List jm_V) (M : jm_M) (K : Option jm_V → jm_M → Prop) : Prop := jm_Go d mc ms ν 0 (jm_ls0 ν.2.2.1 as) [] M K
/-- what the tables say of a method -/
def jm_MOk (ν : jm_Md) (n : Nat) : Prop := Cond.code ν.1 ν.2.1 ν.2.2.1 ν.2.2.2 ∈ jm_gt ∧ Cond.initialized ν.1.cls ∈ jm_gt ∧ plainName ν.1.cls = true ∧ (ν.1.cls ≠ "java/lang/invoke/MethodHandle" ∧ ν.1.cls ≠ "java/lang/invoke/VarHandle") ∧ (parseMethodDescriptor ν.1.desc).map (fun d => d.parameters.length) = some n ∧ ν.2.2.1 ≤ 45
theorem jm_gt_good {w : Cond} (h : w ∈ jm_gt) : (w.onTables && w.keeps) = true ∨ ∃ ty, w = .arrayClass ty := good_of_word (List.mem_filter.mp h).2
theorem jm_gt_pay {args : Array Value} {s : State} (hts : ∀ w ∈ jm_gt, w.before args s = true) : ∀ w ∈ jm_gt, ∀ (a' : Array Value) (U : State), s.WarmedH U.vm → w.before a' U = true := fun w hw a' U hW => word_at hW (jm_gt_good hw) (hts w hw)
theorem jm_ao {ty : FieldType} {u U : State} (h : u.vm = U.vm) : (Cond.arrayOver ty).before #[] u = (Cond.arrayOver ty).before #[] U := by
  unfold Cond.before Cond.holds
  simp only [Cond.value, h]
/-- the words beside them are moved, too -/
theorem jm_nw_pay {s U : State} (hW : s.WarmedH U.vm) (h : ∀ w ∈ jm_nw, w.before #[] s = true) : ∀ w ∈ jm_nw, w.before #[] U = true := by
  intro w hw
  have h1 := h w hw
  have h2 := (List.mem_filter.mp hw).2
  unfold jm_nOk at h2
  split at h2
  · exact va_Nw.warmM hW h1
  · rename_i ty
    exact ((jm_ao (rfl : (s.setVm U.vm).vm = U.vm)).symm.trans (Cond.arrayOver_setVmC (args := #[]) hW.alike ty)).trans h1
  · cases h2
theorem jm_blind {as : Array Value} {B : State → Prop} (hB : ∀ (U : State) (g : JFrame) (mk : MethodId) (a : Array Value), B U → B (U.calling g mk a)) : FrameBlind (fun v U => v = as ∧ B U) := fun a U g mk h => ⟨h.1, hB U g mk a h.2⟩
theorem jm_nw_same {u U : State} (h : u.vm = U.vm) (hZ : ∀ w ∈ jm_nw, w.before #[] u = true) : ∀ w ∈ jm_nw, w.before #[] U = true := by
  intro w hw
  have h2 := (List.mem_filter.mp hw).2
  unfold jm_nOk at h2
  split at h2
  · exact va_tabs rfl h (hZ _ hw)
  · exact (jm_ao h).symm.trans (hZ _ hw)
  · cases h2
/-- what a callee is given of the state -/
def jm_St (G : jm_G) (M : jm_M) (U : State) : Prop := jm_Rp G M U.heap ∧ (∀ w ∈ jm_nw, w.before #[] U = true) ∧ va_K G.2.1 vwCl (jm_tys G) U ∧ va_X (jg_b G) (jg_L G) (jg_xs G) U U.heap ∧ jg_b G < jg_sz G ∧ jg_sz G ≤ U.heap.size
theorem jm_St.call {G : jm_G} {M : jm_M} {U : State} (h : jm_St G M U) (g : JFrame) (mk : MethodId) (a : Array Value) : jm_St G M (U.calling g mk a) := by
  obtain ⟨h1, h2, h3, h4, h5, h6⟩ := h
  exact ⟨h1, jm_nw_same (u := U) (U := U.calling g mk a) rfl h2, va_K.moved (u := U) (U := U.calling g mk a) (Vm.Alike.refl U.vm) h3, va_X.moved (u := U) (U := U.calling g mk a) (Vm.Alike.refl U.vm) h4, h5, h6⟩
theorem jm_sl {vs : List Value} (h : ∀ v ∈ vs, v.category = 1) : lg_sl vs = vs.map Slot.val := by
  induction vs with
  | nil => rfl
  | cons v t ih =>
    have h1 := h v List.mem_cons_self
    have h2 := ih (fun x hx => h x (List.mem_cons_of_mem _ hx))
    unfold lg_sl at h2 ⊢
    rw [List.flatMap_cons, h2, if_neg (by omega)]
    rfl
theorem jm_entry {G : jm_G} {m : MethodId} {n : Nat} {as : List jm_V} (h : as.length ≤ n) (hc : ∀ v ∈ as, jm_ct v = 1) : ∃ lr : Array Slot, entryFrame m (as.map (jm_cv G)).toArray n = F0 m 0 lr [] ∧ jm_Lo G n (jm_ls0 n as) lr := by
  have hs : lg_sl (as.map (jm_cv G)) = (as.map (jm_cv G)).map Slot.val := jm_sl (fun v hv => by
    obtain ⟨x, hx, rfl⟩ := List.mem_map.mp hv
    rw [jm_cat]
    exact hc x hx)
  have hlen : (lg_sl (as.map (jm_cv G))).length = as.length := by rw [hs]; simp
  have hE := lv_entry (as.map (jm_cv G)) (n := n) (by rw [hlen]; exact h)
  refine ⟨_, lg_entry_eq m _ n, by simp [jm_ls0]; omega, hE.1, hE.2.1, fun k v hk => ?_⟩
  by_cases hkl : k < as.length
  · unfold jm_ls0 at hk
    rw [List.getElem?_append_left (by simpa using hkl), List.getElem?_map] at hk
    obtain ⟨x, hx⟩ : ∃ x, as[k]? = some x := ⟨as[k], List.getElem?_eq_getElem hkl⟩
    rw [hx] at hk
    cases hk
    refine ⟨hc _ (List.mem_of_getElem? hx), ?_⟩
    rw [hs]
    simp only [List.getElem?_toArray]
    rw [List.getElem?_append_left (by simpa using hkl)]
    simp [hx]
  · unfold jm_ls0 at hk
    rw [List.getElem?_append_right (by simpa using hkl)] at hk
    have := List.mem_of_getElem? hk
    simp at this
theorem jm_Met {d mc ms n : Nat} {ν : jm_Md} {as : List jm_V} {M : jm_M} {K : Option jm_V → jm_M → Prop} (hM : jm_MOk ν n) (hlen : as.length ≤ ν.2.2.1) (hc : ∀ v ∈ as, jm_ct v = 1) (h : jm_Call d mc ms ν as M K) (G : jm_G) :
    Met G.1 ν.1 (Cond.code ν.1 ν.2.1 ν.2.2.1 ν.2.2.2 :: jm_gt) ({ frames := d + 1, cells := mc, slots := ms, locals := 64 * (d + 1) }) (fun v U => v = (as.map (jm_cv G)).toArray ∧ jm_St G M U) (jm_Qc G K) mc ms (jm_A G) := by
  refine Met.ofW (cc := ν.2.1) (maxL := ν.2.2.1) (ret := ν.2.2.2) hM.2.2.1 rfl ?_
  intro p e s m args below meth c s₁ B hml hv
  obtain ⟨rfl, hR, hN, hK, hX, hb, hz⟩ := hv
  have hts := atoms_spec (ws := Cond.code ν.1 ν.2.1 ν.2.2.1 ν.2.2.2 :: jm_gt) B.pre
  obtain ⟨lr, he, hl⟩ := jm_entry (G := G) (m := m) hlen hc
  rw [he]
  have K0 := h G p e ({ frames := d + 1, cells := mc, slots := ms, locals := 64 * (d + 1) }) s m (as.map (jm_cv G)).toArray below meth c s.heap [] 0 0 lr ⟨B.exec, B.bytes, B.returns, B.notSynchronized, hml, findClass_of_methodNamed B.named, (name_of_methodNamed B.named B.method).1, fun w hw => hts w (List.mem_cons_of_mem _ hw), hN, hK, hX, hb, hz⟩ (Nat.le_refl _) (Nat.le_refl _) (by rw [Nat.zero_add]; exact Nat.le_refl _) (by rw [Nat.zero_add]; exact Nat.le_refl _) hR va_S.rf hl
  rw [Nat.zero_add, Nat.zero_add] at K0
  exact K0
theorem jm_after {p : Program} {e : Env} {R : Room} {s : State} {m : MethodId} {args a : Array Value} {below : List Frame} {meth : Method} {c : Code} {H : Heap} {locs : List Loc} {cells slots mc ms pc : Nat} {lr : Array Slot} {st0 rest : List Value} {G : jm_G} {K : Option jm_V → jm_M → Prop} {Qz : State → Prop}
    (hr : va_Run p G.1 e R s m args below meth c H locs cells slots mc ms (F0 m pc lr st0) rest (jm_Qc G K a) (jm_A G)) (hS : va_S (jm_A G) s.heap H locs)
    (kk : ∀ (r : Option jm_V) (M : jm_M) (H1 : Heap) (locs1 : List Loc), K r M → jm_Rp G M H1 → va_S (jm_A G) s.heap H1 locs1 → W p G.1 e R s m args below meth c H1 locs1 (cells + mc) (slots + ms) Qz (F0 m (pc + 3) lr ((r.map (jm_cv G)).toList ++ rest))) : W p G.1 e R s m args below meth c H locs cells slots Qz (F0 m pc lr st0) := by
  intro T hT X
  obtain ⟨v, st₀, t, T', L, h0, X', hL, e1, e2, ⟨⟨r, M, hv, hk, hRp⟩, hz, hkk⟩, st⟩ := hr T hT X
  cases hv
  rw [h0] at hz hkk
  obtain ⟨t2, a1, b1⟩ := kk r M T'.heap (locs ++ L) hk (by rw [e1]; exact hRp) ⟨Nat.le_trans hS.1 (by rw [e1]; exact hz), fun q h1 h2 => by rw [e1, hkk q (Nat.lt_of_lt_of_le h1 hS.1) h2]; exact hS.2.1 q h1 h2, fun q hq => by
      rcases List.mem_append.mp hq with h | h
      · exact hS.2.2 q h
      · exact hL q h⟩ T' rfl X'
  exact ⟨t2, st t2 a1, b1⟩
section CALLRULES
variable {d mc ms mc1 ms1 mc2 ms2 pc n i : Nat} {μ ν : jm_Md} {ls : jm_Ls} {st rest as : List jm_V} {M : jm_M} {Q : Option jm_V → jm_M → Prop} {r : List (Instr × Nat)}
theorem jm_pre {G : jm_G} {μ : jm_Md} {p : Program} {s U : State} {m : MethodId} {args : Array Value} {meth : Method} {c : Code} {H : Heap} {locs : List Loc} {M : jm_M} (C : jm_Cx G μ p s m args meth c) (hR : jm_Rp G M H) (hS : va_S (jm_A G) s.heap H locs) (hU : U.heap = H) (hW : s.WarmedH U.vm) : jm_St G M U := by
  obtain ⟨-, -, -, -, -, -, -, -, hN, hK, hX, hb, hz⟩ := C
  have hXH : va_X (jg_b G) (jg_L G) (jg_xs G) s H := hX.kept (hS.2.1 _ (Nat.lt_of_lt_of_le hb hz) (Nat.not_le.mpr hb))
  refine ⟨by rw [hU]; exact hR, jm_nw_pay hW hN, va_K.moved hW.alike hK, by rw [hU]; exact va_X.moved hW.alike hXH, hb, by rw [hU, hR.1]; exact Nat.le_add_right _ _⟩
theorem jm_wt {G : jm_G} {rest : List jm_V} (h : (rest.map jm_ct).sum ≤ 8) : ((rest.map (jm_cv G)).map fun v => v.category).sum ≤ 8 := by
  rw [List.map_map]
  have : ((fun v : Value => v.category) ∘ jm_cv G) = jm_ct := by
    funext v
    exact jm_cat
  rw [this]
  exact h
theorem jm_alls {as : List jm_V} (h : as.all (fun v => jm_ct v == 1) = true) : ∀ v ∈ as, jm_ct v = 1 := fun v hv => by
  have := List.all_eq_true.mp h v hv
  simpa using this
theorem jm_tl {r : Option jm_V} {G : jm_G} {rest : List jm_V} : (r.map (jm_cv G)).toList ++ rest.map (jm_cv G) = (r.toList ++ rest).map (jm_cv G) := by
  cases r <;> rfl
theorem jm_callB {G : jm_G} {p : Program} {R : Room} {s : State} {m : MethodId} {args : Array Value} {meth : Method} {c : Code} (C : jm_Cx G μ p s m args meth c) (hM : jm_MOk ν n) (hw : Cond.methodLink μ.1.cls i ν.1 ∈ jm_gt) (hF : d + 1 + 1 ≤ R.frames) (hL : 64 * (d + 1 + 1) ≤ R.locals) : CallB R s args μ.1.cls i ν.1 ν.2.1 ν.2.2.1 ν.2.2.2 (Cond.code ν.1 ν.2.1 ν.2.2.1 ν.2.2.2 :: jm_gt) ({ frames := d + 1, cells := mc1, slots := ms1, locals := 64 * (d + 1) }) mc1 ms1 n := by
  obtain ⟨h1, h2, h3, h4, h5, h6⟩ := hM
  have hts := C.2.2.2.2.2.2.2.1
  refine ⟨rfl, rfl, hF, by show 8 + (ν.2.2.1 + 11) + 64 * (d + 1) ≤ R.locals; omega, ?_, List.mem_cons_self, hts _ h1, hts _ h2, h4, fun sig h => ?_, hts _ hw⟩
  · intro w hw
    rcases List.mem_cons.mp hw with rfl | hw
    · exact jm_gt_pay hts _ h1
    · exact jm_gt_pay hts _ hw
  · rw [h] at h5
    exact (Option.some.inj h5).symm
theorem go_static (as rest : List jm_V) (hM : jm_MOk ν n) (hw : Cond.methodLink μ.1.cls i ν.1 ∈ jm_gt) (hst : Cond.static ν.1 ∈ jm_gt) (hn : as.length = n) (hx : as.length ≤ ν.2.2.1) (hc : as.all (fun v => jm_ct v == 1) = true) (h8 : (rest.map jm_ct).sum ≤ 8) (hs : st = as.reverse ++ rest) (hmc : mc = mc1 + mc2) (hms : ms = ms1 + ms2)
    (hd : jm_dc μ.2.1 pc ((.invokestatic i, 3) :: r) = true) (k : jm_Call d mc1 ms1 ν as M (fun v M' => jm_Go (d + 1) mc2 ms2 μ (pc + 3) ls (v.toList ++ rest) M' Q)) : jm_Go (d + 1) mc ms μ pc ls st M Q := by
  intro G p e R s m args below meth c H locs cells slots lr C hF hL hcc hss hR hS hl
  subst hs; subst hmc; subst hms
  have hst2 : ((as.reverse ++ rest).map (jm_cv G)) = (as.map (jm_cv G)).reverse ++ rest.map (jm_cv G) := by simp
  rw [hst2]
  refine jm_after (va_runS (As := as.map (jm_cv G)) (rest := rest.map (jm_cv G)) ⟨C.1, C.2.1, C.2.2.2.2.1, C.2.2.2.2.2.1, C.2.2.2.2.2.2.2.1⟩ (jm_Met hM hx (jm_alls hc) k G) ⟨jm_callB C hM hw hF hL, C.2.2.2.2.2.2.2.1 _ hst⟩ ⟨jm_blind (fun U g mk a h => h.call g mk a), fun U hU hW => ⟨rfl, jm_pre C hR hS hU hW⟩⟩ rfl (by rw [List.length_map]; exact hn) hl.2.1 rfl (lv_room (jm_wt h8)) (jm_d1 hd) ⟨by omega, by omega⟩) hS (fun r0 M0 H1 locs1 hk hR1 hS1 => ?_)
  rw [jm_tl]
  have K := hk G p e R s m args below meth c H1 locs1 (cells + mc1) (slots + ms1) lr C hF hL (by omega) (by omega) hR1 hS1 hl
  rw [Nat.add_assoc, Nat.add_assoc] at K
  exact K
theorem go_virtual (a c : Nat) (as rest : List jm_V) (hM : jm_MOk ν n) (hC : jm_COk c) (hcn : jm_cn c = ν.1.cls) (hw : Cond.methodLink μ.1.cls i ν.1 ∈ jm_gt) (hin : Cond.instanceMethod ν.1 ∈ jm_gt) (hse : Cond.selects ν.1.cls ν.1 ν.1 ∈ jm_gt) (hk : (M.2.1 a).1 = c) (hn : as.length = n) (hx : as.length + 1 ≤ ν.2.2.1) (hc : as.all (fun v => jm_ct v == 1) = true) (h8 : (rest.map jm_ct).sum ≤ 8) (hs : st = as.reverse ++ .inr (.inl a) :: rest) (hmc : mc = mc1 + mc2) (hms : ms = ms1 + ms2)
    (hd : jm_dc μ.2.1 pc ((.invokevirtual i, 3) :: r) = true) (k : jm_Call d mc1 ms1 ν (.inr (.inl a) :: as) M (fun v M' => jm_Go (d + 1) mc2 ms2 μ (pc + 3) ls (v.toList ++ rest) M' Q)) : jm_Go (d + 1) mc ms μ pc ls st M Q := by
  intro G p e R s m args below meth c0 H locs cells slots lr C hF hL hcc hss hR hS hl
  subst hs; subst hmc; subst hms
  have hst2 : ((as.reverse ++ .inr (.inl a) :: rest).map (jm_cv G)) = (as.map (jm_cv G)).reverse ++ .ref (jm_ad G a) :: rest.map (jm_cv G) := by simp [jm_cv]
  rw [hst2]
  obtain ⟨c1, c2, c3, c4, c5, c6⟩ := hC
  obtain ⟨b, rfl, hb⟩ := jm_at hR (jm_ne99 c6 hk)
  rw [jm_cl_C hk c6] at hb
  have hrecv := va_recv C.2.2.2.2.2.2.2.2.2.1 hR.2.1 c1 hb
  rw [show (jm_cn c, jm_T c, jm_nf c).1 = ν.1.cls from hcn] at hrecv
  have hm := jm_Met hM (by simpa using hx) (jm_alls (by rw [List.all_cons, hc]; rfl)) k G
  refine jm_after (va_runV (As := as.map (jm_cv G)) (rest := rest.map (jm_cv G)) ⟨C.1, C.2.1, C.2.2.2.2.1, C.2.2.2.2.2.1, C.2.2.2.2.2.2.2.1⟩ hm ⟨jm_callB C hM hw hF hL, C.2.2.2.2.2.2.2.1 _ hin, C.2.2.2.2.2.2.2.1 _ hse⟩ ⟨jm_blind (fun U g mk a h => h.call g mk a), hrecv, fun U hU hW => ⟨rfl, jm_pre C hR hS hU hW⟩⟩ rfl (by rw [List.length_map]; exact hn) hl.2.1 rfl (lv_room (jm_wt h8)) (jm_d1 hd) ⟨by omega, by omega⟩) hS (fun r0 M0 H1 locs1 hk hR1 hS1 => ?_)
  rw [jm_tl]
  have K := hk G p e R s m args below meth c0 H1 locs1 (cells + mc1) (slots + ms1) lr C hF hL (by omega) (by omega) hR1 hS1 hl
  rw [Nat.add_assoc, Nat.add_assoc] at K
  exact K
theorem go_init (a : Nat) (rest : List jm_V) (hM : jm_MOk ν 0) (hnm : ν.1.name = "<init>") (hvd : ν.2.2.2 = none) (hw : Cond.methodLink μ.1.cls i ν.1 ∈ jm_gt) (hin : Cond.instanceMethod ν.1 ∈ jm_gt) (hx : 1 ≤ ν.2.2.1) (h8 : (rest.map jm_ct).sum ≤ 8) (hs : st = .inr (.inl a) :: rest) (hmc : mc = mc1 + mc2) (hms : ms = ms1 + ms2)
    (hd : jm_dc μ.2.1 pc ((.invokespecial i, 3) :: r) = true) (k : jm_Call d mc1 ms1 ν [.inr (.inl a)] M (fun v M' => jm_Go (d + 1) mc2 ms2 μ (pc + 3) ls (v.toList ++ rest) M' Q)) : jm_Go (d + 1) mc ms μ pc ls st M Q := by
  intro G p e R s m args below meth c0 H locs cells slots lr C hF hL hcc hss hR hS hl
  subst hs; subst hmc; subst hms
  have hm := jm_Met hM (by simpa using hx) (jm_alls rfl) k G
  have hB := jm_callB (mc1 := mc1) (ms1 := ms1) C hM hw hF hL
  rw [hvd] at hB hm
  refine jm_after (va_runI (b := jm_ad G a) (As := []) (rest := rest.map (jm_cv G)) ⟨C.1, C.2.1, C.2.2.2.2.1, C.2.2.2.2.2.1, C.2.2.2.2.2.2.2.1⟩ hm ⟨hB, hnm, C.2.2.2.2.2.2.2.1 _ hin⟩ ⟨jm_blind (fun U g mk a h => h.call g mk a), fun U hU hW => ⟨rfl, jm_pre C hR hS hU hW⟩⟩ rfl rfl hl.2.1 rfl (lv_room (jm_wt h8)) (jm_d1 hd) ⟨by omega, by omega⟩) hS (fun r0 M0 H1 locs1 hk hR1 hS1 => ?_)
  rw [jm_tl]
  have K := hk G p e R s m args below meth c0 H1 locs1 (cells + mc1) (slots + ms1) lr C hF hL (by omega) (by omega) hR1 hS1 hl
  rw [Nat.add_assoc, Nat.add_assoc] at K
  exact K
end CALLRULES
end
section
/-! ===== rules: what the constructors need, and the copy of a row ===== -/
section MORERULES
variable {d mc ms pc i : Nat} {μ : jm_Md} {ls : jm_Ls} {st : List jm_V} {M : jm_M} {Q : Option jm_V → jm_M → Prop} {r : List (Instr × Nat)}
theorem go_objinit {a : Nat} (hw : Cond.methodLink μ.1.cls i Lib.objectInit ∈ jm_gt) (h1 : Cond.instanceMethod Lib.objectInit ∈ jm_gt) (h2 : Cond.code Lib.objectInit ⟨#[0xb1]⟩ 1 none ∈ jm_gt) (h8 : (st.map jm_ct).sum ≤ 8) (hd : jm_dc μ.2.1 pc ((.invokespecial i, 3) :: r) = true) (k : jm_dc μ.2.1 (pc + 3) r = true → jm_Go d mc ms μ (pc + 3) ls st M Q) : jm_Go d mc ms μ pc ls (.inr (.inl a) :: st) M Q := by
  intro G p e R s m args below meth c H locs cells slots lr C hF hL hcc hss hR hS hl
  have hts := C.2.2.2.2.2.2.2.1
  refine W.objInit C.1 C.2.1 C.2.2.2.2.2.1 (hts _ hw) (hts _ h1) (hts _ h2) rfl (hl.2.1.trans C.2.2.2.2.1.symm) rfl (jm_d1 hd) (by omega) ?_ (k (jm_d2 hd) G p e R s m args below meth c H locs cells slots lr C hF hL hcc hss hR hS hl)
  have := lv_room (m := m) (pc := pc) (ls := lr) (rest := []) (jm_wt (G := G) h8)
  show 2 * 0 + _ + 12 ≤ R.locals
  have h9 := jm_wt (G := G) h8
  omega
/-- a cell more -/
def jm_grow (M : jm_M) (sl kd len : Nat) : jm_M := ((M.1.1 + 1, M.1.2 + sl), (fun a => if a = M.1.1 + 1 then (kd, len) else M.2.1 a), (fun a => if a = M.1.1 + 1 then (fun _ => none) else M.2.2.1 a), (fun a => if a = M.1.1 + 1 then (fun _ => 0) else M.2.2.2 a))
theorem jm_Rp_grow {G : jm_G} {M : jm_M} {H H1 : Heap} {sl kd len : Nat} (hkd : kd < 98) (hR : jm_Rp G M H) (z : H1.size = H.size + 1) (oq : ∀ q : Nat, q < H.size → H1[q]? = H[q]?) (he : va_at G.2.1 vwCl (H.size, jm_cl G (jm_grow M sl kd len) (M.1.1 + 1)) H1) : jm_Rp G (jm_grow M sl kd len) H1 := by
  obtain ⟨h1, h2, h3, h4⟩ := hR
  have hold : ∀ a, a ≠ M.1.1 + 1 → jm_cl G (jm_grow M sl kd len) a = jm_cl G M a := fun a ha => jm_cl_eq (by simp [jm_grow, ha]) (by simp [jm_grow, ha]) (by simp [jm_grow, ha])
  refine ⟨by rw [z, h1]; simp [jm_grow]; omega, fun k q hk => ?_, fun a ha => ?_, ?_, fun k hk => ?_⟩
  · obtain ⟨hl, rfl⟩ := jm_ws_inv hk
    have hl' : k < M.1.1 + 1 := hl
    by_cases hkn : k = M.1.1
    · subst hkn
      rw [← h1]
      exact he
    · have hk2 : k < M.1.1 := by omega
      rw [hold (k + 1) (by omega)]
      exact (h2 k _ (jm_ws_get hk2)).kept (oq _ (by show jg_sz G + k < _; omega))
  · simp only [jm_grow] at ha ⊢
    by_cases e : a = M.1.1 + 1
    · omega
    · rw [if_neg e] at ha
      have := h3 a ha
      omega
  · simp only [jm_grow]
    rw [if_neg (by omega)]
    exact h4.1
  · simp only [jm_grow]
    rw [if_neg (by omega)]
    exact h4.2 k hk
theorem jm_S_grow {G : jm_G} {H0 H H1 : Heap} {locs : List Loc} (hS : va_S (jm_A G) H0 H locs) (z : H1.size = H.size + 1) (oq : ∀ q : Nat, q < H.size → H1[q]? = H[q]?) : va_S (jm_A G) H0 H1 locs :=
  ⟨Nat.le_trans hS.1 (by omega), fun x h1 h2 => (oq x (Nat.lt_of_lt_of_le h1 hS.1)).trans (hS.2.1 x h1 h2), hS.2.2⟩
/-- an int row -/
theorem go_newI {n : Int} (hw : Cond.arrayClass .int ∈ jm_gt) (h0 : 0 ≤ n) (h1 : n < 100000) (hd : jm_dc μ.2.1 pc ((.newarray .int, 2) :: r) = true) (k : jm_dc μ.2.1 (pc + 2) r = true → jm_Go d mc ms μ (pc + 2) ls (.inr (.inl (M.1.1 + 1)) :: st) (jm_grow M n.toNat 20 n.toNat) Q) : jm_Go d (mc + 1) (ms + n.toNat) μ pc ls (.inl n :: st) M Q := by
  intro G p e R s m args below meth c H locs cells slots lr C hF hL hcc hss hR hS hl
  have hts := C.2.2.2.2.2.2.2.1
  have hK := C.2.2.2.2.2.2.2.2.2.1
  obtain ⟨g1, g2⟩ := jm_clamp (n := 100000) h0 h1 (by omega)
  refine va_newaK (atype := .int) C.1 C.2.1 (hts _ hw) rfl (jm_d1 hd) rfl (fun h => g1 (Or.inl h)) g2 (by show n.toNat * 4 ≤ _; omega) (by omega) (by omega) rfl (fun H1 cA e1 z1 o1 hAr hNm => ?_)
  have hcA : cA = jg_I G := Option.some.inj (hNm.symm.trans (hK.2 0 _ rfl).2)
  subst hcA
  have K := k (jm_d2 hd) G p e R s m args below meth c H1 locs (cells + 1) (slots + n.toNat) lr C hF hL (by omega) (by omega) (jm_Rp_grow (by omega) hR z1 o1 (by
    rw [jm_cl_I (n := n.toNat) (by simp [jm_grow])]
    show H1[H.size]? = some (vp_cell _ _)
    rw [e1, vp_cell_i]
    simp [jm_grow]
    rfl)) (jm_S_grow hS z1 o1) hl
  rw [show cells + 1 + mc = cells + (mc + 1) by omega, show slots + n.toNat + ms = slots + (ms + n.toNat) by omega] at K
  rw [hR.1]
  exact K
theorem go_newZ {n : Int} (hw : Cond.arrayClass .boolean ∈ jm_gt) (h0 : 0 ≤ n) (h1 : n < 100000) (hd : jm_dc μ.2.1 pc ((.newarray .boolean, 2) :: r) = true) (k : jm_dc μ.2.1 (pc + 2) r = true → jm_Go d mc ms μ (pc + 2) ls (.inr (.inl (M.1.1 + 1)) :: st) (jm_grow M n.toNat 21 n.toNat) Q) : jm_Go d (mc + 1) (ms + n.toNat) μ pc ls (.inl n :: st) M Q := by
  intro G p e R s m args below meth c H locs cells slots lr C hF hL hcc hss hR hS hl
  have hts := C.2.2.2.2.2.2.2.1
  have hK := C.2.2.2.2.2.2.2.2.2.1
  obtain ⟨g1, g2⟩ := jm_clamp (n := 100000) h0 h1 (by omega)
  refine va_newaK (atype := .boolean) C.1 C.2.1 (hts _ hw) rfl (jm_d1 hd) rfl (fun h => g1 (Or.inl h)) g2 (by show n.toNat * 1 ≤ _; omega) (by omega) (by omega) rfl (fun H1 cA e1 z1 o1 hAr hNm => ?_)
  have hcA : cA = jg_Z G := Option.some.inj (hNm.symm.trans (hK.2 1 _ rfl).2)
  subst hcA
  have K := k (jm_d2 hd) G p e R s m args below meth c H1 locs (cells + 1) (slots + n.toNat) lr C hF hL (by omega) (by omega) (jm_Rp_grow (by omega) hR z1 o1 (by
    rw [jm_cl_Z (n := n.toNat) (by simp [jm_grow])]
    show H1[H.size]? = some (vp_cell _ _)
    rw [e1, vp_cell_i]
    simp [jm_grow]
    rfl)) (jm_S_grow hS z1 o1) hl
  rw [show cells + 1 + mc = cells + (mc + 1) by omega, show slots + n.toNat + ms = slots + (ms + n.toNat) by omega] at K
  rw [hR.1]
  exact K
/-- a row of moments -/
theorem go_newO {n : Int} (hw : Cond.classLink μ.1.cls i RX5 ∈ jm_gt) (ho : Cond.arrayOver (.object RX5) ∈ jm_nw) (h0 : 0 ≤ n) (h1 : n < 100000) (hd : jm_dc μ.2.1 pc ((.anewarray i, 3) :: r) = true) (k : jm_dc μ.2.1 (pc + 3) r = true → jm_Go d mc ms μ (pc + 3) ls (.inr (.inl (M.1.1 + 1)) :: st) (jm_grow M n.toNat 22 n.toNat) Q) : jm_Go d (mc + 1) (ms + n.toNat) μ pc ls (.inl n :: st) M Q := by
  intro G p e R s m args below meth c H locs cells slots lr C hF hL hcc hss hR hS hl
  have hts := C.2.2.2.2.2.2.2.1
  have hK := C.2.2.2.2.2.2.2.2.2.1
  have hN := C.2.2.2.2.2.2.2.2.1
  obtain ⟨g1, g2⟩ := jm_clamp (n := 100000) h0 h1 (by omega)
  refine W.anew C.1 C.2.1 C.2.2.2.2.2.1 (hts _ hw) (va_AO.use (hN _ ho)) rfl (jm_d1 hd) rfl (fun h => g1 (Or.inl h)) (by rw [g2]; omega) (by omega) (by rw [g2]; omega) (fun cA kA comp f1 f2 f3 f4 => ?_)
  have hcA : cA = jg_O G := by
    obtain ⟨_, _, -, -, -, h⟩ := (hK.2 2 _ rfl).2
    exact Option.some.inj (f1.symm.trans h)
  subst hcA
  rw [g2]
  generalize hH1 : H.push ({ cls := jg_O G, slots := Array.replicate n.toNat .null, vm := .none } : Cell) = H1
  have z1 : H1.size = H.size + 1 := by rw [← hH1, Array.size_push]
  have e1 : H1[H.size]? = some (arrV (jg_O G) n.toNat (fun _ => .null)) := by rw [← hH1, Array.getElem?_push_size, ← arrV_new]
  have o1 : ∀ q : Nat, q < H.size → H1[q]? = H[q]? := fun q hq => by rw [← hH1, Array.getElem?_push, if_neg (Nat.ne_of_lt hq)]
  have K := k (jm_d2 hd) G p e R s m args below meth c H1 locs (cells + 1) (slots + n.toNat) lr C hF hL (by omega) (by omega) (jm_Rp_grow (by omega) hR z1 o1 (by
    rw [jm_cl_O (n := n.toNat) (by simp [jm_grow])]
    show H1[H.size]? = some (vp_cell _ _)
    rw [e1, vp_cell_q]
    simp [jm_grow, va_rf])) (jm_S_grow hS z1 o1) hl
  rw [show cells + 1 + mc = cells + (mc + 1) by omega, show slots + n.toNat + ms = slots + (ms + n.toNat) by omega] at K
  rw [hR.1]
  exact K
/-- an object -/
theorem go_new {c : Nat} (hC : jm_COk c) (hw : Cond.classLink μ.1.cls i (jm_cn c) ∈ jm_gt) (h1 : Cond.instantiable (jm_cn c) (jm_nf c) ∈ jm_gt) (h2 : Cond.initialized (jm_cn c) ∈ jm_gt) (hd : jm_dc μ.2.1 pc ((.new i, 3) :: r) = true) (k : jm_dc μ.2.1 (pc + 3) r = true → jm_Go d mc ms μ (pc + 3) ls (.inr (.inl (M.1.1 + 1)) :: st) (jm_grow M (jm_nf c) c 0) Q) : jm_Go d (mc + 1) (ms + jm_nf c) μ pc ls st M Q := by
  intro G p e R s m args below meth c0 H locs cells slots lr C hF hL hcc hss hR hS hl
  have hts := C.2.2.2.2.2.2.2.1
  have hK := C.2.2.2.2.2.2.2.2.2.1
  obtain ⟨c1, c2, c3, c4, c5, c6⟩ := hC
  have hKn := hK.1 c _ c1
  refine W.newcK C.1 C.2.1 C.2.2.2.2.2.1 (hts _ hw) (hts _ h1) (hts _ h2) rfl (jm_d1 hd) (by omega) (by omega) hKn.2.1 rfl (fun H1 kC hkC e1 z1 o1 => ?_)
  have K := k (jm_d2 hd) G p e R s m args below meth c0 H1 locs (cells + 1) (slots + jm_nf c) lr C hF hL (by omega) (by omega) (jm_Rp_grow (by omega) hR z1 o1 (by
    rw [jm_cl_C (c := c) (by simp [jm_grow]) c6]
    refine ⟨_, c1, (u_born (jm_ty c) hts c2 hKn hkC e1 c3).to (fun j hj => ?_)⟩
    have hj' : j < jm_nf c := hj
    have hv : vp_V ((List.range (jm_nf c)).map (jm_fv G (jm_grow M (jm_nf c) c 0) c (M.1.1 + 1))) j = jm_fv G (jm_grow M (jm_nf c) c 0) c (M.1.1 + 1) j := by
      unfold vp_V
      rw [List.getD_eq_getElem?_getD, List.getElem?_map, List.getElem?_range hj']
      rfl
    show defaultValue (jm_ty c j) = _
    rw [hv]
    have h := c5 j hj'
    unfold jm_kd at h
    unfold jm_fv
    split at h <;> simp_all [jm_grow, defaultValue, va_rf] <;> rfl)) (jm_S_grow hS z1 o1) hl
  rw [show cells + 1 + mc = cells + (mc + 1) by omega, show slots + jm_nf c + ms = slots + (ms + jm_nf c) by omega] at K
  rw [hR.1]
  exact K
/-- a moment comes into a row of moments -/
theorem go_aastore {a n v : Nat} {i0 : Int} (hC : jm_COk 5) (hs : M.2.1 a = (22, n)) (hv : (M.2.1 v).1 = 5) (h0 : 0 ≤ i0) (h1 : i0 < n) (hn : n < 2 ^ 31) (hd : jm_dc μ.2.1 pc ((.aastore, 1) :: r) = true) (kk : jm_dc μ.2.1 (pc + 1) r = true → jm_Go d mc ms μ (pc + 1) ls st (jm_pr2 M a i0.toNat v) Q) : jm_Go d mc ms μ pc ls (.inr (.inl v) :: .inl i0 :: .inr (.inl a) :: st) M Q := by
  intro G p e R s m args below meth c0 H locs cells slots lr C hF hL hc hs0 hR hS hl
  have hK := C.2.2.2.2.2.2.2.2.2.1
  obtain ⟨c1, c2, c3, c4, c5, c6⟩ := hC
  obtain ⟨b, rfl, hb⟩ := jm_at hR (show (M.2.1 a).1 < 98 by rw [hs]; simp)
  obtain ⟨bv, rfl, hbv⟩ := jm_at hR (show (M.2.1 v).1 < 98 by rw [hv]; simp)
  have hb' := hb
  rw [jm_cl_O hs] at hb'
  rw [jm_cl_C hv (by omega)] at hbv
  obtain ⟨g1, g2⟩ := jm_clamp h0 h1 hn
  obtain ⟨r', hr', cellV, q1, q2, q3, -⟩ := hR.2.1 bv _ hbv
  have hcls := (hK.1 5 _ c1).2
  obtain ⟨kA, comp, k1, k2, k3, -⟩ := (hK.2 2 _ rfl).2
  have hcomp : comp = G.2.1.1 5 := Option.some.inj (k3.symm.trans hcls.1)
  subst hcomp
  obtain ⟨kC, hkC, -⟩ := hcls.2
  have hlt : (Int32.ofInt i0).toNatClampNeg < n := by rw [g2]; omega
  refine W.aast C.1 C.2.1 (hR.2.1 b _ hb') (fun q h => by cases h) (fun h => by cases h) k1 k2 rfl hkC ⟨fun h => g1 (Or.inl h), by show _ < (arrV _ _ _).slots.size; rw [arrV_size]; exact hlt⟩ q1 (fun q h => by rw [q3] at h; cases h) (by rw [q2]; exact hkC) (by rw [q2]; exact va_assign hcls) rfl rfl (jm_d1 hd) (fun H1 e1 e2 e3 => ?_)
  have h00 : (0 : Nat) ≠ b + 1 := by omega
  refine kk (jm_d2 hd) G p e R s m args below meth c0 H1 _ cells slots lr C hF hL hc hs0 (jm_Rp_put (M' := jm_pr2 M (b + 1) i0.toNat (bv + 1)) (e := jm_cl G (jm_pr2 M (b + 1) i0.toNat (bv + 1)) (b + 1)) hR hb ?_ e2 e3 (jm_ws_set rfl rfl (fun x hx => jm_cl_eq rfl (jm_ur_o (by omega)) rfl)) rfl rfl rfl) (hS.put e2 e3 (show jm_A G (jm_ad G (b + 1)) from Nat.le_add_right _ _)) hl
  rw [jm_cl_O (M := jm_pr2 M (b + 1) i0.toNat (bv + 1)) hs]
  show H1[_]? = some (vp_cell _ _)
  rw [e1, g2, vp_cell_q, vp_cell_q, arrV_store]
  congr 2
  funext q
  by_cases hq : q = i0.toNat
  · simp [updV, jm_ur, hq, va_rf]
  · simp [updV, jm_ur, hq]
theorem go_initN {d mc ms mc1 ms1 mc2 ms2 : Nat} {ν : jm_Md} (host : String) (a : Nat) (rest : List jm_V) (hM : jm_MOk ν 0) (hnm : ν.1.name = "<init>") (hvd : ν.2.2.2 = none) (hw : Cond.methodLinkNest μ.1.cls i ν.1 host ∈ jm_nw) (hin : Cond.instanceMethod ν.1 ∈ jm_gt) (hx : 1 ≤ ν.2.2.1) (h8 : (rest.map jm_ct).sum ≤ 8) (hs : st = .inr (.inl a) :: rest) (hmc : mc = mc1 + mc2) (hms : ms = ms1 + ms2)
    (hd : jm_dc μ.2.1 pc ((.invokespecial i, 3) :: r) = true) (k : jm_Call d mc1 ms1 ν [.inr (.inl a)] M (fun v M' => jm_Go (d + 1) mc2 ms2 μ (pc + 3) ls (v.toList ++ rest) M' Q)) : jm_Go (d + 1) mc ms μ pc ls st M Q := by
  intro G p e R s m args below meth c0 H locs cells slots lr C hF hL hcc hss hR hS hl
  subst hs; subst hmc; subst hms
  have hm := jm_Met hM (by simpa using hx) (jm_alls rfl) k G
  have hts := C.2.2.2.2.2.2.2.1
  have hN := C.2.2.2.2.2.2.2.2.1
  obtain ⟨m1, m2, m3, m4, m5, m6⟩ := hM
  rw [hvd] at hm m1
  have hB : va_CN R s args μ.1.cls i ν.1 host ν.2.1 ν.2.2.1 none (Cond.code ν.1 ν.2.1 ν.2.2.1 none :: jm_gt) ({ frames := d + 1, cells := mc1, slots := ms1, locals := 64 * (d + 1) }) mc1 ms1 0 := by
    refine ⟨⟨rfl, rfl, hF, by show 8 + (ν.2.2.1 + 11) + 64 * (d + 1) ≤ R.locals; omega, ?_, List.mem_cons_self⟩, hts _ m1, hts _ m2, m4, fun sig h => ?_, va_Nw.use rfl (hN _ hw)⟩
    · intro w hw
      rcases List.mem_cons.mp hw with rfl | hw
      · exact jm_gt_pay hts _ m1
      · exact jm_gt_pay hts _ hw
    · rw [h] at m5
      exact (Option.some.inj m5).symm
  refine jm_after (va_runIN (b := jm_ad G a) (As := []) (rest := rest.map (jm_cv G)) ⟨C.1, C.2.1, C.2.2.2.2.1, C.2.2.2.2.2.1, C.2.2.2.2.2.2.2.1⟩ hm ⟨hB, hnm, C.2.2.2.2.2.2.2.1 _ hin⟩ ⟨jm_blind (fun U g mk a h => h.call g mk a), fun U hU hW => ⟨rfl, jm_pre C hR hS hU hW⟩⟩ rfl rfl hl.2.1 rfl (lv_room (jm_wt h8)) (jm_d1 hd) ⟨by omega, by omega⟩) hS (fun r0 M0 H1 locs1 hk hR1 hS1 => ?_)
  rw [jm_tl]
  have K := hk G p e R s m args below meth c0 H1 locs1 (cells + mc1) (slots + ms1) lr C hF hL (by omega) (by omega) hR1 hS1 hl
  rw [Nat.add_assoc, Nat.add_assoc] at K
  exact K
/-- the numbers of a row, copied -/
def jm_cpy (I : Nat → Nat → Int) (a0 a1 sp dp n : Nat) : Nat → Nat → Int := fun b k => if b = a1 ∧ dp ≤ k ∧ k < dp + n then I a0 (sp + (k - dp)) else I b k
theorem jm_Wcopy {p : Program} {l : Launch} {e : Env} {R : Room} {s : State} {m : MethodId} {args : Array Value} {below : List Frame} {meth : Method} {c : Code} {H : Heap} {locs : List Loc} {cells slots pc : Nat} {Qz : State → Prop} {lr : Array Slot} {rest : List Value} (hexec : p.tables.exec = Jvm.exec) (hml : c.maxLocals = lr.size) {own : String} {index : Nat} (hown : s.vm.findClass own = some m.cls) (hlink : (Cond.methodLink own index arraycopyName).before args s = true) (hnat : (Cond.native arraycopyName).before args s = true) (hstat : (Cond.static arraycopyName).before args s = true) (hini : (Cond.initialized "java/lang/System").before args s = true)
    {a0 a1 n0 n1 : Nat} {cI : ClassId} {f g : Nat → Int32} (hA : ArrOfT s cI .int) (hc0 : H[a0]? = some (vp_cell cI (n0, .inl f))) (hc1 : H[a1]? = some (vp_cell cI (n1, .inl g))) {sp dp n : Int32} (h1 : ¬ sp < 0) (h2 : ¬ dp < 0) (h3 : ¬ n < 0) (e1 : sp.toInt = sp.toNatClampNeg) (e2 : dp.toInt = dp.toNatClampNeg) (e3 : n.toInt = n.toNatClampNeg) (h4 : sp.toNatClampNeg + n.toNatClampNeg ≤ n0) (h5 : dp.toNatClampNeg + n.toNatClampNeg ≤ n1)
    (hframes : 1 ≤ R.frames) (hlocals : (rest.map fun v => v.category).sum + (nativeFrameWords "java/lang/System" "arraycopy" 5 + 11) ≤ R.locals) (hdg : decode c.code pc = .ok (.invokestatic index, 3))
    (kk : ∀ (H1 : Heap) (L : List Loc), H1[a1]? = some (vp_cell cI (n1, .inl (va_cpy f g sp.toNatClampNeg dp.toNatClampNeg n.toNatClampNeg))) → H1.size = H.size → (∀ q : Nat, q ≠ a1 → H1[q]? = H[q]?) → (∀ q ∈ L, q.base = a1) → W p l e R s m args below meth c H1 (locs ++ L) cells slots Qz (F0 m (pc + 3) lr rest)) : W p l e R s m args below meth c H locs cells slots Qz (F0 m pc lr (.int n :: .int dp :: .ref a1 :: .int sp :: .ref a0 :: rest)) := by
  intro T hT X
  obtain ⟨-, k0, hk0, cm0, hkk0⟩ := hA n0 (fun j => .int (f j))
  obtain ⟨-, k1, hk1, cm1, hkk1⟩ := hA n1 (fun j => .int (g j))
  obtain ⟨vm', X', step⟩ := X.arraycopy hexec hown hlink hnat hstat hini (src := a0) (dst := a1) (cs := vp_cell cI (n0, .inl f)) (cd := vp_cell cI (n1, .inl g)) (srcPos := sp) (destPos := dp) (n := n) (by rw [hT]; exact hc0) (by rw [hT]; exact hc1)
    (fun _ h => by cases h) (fun _ h => by cases h) (fun h => by cases h) (fun h => by cases h) hk0 hk1 hkk0 hkk1 (by simp [refKind]) h1 h2 h3
    (by rw [e1, e3]; show ¬ _ > ((arrV cI n0 (fun j => .int (f j))).slots.size : Int); rw [arrV_size]; omega)
    (by rw [e2, e3]; show ¬ _ > ((arrV cI n1 (fun j => .int (g j))).slots.size : Int); rw [arrV_size]; omega)
    (fun vm₁ _ j hj => by
      have hE : (vp_cell cI (n0, .inl f)).slots.getD (sp.toNatClampNeg + j) .null = .int (f (sp.toNatClampNeg + j)) := by
        show (arrV cI n0 (fun j => .int (f j))).slots.getD _ _ = _
        rw [Array.getD_eq_getD_getElem?, arrV_read _ _ (by omega)]
        rfl
      exact ⟨by rw [hE]; rfl, by rw [hE]; exact trivial⟩)
    (g := F0 m pc lr (.int n :: .int dp :: .ref a1 :: .int sp :: .ref a0 :: rest)) rfl (by rw [hml]) (rest := rest) rfl hdg hframes (by show 2 * 0 + _ + _ ≤ _; omega)
  have hco : copied (vp_cell cI (n0, .inl f)) (vp_cell cI (n1, .inl g)) sp dp n = vp_cell cI (n1, .inl (va_cpy f g sp.toNatClampNeg dp.toNatClampNeg n.toNatClampNeg)) := va_copied (fun z => .int z) cI cI f g h4
  rw [hco] at X' step
  have hl : a1 < H.size := (Array.getElem?_eq_some_iff.mp hc1).1
  have hheap : ((T.setVm vm').setCell a1 (vp_cell cI (n1, .inl (va_cpy f g sp.toNatClampNeg dp.toNatClampNeg n.toNatClampNeg)))).heap = H.setIfInBounds a1 (vp_cell cI (n1, .inl (va_cpy f g sp.toNatClampNeg dp.toNatClampNeg n.toNatClampNeg))) := by rw [← hT]; rfl
  obtain ⟨t, q1, q2⟩ := kk _ _ (by simp [Array.getElem?_setIfInBounds, hl]) (by simp) (fun q hq => by simp [Array.getElem?_setIfInBounds, Ne.symm hq]) (fun q hq => by
    obtain ⟨z, -, hz⟩ := List.mem_map.mp hq
    rw [← hz]) _ hheap X'
  exact ⟨t, step t q1, q2⟩
theorem go_copy {a0 a1 n0 n1 : Nat} {sp dp n : Int} (hw : Cond.methodLink μ.1.cls i arraycopyName ∈ jm_gt) (w1 : Cond.native arraycopyName ∈ jm_gt) (w2 : Cond.static arraycopyName ∈ jm_gt) (w3 : Cond.initialized "java/lang/System" ∈ jm_gt) (hs0 : M.2.1 a0 = (20, n0)) (hs1 : M.2.1 a1 = (20, n1)) (hn0 : n0 < 2 ^ 31) (hn1 : n1 < 2 ^ 31) (h1 : 0 ≤ sp) (h2 : 0 ≤ dp) (h3 : 0 ≤ n) (h4 : sp + n ≤ n0) (h5 : dp + n ≤ n1) (h8 : (st.map jm_ct).sum ≤ 8)
    (hd : jm_dc μ.2.1 pc ((.invokestatic i, 3) :: r) = true) (kk : jm_dc μ.2.1 (pc + 3) r = true → jm_Go d mc ms μ (pc + 3) ls st (M.1, M.2.1, M.2.2.1, jm_cpy M.2.2.2 a0 a1 sp.toNat dp.toNat n.toNat) Q) : jm_Go d mc ms μ pc ls (.inl n :: .inl dp :: .inr (.inl a1) :: .inl sp :: .inr (.inl a0) :: st) M Q := by
  intro G p e R s m args below meth c0 H locs cells slots lr C hF hL hc hs hR hS hl
  have hts := C.2.2.2.2.2.2.2.1
  have hK := C.2.2.2.2.2.2.2.2.2.1
  obtain ⟨b0, rfl, hb0⟩ := jm_at hR (show (M.2.1 a0).1 < 98 by rw [hs0]; simp)
  obtain ⟨b1, rfl, hb1⟩ := jm_at hR (show (M.2.1 a1).1 < 98 by rw [hs1]; simp)
  have hb0' := hb0
  have hb1' := hb1
  rw [jm_cl_I hs0] at hb0'
  rw [jm_cl_I hs1] at hb1'
  have cl : ∀ z : Int, 0 ≤ z → z < 2147483648 → ¬ Int32.ofInt z < 0 ∧ (Int32.ofInt z).toNatClampNeg = z.toNat ∧ (Int32.ofInt z).toInt = (Int32.ofInt z).toNatClampNeg := fun z hz hz2 => by
    have q : (Int32.ofInt z).toNatClampNeg = z.toNat := by rw [jm_nat hz, nI_clamp (by omega)]
    refine ⟨fun h => ?_, q, ?_⟩
    · have := (jr_lt ⟨by omega, by omega⟩ jr_0).mp h
      omega
    · rw [q, Int32.toInt_ofInt_of_le (by omega) (by omega)]
      omega
  obtain ⟨a1, a2, a3⟩ := cl sp h1 (by omega)
  obtain ⟨d1, d2, d3⟩ := cl dp h2 (by omega)
  obtain ⟨m1, m2, m3⟩ := cl n h3 (by omega)
  have hwt := jm_wt (G := G) h8
  refine jm_Wcopy C.1 (C.2.2.2.2.1.trans hl.2.1.symm) C.2.2.2.2.2.1 (hts _ hw) (hts _ w1) (hts _ w2) (hts _ w3) (hK.2 0 _ rfl).1 (hR.2.1 b0 _ hb0') (hR.2.1 b1 _ hb1') a1 d1 m1 a3 d3 m3 (by rw [a2, m2]; omega) (by rw [d2, m2]; omega) (by omega) (by
      have : nativeFrameWords "java/lang/System" "arraycopy" 5 + 11 ≤ 50 := by decide
      omega) (by rw [C.2.1]; exact jm_d1 hd) (fun H1 L e1 e2 e3 eL => ?_)
  have h00 : (0 : Nat) ≠ b1 + 1 := by omega
  have hS1 : va_S (jm_A G) s.heap H1 (locs ++ L) := by
    refine ⟨by rw [e2]; exact hS.1, fun q g1 g2 => ?_, fun q hq => ?_⟩
    · rw [e3 q (fun h => g2 (by rw [h]; exact Nat.le_add_right _ _))]
      exact hS.2.1 q g1 g2
    · rcases List.mem_append.mp hq with h | h
      · exact hS.2.2 q h
      · rw [eL q h]
        exact Nat.le_add_right _ _
  have hoth : ∀ b, b ≠ b1 + 1 → jm_cpy M.2.2.2 (b0 + 1) (b1 + 1) sp.toNat dp.toNat n.toNat b = M.2.2.2 b := fun b hb => by
    funext k
    simp [jm_cpy, hb]
  refine kk (jm_d2 hd) G p e R s m args below meth c0 H1 _ cells slots lr C hF hL hc hs (jm_Rp_put (M' := (M.1, M.2.1, M.2.2.1, jm_cpy M.2.2.2 (b0 + 1) (b1 + 1) sp.toNat dp.toNat n.toNat)) (e := jm_cl G (M.1, M.2.1, M.2.2.1, jm_cpy M.2.2.2 (b0 + 1) (b1 + 1) sp.toNat dp.toNat n.toNat) (b1 + 1)) hR hb1 ?_ e2 e3 (jm_ws_set rfl rfl (fun x hx => jm_cl_eq rfl rfl (hoth _ (by omega)))) rfl rfl (hoth 0 h00)) hS1 hl
  rw [jm_cl_I (M := (M.1, M.2.1, M.2.2.1, jm_cpy M.2.2.2 (b0 + 1) (b1 + 1) sp.toNat dp.toNat n.toNat)) hs1]
  show H1[_]? = some (vp_cell _ _)
  rw [e1, a2, d2, m2, vp_cell_i, vp_cell_i]
  congr 2
  funext q
  by_cases hq : dp.toNat ≤ q ∧ q < dp.toNat + n.toNat
  · simp [va_cpy, jm_cpy, hq]
  · simp only [va_cpy, jm_cpy, if_neg hq]
    rw [if_neg (fun h => hq h.2)]
end MORERULES
end
section
/-! ===== methods and links, by program (wip/gen/gen7.py) ===== -/
def R_lw : String := "StillMinutesLaw"
def R_ig : String := "java/lang/Integer"
def R_mt : String := "java/lang/Math"
def R_ar : String := "java/util/Arrays"
def md_X_init : jm_Md := (⟨RX8, "<init>", "()V"⟩, prog_1_method_1_code, 2, none)
def md_City_init : jm_Md := (⟨RX0, "<init>", "()V"⟩, prog_2_method_1_code, 1, none)
def md_City_beAsAtFirst : jm_Md := (⟨RX0, "beAsAtFirst", "()V"⟩, prog_2_method_2_code, 1, none)
def md_CityReader_init : jm_Md := (⟨RX1, "<init>", "()V"⟩, prog_3_method_1_code, 1, none)
def md_Moment_init : jm_Md := (⟨RX5, "<init>", "()V"⟩, prog_7_method_1_code, 1, none)
def md_History_init : jm_Md := (⟨RX4, "<init>", "()V"⟩, prog_6_method_1_code, 2, none)
def md_Finds_init : jm_Md := (⟨RX3, "<init>", "()V"⟩, prog_5_method_1_code, 1, none)
def md_PressTable_init : jm_Md := (⟨RX6, "<init>", "()V"⟩, prog_8_method_1_code, 1, none)
def md_DoneSearch_init : jm_Md := (⟨RX2, "<init>", "()V"⟩, prog_4_method_1_code, 1, none)
def md_TakingGame_init : jm_Md := (⟨RX7, "<init>", "()V"⟩, prog_9_method_1_code, 1, none)
def md_X_settleIn : jm_Md := (⟨RX8, "settleIn", "()V"⟩, prog_1_method_30_code, 1, none)
def md_City_measure : jm_Md := (⟨RX0, "measure", "()V"⟩, prog_2_method_3_code, 2, none)
def md_City_measureFrom : jm_Md := (⟨RX0, "measureFrom", "(II[I)V"⟩, prog_2_method_4_code, 7, none)
def md_Arrays_fill : jm_Md := (⟨R_ar, "fill", "([II)V"⟩, prog_15_method_103_code, 4, none)
def md_City_bringsNearer : jm_Md := (⟨RX0, "bringsNearer", "(I[I)Z"⟩, prog_2_method_5_code, 5, (some .boolean))
def md_Moment_begin : jm_Md := (⟨RX5, "begin", "(LStillMinutes$City;)V"⟩, prog_7_method_2_code, 2, none)
def md_X_type : jm_Md := (⟨RX8, "type", "(I)I"⟩, prog_1_method_2_code, 2, (some .int))
def md_X_within : jm_Md := (⟨RX8, "within", "(III)Z"⟩, prog_1_method_31_code, 3, (some .boolean))
def md_X_clear : jm_Md := (⟨RX8, "clear", "()I"⟩, prog_1_method_3_code, 2, (some .int))
def md_X_city : jm_Md := (⟨RX8, "city", "()I"⟩, prog_1_method_4_code, 4, (some .int))
def md_CityReader_read : jm_Md := (⟨RX1, "read", "([IILStillMinutes$City;)I"⟩, prog_3_method_2_code, 5, (some .int))
def md_CityReader_nextToken : jm_Md := (⟨RX1, "nextToken", "()V"⟩, prog_3_method_12_code, 3, none)
def md_CityReader_isDigit : jm_Md := (⟨RX1, "isDigit", "(I)Z"⟩, prog_3_method_13_code, 1, (some .boolean))
def md_CityReader_isKnown : jm_Md := (⟨RX1, "isKnown", "(I)Z"⟩, prog_3_method_14_code, 1, (some .boolean))
def md_CityReader_readItem : jm_Md := (⟨RX1, "readItem", "(I)V"⟩, prog_3_method_3_code, 2, none)
def md_CityReader_readRooms : jm_Md := (⟨RX1, "readRooms", "(I)V"⟩, prog_3_method_4_code, 2, none)
def md_CityReader_refuse : jm_Md := (⟨RX1, "refuse", "()V"⟩, prog_3_method_11_code, 1, none)
def md_CityReader_needNumber : jm_Md := (⟨RX1, "needNumber", "(II)I"⟩, prog_3_method_9_code, 3, (some .int))
def md_CityReader_readSteps : jm_Md := (⟨RX1, "readSteps", "()V"⟩, prog_3_method_5_code, 1, none)
def md_CityReader_readDoor : jm_Md := (⟨RX1, "readDoor", "()V"⟩, prog_3_method_6_code, 2, none)
def md_CityReader_readPerson : jm_Md := (⟨RX1, "readPerson", "()V"⟩, prog_3_method_7_code, 2, none)
def md_CityReader_readThing : jm_Md := (⟨RX1, "readThing", "()V"⟩, prog_3_method_8_code, 3, none)
def md_CityReader_needEnd : jm_Md := (⟨RX1, "needEnd", "()V"⟩, prog_3_method_10_code, 1, none)
def md_X_door : jm_Md := (⟨RX8, "door", "(II)I"⟩, prog_1_method_5_code, 3, (some .int))
def md_X_person : jm_Md := (⟨RX8, "person", "(II)I"⟩, prog_1_method_6_code, 3, (some .int))
def md_X_isPerson : jm_Md := (⟨RX8, "isPerson", "(I)Z"⟩, prog_1_method_33_code, 2, (some .boolean))
def md_X_thing : jm_Md := (⟨RX8, "thing", "(II)I"⟩, prog_1_method_7_code, 3, (some .int))
def md_X_isThing : jm_Md := (⟨RX8, "isThing", "(I)Z"⟩, prog_1_method_34_code, 2, (some .boolean))
def md_X_roomOfThing : jm_Md := (⟨RX8, "roomOfThing", "(I)I"⟩, prog_1_method_36_code, 2, (some .int))
def md_City_roomOfSpot : jm_Md := (⟨RX0, "roomOfSpot", "(II)I"⟩, prog_2_method_8_code, 3, (some .int))
def md_X_now : jm_Md := (⟨RX8, "now", "(I)I"⟩, prog_1_method_8_code, 2, (some .int))
def md_X_upPeople : jm_Md := (⟨RX8, "upPeople", "()I"⟩, prog_1_method_37_code, 3, (some .int))
def md_X_isUp : jm_Md := (⟨RX8, "isUp", "(I)Z"⟩, prog_1_method_35_code, 2, (some .boolean))
def md_X_second : jm_Md := (⟨RX8, "second", "()I"⟩, prog_1_method_9_code, 1, (some .int))
def md_History_remember : jm_Md := (⟨RX4, "remember", "(LStillMinutes$Moment;)V"⟩, prog_6_method_2_code, 2, none)
def md_Moment_copyFrom : jm_Md := (⟨RX5, "copyFrom", "(LStillMinutes$Moment;)V"⟩, prog_7_method_3_code, 2, none)
def md_Math_min : jm_Md := (⟨R_mt, "min", "(II)I"⟩, prog_13_method_69_code, 2, (some .int))
def md_Moment_goBy : jm_Md := (⟨RX5, "goBy", "(LStillMinutes$City;)V"⟩, prog_7_method_4_code, 3, none)
def md_City_spotIn : jm_Md := (⟨RX0, "spotIn", "(III)I"⟩, prog_2_method_10_code, 4, (some .int))
def md_X_press : jm_Md := (⟨RX8, "press", "(I)I"⟩, prog_1_method_10_code, 2, (some .int))
def md_X_carry : jm_Md := (⟨RX8, "carry", "(III)I"⟩, prog_1_method_11_code, 5, (some .int))
def md_X_isRoom : jm_Md := (⟨RX8, "isRoom", "(I)Z"⟩, prog_1_method_32_code, 2, (some .boolean))
def md_City_stepsToCarry : jm_Md := (⟨RX0, "stepsToCarry", "(III)I"⟩, prog_2_method_7_code, 4, (some .int))
def md_City_spotOfRoom : jm_Md := (⟨RX0, "spotOfRoom", "(II)I"⟩, prog_2_method_9_code, 4, (some .int))
def md_X_moveTo : jm_Md := (⟨RX8, "moveTo", "(III)I"⟩, prog_1_method_38_code, 4, (some .int))
def md_X_walk : jm_Md := (⟨RX8, "walk", "(II)I"⟩, prog_1_method_12_code, 4, (some .int))
def md_X_undo : jm_Md := (⟨RX8, "undo", "()I"⟩, prog_1_method_13_code, 1, (some .int))
def md_History_recallInto : jm_Md := (⟨RX4, "recallInto", "(LStillMinutes$Moment;)V"⟩, prog_6_method_3_code, 2, none)
def md_X_where : jm_Md := (⟨RX8, "where", "(II)I"⟩, prog_1_method_14_code, 3, (some .int))
def md_City_roomIn : jm_Md := (⟨RX0, "roomIn", "(III)I"⟩, prog_2_method_11_code, 4, (some .int))
def md_X_upon : jm_Md := (⟨RX8, "upon", "(II)I"⟩, prog_1_method_15_code, 4, (some .int))
def md_X_reach : jm_Md := (⟨RX8, "reach", "(I)I"⟩, prog_1_method_16_code, 5, (some .int))
def md_X_presses : jm_Md := (⟨RX8, "presses", "(IIII)I"⟩, prog_1_method_17_code, 5, (some .int))
def md_PressTable_fill : jm_Md := (⟨RX6, "fill", "(LStillMinutes$City;LStillMinutes$Moment;III)V"⟩, prog_8_method_2_code, 8, none)
def md_Moment_rested : jm_Md := (⟨RX5, "rested", "(LStillMinutes$City;)I"⟩, prog_7_method_5_code, 2, (some .int))
def md_PressTable_fillCarried : jm_Md := (⟨RX6, "fillCarried", "()V"⟩, prog_8_method_8_code, 3, none)
def md_PressTable_isSpot : jm_Md := (⟨RX6, "isSpot", "(I)Z"⟩, prog_8_method_11_code, 2, (some .boolean))
def md_PressTable_spotsInReach : jm_Md := (⟨RX6, "spotsInReach", "(II)I"⟩, prog_8_method_9_code, 5, (some .int))
def md_PressTable_spotsInRoom : jm_Md := (⟨RX6, "spotsInRoom", "(I)I"⟩, prog_8_method_10_code, 4, (some .int))
def md_PressTable_fillRow : jm_Md := (⟨RX6, "fillRow", "(III)Z"⟩, prog_8_method_5_code, 8, (some .boolean))
def md_PressTable_carriedFrom : jm_Md := (⟨RX6, "carriedFrom", "(II)I"⟩, prog_8_method_6_code, 5, (some .int))
def md_PressTable_aSecondLater : jm_Md := (⟨RX6, "aSecondLater", "(I)I"⟩, prog_8_method_7_code, 4, (some .int))
def md_PressTable_fewest : jm_Md := (⟨RX6, "fewest", "()I"⟩, prog_8_method_3_code, 3, (some .int))
def md_Integer_bitCount : jm_Md := (⟨R_ig, "bitCount", "(I)I"⟩, prog_12_method_49_code, 1, (some .int))
def md_PressTable_alone : jm_Md := (⟨RX6, "alone", "()I"⟩, prog_8_method_4_code, 3, (some .int))
def md_X_found : jm_Md := (⟨RX8, "found", "(III)I"⟩, prog_1_method_18_code, 4, (some .int))
def md_Finds_note : jm_Md := (⟨RX3, "note", "(III)V"⟩, prog_5_method_2_code, 4, none)
def md_X_forget : jm_Md := (⟨RX8, "forget", "()I"⟩, prog_1_method_19_code, 2, (some .int))
def md_X_doneBy : jm_Md := (⟨RX8, "doneBy", "()I"⟩, prog_1_method_20_code, 4, (some .int))
def md_DoneSearch_couldHave : jm_Md := (⟨RX2, "couldHave", "(LStillMinutes$City;LStillMinutes$Moment;LStillMinutes$Finds;I)Z"⟩, prog_4_method_2_code, 6, (some .boolean))
def md_Finds_tellOf : jm_Md := (⟨RX3, "tellOf", "(I)Z"⟩, prog_5_method_3_code, 3, (some .boolean))
def md_DoneSearch_settleThing : jm_Md := (⟨RX2, "settleThing", "(LStillMinutes$City;LStillMinutes$Moment;LStillMinutes$Finds;I)V"⟩, prog_4_method_3_code, 7, none)
def md_Finds_holdFrom : jm_Md := (⟨RX3, "holdFrom", "(LStillMinutes$City;II)Z"⟩, prog_5_method_4_code, 5, (some .boolean))
def md_DoneSearch_mostLeft : jm_Md := (⟨RX2, "mostLeft", "(LStillMinutes$City;II)I"⟩, prog_4_method_4_code, 6, (some .int))
def md_Math_max : jm_Md := (⟨R_mt, "max", "(II)I"⟩, prog_13_method_65_code, 2, (some .int))
def md_X_guard : jm_Md := (⟨RX8, "guard", "(II)I"⟩, prog_1_method_21_code, 8, (some .int))
def md_City_openDoors : jm_Md := (⟨RX0, "openDoors", "()I"⟩, prog_2_method_6_code, 3, (some .int))
def md_X_anybodyCarries : jm_Md := (⟨RX8, "anybodyCarries", "(III)Z"⟩, prog_1_method_39_code, 6, (some .boolean))
def md_X_taking : jm_Md := (⟨RX8, "taking", "(II)I"⟩, prog_1_method_22_code, 3, (some .int))
def md_TakingGame_play : jm_Md := (⟨RX7, "play", "(LStillMinutes$City;LStillMinutes$Moment;II)I"⟩, prog_9_method_2_code, 6, (some .int))
def md_TakingGame_lead : jm_Md := (⟨RX7, "lead", "(LStillMinutes$TakingGame;II)I"⟩, prog_9_method_3_code, 5, (some .int))
def md_TakingGame_canTake : jm_Md := (⟨RX7, "canTake", "(II)Z"⟩, prog_9_method_7_code, 3, (some .boolean))
def md_TakingGame_leadByTaking : jm_Md := (⟨RX7, "leadByTaking", "(LStillMinutes$TakingGame;III)I"⟩, prog_9_method_5_code, 7, (some .int))
def md_TakingGame_better : jm_Md := (⟨RX7, "better", "(III)I"⟩, prog_9_method_4_code, 3, (some .int))
def md_TakingGame_leadByEnding : jm_Md := (⟨RX7, "leadByEnding", "(LStillMinutes$TakingGame;II)I"⟩, prog_9_method_6_code, 4, (some .int))
def md_X_odds : jm_Md := (⟨RX8, "odds", "(III)I"⟩, prog_1_method_23_code, 9, (some .int))
def md_X_choose : jm_Md := (⟨RX8, "choose", "(II)I"⟩, prog_1_method_40_code, 4, (some .int))
def md_X_power : jm_Md := (⟨RX8, "power", "(II)I"⟩, prog_1_method_41_code, 4, (some .int))
def md_X_greatestCommonDivisor : jm_Md := (⟨RX8, "greatestCommonDivisor", "(II)I"⟩, prog_1_method_42_code, 6, (some .int))
def md_X_worth : jm_Md := (⟨RX8, "worth", "(I)I"⟩, prog_1_method_24_code, 6, (some .int))
def md_X_rate : jm_Md := (⟨RX8, "rate", "(II)I"⟩, prog_1_method_25_code, 3, (some .int))
def md_X_ratePerson : jm_Md := (⟨RX8, "ratePerson", "(I)I"⟩, prog_1_method_43_code, 2, (some .int))
def md_X_rateBarber : jm_Md := (⟨RX8, "rateBarber", "(I)I"⟩, prog_1_method_44_code, 2, (some .int))
def md_X_rateThief : jm_Md := (⟨RX8, "rateThief", "(I)I"⟩, prog_1_method_45_code, 4, (some .int))
def md_X_rateGrey : jm_Md := (⟨RX8, "rateGrey", "(I)I"⟩, prog_1_method_46_code, 2, (some .int))
def md_X_rateTenth : jm_Md := (⟨RX8, "rateTenth", "(I)I"⟩, prog_1_method_47_code, 2, (some .int))
def md_X_rateChild : jm_Md := (⟨RX8, "rateChild", "(I)I"⟩, prog_1_method_48_code, 2, (some .int))
def md_X_keep : jm_Md := (⟨RX8, "keep", "(I)I"⟩, prog_1_method_26_code, 2, (some .int))
def md_X_back : jm_Md := (⟨RX8, "back", "(I)I"⟩, prog_1_method_27_code, 2, (some .int))
def md_X_count : jm_Md := (⟨RX8, "count", "(I)I"⟩, prog_1_method_28_code, 2, (some .int))
def md_X_trace : jm_Md := (⟨RX8, "trace", "()J"⟩, prog_1_method_29_code, 1, (some .long))
def md_M_init : jm_Md := (⟨RX9, "<init>", "()V"⟩, prog_11_method_1_code, 1, none)
def md_M_type : jm_Md := (⟨RX9, "type", "(I)I"⟩, prog_11_method_9_code, 2, (some .int))
def md_M_in : jm_Md := (⟨RX9, "in", "(III)Z"⟩, prog_11_method_3_code, 3, (some .boolean))
def md_M_clear : jm_Md := (⟨RX9, "clear", "()I"⟩, prog_11_method_10_code, 2, (some .int))
def md_M_city : jm_Md := (⟨RX9, "city", "()I"⟩, prog_11_method_21_code, 2, (some .int))
def md_M_next : jm_Md := (⟨RX9, "next", "()V"⟩, prog_11_method_12_code, 2, none)
def md_M_letterAt : jm_Md := (⟨RX9, "letterAt", "(I)I"⟩, prog_11_method_11_code, 2, (some .int))
def md_M_readItem : jm_Md := (⟨RX9, "readItem", "(Z)V"⟩, prog_11_method_20_code, 3, none)
def md_M_readRooms : jm_Md := (⟨RX9, "readRooms", "(Z)V"⟩, prog_11_method_15_code, 2, none)
def md_M_must : jm_Md := (⟨RX9, "must", "(Z)V"⟩, prog_11_method_13_code, 2, none)
def md_M_readInto : jm_Md := (⟨RX9, "readInto", "([IIII)I"⟩, prog_11_method_14_code, 6, (some .int))
def md_M_readSteps : jm_Md := (⟨RX9, "readSteps", "()V"⟩, prog_11_method_16_code, 1, none)
def md_M_readDoor : jm_Md := (⟨RX9, "readDoor", "()V"⟩, prog_11_method_17_code, 4, none)
def md_M_readPerson : jm_Md := (⟨RX9, "readPerson", "()V"⟩, prog_11_method_18_code, 1, none)
def md_M_readThing : jm_Md := (⟨RX9, "readThing", "()V"⟩, prog_11_method_19_code, 3, none)
def md_M_settles : jm_Md := (⟨RX9, "settles", "()V"⟩, prog_11_method_22_code, 2, none)
def md_M_door : jm_Md := (⟨RX9, "door", "(II)I"⟩, prog_11_method_23_code, 3, (some .int))
def md_M_person : jm_Md := (⟨RX9, "person", "(II)I"⟩, prog_11_method_24_code, 3, (some .int))
def md_M_isPerson : jm_Md := (⟨RX9, "isPerson", "(I)Z"⟩, prog_11_method_7_code, 2, (some .boolean))
def md_M_has : jm_Md := (⟨RX9, "has", "(II)Z"⟩, prog_11_method_4_code, 2, (some .boolean))
def md_M_thing : jm_Md := (⟨RX9, "thing", "(II)I"⟩, prog_11_method_25_code, 3, (some .int))
def md_M_isThing : jm_Md := (⟨RX9, "isThing", "(I)Z"⟩, prog_11_method_8_code, 2, (some .boolean))
def md_M_now : jm_Md := (⟨RX9, "now", "(I)I"⟩, prog_11_method_26_code, 4, (some .int))
def md_M_second : jm_Md := (⟨RX9, "second", "()I"⟩, prog_11_method_31_code, 2, (some .int))
def md_M_remembers : jm_Md := (⟨RX9, "remembers", "()V"⟩, prog_11_method_30_code, 2, none)
def md_M_press : jm_Md := (⟨RX9, "press", "(I)I"⟩, prog_11_method_32_code, 2, (some .int))
def md_M_carry : jm_Md := (⟨RX9, "carry", "(III)I"⟩, prog_11_method_34_code, 5, (some .int))
def md_M_isRoom : jm_Md := (⟨RX9, "isRoom", "(I)Z"⟩, prog_11_method_6_code, 2, (some .boolean))
def md_M_findFar : jm_Md := (⟨RX9, "findFar", "(I)V"⟩, prog_11_method_27_code, 5, none)
def md_M_by : jm_Md := (⟨RX9, "by", "(III)I"⟩, prog_11_method_28_code, 4, (some .int))
def md_M_mayGo : jm_Md := (⟨RX9, "mayGo", "(II)Z"⟩, prog_11_method_33_code, 3, (some .boolean))
def md_M_placeIn : jm_Md := (⟨RX9, "placeIn", "(II)I"⟩, prog_11_method_29_code, 5, (some .int))
def md_M_walk : jm_Md := (⟨RX9, "walk", "(II)I"⟩, prog_11_method_35_code, 4, (some .int))
def md_M_undo : jm_Md := (⟨RX9, "undo", "()I"⟩, prog_11_method_36_code, 2, (some .int))
def md_M_where : jm_Md := (⟨RX9, "where", "(II)I"⟩, prog_11_method_42_code, 3, (some .int))
def md_M_roomIn : jm_Md := (⟨RX9, "roomIn", "(II)I"⟩, prog_11_method_41_code, 3, (some .int))
def md_M_isNow : jm_Md := (⟨RX9, "isNow", "(I)I"⟩, prog_11_method_37_code, 2, (some .int))
def md_M_later : jm_Md := (⟨RX9, "later", "(III)I"⟩, prog_11_method_39_code, 4, (some .int))
def md_M_roomOf : jm_Md := (⟨RX9, "roomOf", "(II)I"⟩, prog_11_method_38_code, 3, (some .int))
def md_M_upon : jm_Md := (⟨RX9, "upon", "(II)I"⟩, prog_11_method_43_code, 4, (some .int))
def md_M_reach : jm_Md := (⟨RX9, "reach", "(I)I"⟩, prog_11_method_44_code, 5, (some .int))
def md_M_presses : jm_Md := (⟨RX9, "presses", "(IIII)I"⟩, prog_11_method_50_code, 8, (some .int))
def md_M_mayPress : jm_Md := (⟨RX9, "mayPress", "()I"⟩, prog_11_method_45_code, 1, (some .int))
def md_M_fewest : jm_Md := (⟨RX9, "fewest", "(IIII)I"⟩, prog_11_method_49_code, 7, (some .int))
def md_M_pressesMore : jm_Md := (⟨RX9, "pressesMore", "(II)V"⟩, prog_11_method_46_code, 6, none)
def md_M_carriesOn : jm_Md := (⟨RX9, "carriesOn", "(IIII)V"⟩, prog_11_method_47_code, 6, none)
def md_M_putIn : jm_Md := (⟨RX9, "putIn", "(II)I"⟩, prog_11_method_40_code, 4, (some .int))
def md_M_notes : jm_Md := (⟨RX9, "notes", "(II)V"⟩, prog_11_method_48_code, 5, none)
def md_M_bits : jm_Md := (⟨RX9, "bits", "(I)I"⟩, prog_11_method_5_code, 3, (some .int))
def md_M_found : jm_Md := (⟨RX9, "found", "(III)I"⟩, prog_11_method_51_code, 4, (some .int))
def md_M_forget : jm_Md := (⟨RX9, "forget", "()I"⟩, prog_11_method_52_code, 2, (some .int))
def md_M_doneBy : jm_Md := (⟨RX9, "doneBy", "()I"⟩, prog_11_method_57_code, 3, (some .int))
def md_M_canHave : jm_Md := (⟨RX9, "canHave", "(I)Z"⟩, prog_11_method_56_code, 4, (some .boolean))
def md_M_isFound : jm_Md := (⟨RX9, "isFound", "(I)Z"⟩, prog_11_method_54_code, 4, (some .boolean))
def md_M_findCosts : jm_Md := (⟨RX9, "findCosts", "(I)V"⟩, prog_11_method_55_code, 6, none)
def md_M_isSo : jm_Md := (⟨RX9, "isSo", "(II)Z"⟩, prog_11_method_53_code, 5, (some .boolean))
def md_M_guard : jm_Md := (⟨RX9, "guard", "(II)I"⟩, prog_11_method_59_code, 9, (some .int))
def md_M_canCarry : jm_Md := (⟨RX9, "canCarry", "(III)Z"⟩, prog_11_method_58_code, 4, (some .boolean))
def md_M_taking : jm_Md := (⟨RX9, "taking", "(II)I"⟩, prog_11_method_63_code, 6, (some .int))
def md_M_comesBack : jm_Md := (⟨RX9, "comesBack", "(II)V"⟩, prog_11_method_62_code, 8, none)
def md_M_triesOn : jm_Md := (⟨RX9, "triesOn", "(II)Z"⟩, prog_11_method_61_code, 8, (some .boolean))
def md_M_copiesOn : jm_Md := (⟨RX9, "copiesOn", "(I)V"⟩, prog_11_method_60_code, 3, none)
def md_M_odds : jm_Md := (⟨RX9, "odds", "(III)I"⟩, prog_11_method_64_code, 10, (some .int))
def md_M_worth : jm_Md := (⟨RX9, "worth", "(I)I"⟩, prog_11_method_65_code, 6, (some .int))
def md_M_rate : jm_Md := (⟨RX9, "rate", "(II)I"⟩, prog_11_method_69_code, 3, (some .int))
def md_M_personRate : jm_Md := (⟨RX9, "personRate", "(I)I"⟩, prog_11_method_66_code, 2, (some .int))
def md_M_barberRate : jm_Md := (⟨RX9, "barberRate", "(I)I"⟩, prog_11_method_67_code, 2, (some .int))
def md_M_thiefRate : jm_Md := (⟨RX9, "thiefRate", "(I)I"⟩, prog_11_method_68_code, 4, (some .int))
def md_M_keep : jm_Md := (⟨RX9, "keep", "(I)I"⟩, prog_11_method_70_code, 3, (some .int))
def md_M_back : jm_Md := (⟨RX9, "back", "(I)I"⟩, prog_11_method_71_code, 3, (some .int))
def md_M_count : jm_Md := (⟨RX9, "count", "(I)I"⟩, prog_11_method_72_code, 2, (some .int))
def md_M_trace : jm_Md := (⟨RX9, "trace", "()J"⟩, prog_11_method_73_code, 1, (some .long))
def md_L_law : jm_Md := (⟨R_lw, "law", "([I)Z"⟩, code, 4, (some .boolean))
theorem cl_lw_7 : Cond.classLink R_lw 7 (jm_cn 8) ∈ jm_gt := jm_in 91 (by decide +kernel) (by decide +kernel)
theorem ml_lw_9 : Cond.methodLink R_lw 9 md_X_init.1 ∈ jm_gt := jm_in 93 (by decide +kernel) (by decide +kernel)
theorem ml_8_3 : Cond.methodLink RX8 3 Lib.objectInit ∈ jm_gt := jm_in 96 (by decide +kernel) (by decide +kernel)
theorem cl_8_9 : Cond.classLink RX8 9 (jm_cn 0) ∈ jm_gt := jm_in 99 (by decide +kernel) (by decide +kernel)
theorem ml_8_11 : Cond.methodLink RX8 11 md_City_init.1 ∈ jm_gt := jm_in 101 (by decide +kernel) (by decide +kernel)
theorem ml_0_3 : Cond.methodLink RX0 3 Lib.objectInit ∈ jm_gt := jm_in 104 (by decide +kernel) (by decide +kernel)
theorem cl_0_30 : Cond.classLink RX0 30 "[[I" ∈ jm_gt := jm_in 105 (by decide +kernel) (by decide +kernel)
theorem ml_0_38 : Cond.methodLink RX0 38 md_City_beAsAtFirst.1 ∈ jm_gt := jm_in 107 (by decide +kernel) (by decide +kernel)
theorem fl_0_41 : Cond.fieldLink RX0 41 (jm_T 0 0).1 (jm_T 0 0).2.1 (jm_T 0 0).2.2.1 ∈ jm_gt := jm_in 111 (by decide +kernel) (by decide +kernel)
theorem fl_2_48 : Cond.fieldLink RX2 48 (jm_T 0 0).1 (jm_T 0 0).2.1 (jm_T 0 0).2.2.1 ∈ jm_gt := jm_in 112 (by decide +kernel) (by decide +kernel)
theorem fl_1_73 : Cond.fieldLink RX1 73 (jm_T 0 0).1 (jm_T 0 0).2.1 (jm_T 0 0).2.2.1 ∈ jm_gt := jm_in 113 (by decide +kernel) (by decide +kernel)
theorem fl_6_94 : Cond.fieldLink RX6 94 (jm_T 0 0).1 (jm_T 0 0).2.1 (jm_T 0 0).2.2.1 ∈ jm_gt := jm_in 114 (by decide +kernel) (by decide +kernel)
theorem fl_8_190 : Cond.fieldLink RX8 190 (jm_T 0 0).1 (jm_T 0 0).2.1 (jm_T 0 0).2.2.1 ∈ jm_gt := jm_in 115 (by decide +kernel) (by decide +kernel)
theorem fl_0_45 : Cond.fieldLink RX0 45 (jm_T 0 1).1 (jm_T 0 1).2.1 (jm_T 0 1).2.2.1 ∈ jm_gt := jm_in 116 (by decide +kernel) (by decide +kernel)
theorem fl_2_29 : Cond.fieldLink RX2 29 (jm_T 0 1).1 (jm_T 0 1).2.1 (jm_T 0 1).2.2.1 ∈ jm_gt := jm_in 117 (by decide +kernel) (by decide +kernel)
theorem fl_7_48 : Cond.fieldLink RX7 48 (jm_T 0 1).1 (jm_T 0 1).2.1 (jm_T 0 1).2.2.1 ∈ jm_gt := jm_in 118 (by decide +kernel) (by decide +kernel)
theorem fl_1_76 : Cond.fieldLink RX1 76 (jm_T 0 1).1 (jm_T 0 1).2.1 (jm_T 0 1).2.2.1 ∈ jm_gt := jm_in 119 (by decide +kernel) (by decide +kernel)
theorem fl_6_103 : Cond.fieldLink RX6 103 (jm_T 0 1).1 (jm_T 0 1).2.1 (jm_T 0 1).2.2.1 ∈ jm_gt := jm_in 120 (by decide +kernel) (by decide +kernel)
theorem fl_8_160 : Cond.fieldLink RX8 160 (jm_T 0 1).1 (jm_T 0 1).2.1 (jm_T 0 1).2.2.1 ∈ jm_gt := jm_in 121 (by decide +kernel) (by decide +kernel)
theorem fl_0_48 : Cond.fieldLink RX0 48 (jm_T 0 2).1 (jm_T 0 2).2.1 (jm_T 0 2).2.2.1 ∈ jm_gt := jm_in 122 (by decide +kernel) (by decide +kernel)
theorem fl_8_104 : Cond.fieldLink RX8 104 (jm_T 0 2).1 (jm_T 0 2).2.1 (jm_T 0 2).2.2.1 ∈ jm_gt := jm_in 123 (by decide +kernel) (by decide +kernel)
theorem fl_1_79 : Cond.fieldLink RX1 79 (jm_T 0 2).1 (jm_T 0 2).2.1 (jm_T 0 2).2.2.1 ∈ jm_gt := jm_in 124 (by decide +kernel) (by decide +kernel)
theorem fl_0_51 : Cond.fieldLink RX0 51 (jm_T 0 3).1 (jm_T 0 3).2.1 (jm_T 0 3).2.2.1 ∈ jm_gt := jm_in 125 (by decide +kernel) (by decide +kernel)
theorem fl_5_58 : Cond.fieldLink RX5 58 (jm_T 0 3).1 (jm_T 0 3).2.1 (jm_T 0 3).2.2.1 ∈ jm_gt := jm_in 126 (by decide +kernel) (by decide +kernel)
theorem fl_6_69 : Cond.fieldLink RX6 69 (jm_T 0 3).1 (jm_T 0 3).2.1 (jm_T 0 3).2.2.1 ∈ jm_gt := jm_in 127 (by decide +kernel) (by decide +kernel)
theorem fl_1_91 : Cond.fieldLink RX1 91 (jm_T 0 3).1 (jm_T 0 3).2.1 (jm_T 0 3).2.2.1 ∈ jm_gt := jm_in 128 (by decide +kernel) (by decide +kernel)
theorem fl_8_211 : Cond.fieldLink RX8 211 (jm_T 0 3).1 (jm_T 0 3).2.1 (jm_T 0 3).2.2.1 ∈ jm_gt := jm_in 129 (by decide +kernel) (by decide +kernel)
theorem fl_7_33 : Cond.fieldLink RX7 33 (jm_T 0 4).1 (jm_T 0 4).2.1 (jm_T 0 4).2.2.1 ∈ jm_gt := jm_in 130 (by decide +kernel) (by decide +kernel)
theorem fl_0_54 : Cond.fieldLink RX0 54 (jm_T 0 4).1 (jm_T 0 4).2.1 (jm_T 0 4).2.2.1 ∈ jm_gt := jm_in 131 (by decide +kernel) (by decide +kernel)
theorem fl_2_35 : Cond.fieldLink RX2 35 (jm_T 0 4).1 (jm_T 0 4).2.1 (jm_T 0 4).2.2.1 ∈ jm_gt := jm_in 132 (by decide +kernel) (by decide +kernel)
theorem fl_5_51 : Cond.fieldLink RX5 51 (jm_T 0 4).1 (jm_T 0 4).2.1 (jm_T 0 4).2.2.1 ∈ jm_gt := jm_in 133 (by decide +kernel) (by decide +kernel)
theorem fl_1_100 : Cond.fieldLink RX1 100 (jm_T 0 4).1 (jm_T 0 4).2.1 (jm_T 0 4).2.2.1 ∈ jm_gt := jm_in 134 (by decide +kernel) (by decide +kernel)
theorem fl_8_243 : Cond.fieldLink RX8 243 (jm_T 0 4).1 (jm_T 0 4).2.1 (jm_T 0 4).2.2.1 ∈ jm_gt := jm_in 135 (by decide +kernel) (by decide +kernel)
theorem fl_0_9 : Cond.fieldLink RX0 9 (jm_T 0 5).1 (jm_T 0 5).2.1 (jm_T 0 5).2.2.1 ∈ jm_gt := jm_in 136 (by decide +kernel) (by decide +kernel)
theorem fl_8_107 : Cond.fieldLink RX8 107 (jm_T 0 5).1 (jm_T 0 5).2.1 (jm_T 0 5).2.2.1 ∈ jm_gt := jm_in 137 (by decide +kernel) (by decide +kernel)
theorem fl_1_82 : Cond.fieldLink RX1 82 (jm_T 0 5).1 (jm_T 0 5).2.1 (jm_T 0 5).2.2.1 ∈ jm_gt := jm_in 138 (by decide +kernel) (by decide +kernel)
theorem fl_0_15 : Cond.fieldLink RX0 15 (jm_T 0 6).1 (jm_T 0 6).2.1 (jm_T 0 6).2.2.1 ∈ jm_gt := jm_in 139 (by decide +kernel) (by decide +kernel)
theorem fl_8_110 : Cond.fieldLink RX8 110 (jm_T 0 6).1 (jm_T 0 6).2.1 (jm_T 0 6).2.2.1 ∈ jm_gt := jm_in 140 (by decide +kernel) (by decide +kernel)
theorem fl_1_85 : Cond.fieldLink RX1 85 (jm_T 0 6).1 (jm_T 0 6).2.1 (jm_T 0 6).2.2.1 ∈ jm_gt := jm_in 141 (by decide +kernel) (by decide +kernel)
theorem fl_0_18 : Cond.fieldLink RX0 18 (jm_T 0 7).1 (jm_T 0 7).2.1 (jm_T 0 7).2.2.1 ∈ jm_gt := jm_in 142 (by decide +kernel) (by decide +kernel)
theorem fl_8_113 : Cond.fieldLink RX8 113 (jm_T 0 7).1 (jm_T 0 7).2.1 (jm_T 0 7).2.2.1 ∈ jm_gt := jm_in 143 (by decide +kernel) (by decide +kernel)
theorem fl_1_88 : Cond.fieldLink RX1 88 (jm_T 0 7).1 (jm_T 0 7).2.1 (jm_T 0 7).2.2.1 ∈ jm_gt := jm_in 144 (by decide +kernel) (by decide +kernel)
theorem fl_0_21 : Cond.fieldLink RX0 21 (jm_T 0 8).1 (jm_T 0 8).2.1 (jm_T 0 8).2.2.1 ∈ jm_gt := jm_in 145 (by decide +kernel) (by decide +kernel)
theorem fl_5_31 : Cond.fieldLink RX5 31 (jm_T 0 8).1 (jm_T 0 8).2.1 (jm_T 0 8).2.2.1 ∈ jm_gt := jm_in 146 (by decide +kernel) (by decide +kernel)
theorem fl_1_94 : Cond.fieldLink RX1 94 (jm_T 0 8).1 (jm_T 0 8).2.1 (jm_T 0 8).2.2.1 ∈ jm_gt := jm_in 147 (by decide +kernel) (by decide +kernel)
theorem fl_0_24 : Cond.fieldLink RX0 24 (jm_T 0 9).1 (jm_T 0 9).2.1 (jm_T 0 9).2.2.1 ∈ jm_gt := jm_in 148 (by decide +kernel) (by decide +kernel)
theorem fl_5_42 : Cond.fieldLink RX5 42 (jm_T 0 9).1 (jm_T 0 9).2.1 (jm_T 0 9).2.2.1 ∈ jm_gt := jm_in 149 (by decide +kernel) (by decide +kernel)
theorem fl_1_97 : Cond.fieldLink RX1 97 (jm_T 0 9).1 (jm_T 0 9).2.1 (jm_T 0 9).2.2.1 ∈ jm_gt := jm_in 150 (by decide +kernel) (by decide +kernel)
theorem fl_0_27 : Cond.fieldLink RX0 27 (jm_T 0 10).1 (jm_T 0 10).2.1 (jm_T 0 10).2.2.1 ∈ jm_gt := jm_in 151 (by decide +kernel) (by decide +kernel)
theorem fl_8_142 : Cond.fieldLink RX8 142 (jm_T 0 10).1 (jm_T 0 10).2.1 (jm_T 0 10).2.2.1 ∈ jm_gt := jm_in 152 (by decide +kernel) (by decide +kernel)
theorem fl_1_103 : Cond.fieldLink RX1 103 (jm_T 0 10).1 (jm_T 0 10).2.1 (jm_T 0 10).2.2.1 ∈ jm_gt := jm_in 153 (by decide +kernel) (by decide +kernel)
theorem fl_6_109 : Cond.fieldLink RX6 109 (jm_T 0 10).1 (jm_T 0 10).2.1 (jm_T 0 10).2.2.1 ∈ jm_gt := jm_in 154 (by decide +kernel) (by decide +kernel)
theorem fl_0_32 : Cond.fieldLink RX0 32 (jm_T 0 11).1 (jm_T 0 11).2.1 (jm_T 0 11).2.2.1 ∈ jm_gt := jm_in 155 (by decide +kernel) (by decide +kernel)
theorem fl_1_106 : Cond.fieldLink RX1 106 (jm_T 0 11).1 (jm_T 0 11).2.1 (jm_T 0 11).2.2.1 ∈ jm_gt := jm_in 156 (by decide +kernel) (by decide +kernel)
theorem fl_0_35 : Cond.fieldLink RX0 35 (jm_T 0 12).1 (jm_T 0 12).2.1 (jm_T 0 12).2.2.1 ∈ jm_gt := jm_in 157 (by decide +kernel) (by decide +kernel)
theorem fl_7_85 : Cond.fieldLink RX7 85 (jm_T 0 12).1 (jm_T 0 12).2.1 (jm_T 0 12).2.2.1 ∈ jm_gt := jm_in 158 (by decide +kernel) (by decide +kernel)
theorem fl_8_180 : Cond.fieldLink RX8 180 (jm_T 0 12).1 (jm_T 0 12).2.1 (jm_T 0 12).2.2.1 ∈ jm_gt := jm_in 159 (by decide +kernel) (by decide +kernel)
theorem cl_8_19 : Cond.classLink RX8 19 (jm_cn 1) ∈ jm_gt := jm_in 188 (by decide +kernel) (by decide +kernel)
theorem nl_8_21 : Cond.methodLinkNest RX8 21 md_CityReader_init.1 "StillMinutes" ∈ jm_nw := List.mem_filter.mpr ⟨List.mem_of_getElem? (i := 190) (by decide +kernel), rfl⟩
theorem ml_1_3 : Cond.methodLink RX1 3 Lib.objectInit ∈ jm_gt := jm_in 193 (by decide +kernel) (by decide +kernel)
theorem fl_1_9 : Cond.fieldLink RX1 9 (jm_T 1 0).1 (jm_T 1 0).2.1 (jm_T 1 0).2.2.1 ∈ jm_gt := jm_in 194 (by decide +kernel) (by decide +kernel)
theorem fl_1_15 : Cond.fieldLink RX1 15 (jm_T 1 1).1 (jm_T 1 1).2.1 (jm_T 1 1).2.2.1 ∈ jm_gt := jm_in 195 (by decide +kernel) (by decide +kernel)
theorem fl_1_19 : Cond.fieldLink RX1 19 (jm_T 1 2).1 (jm_T 1 2).2.1 (jm_T 1 2).2.2.1 ∈ jm_gt := jm_in 196 (by decide +kernel) (by decide +kernel)
theorem fl_1_23 : Cond.fieldLink RX1 23 (jm_T 1 3).1 (jm_T 1 3).2.1 (jm_T 1 3).2.2.1 ∈ jm_gt := jm_in 197 (by decide +kernel) (by decide +kernel)
theorem fl_1_41 : Cond.fieldLink RX1 41 (jm_T 1 4).1 (jm_T 1 4).2.1 (jm_T 1 4).2.2.1 ∈ jm_gt := jm_in 198 (by decide +kernel) (by decide +kernel)
theorem fl_1_113 : Cond.fieldLink RX1 113 (jm_T 1 5).1 (jm_T 1 5).2.1 (jm_T 1 5).2.2.1 ∈ jm_gt := jm_in 199 (by decide +kernel) (by decide +kernel)
theorem fl_1_110 : Cond.fieldLink RX1 110 (jm_T 1 6).1 (jm_T 1 6).2.1 (jm_T 1 6).2.2.1 ∈ jm_gt := jm_in 200 (by decide +kernel) (by decide +kernel)
theorem fl_1_26 : Cond.fieldLink RX1 26 (jm_T 1 7).1 (jm_T 1 7).2.1 (jm_T 1 7).2.2.1 ∈ jm_gt := jm_in 201 (by decide +kernel) (by decide +kernel)
theorem fl_1_30 : Cond.fieldLink RX1 30 (jm_T 1 8).1 (jm_T 1 8).2.1 (jm_T 1 8).2.2.1 ∈ jm_gt := jm_in 202 (by decide +kernel) (by decide +kernel)
theorem cl_8_30 : Cond.classLink RX8 30 (jm_cn 5) ∈ jm_gt := jm_in 222 (by decide +kernel) (by decide +kernel)
theorem nl_8_32 : Cond.methodLinkNest RX8 32 md_Moment_init.1 "StillMinutes" ∈ jm_nw := List.mem_filter.mpr ⟨List.mem_of_getElem? (i := 224) (by decide +kernel), rfl⟩
theorem ml_5_3 : Cond.methodLink RX5 3 Lib.objectInit ∈ jm_gt := jm_in 227 (by decide +kernel) (by decide +kernel)
theorem fl_5_24 : Cond.fieldLink RX5 24 (jm_T 5 0).1 (jm_T 5 0).2.1 (jm_T 5 0).2.2.1 ∈ jm_gt := jm_in 228 (by decide +kernel) (by decide +kernel)
theorem fl_8_145 : Cond.fieldLink RX8 145 (jm_T 5 0).1 (jm_T 5 0).2.1 (jm_T 5 0).2.2.1 ∈ jm_gt := jm_in 229 (by decide +kernel) (by decide +kernel)
theorem fl_5_28 : Cond.fieldLink RX5 28 (jm_T 5 1).1 (jm_T 5 1).2.1 (jm_T 5 1).2.2.1 ∈ jm_gt := jm_in 230 (by decide +kernel) (by decide +kernel)
theorem fl_8_126 : Cond.fieldLink RX8 126 (jm_T 5 1).1 (jm_T 5 1).2.1 (jm_T 5 1).2.2.1 ∈ jm_gt := jm_in 231 (by decide +kernel) (by decide +kernel)
theorem fl_5_9 : Cond.fieldLink RX5 9 (jm_T 5 2).1 (jm_T 5 2).2.1 (jm_T 5 2).2.2.1 ∈ jm_gt := jm_in 232 (by decide +kernel) (by decide +kernel)
theorem fl_2_24 : Cond.fieldLink RX2 24 (jm_T 5 2).1 (jm_T 5 2).2.1 (jm_T 5 2).2.2.1 ∈ jm_gt := jm_in 233 (by decide +kernel) (by decide +kernel)
theorem fl_7_47 : Cond.fieldLink RX7 47 (jm_T 5 2).1 (jm_T 5 2).2.1 (jm_T 5 2).2.2.1 ∈ jm_gt := jm_in 234 (by decide +kernel) (by decide +kernel)
theorem fl_8_120 : Cond.fieldLink RX8 120 (jm_T 5 2).1 (jm_T 5 2).2.1 (jm_T 5 2).2.2.1 ∈ jm_gt := jm_in 235 (by decide +kernel) (by decide +kernel)
theorem fl_6_97 : Cond.fieldLink RX6 97 (jm_T 5 2).1 (jm_T 5 2).2.1 (jm_T 5 2).2.2.1 ∈ jm_gt := jm_in 236 (by decide +kernel) (by decide +kernel)
theorem fl_5_15 : Cond.fieldLink RX5 15 (jm_T 5 3).1 (jm_T 5 3).2.1 (jm_T 5 3).2.2.1 ∈ jm_gt := jm_in 237 (by decide +kernel) (by decide +kernel)
theorem fl_8_123 : Cond.fieldLink RX8 123 (jm_T 5 3).1 (jm_T 5 3).2.1 (jm_T 5 3).2.2.1 ∈ jm_gt := jm_in 238 (by decide +kernel) (by decide +kernel)
theorem fl_5_18 : Cond.fieldLink RX5 18 (jm_T 5 4).1 (jm_T 5 4).2.1 (jm_T 5 4).2.2.1 ∈ jm_gt := jm_in 239 (by decide +kernel) (by decide +kernel)
theorem fl_8_129 : Cond.fieldLink RX8 129 (jm_T 5 4).1 (jm_T 5 4).2.1 (jm_T 5 4).2.2.1 ∈ jm_gt := jm_in 240 (by decide +kernel) (by decide +kernel)
theorem fl_5_21 : Cond.fieldLink RX5 21 (jm_T 5 5).1 (jm_T 5 5).2.1 (jm_T 5 5).2.2.1 ∈ jm_gt := jm_in 241 (by decide +kernel) (by decide +kernel)
theorem fl_7_38 : Cond.fieldLink RX7 38 (jm_T 5 5).1 (jm_T 5 5).2.1 (jm_T 5 5).2.2.1 ∈ jm_gt := jm_in 242 (by decide +kernel) (by decide +kernel)
theorem fl_2_51 : Cond.fieldLink RX2 51 (jm_T 5 5).1 (jm_T 5 5).2.1 (jm_T 5 5).2.2.1 ∈ jm_gt := jm_in 243 (by decide +kernel) (by decide +kernel)
theorem fl_6_65 : Cond.fieldLink RX6 65 (jm_T 5 5).1 (jm_T 5 5).2.1 (jm_T 5 5).2.2.1 ∈ jm_gt := jm_in 244 (by decide +kernel) (by decide +kernel)
theorem fl_8_139 : Cond.fieldLink RX8 139 (jm_T 5 5).1 (jm_T 5 5).2.1 (jm_T 5 5).2.2.1 ∈ jm_gt := jm_in 245 (by decide +kernel) (by decide +kernel)
theorem cl_8_37 : Cond.classLink RX8 37 (jm_cn 4) ∈ jm_gt := jm_in 259 (by decide +kernel) (by decide +kernel)
theorem ml_8_39 : Cond.methodLink RX8 39 md_History_init.1 ∈ jm_gt := jm_in 261 (by decide +kernel) (by decide +kernel)
theorem ml_4_3 : Cond.methodLink RX4 3 Lib.objectInit ∈ jm_gt := jm_in 264 (by decide +kernel) (by decide +kernel)
theorem cl_4_9 : Cond.classLink RX4 9 (jm_cn 5) ∈ jm_gt := jm_in 265 (by decide +kernel) (by decide +kernel)
theorem nl_4_17 : Cond.methodLinkNest RX4 17 md_Moment_init.1 "StillMinutes" ∈ jm_nw := List.mem_filter.mpr ⟨List.mem_of_getElem? (i := 267) (by decide +kernel), rfl⟩
theorem fl_4_11 : Cond.fieldLink RX4 11 (jm_T 4 0).1 (jm_T 4 0).2.1 (jm_T 4 0).2.2.1 ∈ jm_gt := jm_in 268 (by decide +kernel) (by decide +kernel)
theorem fl_4_18 : Cond.fieldLink RX4 18 (jm_T 4 1).1 (jm_T 4 1).2.1 (jm_T 4 1).2.2.1 ∈ jm_gt := jm_in 269 (by decide +kernel) (by decide +kernel)
theorem fl_4_26 : Cond.fieldLink RX4 26 (jm_T 4 2).1 (jm_T 4 2).2.1 (jm_T 4 2).2.2.1 ∈ jm_gt := jm_in 270 (by decide +kernel) (by decide +kernel)
theorem fl_8_101 : Cond.fieldLink RX8 101 (jm_T 4 2).1 (jm_T 4 2).2.1 (jm_T 4 2).2.2.1 ∈ jm_gt := jm_in 271 (by decide +kernel) (by decide +kernel)
theorem cl_8_52 : Cond.classLink RX8 52 (jm_cn 3) ∈ jm_gt := jm_in 279 (by decide +kernel) (by decide +kernel)
theorem nl_8_54 : Cond.methodLinkNest RX8 54 md_Finds_init.1 "StillMinutes" ∈ jm_nw := List.mem_filter.mpr ⟨List.mem_of_getElem? (i := 281) (by decide +kernel), rfl⟩
theorem ml_3_3 : Cond.methodLink RX3 3 Lib.objectInit ∈ jm_gt := jm_in 284 (by decide +kernel) (by decide +kernel)
theorem fl_3_21 : Cond.fieldLink RX3 21 (jm_T 3 0).1 (jm_T 3 0).2.1 (jm_T 3 0).2.2.1 ∈ jm_gt := jm_in 285 (by decide +kernel) (by decide +kernel)
theorem fl_8_98 : Cond.fieldLink RX8 98 (jm_T 3 0).1 (jm_T 3 0).2.1 (jm_T 3 0).2.2.1 ∈ jm_gt := jm_in 286 (by decide +kernel) (by decide +kernel)
theorem fl_3_9 : Cond.fieldLink RX3 9 (jm_T 3 1).1 (jm_T 3 1).2.1 (jm_T 3 1).2.2.1 ∈ jm_gt := jm_in 287 (by decide +kernel) (by decide +kernel)
theorem fl_3_15 : Cond.fieldLink RX3 15 (jm_T 3 2).1 (jm_T 3 2).2.1 (jm_T 3 2).2.2.1 ∈ jm_gt := jm_in 288 (by decide +kernel) (by decide +kernel)
theorem fl_3_18 : Cond.fieldLink RX3 18 (jm_T 3 3).1 (jm_T 3 3).2.1 (jm_T 3 3).2.2.1 ∈ jm_gt := jm_in 289 (by decide +kernel) (by decide +kernel)
theorem cl_8_59 : Cond.classLink RX8 59 (jm_cn 6) ∈ jm_gt := jm_in 300 (by decide +kernel) (by decide +kernel)
theorem nl_8_61 : Cond.methodLinkNest RX8 61 md_PressTable_init.1 "StillMinutes" ∈ jm_nw := List.mem_filter.mpr ⟨List.mem_of_getElem? (i := 302) (by decide +kernel), rfl⟩
theorem ml_6_3 : Cond.methodLink RX6 3 Lib.objectInit ∈ jm_gt := jm_in 305 (by decide +kernel) (by decide +kernel)
theorem cl_6_9 : Cond.classLink RX6 9 "[[I" ∈ jm_gt := jm_in 306 (by decide +kernel) (by decide +kernel)
theorem fl_6_23 : Cond.fieldLink RX6 23 (jm_T 6 0).1 (jm_T 6 0).2.1 (jm_T 6 0).2.2.1 ∈ jm_gt := jm_in 307 (by decide +kernel) (by decide +kernel)
theorem fl_6_27 : Cond.fieldLink RX6 27 (jm_T 6 1).1 (jm_T 6 1).2.1 (jm_T 6 1).2.2.1 ∈ jm_gt := jm_in 308 (by decide +kernel) (by decide +kernel)
theorem fl_6_31 : Cond.fieldLink RX6 31 (jm_T 6 2).1 (jm_T 6 2).2.1 (jm_T 6 2).2.2.1 ∈ jm_gt := jm_in 309 (by decide +kernel) (by decide +kernel)
theorem fl_6_41 : Cond.fieldLink RX6 41 (jm_T 6 3).1 (jm_T 6 3).2.1 (jm_T 6 3).2.2.1 ∈ jm_gt := jm_in 310 (by decide +kernel) (by decide +kernel)
theorem fl_6_11 : Cond.fieldLink RX6 11 (jm_T 6 4).1 (jm_T 6 4).2.1 (jm_T 6 4).2.2.1 ∈ jm_gt := jm_in 311 (by decide +kernel) (by decide +kernel)
theorem fl_6_16 : Cond.fieldLink RX6 16 (jm_T 6 5).1 (jm_T 6 5).2.1 (jm_T 6 5).2.2.1 ∈ jm_gt := jm_in 312 (by decide +kernel) (by decide +kernel)
theorem fl_6_19 : Cond.fieldLink RX6 19 (jm_T 6 6).1 (jm_T 6 6).2.1 (jm_T 6 6).2.2.1 ∈ jm_gt := jm_in 313 (by decide +kernel) (by decide +kernel)
theorem cl_8_66 : Cond.classLink RX8 66 (jm_cn 2) ∈ jm_gt := jm_in 329 (by decide +kernel) (by decide +kernel)
theorem nl_8_68 : Cond.methodLinkNest RX8 68 md_DoneSearch_init.1 "StillMinutes" ∈ jm_nw := List.mem_filter.mpr ⟨List.mem_of_getElem? (i := 331) (by decide +kernel), rfl⟩
theorem ml_2_3 : Cond.methodLink RX2 3 Lib.objectInit ∈ jm_gt := jm_in 334 (by decide +kernel) (by decide +kernel)
theorem fl_2_9 : Cond.fieldLink RX2 9 (jm_T 2 0).1 (jm_T 2 0).2.1 (jm_T 2 0).2.2.1 ∈ jm_gt := jm_in 335 (by decide +kernel) (by decide +kernel)
theorem fl_2_15 : Cond.fieldLink RX2 15 (jm_T 2 1).1 (jm_T 2 1).2.1 (jm_T 2 1).2.2.1 ∈ jm_gt := jm_in 336 (by decide +kernel) (by decide +kernel)
theorem cl_8_73 : Cond.classLink RX8 73 (jm_cn 7) ∈ jm_gt := jm_in 342 (by decide +kernel) (by decide +kernel)
theorem nl_8_75 : Cond.methodLinkNest RX8 75 md_TakingGame_init.1 "StillMinutes" ∈ jm_nw := List.mem_filter.mpr ⟨List.mem_of_getElem? (i := 344) (by decide +kernel), rfl⟩
theorem ml_7_3 : Cond.methodLink RX7 3 Lib.objectInit ∈ jm_gt := jm_in 347 (by decide +kernel) (by decide +kernel)
theorem fl_7_25 : Cond.fieldLink RX7 25 (jm_T 7 0).1 (jm_T 7 0).2.1 (jm_T 7 0).2.2.1 ∈ jm_gt := jm_in 348 (by decide +kernel) (by decide +kernel)
theorem fl_7_29 : Cond.fieldLink RX7 29 (jm_T 7 1).1 (jm_T 7 1).2.1 (jm_T 7 1).2.2.1 ∈ jm_gt := jm_in 349 (by decide +kernel) (by decide +kernel)
theorem fl_7_9 : Cond.fieldLink RX7 9 (jm_T 7 2).1 (jm_T 7 2).2.1 (jm_T 7 2).2.2.1 ∈ jm_gt := jm_in 350 (by decide +kernel) (by decide +kernel)
theorem fl_7_15 : Cond.fieldLink RX7 15 (jm_T 7 3).1 (jm_T 7 3).2.1 (jm_T 7 3).2.2.1 ∈ jm_gt := jm_in 351 (by decide +kernel) (by decide +kernel)
theorem fl_7_18 : Cond.fieldLink RX7 18 (jm_T 7 4).1 (jm_T 7 4).2.1 (jm_T 7 4).2.2.1 ∈ jm_gt := jm_in 352 (by decide +kernel) (by decide +kernel)
theorem fl_7_21 : Cond.fieldLink RX7 21 (jm_T 7 5).1 (jm_T 7 5).2.1 (jm_T 7 5).2.2.1 ∈ jm_gt := jm_in 353 (by decide +kernel) (by decide +kernel)
theorem ml_8_83 : Cond.methodLink RX8 83 md_X_settleIn.1 ∈ jm_gt := jm_in 367 (by decide +kernel) (by decide +kernel)
theorem ml_8_271 : Cond.methodLink RX8 271 md_City_measure.1 ∈ jm_gt := jm_in 371 (by decide +kernel) (by decide +kernel)
theorem ml_0_57 : Cond.methodLink RX0 57 md_City_measureFrom.1 ∈ jm_gt := jm_in 375 (by decide +kernel) (by decide +kernel)
theorem ml_0_61 : Cond.methodLink RX0 61 md_Arrays_fill.1 ∈ jm_gt := jm_in 379 (by decide +kernel) (by decide +kernel)
theorem ml_0_67 : Cond.methodLink RX0 67 md_City_bringsNearer.1 ∈ jm_gt := jm_in 382 (by decide +kernel) (by decide +kernel)
theorem ml_8_274 : Cond.methodLink RX8 274 md_Moment_begin.1 ∈ jm_gt := jm_in 386 (by decide +kernel) (by decide +kernel)
theorem ml_5_36 : Cond.methodLink RX5 36 arraycopyName ∈ jm_gt := jm_in 390 (by decide +kernel) (by decide +kernel)
theorem ml_5_45 : Cond.methodLink RX5 45 md_Arrays_fill.1 ∈ jm_gt := jm_in 393 (by decide +kernel) (by decide +kernel)
theorem fl_8_12 : Cond.fieldLink RX8 12 (jm_T 8 0).1 (jm_T 8 0).2.1 (jm_T 8 0).2.2.1 ∈ jm_gt := jm_in 394 (by decide +kernel) (by decide +kernel)
theorem fl_8_16 : Cond.fieldLink RX8 16 (jm_T 8 1).1 (jm_T 8 1).2.1 (jm_T 8 1).2.2.1 ∈ jm_gt := jm_in 395 (by decide +kernel) (by decide +kernel)
theorem fl_8_22 : Cond.fieldLink RX8 22 (jm_T 8 2).1 (jm_T 8 2).2.1 (jm_T 8 2).2.2.1 ∈ jm_gt := jm_in 396 (by decide +kernel) (by decide +kernel)
theorem fl_8_26 : Cond.fieldLink RX8 26 (jm_T 8 3).1 (jm_T 8 3).2.1 (jm_T 8 3).2.2.1 ∈ jm_gt := jm_in 397 (by decide +kernel) (by decide +kernel)
theorem fl_8_90 : Cond.fieldLink RX8 90 (jm_T 8 4).1 (jm_T 8 4).2.1 (jm_T 8 4).2.2.1 ∈ jm_gt := jm_in 398 (by decide +kernel) (by decide +kernel)
theorem fl_8_33 : Cond.fieldLink RX8 33 (jm_T 8 5).1 (jm_T 8 5).2.1 (jm_T 8 5).2.2.1 ∈ jm_gt := jm_in 399 (by decide +kernel) (by decide +kernel)
theorem fl_8_40 : Cond.fieldLink RX8 40 (jm_T 8 6).1 (jm_T 8 6).2.1 (jm_T 8 6).2.2.1 ∈ jm_gt := jm_in 400 (by decide +kernel) (by decide +kernel)
theorem fl_8_44 : Cond.fieldLink RX8 44 (jm_T 8 7).1 (jm_T 8 7).2.1 (jm_T 8 7).2.2.1 ∈ jm_gt := jm_in 401 (by decide +kernel) (by decide +kernel)
theorem fl_8_48 : Cond.fieldLink RX8 48 (jm_T 8 8).1 (jm_T 8 8).2.1 (jm_T 8 8).2.2.1 ∈ jm_gt := jm_in 402 (by decide +kernel) (by decide +kernel)
theorem fl_8_55 : Cond.fieldLink RX8 55 (jm_T 8 9).1 (jm_T 8 9).2.1 (jm_T 8 9).2.2.1 ∈ jm_gt := jm_in 403 (by decide +kernel) (by decide +kernel)
theorem fl_8_62 : Cond.fieldLink RX8 62 (jm_T 8 10).1 (jm_T 8 10).2.1 (jm_T 8 10).2.2.1 ∈ jm_gt := jm_in 404 (by decide +kernel) (by decide +kernel)
theorem fl_8_69 : Cond.fieldLink RX8 69 (jm_T 8 11).1 (jm_T 8 11).2.1 (jm_T 8 11).2.2.1 ∈ jm_gt := jm_in 405 (by decide +kernel) (by decide +kernel)
theorem fl_8_76 : Cond.fieldLink RX8 76 (jm_T 8 12).1 (jm_T 8 12).2.1 (jm_T 8 12).2.2.1 ∈ jm_gt := jm_in 406 (by decide +kernel) (by decide +kernel)
theorem fl_8_80 : Cond.fieldLink RX8 80 (jm_T 8 13).1 (jm_T 8 13).2.1 (jm_T 8 13).2.2.1 ∈ jm_gt := jm_in 407 (by decide +kernel) (by decide +kernel)
theorem fl_8_267 : Cond.fieldLink RX8 267 (jm_T 8 14).1 (jm_T 8 14).2.1 (jm_T 8 14).2.2.1 ∈ jm_gt := jm_in 408 (by decide +kernel) (by decide +kernel)
theorem ml_lw_13 : Cond.methodLink R_lw 13 md_X_type.1 ∈ jm_gt := jm_in 440 (by decide +kernel) (by decide +kernel)
theorem ml_8_86 : Cond.methodLink RX8 86 md_X_within.1 ∈ jm_gt := jm_in 444 (by decide +kernel) (by decide +kernel)
theorem ml_lw_18 : Cond.methodLink R_lw 18 md_X_clear.1 ∈ jm_gt := jm_in 447 (by decide +kernel) (by decide +kernel)
theorem ml_lw_23 : Cond.methodLink R_lw 23 md_X_city.1 ∈ jm_gt := jm_in 451 (by decide +kernel) (by decide +kernel)
theorem ml_8_94 : Cond.methodLink RX8 94 md_CityReader_read.1 ∈ jm_gt := jm_in 455 (by decide +kernel) (by decide +kernel)
theorem ml_1_33 : Cond.methodLink RX1 33 md_City_beAsAtFirst.1 ∈ jm_gt := jm_in 459 (by decide +kernel) (by decide +kernel)
theorem ml_1_38 : Cond.methodLink RX1 38 md_CityReader_nextToken.1 ∈ jm_gt := jm_in 460 (by decide +kernel) (by decide +kernel)
theorem ml_1_116 : Cond.methodLink RX1 116 md_CityReader_isDigit.1 ∈ jm_gt := jm_in 464 (by decide +kernel) (by decide +kernel)
theorem ml_1_120 : Cond.methodLink RX1 120 md_CityReader_isKnown.1 ∈ jm_gt := jm_in 467 (by decide +kernel) (by decide +kernel)
theorem ml_1_44 : Cond.methodLink RX1 44 md_CityReader_readItem.1 ∈ jm_gt := jm_in 470 (by decide +kernel) (by decide +kernel)
theorem ml_1_51 : Cond.methodLink RX1 51 md_CityReader_readRooms.1 ∈ jm_gt := jm_in 474 (by decide +kernel) (by decide +kernel)
theorem ml_1_66 : Cond.methodLink RX1 66 md_CityReader_refuse.1 ∈ jm_gt := jm_in 478 (by decide +kernel) (by decide +kernel)
theorem ml_1_69 : Cond.methodLink RX1 69 md_CityReader_needNumber.1 ∈ jm_gt := jm_in 482 (by decide +kernel) (by decide +kernel)
theorem ml_1_54 : Cond.methodLink RX1 54 md_CityReader_readSteps.1 ∈ jm_gt := jm_in 486 (by decide +kernel) (by decide +kernel)
theorem ml_1_57 : Cond.methodLink RX1 57 md_CityReader_readDoor.1 ∈ jm_gt := jm_in 490 (by decide +kernel) (by decide +kernel)
theorem ml_1_60 : Cond.methodLink RX1 60 md_CityReader_readPerson.1 ∈ jm_gt := jm_in 494 (by decide +kernel) (by decide +kernel)
theorem ml_1_63 : Cond.methodLink RX1 63 md_CityReader_readThing.1 ∈ jm_gt := jm_in 498 (by decide +kernel) (by decide +kernel)
theorem ml_1_48 : Cond.methodLink RX1 48 md_CityReader_needEnd.1 ∈ jm_gt := jm_in 502 (by decide +kernel) (by decide +kernel)
theorem ml_lw_27 : Cond.methodLink R_lw 27 md_X_door.1 ∈ jm_gt := jm_in 506 (by decide +kernel) (by decide +kernel)
theorem ml_lw_32 : Cond.methodLink R_lw 32 md_X_person.1 ∈ jm_gt := jm_in 510 (by decide +kernel) (by decide +kernel)
theorem ml_8_116 : Cond.methodLink RX8 116 md_X_isPerson.1 ∈ jm_gt := jm_in 514 (by decide +kernel) (by decide +kernel)
theorem ml_lw_36 : Cond.methodLink R_lw 36 md_X_thing.1 ∈ jm_gt := jm_in 518 (by decide +kernel) (by decide +kernel)
theorem ml_8_132 : Cond.methodLink RX8 132 md_X_isThing.1 ∈ jm_gt := jm_in 522 (by decide +kernel) (by decide +kernel)
theorem ml_8_135 : Cond.methodLink RX8 135 md_X_roomOfThing.1 ∈ jm_gt := jm_in 526 (by decide +kernel) (by decide +kernel)
theorem ml_8_277 : Cond.methodLink RX8 277 md_City_roomOfSpot.1 ∈ jm_gt := jm_in 530 (by decide +kernel) (by decide +kernel)
theorem ml_lw_40 : Cond.methodLink R_lw 40 md_X_now.1 ∈ jm_gt := jm_in 534 (by decide +kernel) (by decide +kernel)
theorem ml_8_148 : Cond.methodLink RX8 148 md_X_upPeople.1 ∈ jm_gt := jm_in 538 (by decide +kernel) (by decide +kernel)
theorem ml_8_170 : Cond.methodLink RX8 170 md_X_isUp.1 ∈ jm_gt := jm_in 542 (by decide +kernel) (by decide +kernel)
theorem ml_lw_44 : Cond.methodLink R_lw 44 md_X_second.1 ∈ jm_gt := jm_in 546 (by decide +kernel) (by decide +kernel)
theorem ml_8_152 : Cond.methodLink RX8 152 md_History_remember.1 ∈ jm_gt := jm_in 550 (by decide +kernel) (by decide +kernel)
theorem ml_4_22 : Cond.methodLink RX4 22 md_Moment_copyFrom.1 ∈ jm_gt := jm_in 554 (by decide +kernel) (by decide +kernel)
theorem ml_4_29 : Cond.methodLink RX4 29 Lib.Math.min.name ∈ jm_gt := jm_in 558 (by decide +kernel) (by decide +kernel)
theorem ml_8_156 : Cond.methodLink RX8 156 md_Moment_goBy.1 ∈ jm_gt := jm_in 561 (by decide +kernel) (by decide +kernel)
theorem ml_5_54 : Cond.methodLink RX5 54 md_City_spotIn.1 ∈ jm_gt := jm_in 565 (by decide +kernel) (by decide +kernel)
theorem ml_lw_48 : Cond.methodLink R_lw 48 md_X_press.1 ∈ jm_gt := jm_in 569 (by decide +kernel) (by decide +kernel)
theorem ml_lw_52 : Cond.methodLink R_lw 52 md_X_carry.1 ∈ jm_gt := jm_in 573 (by decide +kernel) (by decide +kernel)
theorem ml_8_163 : Cond.methodLink RX8 163 md_X_isRoom.1 ∈ jm_gt := jm_in 577 (by decide +kernel) (by decide +kernel)
theorem ml_8_166 : Cond.methodLink RX8 166 md_City_stepsToCarry.1 ∈ jm_gt := jm_in 581 (by decide +kernel) (by decide +kernel)
theorem ml_8_173 : Cond.methodLink RX8 173 md_City_spotOfRoom.1 ∈ jm_gt := jm_in 585 (by decide +kernel) (by decide +kernel)
theorem ml_8_177 : Cond.methodLink RX8 177 md_X_moveTo.1 ∈ jm_gt := jm_in 589 (by decide +kernel) (by decide +kernel)
theorem ml_lw_57 : Cond.methodLink R_lw 57 md_X_walk.1 ∈ jm_gt := jm_in 593 (by decide +kernel) (by decide +kernel)
theorem ml_lw_61 : Cond.methodLink R_lw 61 md_X_undo.1 ∈ jm_gt := jm_in 597 (by decide +kernel) (by decide +kernel)
theorem ml_8_184 : Cond.methodLink RX8 184 md_History_recallInto.1 ∈ jm_gt := jm_in 601 (by decide +kernel) (by decide +kernel)
theorem ml_lw_65 : Cond.methodLink R_lw 65 md_X_where.1 ∈ jm_gt := jm_in 605 (by decide +kernel) (by decide +kernel)
theorem ml_8_187 : Cond.methodLink RX8 187 md_City_roomIn.1 ∈ jm_gt := jm_in 609 (by decide +kernel) (by decide +kernel)
theorem ml_0_71 : Cond.methodLink RX0 71 md_City_spotIn.1 ∈ jm_gt := jm_in 613 (by decide +kernel) (by decide +kernel)
theorem ml_0_75 : Cond.methodLink RX0 75 md_City_roomOfSpot.1 ∈ jm_gt := jm_in 614 (by decide +kernel) (by decide +kernel)
theorem ml_lw_69 : Cond.methodLink R_lw 69 md_X_upon.1 ∈ jm_gt := jm_in 615 (by decide +kernel) (by decide +kernel)
theorem ml_lw_73 : Cond.methodLink R_lw 73 md_X_reach.1 ∈ jm_gt := jm_in 619 (by decide +kernel) (by decide +kernel)
theorem ml_lw_77 : Cond.methodLink R_lw 77 md_X_presses.1 ∈ jm_gt := jm_in 623 (by decide +kernel) (by decide +kernel)
theorem ml_8_193 : Cond.methodLink RX8 193 md_PressTable_fill.1 ∈ jm_gt := jm_in 627 (by decide +kernel) (by decide +kernel)
theorem ml_6_35 : Cond.methodLink RX6 35 md_Moment_rested.1 ∈ jm_gt := jm_in 631 (by decide +kernel) (by decide +kernel)
theorem ml_6_43 : Cond.methodLink RX6 43 md_PressTable_fillCarried.1 ∈ jm_gt := jm_in 635 (by decide +kernel) (by decide +kernel)
theorem ml_6_84 : Cond.methodLink RX6 84 md_PressTable_isSpot.1 ∈ jm_gt := jm_in 639 (by decide +kernel) (by decide +kernel)
theorem ml_6_88 : Cond.methodLink RX6 88 md_City_roomOfSpot.1 ∈ jm_gt := jm_in 643 (by decide +kernel) (by decide +kernel)
theorem ml_6_91 : Cond.methodLink RX6 91 md_PressTable_spotsInReach.1 ∈ jm_gt := jm_in 644 (by decide +kernel) (by decide +kernel)
theorem ml_6_100 : Cond.methodLink RX6 100 md_City_stepsToCarry.1 ∈ jm_gt := jm_in 648 (by decide +kernel) (by decide +kernel)
theorem ml_6_106 : Cond.methodLink RX6 106 md_City_spotOfRoom.1 ∈ jm_gt := jm_in 649 (by decide +kernel) (by decide +kernel)
theorem ml_6_46 : Cond.methodLink RX6 46 md_PressTable_spotsInRoom.1 ∈ jm_gt := jm_in 650 (by decide +kernel) (by decide +kernel)
theorem ml_6_50 : Cond.methodLink RX6 50 md_PressTable_fillRow.1 ∈ jm_gt := jm_in 654 (by decide +kernel) (by decide +kernel)
theorem ml_6_74 : Cond.methodLink RX6 74 md_PressTable_carriedFrom.1 ∈ jm_gt := jm_in 658 (by decide +kernel) (by decide +kernel)
theorem ml_6_77 : Cond.methodLink RX6 77 md_PressTable_aSecondLater.1 ∈ jm_gt := jm_in 662 (by decide +kernel) (by decide +kernel)
theorem ml_6_80 : Cond.methodLink RX6 80 md_City_spotIn.1 ∈ jm_gt := jm_in 666 (by decide +kernel) (by decide +kernel)
theorem ml_8_197 : Cond.methodLink RX8 197 md_PressTable_fewest.1 ∈ jm_gt := jm_in 667 (by decide +kernel) (by decide +kernel)
theorem ml_6_54 : Cond.methodLink RX6 54 md_Integer_bitCount.1 ∈ jm_gt := jm_in 671 (by decide +kernel) (by decide +kernel)
theorem kc_ig_265 : Cond.constant R_ig 265 (1431655765) ∈ jm_gt := jm_in 674 (by decide +kernel) (by decide +kernel)
theorem kc_ig_266 : Cond.constant R_ig 266 (858993459) ∈ jm_gt := jm_in 675 (by decide +kernel) (by decide +kernel)
theorem kc_ig_267 : Cond.constant R_ig 267 (252645135) ∈ jm_gt := jm_in 676 (by decide +kernel) (by decide +kernel)
theorem ml_6_59 : Cond.methodLink RX6 59 Lib.Math.min.name ∈ jm_gt := jm_in 677 (by decide +kernel) (by decide +kernel)
theorem ml_8_200 : Cond.methodLink RX8 200 md_PressTable_alone.1 ∈ jm_gt := jm_in 678 (by decide +kernel) (by decide +kernel)
theorem ml_lw_82 : Cond.methodLink R_lw 82 md_X_found.1 ∈ jm_gt := jm_in 682 (by decide +kernel) (by decide +kernel)
theorem ml_8_203 : Cond.methodLink RX8 203 md_Finds_note.1 ∈ jm_gt := jm_in 686 (by decide +kernel) (by decide +kernel)
theorem ml_lw_86 : Cond.methodLink R_lw 86 md_X_forget.1 ∈ jm_gt := jm_in 690 (by decide +kernel) (by decide +kernel)
theorem ml_lw_90 : Cond.methodLink R_lw 90 md_X_doneBy.1 ∈ jm_gt := jm_in 694 (by decide +kernel) (by decide +kernel)
theorem ml_8_207 : Cond.methodLink RX8 207 md_Moment_rested.1 ∈ jm_gt := jm_in 698 (by decide +kernel) (by decide +kernel)
theorem ml_8_214 : Cond.methodLink RX8 214 md_DoneSearch_couldHave.1 ∈ jm_gt := jm_in 699 (by decide +kernel) (by decide +kernel)
theorem ml_2_18 : Cond.methodLink RX2 18 md_Arrays_fill.1 ∈ jm_gt := jm_in 703 (by decide +kernel) (by decide +kernel)
theorem ml_2_38 : Cond.methodLink RX2 38 md_Finds_tellOf.1 ∈ jm_gt := jm_in 704 (by decide +kernel) (by decide +kernel)
theorem ml_2_44 : Cond.methodLink RX2 44 md_DoneSearch_settleThing.1 ∈ jm_gt := jm_in 708 (by decide +kernel) (by decide +kernel)
theorem ml_2_54 : Cond.methodLink RX2 54 md_Finds_holdFrom.1 ∈ jm_gt := jm_in 712 (by decide +kernel) (by decide +kernel)
theorem ml_3_25 : Cond.methodLink RX3 25 md_City_roomIn.1 ∈ jm_gt := jm_in 716 (by decide +kernel) (by decide +kernel)
theorem ml_2_58 : Cond.methodLink RX2 58 arraycopyName ∈ jm_gt := jm_in 717 (by decide +kernel) (by decide +kernel)
theorem ml_2_64 : Cond.methodLink RX2 64 md_City_roomOfSpot.1 ∈ jm_gt := jm_in 718 (by decide +kernel) (by decide +kernel)
theorem ml_2_68 : Cond.methodLink RX2 68 md_City_spotOfRoom.1 ∈ jm_gt := jm_in 719 (by decide +kernel) (by decide +kernel)
theorem ml_2_71 : Cond.methodLink RX2 71 md_DoneSearch_mostLeft.1 ∈ jm_gt := jm_in 720 (by decide +kernel) (by decide +kernel)
theorem ml_2_80 : Cond.methodLink RX2 80 md_City_stepsToCarry.1 ∈ jm_gt := jm_in 724 (by decide +kernel) (by decide +kernel)
theorem ml_2_75 : Cond.methodLink RX2 75 Lib.Math.max.name ∈ jm_gt := jm_in 725 (by decide +kernel) (by decide +kernel)
theorem ml_lw_94 : Cond.methodLink R_lw 94 md_X_guard.1 ∈ jm_gt := jm_in 728 (by decide +kernel) (by decide +kernel)
theorem ml_8_218 : Cond.methodLink RX8 218 md_City_openDoors.1 ∈ jm_gt := jm_in 732 (by decide +kernel) (by decide +kernel)
theorem ml_8_221 : Cond.methodLink RX8 221 md_Integer_bitCount.1 ∈ jm_gt := jm_in 736 (by decide +kernel) (by decide +kernel)
theorem ml_8_226 : Cond.methodLink RX8 226 md_X_anybodyCarries.1 ∈ jm_gt := jm_in 737 (by decide +kernel) (by decide +kernel)
theorem ml_8_280 : Cond.methodLink RX8 280 md_City_measureFrom.1 ∈ jm_gt := jm_in 741 (by decide +kernel) (by decide +kernel)
theorem ml_lw_98 : Cond.methodLink R_lw 98 md_X_taking.1 ∈ jm_gt := jm_in 742 (by decide +kernel) (by decide +kernel)
theorem kc_8_229 : Cond.constant RX8 229 (-1000000) ∈ jm_gt := jm_in 746 (by decide +kernel) (by decide +kernel)
theorem ml_8_230 : Cond.methodLink RX8 230 md_TakingGame_play.1 ∈ jm_gt := jm_in 747 (by decide +kernel) (by decide +kernel)
theorem ml_7_43 : Cond.methodLink RX7 43 md_City_roomOfSpot.1 ∈ jm_gt := jm_in 751 (by decide +kernel) (by decide +kernel)
theorem ml_7_51 : Cond.methodLink RX7 51 md_Arrays_fill.1 ∈ jm_gt := jm_in 752 (by decide +kernel) (by decide +kernel)
theorem ml_7_57 : Cond.methodLink RX7 57 md_TakingGame_lead.1 ∈ jm_gt := jm_in 753 (by decide +kernel) (by decide +kernel)
theorem kc_7_61 : Cond.constant RX7 61 (-1000000) ∈ jm_gt := jm_in 756 (by decide +kernel) (by decide +kernel)
theorem ml_7_62 : Cond.methodLink RX7 62 md_TakingGame_canTake.1 ∈ jm_gt := jm_in 757 (by decide +kernel) (by decide +kernel)
theorem ml_7_66 : Cond.methodLink RX7 66 md_TakingGame_leadByTaking.1 ∈ jm_gt := jm_in 761 (by decide +kernel) (by decide +kernel)
theorem ml_7_70 : Cond.methodLink RX7 70 md_TakingGame_better.1 ∈ jm_gt := jm_in 764 (by decide +kernel) (by decide +kernel)
theorem ml_7_77 : Cond.methodLink RX7 77 Lib.Math.max.name ∈ jm_gt := jm_in 767 (by decide +kernel) (by decide +kernel)
theorem ml_7_82 : Cond.methodLink RX7 82 Lib.Math.min.name ∈ jm_gt := jm_in 768 (by decide +kernel) (by decide +kernel)
theorem ml_7_74 : Cond.methodLink RX7 74 md_TakingGame_leadByEnding.1 ∈ jm_gt := jm_in 769 (by decide +kernel) (by decide +kernel)
theorem ml_lw_102 : Cond.methodLink R_lw 102 md_X_odds.1 ∈ jm_gt := jm_in 772 (by decide +kernel) (by decide +kernel)
theorem ml_8_234 : Cond.methodLink RX8 234 md_X_choose.1 ∈ jm_gt := jm_in 776 (by decide +kernel) (by decide +kernel)
theorem ml_8_237 : Cond.methodLink RX8 237 md_X_power.1 ∈ jm_gt := jm_in 779 (by decide +kernel) (by decide +kernel)
theorem ml_8_240 : Cond.methodLink RX8 240 md_X_greatestCommonDivisor.1 ∈ jm_gt := jm_in 782 (by decide +kernel) (by decide +kernel)
theorem ml_lw_106 : Cond.methodLink R_lw 106 md_X_worth.1 ∈ jm_gt := jm_in 785 (by decide +kernel) (by decide +kernel)
theorem ml_lw_110 : Cond.methodLink R_lw 110 md_X_rate.1 ∈ jm_gt := jm_in 789 (by decide +kernel) (by decide +kernel)
theorem ml_8_246 : Cond.methodLink RX8 246 md_X_ratePerson.1 ∈ jm_gt := jm_in 793 (by decide +kernel) (by decide +kernel)
theorem ml_8_249 : Cond.methodLink RX8 249 md_X_rateBarber.1 ∈ jm_gt := jm_in 797 (by decide +kernel) (by decide +kernel)
theorem kl_8_284 : Cond.constantLong RX8 284 (10) ∈ jm_gt := jm_in 801 (by decide +kernel) (by decide +kernel)
theorem ml_8_252 : Cond.methodLink RX8 252 md_X_rateThief.1 ∈ jm_gt := jm_in 802 (by decide +kernel) (by decide +kernel)
theorem kl_8_286 : Cond.constantLong RX8 286 (100) ∈ jm_gt := jm_in 806 (by decide +kernel) (by decide +kernel)
theorem ml_8_255 : Cond.methodLink RX8 255 md_X_rateGrey.1 ∈ jm_gt := jm_in 807 (by decide +kernel) (by decide +kernel)
theorem kl_8_288 : Cond.constantLong RX8 288 (1000) ∈ jm_gt := jm_in 811 (by decide +kernel) (by decide +kernel)
theorem ml_8_258 : Cond.methodLink RX8 258 md_X_rateTenth.1 ∈ jm_gt := jm_in 812 (by decide +kernel) (by decide +kernel)
theorem kl_8_290 : Cond.constantLong RX8 290 (10000) ∈ jm_gt := jm_in 816 (by decide +kernel) (by decide +kernel)
theorem ml_8_261 : Cond.methodLink RX8 261 md_X_rateChild.1 ∈ jm_gt := jm_in 817 (by decide +kernel) (by decide +kernel)
theorem kl_8_292 : Cond.constantLong RX8 292 (100000) ∈ jm_gt := jm_in 821 (by decide +kernel) (by decide +kernel)
theorem ml_lw_114 : Cond.methodLink R_lw 114 md_X_keep.1 ∈ jm_gt := jm_in 822 (by decide +kernel) (by decide +kernel)
theorem ml_8_264 : Cond.methodLink RX8 264 md_Moment_copyFrom.1 ∈ jm_gt := jm_in 826 (by decide +kernel) (by decide +kernel)
theorem ml_lw_118 : Cond.methodLink R_lw 118 md_X_back.1 ∈ jm_gt := jm_in 827 (by decide +kernel) (by decide +kernel)
theorem ml_lw_122 : Cond.methodLink R_lw 122 md_X_count.1 ∈ jm_gt := jm_in 831 (by decide +kernel) (by decide +kernel)
theorem ml_lw_126 : Cond.methodLink R_lw 126 md_X_trace.1 ∈ jm_gt := jm_in 835 (by decide +kernel) (by decide +kernel)
theorem cl_lw_10 : Cond.classLink R_lw 10 (jm_cn 9) ∈ jm_gt := jm_in 839 (by decide +kernel) (by decide +kernel)
theorem ml_lw_12 : Cond.methodLink R_lw 12 md_M_init.1 ∈ jm_gt := jm_in 841 (by decide +kernel) (by decide +kernel)
theorem ml_9_1 : Cond.methodLink RX9 1 Lib.objectInit ∈ jm_gt := jm_in 844 (by decide +kernel) (by decide +kernel)
theorem fl_9_7 : Cond.fieldLink RX9 7 (jm_T 9 0).1 (jm_T 9 0).2.1 (jm_T 9 0).2.2.1 ∈ jm_gt := jm_in 845 (by decide +kernel) (by decide +kernel)
theorem fl_9_155 : Cond.fieldLink RX9 155 (jm_T 9 1).1 (jm_T 9 1).2.1 (jm_T 9 1).2.2.1 ∈ jm_gt := jm_in 846 (by decide +kernel) (by decide +kernel)
theorem fl_9_13 : Cond.fieldLink RX9 13 (jm_T 9 2).1 (jm_T 9 2).2.1 (jm_T 9 2).2.2.1 ∈ jm_gt := jm_in 847 (by decide +kernel) (by decide +kernel)
theorem fl_9_17 : Cond.fieldLink RX9 17 (jm_T 9 3).1 (jm_T 9 3).2.1 (jm_T 9 3).2.2.1 ∈ jm_gt := jm_in 848 (by decide +kernel) (by decide +kernel)
theorem fl_9_82 : Cond.fieldLink RX9 82 (jm_T 9 4).1 (jm_T 9 4).2.1 (jm_T 9 4).2.2.1 ∈ jm_gt := jm_in 849 (by decide +kernel) (by decide +kernel)
theorem fl_9_85 : Cond.fieldLink RX9 85 (jm_T 9 5).1 (jm_T 9 5).2.1 (jm_T 9 5).2.2.1 ∈ jm_gt := jm_in 850 (by decide +kernel) (by decide +kernel)
theorem fl_9_20 : Cond.fieldLink RX9 20 (jm_T 9 6).1 (jm_T 9 6).2.1 (jm_T 9 6).2.2.1 ∈ jm_gt := jm_in 851 (by decide +kernel) (by decide +kernel)
theorem fl_9_23 : Cond.fieldLink RX9 23 (jm_T 9 7).1 (jm_T 9 7).2.1 (jm_T 9 7).2.2.1 ∈ jm_gt := jm_in 852 (by decide +kernel) (by decide +kernel)
theorem fl_9_26 : Cond.fieldLink RX9 26 (jm_T 9 8).1 (jm_T 9 8).2.1 (jm_T 9 8).2.2.1 ∈ jm_gt := jm_in 853 (by decide +kernel) (by decide +kernel)
theorem fl_9_29 : Cond.fieldLink RX9 29 (jm_T 9 9).1 (jm_T 9 9).2.1 (jm_T 9 9).2.2.1 ∈ jm_gt := jm_in 854 (by decide +kernel) (by decide +kernel)
theorem fl_9_158 : Cond.fieldLink RX9 158 (jm_T 9 10).1 (jm_T 9 10).2.1 (jm_T 9 10).2.2.1 ∈ jm_gt := jm_in 855 (by decide +kernel) (by decide +kernel)
theorem fl_9_32 : Cond.fieldLink RX9 32 (jm_T 9 11).1 (jm_T 9 11).2.1 (jm_T 9 11).2.2.1 ∈ jm_gt := jm_in 856 (by decide +kernel) (by decide +kernel)
theorem fl_9_35 : Cond.fieldLink RX9 35 (jm_T 9 12).1 (jm_T 9 12).2.1 (jm_T 9 12).2.2.1 ∈ jm_gt := jm_in 857 (by decide +kernel) (by decide +kernel)
theorem fl_9_161 : Cond.fieldLink RX9 161 (jm_T 9 13).1 (jm_T 9 13).2.1 (jm_T 9 13).2.2.1 ∈ jm_gt := jm_in 858 (by decide +kernel) (by decide +kernel)
theorem fl_9_39 : Cond.fieldLink RX9 39 (jm_T 9 14).1 (jm_T 9 14).2.1 (jm_T 9 14).2.2.1 ∈ jm_gt := jm_in 859 (by decide +kernel) (by decide +kernel)
theorem fl_9_261 : Cond.fieldLink RX9 261 (jm_T 9 15).1 (jm_T 9 15).2.1 (jm_T 9 15).2.2.1 ∈ jm_gt := jm_in 860 (by decide +kernel) (by decide +kernel)
theorem fl_9_42 : Cond.fieldLink RX9 42 (jm_T 9 16).1 (jm_T 9 16).2.1 (jm_T 9 16).2.2.1 ∈ jm_gt := jm_in 861 (by decide +kernel) (by decide +kernel)
theorem fl_9_88 : Cond.fieldLink RX9 88 (jm_T 9 17).1 (jm_T 9 17).2.1 (jm_T 9 17).2.2.1 ∈ jm_gt := jm_in 862 (by decide +kernel) (by decide +kernel)
theorem fl_9_91 : Cond.fieldLink RX9 91 (jm_T 9 18).1 (jm_T 9 18).2.1 (jm_T 9 18).2.2.1 ∈ jm_gt := jm_in 863 (by decide +kernel) (by decide +kernel)
theorem fl_9_98 : Cond.fieldLink RX9 98 (jm_T 9 19).1 (jm_T 9 19).2.1 (jm_T 9 19).2.2.1 ∈ jm_gt := jm_in 864 (by decide +kernel) (by decide +kernel)
theorem fl_9_101 : Cond.fieldLink RX9 101 (jm_T 9 20).1 (jm_T 9 20).2.1 (jm_T 9 20).2.2.1 ∈ jm_gt := jm_in 865 (by decide +kernel) (by decide +kernel)
theorem fl_9_104 : Cond.fieldLink RX9 104 (jm_T 9 21).1 (jm_T 9 21).2.1 (jm_T 9 21).2.2.1 ∈ jm_gt := jm_in 866 (by decide +kernel) (by decide +kernel)
theorem fl_9_107 : Cond.fieldLink RX9 107 (jm_T 9 22).1 (jm_T 9 22).2.1 (jm_T 9 22).2.2.1 ∈ jm_gt := jm_in 867 (by decide +kernel) (by decide +kernel)
theorem fl_9_45 : Cond.fieldLink RX9 45 (jm_T 9 23).1 (jm_T 9 23).2.1 (jm_T 9 23).2.2.1 ∈ jm_gt := jm_in 868 (by decide +kernel) (by decide +kernel)
theorem fl_9_122 : Cond.fieldLink RX9 122 (jm_T 9 24).1 (jm_T 9 24).2.1 (jm_T 9 24).2.2.1 ∈ jm_gt := jm_in 869 (by decide +kernel) (by decide +kernel)
theorem fl_9_125 : Cond.fieldLink RX9 125 (jm_T 9 25).1 (jm_T 9 25).2.1 (jm_T 9 25).2.2.1 ∈ jm_gt := jm_in 870 (by decide +kernel) (by decide +kernel)
theorem fl_9_48 : Cond.fieldLink RX9 48 (jm_T 9 26).1 (jm_T 9 26).2.1 (jm_T 9 26).2.2.1 ∈ jm_gt := jm_in 871 (by decide +kernel) (by decide +kernel)
theorem fl_9_128 : Cond.fieldLink RX9 128 (jm_T 9 27).1 (jm_T 9 27).2.1 (jm_T 9 27).2.2.1 ∈ jm_gt := jm_in 872 (by decide +kernel) (by decide +kernel)
theorem fl_9_51 : Cond.fieldLink RX9 51 (jm_T 9 28).1 (jm_T 9 28).2.1 (jm_T 9 28).2.2.1 ∈ jm_gt := jm_in 873 (by decide +kernel) (by decide +kernel)
theorem fl_9_131 : Cond.fieldLink RX9 131 (jm_T 9 29).1 (jm_T 9 29).2.1 (jm_T 9 29).2.2.1 ∈ jm_gt := jm_in 874 (by decide +kernel) (by decide +kernel)
theorem fl_9_54 : Cond.fieldLink RX9 54 (jm_T 9 30).1 (jm_T 9 30).2.1 (jm_T 9 30).2.2.1 ∈ jm_gt := jm_in 875 (by decide +kernel) (by decide +kernel)
theorem fl_9_57 : Cond.fieldLink RX9 57 (jm_T 9 31).1 (jm_T 9 31).2.1 (jm_T 9 31).2.2.1 ∈ jm_gt := jm_in 876 (by decide +kernel) (by decide +kernel)
theorem fl_9_60 : Cond.fieldLink RX9 60 (jm_T 9 32).1 (jm_T 9 32).2.1 (jm_T 9 32).2.2.1 ∈ jm_gt := jm_in 877 (by decide +kernel) (by decide +kernel)
theorem fl_9_63 : Cond.fieldLink RX9 63 (jm_T 9 33).1 (jm_T 9 33).2.1 (jm_T 9 33).2.2.1 ∈ jm_gt := jm_in 878 (by decide +kernel) (by decide +kernel)
theorem fl_9_66 : Cond.fieldLink RX9 66 (jm_T 9 34).1 (jm_T 9 34).2.1 (jm_T 9 34).2.2.1 ∈ jm_gt := jm_in 879 (by decide +kernel) (by decide +kernel)
theorem fl_9_215 : Cond.fieldLink RX9 215 (jm_T 9 35).1 (jm_T 9 35).2.1 (jm_T 9 35).2.2.1 ∈ jm_gt := jm_in 880 (by decide +kernel) (by decide +kernel)
theorem fl_9_69 : Cond.fieldLink RX9 69 (jm_T 9 36).1 (jm_T 9 36).2.1 (jm_T 9 36).2.2.1 ∈ jm_gt := jm_in 881 (by decide +kernel) (by decide +kernel)
theorem fl_9_72 : Cond.fieldLink RX9 72 (jm_T 9 37).1 (jm_T 9 37).2.1 (jm_T 9 37).2.2.1 ∈ jm_gt := jm_in 882 (by decide +kernel) (by decide +kernel)
theorem fl_9_75 : Cond.fieldLink RX9 75 (jm_T 9 38).1 (jm_T 9 38).2.1 (jm_T 9 38).2.2.1 ∈ jm_gt := jm_in 883 (by decide +kernel) (by decide +kernel)
theorem ml_lw_17 : Cond.methodLink R_lw 17 md_M_type.1 ∈ jm_gt := jm_in 963 (by decide +kernel) (by decide +kernel)
theorem ml_9_78 : Cond.methodLink RX9 78 md_M_in.1 ∈ jm_gt := jm_in 967 (by decide +kernel) (by decide +kernel)
theorem ml_lw_22 : Cond.methodLink R_lw 22 md_M_clear.1 ∈ jm_gt := jm_in 970 (by decide +kernel) (by decide +kernel)
theorem ml_lw_26 : Cond.methodLink R_lw 26 md_M_city.1 ∈ jm_gt := jm_in 974 (by decide +kernel) (by decide +kernel)
theorem ml_9_111 : Cond.methodLink RX9 111 md_M_next.1 ∈ jm_gt := jm_in 978 (by decide +kernel) (by decide +kernel)
theorem ml_9_94 : Cond.methodLink RX9 94 md_M_letterAt.1 ∈ jm_gt := jm_in 982 (by decide +kernel) (by decide +kernel)
theorem ml_9_149 : Cond.methodLink RX9 149 md_M_readItem.1 ∈ jm_gt := jm_in 986 (by decide +kernel) (by decide +kernel)
theorem ml_9_134 : Cond.methodLink RX9 134 md_M_readRooms.1 ∈ jm_gt := jm_in 990 (by decide +kernel) (by decide +kernel)
theorem ml_9_114 : Cond.methodLink RX9 114 md_M_must.1 ∈ jm_gt := jm_in 994 (by decide +kernel) (by decide +kernel)
theorem ml_9_118 : Cond.methodLink RX9 118 md_M_readInto.1 ∈ jm_gt := jm_in 998 (by decide +kernel) (by decide +kernel)
theorem ml_9_137 : Cond.methodLink RX9 137 md_M_readSteps.1 ∈ jm_gt := jm_in 1002 (by decide +kernel) (by decide +kernel)
theorem ml_9_140 : Cond.methodLink RX9 140 md_M_readDoor.1 ∈ jm_gt := jm_in 1006 (by decide +kernel) (by decide +kernel)
theorem ml_9_143 : Cond.methodLink RX9 143 md_M_readPerson.1 ∈ jm_gt := jm_in 1010 (by decide +kernel) (by decide +kernel)
theorem ml_9_146 : Cond.methodLink RX9 146 md_M_readThing.1 ∈ jm_gt := jm_in 1014 (by decide +kernel) (by decide +kernel)
theorem ml_9_152 : Cond.methodLink RX9 152 md_M_settles.1 ∈ jm_gt := jm_in 1018 (by decide +kernel) (by decide +kernel)
theorem ml_lw_31 : Cond.methodLink R_lw 31 md_M_door.1 ∈ jm_gt := jm_in 1022 (by decide +kernel) (by decide +kernel)
theorem ml_lw_35 : Cond.methodLink R_lw 35 md_M_person.1 ∈ jm_gt := jm_in 1026 (by decide +kernel) (by decide +kernel)
theorem ml_9_164 : Cond.methodLink RX9 164 md_M_isPerson.1 ∈ jm_gt := jm_in 1030 (by decide +kernel) (by decide +kernel)
theorem ml_9_168 : Cond.methodLink RX9 168 md_M_has.1 ∈ jm_gt := jm_in 1034 (by decide +kernel) (by decide +kernel)
theorem ml_lw_39 : Cond.methodLink R_lw 39 md_M_thing.1 ∈ jm_gt := jm_in 1037 (by decide +kernel) (by decide +kernel)
theorem ml_9_172 : Cond.methodLink RX9 172 md_M_isThing.1 ∈ jm_gt := jm_in 1041 (by decide +kernel) (by decide +kernel)
theorem ml_lw_43 : Cond.methodLink R_lw 43 md_M_now.1 ∈ jm_gt := jm_in 1045 (by decide +kernel) (by decide +kernel)
theorem ml_lw_47 : Cond.methodLink R_lw 47 md_M_second.1 ∈ jm_gt := jm_in 1049 (by decide +kernel) (by decide +kernel)
theorem ml_9_175 : Cond.methodLink RX9 175 md_M_remembers.1 ∈ jm_gt := jm_in 1053 (by decide +kernel) (by decide +kernel)
theorem ml_lw_51 : Cond.methodLink R_lw 51 md_M_press.1 ∈ jm_gt := jm_in 1057 (by decide +kernel) (by decide +kernel)
theorem ml_lw_56 : Cond.methodLink R_lw 56 md_M_carry.1 ∈ jm_gt := jm_in 1061 (by decide +kernel) (by decide +kernel)
theorem ml_9_178 : Cond.methodLink RX9 178 md_M_isRoom.1 ∈ jm_gt := jm_in 1065 (by decide +kernel) (by decide +kernel)
theorem ml_9_181 : Cond.methodLink RX9 181 md_M_findFar.1 ∈ jm_gt := jm_in 1069 (by decide +kernel) (by decide +kernel)
theorem ml_9_185 : Cond.methodLink RX9 185 md_M_by.1 ∈ jm_gt := jm_in 1073 (by decide +kernel) (by decide +kernel)
theorem ml_9_189 : Cond.methodLink RX9 189 md_M_mayGo.1 ∈ jm_gt := jm_in 1077 (by decide +kernel) (by decide +kernel)
theorem ml_9_192 : Cond.methodLink RX9 192 md_M_placeIn.1 ∈ jm_gt := jm_in 1081 (by decide +kernel) (by decide +kernel)
theorem ml_lw_60 : Cond.methodLink R_lw 60 md_M_walk.1 ∈ jm_gt := jm_in 1085 (by decide +kernel) (by decide +kernel)
theorem ml_lw_64 : Cond.methodLink R_lw 64 md_M_undo.1 ∈ jm_gt := jm_in 1089 (by decide +kernel) (by decide +kernel)
theorem ml_lw_68 : Cond.methodLink R_lw 68 md_M_where.1 ∈ jm_gt := jm_in 1093 (by decide +kernel) (by decide +kernel)
theorem ml_9_205 : Cond.methodLink RX9 205 md_M_roomIn.1 ∈ jm_gt := jm_in 1097 (by decide +kernel) (by decide +kernel)
theorem ml_9_196 : Cond.methodLink RX9 196 md_M_isNow.1 ∈ jm_gt := jm_in 1101 (by decide +kernel) (by decide +kernel)
theorem ml_9_199 : Cond.methodLink RX9 199 md_M_later.1 ∈ jm_gt := jm_in 1105 (by decide +kernel) (by decide +kernel)
theorem ml_9_202 : Cond.methodLink RX9 202 md_M_roomOf.1 ∈ jm_gt := jm_in 1109 (by decide +kernel) (by decide +kernel)
theorem ml_lw_72 : Cond.methodLink R_lw 72 md_M_upon.1 ∈ jm_gt := jm_in 1113 (by decide +kernel) (by decide +kernel)
theorem ml_lw_76 : Cond.methodLink R_lw 76 md_M_reach.1 ∈ jm_gt := jm_in 1117 (by decide +kernel) (by decide +kernel)
theorem ml_lw_81 : Cond.methodLink R_lw 81 md_M_presses.1 ∈ jm_gt := jm_in 1121 (by decide +kernel) (by decide +kernel)
theorem ml_9_228 : Cond.methodLink RX9 228 md_M_mayPress.1 ∈ jm_gt := jm_in 1125 (by decide +kernel) (by decide +kernel)
theorem ml_9_232 : Cond.methodLink RX9 232 md_M_fewest.1 ∈ jm_gt := jm_in 1129 (by decide +kernel) (by decide +kernel)
theorem ml_9_221 : Cond.methodLink RX9 221 md_M_pressesMore.1 ∈ jm_gt := jm_in 1133 (by decide +kernel) (by decide +kernel)
theorem ml_9_208 : Cond.methodLink RX9 208 md_M_carriesOn.1 ∈ jm_gt := jm_in 1137 (by decide +kernel) (by decide +kernel)
theorem ml_9_212 : Cond.methodLink RX9 212 md_M_putIn.1 ∈ jm_gt := jm_in 1141 (by decide +kernel) (by decide +kernel)
theorem ml_9_225 : Cond.methodLink RX9 225 md_M_notes.1 ∈ jm_gt := jm_in 1145 (by decide +kernel) (by decide +kernel)
theorem ml_9_218 : Cond.methodLink RX9 218 md_M_bits.1 ∈ jm_gt := jm_in 1149 (by decide +kernel) (by decide +kernel)
theorem ml_lw_85 : Cond.methodLink R_lw 85 md_M_found.1 ∈ jm_gt := jm_in 1152 (by decide +kernel) (by decide +kernel)
theorem ml_lw_89 : Cond.methodLink R_lw 89 md_M_forget.1 ∈ jm_gt := jm_in 1156 (by decide +kernel) (by decide +kernel)
theorem ml_lw_93 : Cond.methodLink R_lw 93 md_M_doneBy.1 ∈ jm_gt := jm_in 1160 (by decide +kernel) (by decide +kernel)
theorem ml_9_245 : Cond.methodLink RX9 245 md_M_canHave.1 ∈ jm_gt := jm_in 1164 (by decide +kernel) (by decide +kernel)
theorem ml_9_239 : Cond.methodLink RX9 239 md_M_isFound.1 ∈ jm_gt := jm_in 1168 (by decide +kernel) (by decide +kernel)
theorem ml_9_242 : Cond.methodLink RX9 242 md_M_findCosts.1 ∈ jm_gt := jm_in 1172 (by decide +kernel) (by decide +kernel)
theorem ml_9_236 : Cond.methodLink RX9 236 md_M_isSo.1 ∈ jm_gt := jm_in 1176 (by decide +kernel) (by decide +kernel)
theorem ml_lw_97 : Cond.methodLink R_lw 97 md_M_guard.1 ∈ jm_gt := jm_in 1180 (by decide +kernel) (by decide +kernel)
theorem ml_9_248 : Cond.methodLink RX9 248 md_M_canCarry.1 ∈ jm_gt := jm_in 1184 (by decide +kernel) (by decide +kernel)
theorem ml_lw_101 : Cond.methodLink R_lw 101 md_M_taking.1 ∈ jm_gt := jm_in 1188 (by decide +kernel) (by decide +kernel)
theorem kc_9_251 : Cond.constant RX9 251 (-1000000) ∈ jm_gt := jm_in 1192 (by decide +kernel) (by decide +kernel)
theorem ml_9_255 : Cond.methodLink RX9 255 md_M_comesBack.1 ∈ jm_gt := jm_in 1193 (by decide +kernel) (by decide +kernel)
theorem ml_9_258 : Cond.methodLink RX9 258 md_M_triesOn.1 ∈ jm_gt := jm_in 1197 (by decide +kernel) (by decide +kernel)
theorem ml_9_252 : Cond.methodLink RX9 252 md_M_copiesOn.1 ∈ jm_gt := jm_in 1201 (by decide +kernel) (by decide +kernel)
theorem ml_lw_105 : Cond.methodLink R_lw 105 md_M_odds.1 ∈ jm_gt := jm_in 1205 (by decide +kernel) (by decide +kernel)
theorem ml_lw_109 : Cond.methodLink R_lw 109 md_M_worth.1 ∈ jm_gt := jm_in 1209 (by decide +kernel) (by decide +kernel)
theorem ml_lw_113 : Cond.methodLink R_lw 113 md_M_rate.1 ∈ jm_gt := jm_in 1213 (by decide +kernel) (by decide +kernel)
theorem ml_9_267 : Cond.methodLink RX9 267 md_M_personRate.1 ∈ jm_gt := jm_in 1217 (by decide +kernel) (by decide +kernel)
theorem ml_9_272 : Cond.methodLink RX9 272 md_M_barberRate.1 ∈ jm_gt := jm_in 1221 (by decide +kernel) (by decide +kernel)
theorem kl_9_265 : Cond.constantLong RX9 265 (10) ∈ jm_gt := jm_in 1225 (by decide +kernel) (by decide +kernel)
theorem ml_9_275 : Cond.methodLink RX9 275 md_M_thiefRate.1 ∈ jm_gt := jm_in 1226 (by decide +kernel) (by decide +kernel)
theorem kl_9_270 : Cond.constantLong RX9 270 (100) ∈ jm_gt := jm_in 1230 (by decide +kernel) (by decide +kernel)
theorem kl_9_278 : Cond.constantLong RX9 278 (1000) ∈ jm_gt := jm_in 1231 (by decide +kernel) (by decide +kernel)
theorem kl_9_280 : Cond.constantLong RX9 280 (10000) ∈ jm_gt := jm_in 1232 (by decide +kernel) (by decide +kernel)
theorem kl_9_282 : Cond.constantLong RX9 282 (100000) ∈ jm_gt := jm_in 1233 (by decide +kernel) (by decide +kernel)
theorem ml_lw_117 : Cond.methodLink R_lw 117 md_M_keep.1 ∈ jm_gt := jm_in 1234 (by decide +kernel) (by decide +kernel)
theorem ml_lw_121 : Cond.methodLink R_lw 121 md_M_back.1 ∈ jm_gt := jm_in 1238 (by decide +kernel) (by decide +kernel)
theorem ml_lw_125 : Cond.methodLink R_lw 125 md_M_count.1 ∈ jm_gt := jm_in 1242 (by decide +kernel) (by decide +kernel)
theorem ml_lw_130 : Cond.methodLink R_lw 130 md_M_trace.1 ∈ jm_gt := jm_in 1246 (by decide +kernel) (by decide +kernel)
theorem w_oi1 : Cond.instanceMethod Lib.objectInit ∈ jm_gt := jm_in 97 (by decide +kernel) (by decide +kernel)
theorem w_oi2 : Cond.code Lib.objectInit ⟨#[0xb1]⟩ 1 none ∈ jm_gt := jm_in 98 (by decide +kernel) (by decide +kernel)
theorem w_ac1 : Cond.native arraycopyName ∈ jm_gt := jm_in 392 (by decide +kernel) (by decide +kernel)
theorem w_ac2 : Cond.static arraycopyName ∈ jm_gt := jm_in 391 (by decide +kernel) (by decide +kernel)
theorem w_ac3 : Cond.initialized "java/lang/System" ∈ jm_gt := jm_in 87 (by decide +kernel) (by decide +kernel)
theorem w_ar_int : Cond.arrayClass .int ∈ jm_gt := jm_in 187 (by decide +kernel) (by decide +kernel)
theorem w_ar_boolean : Cond.arrayClass .boolean ∈ jm_gt := jm_in 299 (by decide +kernel) (by decide +kernel)
theorem w_ao5 : Cond.arrayOver (.object RX5) ∈ jm_nw := List.mem_filter.mpr ⟨List.mem_of_getElem? (i := 266) (by decide +kernel), rfl⟩
theorem w_aoI : Cond.arrayOver (.array .int) ∈ jm_nw := List.mem_filter.mpr ⟨List.mem_of_getElem? (i := 106) (by decide +kernel), rfl⟩
theorem w_ni_0 : Cond.instantiable (jm_cn 0) (jm_nf 0) ∈ jm_gt := jm_in 100 (by decide +kernel) (by decide +kernel)
theorem w_it_0 : Cond.initialized (jm_cn 0) ∈ jm_gt := jm_in 78 (by decide +kernel) (by decide +kernel)
theorem w_ni_1 : Cond.instantiable (jm_cn 1) (jm_nf 1) ∈ jm_gt := jm_in 189 (by decide +kernel) (by decide +kernel)
theorem w_it_1 : Cond.initialized (jm_cn 1) ∈ jm_gt := jm_in 79 (by decide +kernel) (by decide +kernel)
theorem w_ni_2 : Cond.instantiable (jm_cn 2) (jm_nf 2) ∈ jm_gt := jm_in 330 (by decide +kernel) (by decide +kernel)
theorem w_it_2 : Cond.initialized (jm_cn 2) ∈ jm_gt := jm_in 84 (by decide +kernel) (by decide +kernel)
theorem w_ni_3 : Cond.instantiable (jm_cn 3) (jm_nf 3) ∈ jm_gt := jm_in 280 (by decide +kernel) (by decide +kernel)
theorem w_it_3 : Cond.initialized (jm_cn 3) ∈ jm_gt := jm_in 82 (by decide +kernel) (by decide +kernel)
theorem w_ni_4 : Cond.instantiable (jm_cn 4) (jm_nf 4) ∈ jm_gt := jm_in 260 (by decide +kernel) (by decide +kernel)
theorem w_it_4 : Cond.initialized (jm_cn 4) ∈ jm_gt := jm_in 81 (by decide +kernel) (by decide +kernel)
theorem w_ni_5 : Cond.instantiable (jm_cn 5) (jm_nf 5) ∈ jm_gt := jm_in 223 (by decide +kernel) (by decide +kernel)
theorem w_it_5 : Cond.initialized (jm_cn 5) ∈ jm_gt := jm_in 80 (by decide +kernel) (by decide +kernel)
theorem w_ni_6 : Cond.instantiable (jm_cn 6) (jm_nf 6) ∈ jm_gt := jm_in 301 (by decide +kernel) (by decide +kernel)
theorem w_it_6 : Cond.initialized (jm_cn 6) ∈ jm_gt := jm_in 83 (by decide +kernel) (by decide +kernel)
theorem w_ni_7 : Cond.instantiable (jm_cn 7) (jm_nf 7) ∈ jm_gt := jm_in 343 (by decide +kernel) (by decide +kernel)
theorem w_it_7 : Cond.initialized (jm_cn 7) ∈ jm_gt := jm_in 85 (by decide +kernel) (by decide +kernel)
theorem w_ni_8 : Cond.instantiable (jm_cn 8) (jm_nf 8) ∈ jm_gt := jm_in 92 (by decide +kernel) (by decide +kernel)
theorem w_it_8 : Cond.initialized (jm_cn 8) ∈ jm_gt := jm_in 77 (by decide +kernel) (by decide +kernel)
theorem w_ni_9 : Cond.instantiable (jm_cn 9) (jm_nf 9) ∈ jm_gt := jm_in 840 (by decide +kernel) (by decide +kernel)
theorem w_it_9 : Cond.initialized (jm_cn 9) ∈ jm_gt := jm_in 88 (by decide +kernel) (by decide +kernel)
theorem mk_X_init : jm_MOk md_X_init 0 := ⟨jm_in 95 (by decide +kernel) (by decide +kernel), jm_in 77 (by decide +kernel) (by decide +kernel), by decide +kernel, ⟨by decide +kernel, by decide +kernel⟩, by decide +kernel, by decide +kernel⟩
theorem in_X_init : Cond.instanceMethod md_X_init.1 ∈ jm_gt := jm_in 94 (by decide +kernel) (by decide +kernel)
theorem mk_City_init : jm_MOk md_City_init 0 := ⟨jm_in 103 (by decide +kernel) (by decide +kernel), jm_in 78 (by decide +kernel) (by decide +kernel), by decide +kernel, ⟨by decide +kernel, by decide +kernel⟩, by decide +kernel, by decide +kernel⟩
theorem in_City_init : Cond.instanceMethod md_City_init.1 ∈ jm_gt := jm_in 102 (by decide +kernel) (by decide +kernel)
theorem mk_City_beAsAtFirst : jm_MOk md_City_beAsAtFirst 0 := ⟨jm_in 110 (by decide +kernel) (by decide +kernel), jm_in 78 (by decide +kernel) (by decide +kernel), by decide +kernel, ⟨by decide +kernel, by decide +kernel⟩, by decide +kernel, by decide +kernel⟩
theorem in_City_beAsAtFirst : Cond.instanceMethod md_City_beAsAtFirst.1 ∈ jm_gt := jm_in 108 (by decide +kernel) (by decide +kernel)
theorem se_City_beAsAtFirst : Cond.selects md_City_beAsAtFirst.1.cls md_City_beAsAtFirst.1 md_City_beAsAtFirst.1 ∈ jm_gt := jm_in 109 (by decide +kernel) (by decide +kernel)
theorem mk_CityReader_init : jm_MOk md_CityReader_init 0 := ⟨jm_in 192 (by decide +kernel) (by decide +kernel), jm_in 79 (by decide +kernel) (by decide +kernel), by decide +kernel, ⟨by decide +kernel, by decide +kernel⟩, by decide +kernel, by decide +kernel⟩
theorem in_CityReader_init : Cond.instanceMethod md_CityReader_init.1 ∈ jm_gt := jm_in 191 (by decide +kernel) (by decide +kernel)
theorem mk_Moment_init : jm_MOk md_Moment_init 0 := ⟨jm_in 226 (by decide +kernel) (by decide +kernel), jm_in 80 (by decide +kernel) (by decide +kernel), by decide +kernel, ⟨by decide +kernel, by decide +kernel⟩, by decide +kernel, by decide +kernel⟩
theorem in_Moment_init : Cond.instanceMethod md_Moment_init.1 ∈ jm_gt := jm_in 225 (by decide +kernel) (by decide +kernel)
theorem mk_History_init : jm_MOk md_History_init 0 := ⟨jm_in 263 (by decide +kernel) (by decide +kernel), jm_in 81 (by decide +kernel) (by decide +kernel), by decide +kernel, ⟨by decide +kernel, by decide +kernel⟩, by decide +kernel, by decide +kernel⟩
theorem in_History_init : Cond.instanceMethod md_History_init.1 ∈ jm_gt := jm_in 262 (by decide +kernel) (by decide +kernel)
theorem mk_Finds_init : jm_MOk md_Finds_init 0 := ⟨jm_in 283 (by decide +kernel) (by decide +kernel), jm_in 82 (by decide +kernel) (by decide +kernel), by decide +kernel, ⟨by decide +kernel, by decide +kernel⟩, by decide +kernel, by decide +kernel⟩
theorem in_Finds_init : Cond.instanceMethod md_Finds_init.1 ∈ jm_gt := jm_in 282 (by decide +kernel) (by decide +kernel)
theorem mk_PressTable_init : jm_MOk md_PressTable_init 0 := ⟨jm_in 304 (by decide +kernel) (by decide +kernel), jm_in 83 (by decide +kernel) (by decide +kernel), by decide +kernel, ⟨by decide +kernel, by decide +kernel⟩, by decide +kernel, by decide +kernel⟩
theorem in_PressTable_init : Cond.instanceMethod md_PressTable_init.1 ∈ jm_gt := jm_in 303 (by decide +kernel) (by decide +kernel)
theorem mk_DoneSearch_init : jm_MOk md_DoneSearch_init 0 := ⟨jm_in 333 (by decide +kernel) (by decide +kernel), jm_in 84 (by decide +kernel) (by decide +kernel), by decide +kernel, ⟨by decide +kernel, by decide +kernel⟩, by decide +kernel, by decide +kernel⟩
theorem in_DoneSearch_init : Cond.instanceMethod md_DoneSearch_init.1 ∈ jm_gt := jm_in 332 (by decide +kernel) (by decide +kernel)
theorem mk_TakingGame_init : jm_MOk md_TakingGame_init 0 := ⟨jm_in 346 (by decide +kernel) (by decide +kernel), jm_in 85 (by decide +kernel) (by decide +kernel), by decide +kernel, ⟨by decide +kernel, by decide +kernel⟩, by decide +kernel, by decide +kernel⟩
theorem in_TakingGame_init : Cond.instanceMethod md_TakingGame_init.1 ∈ jm_gt := jm_in 345 (by decide +kernel) (by decide +kernel)
theorem mk_X_settleIn : jm_MOk md_X_settleIn 0 := ⟨jm_in 370 (by decide +kernel) (by decide +kernel), jm_in 77 (by decide +kernel) (by decide +kernel), by decide +kernel, ⟨by decide +kernel, by decide +kernel⟩, by decide +kernel, by decide +kernel⟩
theorem in_X_settleIn : Cond.instanceMethod md_X_settleIn.1 ∈ jm_gt := jm_in 369 (by decide +kernel) (by decide +kernel)
theorem se_X_settleIn : Cond.selects md_X_settleIn.1.cls md_X_settleIn.1 md_X_settleIn.1 ∈ jm_gt := jm_in 0 (by decide +kernel) (by decide +kernel)
theorem mk_City_measure : jm_MOk md_City_measure 0 := ⟨jm_in 374 (by decide +kernel) (by decide +kernel), jm_in 78 (by decide +kernel) (by decide +kernel), by decide +kernel, ⟨by decide +kernel, by decide +kernel⟩, by decide +kernel, by decide +kernel⟩
theorem in_City_measure : Cond.instanceMethod md_City_measure.1 ∈ jm_gt := jm_in 372 (by decide +kernel) (by decide +kernel)
theorem se_City_measure : Cond.selects md_City_measure.1.cls md_City_measure.1 md_City_measure.1 ∈ jm_gt := jm_in 373 (by decide +kernel) (by decide +kernel)
theorem mk_City_measureFrom : jm_MOk md_City_measureFrom 3 := ⟨jm_in 378 (by decide +kernel) (by decide +kernel), jm_in 78 (by decide +kernel) (by decide +kernel), by decide +kernel, ⟨by decide +kernel, by decide +kernel⟩, by decide +kernel, by decide +kernel⟩
theorem in_City_measureFrom : Cond.instanceMethod md_City_measureFrom.1 ∈ jm_gt := jm_in 376 (by decide +kernel) (by decide +kernel)
theorem se_City_measureFrom : Cond.selects md_City_measureFrom.1.cls md_City_measureFrom.1 md_City_measureFrom.1 ∈ jm_gt := jm_in 377 (by decide +kernel) (by decide +kernel)
theorem mk_Arrays_fill : jm_MOk md_Arrays_fill 2 := ⟨jm_in 381 (by decide +kernel) (by decide +kernel), jm_in 86 (by decide +kernel) (by decide +kernel), by decide +kernel, ⟨by decide +kernel, by decide +kernel⟩, by decide +kernel, by decide +kernel⟩
theorem st_Arrays_fill : Cond.static md_Arrays_fill.1 ∈ jm_gt := jm_in 380 (by decide +kernel) (by decide +kernel)
theorem mk_City_bringsNearer : jm_MOk md_City_bringsNearer 2 := ⟨jm_in 385 (by decide +kernel) (by decide +kernel), jm_in 78 (by decide +kernel) (by decide +kernel), by decide +kernel, ⟨by decide +kernel, by decide +kernel⟩, by decide +kernel, by decide +kernel⟩
theorem in_City_bringsNearer : Cond.instanceMethod md_City_bringsNearer.1 ∈ jm_gt := jm_in 384 (by decide +kernel) (by decide +kernel)
theorem se_City_bringsNearer : Cond.selects md_City_bringsNearer.1.cls md_City_bringsNearer.1 md_City_bringsNearer.1 ∈ jm_gt := jm_in 1 (by decide +kernel) (by decide +kernel)
theorem mk_Moment_begin : jm_MOk md_Moment_begin 1 := ⟨jm_in 389 (by decide +kernel) (by decide +kernel), jm_in 80 (by decide +kernel) (by decide +kernel), by decide +kernel, ⟨by decide +kernel, by decide +kernel⟩, by decide +kernel, by decide +kernel⟩
theorem in_Moment_begin : Cond.instanceMethod md_Moment_begin.1 ∈ jm_gt := jm_in 387 (by decide +kernel) (by decide +kernel)
theorem se_Moment_begin : Cond.selects md_Moment_begin.1.cls md_Moment_begin.1 md_Moment_begin.1 ∈ jm_gt := jm_in 388 (by decide +kernel) (by decide +kernel)
theorem mk_X_type : jm_MOk md_X_type 1 := ⟨jm_in 443 (by decide +kernel) (by decide +kernel), jm_in 77 (by decide +kernel) (by decide +kernel), by decide +kernel, ⟨by decide +kernel, by decide +kernel⟩, by decide +kernel, by decide +kernel⟩
theorem in_X_type : Cond.instanceMethod md_X_type.1 ∈ jm_gt := jm_in 441 (by decide +kernel) (by decide +kernel)
theorem se_X_type : Cond.selects md_X_type.1.cls md_X_type.1 md_X_type.1 ∈ jm_gt := jm_in 442 (by decide +kernel) (by decide +kernel)
theorem mk_X_within : jm_MOk md_X_within 3 := ⟨jm_in 446 (by decide +kernel) (by decide +kernel), jm_in 77 (by decide +kernel) (by decide +kernel), by decide +kernel, ⟨by decide +kernel, by decide +kernel⟩, by decide +kernel, by decide +kernel⟩
theorem st_X_within : Cond.static md_X_within.1 ∈ jm_gt := jm_in 445 (by decide +kernel) (by decide +kernel)
theorem mk_X_clear : jm_MOk md_X_clear 0 := ⟨jm_in 450 (by decide +kernel) (by decide +kernel), jm_in 77 (by decide +kernel) (by decide +kernel), by decide +kernel, ⟨by decide +kernel, by decide +kernel⟩, by decide +kernel, by decide +kernel⟩
theorem in_X_clear : Cond.instanceMethod md_X_clear.1 ∈ jm_gt := jm_in 448 (by decide +kernel) (by decide +kernel)
theorem se_X_clear : Cond.selects md_X_clear.1.cls md_X_clear.1 md_X_clear.1 ∈ jm_gt := jm_in 449 (by decide +kernel) (by decide +kernel)
theorem mk_X_city : jm_MOk md_X_city 0 := ⟨jm_in 454 (by decide +kernel) (by decide +kernel), jm_in 77 (by decide +kernel) (by decide +kernel), by decide +kernel, ⟨by decide +kernel, by decide +kernel⟩, by decide +kernel, by decide +kernel⟩
theorem in_X_city : Cond.instanceMethod md_X_city.1 ∈ jm_gt := jm_in 452 (by decide +kernel) (by decide +kernel)
theorem se_X_city : Cond.selects md_X_city.1.cls md_X_city.1 md_X_city.1 ∈ jm_gt := jm_in 453 (by decide +kernel) (by decide +kernel)
theorem mk_CityReader_read : jm_MOk md_CityReader_read 3 := ⟨jm_in 458 (by decide +kernel) (by decide +kernel), jm_in 79 (by decide +kernel) (by decide +kernel), by decide +kernel, ⟨by decide +kernel, by decide +kernel⟩, by decide +kernel, by decide +kernel⟩
theorem in_CityReader_read : Cond.instanceMethod md_CityReader_read.1 ∈ jm_gt := jm_in 456 (by decide +kernel) (by decide +kernel)
theorem se_CityReader_read : Cond.selects md_CityReader_read.1.cls md_CityReader_read.1 md_CityReader_read.1 ∈ jm_gt := jm_in 457 (by decide +kernel) (by decide +kernel)
theorem mk_CityReader_nextToken : jm_MOk md_CityReader_nextToken 0 := ⟨jm_in 463 (by decide +kernel) (by decide +kernel), jm_in 79 (by decide +kernel) (by decide +kernel), by decide +kernel, ⟨by decide +kernel, by decide +kernel⟩, by decide +kernel, by decide +kernel⟩
theorem in_CityReader_nextToken : Cond.instanceMethod md_CityReader_nextToken.1 ∈ jm_gt := jm_in 462 (by decide +kernel) (by decide +kernel)
theorem se_CityReader_nextToken : Cond.selects md_CityReader_nextToken.1.cls md_CityReader_nextToken.1 md_CityReader_nextToken.1 ∈ jm_gt := jm_in 2 (by decide +kernel) (by decide +kernel)
theorem mk_CityReader_isDigit : jm_MOk md_CityReader_isDigit 1 := ⟨jm_in 466 (by decide +kernel) (by decide +kernel), jm_in 79 (by decide +kernel) (by decide +kernel), by decide +kernel, ⟨by decide +kernel, by decide +kernel⟩, by decide +kernel, by decide +kernel⟩
theorem st_CityReader_isDigit : Cond.static md_CityReader_isDigit.1 ∈ jm_gt := jm_in 465 (by decide +kernel) (by decide +kernel)
theorem mk_CityReader_isKnown : jm_MOk md_CityReader_isKnown 1 := ⟨jm_in 469 (by decide +kernel) (by decide +kernel), jm_in 79 (by decide +kernel) (by decide +kernel), by decide +kernel, ⟨by decide +kernel, by decide +kernel⟩, by decide +kernel, by decide +kernel⟩
theorem st_CityReader_isKnown : Cond.static md_CityReader_isKnown.1 ∈ jm_gt := jm_in 468 (by decide +kernel) (by decide +kernel)
theorem mk_CityReader_readItem : jm_MOk md_CityReader_readItem 1 := ⟨jm_in 473 (by decide +kernel) (by decide +kernel), jm_in 79 (by decide +kernel) (by decide +kernel), by decide +kernel, ⟨by decide +kernel, by decide +kernel⟩, by decide +kernel, by decide +kernel⟩
theorem in_CityReader_readItem : Cond.instanceMethod md_CityReader_readItem.1 ∈ jm_gt := jm_in 472 (by decide +kernel) (by decide +kernel)
theorem se_CityReader_readItem : Cond.selects md_CityReader_readItem.1.cls md_CityReader_readItem.1 md_CityReader_readItem.1 ∈ jm_gt := jm_in 3 (by decide +kernel) (by decide +kernel)
theorem mk_CityReader_readRooms : jm_MOk md_CityReader_readRooms 1 := ⟨jm_in 477 (by decide +kernel) (by decide +kernel), jm_in 79 (by decide +kernel) (by decide +kernel), by decide +kernel, ⟨by decide +kernel, by decide +kernel⟩, by decide +kernel, by decide +kernel⟩
theorem in_CityReader_readRooms : Cond.instanceMethod md_CityReader_readRooms.1 ∈ jm_gt := jm_in 476 (by decide +kernel) (by decide +kernel)
theorem se_CityReader_readRooms : Cond.selects md_CityReader_readRooms.1.cls md_CityReader_readRooms.1 md_CityReader_readRooms.1 ∈ jm_gt := jm_in 4 (by decide +kernel) (by decide +kernel)
theorem mk_CityReader_refuse : jm_MOk md_CityReader_refuse 0 := ⟨jm_in 481 (by decide +kernel) (by decide +kernel), jm_in 79 (by decide +kernel) (by decide +kernel), by decide +kernel, ⟨by decide +kernel, by decide +kernel⟩, by decide +kernel, by decide +kernel⟩
theorem in_CityReader_refuse : Cond.instanceMethod md_CityReader_refuse.1 ∈ jm_gt := jm_in 480 (by decide +kernel) (by decide +kernel)
theorem se_CityReader_refuse : Cond.selects md_CityReader_refuse.1.cls md_CityReader_refuse.1 md_CityReader_refuse.1 ∈ jm_gt := jm_in 5 (by decide +kernel) (by decide +kernel)
theorem mk_CityReader_needNumber : jm_MOk md_CityReader_needNumber 2 := ⟨jm_in 485 (by decide +kernel) (by decide +kernel), jm_in 79 (by decide +kernel) (by decide +kernel), by decide +kernel, ⟨by decide +kernel, by decide +kernel⟩, by decide +kernel, by decide +kernel⟩
theorem in_CityReader_needNumber : Cond.instanceMethod md_CityReader_needNumber.1 ∈ jm_gt := jm_in 484 (by decide +kernel) (by decide +kernel)
theorem se_CityReader_needNumber : Cond.selects md_CityReader_needNumber.1.cls md_CityReader_needNumber.1 md_CityReader_needNumber.1 ∈ jm_gt := jm_in 6 (by decide +kernel) (by decide +kernel)
theorem mk_CityReader_readSteps : jm_MOk md_CityReader_readSteps 0 := ⟨jm_in 489 (by decide +kernel) (by decide +kernel), jm_in 79 (by decide +kernel) (by decide +kernel), by decide +kernel, ⟨by decide +kernel, by decide +kernel⟩, by decide +kernel, by decide +kernel⟩
theorem in_CityReader_readSteps : Cond.instanceMethod md_CityReader_readSteps.1 ∈ jm_gt := jm_in 488 (by decide +kernel) (by decide +kernel)
theorem se_CityReader_readSteps : Cond.selects md_CityReader_readSteps.1.cls md_CityReader_readSteps.1 md_CityReader_readSteps.1 ∈ jm_gt := jm_in 7 (by decide +kernel) (by decide +kernel)
theorem mk_CityReader_readDoor : jm_MOk md_CityReader_readDoor 0 := ⟨jm_in 493 (by decide +kernel) (by decide +kernel), jm_in 79 (by decide +kernel) (by decide +kernel), by decide +kernel, ⟨by decide +kernel, by decide +kernel⟩, by decide +kernel, by decide +kernel⟩
theorem in_CityReader_readDoor : Cond.instanceMethod md_CityReader_readDoor.1 ∈ jm_gt := jm_in 492 (by decide +kernel) (by decide +kernel)
theorem se_CityReader_readDoor : Cond.selects md_CityReader_readDoor.1.cls md_CityReader_readDoor.1 md_CityReader_readDoor.1 ∈ jm_gt := jm_in 8 (by decide +kernel) (by decide +kernel)
theorem mk_CityReader_readPerson : jm_MOk md_CityReader_readPerson 0 := ⟨jm_in 497 (by decide +kernel) (by decide +kernel), jm_in 79 (by decide +kernel) (by decide +kernel), by decide +kernel, ⟨by decide +kernel, by decide +kernel⟩, by decide +kernel, by decide +kernel⟩
theorem in_CityReader_readPerson : Cond.instanceMethod md_CityReader_readPerson.1 ∈ jm_gt := jm_in 496 (by decide +kernel) (by decide +kernel)
theorem se_CityReader_readPerson : Cond.selects md_CityReader_readPerson.1.cls md_CityReader_readPerson.1 md_CityReader_readPerson.1 ∈ jm_gt := jm_in 9 (by decide +kernel) (by decide +kernel)
theorem mk_CityReader_readThing : jm_MOk md_CityReader_readThing 0 := ⟨jm_in 501 (by decide +kernel) (by decide +kernel), jm_in 79 (by decide +kernel) (by decide +kernel), by decide +kernel, ⟨by decide +kernel, by decide +kernel⟩, by decide +kernel, by decide +kernel⟩
theorem in_CityReader_readThing : Cond.instanceMethod md_CityReader_readThing.1 ∈ jm_gt := jm_in 500 (by decide +kernel) (by decide +kernel)
theorem se_CityReader_readThing : Cond.selects md_CityReader_readThing.1.cls md_CityReader_readThing.1 md_CityReader_readThing.1 ∈ jm_gt := jm_in 10 (by decide +kernel) (by decide +kernel)
theorem mk_CityReader_needEnd : jm_MOk md_CityReader_needEnd 0 := ⟨jm_in 505 (by decide +kernel) (by decide +kernel), jm_in 79 (by decide +kernel) (by decide +kernel), by decide +kernel, ⟨by decide +kernel, by decide +kernel⟩, by decide +kernel, by decide +kernel⟩
theorem in_CityReader_needEnd : Cond.instanceMethod md_CityReader_needEnd.1 ∈ jm_gt := jm_in 504 (by decide +kernel) (by decide +kernel)
theorem se_CityReader_needEnd : Cond.selects md_CityReader_needEnd.1.cls md_CityReader_needEnd.1 md_CityReader_needEnd.1 ∈ jm_gt := jm_in 11 (by decide +kernel) (by decide +kernel)
theorem mk_X_door : jm_MOk md_X_door 2 := ⟨jm_in 509 (by decide +kernel) (by decide +kernel), jm_in 77 (by decide +kernel) (by decide +kernel), by decide +kernel, ⟨by decide +kernel, by decide +kernel⟩, by decide +kernel, by decide +kernel⟩
theorem in_X_door : Cond.instanceMethod md_X_door.1 ∈ jm_gt := jm_in 507 (by decide +kernel) (by decide +kernel)
theorem se_X_door : Cond.selects md_X_door.1.cls md_X_door.1 md_X_door.1 ∈ jm_gt := jm_in 508 (by decide +kernel) (by decide +kernel)
theorem mk_X_person : jm_MOk md_X_person 2 := ⟨jm_in 513 (by decide +kernel) (by decide +kernel), jm_in 77 (by decide +kernel) (by decide +kernel), by decide +kernel, ⟨by decide +kernel, by decide +kernel⟩, by decide +kernel, by decide +kernel⟩
theorem in_X_person : Cond.instanceMethod md_X_person.1 ∈ jm_gt := jm_in 511 (by decide +kernel) (by decide +kernel)
theorem se_X_person : Cond.selects md_X_person.1.cls md_X_person.1 md_X_person.1 ∈ jm_gt := jm_in 512 (by decide +kernel) (by decide +kernel)
theorem mk_X_isPerson : jm_MOk md_X_isPerson 1 := ⟨jm_in 517 (by decide +kernel) (by decide +kernel), jm_in 77 (by decide +kernel) (by decide +kernel), by decide +kernel, ⟨by decide +kernel, by decide +kernel⟩, by decide +kernel, by decide +kernel⟩
theorem in_X_isPerson : Cond.instanceMethod md_X_isPerson.1 ∈ jm_gt := jm_in 516 (by decide +kernel) (by decide +kernel)
theorem se_X_isPerson : Cond.selects md_X_isPerson.1.cls md_X_isPerson.1 md_X_isPerson.1 ∈ jm_gt := jm_in 12 (by decide +kernel) (by decide +kernel)
theorem mk_X_thing : jm_MOk md_X_thing 2 := ⟨jm_in 521 (by decide +kernel) (by decide +kernel), jm_in 77 (by decide +kernel) (by decide +kernel), by decide +kernel, ⟨by decide +kernel, by decide +kernel⟩, by decide +kernel, by decide +kernel⟩
theorem in_X_thing : Cond.instanceMethod md_X_thing.1 ∈ jm_gt := jm_in 519 (by decide +kernel) (by decide +kernel)
theorem se_X_thing : Cond.selects md_X_thing.1.cls md_X_thing.1 md_X_thing.1 ∈ jm_gt := jm_in 520 (by decide +kernel) (by decide +kernel)
theorem mk_X_isThing : jm_MOk md_X_isThing 1 := ⟨jm_in 525 (by decide +kernel) (by decide +kernel), jm_in 77 (by decide +kernel) (by decide +kernel), by decide +kernel, ⟨by decide +kernel, by decide +kernel⟩, by decide +kernel, by decide +kernel⟩
theorem in_X_isThing : Cond.instanceMethod md_X_isThing.1 ∈ jm_gt := jm_in 524 (by decide +kernel) (by decide +kernel)
theorem se_X_isThing : Cond.selects md_X_isThing.1.cls md_X_isThing.1 md_X_isThing.1 ∈ jm_gt := jm_in 13 (by decide +kernel) (by decide +kernel)
theorem mk_X_roomOfThing : jm_MOk md_X_roomOfThing 1 := ⟨jm_in 529 (by decide +kernel) (by decide +kernel), jm_in 77 (by decide +kernel) (by decide +kernel), by decide +kernel, ⟨by decide +kernel, by decide +kernel⟩, by decide +kernel, by decide +kernel⟩
theorem in_X_roomOfThing : Cond.instanceMethod md_X_roomOfThing.1 ∈ jm_gt := jm_in 528 (by decide +kernel) (by decide +kernel)
theorem se_X_roomOfThing : Cond.selects md_X_roomOfThing.1.cls md_X_roomOfThing.1 md_X_roomOfThing.1 ∈ jm_gt := jm_in 14 (by decide +kernel) (by decide +kernel)
theorem mk_City_roomOfSpot : jm_MOk md_City_roomOfSpot 2 := ⟨jm_in 533 (by decide +kernel) (by decide +kernel), jm_in 78 (by decide +kernel) (by decide +kernel), by decide +kernel, ⟨by decide +kernel, by decide +kernel⟩, by decide +kernel, by decide +kernel⟩
theorem in_City_roomOfSpot : Cond.instanceMethod md_City_roomOfSpot.1 ∈ jm_gt := jm_in 531 (by decide +kernel) (by decide +kernel)
theorem se_City_roomOfSpot : Cond.selects md_City_roomOfSpot.1.cls md_City_roomOfSpot.1 md_City_roomOfSpot.1 ∈ jm_gt := jm_in 532 (by decide +kernel) (by decide +kernel)
theorem mk_X_now : jm_MOk md_X_now 1 := ⟨jm_in 537 (by decide +kernel) (by decide +kernel), jm_in 77 (by decide +kernel) (by decide +kernel), by decide +kernel, ⟨by decide +kernel, by decide +kernel⟩, by decide +kernel, by decide +kernel⟩
theorem in_X_now : Cond.instanceMethod md_X_now.1 ∈ jm_gt := jm_in 535 (by decide +kernel) (by decide +kernel)
theorem se_X_now : Cond.selects md_X_now.1.cls md_X_now.1 md_X_now.1 ∈ jm_gt := jm_in 536 (by decide +kernel) (by decide +kernel)
theorem mk_X_upPeople : jm_MOk md_X_upPeople 0 := ⟨jm_in 541 (by decide +kernel) (by decide +kernel), jm_in 77 (by decide +kernel) (by decide +kernel), by decide +kernel, ⟨by decide +kernel, by decide +kernel⟩, by decide +kernel, by decide +kernel⟩
theorem in_X_upPeople : Cond.instanceMethod md_X_upPeople.1 ∈ jm_gt := jm_in 540 (by decide +kernel) (by decide +kernel)
theorem se_X_upPeople : Cond.selects md_X_upPeople.1.cls md_X_upPeople.1 md_X_upPeople.1 ∈ jm_gt := jm_in 15 (by decide +kernel) (by decide +kernel)
theorem mk_X_isUp : jm_MOk md_X_isUp 1 := ⟨jm_in 545 (by decide +kernel) (by decide +kernel), jm_in 77 (by decide +kernel) (by decide +kernel), by decide +kernel, ⟨by decide +kernel, by decide +kernel⟩, by decide +kernel, by decide +kernel⟩
theorem in_X_isUp : Cond.instanceMethod md_X_isUp.1 ∈ jm_gt := jm_in 544 (by decide +kernel) (by decide +kernel)
theorem se_X_isUp : Cond.selects md_X_isUp.1.cls md_X_isUp.1 md_X_isUp.1 ∈ jm_gt := jm_in 16 (by decide +kernel) (by decide +kernel)
theorem mk_X_second : jm_MOk md_X_second 0 := ⟨jm_in 549 (by decide +kernel) (by decide +kernel), jm_in 77 (by decide +kernel) (by decide +kernel), by decide +kernel, ⟨by decide +kernel, by decide +kernel⟩, by decide +kernel, by decide +kernel⟩
theorem in_X_second : Cond.instanceMethod md_X_second.1 ∈ jm_gt := jm_in 547 (by decide +kernel) (by decide +kernel)
theorem se_X_second : Cond.selects md_X_second.1.cls md_X_second.1 md_X_second.1 ∈ jm_gt := jm_in 548 (by decide +kernel) (by decide +kernel)
theorem mk_History_remember : jm_MOk md_History_remember 1 := ⟨jm_in 553 (by decide +kernel) (by decide +kernel), jm_in 81 (by decide +kernel) (by decide +kernel), by decide +kernel, ⟨by decide +kernel, by decide +kernel⟩, by decide +kernel, by decide +kernel⟩
theorem in_History_remember : Cond.instanceMethod md_History_remember.1 ∈ jm_gt := jm_in 551 (by decide +kernel) (by decide +kernel)
theorem se_History_remember : Cond.selects md_History_remember.1.cls md_History_remember.1 md_History_remember.1 ∈ jm_gt := jm_in 552 (by decide +kernel) (by decide +kernel)
theorem mk_Moment_copyFrom : jm_MOk md_Moment_copyFrom 1 := ⟨jm_in 557 (by decide +kernel) (by decide +kernel), jm_in 80 (by decide +kernel) (by decide +kernel), by decide +kernel, ⟨by decide +kernel, by decide +kernel⟩, by decide +kernel, by decide +kernel⟩
theorem in_Moment_copyFrom : Cond.instanceMethod md_Moment_copyFrom.1 ∈ jm_gt := jm_in 555 (by decide +kernel) (by decide +kernel)
theorem se_Moment_copyFrom : Cond.selects md_Moment_copyFrom.1.cls md_Moment_copyFrom.1 md_Moment_copyFrom.1 ∈ jm_gt := jm_in 556 (by decide +kernel) (by decide +kernel)
theorem st_Math_min : Cond.static Lib.Math.min.name ∈ jm_gt := jm_in 559 (by decide +kernel) (by decide +kernel)
theorem co_Math_min : Cond.code Lib.Math.min.name Lib.Math.min.code 2 (some .int) ∈ jm_gt := jm_in 560 (by decide +kernel) (by decide +kernel)
theorem ii_Math_min : Cond.initialized "java/lang/Math" ∈ jm_gt := jm_in 89 (by decide +kernel) (by decide +kernel)
theorem mk_Moment_goBy : jm_MOk md_Moment_goBy 1 := ⟨jm_in 564 (by decide +kernel) (by decide +kernel), jm_in 80 (by decide +kernel) (by decide +kernel), by decide +kernel, ⟨by decide +kernel, by decide +kernel⟩, by decide +kernel, by decide +kernel⟩
theorem in_Moment_goBy : Cond.instanceMethod md_Moment_goBy.1 ∈ jm_gt := jm_in 562 (by decide +kernel) (by decide +kernel)
theorem se_Moment_goBy : Cond.selects md_Moment_goBy.1.cls md_Moment_goBy.1 md_Moment_goBy.1 ∈ jm_gt := jm_in 563 (by decide +kernel) (by decide +kernel)
theorem mk_City_spotIn : jm_MOk md_City_spotIn 3 := ⟨jm_in 568 (by decide +kernel) (by decide +kernel), jm_in 78 (by decide +kernel) (by decide +kernel), by decide +kernel, ⟨by decide +kernel, by decide +kernel⟩, by decide +kernel, by decide +kernel⟩
theorem in_City_spotIn : Cond.instanceMethod md_City_spotIn.1 ∈ jm_gt := jm_in 566 (by decide +kernel) (by decide +kernel)
theorem se_City_spotIn : Cond.selects md_City_spotIn.1.cls md_City_spotIn.1 md_City_spotIn.1 ∈ jm_gt := jm_in 567 (by decide +kernel) (by decide +kernel)
theorem mk_X_press : jm_MOk md_X_press 1 := ⟨jm_in 572 (by decide +kernel) (by decide +kernel), jm_in 77 (by decide +kernel) (by decide +kernel), by decide +kernel, ⟨by decide +kernel, by decide +kernel⟩, by decide +kernel, by decide +kernel⟩
theorem in_X_press : Cond.instanceMethod md_X_press.1 ∈ jm_gt := jm_in 570 (by decide +kernel) (by decide +kernel)
theorem se_X_press : Cond.selects md_X_press.1.cls md_X_press.1 md_X_press.1 ∈ jm_gt := jm_in 571 (by decide +kernel) (by decide +kernel)
theorem mk_X_carry : jm_MOk md_X_carry 3 := ⟨jm_in 576 (by decide +kernel) (by decide +kernel), jm_in 77 (by decide +kernel) (by decide +kernel), by decide +kernel, ⟨by decide +kernel, by decide +kernel⟩, by decide +kernel, by decide +kernel⟩
theorem in_X_carry : Cond.instanceMethod md_X_carry.1 ∈ jm_gt := jm_in 574 (by decide +kernel) (by decide +kernel)
theorem se_X_carry : Cond.selects md_X_carry.1.cls md_X_carry.1 md_X_carry.1 ∈ jm_gt := jm_in 575 (by decide +kernel) (by decide +kernel)
theorem mk_X_isRoom : jm_MOk md_X_isRoom 1 := ⟨jm_in 580 (by decide +kernel) (by decide +kernel), jm_in 77 (by decide +kernel) (by decide +kernel), by decide +kernel, ⟨by decide +kernel, by decide +kernel⟩, by decide +kernel, by decide +kernel⟩
theorem in_X_isRoom : Cond.instanceMethod md_X_isRoom.1 ∈ jm_gt := jm_in 579 (by decide +kernel) (by decide +kernel)
theorem se_X_isRoom : Cond.selects md_X_isRoom.1.cls md_X_isRoom.1 md_X_isRoom.1 ∈ jm_gt := jm_in 17 (by decide +kernel) (by decide +kernel)
theorem mk_City_stepsToCarry : jm_MOk md_City_stepsToCarry 3 := ⟨jm_in 584 (by decide +kernel) (by decide +kernel), jm_in 78 (by decide +kernel) (by decide +kernel), by decide +kernel, ⟨by decide +kernel, by decide +kernel⟩, by decide +kernel, by decide +kernel⟩
theorem in_City_stepsToCarry : Cond.instanceMethod md_City_stepsToCarry.1 ∈ jm_gt := jm_in 582 (by decide +kernel) (by decide +kernel)
theorem se_City_stepsToCarry : Cond.selects md_City_stepsToCarry.1.cls md_City_stepsToCarry.1 md_City_stepsToCarry.1 ∈ jm_gt := jm_in 583 (by decide +kernel) (by decide +kernel)
theorem mk_City_spotOfRoom : jm_MOk md_City_spotOfRoom 2 := ⟨jm_in 588 (by decide +kernel) (by decide +kernel), jm_in 78 (by decide +kernel) (by decide +kernel), by decide +kernel, ⟨by decide +kernel, by decide +kernel⟩, by decide +kernel, by decide +kernel⟩
theorem in_City_spotOfRoom : Cond.instanceMethod md_City_spotOfRoom.1 ∈ jm_gt := jm_in 586 (by decide +kernel) (by decide +kernel)
theorem se_City_spotOfRoom : Cond.selects md_City_spotOfRoom.1.cls md_City_spotOfRoom.1 md_City_spotOfRoom.1 ∈ jm_gt := jm_in 587 (by decide +kernel) (by decide +kernel)
theorem mk_X_moveTo : jm_MOk md_X_moveTo 3 := ⟨jm_in 592 (by decide +kernel) (by decide +kernel), jm_in 77 (by decide +kernel) (by decide +kernel), by decide +kernel, ⟨by decide +kernel, by decide +kernel⟩, by decide +kernel, by decide +kernel⟩
theorem in_X_moveTo : Cond.instanceMethod md_X_moveTo.1 ∈ jm_gt := jm_in 591 (by decide +kernel) (by decide +kernel)
theorem se_X_moveTo : Cond.selects md_X_moveTo.1.cls md_X_moveTo.1 md_X_moveTo.1 ∈ jm_gt := jm_in 18 (by decide +kernel) (by decide +kernel)
theorem mk_X_walk : jm_MOk md_X_walk 2 := ⟨jm_in 596 (by decide +kernel) (by decide +kernel), jm_in 77 (by decide +kernel) (by decide +kernel), by decide +kernel, ⟨by decide +kernel, by decide +kernel⟩, by decide +kernel, by decide +kernel⟩
theorem in_X_walk : Cond.instanceMethod md_X_walk.1 ∈ jm_gt := jm_in 594 (by decide +kernel) (by decide +kernel)
theorem se_X_walk : Cond.selects md_X_walk.1.cls md_X_walk.1 md_X_walk.1 ∈ jm_gt := jm_in 595 (by decide +kernel) (by decide +kernel)
theorem mk_X_undo : jm_MOk md_X_undo 0 := ⟨jm_in 600 (by decide +kernel) (by decide +kernel), jm_in 77 (by decide +kernel) (by decide +kernel), by decide +kernel, ⟨by decide +kernel, by decide +kernel⟩, by decide +kernel, by decide +kernel⟩
theorem in_X_undo : Cond.instanceMethod md_X_undo.1 ∈ jm_gt := jm_in 598 (by decide +kernel) (by decide +kernel)
theorem se_X_undo : Cond.selects md_X_undo.1.cls md_X_undo.1 md_X_undo.1 ∈ jm_gt := jm_in 599 (by decide +kernel) (by decide +kernel)
theorem mk_History_recallInto : jm_MOk md_History_recallInto 1 := ⟨jm_in 604 (by decide +kernel) (by decide +kernel), jm_in 81 (by decide +kernel) (by decide +kernel), by decide +kernel, ⟨by decide +kernel, by decide +kernel⟩, by decide +kernel, by decide +kernel⟩
theorem in_History_recallInto : Cond.instanceMethod md_History_recallInto.1 ∈ jm_gt := jm_in 602 (by decide +kernel) (by decide +kernel)
theorem se_History_recallInto : Cond.selects md_History_recallInto.1.cls md_History_recallInto.1 md_History_recallInto.1 ∈ jm_gt := jm_in 603 (by decide +kernel) (by decide +kernel)
theorem mk_X_where : jm_MOk md_X_where 2 := ⟨jm_in 608 (by decide +kernel) (by decide +kernel), jm_in 77 (by decide +kernel) (by decide +kernel), by decide +kernel, ⟨by decide +kernel, by decide +kernel⟩, by decide +kernel, by decide +kernel⟩
theorem in_X_where : Cond.instanceMethod md_X_where.1 ∈ jm_gt := jm_in 606 (by decide +kernel) (by decide +kernel)
theorem se_X_where : Cond.selects md_X_where.1.cls md_X_where.1 md_X_where.1 ∈ jm_gt := jm_in 607 (by decide +kernel) (by decide +kernel)
theorem mk_City_roomIn : jm_MOk md_City_roomIn 3 := ⟨jm_in 612 (by decide +kernel) (by decide +kernel), jm_in 78 (by decide +kernel) (by decide +kernel), by decide +kernel, ⟨by decide +kernel, by decide +kernel⟩, by decide +kernel, by decide +kernel⟩
theorem in_City_roomIn : Cond.instanceMethod md_City_roomIn.1 ∈ jm_gt := jm_in 610 (by decide +kernel) (by decide +kernel)
theorem se_City_roomIn : Cond.selects md_City_roomIn.1.cls md_City_roomIn.1 md_City_roomIn.1 ∈ jm_gt := jm_in 611 (by decide +kernel) (by decide +kernel)
theorem mk_X_upon : jm_MOk md_X_upon 2 := ⟨jm_in 618 (by decide +kernel) (by decide +kernel), jm_in 77 (by decide +kernel) (by decide +kernel), by decide +kernel, ⟨by decide +kernel, by decide +kernel⟩, by decide +kernel, by decide +kernel⟩
theorem in_X_upon : Cond.instanceMethod md_X_upon.1 ∈ jm_gt := jm_in 616 (by decide +kernel) (by decide +kernel)
theorem se_X_upon : Cond.selects md_X_upon.1.cls md_X_upon.1 md_X_upon.1 ∈ jm_gt := jm_in 617 (by decide +kernel) (by decide +kernel)
theorem mk_X_reach : jm_MOk md_X_reach 1 := ⟨jm_in 622 (by decide +kernel) (by decide +kernel), jm_in 77 (by decide +kernel) (by decide +kernel), by decide +kernel, ⟨by decide +kernel, by decide +kernel⟩, by decide +kernel, by decide +kernel⟩
theorem in_X_reach : Cond.instanceMethod md_X_reach.1 ∈ jm_gt := jm_in 620 (by decide +kernel) (by decide +kernel)
theorem se_X_reach : Cond.selects md_X_reach.1.cls md_X_reach.1 md_X_reach.1 ∈ jm_gt := jm_in 621 (by decide +kernel) (by decide +kernel)
theorem mk_X_presses : jm_MOk md_X_presses 4 := ⟨jm_in 626 (by decide +kernel) (by decide +kernel), jm_in 77 (by decide +kernel) (by decide +kernel), by decide +kernel, ⟨by decide +kernel, by decide +kernel⟩, by decide +kernel, by decide +kernel⟩
theorem in_X_presses : Cond.instanceMethod md_X_presses.1 ∈ jm_gt := jm_in 624 (by decide +kernel) (by decide +kernel)
theorem se_X_presses : Cond.selects md_X_presses.1.cls md_X_presses.1 md_X_presses.1 ∈ jm_gt := jm_in 625 (by decide +kernel) (by decide +kernel)
theorem mk_PressTable_fill : jm_MOk md_PressTable_fill 5 := ⟨jm_in 630 (by decide +kernel) (by decide +kernel), jm_in 83 (by decide +kernel) (by decide +kernel), by decide +kernel, ⟨by decide +kernel, by decide +kernel⟩, by decide +kernel, by decide +kernel⟩
theorem in_PressTable_fill : Cond.instanceMethod md_PressTable_fill.1 ∈ jm_gt := jm_in 628 (by decide +kernel) (by decide +kernel)
theorem se_PressTable_fill : Cond.selects md_PressTable_fill.1.cls md_PressTable_fill.1 md_PressTable_fill.1 ∈ jm_gt := jm_in 629 (by decide +kernel) (by decide +kernel)
theorem mk_Moment_rested : jm_MOk md_Moment_rested 1 := ⟨jm_in 634 (by decide +kernel) (by decide +kernel), jm_in 80 (by decide +kernel) (by decide +kernel), by decide +kernel, ⟨by decide +kernel, by decide +kernel⟩, by decide +kernel, by decide +kernel⟩
theorem in_Moment_rested : Cond.instanceMethod md_Moment_rested.1 ∈ jm_gt := jm_in 632 (by decide +kernel) (by decide +kernel)
theorem se_Moment_rested : Cond.selects md_Moment_rested.1.cls md_Moment_rested.1 md_Moment_rested.1 ∈ jm_gt := jm_in 633 (by decide +kernel) (by decide +kernel)
theorem mk_PressTable_fillCarried : jm_MOk md_PressTable_fillCarried 0 := ⟨jm_in 638 (by decide +kernel) (by decide +kernel), jm_in 83 (by decide +kernel) (by decide +kernel), by decide +kernel, ⟨by decide +kernel, by decide +kernel⟩, by decide +kernel, by decide +kernel⟩
theorem in_PressTable_fillCarried : Cond.instanceMethod md_PressTable_fillCarried.1 ∈ jm_gt := jm_in 637 (by decide +kernel) (by decide +kernel)
theorem se_PressTable_fillCarried : Cond.selects md_PressTable_fillCarried.1.cls md_PressTable_fillCarried.1 md_PressTable_fillCarried.1 ∈ jm_gt := jm_in 19 (by decide +kernel) (by decide +kernel)
theorem mk_PressTable_isSpot : jm_MOk md_PressTable_isSpot 1 := ⟨jm_in 642 (by decide +kernel) (by decide +kernel), jm_in 83 (by decide +kernel) (by decide +kernel), by decide +kernel, ⟨by decide +kernel, by decide +kernel⟩, by decide +kernel, by decide +kernel⟩
theorem in_PressTable_isSpot : Cond.instanceMethod md_PressTable_isSpot.1 ∈ jm_gt := jm_in 641 (by decide +kernel) (by decide +kernel)
theorem se_PressTable_isSpot : Cond.selects md_PressTable_isSpot.1.cls md_PressTable_isSpot.1 md_PressTable_isSpot.1 ∈ jm_gt := jm_in 20 (by decide +kernel) (by decide +kernel)
theorem mk_PressTable_spotsInReach : jm_MOk md_PressTable_spotsInReach 2 := ⟨jm_in 647 (by decide +kernel) (by decide +kernel), jm_in 83 (by decide +kernel) (by decide +kernel), by decide +kernel, ⟨by decide +kernel, by decide +kernel⟩, by decide +kernel, by decide +kernel⟩
theorem in_PressTable_spotsInReach : Cond.instanceMethod md_PressTable_spotsInReach.1 ∈ jm_gt := jm_in 646 (by decide +kernel) (by decide +kernel)
theorem se_PressTable_spotsInReach : Cond.selects md_PressTable_spotsInReach.1.cls md_PressTable_spotsInReach.1 md_PressTable_spotsInReach.1 ∈ jm_gt := jm_in 21 (by decide +kernel) (by decide +kernel)
theorem mk_PressTable_spotsInRoom : jm_MOk md_PressTable_spotsInRoom 1 := ⟨jm_in 653 (by decide +kernel) (by decide +kernel), jm_in 83 (by decide +kernel) (by decide +kernel), by decide +kernel, ⟨by decide +kernel, by decide +kernel⟩, by decide +kernel, by decide +kernel⟩
theorem in_PressTable_spotsInRoom : Cond.instanceMethod md_PressTable_spotsInRoom.1 ∈ jm_gt := jm_in 652 (by decide +kernel) (by decide +kernel)
theorem se_PressTable_spotsInRoom : Cond.selects md_PressTable_spotsInRoom.1.cls md_PressTable_spotsInRoom.1 md_PressTable_spotsInRoom.1 ∈ jm_gt := jm_in 22 (by decide +kernel) (by decide +kernel)
theorem mk_PressTable_fillRow : jm_MOk md_PressTable_fillRow 3 := ⟨jm_in 657 (by decide +kernel) (by decide +kernel), jm_in 83 (by decide +kernel) (by decide +kernel), by decide +kernel, ⟨by decide +kernel, by decide +kernel⟩, by decide +kernel, by decide +kernel⟩
theorem in_PressTable_fillRow : Cond.instanceMethod md_PressTable_fillRow.1 ∈ jm_gt := jm_in 656 (by decide +kernel) (by decide +kernel)
theorem se_PressTable_fillRow : Cond.selects md_PressTable_fillRow.1.cls md_PressTable_fillRow.1 md_PressTable_fillRow.1 ∈ jm_gt := jm_in 23 (by decide +kernel) (by decide +kernel)
theorem mk_PressTable_carriedFrom : jm_MOk md_PressTable_carriedFrom 2 := ⟨jm_in 661 (by decide +kernel) (by decide +kernel), jm_in 83 (by decide +kernel) (by decide +kernel), by decide +kernel, ⟨by decide +kernel, by decide +kernel⟩, by decide +kernel, by decide +kernel⟩
theorem in_PressTable_carriedFrom : Cond.instanceMethod md_PressTable_carriedFrom.1 ∈ jm_gt := jm_in 660 (by decide +kernel) (by decide +kernel)
theorem se_PressTable_carriedFrom : Cond.selects md_PressTable_carriedFrom.1.cls md_PressTable_carriedFrom.1 md_PressTable_carriedFrom.1 ∈ jm_gt := jm_in 24 (by decide +kernel) (by decide +kernel)
theorem mk_PressTable_aSecondLater : jm_MOk md_PressTable_aSecondLater 1 := ⟨jm_in 665 (by decide +kernel) (by decide +kernel), jm_in 83 (by decide +kernel) (by decide +kernel), by decide +kernel, ⟨by decide +kernel, by decide +kernel⟩, by decide +kernel, by decide +kernel⟩
theorem in_PressTable_aSecondLater : Cond.instanceMethod md_PressTable_aSecondLater.1 ∈ jm_gt := jm_in 664 (by decide +kernel) (by decide +kernel)
theorem se_PressTable_aSecondLater : Cond.selects md_PressTable_aSecondLater.1.cls md_PressTable_aSecondLater.1 md_PressTable_aSecondLater.1 ∈ jm_gt := jm_in 25 (by decide +kernel) (by decide +kernel)
theorem mk_PressTable_fewest : jm_MOk md_PressTable_fewest 0 := ⟨jm_in 670 (by decide +kernel) (by decide +kernel), jm_in 83 (by decide +kernel) (by decide +kernel), by decide +kernel, ⟨by decide +kernel, by decide +kernel⟩, by decide +kernel, by decide +kernel⟩
theorem in_PressTable_fewest : Cond.instanceMethod md_PressTable_fewest.1 ∈ jm_gt := jm_in 668 (by decide +kernel) (by decide +kernel)
theorem se_PressTable_fewest : Cond.selects md_PressTable_fewest.1.cls md_PressTable_fewest.1 md_PressTable_fewest.1 ∈ jm_gt := jm_in 669 (by decide +kernel) (by decide +kernel)
theorem mk_Integer_bitCount : jm_MOk md_Integer_bitCount 1 := ⟨jm_in 673 (by decide +kernel) (by decide +kernel), jm_in 90 (by decide +kernel) (by decide +kernel), by decide +kernel, ⟨by decide +kernel, by decide +kernel⟩, by decide +kernel, by decide +kernel⟩
theorem st_Integer_bitCount : Cond.static md_Integer_bitCount.1 ∈ jm_gt := jm_in 672 (by decide +kernel) (by decide +kernel)
theorem mk_PressTable_alone : jm_MOk md_PressTable_alone 0 := ⟨jm_in 681 (by decide +kernel) (by decide +kernel), jm_in 83 (by decide +kernel) (by decide +kernel), by decide +kernel, ⟨by decide +kernel, by decide +kernel⟩, by decide +kernel, by decide +kernel⟩
theorem in_PressTable_alone : Cond.instanceMethod md_PressTable_alone.1 ∈ jm_gt := jm_in 679 (by decide +kernel) (by decide +kernel)
theorem se_PressTable_alone : Cond.selects md_PressTable_alone.1.cls md_PressTable_alone.1 md_PressTable_alone.1 ∈ jm_gt := jm_in 680 (by decide +kernel) (by decide +kernel)
theorem mk_X_found : jm_MOk md_X_found 3 := ⟨jm_in 685 (by decide +kernel) (by decide +kernel), jm_in 77 (by decide +kernel) (by decide +kernel), by decide +kernel, ⟨by decide +kernel, by decide +kernel⟩, by decide +kernel, by decide +kernel⟩
theorem in_X_found : Cond.instanceMethod md_X_found.1 ∈ jm_gt := jm_in 683 (by decide +kernel) (by decide +kernel)
theorem se_X_found : Cond.selects md_X_found.1.cls md_X_found.1 md_X_found.1 ∈ jm_gt := jm_in 684 (by decide +kernel) (by decide +kernel)
theorem mk_Finds_note : jm_MOk md_Finds_note 3 := ⟨jm_in 689 (by decide +kernel) (by decide +kernel), jm_in 82 (by decide +kernel) (by decide +kernel), by decide +kernel, ⟨by decide +kernel, by decide +kernel⟩, by decide +kernel, by decide +kernel⟩
theorem in_Finds_note : Cond.instanceMethod md_Finds_note.1 ∈ jm_gt := jm_in 687 (by decide +kernel) (by decide +kernel)
theorem se_Finds_note : Cond.selects md_Finds_note.1.cls md_Finds_note.1 md_Finds_note.1 ∈ jm_gt := jm_in 688 (by decide +kernel) (by decide +kernel)
theorem mk_X_forget : jm_MOk md_X_forget 0 := ⟨jm_in 693 (by decide +kernel) (by decide +kernel), jm_in 77 (by decide +kernel) (by decide +kernel), by decide +kernel, ⟨by decide +kernel, by decide +kernel⟩, by decide +kernel, by decide +kernel⟩
theorem in_X_forget : Cond.instanceMethod md_X_forget.1 ∈ jm_gt := jm_in 691 (by decide +kernel) (by decide +kernel)
theorem se_X_forget : Cond.selects md_X_forget.1.cls md_X_forget.1 md_X_forget.1 ∈ jm_gt := jm_in 692 (by decide +kernel) (by decide +kernel)
theorem mk_X_doneBy : jm_MOk md_X_doneBy 0 := ⟨jm_in 697 (by decide +kernel) (by decide +kernel), jm_in 77 (by decide +kernel) (by decide +kernel), by decide +kernel, ⟨by decide +kernel, by decide +kernel⟩, by decide +kernel, by decide +kernel⟩
theorem in_X_doneBy : Cond.instanceMethod md_X_doneBy.1 ∈ jm_gt := jm_in 695 (by decide +kernel) (by decide +kernel)
theorem se_X_doneBy : Cond.selects md_X_doneBy.1.cls md_X_doneBy.1 md_X_doneBy.1 ∈ jm_gt := jm_in 696 (by decide +kernel) (by decide +kernel)
theorem mk_DoneSearch_couldHave : jm_MOk md_DoneSearch_couldHave 4 := ⟨jm_in 702 (by decide +kernel) (by decide +kernel), jm_in 84 (by decide +kernel) (by decide +kernel), by decide +kernel, ⟨by decide +kernel, by decide +kernel⟩, by decide +kernel, by decide +kernel⟩
theorem in_DoneSearch_couldHave : Cond.instanceMethod md_DoneSearch_couldHave.1 ∈ jm_gt := jm_in 700 (by decide +kernel) (by decide +kernel)
theorem se_DoneSearch_couldHave : Cond.selects md_DoneSearch_couldHave.1.cls md_DoneSearch_couldHave.1 md_DoneSearch_couldHave.1 ∈ jm_gt := jm_in 701 (by decide +kernel) (by decide +kernel)
theorem mk_Finds_tellOf : jm_MOk md_Finds_tellOf 1 := ⟨jm_in 707 (by decide +kernel) (by decide +kernel), jm_in 82 (by decide +kernel) (by decide +kernel), by decide +kernel, ⟨by decide +kernel, by decide +kernel⟩, by decide +kernel, by decide +kernel⟩
theorem in_Finds_tellOf : Cond.instanceMethod md_Finds_tellOf.1 ∈ jm_gt := jm_in 705 (by decide +kernel) (by decide +kernel)
theorem se_Finds_tellOf : Cond.selects md_Finds_tellOf.1.cls md_Finds_tellOf.1 md_Finds_tellOf.1 ∈ jm_gt := jm_in 706 (by decide +kernel) (by decide +kernel)
theorem mk_DoneSearch_settleThing : jm_MOk md_DoneSearch_settleThing 4 := ⟨jm_in 711 (by decide +kernel) (by decide +kernel), jm_in 84 (by decide +kernel) (by decide +kernel), by decide +kernel, ⟨by decide +kernel, by decide +kernel⟩, by decide +kernel, by decide +kernel⟩
theorem in_DoneSearch_settleThing : Cond.instanceMethod md_DoneSearch_settleThing.1 ∈ jm_gt := jm_in 710 (by decide +kernel) (by decide +kernel)
theorem se_DoneSearch_settleThing : Cond.selects md_DoneSearch_settleThing.1.cls md_DoneSearch_settleThing.1 md_DoneSearch_settleThing.1 ∈ jm_gt := jm_in 26 (by decide +kernel) (by decide +kernel)
theorem mk_Finds_holdFrom : jm_MOk md_Finds_holdFrom 3 := ⟨jm_in 715 (by decide +kernel) (by decide +kernel), jm_in 82 (by decide +kernel) (by decide +kernel), by decide +kernel, ⟨by decide +kernel, by decide +kernel⟩, by decide +kernel, by decide +kernel⟩
theorem in_Finds_holdFrom : Cond.instanceMethod md_Finds_holdFrom.1 ∈ jm_gt := jm_in 713 (by decide +kernel) (by decide +kernel)
theorem se_Finds_holdFrom : Cond.selects md_Finds_holdFrom.1.cls md_Finds_holdFrom.1 md_Finds_holdFrom.1 ∈ jm_gt := jm_in 714 (by decide +kernel) (by decide +kernel)
theorem mk_DoneSearch_mostLeft : jm_MOk md_DoneSearch_mostLeft 3 := ⟨jm_in 723 (by decide +kernel) (by decide +kernel), jm_in 84 (by decide +kernel) (by decide +kernel), by decide +kernel, ⟨by decide +kernel, by decide +kernel⟩, by decide +kernel, by decide +kernel⟩
theorem in_DoneSearch_mostLeft : Cond.instanceMethod md_DoneSearch_mostLeft.1 ∈ jm_gt := jm_in 722 (by decide +kernel) (by decide +kernel)
theorem se_DoneSearch_mostLeft : Cond.selects md_DoneSearch_mostLeft.1.cls md_DoneSearch_mostLeft.1 md_DoneSearch_mostLeft.1 ∈ jm_gt := jm_in 27 (by decide +kernel) (by decide +kernel)
theorem st_Math_max : Cond.static Lib.Math.max.name ∈ jm_gt := jm_in 726 (by decide +kernel) (by decide +kernel)
theorem co_Math_max : Cond.code Lib.Math.max.name Lib.Math.max.code 2 (some .int) ∈ jm_gt := jm_in 727 (by decide +kernel) (by decide +kernel)
theorem ii_Math_max : Cond.initialized "java/lang/Math" ∈ jm_gt := jm_in 89 (by decide +kernel) (by decide +kernel)
theorem mk_X_guard : jm_MOk md_X_guard 2 := ⟨jm_in 731 (by decide +kernel) (by decide +kernel), jm_in 77 (by decide +kernel) (by decide +kernel), by decide +kernel, ⟨by decide +kernel, by decide +kernel⟩, by decide +kernel, by decide +kernel⟩
theorem in_X_guard : Cond.instanceMethod md_X_guard.1 ∈ jm_gt := jm_in 729 (by decide +kernel) (by decide +kernel)
theorem se_X_guard : Cond.selects md_X_guard.1.cls md_X_guard.1 md_X_guard.1 ∈ jm_gt := jm_in 730 (by decide +kernel) (by decide +kernel)
theorem mk_City_openDoors : jm_MOk md_City_openDoors 0 := ⟨jm_in 735 (by decide +kernel) (by decide +kernel), jm_in 78 (by decide +kernel) (by decide +kernel), by decide +kernel, ⟨by decide +kernel, by decide +kernel⟩, by decide +kernel, by decide +kernel⟩
theorem in_City_openDoors : Cond.instanceMethod md_City_openDoors.1 ∈ jm_gt := jm_in 733 (by decide +kernel) (by decide +kernel)
theorem se_City_openDoors : Cond.selects md_City_openDoors.1.cls md_City_openDoors.1 md_City_openDoors.1 ∈ jm_gt := jm_in 734 (by decide +kernel) (by decide +kernel)
theorem mk_X_anybodyCarries : jm_MOk md_X_anybodyCarries 3 := ⟨jm_in 740 (by decide +kernel) (by decide +kernel), jm_in 77 (by decide +kernel) (by decide +kernel), by decide +kernel, ⟨by decide +kernel, by decide +kernel⟩, by decide +kernel, by decide +kernel⟩
theorem in_X_anybodyCarries : Cond.instanceMethod md_X_anybodyCarries.1 ∈ jm_gt := jm_in 739 (by decide +kernel) (by decide +kernel)
theorem se_X_anybodyCarries : Cond.selects md_X_anybodyCarries.1.cls md_X_anybodyCarries.1 md_X_anybodyCarries.1 ∈ jm_gt := jm_in 28 (by decide +kernel) (by decide +kernel)
theorem mk_X_taking : jm_MOk md_X_taking 2 := ⟨jm_in 745 (by decide +kernel) (by decide +kernel), jm_in 77 (by decide +kernel) (by decide +kernel), by decide +kernel, ⟨by decide +kernel, by decide +kernel⟩, by decide +kernel, by decide +kernel⟩
theorem in_X_taking : Cond.instanceMethod md_X_taking.1 ∈ jm_gt := jm_in 743 (by decide +kernel) (by decide +kernel)
theorem se_X_taking : Cond.selects md_X_taking.1.cls md_X_taking.1 md_X_taking.1 ∈ jm_gt := jm_in 744 (by decide +kernel) (by decide +kernel)
theorem mk_TakingGame_play : jm_MOk md_TakingGame_play 4 := ⟨jm_in 750 (by decide +kernel) (by decide +kernel), jm_in 85 (by decide +kernel) (by decide +kernel), by decide +kernel, ⟨by decide +kernel, by decide +kernel⟩, by decide +kernel, by decide +kernel⟩
theorem in_TakingGame_play : Cond.instanceMethod md_TakingGame_play.1 ∈ jm_gt := jm_in 748 (by decide +kernel) (by decide +kernel)
theorem se_TakingGame_play : Cond.selects md_TakingGame_play.1.cls md_TakingGame_play.1 md_TakingGame_play.1 ∈ jm_gt := jm_in 749 (by decide +kernel) (by decide +kernel)
theorem mk_TakingGame_lead : jm_MOk md_TakingGame_lead 3 := ⟨jm_in 755 (by decide +kernel) (by decide +kernel), jm_in 85 (by decide +kernel) (by decide +kernel), by decide +kernel, ⟨by decide +kernel, by decide +kernel⟩, by decide +kernel, by decide +kernel⟩
theorem st_TakingGame_lead : Cond.static md_TakingGame_lead.1 ∈ jm_gt := jm_in 754 (by decide +kernel) (by decide +kernel)
theorem mk_TakingGame_canTake : jm_MOk md_TakingGame_canTake 2 := ⟨jm_in 760 (by decide +kernel) (by decide +kernel), jm_in 85 (by decide +kernel) (by decide +kernel), by decide +kernel, ⟨by decide +kernel, by decide +kernel⟩, by decide +kernel, by decide +kernel⟩
theorem in_TakingGame_canTake : Cond.instanceMethod md_TakingGame_canTake.1 ∈ jm_gt := jm_in 759 (by decide +kernel) (by decide +kernel)
theorem se_TakingGame_canTake : Cond.selects md_TakingGame_canTake.1.cls md_TakingGame_canTake.1 md_TakingGame_canTake.1 ∈ jm_gt := jm_in 29 (by decide +kernel) (by decide +kernel)
theorem mk_TakingGame_leadByTaking : jm_MOk md_TakingGame_leadByTaking 4 := ⟨jm_in 763 (by decide +kernel) (by decide +kernel), jm_in 85 (by decide +kernel) (by decide +kernel), by decide +kernel, ⟨by decide +kernel, by decide +kernel⟩, by decide +kernel, by decide +kernel⟩
theorem st_TakingGame_leadByTaking : Cond.static md_TakingGame_leadByTaking.1 ∈ jm_gt := jm_in 762 (by decide +kernel) (by decide +kernel)
theorem mk_TakingGame_better : jm_MOk md_TakingGame_better 3 := ⟨jm_in 766 (by decide +kernel) (by decide +kernel), jm_in 85 (by decide +kernel) (by decide +kernel), by decide +kernel, ⟨by decide +kernel, by decide +kernel⟩, by decide +kernel, by decide +kernel⟩
theorem st_TakingGame_better : Cond.static md_TakingGame_better.1 ∈ jm_gt := jm_in 765 (by decide +kernel) (by decide +kernel)
theorem mk_TakingGame_leadByEnding : jm_MOk md_TakingGame_leadByEnding 3 := ⟨jm_in 771 (by decide +kernel) (by decide +kernel), jm_in 85 (by decide +kernel) (by decide +kernel), by decide +kernel, ⟨by decide +kernel, by decide +kernel⟩, by decide +kernel, by decide +kernel⟩
theorem st_TakingGame_leadByEnding : Cond.static md_TakingGame_leadByEnding.1 ∈ jm_gt := jm_in 770 (by decide +kernel) (by decide +kernel)
theorem mk_X_odds : jm_MOk md_X_odds 3 := ⟨jm_in 775 (by decide +kernel) (by decide +kernel), jm_in 77 (by decide +kernel) (by decide +kernel), by decide +kernel, ⟨by decide +kernel, by decide +kernel⟩, by decide +kernel, by decide +kernel⟩
theorem in_X_odds : Cond.instanceMethod md_X_odds.1 ∈ jm_gt := jm_in 773 (by decide +kernel) (by decide +kernel)
theorem se_X_odds : Cond.selects md_X_odds.1.cls md_X_odds.1 md_X_odds.1 ∈ jm_gt := jm_in 774 (by decide +kernel) (by decide +kernel)
theorem mk_X_choose : jm_MOk md_X_choose 2 := ⟨jm_in 778 (by decide +kernel) (by decide +kernel), jm_in 77 (by decide +kernel) (by decide +kernel), by decide +kernel, ⟨by decide +kernel, by decide +kernel⟩, by decide +kernel, by decide +kernel⟩
theorem st_X_choose : Cond.static md_X_choose.1 ∈ jm_gt := jm_in 777 (by decide +kernel) (by decide +kernel)
theorem mk_X_power : jm_MOk md_X_power 2 := ⟨jm_in 781 (by decide +kernel) (by decide +kernel), jm_in 77 (by decide +kernel) (by decide +kernel), by decide +kernel, ⟨by decide +kernel, by decide +kernel⟩, by decide +kernel, by decide +kernel⟩
theorem st_X_power : Cond.static md_X_power.1 ∈ jm_gt := jm_in 780 (by decide +kernel) (by decide +kernel)
theorem mk_X_greatestCommonDivisor : jm_MOk md_X_greatestCommonDivisor 2 := ⟨jm_in 784 (by decide +kernel) (by decide +kernel), jm_in 77 (by decide +kernel) (by decide +kernel), by decide +kernel, ⟨by decide +kernel, by decide +kernel⟩, by decide +kernel, by decide +kernel⟩
theorem st_X_greatestCommonDivisor : Cond.static md_X_greatestCommonDivisor.1 ∈ jm_gt := jm_in 783 (by decide +kernel) (by decide +kernel)
theorem mk_X_worth : jm_MOk md_X_worth 1 := ⟨jm_in 788 (by decide +kernel) (by decide +kernel), jm_in 77 (by decide +kernel) (by decide +kernel), by decide +kernel, ⟨by decide +kernel, by decide +kernel⟩, by decide +kernel, by decide +kernel⟩
theorem in_X_worth : Cond.instanceMethod md_X_worth.1 ∈ jm_gt := jm_in 786 (by decide +kernel) (by decide +kernel)
theorem se_X_worth : Cond.selects md_X_worth.1.cls md_X_worth.1 md_X_worth.1 ∈ jm_gt := jm_in 787 (by decide +kernel) (by decide +kernel)
theorem mk_X_rate : jm_MOk md_X_rate 2 := ⟨jm_in 792 (by decide +kernel) (by decide +kernel), jm_in 77 (by decide +kernel) (by decide +kernel), by decide +kernel, ⟨by decide +kernel, by decide +kernel⟩, by decide +kernel, by decide +kernel⟩
theorem in_X_rate : Cond.instanceMethod md_X_rate.1 ∈ jm_gt := jm_in 790 (by decide +kernel) (by decide +kernel)
theorem se_X_rate : Cond.selects md_X_rate.1.cls md_X_rate.1 md_X_rate.1 ∈ jm_gt := jm_in 791 (by decide +kernel) (by decide +kernel)
theorem mk_X_ratePerson : jm_MOk md_X_ratePerson 1 := ⟨jm_in 796 (by decide +kernel) (by decide +kernel), jm_in 77 (by decide +kernel) (by decide +kernel), by decide +kernel, ⟨by decide +kernel, by decide +kernel⟩, by decide +kernel, by decide +kernel⟩
theorem in_X_ratePerson : Cond.instanceMethod md_X_ratePerson.1 ∈ jm_gt := jm_in 795 (by decide +kernel) (by decide +kernel)
theorem se_X_ratePerson : Cond.selects md_X_ratePerson.1.cls md_X_ratePerson.1 md_X_ratePerson.1 ∈ jm_gt := jm_in 30 (by decide +kernel) (by decide +kernel)
theorem mk_X_rateBarber : jm_MOk md_X_rateBarber 1 := ⟨jm_in 800 (by decide +kernel) (by decide +kernel), jm_in 77 (by decide +kernel) (by decide +kernel), by decide +kernel, ⟨by decide +kernel, by decide +kernel⟩, by decide +kernel, by decide +kernel⟩
theorem in_X_rateBarber : Cond.instanceMethod md_X_rateBarber.1 ∈ jm_gt := jm_in 799 (by decide +kernel) (by decide +kernel)
theorem se_X_rateBarber : Cond.selects md_X_rateBarber.1.cls md_X_rateBarber.1 md_X_rateBarber.1 ∈ jm_gt := jm_in 31 (by decide +kernel) (by decide +kernel)
theorem mk_X_rateThief : jm_MOk md_X_rateThief 1 := ⟨jm_in 805 (by decide +kernel) (by decide +kernel), jm_in 77 (by decide +kernel) (by decide +kernel), by decide +kernel, ⟨by decide +kernel, by decide +kernel⟩, by decide +kernel, by decide +kernel⟩
theorem in_X_rateThief : Cond.instanceMethod md_X_rateThief.1 ∈ jm_gt := jm_in 804 (by decide +kernel) (by decide +kernel)
theorem se_X_rateThief : Cond.selects md_X_rateThief.1.cls md_X_rateThief.1 md_X_rateThief.1 ∈ jm_gt := jm_in 32 (by decide +kernel) (by decide +kernel)
theorem mk_X_rateGrey : jm_MOk md_X_rateGrey 1 := ⟨jm_in 810 (by decide +kernel) (by decide +kernel), jm_in 77 (by decide +kernel) (by decide +kernel), by decide +kernel, ⟨by decide +kernel, by decide +kernel⟩, by decide +kernel, by decide +kernel⟩
theorem in_X_rateGrey : Cond.instanceMethod md_X_rateGrey.1 ∈ jm_gt := jm_in 809 (by decide +kernel) (by decide +kernel)
theorem se_X_rateGrey : Cond.selects md_X_rateGrey.1.cls md_X_rateGrey.1 md_X_rateGrey.1 ∈ jm_gt := jm_in 33 (by decide +kernel) (by decide +kernel)
theorem mk_X_rateTenth : jm_MOk md_X_rateTenth 1 := ⟨jm_in 815 (by decide +kernel) (by decide +kernel), jm_in 77 (by decide +kernel) (by decide +kernel), by decide +kernel, ⟨by decide +kernel, by decide +kernel⟩, by decide +kernel, by decide +kernel⟩
theorem in_X_rateTenth : Cond.instanceMethod md_X_rateTenth.1 ∈ jm_gt := jm_in 814 (by decide +kernel) (by decide +kernel)
theorem se_X_rateTenth : Cond.selects md_X_rateTenth.1.cls md_X_rateTenth.1 md_X_rateTenth.1 ∈ jm_gt := jm_in 34 (by decide +kernel) (by decide +kernel)
theorem mk_X_rateChild : jm_MOk md_X_rateChild 1 := ⟨jm_in 820 (by decide +kernel) (by decide +kernel), jm_in 77 (by decide +kernel) (by decide +kernel), by decide +kernel, ⟨by decide +kernel, by decide +kernel⟩, by decide +kernel, by decide +kernel⟩
theorem in_X_rateChild : Cond.instanceMethod md_X_rateChild.1 ∈ jm_gt := jm_in 819 (by decide +kernel) (by decide +kernel)
theorem se_X_rateChild : Cond.selects md_X_rateChild.1.cls md_X_rateChild.1 md_X_rateChild.1 ∈ jm_gt := jm_in 35 (by decide +kernel) (by decide +kernel)
theorem mk_X_keep : jm_MOk md_X_keep 1 := ⟨jm_in 825 (by decide +kernel) (by decide +kernel), jm_in 77 (by decide +kernel) (by decide +kernel), by decide +kernel, ⟨by decide +kernel, by decide +kernel⟩, by decide +kernel, by decide +kernel⟩
theorem in_X_keep : Cond.instanceMethod md_X_keep.1 ∈ jm_gt := jm_in 823 (by decide +kernel) (by decide +kernel)
theorem se_X_keep : Cond.selects md_X_keep.1.cls md_X_keep.1 md_X_keep.1 ∈ jm_gt := jm_in 824 (by decide +kernel) (by decide +kernel)
theorem mk_X_back : jm_MOk md_X_back 1 := ⟨jm_in 830 (by decide +kernel) (by decide +kernel), jm_in 77 (by decide +kernel) (by decide +kernel), by decide +kernel, ⟨by decide +kernel, by decide +kernel⟩, by decide +kernel, by decide +kernel⟩
theorem in_X_back : Cond.instanceMethod md_X_back.1 ∈ jm_gt := jm_in 828 (by decide +kernel) (by decide +kernel)
theorem se_X_back : Cond.selects md_X_back.1.cls md_X_back.1 md_X_back.1 ∈ jm_gt := jm_in 829 (by decide +kernel) (by decide +kernel)
theorem mk_X_count : jm_MOk md_X_count 1 := ⟨jm_in 834 (by decide +kernel) (by decide +kernel), jm_in 77 (by decide +kernel) (by decide +kernel), by decide +kernel, ⟨by decide +kernel, by decide +kernel⟩, by decide +kernel, by decide +kernel⟩
theorem in_X_count : Cond.instanceMethod md_X_count.1 ∈ jm_gt := jm_in 832 (by decide +kernel) (by decide +kernel)
theorem se_X_count : Cond.selects md_X_count.1.cls md_X_count.1 md_X_count.1 ∈ jm_gt := jm_in 833 (by decide +kernel) (by decide +kernel)
theorem mk_X_trace : jm_MOk md_X_trace 0 := ⟨jm_in 838 (by decide +kernel) (by decide +kernel), jm_in 77 (by decide +kernel) (by decide +kernel), by decide +kernel, ⟨by decide +kernel, by decide +kernel⟩, by decide +kernel, by decide +kernel⟩
theorem in_X_trace : Cond.instanceMethod md_X_trace.1 ∈ jm_gt := jm_in 836 (by decide +kernel) (by decide +kernel)
theorem se_X_trace : Cond.selects md_X_trace.1.cls md_X_trace.1 md_X_trace.1 ∈ jm_gt := jm_in 837 (by decide +kernel) (by decide +kernel)
theorem mk_M_init : jm_MOk md_M_init 0 := ⟨jm_in 843 (by decide +kernel) (by decide +kernel), jm_in 88 (by decide +kernel) (by decide +kernel), by decide +kernel, ⟨by decide +kernel, by decide +kernel⟩, by decide +kernel, by decide +kernel⟩
theorem in_M_init : Cond.instanceMethod md_M_init.1 ∈ jm_gt := jm_in 842 (by decide +kernel) (by decide +kernel)
theorem mk_M_type : jm_MOk md_M_type 1 := ⟨jm_in 966 (by decide +kernel) (by decide +kernel), jm_in 88 (by decide +kernel) (by decide +kernel), by decide +kernel, ⟨by decide +kernel, by decide +kernel⟩, by decide +kernel, by decide +kernel⟩
theorem in_M_type : Cond.instanceMethod md_M_type.1 ∈ jm_gt := jm_in 964 (by decide +kernel) (by decide +kernel)
theorem se_M_type : Cond.selects md_M_type.1.cls md_M_type.1 md_M_type.1 ∈ jm_gt := jm_in 965 (by decide +kernel) (by decide +kernel)
theorem mk_M_in : jm_MOk md_M_in 3 := ⟨jm_in 969 (by decide +kernel) (by decide +kernel), jm_in 88 (by decide +kernel) (by decide +kernel), by decide +kernel, ⟨by decide +kernel, by decide +kernel⟩, by decide +kernel, by decide +kernel⟩
theorem st_M_in : Cond.static md_M_in.1 ∈ jm_gt := jm_in 968 (by decide +kernel) (by decide +kernel)
theorem mk_M_clear : jm_MOk md_M_clear 0 := ⟨jm_in 973 (by decide +kernel) (by decide +kernel), jm_in 88 (by decide +kernel) (by decide +kernel), by decide +kernel, ⟨by decide +kernel, by decide +kernel⟩, by decide +kernel, by decide +kernel⟩
theorem in_M_clear : Cond.instanceMethod md_M_clear.1 ∈ jm_gt := jm_in 971 (by decide +kernel) (by decide +kernel)
theorem se_M_clear : Cond.selects md_M_clear.1.cls md_M_clear.1 md_M_clear.1 ∈ jm_gt := jm_in 972 (by decide +kernel) (by decide +kernel)
theorem mk_M_city : jm_MOk md_M_city 0 := ⟨jm_in 977 (by decide +kernel) (by decide +kernel), jm_in 88 (by decide +kernel) (by decide +kernel), by decide +kernel, ⟨by decide +kernel, by decide +kernel⟩, by decide +kernel, by decide +kernel⟩
theorem in_M_city : Cond.instanceMethod md_M_city.1 ∈ jm_gt := jm_in 975 (by decide +kernel) (by decide +kernel)
theorem se_M_city : Cond.selects md_M_city.1.cls md_M_city.1 md_M_city.1 ∈ jm_gt := jm_in 976 (by decide +kernel) (by decide +kernel)
theorem mk_M_next : jm_MOk md_M_next 0 := ⟨jm_in 981 (by decide +kernel) (by decide +kernel), jm_in 88 (by decide +kernel) (by decide +kernel), by decide +kernel, ⟨by decide +kernel, by decide +kernel⟩, by decide +kernel, by decide +kernel⟩
theorem in_M_next : Cond.instanceMethod md_M_next.1 ∈ jm_gt := jm_in 980 (by decide +kernel) (by decide +kernel)
theorem se_M_next : Cond.selects md_M_next.1.cls md_M_next.1 md_M_next.1 ∈ jm_gt := jm_in 36 (by decide +kernel) (by decide +kernel)
theorem mk_M_letterAt : jm_MOk md_M_letterAt 1 := ⟨jm_in 985 (by decide +kernel) (by decide +kernel), jm_in 88 (by decide +kernel) (by decide +kernel), by decide +kernel, ⟨by decide +kernel, by decide +kernel⟩, by decide +kernel, by decide +kernel⟩
theorem in_M_letterAt : Cond.instanceMethod md_M_letterAt.1 ∈ jm_gt := jm_in 984 (by decide +kernel) (by decide +kernel)
theorem se_M_letterAt : Cond.selects md_M_letterAt.1.cls md_M_letterAt.1 md_M_letterAt.1 ∈ jm_gt := jm_in 37 (by decide +kernel) (by decide +kernel)
theorem mk_M_readItem : jm_MOk md_M_readItem 1 := ⟨jm_in 989 (by decide +kernel) (by decide +kernel), jm_in 88 (by decide +kernel) (by decide +kernel), by decide +kernel, ⟨by decide +kernel, by decide +kernel⟩, by decide +kernel, by decide +kernel⟩
theorem in_M_readItem : Cond.instanceMethod md_M_readItem.1 ∈ jm_gt := jm_in 988 (by decide +kernel) (by decide +kernel)
theorem se_M_readItem : Cond.selects md_M_readItem.1.cls md_M_readItem.1 md_M_readItem.1 ∈ jm_gt := jm_in 38 (by decide +kernel) (by decide +kernel)
theorem mk_M_readRooms : jm_MOk md_M_readRooms 1 := ⟨jm_in 993 (by decide +kernel) (by decide +kernel), jm_in 88 (by decide +kernel) (by decide +kernel), by decide +kernel, ⟨by decide +kernel, by decide +kernel⟩, by decide +kernel, by decide +kernel⟩
theorem in_M_readRooms : Cond.instanceMethod md_M_readRooms.1 ∈ jm_gt := jm_in 992 (by decide +kernel) (by decide +kernel)
theorem se_M_readRooms : Cond.selects md_M_readRooms.1.cls md_M_readRooms.1 md_M_readRooms.1 ∈ jm_gt := jm_in 39 (by decide +kernel) (by decide +kernel)
theorem mk_M_must : jm_MOk md_M_must 1 := ⟨jm_in 997 (by decide +kernel) (by decide +kernel), jm_in 88 (by decide +kernel) (by decide +kernel), by decide +kernel, ⟨by decide +kernel, by decide +kernel⟩, by decide +kernel, by decide +kernel⟩
theorem in_M_must : Cond.instanceMethod md_M_must.1 ∈ jm_gt := jm_in 996 (by decide +kernel) (by decide +kernel)
theorem se_M_must : Cond.selects md_M_must.1.cls md_M_must.1 md_M_must.1 ∈ jm_gt := jm_in 40 (by decide +kernel) (by decide +kernel)
theorem mk_M_readInto : jm_MOk md_M_readInto 4 := ⟨jm_in 1001 (by decide +kernel) (by decide +kernel), jm_in 88 (by decide +kernel) (by decide +kernel), by decide +kernel, ⟨by decide +kernel, by decide +kernel⟩, by decide +kernel, by decide +kernel⟩
theorem in_M_readInto : Cond.instanceMethod md_M_readInto.1 ∈ jm_gt := jm_in 1000 (by decide +kernel) (by decide +kernel)
theorem se_M_readInto : Cond.selects md_M_readInto.1.cls md_M_readInto.1 md_M_readInto.1 ∈ jm_gt := jm_in 41 (by decide +kernel) (by decide +kernel)
theorem mk_M_readSteps : jm_MOk md_M_readSteps 0 := ⟨jm_in 1005 (by decide +kernel) (by decide +kernel), jm_in 88 (by decide +kernel) (by decide +kernel), by decide +kernel, ⟨by decide +kernel, by decide +kernel⟩, by decide +kernel, by decide +kernel⟩
theorem in_M_readSteps : Cond.instanceMethod md_M_readSteps.1 ∈ jm_gt := jm_in 1004 (by decide +kernel) (by decide +kernel)
theorem se_M_readSteps : Cond.selects md_M_readSteps.1.cls md_M_readSteps.1 md_M_readSteps.1 ∈ jm_gt := jm_in 42 (by decide +kernel) (by decide +kernel)
theorem mk_M_readDoor : jm_MOk md_M_readDoor 0 := ⟨jm_in 1009 (by decide +kernel) (by decide +kernel), jm_in 88 (by decide +kernel) (by decide +kernel), by decide +kernel, ⟨by decide +kernel, by decide +kernel⟩, by decide +kernel, by decide +kernel⟩
theorem in_M_readDoor : Cond.instanceMethod md_M_readDoor.1 ∈ jm_gt := jm_in 1008 (by decide +kernel) (by decide +kernel)
theorem se_M_readDoor : Cond.selects md_M_readDoor.1.cls md_M_readDoor.1 md_M_readDoor.1 ∈ jm_gt := jm_in 43 (by decide +kernel) (by decide +kernel)
theorem mk_M_readPerson : jm_MOk md_M_readPerson 0 := ⟨jm_in 1013 (by decide +kernel) (by decide +kernel), jm_in 88 (by decide +kernel) (by decide +kernel), by decide +kernel, ⟨by decide +kernel, by decide +kernel⟩, by decide +kernel, by decide +kernel⟩
theorem in_M_readPerson : Cond.instanceMethod md_M_readPerson.1 ∈ jm_gt := jm_in 1012 (by decide +kernel) (by decide +kernel)
theorem se_M_readPerson : Cond.selects md_M_readPerson.1.cls md_M_readPerson.1 md_M_readPerson.1 ∈ jm_gt := jm_in 44 (by decide +kernel) (by decide +kernel)
theorem mk_M_readThing : jm_MOk md_M_readThing 0 := ⟨jm_in 1017 (by decide +kernel) (by decide +kernel), jm_in 88 (by decide +kernel) (by decide +kernel), by decide +kernel, ⟨by decide +kernel, by decide +kernel⟩, by decide +kernel, by decide +kernel⟩
theorem in_M_readThing : Cond.instanceMethod md_M_readThing.1 ∈ jm_gt := jm_in 1016 (by decide +kernel) (by decide +kernel)
theorem se_M_readThing : Cond.selects md_M_readThing.1.cls md_M_readThing.1 md_M_readThing.1 ∈ jm_gt := jm_in 45 (by decide +kernel) (by decide +kernel)
theorem mk_M_settles : jm_MOk md_M_settles 0 := ⟨jm_in 1021 (by decide +kernel) (by decide +kernel), jm_in 88 (by decide +kernel) (by decide +kernel), by decide +kernel, ⟨by decide +kernel, by decide +kernel⟩, by decide +kernel, by decide +kernel⟩
theorem in_M_settles : Cond.instanceMethod md_M_settles.1 ∈ jm_gt := jm_in 1020 (by decide +kernel) (by decide +kernel)
theorem se_M_settles : Cond.selects md_M_settles.1.cls md_M_settles.1 md_M_settles.1 ∈ jm_gt := jm_in 46 (by decide +kernel) (by decide +kernel)
theorem mk_M_door : jm_MOk md_M_door 2 := ⟨jm_in 1025 (by decide +kernel) (by decide +kernel), jm_in 88 (by decide +kernel) (by decide +kernel), by decide +kernel, ⟨by decide +kernel, by decide +kernel⟩, by decide +kernel, by decide +kernel⟩
theorem in_M_door : Cond.instanceMethod md_M_door.1 ∈ jm_gt := jm_in 1023 (by decide +kernel) (by decide +kernel)
theorem se_M_door : Cond.selects md_M_door.1.cls md_M_door.1 md_M_door.1 ∈ jm_gt := jm_in 1024 (by decide +kernel) (by decide +kernel)
theorem mk_M_person : jm_MOk md_M_person 2 := ⟨jm_in 1029 (by decide +kernel) (by decide +kernel), jm_in 88 (by decide +kernel) (by decide +kernel), by decide +kernel, ⟨by decide +kernel, by decide +kernel⟩, by decide +kernel, by decide +kernel⟩
theorem in_M_person : Cond.instanceMethod md_M_person.1 ∈ jm_gt := jm_in 1027 (by decide +kernel) (by decide +kernel)
theorem se_M_person : Cond.selects md_M_person.1.cls md_M_person.1 md_M_person.1 ∈ jm_gt := jm_in 1028 (by decide +kernel) (by decide +kernel)
theorem mk_M_isPerson : jm_MOk md_M_isPerson 1 := ⟨jm_in 1033 (by decide +kernel) (by decide +kernel), jm_in 88 (by decide +kernel) (by decide +kernel), by decide +kernel, ⟨by decide +kernel, by decide +kernel⟩, by decide +kernel, by decide +kernel⟩
theorem in_M_isPerson : Cond.instanceMethod md_M_isPerson.1 ∈ jm_gt := jm_in 1032 (by decide +kernel) (by decide +kernel)
theorem se_M_isPerson : Cond.selects md_M_isPerson.1.cls md_M_isPerson.1 md_M_isPerson.1 ∈ jm_gt := jm_in 47 (by decide +kernel) (by decide +kernel)
theorem mk_M_has : jm_MOk md_M_has 2 := ⟨jm_in 1036 (by decide +kernel) (by decide +kernel), jm_in 88 (by decide +kernel) (by decide +kernel), by decide +kernel, ⟨by decide +kernel, by decide +kernel⟩, by decide +kernel, by decide +kernel⟩
theorem st_M_has : Cond.static md_M_has.1 ∈ jm_gt := jm_in 1035 (by decide +kernel) (by decide +kernel)
theorem mk_M_thing : jm_MOk md_M_thing 2 := ⟨jm_in 1040 (by decide +kernel) (by decide +kernel), jm_in 88 (by decide +kernel) (by decide +kernel), by decide +kernel, ⟨by decide +kernel, by decide +kernel⟩, by decide +kernel, by decide +kernel⟩
theorem in_M_thing : Cond.instanceMethod md_M_thing.1 ∈ jm_gt := jm_in 1038 (by decide +kernel) (by decide +kernel)
theorem se_M_thing : Cond.selects md_M_thing.1.cls md_M_thing.1 md_M_thing.1 ∈ jm_gt := jm_in 1039 (by decide +kernel) (by decide +kernel)
theorem mk_M_isThing : jm_MOk md_M_isThing 1 := ⟨jm_in 1044 (by decide +kernel) (by decide +kernel), jm_in 88 (by decide +kernel) (by decide +kernel), by decide +kernel, ⟨by decide +kernel, by decide +kernel⟩, by decide +kernel, by decide +kernel⟩
theorem in_M_isThing : Cond.instanceMethod md_M_isThing.1 ∈ jm_gt := jm_in 1043 (by decide +kernel) (by decide +kernel)
theorem se_M_isThing : Cond.selects md_M_isThing.1.cls md_M_isThing.1 md_M_isThing.1 ∈ jm_gt := jm_in 48 (by decide +kernel) (by decide +kernel)
theorem mk_M_now : jm_MOk md_M_now 1 := ⟨jm_in 1048 (by decide +kernel) (by decide +kernel), jm_in 88 (by decide +kernel) (by decide +kernel), by decide +kernel, ⟨by decide +kernel, by decide +kernel⟩, by decide +kernel, by decide +kernel⟩
theorem in_M_now : Cond.instanceMethod md_M_now.1 ∈ jm_gt := jm_in 1046 (by decide +kernel) (by decide +kernel)
theorem se_M_now : Cond.selects md_M_now.1.cls md_M_now.1 md_M_now.1 ∈ jm_gt := jm_in 1047 (by decide +kernel) (by decide +kernel)
theorem mk_M_second : jm_MOk md_M_second 0 := ⟨jm_in 1052 (by decide +kernel) (by decide +kernel), jm_in 88 (by decide +kernel) (by decide +kernel), by decide +kernel, ⟨by decide +kernel, by decide +kernel⟩, by decide +kernel, by decide +kernel⟩
theorem in_M_second : Cond.instanceMethod md_M_second.1 ∈ jm_gt := jm_in 1050 (by decide +kernel) (by decide +kernel)
theorem se_M_second : Cond.selects md_M_second.1.cls md_M_second.1 md_M_second.1 ∈ jm_gt := jm_in 1051 (by decide +kernel) (by decide +kernel)
theorem mk_M_remembers : jm_MOk md_M_remembers 0 := ⟨jm_in 1056 (by decide +kernel) (by decide +kernel), jm_in 88 (by decide +kernel) (by decide +kernel), by decide +kernel, ⟨by decide +kernel, by decide +kernel⟩, by decide +kernel, by decide +kernel⟩
theorem in_M_remembers : Cond.instanceMethod md_M_remembers.1 ∈ jm_gt := jm_in 1055 (by decide +kernel) (by decide +kernel)
theorem se_M_remembers : Cond.selects md_M_remembers.1.cls md_M_remembers.1 md_M_remembers.1 ∈ jm_gt := jm_in 49 (by decide +kernel) (by decide +kernel)
theorem mk_M_press : jm_MOk md_M_press 1 := ⟨jm_in 1060 (by decide +kernel) (by decide +kernel), jm_in 88 (by decide +kernel) (by decide +kernel), by decide +kernel, ⟨by decide +kernel, by decide +kernel⟩, by decide +kernel, by decide +kernel⟩
theorem in_M_press : Cond.instanceMethod md_M_press.1 ∈ jm_gt := jm_in 1058 (by decide +kernel) (by decide +kernel)
theorem se_M_press : Cond.selects md_M_press.1.cls md_M_press.1 md_M_press.1 ∈ jm_gt := jm_in 1059 (by decide +kernel) (by decide +kernel)
theorem mk_M_carry : jm_MOk md_M_carry 3 := ⟨jm_in 1064 (by decide +kernel) (by decide +kernel), jm_in 88 (by decide +kernel) (by decide +kernel), by decide +kernel, ⟨by decide +kernel, by decide +kernel⟩, by decide +kernel, by decide +kernel⟩
theorem in_M_carry : Cond.instanceMethod md_M_carry.1 ∈ jm_gt := jm_in 1062 (by decide +kernel) (by decide +kernel)
theorem se_M_carry : Cond.selects md_M_carry.1.cls md_M_carry.1 md_M_carry.1 ∈ jm_gt := jm_in 1063 (by decide +kernel) (by decide +kernel)
theorem mk_M_isRoom : jm_MOk md_M_isRoom 1 := ⟨jm_in 1068 (by decide +kernel) (by decide +kernel), jm_in 88 (by decide +kernel) (by decide +kernel), by decide +kernel, ⟨by decide +kernel, by decide +kernel⟩, by decide +kernel, by decide +kernel⟩
theorem in_M_isRoom : Cond.instanceMethod md_M_isRoom.1 ∈ jm_gt := jm_in 1067 (by decide +kernel) (by decide +kernel)
theorem se_M_isRoom : Cond.selects md_M_isRoom.1.cls md_M_isRoom.1 md_M_isRoom.1 ∈ jm_gt := jm_in 50 (by decide +kernel) (by decide +kernel)
theorem mk_M_findFar : jm_MOk md_M_findFar 1 := ⟨jm_in 1072 (by decide +kernel) (by decide +kernel), jm_in 88 (by decide +kernel) (by decide +kernel), by decide +kernel, ⟨by decide +kernel, by decide +kernel⟩, by decide +kernel, by decide +kernel⟩
theorem in_M_findFar : Cond.instanceMethod md_M_findFar.1 ∈ jm_gt := jm_in 1071 (by decide +kernel) (by decide +kernel)
theorem se_M_findFar : Cond.selects md_M_findFar.1.cls md_M_findFar.1 md_M_findFar.1 ∈ jm_gt := jm_in 51 (by decide +kernel) (by decide +kernel)
theorem mk_M_by : jm_MOk md_M_by 3 := ⟨jm_in 1076 (by decide +kernel) (by decide +kernel), jm_in 88 (by decide +kernel) (by decide +kernel), by decide +kernel, ⟨by decide +kernel, by decide +kernel⟩, by decide +kernel, by decide +kernel⟩
theorem in_M_by : Cond.instanceMethod md_M_by.1 ∈ jm_gt := jm_in 1075 (by decide +kernel) (by decide +kernel)
theorem se_M_by : Cond.selects md_M_by.1.cls md_M_by.1 md_M_by.1 ∈ jm_gt := jm_in 52 (by decide +kernel) (by decide +kernel)
theorem mk_M_mayGo : jm_MOk md_M_mayGo 2 := ⟨jm_in 1080 (by decide +kernel) (by decide +kernel), jm_in 88 (by decide +kernel) (by decide +kernel), by decide +kernel, ⟨by decide +kernel, by decide +kernel⟩, by decide +kernel, by decide +kernel⟩
theorem in_M_mayGo : Cond.instanceMethod md_M_mayGo.1 ∈ jm_gt := jm_in 1079 (by decide +kernel) (by decide +kernel)
theorem se_M_mayGo : Cond.selects md_M_mayGo.1.cls md_M_mayGo.1 md_M_mayGo.1 ∈ jm_gt := jm_in 53 (by decide +kernel) (by decide +kernel)
theorem mk_M_placeIn : jm_MOk md_M_placeIn 2 := ⟨jm_in 1084 (by decide +kernel) (by decide +kernel), jm_in 88 (by decide +kernel) (by decide +kernel), by decide +kernel, ⟨by decide +kernel, by decide +kernel⟩, by decide +kernel, by decide +kernel⟩
theorem in_M_placeIn : Cond.instanceMethod md_M_placeIn.1 ∈ jm_gt := jm_in 1083 (by decide +kernel) (by decide +kernel)
theorem se_M_placeIn : Cond.selects md_M_placeIn.1.cls md_M_placeIn.1 md_M_placeIn.1 ∈ jm_gt := jm_in 54 (by decide +kernel) (by decide +kernel)
theorem mk_M_walk : jm_MOk md_M_walk 2 := ⟨jm_in 1088 (by decide +kernel) (by decide +kernel), jm_in 88 (by decide +kernel) (by decide +kernel), by decide +kernel, ⟨by decide +kernel, by decide +kernel⟩, by decide +kernel, by decide +kernel⟩
theorem in_M_walk : Cond.instanceMethod md_M_walk.1 ∈ jm_gt := jm_in 1086 (by decide +kernel) (by decide +kernel)
theorem se_M_walk : Cond.selects md_M_walk.1.cls md_M_walk.1 md_M_walk.1 ∈ jm_gt := jm_in 1087 (by decide +kernel) (by decide +kernel)
theorem mk_M_undo : jm_MOk md_M_undo 0 := ⟨jm_in 1092 (by decide +kernel) (by decide +kernel), jm_in 88 (by decide +kernel) (by decide +kernel), by decide +kernel, ⟨by decide +kernel, by decide +kernel⟩, by decide +kernel, by decide +kernel⟩
theorem in_M_undo : Cond.instanceMethod md_M_undo.1 ∈ jm_gt := jm_in 1090 (by decide +kernel) (by decide +kernel)
theorem se_M_undo : Cond.selects md_M_undo.1.cls md_M_undo.1 md_M_undo.1 ∈ jm_gt := jm_in 1091 (by decide +kernel) (by decide +kernel)
theorem mk_M_where : jm_MOk md_M_where 2 := ⟨jm_in 1096 (by decide +kernel) (by decide +kernel), jm_in 88 (by decide +kernel) (by decide +kernel), by decide +kernel, ⟨by decide +kernel, by decide +kernel⟩, by decide +kernel, by decide +kernel⟩
theorem in_M_where : Cond.instanceMethod md_M_where.1 ∈ jm_gt := jm_in 1094 (by decide +kernel) (by decide +kernel)
theorem se_M_where : Cond.selects md_M_where.1.cls md_M_where.1 md_M_where.1 ∈ jm_gt := jm_in 1095 (by decide +kernel) (by decide +kernel)
theorem mk_M_roomIn : jm_MOk md_M_roomIn 2 := ⟨jm_in 1100 (by decide +kernel) (by decide +kernel), jm_in 88 (by decide +kernel) (by decide +kernel), by decide +kernel, ⟨by decide +kernel, by decide +kernel⟩, by decide +kernel, by decide +kernel⟩
theorem in_M_roomIn : Cond.instanceMethod md_M_roomIn.1 ∈ jm_gt := jm_in 1099 (by decide +kernel) (by decide +kernel)
theorem se_M_roomIn : Cond.selects md_M_roomIn.1.cls md_M_roomIn.1 md_M_roomIn.1 ∈ jm_gt := jm_in 55 (by decide +kernel) (by decide +kernel)
theorem mk_M_isNow : jm_MOk md_M_isNow 1 := ⟨jm_in 1104 (by decide +kernel) (by decide +kernel), jm_in 88 (by decide +kernel) (by decide +kernel), by decide +kernel, ⟨by decide +kernel, by decide +kernel⟩, by decide +kernel, by decide +kernel⟩
theorem in_M_isNow : Cond.instanceMethod md_M_isNow.1 ∈ jm_gt := jm_in 1103 (by decide +kernel) (by decide +kernel)
theorem se_M_isNow : Cond.selects md_M_isNow.1.cls md_M_isNow.1 md_M_isNow.1 ∈ jm_gt := jm_in 56 (by decide +kernel) (by decide +kernel)
theorem mk_M_later : jm_MOk md_M_later 3 := ⟨jm_in 1108 (by decide +kernel) (by decide +kernel), jm_in 88 (by decide +kernel) (by decide +kernel), by decide +kernel, ⟨by decide +kernel, by decide +kernel⟩, by decide +kernel, by decide +kernel⟩
theorem in_M_later : Cond.instanceMethod md_M_later.1 ∈ jm_gt := jm_in 1107 (by decide +kernel) (by decide +kernel)
theorem se_M_later : Cond.selects md_M_later.1.cls md_M_later.1 md_M_later.1 ∈ jm_gt := jm_in 57 (by decide +kernel) (by decide +kernel)
theorem mk_M_roomOf : jm_MOk md_M_roomOf 2 := ⟨jm_in 1112 (by decide +kernel) (by decide +kernel), jm_in 88 (by decide +kernel) (by decide +kernel), by decide +kernel, ⟨by decide +kernel, by decide +kernel⟩, by decide +kernel, by decide +kernel⟩
theorem in_M_roomOf : Cond.instanceMethod md_M_roomOf.1 ∈ jm_gt := jm_in 1111 (by decide +kernel) (by decide +kernel)
theorem se_M_roomOf : Cond.selects md_M_roomOf.1.cls md_M_roomOf.1 md_M_roomOf.1 ∈ jm_gt := jm_in 58 (by decide +kernel) (by decide +kernel)
theorem mk_M_upon : jm_MOk md_M_upon 2 := ⟨jm_in 1116 (by decide +kernel) (by decide +kernel), jm_in 88 (by decide +kernel) (by decide +kernel), by decide +kernel, ⟨by decide +kernel, by decide +kernel⟩, by decide +kernel, by decide +kernel⟩
theorem in_M_upon : Cond.instanceMethod md_M_upon.1 ∈ jm_gt := jm_in 1114 (by decide +kernel) (by decide +kernel)
theorem se_M_upon : Cond.selects md_M_upon.1.cls md_M_upon.1 md_M_upon.1 ∈ jm_gt := jm_in 1115 (by decide +kernel) (by decide +kernel)
theorem mk_M_reach : jm_MOk md_M_reach 1 := ⟨jm_in 1120 (by decide +kernel) (by decide +kernel), jm_in 88 (by decide +kernel) (by decide +kernel), by decide +kernel, ⟨by decide +kernel, by decide +kernel⟩, by decide +kernel, by decide +kernel⟩
theorem in_M_reach : Cond.instanceMethod md_M_reach.1 ∈ jm_gt := jm_in 1118 (by decide +kernel) (by decide +kernel)
theorem se_M_reach : Cond.selects md_M_reach.1.cls md_M_reach.1 md_M_reach.1 ∈ jm_gt := jm_in 1119 (by decide +kernel) (by decide +kernel)
theorem mk_M_presses : jm_MOk md_M_presses 4 := ⟨jm_in 1124 (by decide +kernel) (by decide +kernel), jm_in 88 (by decide +kernel) (by decide +kernel), by decide +kernel, ⟨by decide +kernel, by decide +kernel⟩, by decide +kernel, by decide +kernel⟩
theorem in_M_presses : Cond.instanceMethod md_M_presses.1 ∈ jm_gt := jm_in 1122 (by decide +kernel) (by decide +kernel)
theorem se_M_presses : Cond.selects md_M_presses.1.cls md_M_presses.1 md_M_presses.1 ∈ jm_gt := jm_in 1123 (by decide +kernel) (by decide +kernel)
theorem mk_M_mayPress : jm_MOk md_M_mayPress 0 := ⟨jm_in 1128 (by decide +kernel) (by decide +kernel), jm_in 88 (by decide +kernel) (by decide +kernel), by decide +kernel, ⟨by decide +kernel, by decide +kernel⟩, by decide +kernel, by decide +kernel⟩
theorem in_M_mayPress : Cond.instanceMethod md_M_mayPress.1 ∈ jm_gt := jm_in 1127 (by decide +kernel) (by decide +kernel)
theorem se_M_mayPress : Cond.selects md_M_mayPress.1.cls md_M_mayPress.1 md_M_mayPress.1 ∈ jm_gt := jm_in 59 (by decide +kernel) (by decide +kernel)
theorem mk_M_fewest : jm_MOk md_M_fewest 4 := ⟨jm_in 1132 (by decide +kernel) (by decide +kernel), jm_in 88 (by decide +kernel) (by decide +kernel), by decide +kernel, ⟨by decide +kernel, by decide +kernel⟩, by decide +kernel, by decide +kernel⟩
theorem in_M_fewest : Cond.instanceMethod md_M_fewest.1 ∈ jm_gt := jm_in 1131 (by decide +kernel) (by decide +kernel)
theorem se_M_fewest : Cond.selects md_M_fewest.1.cls md_M_fewest.1 md_M_fewest.1 ∈ jm_gt := jm_in 60 (by decide +kernel) (by decide +kernel)
theorem mk_M_pressesMore : jm_MOk md_M_pressesMore 2 := ⟨jm_in 1136 (by decide +kernel) (by decide +kernel), jm_in 88 (by decide +kernel) (by decide +kernel), by decide +kernel, ⟨by decide +kernel, by decide +kernel⟩, by decide +kernel, by decide +kernel⟩
theorem in_M_pressesMore : Cond.instanceMethod md_M_pressesMore.1 ∈ jm_gt := jm_in 1135 (by decide +kernel) (by decide +kernel)
theorem se_M_pressesMore : Cond.selects md_M_pressesMore.1.cls md_M_pressesMore.1 md_M_pressesMore.1 ∈ jm_gt := jm_in 61 (by decide +kernel) (by decide +kernel)
theorem mk_M_carriesOn : jm_MOk md_M_carriesOn 4 := ⟨jm_in 1140 (by decide +kernel) (by decide +kernel), jm_in 88 (by decide +kernel) (by decide +kernel), by decide +kernel, ⟨by decide +kernel, by decide +kernel⟩, by decide +kernel, by decide +kernel⟩
theorem in_M_carriesOn : Cond.instanceMethod md_M_carriesOn.1 ∈ jm_gt := jm_in 1139 (by decide +kernel) (by decide +kernel)
theorem se_M_carriesOn : Cond.selects md_M_carriesOn.1.cls md_M_carriesOn.1 md_M_carriesOn.1 ∈ jm_gt := jm_in 62 (by decide +kernel) (by decide +kernel)
theorem mk_M_putIn : jm_MOk md_M_putIn 2 := ⟨jm_in 1144 (by decide +kernel) (by decide +kernel), jm_in 88 (by decide +kernel) (by decide +kernel), by decide +kernel, ⟨by decide +kernel, by decide +kernel⟩, by decide +kernel, by decide +kernel⟩
theorem in_M_putIn : Cond.instanceMethod md_M_putIn.1 ∈ jm_gt := jm_in 1143 (by decide +kernel) (by decide +kernel)
theorem se_M_putIn : Cond.selects md_M_putIn.1.cls md_M_putIn.1 md_M_putIn.1 ∈ jm_gt := jm_in 63 (by decide +kernel) (by decide +kernel)
theorem mk_M_notes : jm_MOk md_M_notes 2 := ⟨jm_in 1148 (by decide +kernel) (by decide +kernel), jm_in 88 (by decide +kernel) (by decide +kernel), by decide +kernel, ⟨by decide +kernel, by decide +kernel⟩, by decide +kernel, by decide +kernel⟩
theorem in_M_notes : Cond.instanceMethod md_M_notes.1 ∈ jm_gt := jm_in 1147 (by decide +kernel) (by decide +kernel)
theorem se_M_notes : Cond.selects md_M_notes.1.cls md_M_notes.1 md_M_notes.1 ∈ jm_gt := jm_in 64 (by decide +kernel) (by decide +kernel)
theorem mk_M_bits : jm_MOk md_M_bits 1 := ⟨jm_in 1151 (by decide +kernel) (by decide +kernel), jm_in 88 (by decide +kernel) (by decide +kernel), by decide +kernel, ⟨by decide +kernel, by decide +kernel⟩, by decide +kernel, by decide +kernel⟩
theorem st_M_bits : Cond.static md_M_bits.1 ∈ jm_gt := jm_in 1150 (by decide +kernel) (by decide +kernel)
theorem mk_M_found : jm_MOk md_M_found 3 := ⟨jm_in 1155 (by decide +kernel) (by decide +kernel), jm_in 88 (by decide +kernel) (by decide +kernel), by decide +kernel, ⟨by decide +kernel, by decide +kernel⟩, by decide +kernel, by decide +kernel⟩
theorem in_M_found : Cond.instanceMethod md_M_found.1 ∈ jm_gt := jm_in 1153 (by decide +kernel) (by decide +kernel)
theorem se_M_found : Cond.selects md_M_found.1.cls md_M_found.1 md_M_found.1 ∈ jm_gt := jm_in 1154 (by decide +kernel) (by decide +kernel)
theorem mk_M_forget : jm_MOk md_M_forget 0 := ⟨jm_in 1159 (by decide +kernel) (by decide +kernel), jm_in 88 (by decide +kernel) (by decide +kernel), by decide +kernel, ⟨by decide +kernel, by decide +kernel⟩, by decide +kernel, by decide +kernel⟩
theorem in_M_forget : Cond.instanceMethod md_M_forget.1 ∈ jm_gt := jm_in 1157 (by decide +kernel) (by decide +kernel)
theorem se_M_forget : Cond.selects md_M_forget.1.cls md_M_forget.1 md_M_forget.1 ∈ jm_gt := jm_in 1158 (by decide +kernel) (by decide +kernel)
theorem mk_M_doneBy : jm_MOk md_M_doneBy 0 := ⟨jm_in 1163 (by decide +kernel) (by decide +kernel), jm_in 88 (by decide +kernel) (by decide +kernel), by decide +kernel, ⟨by decide +kernel, by decide +kernel⟩, by decide +kernel, by decide +kernel⟩
theorem in_M_doneBy : Cond.instanceMethod md_M_doneBy.1 ∈ jm_gt := jm_in 1161 (by decide +kernel) (by decide +kernel)
theorem se_M_doneBy : Cond.selects md_M_doneBy.1.cls md_M_doneBy.1 md_M_doneBy.1 ∈ jm_gt := jm_in 1162 (by decide +kernel) (by decide +kernel)
theorem mk_M_canHave : jm_MOk md_M_canHave 1 := ⟨jm_in 1167 (by decide +kernel) (by decide +kernel), jm_in 88 (by decide +kernel) (by decide +kernel), by decide +kernel, ⟨by decide +kernel, by decide +kernel⟩, by decide +kernel, by decide +kernel⟩
theorem in_M_canHave : Cond.instanceMethod md_M_canHave.1 ∈ jm_gt := jm_in 1166 (by decide +kernel) (by decide +kernel)
theorem se_M_canHave : Cond.selects md_M_canHave.1.cls md_M_canHave.1 md_M_canHave.1 ∈ jm_gt := jm_in 65 (by decide +kernel) (by decide +kernel)
theorem mk_M_isFound : jm_MOk md_M_isFound 1 := ⟨jm_in 1171 (by decide +kernel) (by decide +kernel), jm_in 88 (by decide +kernel) (by decide +kernel), by decide +kernel, ⟨by decide +kernel, by decide +kernel⟩, by decide +kernel, by decide +kernel⟩
theorem in_M_isFound : Cond.instanceMethod md_M_isFound.1 ∈ jm_gt := jm_in 1170 (by decide +kernel) (by decide +kernel)
theorem se_M_isFound : Cond.selects md_M_isFound.1.cls md_M_isFound.1 md_M_isFound.1 ∈ jm_gt := jm_in 66 (by decide +kernel) (by decide +kernel)
theorem mk_M_findCosts : jm_MOk md_M_findCosts 1 := ⟨jm_in 1175 (by decide +kernel) (by decide +kernel), jm_in 88 (by decide +kernel) (by decide +kernel), by decide +kernel, ⟨by decide +kernel, by decide +kernel⟩, by decide +kernel, by decide +kernel⟩
theorem in_M_findCosts : Cond.instanceMethod md_M_findCosts.1 ∈ jm_gt := jm_in 1174 (by decide +kernel) (by decide +kernel)
theorem se_M_findCosts : Cond.selects md_M_findCosts.1.cls md_M_findCosts.1 md_M_findCosts.1 ∈ jm_gt := jm_in 67 (by decide +kernel) (by decide +kernel)
theorem mk_M_isSo : jm_MOk md_M_isSo 2 := ⟨jm_in 1179 (by decide +kernel) (by decide +kernel), jm_in 88 (by decide +kernel) (by decide +kernel), by decide +kernel, ⟨by decide +kernel, by decide +kernel⟩, by decide +kernel, by decide +kernel⟩
theorem in_M_isSo : Cond.instanceMethod md_M_isSo.1 ∈ jm_gt := jm_in 1178 (by decide +kernel) (by decide +kernel)
theorem se_M_isSo : Cond.selects md_M_isSo.1.cls md_M_isSo.1 md_M_isSo.1 ∈ jm_gt := jm_in 68 (by decide +kernel) (by decide +kernel)
theorem mk_M_guard : jm_MOk md_M_guard 2 := ⟨jm_in 1183 (by decide +kernel) (by decide +kernel), jm_in 88 (by decide +kernel) (by decide +kernel), by decide +kernel, ⟨by decide +kernel, by decide +kernel⟩, by decide +kernel, by decide +kernel⟩
theorem in_M_guard : Cond.instanceMethod md_M_guard.1 ∈ jm_gt := jm_in 1181 (by decide +kernel) (by decide +kernel)
theorem se_M_guard : Cond.selects md_M_guard.1.cls md_M_guard.1 md_M_guard.1 ∈ jm_gt := jm_in 1182 (by decide +kernel) (by decide +kernel)
theorem mk_M_canCarry : jm_MOk md_M_canCarry 3 := ⟨jm_in 1187 (by decide +kernel) (by decide +kernel), jm_in 88 (by decide +kernel) (by decide +kernel), by decide +kernel, ⟨by decide +kernel, by decide +kernel⟩, by decide +kernel, by decide +kernel⟩
theorem in_M_canCarry : Cond.instanceMethod md_M_canCarry.1 ∈ jm_gt := jm_in 1186 (by decide +kernel) (by decide +kernel)
theorem se_M_canCarry : Cond.selects md_M_canCarry.1.cls md_M_canCarry.1 md_M_canCarry.1 ∈ jm_gt := jm_in 69 (by decide +kernel) (by decide +kernel)
theorem mk_M_taking : jm_MOk md_M_taking 2 := ⟨jm_in 1191 (by decide +kernel) (by decide +kernel), jm_in 88 (by decide +kernel) (by decide +kernel), by decide +kernel, ⟨by decide +kernel, by decide +kernel⟩, by decide +kernel, by decide +kernel⟩
theorem in_M_taking : Cond.instanceMethod md_M_taking.1 ∈ jm_gt := jm_in 1189 (by decide +kernel) (by decide +kernel)
theorem se_M_taking : Cond.selects md_M_taking.1.cls md_M_taking.1 md_M_taking.1 ∈ jm_gt := jm_in 1190 (by decide +kernel) (by decide +kernel)
theorem mk_M_comesBack : jm_MOk md_M_comesBack 2 := ⟨jm_in 1196 (by decide +kernel) (by decide +kernel), jm_in 88 (by decide +kernel) (by decide +kernel), by decide +kernel, ⟨by decide +kernel, by decide +kernel⟩, by decide +kernel, by decide +kernel⟩
theorem in_M_comesBack : Cond.instanceMethod md_M_comesBack.1 ∈ jm_gt := jm_in 1195 (by decide +kernel) (by decide +kernel)
theorem se_M_comesBack : Cond.selects md_M_comesBack.1.cls md_M_comesBack.1 md_M_comesBack.1 ∈ jm_gt := jm_in 70 (by decide +kernel) (by decide +kernel)
theorem mk_M_triesOn : jm_MOk md_M_triesOn 2 := ⟨jm_in 1200 (by decide +kernel) (by decide +kernel), jm_in 88 (by decide +kernel) (by decide +kernel), by decide +kernel, ⟨by decide +kernel, by decide +kernel⟩, by decide +kernel, by decide +kernel⟩
theorem in_M_triesOn : Cond.instanceMethod md_M_triesOn.1 ∈ jm_gt := jm_in 1199 (by decide +kernel) (by decide +kernel)
theorem se_M_triesOn : Cond.selects md_M_triesOn.1.cls md_M_triesOn.1 md_M_triesOn.1 ∈ jm_gt := jm_in 71 (by decide +kernel) (by decide +kernel)
theorem mk_M_copiesOn : jm_MOk md_M_copiesOn 1 := ⟨jm_in 1204 (by decide +kernel) (by decide +kernel), jm_in 88 (by decide +kernel) (by decide +kernel), by decide +kernel, ⟨by decide +kernel, by decide +kernel⟩, by decide +kernel, by decide +kernel⟩
theorem in_M_copiesOn : Cond.instanceMethod md_M_copiesOn.1 ∈ jm_gt := jm_in 1203 (by decide +kernel) (by decide +kernel)
theorem se_M_copiesOn : Cond.selects md_M_copiesOn.1.cls md_M_copiesOn.1 md_M_copiesOn.1 ∈ jm_gt := jm_in 72 (by decide +kernel) (by decide +kernel)
theorem mk_M_odds : jm_MOk md_M_odds 3 := ⟨jm_in 1208 (by decide +kernel) (by decide +kernel), jm_in 88 (by decide +kernel) (by decide +kernel), by decide +kernel, ⟨by decide +kernel, by decide +kernel⟩, by decide +kernel, by decide +kernel⟩
theorem in_M_odds : Cond.instanceMethod md_M_odds.1 ∈ jm_gt := jm_in 1206 (by decide +kernel) (by decide +kernel)
theorem se_M_odds : Cond.selects md_M_odds.1.cls md_M_odds.1 md_M_odds.1 ∈ jm_gt := jm_in 1207 (by decide +kernel) (by decide +kernel)
theorem mk_M_worth : jm_MOk md_M_worth 1 := ⟨jm_in 1212 (by decide +kernel) (by decide +kernel), jm_in 88 (by decide +kernel) (by decide +kernel), by decide +kernel, ⟨by decide +kernel, by decide +kernel⟩, by decide +kernel, by decide +kernel⟩
theorem in_M_worth : Cond.instanceMethod md_M_worth.1 ∈ jm_gt := jm_in 1210 (by decide +kernel) (by decide +kernel)
theorem se_M_worth : Cond.selects md_M_worth.1.cls md_M_worth.1 md_M_worth.1 ∈ jm_gt := jm_in 1211 (by decide +kernel) (by decide +kernel)
theorem mk_M_rate : jm_MOk md_M_rate 2 := ⟨jm_in 1216 (by decide +kernel) (by decide +kernel), jm_in 88 (by decide +kernel) (by decide +kernel), by decide +kernel, ⟨by decide +kernel, by decide +kernel⟩, by decide +kernel, by decide +kernel⟩
theorem in_M_rate : Cond.instanceMethod md_M_rate.1 ∈ jm_gt := jm_in 1214 (by decide +kernel) (by decide +kernel)
theorem se_M_rate : Cond.selects md_M_rate.1.cls md_M_rate.1 md_M_rate.1 ∈ jm_gt := jm_in 1215 (by decide +kernel) (by decide +kernel)
theorem mk_M_personRate : jm_MOk md_M_personRate 1 := ⟨jm_in 1220 (by decide +kernel) (by decide +kernel), jm_in 88 (by decide +kernel) (by decide +kernel), by decide +kernel, ⟨by decide +kernel, by decide +kernel⟩, by decide +kernel, by decide +kernel⟩
theorem in_M_personRate : Cond.instanceMethod md_M_personRate.1 ∈ jm_gt := jm_in 1219 (by decide +kernel) (by decide +kernel)
theorem se_M_personRate : Cond.selects md_M_personRate.1.cls md_M_personRate.1 md_M_personRate.1 ∈ jm_gt := jm_in 73 (by decide +kernel) (by decide +kernel)
theorem mk_M_barberRate : jm_MOk md_M_barberRate 1 := ⟨jm_in 1224 (by decide +kernel) (by decide +kernel), jm_in 88 (by decide +kernel) (by decide +kernel), by decide +kernel, ⟨by decide +kernel, by decide +kernel⟩, by decide +kernel, by decide +kernel⟩
theorem in_M_barberRate : Cond.instanceMethod md_M_barberRate.1 ∈ jm_gt := jm_in 1223 (by decide +kernel) (by decide +kernel)
theorem se_M_barberRate : Cond.selects md_M_barberRate.1.cls md_M_barberRate.1 md_M_barberRate.1 ∈ jm_gt := jm_in 74 (by decide +kernel) (by decide +kernel)
theorem mk_M_thiefRate : jm_MOk md_M_thiefRate 1 := ⟨jm_in 1229 (by decide +kernel) (by decide +kernel), jm_in 88 (by decide +kernel) (by decide +kernel), by decide +kernel, ⟨by decide +kernel, by decide +kernel⟩, by decide +kernel, by decide +kernel⟩
theorem in_M_thiefRate : Cond.instanceMethod md_M_thiefRate.1 ∈ jm_gt := jm_in 1228 (by decide +kernel) (by decide +kernel)
theorem se_M_thiefRate : Cond.selects md_M_thiefRate.1.cls md_M_thiefRate.1 md_M_thiefRate.1 ∈ jm_gt := jm_in 75 (by decide +kernel) (by decide +kernel)
theorem mk_M_keep : jm_MOk md_M_keep 1 := ⟨jm_in 1237 (by decide +kernel) (by decide +kernel), jm_in 88 (by decide +kernel) (by decide +kernel), by decide +kernel, ⟨by decide +kernel, by decide +kernel⟩, by decide +kernel, by decide +kernel⟩
theorem in_M_keep : Cond.instanceMethod md_M_keep.1 ∈ jm_gt := jm_in 1235 (by decide +kernel) (by decide +kernel)
theorem se_M_keep : Cond.selects md_M_keep.1.cls md_M_keep.1 md_M_keep.1 ∈ jm_gt := jm_in 1236 (by decide +kernel) (by decide +kernel)
theorem mk_M_back : jm_MOk md_M_back 1 := ⟨jm_in 1241 (by decide +kernel) (by decide +kernel), jm_in 88 (by decide +kernel) (by decide +kernel), by decide +kernel, ⟨by decide +kernel, by decide +kernel⟩, by decide +kernel, by decide +kernel⟩
theorem in_M_back : Cond.instanceMethod md_M_back.1 ∈ jm_gt := jm_in 1239 (by decide +kernel) (by decide +kernel)
theorem se_M_back : Cond.selects md_M_back.1.cls md_M_back.1 md_M_back.1 ∈ jm_gt := jm_in 1240 (by decide +kernel) (by decide +kernel)
theorem mk_M_count : jm_MOk md_M_count 1 := ⟨jm_in 1245 (by decide +kernel) (by decide +kernel), jm_in 88 (by decide +kernel) (by decide +kernel), by decide +kernel, ⟨by decide +kernel, by decide +kernel⟩, by decide +kernel, by decide +kernel⟩
theorem in_M_count : Cond.instanceMethod md_M_count.1 ∈ jm_gt := jm_in 1243 (by decide +kernel) (by decide +kernel)
theorem se_M_count : Cond.selects md_M_count.1.cls md_M_count.1 md_M_count.1 ∈ jm_gt := jm_in 1244 (by decide +kernel) (by decide +kernel)
theorem mk_M_trace : jm_MOk md_M_trace 0 := ⟨jm_in 1249 (by decide +kernel) (by decide +kernel), jm_in 88 (by decide +kernel) (by decide +kernel), by decide +kernel, ⟨by decide +kernel, by decide +kernel⟩, by decide +kernel, by decide +kernel⟩
theorem in_M_trace : Cond.instanceMethod md_M_trace.1 ∈ jm_gt := jm_in 1247 (by decide +kernel) (by decide +kernel)
theorem se_M_trace : Cond.selects md_M_trace.1.cls md_M_trace.1 md_M_trace.1 ∈ jm_gt := jm_in 1248 (by decide +kernel) (by decide +kernel)
end
section
/-! ===== wrappers (by program, wip/gen/gen8.py) ===== -/
section MINMAX
variable {d mc ms pc i : Nat} {μ : jm_Md} {ls : jm_Ls} {st : List jm_V} {M : jm_M} {Q : Option jm_V → jm_M → Prop} {r : List (Instr × Nat)}
theorem go_max {a b : Int} (hw : Cond.methodLink μ.1.cls i Lib.Math.max.name ∈ jm_gt) (ha : jm_rg a) (hb : jm_rg b) (h8 : (st.map jm_ct).sum ≤ 8) (hd : jm_dc μ.2.1 pc ((.invokestatic i, 3) :: r) = true) (k : jm_dc μ.2.1 (pc + 3) r = true → jm_Go d mc ms μ (pc + 3) ls (.inl (max a b) :: st) M Q) : jm_Go d mc ms μ pc ls (.inl b :: .inl a :: st) M Q := by
  intro G p e R s m args below meth c H locs cells slots lr C hF hL hc hs hR hS hl
  have hts := C.2.2.2.2.2.2.2.1
  have hwt := jm_wt (G := G) h8
  refine va_mmax C.1 C.2.1 (C.2.2.2.2.1.trans hl.2.1.symm) C.2.2.2.2.2.1 (hts _ hw) (hts _ st_Math_max) (hts _ ii_Math_max) (hts _ co_Math_max) (by omega) (by omega) (by omega) (by omega) (jm_d1 hd) ?_
  have K := k (jm_d2 hd) G p e R s m args below meth c H locs cells slots lr C hF hL hc hs hR hS hl
  have e1 : (if Int32.ofInt a < Int32.ofInt b then Int32.ofInt b else Int32.ofInt a) = Int32.ofInt (max a b) := by
    by_cases h : a < b
    · rw [if_pos ((jr_lt ha hb).mpr h), show max a b = b by omega]
    · rw [if_neg (fun q => h ((jr_lt ha hb).mp q)), show max a b = a by omega]
  rw [e1]
  exact K
theorem go_min {a b : Int} (hw : Cond.methodLink μ.1.cls i Lib.Math.min.name ∈ jm_gt) (ha : jm_rg a) (hb : jm_rg b) (h8 : (st.map jm_ct).sum ≤ 8) (hd : jm_dc μ.2.1 pc ((.invokestatic i, 3) :: r) = true) (k : jm_dc μ.2.1 (pc + 3) r = true → jm_Go d mc ms μ (pc + 3) ls (.inl (min a b) :: st) M Q) : jm_Go d mc ms μ pc ls (.inl b :: .inl a :: st) M Q := by
  intro G p e R s m args below meth c H locs cells slots lr C hF hL hc hs hR hS hl
  have hts := C.2.2.2.2.2.2.2.1
  have hwt := jm_wt (G := G) h8
  refine va_mmin C.1 C.2.1 (C.2.2.2.2.1.trans hl.2.1.symm) C.2.2.2.2.2.1 (hts _ hw) (hts _ st_Math_min) (hts _ ii_Math_min) (hts _ co_Math_min) (by omega) (by omega) (by omega) (by omega) (jm_d1 hd) ?_
  have K := k (jm_d2 hd) G p e R s m args below meth c H locs cells slots lr C hF hL hc hs hR hS hl
  have e1 : (if Int32.ofInt b < Int32.ofInt a then Int32.ofInt b else Int32.ofInt a) = Int32.ofInt (min a b) := by
    by_cases h : b < a
    · rw [if_pos ((jr_lt hb ha).mpr h), show min a b = b by omega]
    · rw [if_neg (fun q => h ((jr_lt hb ha).mp q)), show min a b = a by omega]
  rw [e1]
  exact K
theorem go_alen {a n : Nat} (hs : M.2.1 a = (20, n)) (hd : jm_dc μ.2.1 pc ((.arraylength, 1) :: r) = true) (k : jm_dc μ.2.1 (pc + 1) r = true → jm_Go d mc ms μ (pc + 1) ls (.inl (n : Int) :: st) M Q) : jm_Go d mc ms μ pc ls (.inr (.inl a) :: st) M Q := by
  intro G p e R s m args below meth c H locs cells slots lr C hF hL hc hs0 hR hS hl
  obtain ⟨b, rfl, hb⟩ := jm_at hR (show (M.2.1 a).1 < 98 by rw [hs]; simp)
  rw [jm_cl_I hs] at hb
  refine va_alen C.1 C.2.1 C.2.2.2.2.2.2.2.2.2.1 hR.2.1 b 0 hb rfl (v := Int32.ofInt (n : Int)) Int32.ofInt_eq_ofNat.symm (jm_d1 hd) ?_
  exact k (jm_d2 hd) G p e R s m args below meth c H locs cells slots lr C hF hL hc hs0 hR hS hl
end MINMAX
/-- what does not change of a memory -/
abbrev jm_P : Type := (Nat × Nat) × ((Nat → Nat × Nat) × (Nat → Nat → Option Nat))
abbrev jm_I : Type := Nat → Nat → Int
abbrev jx (P : jm_P) (I : jm_I) : jm_M := (P.1, P.2.1, P.2.2, I)
def jx_Q (P : jm_P) (Q : Option jm_V → jm_I → Prop) : Option jm_V → jm_M → Prop := fun r M => ∃ I, M = jx P I ∧ Q r I
/-- from here the method comes to its end, no cell being made -/
def Gx (P : jm_P) (d : Nat) (μ : jm_Md) (pc : Nat) (ls : jm_Ls) (st : List jm_V) (I : jm_I) (Q : Option jm_V → jm_I → Prop) : Prop := jm_Go d 0 0 μ pc ls st (jx P I) (jx_Q P Q)
def Cx (P : jm_P) (d : Nat) (ν : jm_Md) (as : List jm_V) (I : jm_I) (K : Option jm_V → jm_I → Prop) : Prop := jm_Call d 0 0 ν as (jx P I) (jx_Q P K)
theorem Cx.mono {P : jm_P} {d : Nat} {ν : jm_Md} {as : List jm_V} {I : jm_I} {K K' : Option jm_V → jm_I → Prop} (h : Cx P d ν as I K') (hk : ∀ r I, K' r I → K r I) : Cx P d ν as I K := jm_Go.mono h (fun r M ⟨I, h1, h2⟩ => ⟨I, h1, hk r I h2⟩)
theorem Gx.mono {P : jm_P} {d pc : Nat} {μ : jm_Md} {ls : jm_Ls} {st : List jm_V} {I : jm_I} {K K' : Option jm_V → jm_I → Prop} (h : Gx P d μ pc ls st I K') (hk : ∀ r I, K' r I → K r I) : Gx P d μ pc ls st I K := jm_Go.mono h (fun r M ⟨I, h1, h2⟩ => ⟨I, h1, hk r I h2⟩)
section GX
variable {P : jm_P} {d pc n i : Nat} {μ ν : jm_Md} {ls : jm_Ls} {st : List jm_V} {I : jm_I} {Q : Option jm_V → jm_I → Prop} {r : List (Instr × Nat)}
theorem gx_back {rest : List jm_V} {as : List jm_V} (k : Cx P d ν as I (fun v I' => Gx P (d + 1) μ (pc + 3) ls (v.toList ++ rest) I' Q)) : jm_Call d 0 0 ν as (jx P I) (fun v M' => jm_Go (d + 1) 0 0 μ (pc + 3) ls (v.toList ++ rest) M' (jx_Q P Q)) :=
  jm_Go.mono k (fun r M ⟨I', h1, h2⟩ => by subst h1; exact h2)
theorem gx_static (as rest : List jm_V) (hM : jm_MOk ν n) (hw : Cond.methodLink μ.1.cls i ν.1 ∈ jm_gt) (hst : Cond.static ν.1 ∈ jm_gt) (hn : as.length = n) (hx : as.length ≤ ν.2.2.1) (hc : as.all (fun v => jm_ct v == 1) = true) (h8 : (rest.map jm_ct).sum ≤ 8) (hs : st = as.reverse ++ rest) (hd : jm_dc μ.2.1 pc ((.invokestatic i, 3) :: r) = true) (k : Cx P d ν as I (fun v I' => Gx P (d + 1) μ (pc + 3) ls (v.toList ++ rest) I' Q)) : jm_Go (d + 1) 0 0 μ pc ls st (jx P I) (jx_Q P Q) :=
  go_static as rest hM hw hst hn hx hc h8 hs rfl rfl hd (gx_back k)
theorem gx_virtual (a c : Nat) (as rest : List jm_V) (hM : jm_MOk ν n) (hC : jm_COk c) (hcn : jm_cn c = ν.1.cls) (hw : Cond.methodLink μ.1.cls i ν.1 ∈ jm_gt) (hin : Cond.instanceMethod ν.1 ∈ jm_gt) (hse : Cond.selects ν.1.cls ν.1 ν.1 ∈ jm_gt) (hk : (P.2.1 a).1 = c) (hn : as.length = n) (hx : as.length + 1 ≤ ν.2.2.1) (hc : as.all (fun v => jm_ct v == 1) = true) (h8 : (rest.map jm_ct).sum ≤ 8) (hs : st = as.reverse ++ .inr (.inl a) :: rest)
    (hd : jm_dc μ.2.1 pc ((.invokevirtual i, 3) :: r) = true) (k : Cx P d ν (.inr (.inl a) :: as) I (fun v I' => Gx P (d + 1) μ (pc + 3) ls (v.toList ++ rest) I' Q)) : jm_Go (d + 1) 0 0 μ pc ls st (jx P I) (jx_Q P Q) :=
  go_virtual a c as rest hM hC hcn hw hin hse hk hn hx hc h8 hs rfl rfl hd (gx_back k)
end GX
/-- a city and its rows -/
def jx_City (P : jm_P) (c : Nat) : Prop := 0 < c ∧ P.2.1 (c + 0) = (0, 0) ∧ P.2.1 (c + 1) = (20, 8) ∧ P.2.1 (c + 2) = (20, 8) ∧ P.2.1 (c + 3) = (20, 8) ∧ P.2.1 (c + 4) = (20, 5) ∧ P.2.1 (c + 5) = (20, 5) ∧ P.2.1 (c + 6) = (20, 5) ∧ P.2.1 (c + 7) = (23, 5) ∧ P.2.1 (c + 8) = (20, 4) ∧ P.2.1 (c + 9) = (20, 4) ∧ P.2.1 (c + 10) = (20, 4) ∧ P.2.1 (c + 11) = (20, 4) ∧ P.2.1 (c + 12) = (20, 4) ∧ P.2.1 (c + 13) = (23, 6) ∧ P.2.1 (c + 14) = (20, 6) ∧ P.2.1 (c + 15) = (20, 6) ∧ P.2.1 (c + 16) = (20, 6) ∧ P.2.1 (c + 17) = (20, 6) ∧ P.2.1 (c + 18) = (20, 6) ∧ P.2.1 (c + 19) = (20, 6) ∧ P.2.2 c 5 = some (c + 1) ∧ P.2.2 c 6 = some (c + 2) ∧ P.2.2 c 7 = some (c + 3) ∧ P.2.2 c 8 = some (c + 4) ∧ P.2.2 c 9 = some (c + 5) ∧ P.2.2 c 10 = some (c + 6) ∧ P.2.2 c 11 = some (c + 7) ∧ P.2.2 c 12 = some (c + 13) ∧ (∀ i, i < 5 → P.2.2 (c + 7) i = some (c + 8 + i)) ∧ (∀ i, i < 6 → P.2.2 (c + 13) i = some (c + 14 + i))
theorem ct_pos {P : jm_P} {c : Nat} (h : jx_City P c) : 0 < c := h.1
theorem ct_S0 {P : jm_P} {c : Nat} (h : jx_City P c) : P.2.1 (c + 0) = (0, 0) := h.2.1
theorem ct_S1 {P : jm_P} {c : Nat} (h : jx_City P c) : P.2.1 (c + 1) = (20, 8) := h.2.2.1
theorem ct_S2 {P : jm_P} {c : Nat} (h : jx_City P c) : P.2.1 (c + 2) = (20, 8) := h.2.2.2.1
theorem ct_S3 {P : jm_P} {c : Nat} (h : jx_City P c) : P.2.1 (c + 3) = (20, 8) := h.2.2.2.2.1
theorem ct_S4 {P : jm_P} {c : Nat} (h : jx_City P c) : P.2.1 (c + 4) = (20, 5) := h.2.2.2.2.2.1
theorem ct_S5 {P : jm_P} {c : Nat} (h : jx_City P c) : P.2.1 (c + 5) = (20, 5) := h.2.2.2.2.2.2.1
theorem ct_S6 {P : jm_P} {c : Nat} (h : jx_City P c) : P.2.1 (c + 6) = (20, 5) := h.2.2.2.2.2.2.2.1
theorem ct_S7 {P : jm_P} {c : Nat} (h : jx_City P c) : P.2.1 (c + 7) = (23, 5) := h.2.2.2.2.2.2.2.2.1
theorem ct_S8 {P : jm_P} {c : Nat} (h : jx_City P c) : P.2.1 (c + 8) = (20, 4) := h.2.2.2.2.2.2.2.2.2.1
theorem ct_S9 {P : jm_P} {c : Nat} (h : jx_City P c) : P.2.1 (c + 9) = (20, 4) := h.2.2.2.2.2.2.2.2.2.2.1
theorem ct_S10 {P : jm_P} {c : Nat} (h : jx_City P c) : P.2.1 (c + 10) = (20, 4) := h.2.2.2.2.2.2.2.2.2.2.2.1
theorem ct_S11 {P : jm_P} {c : Nat} (h : jx_City P c) : P.2.1 (c + 11) = (20, 4) := h.2.2.2.2.2.2.2.2.2.2.2.2.1
theorem ct_S12 {P : jm_P} {c : Nat} (h : jx_City P c) : P.2.1 (c + 12) = (20, 4) := h.2.2.2.2.2.2.2.2.2.2.2.2.2.1
theorem ct_S13 {P : jm_P} {c : Nat} (h : jx_City P c) : P.2.1 (c + 13) = (23, 6) := h.2.2.2.2.2.2.2.2.2.2.2.2.2.2.1
theorem ct_S14 {P : jm_P} {c : Nat} (h : jx_City P c) : P.2.1 (c + 14) = (20, 6) := h.2.2.2.2.2.2.2.2.2.2.2.2.2.2.2.1
theorem ct_S15 {P : jm_P} {c : Nat} (h : jx_City P c) : P.2.1 (c + 15) = (20, 6) := h.2.2.2.2.2.2.2.2.2.2.2.2.2.2.2.2.1
theorem ct_S16 {P : jm_P} {c : Nat} (h : jx_City P c) : P.2.1 (c + 16) = (20, 6) := h.2.2.2.2.2.2.2.2.2.2.2.2.2.2.2.2.2.1
theorem ct_S17 {P : jm_P} {c : Nat} (h : jx_City P c) : P.2.1 (c + 17) = (20, 6) := h.2.2.2.2.2.2.2.2.2.2.2.2.2.2.2.2.2.2.1
theorem ct_S18 {P : jm_P} {c : Nat} (h : jx_City P c) : P.2.1 (c + 18) = (20, 6) := h.2.2.2.2.2.2.2.2.2.2.2.2.2.2.2.2.2.2.2.1
theorem ct_S19 {P : jm_P} {c : Nat} (h : jx_City P c) : P.2.1 (c + 19) = (20, 6) := h.2.2.2.2.2.2.2.2.2.2.2.2.2.2.2.2.2.2.2.2.1
theorem ct_R5 {P : jm_P} {c : Nat} (h : jx_City P c) : P.2.2 c 5 = some (c + 1) := h.2.2.2.2.2.2.2.2.2.2.2.2.2.2.2.2.2.2.2.2.2.1
theorem ct_R6 {P : jm_P} {c : Nat} (h : jx_City P c) : P.2.2 c 6 = some (c + 2) := h.2.2.2.2.2.2.2.2.2.2.2.2.2.2.2.2.2.2.2.2.2.2.1
theorem ct_R7 {P : jm_P} {c : Nat} (h : jx_City P c) : P.2.2 c 7 = some (c + 3) := h.2.2.2.2.2.2.2.2.2.2.2.2.2.2.2.2.2.2.2.2.2.2.2.1
theorem ct_R8 {P : jm_P} {c : Nat} (h : jx_City P c) : P.2.2 c 8 = some (c + 4) := h.2.2.2.2.2.2.2.2.2.2.2.2.2.2.2.2.2.2.2.2.2.2.2.2.1
theorem ct_R9 {P : jm_P} {c : Nat} (h : jx_City P c) : P.2.2 c 9 = some (c + 5) := h.2.2.2.2.2.2.2.2.2.2.2.2.2.2.2.2.2.2.2.2.2.2.2.2.2.1
theorem ct_R10 {P : jm_P} {c : Nat} (h : jx_City P c) : P.2.2 c 10 = some (c + 6) := h.2.2.2.2.2.2.2.2.2.2.2.2.2.2.2.2.2.2.2.2.2.2.2.2.2.2.1
theorem ct_R11 {P : jm_P} {c : Nat} (h : jx_City P c) : P.2.2 c 11 = some (c + 7) := h.2.2.2.2.2.2.2.2.2.2.2.2.2.2.2.2.2.2.2.2.2.2.2.2.2.2.2.1
theorem ct_R12 {P : jm_P} {c : Nat} (h : jx_City P c) : P.2.2 c 12 = some (c + 13) := h.2.2.2.2.2.2.2.2.2.2.2.2.2.2.2.2.2.2.2.2.2.2.2.2.2.2.2.2.1
theorem ct_round {P : jm_P} {c : Nat} (h : jx_City P c) : ∀ i, i < 5 → P.2.2 (c + 7) i = some (c + 8 + i) := h.2.2.2.2.2.2.2.2.2.2.2.2.2.2.2.2.2.2.2.2.2.2.2.2.2.2.2.2.2.1
theorem ct_dist {P : jm_P} {c : Nat} (h : jx_City P c) : ∀ i, i < 6 → P.2.2 (c + 13) i = some (c + 14 + i) := h.2.2.2.2.2.2.2.2.2.2.2.2.2.2.2.2.2.2.2.2.2.2.2.2.2.2.2.2.2.2
theorem ct_K {P : jm_P} {c : Nat} (h : jx_City P c) : (P.2.1 c).1 = 0 := by rw [show c = c + 0 from rfl, ct_S0 h]
theorem ct_roundI {P : jm_P} {c : Nat} {i : Int} (h : jx_City P c) (h0 : 0 ≤ i) (h1 : i < 5) : P.2.2 (c + 7) i.toNat = some (c + 8 + i.toNat) := ct_round h _ (by omega)
theorem ct_distI {P : jm_P} {c : Nat} {i : Int} (h : jx_City P c) (h0 : 0 ≤ i) (h1 : i < 6) : P.2.2 (c + 13) i.toNat = some (c + 14 + i.toNat) := ct_dist h _ (by omega)
theorem ct_roundS {P : jm_P} {c : Nat} {i : Int} (h : jx_City P c) (h0 : 0 ≤ i) (h1 : i < 5) : P.2.1 (c + 8 + i.toNat) = (20, 4) := by
  obtain ⟨k, rfl⟩ : ∃ k : Nat, i = k := ⟨i.toNat, by omega⟩
  rw [Int.toNat_natCast]
  rcases (show k = 0 ∨ k = 1 ∨ k = 2 ∨ k = 3 ∨ k = 4 by omega) with rfl | rfl | rfl | rfl | rfl
  · exact ct_S8 h
  · exact ct_S9 h
  · exact ct_S10 h
  · exact ct_S11 h
  · exact ct_S12 h
theorem ct_distS {P : jm_P} {c : Nat} {i : Int} (h : jx_City P c) (h0 : 0 ≤ i) (h1 : i < 6) : P.2.1 (c + 14 + i.toNat) = (20, 6) := by
  obtain ⟨k, rfl⟩ : ∃ k : Nat, i = k := ⟨i.toNat, by omega⟩
  rw [Int.toNat_natCast]
  rcases (show k = 0 ∨ k = 1 ∨ k = 2 ∨ k = 3 ∨ k = 4 ∨ k = 5 by omega) with rfl | rfl | rfl | rfl | rfl | rfl
  · exact ct_S14 h
  · exact ct_S15 h
  · exact ct_S16 h
  · exact ct_S17 h
  · exact ct_S18 h
  · exact ct_S19 h
/-- a moment and its rows -/
def jx_Mom (P : jm_P) (c : Nat) : Prop := 0 < c ∧ P.2.1 (c + 0) = (5, 0) ∧ P.2.1 (c + 1) = (20, 5) ∧ P.2.1 (c + 2) = (20, 5) ∧ P.2.1 (c + 3) = (20, 5) ∧ P.2.1 (c + 4) = (20, 5) ∧ P.2.2 c 2 = some (c + 1) ∧ P.2.2 c 3 = some (c + 2) ∧ P.2.2 c 4 = some (c + 3) ∧ P.2.2 c 5 = some (c + 4)
theorem mo_pos {P : jm_P} {c : Nat} (h : jx_Mom P c) : 0 < c := h.1
theorem mo_S0 {P : jm_P} {c : Nat} (h : jx_Mom P c) : P.2.1 (c + 0) = (5, 0) := h.2.1
theorem mo_S1 {P : jm_P} {c : Nat} (h : jx_Mom P c) : P.2.1 (c + 1) = (20, 5) := h.2.2.1
theorem mo_S2 {P : jm_P} {c : Nat} (h : jx_Mom P c) : P.2.1 (c + 2) = (20, 5) := h.2.2.2.1
theorem mo_S3 {P : jm_P} {c : Nat} (h : jx_Mom P c) : P.2.1 (c + 3) = (20, 5) := h.2.2.2.2.1
theorem mo_S4 {P : jm_P} {c : Nat} (h : jx_Mom P c) : P.2.1 (c + 4) = (20, 5) := h.2.2.2.2.2.1
theorem mo_R2 {P : jm_P} {c : Nat} (h : jx_Mom P c) : P.2.2 c 2 = some (c + 1) := h.2.2.2.2.2.2.1
theorem mo_R3 {P : jm_P} {c : Nat} (h : jx_Mom P c) : P.2.2 c 3 = some (c + 2) := h.2.2.2.2.2.2.2.1
theorem mo_R4 {P : jm_P} {c : Nat} (h : jx_Mom P c) : P.2.2 c 4 = some (c + 3) := h.2.2.2.2.2.2.2.2.1
theorem mo_R5 {P : jm_P} {c : Nat} (h : jx_Mom P c) : P.2.2 c 5 = some (c + 4) := h.2.2.2.2.2.2.2.2.2
theorem mo_K {P : jm_P} {c : Nat} (h : jx_Mom P c) : (P.2.1 c).1 = 5 := by rw [show c = c + 0 from rfl, mo_S0 h]
def jx_Sl : List (Nat × Nat) := [(8, 0), (0, 0), (20, 8), (20, 8), (20, 8), (20, 5), (20, 5), (20, 5), (23, 5), (20, 4), (20, 4), (20, 4), (20, 4), (20, 4), (23, 6), (20, 6), (20, 6), (20, 6), (20, 6), (20, 6), (20, 6), (0, 0), (20, 8), (20, 8), (20, 8), (20, 5), (20, 5), (20, 5), (23, 5), (20, 4), (20, 4), (20, 4), (20, 4), (20, 4), (23, 6), (20, 6), (20, 6), (20, 6), (20, 6), (20, 6), (20, 6), (1, 0), (20, 200), (5, 0), (20, 5), (20, 5), (20, 5), (20, 5), (4, 0), (22, 10), (5, 0), (20, 5), (20, 5), (20, 5), (20, 5), (5, 0), (20, 5), (20, 5), (20, 5), (20, 5), (5, 0), (20, 5), (20, 5), (20, 5), (20, 5), (5, 0), (20, 5), (20, 5), (20, 5), (20, 5), (5, 0), (20, 5), (20, 5), (20, 5), (20, 5), (5, 0), (20, 5), (20, 5), (20, 5), (20, 5), (5, 0), (20, 5), (20, 5), (20, 5), (20, 5), (5, 0), (20, 5), (20, 5), (20, 5), (20, 5), (5, 0), (20, 5), (20, 5), (20, 5), (20, 5), (5, 0), (20, 5), (20, 5), (20, 5), (20, 5), (22, 2), (21, 2), (3, 0), (20, 4), (20, 4), (20, 4), (6, 0), (23, 32), (20, 13), (20, 13), (20, 13), (20, 13), (20, 13), (20, 13), (20, 13), (20, 13), (20, 13), (20, 13), (20, 13), (20, 13), (20, 13), (20, 13), (20, 13), (20, 13), (20, 13), (20, 13), (20, 13), (20, 13), (20, 13), (20, 13), (20, 13), (20, 13), (20, 13), (20, 13), (20, 13), (20, 13), (20, 13), (20, 13), (20, 13), (20, 13), (23, 5), (20, 10), (20, 10), (20, 10), (20, 10), (20, 10), (21, 32), (2, 0), (20, 6), (20, 6), (7, 0), (20, 5), (20, 2), (20, 2), (21, 2), (20, 6), (5, 0), (20, 5), (20, 5), (20, 5), (20, 5), (5, 0), (20, 5), (20, 5), (20, 5), (20, 5), (9, 0), (20, 24), (20, 5), (20, 20), (20, 27), (20, 270), (20, 54), (21, 2), (20, 12), (20, 200), (20, 2), (20, 24), (20, 10), (20, 5), (20, 20), (20, 36), (20, 320), (20, 320), (20, 6), (20, 6), (20, 90)]
/-- fixed references, 0 where none is -/
def jx_Rl : List (List Nat) := [[0, 0, 42, 43, 0, 44, 49, 101, 102, 103, 107, 148, 151, 156], [0, 0, 0, 0, 0, 3, 4, 5, 6, 7, 8, 9, 15], [], [], [], [], [], [], [10, 11, 12, 13, 14], [], [], [], [], [], [16, 17, 18, 19, 20, 21], [], [], [], [], [], [], [0, 0, 0, 0, 0, 23, 24, 25, 26, 27, 28, 29, 35], [], [], [], [], [], [], [30, 31, 32, 33, 34], [], [], [], [], [], [36, 37, 38, 39, 40, 41], [], [], [], [], [], [], [], [], [0, 0, 45, 46, 47, 48], [], [], [], [], [50], [51, 56, 61, 66, 71, 76, 81, 86, 91, 96], [0, 0, 52, 53, 54, 55], [], [], [], [], [0, 0, 57, 58, 59, 60], [], [], [], [], [0, 0, 62, 63, 64, 65], [], [], [], [], [0, 0, 67, 68, 69, 70], [], [], [], [], [0, 0, 72, 73, 74, 75], [], [], [], [], [0, 0, 77, 78, 79, 80], [], [], [], [], [0, 0, 82, 83, 84, 85], [], [], [], [], [0, 0, 87, 88, 89, 90], [], [], [], [], [0, 0, 92, 93, 94, 95], [], [], [], [], [0, 0, 97, 98, 99, 100], [], [], [], [], [157, 162], [], [0, 104, 105, 106], [], [], [], [0, 0, 0, 0, 108, 141, 147], [109, 110, 111, 112, 113, 114, 115, 116, 117, 118, 119, 120, 121, 122, 123, 124, 125, 126, 127, 128, 129, 130, 131, 132, 133, 134, 135, 136, 137, 138, 139, 140], [], [], [], [], [], [], [], [], [], [], [], [], [], [], [], [], [], [], [], [], [], [], [], [], [], [], [], [], [], [], [], [], [142, 143, 144, 145, 146], [], [], [], [], [], [], [149, 150], [], [], [0, 0, 152, 153, 154, 155], [], [], [], [], [], [0, 0, 158, 159, 160, 161], [], [], [], [], [0, 0, 163, 164, 165, 166], [], [], [], [], [0, 0, 168, 0, 0, 0, 169, 170, 171, 172, 0, 173, 174, 0, 175, 0, 176, 0, 0, 0, 0, 0, 0, 177, 0, 0, 178, 0, 179, 0, 180, 181, 182, 183, 184, 0, 185, 186, 187], [], [], [], [], [], [], [], [], [], [], [], [], [], [], [], [], [], [], [], []]
def jx_S (L : Nat) : Nat → Nat × Nat
  | 0 => (98, L)
  | a + 1 => jx_Sl.getD a (99, 0)
def jx_R : Nat → Nat → Option Nat
  | 0, _ => none
  | a + 1, k => match (jx_Rl.getD a []).getD k 0 with
    | 0 => none
    | v => some v
def jx_0 (L : Nat) : jm_P := ((187, 2904), jx_S L, jx_R)
theorem jx_cA {L : Nat} : jx_City (jx_0 L) 2 := by unfold jx_City; refine ⟨by decide, rfl, rfl, rfl, rfl, rfl, rfl, rfl, rfl, rfl, rfl, rfl, rfl, rfl, rfl, rfl, rfl, rfl, rfl, rfl, rfl, rfl, rfl, rfl, rfl, rfl, rfl, rfl, rfl, (show ∀ i, i < 5 → jx_R (2 + 7) i = some (2 + 8 + i) by decide), (show ∀ i, i < 6 → jx_R (2 + 13) i = some (2 + 14 + i) by decide)⟩
theorem jx_cB {L : Nat} : jx_City (jx_0 L) 22 := by unfold jx_City; refine ⟨by decide, rfl, rfl, rfl, rfl, rfl, rfl, rfl, rfl, rfl, rfl, rfl, rfl, rfl, rfl, rfl, rfl, rfl, rfl, rfl, rfl, rfl, rfl, rfl, rfl, rfl, rfl, rfl, rfl, (show ∀ i, i < 5 → jx_R (22 + 7) i = some (22 + 8 + i) by decide), (show ∀ i, i < 6 → jx_R (22 + 13) i = some (22 + 14 + i) by decide)⟩
theorem jx_m44 {L : Nat} : jx_Mom (jx_0 L) 44 := ⟨by decide, rfl, rfl, rfl, rfl, rfl, rfl, rfl, rfl, rfl⟩
theorem jx_m51 {L : Nat} : jx_Mom (jx_0 L) 51 := ⟨by decide, rfl, rfl, rfl, rfl, rfl, rfl, rfl, rfl, rfl⟩
theorem jx_m56 {L : Nat} : jx_Mom (jx_0 L) 56 := ⟨by decide, rfl, rfl, rfl, rfl, rfl, rfl, rfl, rfl, rfl⟩
theorem jx_m61 {L : Nat} : jx_Mom (jx_0 L) 61 := ⟨by decide, rfl, rfl, rfl, rfl, rfl, rfl, rfl, rfl, rfl⟩
theorem jx_m66 {L : Nat} : jx_Mom (jx_0 L) 66 := ⟨by decide, rfl, rfl, rfl, rfl, rfl, rfl, rfl, rfl, rfl⟩
theorem jx_m71 {L : Nat} : jx_Mom (jx_0 L) 71 := ⟨by decide, rfl, rfl, rfl, rfl, rfl, rfl, rfl, rfl, rfl⟩
theorem jx_m76 {L : Nat} : jx_Mom (jx_0 L) 76 := ⟨by decide, rfl, rfl, rfl, rfl, rfl, rfl, rfl, rfl, rfl⟩
theorem jx_m81 {L : Nat} : jx_Mom (jx_0 L) 81 := ⟨by decide, rfl, rfl, rfl, rfl, rfl, rfl, rfl, rfl, rfl⟩
theorem jx_m86 {L : Nat} : jx_Mom (jx_0 L) 86 := ⟨by decide, rfl, rfl, rfl, rfl, rfl, rfl, rfl, rfl, rfl⟩
theorem jx_m91 {L : Nat} : jx_Mom (jx_0 L) 91 := ⟨by decide, rfl, rfl, rfl, rfl, rfl, rfl, rfl, rfl, rfl⟩
theorem jx_m96 {L : Nat} : jx_Mom (jx_0 L) 96 := ⟨by decide, rfl, rfl, rfl, rfl, rfl, rfl, rfl, rfl, rfl⟩
theorem jx_m157 {L : Nat} : jx_Mom (jx_0 L) 157 := ⟨by decide, rfl, rfl, rfl, rfl, rfl, rfl, rfl, rfl, rfl⟩
theorem jx_m162 {L : Nat} : jx_Mom (jx_0 L) 162 := ⟨by decide, rfl, rfl, rfl, rfl, rfl, rfl, rfl, rfl, rfl⟩
end
section
/-! ===== a lemma a basic block (by program, wip/gen/gen9.py) ===== -/
theorem b_City_beAsAtFirst_0 {P : jm_P} {d : Nat} {I : jm_I} {Q : Option jm_V → jm_I → Prop} {a0 : Nat} (ha0 : jx_City P a0) (k : Q none (jm_up (jm_up (jm_up (jm_up (jm_up I a0 0 2) a0 1 10) a0 2 0) a0 3 0) a0 4 0)) : Cx P d md_City_beAsAtFirst [.inr (.inl a0)] I Q := by
  show jm_Go d 0 0 md_City_beAsAtFirst 0 [some (.inr (.inl a0))] [] (jx P I) (jx_Q P Q)
  have hd : jm_dc md_City_beAsAtFirst.2.1 0 [(.aload_n 0, 1), (.iconst 2, 1), (.putfield 41, 3), (.aload_n 0, 1), (.bipush 10, 2), (.putfield 45, 3), (.aload_n 0, 1), (.iconst 0, 1), (.putfield 48, 3), (.aload_n 0, 1), (.iconst 0, 1), (.putfield 51, 3), (.aload_n 0, 1), (.iconst 0, 1), (.putfield 54, 3), (.return_, 1)] = true := by decide +kernel
  refine go_aload_n rfl hd (fun hd => ?_)
  refine go_iconst hd (fun hd => ?_)
  refine go_putI co_X0 fl_0_41 (by decide) rfl (ct_K ha0) hd (fun hd => ?_)
  refine go_aload_n rfl hd (fun hd => ?_)
  refine go_bipush (by decide) hd (fun hd => ?_)
  refine go_putI co_X0 fl_0_45 (by decide) rfl (ct_K ha0) hd (fun hd => ?_)
  refine go_aload_n rfl hd (fun hd => ?_)
  refine go_iconst hd (fun hd => ?_)
  refine go_putI co_X0 fl_0_48 (by decide) rfl (ct_K ha0) hd (fun hd => ?_)
  refine go_aload_n rfl hd (fun hd => ?_)
  refine go_iconst hd (fun hd => ?_)
  refine go_putI co_X0 fl_0_51 (by decide) rfl (ct_K ha0) hd (fun hd => ?_)
  refine go_aload_n rfl hd (fun hd => ?_)
  refine go_iconst hd (fun hd => ?_)
  refine go_putI co_X0 fl_0_54 (by decide) rfl (ct_K ha0) hd (fun hd => ?_)
  exact go_vreturn hd rfl ⟨_, rfl, k⟩
theorem b_City_measure_0 {P : jm_P} {d : Nat} {I : jm_I} {Q : Option jm_V → jm_I → Prop} {a0 : Nat} (ha0 : jx_City P a0) (k : Gx P d md_City_measure 2 [some (.inr (.inl a0)), some (.inl 0)] [] I Q) : Cx P d md_City_measure [.inr (.inl a0)] I Q := by
  show jm_Go d 0 0 md_City_measure 0 [some (.inr (.inl a0)), none] [] (jx P I) (jx_Q P Q)
  have hd : jm_dc md_City_measure.2.1 0 [(.iconst 0, 1), (.istore_n 1, 1)] = true := by decide +kernel
  refine go_iconst hd (fun hd => ?_)
  refine go_istore_n (by decide) hd (fun hd => ?_)
  exact k
theorem b_City_measure_2 {P : jm_P} {d : Nat} {I : jm_I} {Q : Option jm_V → jm_I → Prop} {a0 : Nat} {x1 : Int} (ha0 : jx_City P a0) (hz : (-2147483648 ≤ x1 ∧ x1 < 2147483648) ∧ (-2147483648 ≤ I a0 0 ∧ I a0 0 < 2147483648)) (kt : (I a0 0) ≤ x1 → Gx P d md_City_measure 28 [some (.inr (.inl a0)), some (.inl x1)] [] I Q) (kf : ¬ ((I a0 0) ≤ x1) → Gx P d md_City_measure 10 [some (.inr (.inl a0)), some (.inl x1)] [] I Q) : Gx P d md_City_measure 2 [some (.inr (.inl a0)), some (.inl x1)] [] I Q := by
  obtain ⟨hz1, hz2⟩ := hz
  show jm_Go d 0 0 md_City_measure 2 [some (.inr (.inl a0)), some (.inl x1)] [] (jx P I) (jx_Q P Q)
  have hd : jm_dc md_City_measure.2.1 2 [(.iload_n 1, 1), (.aload_n 0, 1), (.getfield 41, 3), (.if_icmp .ge 21, 3)] = true := by decide +kernel
  refine go_iload_n rfl hd (fun hd => ?_)
  refine go_aload_n rfl hd (fun hd => ?_)
  refine go_getI co_X0 fl_0_41 (by decide) (Or.inl rfl) (ct_K ha0) hd (fun hd => ?_)
  exact go_icmp_ge (by decide) hz1 hz2 hd kt kf
theorem b_City_measure_10 {P : jm_P} {d : Nat} {I : jm_I} {Q : Option jm_V → jm_I → Prop} {a0 : Nat} {x1 : Int} (ha0 : jx_City P a0) (hz : (0 ≤ x1 ∧ x1 < 6)) (k : Cx P d md_City_measureFrom [.inr (.inl a0), .inl x1, .inl 0, .inr (.inl (a0 + 14 + x1.toNat))] I (fun v J => Gx P (d + 1) md_City_measure 22 [some (.inr (.inl a0)), some (.inl x1)] (v.toList ++ []) J Q)) : Gx P (d + 1) md_City_measure 10 [some (.inr (.inl a0)), some (.inl x1)] [] I Q := by
  have hz1 := hz
  show jm_Go (d + 1) 0 0 md_City_measure 10 [some (.inr (.inl a0)), some (.inl x1)] [] (jx P I) (jx_Q P Q)
  have hd : jm_dc md_City_measure.2.1 10 [(.aload_n 0, 1), (.iload_n 1, 1), (.iconst 0, 1), (.aload_n 0, 1), (.getfield 35, 3), (.iload_n 1, 1), (.aaload, 1), (.invokevirtual 57, 3)] = true := by decide +kernel
  refine go_aload_n rfl hd (fun hd => ?_)
  refine go_iload_n rfl hd (fun hd => ?_)
  refine go_iconst hd (fun hd => ?_)
  refine go_aload_n rfl hd (fun hd => ?_)
  refine go_getR co_X0 fl_0_35 (by decide) rfl (ct_K ha0) (ct_R12 ha0) hd (fun hd => ?_)
  refine go_iload_n rfl hd (fun hd => ?_)
  refine go_aaload (Or.inr (ct_S13 ha0)) hz1.1 hz1.2 (by decide) (ct_distI ha0 hz1.1 hz1.2) hd (fun hd => ?_)
  exact gx_virtual a0 0 [.inl x1, .inl 0, .inr (.inl (a0 + 14 + x1.toNat))] [] mk_City_measureFrom co_X0 rfl ml_0_57 in_City_measureFrom se_City_measureFrom (ct_K ha0) rfl (Nat.le_of_ble_eq_true rfl) rfl (Nat.le_of_ble_eq_true rfl) rfl hd k
theorem b_City_measure_22 {P : jm_P} {d : Nat} {I : jm_I} {Q : Option jm_V → jm_I → Prop} {o0 : Option jm_V} {x1 : Int}  (k : Gx P d md_City_measure 2 [o0, some (.inl (x1 + 1))] [] I Q) : Gx P d md_City_measure 22 [o0, some (.inl x1)] [] I Q := by
  show jm_Go d 0 0 md_City_measure 22 [o0, some (.inl x1)] [] (jx P I) (jx_Q P Q)
  have hd : jm_dc md_City_measure.2.1 22 [(.iinc 1 1, 3), (.goto (-23), 3)] = true := by decide +kernel
  refine go_iinc rfl hd (fun hd => ?_)
  exact go_goto (by decide) hd k
theorem b_City_measure_28 {P : jm_P} {d : Nat} {I : jm_I} {Q : Option jm_V → jm_I → Prop} {o0 : Option jm_V} {o1 : Option jm_V}  (k : Q none I) : Gx P d md_City_measure 28 [o0, o1] [] I Q := by
  show jm_Go d 0 0 md_City_measure 28 [o0, o1] [] (jx P I) (jx_Q P Q)
  have hd : jm_dc md_City_measure.2.1 28 [(.return_, 1)] = true := by decide +kernel
  exact go_vreturn hd rfl ⟨_, rfl, k⟩
theorem b_City_measureFrom_0 {P : jm_P} {d : Nat} {I : jm_I} {Q : Option jm_V → jm_I → Prop} {a0 : Nat} {x1 : Int} {x2 : Int} {a3 na3 : Nat} (ha0 : jx_City P a0) (ha3 : P.2.1 a3 = (20, na3)) (k : Cx P d md_Arrays_fill [.inr (.inl a3), .inl 1000] I (fun v J => Gx P (d + 1) md_City_measureFrom 7 [some (.inr (.inl a0)), some (.inl x1), some (.inl x2), some (.inr (.inl a3)), none, none, none] (v.toList ++ []) J Q)) : Cx P (d + 1) md_City_measureFrom [.inr (.inl a0), .inl x1, .inl x2, .inr (.inl a3)] I Q := by
  show jm_Go (d + 1) 0 0 md_City_measureFrom 0 [some (.inr (.inl a0)), some (.inl x1), some (.inl x2), some (.inr (.inl a3)), none, none, none] [] (jx P I) (jx_Q P Q)
  have hd : jm_dc md_City_measureFrom.2.1 0 [(.aload_n 3, 1), (.sipush 1000, 3), (.invokestatic 61, 3)] = true := by decide +kernel
  refine go_aload_n rfl hd (fun hd => ?_)
  refine go_sipush (by decide) hd (fun hd => ?_)
  exact gx_static [.inr (.inl a3), .inl 1000] [] mk_Arrays_fill ml_0_61 st_Arrays_fill rfl (Nat.le_of_ble_eq_true rfl) rfl (Nat.le_of_ble_eq_true rfl) rfl hd k
theorem b_City_measureFrom_7 {P : jm_P} {d : Nat} {I : jm_I} {Q : Option jm_V → jm_I → Prop} {o0 : Option jm_V} {x1 : Int} {o2 : Option jm_V} {a3 na3 : Nat} {o4 : Option jm_V} {o5 : Option jm_V} {o6 : Option jm_V} (ha3 : P.2.1 a3 = (20, na3)) (hz : (0 ≤ x1 ∧ x1 < na3) ∧ (na3 < 2147483648)) (k : Gx P d md_City_measureFrom 17 [o0, some (.inl x1), o2, some (.inr (.inl a3)), some (.inl 1), some (.inl 0), o6] [] (jm_up I a3 (x1.toNat) 0) Q) : Gx P d md_City_measureFrom 7 [o0, some (.inl x1), o2, some (.inr (.inl a3)), o4, o5, o6] [] I Q := by
  obtain ⟨hz1, hz2⟩ := hz
  show jm_Go d 0 0 md_City_measureFrom 7 [o0, some (.inl x1), o2, some (.inr (.inl a3)), o4, o5, o6] [] (jx P I) (jx_Q P Q)
  have hd : jm_dc md_City_measureFrom.2.1 7 [(.aload_n 3, 1), (.iload_n 1, 1), (.iconst 0, 1), (.iastore, 1), (.iconst 1, 1), (.istore 4, 2), (.iconst 0, 1), (.istore 5, 2)] = true := by decide +kernel
  refine go_aload_n rfl hd (fun hd => ?_)
  refine go_iload_n rfl hd (fun hd => ?_)
  refine go_iconst hd (fun hd => ?_)
  refine go_iastore ha3 hz1.1 hz1.2 hz2 hd (fun hd => ?_)
  refine go_iconst hd (fun hd => ?_)
  refine go_istore (by decide) hd (fun hd => ?_)
  refine go_iconst hd (fun hd => ?_)
  refine go_istore (by decide) hd (fun hd => ?_)
  exact k
theorem b_City_measureFrom_17 {P : jm_P} {d : Nat} {I : jm_I} {Q : Option jm_V → jm_I → Prop} {o0 : Option jm_V} {o1 : Option jm_V} {o2 : Option jm_V} {o3 : Option jm_V} {o4 : Option jm_V} {x5 : Int} {o6 : Option jm_V}  (hz : (-2147483648 ≤ x5 ∧ x5 < 2147483648)) (kt : 6 ≤ x5 → Gx P d md_City_measureFrom 88 [o0, o1, o2, o3, o4, some (.inl x5), o6] [] I Q) (kf : ¬ (6 ≤ x5) → Gx P d md_City_measureFrom 24 [o0, o1, o2, o3, o4, some (.inl x5), o6] [] I Q) : Gx P d md_City_measureFrom 17 [o0, o1, o2, o3, o4, some (.inl x5), o6] [] I Q := by
  have hz1 := hz
  show jm_Go d 0 0 md_City_measureFrom 17 [o0, o1, o2, o3, o4, some (.inl x5), o6] [] (jx P I) (jx_Q P Q)
  have hd : jm_dc md_City_measureFrom.2.1 17 [(.iload 5, 2), (.bipush 6, 2), (.if_icmp .ge 67, 3)] = true := by decide +kernel
  refine go_iload rfl hd (fun hd => ?_)
  refine go_bipush (by decide) hd (fun hd => ?_)
  exact go_icmp_ge (by decide) hz1 ⟨by decide, by decide⟩ hd kt kf
theorem b_City_measureFrom_24 {P : jm_P} {d : Nat} {I : jm_I} {Q : Option jm_V → jm_I → Prop} {o0 : Option jm_V} {o1 : Option jm_V} {o2 : Option jm_V} {o3 : Option jm_V} {x4 : Int} {o5 : Option jm_V} {o6 : Option jm_V}  (hz : (-2147483648 ≤ x4 ∧ x4 < 2147483648)) (kt : x4 = 0 → Gx P d md_City_measureFrom 88 [o0, o1, o2, o3, some (.inl x4), o5, o6] [] I Q) (kf : ¬ x4 = 0 → Gx P d md_City_measureFrom 29 [o0, o1, o2, o3, some (.inl x4), o5, o6] [] I Q) : Gx P d md_City_measureFrom 24 [o0, o1, o2, o3, some (.inl x4), o5, o6] [] I Q := by
  have hz1 := hz
  show jm_Go d 0 0 md_City_measureFrom 24 [o0, o1, o2, o3, some (.inl x4), o5, o6] [] (jx P I) (jx_Q P Q)
  have hd : jm_dc md_City_measureFrom.2.1 24 [(.iload 4, 2), (.ifCond .eq 62, 3)] = true := by decide +kernel
  refine go_iload rfl hd (fun hd => ?_)
  exact go_if_eq (by decide) hz1 hd kt kf
theorem b_City_measureFrom_29 {P : jm_P} {d : Nat} {I : jm_I} {Q : Option jm_V → jm_I → Prop} {o0 : Option jm_V} {o1 : Option jm_V} {o2 : Option jm_V} {o3 : Option jm_V} {o4 : Option jm_V} {o5 : Option jm_V} {o6 : Option jm_V}  (k : Gx P d md_City_measureFrom 35 [o0, o1, o2, o3, some (.inl 0), o5, some (.inl 0)] [] I Q) : Gx P d md_City_measureFrom 29 [o0, o1, o2, o3, o4, o5, o6] [] I Q := by
  show jm_Go d 0 0 md_City_measureFrom 29 [o0, o1, o2, o3, o4, o5, o6] [] (jx P I) (jx_Q P Q)
  have hd : jm_dc md_City_measureFrom.2.1 29 [(.iconst 0, 1), (.istore 4, 2), (.iconst 0, 1), (.istore 6, 2)] = true := by decide +kernel
  refine go_iconst hd (fun hd => ?_)
  refine go_istore (by decide) hd (fun hd => ?_)
  refine go_iconst hd (fun hd => ?_)
  refine go_istore (by decide) hd (fun hd => ?_)
  exact k
theorem b_City_measureFrom_35 {P : jm_P} {d : Nat} {I : jm_I} {Q : Option jm_V → jm_I → Prop} {a0 : Nat} {o1 : Option jm_V} {o2 : Option jm_V} {o3 : Option jm_V} {o4 : Option jm_V} {o5 : Option jm_V} {x6 : Int} (ha0 : jx_City P a0) (hz : (-2147483648 ≤ x6 ∧ x6 < 2147483648) ∧ (-2147483648 ≤ I a0 2 ∧ I a0 2 < 2147483648)) (kt : (I a0 2) ≤ x6 → Gx P d md_City_measureFrom 82 [some (.inr (.inl a0)), o1, o2, o3, o4, o5, some (.inl x6)] [] I Q) (kf : ¬ ((I a0 2) ≤ x6) → Gx P d md_City_measureFrom 44 [some (.inr (.inl a0)), o1, o2, o3, o4, o5, some (.inl x6)] [] I Q) : Gx P d md_City_measureFrom 35 [some (.inr (.inl a0)), o1, o2, o3, o4, o5, some (.inl x6)] [] I Q := by
  obtain ⟨hz1, hz2⟩ := hz
  show jm_Go d 0 0 md_City_measureFrom 35 [some (.inr (.inl a0)), o1, o2, o3, o4, o5, some (.inl x6)] [] (jx P I) (jx_Q P Q)
  have hd : jm_dc md_City_measureFrom.2.1 35 [(.iload 6, 2), (.aload_n 0, 1), (.getfield 48, 3), (.if_icmp .ge 41, 3)] = true := by decide +kernel
  refine go_iload rfl hd (fun hd => ?_)
  refine go_aload_n rfl hd (fun hd => ?_)
  refine go_getI co_X0 fl_0_48 (by decide) (Or.inl rfl) (ct_K ha0) hd (fun hd => ?_)
  exact go_icmp_ge (by decide) hz1 hz2 hd kt kf
theorem b_City_measureFrom_44 {P : jm_P} {d : Nat} {I : jm_I} {Q : Option jm_V → jm_I → Prop} {a0 : Nat} {o1 : Option jm_V} {o2 : Option jm_V} {o3 : Option jm_V} {o4 : Option jm_V} {o5 : Option jm_V} {x6 : Int} (ha0 : jx_City P a0) (hz : (0 ≤ x6 ∧ x6 < 8) ∧ (-2147483648 ≤ I (a0 + 3) x6.toNat ∧ I (a0 + 3) x6.toNat < 2147483648)) (kt : ¬ (I (a0 + 3) x6.toNat) = 0 → Gx P d md_City_measureFrom 76 [some (.inr (.inl a0)), o1, o2, o3, o4, o5, some (.inl x6)] [] I Q) (kf : (I (a0 + 3) x6.toNat) = 0 → Gx P d md_City_measureFrom 54 [some (.inr (.inl a0)), o1, o2, o3, o4, o5, some (.inl x6)] [] I Q) : Gx P d md_City_measureFrom 44 [some (.inr (.inl a0)), o1, o2, o3, o4, o5, some (.inl x6)] [] I Q := by
  obtain ⟨hz1, hz2⟩ := hz
  show jm_Go d 0 0 md_City_measureFrom 44 [some (.inr (.inl a0)), o1, o2, o3, o4, o5, some (.inl x6)] [] (jx P I) (jx_Q P Q)
  have hd : jm_dc md_City_measureFrom.2.1 44 [(.aload_n 0, 1), (.getfield 18, 3), (.iload 6, 2), (.iaload, 1), (.ifCond .ne 25, 3)] = true := by decide +kernel
  refine go_aload_n rfl hd (fun hd => ?_)
  refine go_getR co_X0 fl_0_18 (by decide) rfl (ct_K ha0) (ct_R7 ha0) hd (fun hd => ?_)
  refine go_iload rfl hd (fun hd => ?_)
  refine go_iaload (ct_S3 ha0) hz1.1 hz1.2 (by decide) hd (fun hd => ?_)
  exact go_if_ne (by decide) hz2 hd kt kf
theorem b_City_measureFrom_54 {P : jm_P} {d : Nat} {I : jm_I} {Q : Option jm_V → jm_I → Prop} {o0 : Option jm_V} {o1 : Option jm_V} {x2 : Int} {o3 : Option jm_V} {o4 : Option jm_V} {o5 : Option jm_V} {x6 : Int}  (hz : (-2147483648 ≤ jb_and (jb_shr x2 x6) 1 ∧ jb_and (jb_shr x2 x6) 1 < 2147483648)) (kt : ¬ (jb_and (jb_shr x2 x6) 1) = 0 → Gx P d md_City_measureFrom 76 [o0, o1, some (.inl x2), o3, o4, o5, some (.inl x6)] [] I Q) (kf : (jb_and (jb_shr x2 x6) 1) = 0 → Gx P d md_City_measureFrom 63 [o0, o1, some (.inl x2), o3, o4, o5, some (.inl x6)] [] I Q) : Gx P d md_City_measureFrom 54 [o0, o1, some (.inl x2), o3, o4, o5, some (.inl x6)] [] I Q := by
  have hz1 := hz
  show jm_Go d 0 0 md_City_measureFrom 54 [o0, o1, some (.inl x2), o3, o4, o5, some (.inl x6)] [] (jx P I) (jx_Q P Q)
  have hd : jm_dc md_City_measureFrom.2.1 54 [(.iload_n 2, 1), (.iload 6, 2), (.ishr, 1), (.iconst 1, 1), (.iand, 1), (.ifCond .ne 16, 3)] = true := by decide +kernel
  refine go_iload_n rfl hd (fun hd => ?_)
  refine go_iload rfl hd (fun hd => ?_)
  refine go_ishr hd (fun hd => ?_)
  refine go_iconst hd (fun hd => ?_)
  refine go_iand hd (fun hd => ?_)
  exact go_if_ne (by decide) hz1 hd kt kf
theorem b_City_measureFrom_63 {P : jm_P} {d : Nat} {I : jm_I} {Q : Option jm_V → jm_I → Prop} {a0 : Nat} {o1 : Option jm_V} {o2 : Option jm_V} {a3 na3 : Nat} {o4 : Option jm_V} {o5 : Option jm_V} {x6 : Int} (ha0 : jx_City P a0) (ha3 : P.2.1 a3 = (20, na3)) (k : Cx P d md_City_bringsNearer [.inr (.inl a0), .inl x6, .inr (.inl a3)] I (fun v J => Gx P (d + 1) md_City_measureFrom 70 [some (.inr (.inl a0)), o1, o2, some (.inr (.inl a3)), o4, o5, some (.inl x6)] (v.toList ++ []) J Q)) : Gx P (d + 1) md_City_measureFrom 63 [some (.inr (.inl a0)), o1, o2, some (.inr (.inl a3)), o4, o5, some (.inl x6)] [] I Q := by
  show jm_Go (d + 1) 0 0 md_City_measureFrom 63 [some (.inr (.inl a0)), o1, o2, some (.inr (.inl a3)), o4, o5, some (.inl x6)] [] (jx P I) (jx_Q P Q)
  have hd : jm_dc md_City_measureFrom.2.1 63 [(.aload_n 0, 1), (.iload 6, 2), (.aload_n 3, 1), (.invokevirtual 67, 3)] = true := by decide +kernel
  refine go_aload_n rfl hd (fun hd => ?_)
  refine go_iload rfl hd (fun hd => ?_)
  refine go_aload_n rfl hd (fun hd => ?_)
  exact gx_virtual a0 0 [.inl x6, .inr (.inl a3)] [] mk_City_bringsNearer co_X0 rfl ml_0_67 in_City_bringsNearer se_City_bringsNearer (ct_K ha0) rfl (Nat.le_of_ble_eq_true rfl) rfl (Nat.le_of_ble_eq_true rfl) rfl hd k
theorem b_City_measureFrom_70 {P : jm_P} {d : Nat} {I : jm_I} {Q : Option jm_V → jm_I → Prop} {o0 : Option jm_V} {o1 : Option jm_V} {o2 : Option jm_V} {o3 : Option jm_V} {o4 : Option jm_V} {o5 : Option jm_V} {o6 : Option jm_V} {s0 : Int}  (hz : (-2147483648 ≤ s0 ∧ s0 < 2147483648)) (kt : s0 = 0 → Gx P d md_City_measureFrom 76 [o0, o1, o2, o3, o4, o5, o6] [] I Q) (kf : ¬ s0 = 0 → Gx P d md_City_measureFrom 73 [o0, o1, o2, o3, o4, o5, o6] [] I Q) : Gx P d md_City_measureFrom 70 [o0, o1, o2, o3, o4, o5, o6] [.inl s0] I Q := by
  have hz1 := hz
  show jm_Go d 0 0 md_City_measureFrom 70 [o0, o1, o2, o3, o4, o5, o6] [.inl s0] (jx P I) (jx_Q P Q)
  have hd : jm_dc md_City_measureFrom.2.1 70 [(.ifCond .eq 6, 3)] = true := by decide +kernel
  exact go_if_eq (by decide) hz1 hd kt kf
theorem b_City_measureFrom_73 {P : jm_P} {d : Nat} {I : jm_I} {Q : Option jm_V → jm_I → Prop} {o0 : Option jm_V} {o1 : Option jm_V} {o2 : Option jm_V} {o3 : Option jm_V} {o4 : Option jm_V} {o5 : Option jm_V} {o6 : Option jm_V}  (k : Gx P d md_City_measureFrom 76 [o0, o1, o2, o3, some (.inl 1), o5, o6] [] I Q) : Gx P d md_City_measureFrom 73 [o0, o1, o2, o3, o4, o5, o6] [] I Q := by
  show jm_Go d 0 0 md_City_measureFrom 73 [o0, o1, o2, o3, o4, o5, o6] [] (jx P I) (jx_Q P Q)
  have hd : jm_dc md_City_measureFrom.2.1 73 [(.iconst 1, 1), (.istore 4, 2)] = true := by decide +kernel
  refine go_iconst hd (fun hd => ?_)
  refine go_istore (by decide) hd (fun hd => ?_)
  exact k
theorem b_City_measureFrom_76 {P : jm_P} {d : Nat} {I : jm_I} {Q : Option jm_V → jm_I → Prop} {o0 : Option jm_V} {o1 : Option jm_V} {o2 : Option jm_V} {o3 : Option jm_V} {o4 : Option jm_V} {o5 : Option jm_V} {x6 : Int}  (k : Gx P d md_City_measureFrom 35 [o0, o1, o2, o3, o4, o5, some (.inl (x6 + 1))] [] I Q) : Gx P d md_City_measureFrom 76 [o0, o1, o2, o3, o4, o5, some (.inl x6)] [] I Q := by
  show jm_Go d 0 0 md_City_measureFrom 76 [o0, o1, o2, o3, o4, o5, some (.inl x6)] [] (jx P I) (jx_Q P Q)
  have hd : jm_dc md_City_measureFrom.2.1 76 [(.iinc 6 1, 3), (.goto (-44), 3)] = true := by decide +kernel
  refine go_iinc rfl hd (fun hd => ?_)
  exact go_goto (by decide) hd k
theorem b_City_measureFrom_82 {P : jm_P} {d : Nat} {I : jm_I} {Q : Option jm_V → jm_I → Prop} {o0 : Option jm_V} {o1 : Option jm_V} {o2 : Option jm_V} {o3 : Option jm_V} {o4 : Option jm_V} {x5 : Int} {o6 : Option jm_V}  (k : Gx P d md_City_measureFrom 17 [o0, o1, o2, o3, o4, some (.inl (x5 + 1)), o6] [] I Q) : Gx P d md_City_measureFrom 82 [o0, o1, o2, o3, o4, some (.inl x5), o6] [] I Q := by
  show jm_Go d 0 0 md_City_measureFrom 82 [o0, o1, o2, o3, o4, some (.inl x5), o6] [] (jx P I) (jx_Q P Q)
  have hd : jm_dc md_City_measureFrom.2.1 82 [(.iinc 5 1, 3), (.goto (-68), 3)] = true := by decide +kernel
  refine go_iinc rfl hd (fun hd => ?_)
  exact go_goto (by decide) hd k
theorem b_City_measureFrom_88 {P : jm_P} {d : Nat} {I : jm_I} {Q : Option jm_V → jm_I → Prop} {o0 : Option jm_V} {o1 : Option jm_V} {o2 : Option jm_V} {o3 : Option jm_V} {o4 : Option jm_V} {o5 : Option jm_V} {o6 : Option jm_V}  (k : Q none I) : Gx P d md_City_measureFrom 88 [o0, o1, o2, o3, o4, o5, o6] [] I Q := by
  show jm_Go d 0 0 md_City_measureFrom 88 [o0, o1, o2, o3, o4, o5, o6] [] (jx P I) (jx_Q P Q)
  have hd : jm_dc md_City_measureFrom.2.1 88 [(.return_, 1)] = true := by decide +kernel
  exact go_vreturn hd rfl ⟨_, rfl, k⟩
theorem b_Arrays_fill_0 {P : jm_P} {d : Nat} {I : jm_I} {Q : Option jm_V → jm_I → Prop} {a0 na0 : Nat} {x1 : Int} (ha0 : P.2.1 a0 = (20, na0)) (k : Gx P d md_Arrays_fill 5 [some (.inr (.inl a0)), some (.inl x1), some (.inl 0), some (.inl ((na0 : Int)))] [] I Q) : Cx P d md_Arrays_fill [.inr (.inl a0), .inl x1] I Q := by
  show jm_Go d 0 0 md_Arrays_fill 0 [some (.inr (.inl a0)), some (.inl x1), none, none] [] (jx P I) (jx_Q P Q)
  have hd : jm_dc md_Arrays_fill.2.1 0 [(.iconst 0, 1), (.istore_n 2, 1), (.aload_n 0, 1), (.arraylength, 1), (.istore_n 3, 1)] = true := by decide +kernel
  refine go_iconst hd (fun hd => ?_)
  refine go_istore_n (by decide) hd (fun hd => ?_)
  refine go_aload_n rfl hd (fun hd => ?_)
  refine go_alen ha0 hd (fun hd => ?_)
  refine go_istore_n (by decide) hd (fun hd => ?_)
  exact k
theorem b_Arrays_fill_5 {P : jm_P} {d : Nat} {I : jm_I} {Q : Option jm_V → jm_I → Prop} {o0 : Option jm_V} {o1 : Option jm_V} {x2 : Int} {x3 : Int}  (hz : (-2147483648 ≤ x2 ∧ x2 < 2147483648) ∧ (-2147483648 ≤ x3 ∧ x3 < 2147483648)) (kt : x3 ≤ x2 → Gx P d md_Arrays_fill 20 [o0, o1, some (.inl x2), some (.inl x3)] [] I Q) (kf : ¬ (x3 ≤ x2) → Gx P d md_Arrays_fill 10 [o0, o1, some (.inl x2), some (.inl x3)] [] I Q) : Gx P d md_Arrays_fill 5 [o0, o1, some (.inl x2), some (.inl x3)] [] I Q := by
  obtain ⟨hz1, hz2⟩ := hz
  show jm_Go d 0 0 md_Arrays_fill 5 [o0, o1, some (.inl x2), some (.inl x3)] [] (jx P I) (jx_Q P Q)
  have hd : jm_dc md_Arrays_fill.2.1 5 [(.iload_n 2, 1), (.iload_n 3, 1), (.if_icmp .ge 13, 3)] = true := by decide +kernel
  refine go_iload_n rfl hd (fun hd => ?_)
  refine go_iload_n rfl hd (fun hd => ?_)
  exact go_icmp_ge (by decide) hz1 hz2 hd kt kf
theorem b_Arrays_fill_10 {P : jm_P} {d : Nat} {I : jm_I} {Q : Option jm_V → jm_I → Prop} {a0 na0 : Nat} {x1 : Int} {x2 : Int} {o3 : Option jm_V} (ha0 : P.2.1 a0 = (20, na0)) (hz : (0 ≤ x2 ∧ x2 < na0) ∧ (na0 < 2147483648)) (k : Gx P d md_Arrays_fill 5 [some (.inr (.inl a0)), some (.inl x1), some (.inl (x2 + 1)), o3] [] (jm_up I a0 (x2.toNat) x1) Q) : Gx P d md_Arrays_fill 10 [some (.inr (.inl a0)), some (.inl x1), some (.inl x2), o3] [] I Q := by
  obtain ⟨hz1, hz2⟩ := hz
  show jm_Go d 0 0 md_Arrays_fill 10 [some (.inr (.inl a0)), some (.inl x1), some (.inl x2), o3] [] (jx P I) (jx_Q P Q)
  have hd : jm_dc md_Arrays_fill.2.1 10 [(.aload_n 0, 1), (.iload_n 2, 1), (.iload_n 1, 1), (.iastore, 1), (.iinc 2 1, 3), (.goto (-12), 3)] = true := by decide +kernel
  refine go_aload_n rfl hd (fun hd => ?_)
  refine go_iload_n rfl hd (fun hd => ?_)
  refine go_iload_n rfl hd (fun hd => ?_)
  refine go_iastore ha0 hz1.1 hz1.2 hz2 hd (fun hd => ?_)
  refine go_iinc rfl hd (fun hd => ?_)
  exact go_goto (by decide) hd k
theorem b_Arrays_fill_20 {P : jm_P} {d : Nat} {I : jm_I} {Q : Option jm_V → jm_I → Prop} {o0 : Option jm_V} {o1 : Option jm_V} {o2 : Option jm_V} {o3 : Option jm_V}  (k : Q none I) : Gx P d md_Arrays_fill 20 [o0, o1, o2, o3] [] I Q := by
  show jm_Go d 0 0 md_Arrays_fill 20 [o0, o1, o2, o3] [] (jx P I) (jx_Q P Q)
  have hd : jm_dc md_Arrays_fill.2.1 20 [(.return_, 1)] = true := by decide +kernel
  exact go_vreturn hd rfl ⟨_, rfl, k⟩
theorem b_City_bringsNearer_0 {P : jm_P} {d : Nat} {I : jm_I} {Q : Option jm_V → jm_I → Prop} {a0 : Nat} {x1 : Int} {a2 na2 : Nat} (ha0 : jx_City P a0) (ha2 : P.2.1 a2 = (20, na2)) (hz : (0 ≤ x1 ∧ x1 < 8) ∧ (0 ≤ x1 ∧ x1 < 8) ∧ (0 ≤ I (a0 + 1) x1.toNat ∧ I (a0 + 1) x1.toNat < na2) ∧ (na2 < 2147483648) ∧ (0 ≤ I (a0 + 2) x1.toNat ∧ I (a0 + 2) x1.toNat < na2) ∧ (na2 < 2147483648) ∧ (-2147483648 ≤ (I a2 (I (a0 + 1) x1.toNat).toNat) + 1 ∧ (I a2 (I (a0 + 1) x1.toNat).toNat) + 1 < 2147483648) ∧ (-2147483648 ≤ I a2 (I (a0 + 2) x1.toNat).toNat ∧ I a2 (I (a0 + 2) x1.toNat).toNat < 2147483648)) (kt : (I a2 (I (a0 + 2) x1.toNat).toNat) ≤ ((I a2 (I (a0 + 1) x1.toNat).toNat) + 1) → Gx P d md_City_bringsNearer 38 [some (.inr (.inl a0)), some (.inl x1), some (.inr (.inl a2)), some (.inl (I (a0 + 1) x1.toNat)), some (.inl (I (a0 + 2) x1.toNat))] [] I Q) (kf : ¬ ((I a2 (I (a0 + 2) x1.toNat).toNat) ≤ ((I a2 (I (a0 + 1) x1.toNat).toNat) + 1)) → Gx P d md_City_bringsNearer 27 [some (.inr (.inl a0)), some (.inl x1), some (.inr (.inl a2)), some (.inl (I (a0 + 1) x1.toNat)), some (.inl (I (a0 + 2) x1.toNat))] [] I Q) : Cx P d md_City_bringsNearer [.inr (.inl a0), .inl x1, .inr (.inl a2)] I Q := by
  obtain ⟨hz1, hz2, hz3, hz4, hz5, hz6, hz7, hz8⟩ := hz
  show jm_Go d 0 0 md_City_bringsNearer 0 [some (.inr (.inl a0)), some (.inl x1), some (.inr (.inl a2)), none, none] [] (jx P I) (jx_Q P Q)
  have hd : jm_dc md_City_bringsNearer.2.1 0 [(.aload_n 0, 1), (.getfield 9, 3), (.iload_n 1, 1), (.iaload, 1), (.istore_n 3, 1), (.aload_n 0, 1), (.getfield 15, 3), (.iload_n 1, 1), (.iaload, 1), (.istore 4, 2), (.aload_n 2, 1), (.iload_n 3, 1), (.iaload, 1), (.iconst 1, 1), (.iadd, 1), (.aload_n 2, 1), (.iload 4, 2), (.iaload, 1), (.if_icmp .ge 14, 3)] = true := by decide +kernel
  refine go_aload_n rfl hd (fun hd => ?_)
  refine go_getR co_X0 fl_0_9 (by decide) rfl (ct_K ha0) (ct_R5 ha0) hd (fun hd => ?_)
  refine go_iload_n rfl hd (fun hd => ?_)
  refine go_iaload (ct_S1 ha0) hz1.1 hz1.2 (by decide) hd (fun hd => ?_)
  refine go_istore_n (by decide) hd (fun hd => ?_)
  refine go_aload_n rfl hd (fun hd => ?_)
  refine go_getR co_X0 fl_0_15 (by decide) rfl (ct_K ha0) (ct_R6 ha0) hd (fun hd => ?_)
  refine go_iload_n rfl hd (fun hd => ?_)
  refine go_iaload (ct_S2 ha0) hz2.1 hz2.2 (by decide) hd (fun hd => ?_)
  refine go_istore (by decide) hd (fun hd => ?_)
  refine go_aload_n rfl hd (fun hd => ?_)
  refine go_iload_n rfl hd (fun hd => ?_)
  refine go_iaload ha2 hz3.1 hz3.2 hz4 hd (fun hd => ?_)
  refine go_iconst hd (fun hd => ?_)
  refine go_iadd hd (fun hd => ?_)
  refine go_aload_n rfl hd (fun hd => ?_)
  refine go_iload rfl hd (fun hd => ?_)
  refine go_iaload ha2 hz5.1 hz5.2 hz6 hd (fun hd => ?_)
  exact go_icmp_ge (by decide) hz7 hz8 hd kt kf
theorem b_City_bringsNearer_27 {P : jm_P} {d : Nat} {I : jm_I} {Q : Option jm_V → jm_I → Prop} {o0 : Option jm_V} {o1 : Option jm_V} {a2 na2 : Nat} {x3 : Int} {x4 : Int} (ha2 : P.2.1 a2 = (20, na2)) (hz : (0 ≤ x3 ∧ x3 < na2) ∧ (na2 < 2147483648) ∧ (0 ≤ x4 ∧ x4 < na2) ∧ (na2 < 2147483648)) (k : Q (some (.inl 1)) (jm_up I a2 (x4.toNat) ((I a2 x3.toNat) + 1))) : Gx P d md_City_bringsNearer 27 [o0, o1, some (.inr (.inl a2)), some (.inl x3), some (.inl x4)] [] I Q := by
  obtain ⟨hz1, hz2, hz3, hz4⟩ := hz
  show jm_Go d 0 0 md_City_bringsNearer 27 [o0, o1, some (.inr (.inl a2)), some (.inl x3), some (.inl x4)] [] (jx P I) (jx_Q P Q)
  have hd : jm_dc md_City_bringsNearer.2.1 27 [(.aload_n 2, 1), (.iload 4, 2), (.aload_n 2, 1), (.iload_n 3, 1), (.iaload, 1), (.iconst 1, 1), (.iadd, 1), (.iastore, 1), (.iconst 1, 1), (.ireturn, 1)] = true := by decide +kernel
  refine go_aload_n rfl hd (fun hd => ?_)
  refine go_iload rfl hd (fun hd => ?_)
  refine go_aload_n rfl hd (fun hd => ?_)
  refine go_iload_n rfl hd (fun hd => ?_)
  refine go_iaload ha2 hz1.1 hz1.2 hz2 hd (fun hd => ?_)
  refine go_iconst hd (fun hd => ?_)
  refine go_iadd hd (fun hd => ?_)
  refine go_iastore ha2 hz3.1 hz3.2 hz4 hd (fun hd => ?_)
  refine go_iconst hd (fun hd => ?_)
  exact go_zreturn hd rfl (Or.inr rfl) ⟨_, rfl, k⟩
theorem b_City_bringsNearer_38 {P : jm_P} {d : Nat} {I : jm_I} {Q : Option jm_V → jm_I → Prop} {o0 : Option jm_V} {o1 : Option jm_V} {a2 na2 : Nat} {x3 : Int} {x4 : Int} (ha2 : P.2.1 a2 = (20, na2)) (hz : (0 ≤ x4 ∧ x4 < na2) ∧ (na2 < 2147483648) ∧ (0 ≤ x3 ∧ x3 < na2) ∧ (na2 < 2147483648) ∧ (-2147483648 ≤ (I a2 x4.toNat) + 1 ∧ (I a2 x4.toNat) + 1 < 2147483648) ∧ (-2147483648 ≤ I a2 x3.toNat ∧ I a2 x3.toNat < 2147483648)) (kt : (I a2 x3.toNat) ≤ ((I a2 x4.toNat) + 1) → Gx P d md_City_bringsNearer 61 [o0, o1, some (.inr (.inl a2)), some (.inl x3), some (.inl x4)] [] I Q) (kf : ¬ ((I a2 x3.toNat) ≤ ((I a2 x4.toNat) + 1)) → Gx P d md_City_bringsNearer 50 [o0, o1, some (.inr (.inl a2)), some (.inl x3), some (.inl x4)] [] I Q) : Gx P d md_City_bringsNearer 38 [o0, o1, some (.inr (.inl a2)), some (.inl x3), some (.inl x4)] [] I Q := by
  obtain ⟨hz1, hz2, hz3, hz4, hz5, hz6⟩ := hz
  show jm_Go d 0 0 md_City_bringsNearer 38 [o0, o1, some (.inr (.inl a2)), some (.inl x3), some (.inl x4)] [] (jx P I) (jx_Q P Q)
  have hd : jm_dc md_City_bringsNearer.2.1 38 [(.aload_n 2, 1), (.iload 4, 2), (.iaload, 1), (.iconst 1, 1), (.iadd, 1), (.aload_n 2, 1), (.iload_n 3, 1), (.iaload, 1), (.if_icmp .ge 14, 3)] = true := by decide +kernel
  refine go_aload_n rfl hd (fun hd => ?_)
  refine go_iload rfl hd (fun hd => ?_)
  refine go_iaload ha2 hz1.1 hz1.2 hz2 hd (fun hd => ?_)
  refine go_iconst hd (fun hd => ?_)
  refine go_iadd hd (fun hd => ?_)
  refine go_aload_n rfl hd (fun hd => ?_)
  refine go_iload_n rfl hd (fun hd => ?_)
  refine go_iaload ha2 hz3.1 hz3.2 hz4 hd (fun hd => ?_)
  exact go_icmp_ge (by decide) hz5 hz6 hd kt kf
theorem b_City_bringsNearer_50 {P : jm_P} {d : Nat} {I : jm_I} {Q : Option jm_V → jm_I → Prop} {o0 : Option jm_V} {o1 : Option jm_V} {a2 na2 : Nat} {x3 : Int} {x4 : Int} (ha2 : P.2.1 a2 = (20, na2)) (hz : (0 ≤ x4 ∧ x4 < na2) ∧ (na2 < 2147483648) ∧ (0 ≤ x3 ∧ x3 < na2) ∧ (na2 < 2147483648)) (k : Q (some (.inl 1)) (jm_up I a2 (x3.toNat) ((I a2 x4.toNat) + 1))) : Gx P d md_City_bringsNearer 50 [o0, o1, some (.inr (.inl a2)), some (.inl x3), some (.inl x4)] [] I Q := by
  obtain ⟨hz1, hz2, hz3, hz4⟩ := hz
  show jm_Go d 0 0 md_City_bringsNearer 50 [o0, o1, some (.inr (.inl a2)), some (.inl x3), some (.inl x4)] [] (jx P I) (jx_Q P Q)
  have hd : jm_dc md_City_bringsNearer.2.1 50 [(.aload_n 2, 1), (.iload_n 3, 1), (.aload_n 2, 1), (.iload 4, 2), (.iaload, 1), (.iconst 1, 1), (.iadd, 1), (.iastore, 1), (.iconst 1, 1), (.ireturn, 1)] = true := by decide +kernel
  refine go_aload_n rfl hd (fun hd => ?_)
  refine go_iload_n rfl hd (fun hd => ?_)
  refine go_aload_n rfl hd (fun hd => ?_)
  refine go_iload rfl hd (fun hd => ?_)
  refine go_iaload ha2 hz1.1 hz1.2 hz2 hd (fun hd => ?_)
  refine go_iconst hd (fun hd => ?_)
  refine go_iadd hd (fun hd => ?_)
  refine go_iastore ha2 hz3.1 hz3.2 hz4 hd (fun hd => ?_)
  refine go_iconst hd (fun hd => ?_)
  exact go_zreturn hd rfl (Or.inr rfl) ⟨_, rfl, k⟩
theorem b_City_bringsNearer_61 {P : jm_P} {d : Nat} {I : jm_I} {Q : Option jm_V → jm_I → Prop} {o0 : Option jm_V} {o1 : Option jm_V} {o2 : Option jm_V} {o3 : Option jm_V} {o4 : Option jm_V}  (k : Q (some (.inl 0)) I) : Gx P d md_City_bringsNearer 61 [o0, o1, o2, o3, o4] [] I Q := by
  show jm_Go d 0 0 md_City_bringsNearer 61 [o0, o1, o2, o3, o4] [] (jx P I) (jx_Q P Q)
  have hd : jm_dc md_City_bringsNearer.2.1 61 [(.iconst 0, 1), (.ireturn, 1)] = true := by decide +kernel
  refine go_iconst hd (fun hd => ?_)
  exact go_zreturn hd rfl (Or.inl rfl) ⟨_, rfl, k⟩
theorem b_Moment_begin_0 {P : jm_P} {d : Nat} {I : jm_I} {Q : Option jm_V → jm_I → Prop} {a0 : Nat} {a1 : Nat} (ha0 : jx_Mom P a0) (ha1 : jx_City P a1) (k : Cx P d md_Arrays_fill [.inr (.inl (a0 + 3)), .inl (-9)] (jm_cpy (jm_cpy (jm_up (jm_up I a0 0 0) a0 1 0) (a1 + 4) (a0 + 1) 0 0 5) (a1 + 5) (a0 + 2) 0 0 5) (fun v J => Gx P (d + 1) md_Moment_begin 47 [some (.inr (.inl a0)), some (.inr (.inl a1))] (v.toList ++ []) J Q)) : Cx P (d + 1) md_Moment_begin [.inr (.inl a0), .inr (.inl a1)] I Q := by
  show jm_Go (d + 1) 0 0 md_Moment_begin 0 [some (.inr (.inl a0)), some (.inr (.inl a1))] [] (jx P I) (jx_Q P Q)
  have hd : jm_dc md_Moment_begin.2.1 0 [(.aload_n 0, 1), (.iconst 0, 1), (.putfield 24, 3), (.aload_n 0, 1), (.iconst 0, 1), (.putfield 28, 3), (.aload_n 1, 1), (.getfield 31, 3), (.iconst 0, 1), (.aload_n 0, 1), (.getfield 9, 3), (.iconst 0, 1), (.iconst 5, 1), (.invokestatic 36, 3), (.aload_n 1, 1), (.getfield 42, 3), (.iconst 0, 1), (.aload_n 0, 1), (.getfield 15, 3), (.iconst 0, 1), (.iconst 5, 1), (.invokestatic 36, 3), (.aload_n 0, 1), (.getfield 18, 3), (.bipush (-9), 2), (.invokestatic 45, 3)] = true := by decide +kernel
  refine go_aload_n rfl hd (fun hd => ?_)
  refine go_iconst hd (fun hd => ?_)
  refine go_putI co_X5 fl_5_24 (by decide) rfl (mo_K ha0) hd (fun hd => ?_)
  refine go_aload_n rfl hd (fun hd => ?_)
  refine go_iconst hd (fun hd => ?_)
  refine go_putI co_X5 fl_5_28 (by decide) rfl (mo_K ha0) hd (fun hd => ?_)
  refine go_aload_n rfl hd (fun hd => ?_)
  refine go_getR co_X0 fl_5_31 (by decide) rfl (ct_K ha1) (ct_R8 ha1) hd (fun hd => ?_)
  refine go_iconst hd (fun hd => ?_)
  refine go_aload_n rfl hd (fun hd => ?_)
  refine go_getR co_X5 fl_5_9 (by decide) rfl (mo_K ha0) (mo_R2 ha0) hd (fun hd => ?_)
  refine go_iconst hd (fun hd => ?_)
  refine go_iconst hd (fun hd => ?_)
  refine go_copy ml_5_36 w_ac1 w_ac2 w_ac3 (ct_S4 ha1) (mo_S1 ha0) (by decide) (by decide) (by decide) (by decide) (by decide) (by decide) (by decide) (Nat.le_of_ble_eq_true rfl) hd (fun hd => ?_)
  refine go_aload_n rfl hd (fun hd => ?_)
  refine go_getR co_X0 fl_5_42 (by decide) rfl (ct_K ha1) (ct_R9 ha1) hd (fun hd => ?_)
  refine go_iconst hd (fun hd => ?_)
  refine go_aload_n rfl hd (fun hd => ?_)
  refine go_getR co_X5 fl_5_15 (by decide) rfl (mo_K ha0) (mo_R3 ha0) hd (fun hd => ?_)
  refine go_iconst hd (fun hd => ?_)
  refine go_iconst hd (fun hd => ?_)
  refine go_copy ml_5_36 w_ac1 w_ac2 w_ac3 (ct_S5 ha1) (mo_S2 ha0) (by decide) (by decide) (by decide) (by decide) (by decide) (by decide) (by decide) (Nat.le_of_ble_eq_true rfl) hd (fun hd => ?_)
  refine go_aload_n rfl hd (fun hd => ?_)
  refine go_getR co_X5 fl_5_18 (by decide) rfl (mo_K ha0) (mo_R4 ha0) hd (fun hd => ?_)
  refine go_bipush (by decide) hd (fun hd => ?_)
  exact gx_static [.inr (.inl (a0 + 3)), .inl (-9)] [] mk_Arrays_fill ml_5_45 st_Arrays_fill rfl (Nat.le_of_ble_eq_true rfl) rfl (Nat.le_of_ble_eq_true rfl) rfl hd k
theorem b_Moment_begin_47 {P : jm_P} {d : Nat} {I : jm_I} {Q : Option jm_V → jm_I → Prop} {a0 : Nat} {o1 : Option jm_V} (ha0 : jx_Mom P a0) (k : Cx P d md_Arrays_fill [.inr (.inl (a0 + 4)), .inl 0] I (fun v J => Gx P (d + 1) md_Moment_begin 55 [some (.inr (.inl a0)), o1] (v.toList ++ []) J Q)) : Gx P (d + 1) md_Moment_begin 47 [some (.inr (.inl a0)), o1] [] I Q := by
  show jm_Go (d + 1) 0 0 md_Moment_begin 47 [some (.inr (.inl a0)), o1] [] (jx P I) (jx_Q P Q)
  have hd : jm_dc md_Moment_begin.2.1 47 [(.aload_n 0, 1), (.getfield 21, 3), (.iconst 0, 1), (.invokestatic 45, 3)] = true := by decide +kernel
  refine go_aload_n rfl hd (fun hd => ?_)
  refine go_getR co_X5 fl_5_21 (by decide) rfl (mo_K ha0) (mo_R5 ha0) hd (fun hd => ?_)
  refine go_iconst hd (fun hd => ?_)
  exact gx_static [.inr (.inl (a0 + 4)), .inl 0] [] mk_Arrays_fill ml_5_45 st_Arrays_fill rfl (Nat.le_of_ble_eq_true rfl) rfl (Nat.le_of_ble_eq_true rfl) rfl hd k
theorem b_Moment_begin_55 {P : jm_P} {d : Nat} {I : jm_I} {Q : Option jm_V → jm_I → Prop} {o0 : Option jm_V} {o1 : Option jm_V}  (k : Q none I) : Gx P d md_Moment_begin 55 [o0, o1] [] I Q := by
  show jm_Go d 0 0 md_Moment_begin 55 [o0, o1] [] (jx P I) (jx_Q P Q)
  have hd : jm_dc md_Moment_begin.2.1 55 [(.return_, 1)] = true := by decide +kernel
  exact go_vreturn hd rfl ⟨_, rfl, k⟩
theorem b_City_roomOfSpot_0 {P : jm_P} {d : Nat} {I : jm_I} {Q : Option jm_V → jm_I → Prop} {a0 : Nat} {x1 : Int} {x2 : Int} (ha0 : jx_City P a0) (hz : (-2147483648 ≤ x2 ∧ x2 < 2147483648)) (kt : 4 ≤ x2 → Gx P d md_City_roomOfSpot 16 [some (.inr (.inl a0)), some (.inl x1), some (.inl x2)] [] I Q) (kf : ¬ (4 ≤ x2) → Gx P d md_City_roomOfSpot 5 [some (.inr (.inl a0)), some (.inl x1), some (.inl x2)] [] I Q) : Cx P d md_City_roomOfSpot [.inr (.inl a0), .inl x1, .inl x2] I Q := by
  have hz1 := hz
  show jm_Go d 0 0 md_City_roomOfSpot 0 [some (.inr (.inl a0)), some (.inl x1), some (.inl x2)] [] (jx P I) (jx_Q P Q)
  have hd : jm_dc md_City_roomOfSpot.2.1 0 [(.iload_n 2, 1), (.iconst 4, 1), (.if_icmp .ge 14, 3)] = true := by decide +kernel
  refine go_iload_n rfl hd (fun hd => ?_)
  refine go_iconst hd (fun hd => ?_)
  exact go_icmp_ge (by decide) hz1 ⟨by decide, by decide⟩ hd kt kf
theorem b_City_roomOfSpot_5 {P : jm_P} {d : Nat} {I : jm_I} {Q : Option jm_V → jm_I → Prop} {a0 : Nat} {x1 : Int} {x2 : Int} (ha0 : jx_City P a0) (hz : (0 ≤ x1 ∧ x1 < 5) ∧ (0 ≤ x2 ∧ x2 < 4)) (k : Gx P d md_City_roomOfSpot 19 [some (.inr (.inl a0)), some (.inl x1), some (.inl x2)] [.inl (I (a0 + 8 + x1.toNat) x2.toNat)] I Q) : Gx P d md_City_roomOfSpot 5 [some (.inr (.inl a0)), some (.inl x1), some (.inl x2)] [] I Q := by
  obtain ⟨hz1, hz2⟩ := hz
  show jm_Go d 0 0 md_City_roomOfSpot 5 [some (.inr (.inl a0)), some (.inl x1), some (.inl x2)] [] (jx P I) (jx_Q P Q)
  have hd : jm_dc md_City_roomOfSpot.2.1 5 [(.aload_n 0, 1), (.getfield 32, 3), (.iload_n 1, 1), (.aaload, 1), (.iload_n 2, 1), (.iaload, 1), (.goto 6, 3)] = true := by decide +kernel
  refine go_aload_n rfl hd (fun hd => ?_)
  refine go_getR co_X0 fl_0_32 (by decide) rfl (ct_K ha0) (ct_R11 ha0) hd (fun hd => ?_)
  refine go_iload_n rfl hd (fun hd => ?_)
  refine go_aaload (Or.inr (ct_S7 ha0)) hz1.1 hz1.2 (by decide) (ct_roundI ha0 hz1.1 hz1.2) hd (fun hd => ?_)
  refine go_iload_n rfl hd (fun hd => ?_)
  refine go_iaload (ct_roundS ha0 hz1.1 hz1.2) hz2.1 hz2.2 (by decide) hd (fun hd => ?_)
  exact go_goto (by decide) hd k
theorem b_City_roomOfSpot_16 {P : jm_P} {d : Nat} {I : jm_I} {Q : Option jm_V → jm_I → Prop} {o0 : Option jm_V} {o1 : Option jm_V} {x2 : Int}  (k : Gx P d md_City_roomOfSpot 19 [o0, o1, some (.inl x2)] [.inl (x2 - 4)] I Q) : Gx P d md_City_roomOfSpot 16 [o0, o1, some (.inl x2)] [] I Q := by
  show jm_Go d 0 0 md_City_roomOfSpot 16 [o0, o1, some (.inl x2)] [] (jx P I) (jx_Q P Q)
  have hd : jm_dc md_City_roomOfSpot.2.1 16 [(.iload_n 2, 1), (.iconst 4, 1), (.isub, 1)] = true := by decide +kernel
  refine go_iload_n rfl hd (fun hd => ?_)
  refine go_iconst hd (fun hd => ?_)
  refine go_isub hd (fun hd => ?_)
  exact k
theorem b_City_roomOfSpot_19 {P : jm_P} {d : Nat} {I : jm_I} {Q : Option jm_V → jm_I → Prop} {o0 : Option jm_V} {o1 : Option jm_V} {o2 : Option jm_V} {s0 : Int}  (k : Q (some (.inl s0)) I) : Gx P d md_City_roomOfSpot 19 [o0, o1, o2] [.inl s0] I Q := by
  show jm_Go d 0 0 md_City_roomOfSpot 19 [o0, o1, o2] [.inl s0] (jx P I) (jx_Q P Q)
  have hd : jm_dc md_City_roomOfSpot.2.1 19 [(.ireturn, 1)] = true := by decide +kernel
  exact go_ireturn hd rfl ⟨_, rfl, k⟩
theorem b_Moment_copyFrom_0 {P : jm_P} {d : Nat} {I : jm_I} {Q : Option jm_V → jm_I → Prop} {a0 : Nat} {a1 : Nat} (ha0 : jx_Mom P a0) (ha1 : jx_Mom P a1) (k : Q none (jm_cpy (jm_cpy (jm_cpy (jm_cpy (jm_up (jm_up I a0 0 (I a1 0)) a0 1 ((jm_up I a0 0 (I a1 0)) a1 1)) (a1 + 1) (a0 + 1) 0 0 5) (a1 + 2) (a0 + 2) 0 0 5) (a1 + 3) (a0 + 3) 0 0 5) (a1 + 4) (a0 + 4) 0 0 5)) : Cx P d md_Moment_copyFrom [.inr (.inl a0), .inr (.inl a1)] I Q := by
  show jm_Go d 0 0 md_Moment_copyFrom 0 [some (.inr (.inl a0)), some (.inr (.inl a1))] [] (jx P I) (jx_Q P Q)
  have hd : jm_dc md_Moment_copyFrom.2.1 0 [(.aload_n 0, 1), (.aload_n 1, 1), (.getfield 24, 3), (.putfield 24, 3), (.aload_n 0, 1), (.aload_n 1, 1), (.getfield 28, 3), (.putfield 28, 3), (.aload_n 1, 1), (.getfield 9, 3), (.iconst 0, 1), (.aload_n 0, 1), (.getfield 9, 3), (.iconst 0, 1), (.iconst 5, 1), (.invokestatic 36, 3), (.aload_n 1, 1), (.getfield 15, 3), (.iconst 0, 1), (.aload_n 0, 1), (.getfield 15, 3), (.iconst 0, 1), (.iconst 5, 1), (.invokestatic 36, 3), (.aload_n 1, 1), (.getfield 18, 3), (.iconst 0, 1), (.aload_n 0, 1), (.getfield 18, 3), (.iconst 0, 1), (.iconst 5, 1), (.invokestatic 36, 3), (.aload_n 1, 1), (.getfield 21, 3), (.iconst 0, 1), (.aload_n 0, 1), (.getfield 21, 3), (.iconst 0, 1), (.iconst 5, 1), (.invokestatic 36, 3), (.return_, 1)] = true := by decide +kernel
  refine go_aload_n rfl hd (fun hd => ?_)
  refine go_aload_n rfl hd (fun hd => ?_)
  refine go_getI co_X5 fl_5_24 (by decide) (Or.inl rfl) (mo_K ha1) hd (fun hd => ?_)
  refine go_putI co_X5 fl_5_24 (by decide) rfl (mo_K ha0) hd (fun hd => ?_)
  refine go_aload_n rfl hd (fun hd => ?_)
  refine go_aload_n rfl hd (fun hd => ?_)
  refine go_getI co_X5 fl_5_28 (by decide) (Or.inl rfl) (mo_K ha1) hd (fun hd => ?_)
  refine go_putI co_X5 fl_5_28 (by decide) rfl (mo_K ha0) hd (fun hd => ?_)
  refine go_aload_n rfl hd (fun hd => ?_)
  refine go_getR co_X5 fl_5_9 (by decide) rfl (mo_K ha1) (mo_R2 ha1) hd (fun hd => ?_)
  refine go_iconst hd (fun hd => ?_)
  refine go_aload_n rfl hd (fun hd => ?_)
  refine go_getR co_X5 fl_5_9 (by decide) rfl (mo_K ha0) (mo_R2 ha0) hd (fun hd => ?_)
  refine go_iconst hd (fun hd => ?_)
  refine go_iconst hd (fun hd => ?_)
  refine go_copy ml_5_36 w_ac1 w_ac2 w_ac3 (mo_S1 ha1) (mo_S1 ha0) (by decide) (by decide) (by decide) (by decide) (by decide) (by decide) (by decide) (Nat.le_of_ble_eq_true rfl) hd (fun hd => ?_)
  refine go_aload_n rfl hd (fun hd => ?_)
  refine go_getR co_X5 fl_5_15 (by decide) rfl (mo_K ha1) (mo_R3 ha1) hd (fun hd => ?_)
  refine go_iconst hd (fun hd => ?_)
  refine go_aload_n rfl hd (fun hd => ?_)
  refine go_getR co_X5 fl_5_15 (by decide) rfl (mo_K ha0) (mo_R3 ha0) hd (fun hd => ?_)
  refine go_iconst hd (fun hd => ?_)
  refine go_iconst hd (fun hd => ?_)
  refine go_copy ml_5_36 w_ac1 w_ac2 w_ac3 (mo_S2 ha1) (mo_S2 ha0) (by decide) (by decide) (by decide) (by decide) (by decide) (by decide) (by decide) (Nat.le_of_ble_eq_true rfl) hd (fun hd => ?_)
  refine go_aload_n rfl hd (fun hd => ?_)
  refine go_getR co_X5 fl_5_18 (by decide) rfl (mo_K ha1) (mo_R4 ha1) hd (fun hd => ?_)
  refine go_iconst hd (fun hd => ?_)
  refine go_aload_n rfl hd (fun hd => ?_)
  refine go_getR co_X5 fl_5_18 (by decide) rfl (mo_K ha0) (mo_R4 ha0) hd (fun hd => ?_)
  refine go_iconst hd (fun hd => ?_)
  refine go_iconst hd (fun hd => ?_)
  refine go_copy ml_5_36 w_ac1 w_ac2 w_ac3 (mo_S3 ha1) (mo_S3 ha0) (by decide) (by decide) (by decide) (by decide) (by decide) (by decide) (by decide) (Nat.le_of_ble_eq_true rfl) hd (fun hd => ?_)
  refine go_aload_n rfl hd (fun hd => ?_)
  refine go_getR co_X5 fl_5_21 (by decide) rfl (mo_K ha1) (mo_R5 ha1) hd (fun hd => ?_)
  refine go_iconst hd (fun hd => ?_)
  refine go_aload_n rfl hd (fun hd => ?_)
  refine go_getR co_X5 fl_5_21 (by decide) rfl (mo_K ha0) (mo_R5 ha0) hd (fun hd => ?_)
  refine go_iconst hd (fun hd => ?_)
  refine go_iconst hd (fun hd => ?_)
  refine go_copy ml_5_36 w_ac1 w_ac2 w_ac3 (mo_S4 ha1) (mo_S4 ha0) (by decide) (by decide) (by decide) (by decide) (by decide) (by decide) (by decide) (Nat.le_of_ble_eq_true rfl) hd (fun hd => ?_)
  exact go_vreturn hd rfl ⟨_, rfl, k⟩
theorem b_Moment_goBy_0 {P : jm_P} {d : Nat} {I : jm_I} {Q : Option jm_V → jm_I → Prop} {a0 : Nat} {a1 : Nat} (ha0 : jx_Mom P a0) (ha1 : jx_City P a1) (hz : (0 ≤ (jm_up I a0 0 ((I a0 0) + 1)) a0 0 ∧ (jm_up I a0 0 ((I a0 0) + 1)) a0 0 < 2147483648) ∧ (-2147483648 ≤ ((jm_up I a0 0 ((I a0 0) + 1)) a0 0) % 20 ∧ ((jm_up I a0 0 ((I a0 0) + 1)) a0 0) % 20 < 2147483648)) (kt : ¬ (((jm_up I a0 0 ((I a0 0) + 1)) a0 0) % 20) = 0 → Gx P d md_Moment_goBy 25 [some (.inr (.inl a0)), some (.inr (.inl a1)), none] [] (jm_up I a0 0 ((I a0 0) + 1)) Q) (kf : (((jm_up I a0 0 ((I a0 0) + 1)) a0 0) % 20) = 0 → Gx P d md_Moment_goBy 20 [some (.inr (.inl a0)), some (.inr (.inl a1)), none] [] (jm_up I a0 0 ((I a0 0) + 1)) Q) : Cx P d md_Moment_goBy [.inr (.inl a0), .inr (.inl a1)] I Q := by
  obtain ⟨hz1, hz2⟩ := hz
  show jm_Go d 0 0 md_Moment_goBy 0 [some (.inr (.inl a0)), some (.inr (.inl a1)), none] [] (jx P I) (jx_Q P Q)
  have hd : jm_dc md_Moment_goBy.2.1 0 [(.aload_n 0, 1), (.dup, 1), (.getfield 24, 3), (.iconst 1, 1), (.iadd, 1), (.putfield 24, 3), (.aload_n 0, 1), (.getfield 24, 3), (.bipush 20, 2), (.irem, 1), (.ifCond .ne 8, 3)] = true := by decide +kernel
  refine go_aload_n rfl hd (fun hd => ?_)
  refine go_dup rfl hd (fun hd => ?_)
  refine go_getI co_X5 fl_5_24 (by decide) (Or.inl rfl) (mo_K ha0) hd (fun hd => ?_)
  refine go_iconst hd (fun hd => ?_)
  refine go_iadd hd (fun hd => ?_)
  refine go_putI co_X5 fl_5_24 (by decide) rfl (mo_K ha0) hd (fun hd => ?_)
  refine go_aload_n rfl hd (fun hd => ?_)
  refine go_getI co_X5 fl_5_24 (by decide) (Or.inl rfl) (mo_K ha0) hd (fun hd => ?_)
  refine go_bipush (by decide) hd (fun hd => ?_)
  refine go_irem hz1 (by decide) hd (fun hd => ?_)
  exact go_if_ne (by decide) hz2 hd kt kf
theorem b_Moment_goBy_20 {P : jm_P} {d : Nat} {I : jm_I} {Q : Option jm_V → jm_I → Prop} {a0 : Nat} {o1 : Option jm_V} {o2 : Option jm_V} (ha0 : jx_Mom P a0) (k : Gx P d md_Moment_goBy 25 [some (.inr (.inl a0)), o1, o2] [] (jm_up I a0 1 0) Q) : Gx P d md_Moment_goBy 20 [some (.inr (.inl a0)), o1, o2] [] I Q := by
  show jm_Go d 0 0 md_Moment_goBy 20 [some (.inr (.inl a0)), o1, o2] [] (jx P I) (jx_Q P Q)
  have hd : jm_dc md_Moment_goBy.2.1 20 [(.aload_n 0, 1), (.iconst 0, 1), (.putfield 28, 3)] = true := by decide +kernel
  refine go_aload_n rfl hd (fun hd => ?_)
  refine go_iconst hd (fun hd => ?_)
  refine go_putI co_X5 fl_5_28 (by decide) rfl (mo_K ha0) hd (fun hd => ?_)
  exact k
theorem b_Moment_goBy_25 {P : jm_P} {d : Nat} {I : jm_I} {Q : Option jm_V → jm_I → Prop} {a0 : Nat} {o1 : Option jm_V} {o2 : Option jm_V} (ha0 : jx_Mom P a0) (k : Cx P d md_Arrays_fill [.inr (.inl (a0 + 3)), .inl (-9)] I (fun v J => Gx P (d + 1) md_Moment_goBy 34 [some (.inr (.inl a0)), o1, o2] (v.toList ++ []) J Q)) : Gx P (d + 1) md_Moment_goBy 25 [some (.inr (.inl a0)), o1, o2] [] I Q := by
  show jm_Go (d + 1) 0 0 md_Moment_goBy 25 [some (.inr (.inl a0)), o1, o2] [] (jx P I) (jx_Q P Q)
  have hd : jm_dc md_Moment_goBy.2.1 25 [(.aload_n 0, 1), (.getfield 18, 3), (.bipush (-9), 2), (.invokestatic 45, 3)] = true := by decide +kernel
  refine go_aload_n rfl hd (fun hd => ?_)
  refine go_getR co_X5 fl_5_18 (by decide) rfl (mo_K ha0) (mo_R4 ha0) hd (fun hd => ?_)
  refine go_bipush (by decide) hd (fun hd => ?_)
  exact gx_static [.inr (.inl (a0 + 3)), .inl (-9)] [] mk_Arrays_fill ml_5_45 st_Arrays_fill rfl (Nat.le_of_ble_eq_true rfl) rfl (Nat.le_of_ble_eq_true rfl) rfl hd k
theorem b_Moment_goBy_34 {P : jm_P} {d : Nat} {I : jm_I} {Q : Option jm_V → jm_I → Prop} {o0 : Option jm_V} {o1 : Option jm_V} {o2 : Option jm_V}  (k : Gx P d md_Moment_goBy 36 [o0, o1, some (.inl 0)] [] I Q) : Gx P d md_Moment_goBy 34 [o0, o1, o2] [] I Q := by
  show jm_Go d 0 0 md_Moment_goBy 34 [o0, o1, o2] [] (jx P I) (jx_Q P Q)
  have hd : jm_dc md_Moment_goBy.2.1 34 [(.iconst 0, 1), (.istore_n 2, 1)] = true := by decide +kernel
  refine go_iconst hd (fun hd => ?_)
  refine go_istore_n (by decide) hd (fun hd => ?_)
  exact k
theorem b_Moment_goBy_36 {P : jm_P} {d : Nat} {I : jm_I} {Q : Option jm_V → jm_I → Prop} {o0 : Option jm_V} {a1 : Nat} {x2 : Int} (ha1 : jx_City P a1) (hz : (-2147483648 ≤ x2 ∧ x2 < 2147483648) ∧ (-2147483648 ≤ I a1 4 ∧ I a1 4 < 2147483648)) (kt : (I a1 4) ≤ x2 → Gx P d md_Moment_goBy 68 [o0, some (.inr (.inl a1)), some (.inl x2)] [] I Q) (kf : ¬ ((I a1 4) ≤ x2) → Gx P d md_Moment_goBy 44 [o0, some (.inr (.inl a1)), some (.inl x2)] [] I Q) : Gx P d md_Moment_goBy 36 [o0, some (.inr (.inl a1)), some (.inl x2)] [] I Q := by
  obtain ⟨hz1, hz2⟩ := hz
  show jm_Go d 0 0 md_Moment_goBy 36 [o0, some (.inr (.inl a1)), some (.inl x2)] [] (jx P I) (jx_Q P Q)
  have hd : jm_dc md_Moment_goBy.2.1 36 [(.iload_n 2, 1), (.aload_n 1, 1), (.getfield 51, 3), (.if_icmp .ge 27, 3)] = true := by decide +kernel
  refine go_iload_n rfl hd (fun hd => ?_)
  refine go_aload_n rfl hd (fun hd => ?_)
  refine go_getI co_X0 fl_5_51 (by decide) (Or.inl rfl) (ct_K ha1) hd (fun hd => ?_)
  exact go_icmp_ge (by decide) hz1 hz2 hd kt kf
theorem b_Moment_goBy_44 {P : jm_P} {d : Nat} {I : jm_I} {Q : Option jm_V → jm_I → Prop} {a0 : Nat} {a1 : Nat} {x2 : Int} (ha0 : jx_Mom P a0) (ha1 : jx_City P a1) (hz : (0 ≤ x2 ∧ x2 < 5)) (k : Cx P d md_City_spotIn [.inr (.inl a1), .inl x2, .inl (I (a0 + 4) x2.toNat), .inl 1] I (fun v J => Gx P (d + 1) md_Moment_goBy 61 [some (.inr (.inl a0)), some (.inr (.inl a1)), some (.inl x2)] (v.toList ++ [.inl x2, .inr (.inl (a0 + 4))]) J Q)) : Gx P (d + 1) md_Moment_goBy 44 [some (.inr (.inl a0)), some (.inr (.inl a1)), some (.inl x2)] [] I Q := by
  have hz1 := hz
  show jm_Go (d + 1) 0 0 md_Moment_goBy 44 [some (.inr (.inl a0)), some (.inr (.inl a1)), some (.inl x2)] [] (jx P I) (jx_Q P Q)
  have hd : jm_dc md_Moment_goBy.2.1 44 [(.aload_n 0, 1), (.getfield 21, 3), (.iload_n 2, 1), (.aload_n 1, 1), (.iload_n 2, 1), (.aload_n 0, 1), (.getfield 21, 3), (.iload_n 2, 1), (.iaload, 1), (.iconst 1, 1), (.invokevirtual 54, 3)] = true := by decide +kernel
  refine go_aload_n rfl hd (fun hd => ?_)
  refine go_getR co_X5 fl_5_21 (by decide) rfl (mo_K ha0) (mo_R5 ha0) hd (fun hd => ?_)
  refine go_iload_n rfl hd (fun hd => ?_)
  refine go_aload_n rfl hd (fun hd => ?_)
  refine go_iload_n rfl hd (fun hd => ?_)
  refine go_aload_n rfl hd (fun hd => ?_)
  refine go_getR co_X5 fl_5_21 (by decide) rfl (mo_K ha0) (mo_R5 ha0) hd (fun hd => ?_)
  refine go_iload_n rfl hd (fun hd => ?_)
  refine go_iaload (mo_S4 ha0) hz1.1 hz1.2 (by decide) hd (fun hd => ?_)
  refine go_iconst hd (fun hd => ?_)
  exact gx_virtual a1 0 [.inl x2, .inl (I (a0 + 4) x2.toNat), .inl 1] [.inl x2, .inr (.inl (a0 + 4))] mk_City_spotIn co_X0 rfl ml_5_54 in_City_spotIn se_City_spotIn (ct_K ha1) rfl (Nat.le_of_ble_eq_true rfl) rfl (Nat.le_of_ble_eq_true rfl) rfl hd k
theorem b_Moment_goBy_61 {P : jm_P} {d : Nat} {I : jm_I} {Q : Option jm_V → jm_I → Prop} {o0 : Option jm_V} {o1 : Option jm_V} {x2 : Int} {b0 nb0 : Nat} {s1 : Int} {s2 : Int} (hb0 : P.2.1 b0 = (20, nb0)) (hz : (0 ≤ s1 ∧ s1 < nb0) ∧ (nb0 < 2147483648)) (k : Gx P d md_Moment_goBy 36 [o0, o1, some (.inl (x2 + 1))] [] (jm_up I b0 (s1.toNat) s2) Q) : Gx P d md_Moment_goBy 61 [o0, o1, some (.inl x2)] [.inl s2, .inl s1, .inr (.inl b0)] I Q := by
  obtain ⟨hz1, hz2⟩ := hz
  show jm_Go d 0 0 md_Moment_goBy 61 [o0, o1, some (.inl x2)] [.inl s2, .inl s1, .inr (.inl b0)] (jx P I) (jx_Q P Q)
  have hd : jm_dc md_Moment_goBy.2.1 61 [(.iastore, 1), (.iinc 2 1, 3), (.goto (-29), 3)] = true := by decide +kernel
  refine go_iastore hb0 hz1.1 hz1.2 hz2 hd (fun hd => ?_)
  refine go_iinc rfl hd (fun hd => ?_)
  exact go_goto (by decide) hd k
theorem b_Moment_goBy_68 {P : jm_P} {d : Nat} {I : jm_I} {Q : Option jm_V → jm_I → Prop} {o0 : Option jm_V} {o1 : Option jm_V} {o2 : Option jm_V}  (k : Q none I) : Gx P d md_Moment_goBy 68 [o0, o1, o2] [] I Q := by
  show jm_Go d 0 0 md_Moment_goBy 68 [o0, o1, o2] [] (jx P I) (jx_Q P Q)
  have hd : jm_dc md_Moment_goBy.2.1 68 [(.return_, 1)] = true := by decide +kernel
  exact go_vreturn hd rfl ⟨_, rfl, k⟩
theorem b_City_spotIn_0 {P : jm_P} {d : Nat} {I : jm_I} {Q : Option jm_V → jm_I → Prop} {a0 : Nat} {x1 : Int} {x2 : Int} {x3 : Int} (ha0 : jx_City P a0) (hz : (-2147483648 ≤ x2 ∧ x2 < 2147483648)) (kt : 4 ≤ x2 → Gx P d md_City_spotIn 14 [some (.inr (.inl a0)), some (.inl x1), some (.inl x2), some (.inl x3)] [] I Q) (kf : ¬ (4 ≤ x2) → Gx P d md_City_spotIn 5 [some (.inr (.inl a0)), some (.inl x1), some (.inl x2), some (.inl x3)] [] I Q) : Cx P d md_City_spotIn [.inr (.inl a0), .inl x1, .inl x2, .inl x3] I Q := by
  have hz1 := hz
  show jm_Go d 0 0 md_City_spotIn 0 [some (.inr (.inl a0)), some (.inl x1), some (.inl x2), some (.inl x3)] [] (jx P I) (jx_Q P Q)
  have hd : jm_dc md_City_spotIn.2.1 0 [(.iload_n 2, 1), (.iconst 4, 1), (.if_icmp .ge 12, 3)] = true := by decide +kernel
  refine go_iload_n rfl hd (fun hd => ?_)
  refine go_iconst hd (fun hd => ?_)
  exact go_icmp_ge (by decide) hz1 ⟨by decide, by decide⟩ hd kt kf
theorem b_City_spotIn_5 {P : jm_P} {d : Nat} {I : jm_I} {Q : Option jm_V → jm_I → Prop} {a0 : Nat} {x1 : Int} {o2 : Option jm_V} {o3 : Option jm_V} (ha0 : jx_City P a0) (hz : (0 ≤ x1 ∧ x1 < 5) ∧ (-2147483648 ≤ I (a0 + 6) x1.toNat ∧ I (a0 + 6) x1.toNat < 2147483648)) (kt : ¬ (I (a0 + 6) x1.toNat) = 0 → Gx P d md_City_spotIn 16 [some (.inr (.inl a0)), some (.inl x1), o2, o3] [] I Q) (kf : (I (a0 + 6) x1.toNat) = 0 → Gx P d md_City_spotIn 14 [some (.inr (.inl a0)), some (.inl x1), o2, o3] [] I Q) : Gx P d md_City_spotIn 5 [some (.inr (.inl a0)), some (.inl x1), o2, o3] [] I Q := by
  obtain ⟨hz1, hz2⟩ := hz
  show jm_Go d 0 0 md_City_spotIn 5 [some (.inr (.inl a0)), some (.inl x1), o2, o3] [] (jx P I) (jx_Q P Q)
  have hd : jm_dc md_City_spotIn.2.1 5 [(.aload_n 0, 1), (.getfield 27, 3), (.iload_n 1, 1), (.iaload, 1), (.ifCond .ne 5, 3)] = true := by decide +kernel
  refine go_aload_n rfl hd (fun hd => ?_)
  refine go_getR co_X0 fl_0_27 (by decide) rfl (ct_K ha0) (ct_R10 ha0) hd (fun hd => ?_)
  refine go_iload_n rfl hd (fun hd => ?_)
  refine go_iaload (ct_S6 ha0) hz1.1 hz1.2 (by decide) hd (fun hd => ?_)
  exact go_if_ne (by decide) hz2 hd kt kf
theorem b_City_spotIn_14 {P : jm_P} {d : Nat} {I : jm_I} {Q : Option jm_V → jm_I → Prop} {o0 : Option jm_V} {o1 : Option jm_V} {x2 : Int} {o3 : Option jm_V}  (k : Q (some (.inl x2)) I) : Gx P d md_City_spotIn 14 [o0, o1, some (.inl x2), o3] [] I Q := by
  show jm_Go d 0 0 md_City_spotIn 14 [o0, o1, some (.inl x2), o3] [] (jx P I) (jx_Q P Q)
  have hd : jm_dc md_City_spotIn.2.1 14 [(.iload_n 2, 1), (.ireturn, 1)] = true := by decide +kernel
  refine go_iload_n rfl hd (fun hd => ?_)
  exact go_ireturn hd rfl ⟨_, rfl, k⟩
theorem b_City_spotIn_16 {P : jm_P} {d : Nat} {I : jm_I} {Q : Option jm_V → jm_I → Prop} {a0 : Nat} {x1 : Int} {x2 : Int} {x3 : Int} (ha0 : jx_City P a0) (hz : (0 ≤ x1 ∧ x1 < 5) ∧ (0 ≤ x2 + x3 ∧ x2 + x3 < 2147483648) ∧ (0 < I (a0 + 6) x1.toNat ∧ I (a0 + 6) x1.toNat < 2147483648)) (k : Q (some (.inl ((x2 + x3) % (I (a0 + 6) x1.toNat)))) I) : Gx P d md_City_spotIn 16 [some (.inr (.inl a0)), some (.inl x1), some (.inl x2), some (.inl x3)] [] I Q := by
  obtain ⟨hz1, hz2, hz3⟩ := hz
  show jm_Go d 0 0 md_City_spotIn 16 [some (.inr (.inl a0)), some (.inl x1), some (.inl x2), some (.inl x3)] [] (jx P I) (jx_Q P Q)
  have hd : jm_dc md_City_spotIn.2.1 16 [(.iload_n 2, 1), (.iload_n 3, 1), (.iadd, 1), (.aload_n 0, 1), (.getfield 27, 3), (.iload_n 1, 1), (.iaload, 1), (.irem, 1), (.ireturn, 1)] = true := by decide +kernel
  refine go_iload_n rfl hd (fun hd => ?_)
  refine go_iload_n rfl hd (fun hd => ?_)
  refine go_iadd hd (fun hd => ?_)
  refine go_aload_n rfl hd (fun hd => ?_)
  refine go_getR co_X0 fl_0_27 (by decide) rfl (ct_K ha0) (ct_R10 ha0) hd (fun hd => ?_)
  refine go_iload_n rfl hd (fun hd => ?_)
  refine go_iaload (ct_S6 ha0) hz1.1 hz1.2 (by decide) hd (fun hd => ?_)
  refine go_irem hz2 hz3 hd (fun hd => ?_)
  exact go_ireturn hd rfl ⟨_, rfl, k⟩
theorem b_City_stepsToCarry_0 {P : jm_P} {d : Nat} {I : jm_I} {Q : Option jm_V → jm_I → Prop} {a0 : Nat} {x1 : Int} {x2 : Int} {x3 : Int} (ha0 : jx_City P a0) (hz : (0 ≤ x1 ∧ x1 < 6) ∧ (0 ≤ x2 ∧ x2 < 6) ∧ (0 ≤ x2 ∧ x2 < 6) ∧ (0 ≤ x3 ∧ x3 < 6)) (k : Q (some (.inl ((I (a0 + 14 + x1.toNat) x2.toNat) + (I (a0 + 14 + x2.toNat) x3.toNat)))) I) : Cx P d md_City_stepsToCarry [.inr (.inl a0), .inl x1, .inl x2, .inl x3] I Q := by
  obtain ⟨hz1, hz2, hz3, hz4⟩ := hz
  show jm_Go d 0 0 md_City_stepsToCarry 0 [some (.inr (.inl a0)), some (.inl x1), some (.inl x2), some (.inl x3)] [] (jx P I) (jx_Q P Q)
  have hd : jm_dc md_City_stepsToCarry.2.1 0 [(.aload_n 0, 1), (.getfield 35, 3), (.iload_n 1, 1), (.aaload, 1), (.iload_n 2, 1), (.iaload, 1), (.aload_n 0, 1), (.getfield 35, 3), (.iload_n 2, 1), (.aaload, 1), (.iload_n 3, 1), (.iaload, 1), (.iadd, 1), (.ireturn, 1)] = true := by decide +kernel
  refine go_aload_n rfl hd (fun hd => ?_)
  refine go_getR co_X0 fl_0_35 (by decide) rfl (ct_K ha0) (ct_R12 ha0) hd (fun hd => ?_)
  refine go_iload_n rfl hd (fun hd => ?_)
  refine go_aaload (Or.inr (ct_S13 ha0)) hz1.1 hz1.2 (by decide) (ct_distI ha0 hz1.1 hz1.2) hd (fun hd => ?_)
  refine go_iload_n rfl hd (fun hd => ?_)
  refine go_iaload (ct_distS ha0 hz1.1 hz1.2) hz2.1 hz2.2 (by decide) hd (fun hd => ?_)
  refine go_aload_n rfl hd (fun hd => ?_)
  refine go_getR co_X0 fl_0_35 (by decide) rfl (ct_K ha0) (ct_R12 ha0) hd (fun hd => ?_)
  refine go_iload_n rfl hd (fun hd => ?_)
  refine go_aaload (Or.inr (ct_S13 ha0)) hz3.1 hz3.2 (by decide) (ct_distI ha0 hz3.1 hz3.2) hd (fun hd => ?_)
  refine go_iload_n rfl hd (fun hd => ?_)
  refine go_iaload (ct_distS ha0 hz3.1 hz3.2) hz4.1 hz4.2 (by decide) hd (fun hd => ?_)
  refine go_iadd hd (fun hd => ?_)
  exact go_ireturn hd rfl ⟨_, rfl, k⟩
theorem b_City_spotOfRoom_0 {P : jm_P} {d : Nat} {I : jm_I} {Q : Option jm_V → jm_I → Prop} {a0 : Nat} {x1 : Int} {x2 : Int} (ha0 : jx_City P a0) (k : Gx P d md_City_spotOfRoom 2 [some (.inr (.inl a0)), some (.inl x1), some (.inl x2), some (.inl 0)] [] I Q) : Cx P d md_City_spotOfRoom [.inr (.inl a0), .inl x1, .inl x2] I Q := by
  show jm_Go d 0 0 md_City_spotOfRoom 0 [some (.inr (.inl a0)), some (.inl x1), some (.inl x2), none] [] (jx P I) (jx_Q P Q)
  have hd : jm_dc md_City_spotOfRoom.2.1 0 [(.iconst 0, 1), (.istore_n 3, 1)] = true := by decide +kernel
  refine go_iconst hd (fun hd => ?_)
  refine go_istore_n (by decide) hd (fun hd => ?_)
  exact k
theorem b_City_spotOfRoom_2 {P : jm_P} {d : Nat} {I : jm_I} {Q : Option jm_V → jm_I → Prop} {a0 : Nat} {x1 : Int} {o2 : Option jm_V} {x3 : Int} (ha0 : jx_City P a0) (hz : (0 ≤ x1 ∧ x1 < 5) ∧ (-2147483648 ≤ x3 ∧ x3 < 2147483648) ∧ (-2147483648 ≤ I (a0 + 6) x1.toNat ∧ I (a0 + 6) x1.toNat < 2147483648)) (kt : (I (a0 + 6) x1.toNat) ≤ x3 → Gx P d md_City_spotOfRoom 32 [some (.inr (.inl a0)), some (.inl x1), o2, some (.inl x3)] [] I Q) (kf : ¬ ((I (a0 + 6) x1.toNat) ≤ x3) → Gx P d md_City_spotOfRoom 12 [some (.inr (.inl a0)), some (.inl x1), o2, some (.inl x3)] [] I Q) : Gx P d md_City_spotOfRoom 2 [some (.inr (.inl a0)), some (.inl x1), o2, some (.inl x3)] [] I Q := by
  obtain ⟨hz1, hz2, hz3⟩ := hz
  show jm_Go d 0 0 md_City_spotOfRoom 2 [some (.inr (.inl a0)), some (.inl x1), o2, some (.inl x3)] [] (jx P I) (jx_Q P Q)
  have hd : jm_dc md_City_spotOfRoom.2.1 2 [(.iload_n 3, 1), (.aload_n 0, 1), (.getfield 27, 3), (.iload_n 1, 1), (.iaload, 1), (.if_icmp .ge 23, 3)] = true := by decide +kernel
  refine go_iload_n rfl hd (fun hd => ?_)
  refine go_aload_n rfl hd (fun hd => ?_)
  refine go_getR co_X0 fl_0_27 (by decide) rfl (ct_K ha0) (ct_R10 ha0) hd (fun hd => ?_)
  refine go_iload_n rfl hd (fun hd => ?_)
  refine go_iaload (ct_S6 ha0) hz1.1 hz1.2 (by decide) hd (fun hd => ?_)
  exact go_icmp_ge (by decide) hz2 hz3 hd kt kf
theorem b_City_spotOfRoom_12 {P : jm_P} {d : Nat} {I : jm_I} {Q : Option jm_V → jm_I → Prop} {a0 : Nat} {x1 : Int} {x2 : Int} {x3 : Int} (ha0 : jx_City P a0) (hz : (0 ≤ x1 ∧ x1 < 5) ∧ (0 ≤ x3 ∧ x3 < 4) ∧ (-2147483648 ≤ I (a0 + 8 + x1.toNat) x3.toNat ∧ I (a0 + 8 + x1.toNat) x3.toNat < 2147483648) ∧ (-2147483648 ≤ x2 ∧ x2 < 2147483648)) (kt : ¬ (I (a0 + 8 + x1.toNat) x3.toNat) = x2 → Gx P d md_City_spotOfRoom 26 [some (.inr (.inl a0)), some (.inl x1), some (.inl x2), some (.inl x3)] [] I Q) (kf : (I (a0 + 8 + x1.toNat) x3.toNat) = x2 → Gx P d md_City_spotOfRoom 24 [some (.inr (.inl a0)), some (.inl x1), some (.inl x2), some (.inl x3)] [] I Q) : Gx P d md_City_spotOfRoom 12 [some (.inr (.inl a0)), some (.inl x1), some (.inl x2), some (.inl x3)] [] I Q := by
  obtain ⟨hz1, hz2, hz3, hz4⟩ := hz
  show jm_Go d 0 0 md_City_spotOfRoom 12 [some (.inr (.inl a0)), some (.inl x1), some (.inl x2), some (.inl x3)] [] (jx P I) (jx_Q P Q)
  have hd : jm_dc md_City_spotOfRoom.2.1 12 [(.aload_n 0, 1), (.getfield 32, 3), (.iload_n 1, 1), (.aaload, 1), (.iload_n 3, 1), (.iaload, 1), (.iload_n 2, 1), (.if_icmp .ne 5, 3)] = true := by decide +kernel
  refine go_aload_n rfl hd (fun hd => ?_)
  refine go_getR co_X0 fl_0_32 (by decide) rfl (ct_K ha0) (ct_R11 ha0) hd (fun hd => ?_)
  refine go_iload_n rfl hd (fun hd => ?_)
  refine go_aaload (Or.inr (ct_S7 ha0)) hz1.1 hz1.2 (by decide) (ct_roundI ha0 hz1.1 hz1.2) hd (fun hd => ?_)
  refine go_iload_n rfl hd (fun hd => ?_)
  refine go_iaload (ct_roundS ha0 hz1.1 hz1.2) hz2.1 hz2.2 (by decide) hd (fun hd => ?_)
  refine go_iload_n rfl hd (fun hd => ?_)
  exact go_icmp_ne (by decide) hz3 hz4 hd kt kf
theorem b_City_spotOfRoom_24 {P : jm_P} {d : Nat} {I : jm_I} {Q : Option jm_V → jm_I → Prop} {o0 : Option jm_V} {o1 : Option jm_V} {o2 : Option jm_V} {x3 : Int}  (k : Q (some (.inl x3)) I) : Gx P d md_City_spotOfRoom 24 [o0, o1, o2, some (.inl x3)] [] I Q := by
  show jm_Go d 0 0 md_City_spotOfRoom 24 [o0, o1, o2, some (.inl x3)] [] (jx P I) (jx_Q P Q)
  have hd : jm_dc md_City_spotOfRoom.2.1 24 [(.iload_n 3, 1), (.ireturn, 1)] = true := by decide +kernel
  refine go_iload_n rfl hd (fun hd => ?_)
  exact go_ireturn hd rfl ⟨_, rfl, k⟩
theorem b_City_spotOfRoom_26 {P : jm_P} {d : Nat} {I : jm_I} {Q : Option jm_V → jm_I → Prop} {o0 : Option jm_V} {o1 : Option jm_V} {o2 : Option jm_V} {x3 : Int}  (k : Gx P d md_City_spotOfRoom 2 [o0, o1, o2, some (.inl (x3 + 1))] [] I Q) : Gx P d md_City_spotOfRoom 26 [o0, o1, o2, some (.inl x3)] [] I Q := by
  show jm_Go d 0 0 md_City_spotOfRoom 26 [o0, o1, o2, some (.inl x3)] [] (jx P I) (jx_Q P Q)
  have hd : jm_dc md_City_spotOfRoom.2.1 26 [(.iinc 3 1, 3), (.goto (-27), 3)] = true := by decide +kernel
  refine go_iinc rfl hd (fun hd => ?_)
  exact go_goto (by decide) hd k
theorem b_City_spotOfRoom_32 {P : jm_P} {d : Nat} {I : jm_I} {Q : Option jm_V → jm_I → Prop} {o0 : Option jm_V} {o1 : Option jm_V} {x2 : Int} {o3 : Option jm_V}  (k : Q (some (.inl (4 + x2))) I) : Gx P d md_City_spotOfRoom 32 [o0, o1, some (.inl x2), o3] [] I Q := by
  show jm_Go d 0 0 md_City_spotOfRoom 32 [o0, o1, some (.inl x2), o3] [] (jx P I) (jx_Q P Q)
  have hd : jm_dc md_City_spotOfRoom.2.1 32 [(.iconst 4, 1), (.iload_n 2, 1), (.iadd, 1), (.ireturn, 1)] = true := by decide +kernel
  refine go_iconst hd (fun hd => ?_)
  refine go_iload_n rfl hd (fun hd => ?_)
  refine go_iadd hd (fun hd => ?_)
  exact go_ireturn hd rfl ⟨_, rfl, k⟩
theorem b_City_roomIn_0 {P : jm_P} {d : Nat} {I : jm_I} {Q : Option jm_V → jm_I → Prop} {a0 : Nat} {x1 : Int} {x2 : Int} {x3 : Int} (ha0 : jx_City P a0) (k : Cx P d md_City_spotIn [.inr (.inl a0), .inl x1, .inl x2, .inl x3] I (fun v J => Gx P (d + 1) md_City_roomIn 9 [some (.inr (.inl a0)), some (.inl x1), some (.inl x2), some (.inl x3)] (v.toList ++ [.inl x1, .inr (.inl a0)]) J Q)) : Cx P (d + 1) md_City_roomIn [.inr (.inl a0), .inl x1, .inl x2, .inl x3] I Q := by
  show jm_Go (d + 1) 0 0 md_City_roomIn 0 [some (.inr (.inl a0)), some (.inl x1), some (.inl x2), some (.inl x3)] [] (jx P I) (jx_Q P Q)
  have hd : jm_dc md_City_roomIn.2.1 0 [(.aload_n 0, 1), (.iload_n 1, 1), (.aload_n 0, 1), (.iload_n 1, 1), (.iload_n 2, 1), (.iload_n 3, 1), (.invokevirtual 71, 3)] = true := by decide +kernel
  refine go_aload_n rfl hd (fun hd => ?_)
  refine go_iload_n rfl hd (fun hd => ?_)
  refine go_aload_n rfl hd (fun hd => ?_)
  refine go_iload_n rfl hd (fun hd => ?_)
  refine go_iload_n rfl hd (fun hd => ?_)
  refine go_iload_n rfl hd (fun hd => ?_)
  exact gx_virtual a0 0 [.inl x1, .inl x2, .inl x3] [.inl x1, .inr (.inl a0)] mk_City_spotIn co_X0 rfl ml_0_71 in_City_spotIn se_City_spotIn (ct_K ha0) rfl (Nat.le_of_ble_eq_true rfl) rfl (Nat.le_of_ble_eq_true rfl) rfl hd k
theorem b_City_roomIn_9 {P : jm_P} {d : Nat} {I : jm_I} {Q : Option jm_V → jm_I → Prop} {o0 : Option jm_V} {o1 : Option jm_V} {o2 : Option jm_V} {o3 : Option jm_V} {b0 : Nat} {s1 : Int} {s2 : Int} (hb0 : jx_City P b0) (k : Cx P d md_City_roomOfSpot [.inr (.inl b0), .inl s1, .inl s2] I (fun v J => Gx P (d + 1) md_City_roomIn 12 [o0, o1, o2, o3] (v.toList ++ []) J Q)) : Gx P (d + 1) md_City_roomIn 9 [o0, o1, o2, o3] [.inl s2, .inl s1, .inr (.inl b0)] I Q := by
  show jm_Go (d + 1) 0 0 md_City_roomIn 9 [o0, o1, o2, o3] [.inl s2, .inl s1, .inr (.inl b0)] (jx P I) (jx_Q P Q)
  have hd : jm_dc md_City_roomIn.2.1 9 [(.invokevirtual 75, 3)] = true := by decide +kernel
  exact gx_virtual b0 0 [.inl s1, .inl s2] [] mk_City_roomOfSpot co_X0 rfl ml_0_75 in_City_roomOfSpot se_City_roomOfSpot (ct_K hb0) rfl (Nat.le_of_ble_eq_true rfl) rfl (Nat.le_of_ble_eq_true rfl) rfl hd k
theorem b_City_roomIn_12 {P : jm_P} {d : Nat} {I : jm_I} {Q : Option jm_V → jm_I → Prop} {o0 : Option jm_V} {o1 : Option jm_V} {o2 : Option jm_V} {o3 : Option jm_V} {s0 : Int}  (k : Q (some (.inl s0)) I) : Gx P d md_City_roomIn 12 [o0, o1, o2, o3] [.inl s0] I Q := by
  show jm_Go d 0 0 md_City_roomIn 12 [o0, o1, o2, o3] [.inl s0] (jx P I) (jx_Q P Q)
  have hd : jm_dc md_City_roomIn.2.1 12 [(.ireturn, 1)] = true := by decide +kernel
  exact go_ireturn hd rfl ⟨_, rfl, k⟩
theorem b_Moment_rested_0 {P : jm_P} {d : Nat} {I : jm_I} {Q : Option jm_V → jm_I → Prop} {a0 : Nat} {a1 : Nat} (ha0 : jx_Mom P a0) (ha1 : jx_City P a1) (k : Q (some (.inl (jb_and ((jb_shl 1 (I a1 3)) - 1) (jb_xor (I a0 1) (-1))))) I) : Cx P d md_Moment_rested [.inr (.inl a0), .inr (.inl a1)] I Q := by
  show jm_Go d 0 0 md_Moment_rested 0 [some (.inr (.inl a0)), some (.inr (.inl a1))] [] (jx P I) (jx_Q P Q)
  have hd : jm_dc md_Moment_rested.2.1 0 [(.iconst 1, 1), (.aload_n 1, 1), (.getfield 58, 3), (.ishl, 1), (.iconst 1, 1), (.isub, 1), (.aload_n 0, 1), (.getfield 28, 3), (.iconst (-1), 1), (.ixor, 1), (.iand, 1), (.ireturn, 1)] = true := by decide +kernel
  refine go_iconst hd (fun hd => ?_)
  refine go_aload_n rfl hd (fun hd => ?_)
  refine go_getI co_X0 fl_5_58 (by decide) (Or.inl rfl) (ct_K ha1) hd (fun hd => ?_)
  refine go_ishl hd (fun hd => ?_)
  refine go_iconst hd (fun hd => ?_)
  refine go_isub hd (fun hd => ?_)
  refine go_aload_n rfl hd (fun hd => ?_)
  refine go_getI co_X5 fl_5_28 (by decide) (Or.inl rfl) (mo_K ha0) hd (fun hd => ?_)
  refine go_iconst hd (fun hd => ?_)
  refine go_ixor hd (fun hd => ?_)
  refine go_iand hd (fun hd => ?_)
  exact go_ireturn hd rfl ⟨_, rfl, k⟩
theorem b_Integer_bitCount_0 {P : jm_P} {d : Nat} {I : jm_I} {Q : Option jm_V → jm_I → Prop} {x0 : Int}  (k : Q (some (.inl (jb_and (((jb_and (((jb_and (x0 - (jb_and (jb_ushr x0 1) 1431655765)) 858993459) + (jb_and (jb_ushr (x0 - (jb_and (jb_ushr x0 1) 1431655765)) 2) 858993459)) + (jb_ushr ((jb_and (x0 - (jb_and (jb_ushr x0 1) 1431655765)) 858993459) + (jb_and (jb_ushr (x0 - (jb_and (jb_ushr x0 1) 1431655765)) 2) 858993459)) 4)) 252645135) + (jb_ushr (jb_and (((jb_and (x0 - (jb_and (jb_ushr x0 1) 1431655765)) 858993459) + (jb_and (jb_ushr (x0 - (jb_and (jb_ushr x0 1) 1431655765)) 2) 858993459)) + (jb_ushr ((jb_and (x0 - (jb_and (jb_ushr x0 1) 1431655765)) 858993459) + (jb_and (jb_ushr (x0 - (jb_and (jb_ushr x0 1) 1431655765)) 2) 858993459)) 4)) 252645135) 8)) + (jb_ushr ((jb_and (((jb_and (x0 - (jb_and (jb_ushr x0 1) 1431655765)) 858993459) + (jb_and (jb_ushr (x0 - (jb_and (jb_ushr x0 1) 1431655765)) 2) 858993459)) + (jb_ushr ((jb_and (x0 - (jb_and (jb_ushr x0 1) 1431655765)) 858993459) + (jb_and (jb_ushr (x0 - (jb_and (jb_ushr x0 1) 1431655765)) 2) 858993459)) 4)) 252645135) + (jb_ushr (jb_and (((jb_and (x0 - (jb_and (jb_ushr x0 1) 1431655765)) 858993459) + (jb_and (jb_ushr (x0 - (jb_and (jb_ushr x0 1) 1431655765)) 2) 858993459)) + (jb_ushr ((jb_and (x0 - (jb_and (jb_ushr x0 1) 1431655765)) 858993459) + (jb_and (jb_ushr (x0 - (jb_and (jb_ushr x0 1) 1431655765)) 2) 858993459)) 4)) 252645135) 8)) 16)) 63))) I) : Cx P d md_Integer_bitCount [.inl x0] I Q := by
  show jm_Go d 0 0 md_Integer_bitCount 0 [some (.inl x0)] [] (jx P I) (jx_Q P Q)
  have hd : jm_dc md_Integer_bitCount.2.1 0 [(.iload_n 0, 1), (.iload_n 0, 1), (.iconst 1, 1), (.iushr, 1), (.ldc_w 265, 3), (.iand, 1), (.isub, 1), (.istore_n 0, 1), (.iload_n 0, 1), (.ldc_w 266, 3), (.iand, 1), (.iload_n 0, 1), (.iconst 2, 1), (.iushr, 1), (.ldc_w 266, 3), (.iand, 1), (.iadd, 1), (.istore_n 0, 1), (.iload_n 0, 1), (.iload_n 0, 1), (.iconst 4, 1), (.iushr, 1), (.iadd, 1), (.ldc_w 267, 3), (.iand, 1), (.istore_n 0, 1), (.iload_n 0, 1), (.iload_n 0, 1), (.bipush 8, 2), (.iushr, 1), (.iadd, 1), (.istore_n 0, 1), (.iload_n 0, 1), (.iload_n 0, 1), (.bipush 16, 2), (.iushr, 1), (.iadd, 1), (.istore_n 0, 1), (.iload_n 0, 1), (.bipush 63, 2), (.iand, 1), (.ireturn, 1)] = true := by decide +kernel
  refine go_iload_n rfl hd (fun hd => ?_)
  refine go_iload_n rfl hd (fun hd => ?_)
  refine go_iconst hd (fun hd => ?_)
  refine go_iushr hd (fun hd => ?_)
  refine go_ldcw (1431655765) (1431655765) (by decide) kc_ig_265 hd (fun hd => ?_)
  refine go_iand hd (fun hd => ?_)
  refine go_isub hd (fun hd => ?_)
  refine go_istore_n (by decide) hd (fun hd => ?_)
  refine go_iload_n rfl hd (fun hd => ?_)
  refine go_ldcw (858993459) (858993459) (by decide) kc_ig_266 hd (fun hd => ?_)
  refine go_iand hd (fun hd => ?_)
  refine go_iload_n rfl hd (fun hd => ?_)
  refine go_iconst hd (fun hd => ?_)
  refine go_iushr hd (fun hd => ?_)
  refine go_ldcw (858993459) (858993459) (by decide) kc_ig_266 hd (fun hd => ?_)
  refine go_iand hd (fun hd => ?_)
  refine go_iadd hd (fun hd => ?_)
  refine go_istore_n (by decide) hd (fun hd => ?_)
  refine go_iload_n rfl hd (fun hd => ?_)
  refine go_iload_n rfl hd (fun hd => ?_)
  refine go_iconst hd (fun hd => ?_)
  refine go_iushr hd (fun hd => ?_)
  refine go_iadd hd (fun hd => ?_)
  refine go_ldcw (252645135) (252645135) (by decide) kc_ig_267 hd (fun hd => ?_)
  refine go_iand hd (fun hd => ?_)
  refine go_istore_n (by decide) hd (fun hd => ?_)
  refine go_iload_n rfl hd (fun hd => ?_)
  refine go_iload_n rfl hd (fun hd => ?_)
  refine go_bipush (by decide) hd (fun hd => ?_)
  refine go_iushr hd (fun hd => ?_)
  refine go_iadd hd (fun hd => ?_)
  refine go_istore_n (by decide) hd (fun hd => ?_)
  refine go_iload_n rfl hd (fun hd => ?_)
  refine go_iload_n rfl hd (fun hd => ?_)
  refine go_bipush (by decide) hd (fun hd => ?_)
  refine go_iushr hd (fun hd => ?_)
  refine go_iadd hd (fun hd => ?_)
  refine go_istore_n (by decide) hd (fun hd => ?_)
  refine go_iload_n rfl hd (fun hd => ?_)
  refine go_bipush (by decide) hd (fun hd => ?_)
  refine go_iand hd (fun hd => ?_)
  exact go_ireturn hd rfl ⟨_, rfl, k⟩
theorem b_City_openDoors_0 {P : jm_P} {d : Nat} {I : jm_I} {Q : Option jm_V → jm_I → Prop} {a0 : Nat} (ha0 : jx_City P a0) (k : Gx P d md_City_openDoors 4 [some (.inr (.inl a0)), some (.inl 0), some (.inl 0)] [] I Q) : Cx P d md_City_openDoors [.inr (.inl a0)] I Q := by
  show jm_Go d 0 0 md_City_openDoors 0 [some (.inr (.inl a0)), none, none] [] (jx P I) (jx_Q P Q)
  have hd : jm_dc md_City_openDoors.2.1 0 [(.iconst 0, 1), (.istore_n 1, 1), (.iconst 0, 1), (.istore_n 2, 1)] = true := by decide +kernel
  refine go_iconst hd (fun hd => ?_)
  refine go_istore_n (by decide) hd (fun hd => ?_)
  refine go_iconst hd (fun hd => ?_)
  refine go_istore_n (by decide) hd (fun hd => ?_)
  exact k
theorem b_City_openDoors_4 {P : jm_P} {d : Nat} {I : jm_I} {Q : Option jm_V → jm_I → Prop} {a0 : Nat} {o1 : Option jm_V} {x2 : Int} (ha0 : jx_City P a0) (hz : (-2147483648 ≤ x2 ∧ x2 < 2147483648) ∧ (-2147483648 ≤ I a0 2 ∧ I a0 2 < 2147483648)) (kt : (I a0 2) ≤ x2 → Gx P d md_City_openDoors 33 [some (.inr (.inl a0)), o1, some (.inl x2)] [] I Q) (kf : ¬ ((I a0 2) ≤ x2) → Gx P d md_City_openDoors 12 [some (.inr (.inl a0)), o1, some (.inl x2)] [] I Q) : Gx P d md_City_openDoors 4 [some (.inr (.inl a0)), o1, some (.inl x2)] [] I Q := by
  obtain ⟨hz1, hz2⟩ := hz
  show jm_Go d 0 0 md_City_openDoors 4 [some (.inr (.inl a0)), o1, some (.inl x2)] [] (jx P I) (jx_Q P Q)
  have hd : jm_dc md_City_openDoors.2.1 4 [(.iload_n 2, 1), (.aload_n 0, 1), (.getfield 48, 3), (.if_icmp .ge 24, 3)] = true := by decide +kernel
  refine go_iload_n rfl hd (fun hd => ?_)
  refine go_aload_n rfl hd (fun hd => ?_)
  refine go_getI co_X0 fl_0_48 (by decide) (Or.inl rfl) (ct_K ha0) hd (fun hd => ?_)
  exact go_icmp_ge (by decide) hz1 hz2 hd kt kf
theorem b_City_openDoors_12 {P : jm_P} {d : Nat} {I : jm_I} {Q : Option jm_V → jm_I → Prop} {a0 : Nat} {o1 : Option jm_V} {x2 : Int} (ha0 : jx_City P a0) (hz : (0 ≤ x2 ∧ x2 < 8) ∧ (-2147483648 ≤ I (a0 + 3) x2.toNat ∧ I (a0 + 3) x2.toNat < 2147483648)) (kt : ¬ (I (a0 + 3) x2.toNat) = 0 → Gx P d md_City_openDoors 27 [some (.inr (.inl a0)), o1, some (.inl x2)] [] I Q) (kf : (I (a0 + 3) x2.toNat) = 0 → Gx P d md_City_openDoors 21 [some (.inr (.inl a0)), o1, some (.inl x2)] [] I Q) : Gx P d md_City_openDoors 12 [some (.inr (.inl a0)), o1, some (.inl x2)] [] I Q := by
  obtain ⟨hz1, hz2⟩ := hz
  show jm_Go d 0 0 md_City_openDoors 12 [some (.inr (.inl a0)), o1, some (.inl x2)] [] (jx P I) (jx_Q P Q)
  have hd : jm_dc md_City_openDoors.2.1 12 [(.aload_n 0, 1), (.getfield 18, 3), (.iload_n 2, 1), (.iaload, 1), (.ifCond .ne 9, 3)] = true := by decide +kernel
  refine go_aload_n rfl hd (fun hd => ?_)
  refine go_getR co_X0 fl_0_18 (by decide) rfl (ct_K ha0) (ct_R7 ha0) hd (fun hd => ?_)
  refine go_iload_n rfl hd (fun hd => ?_)
  refine go_iaload (ct_S3 ha0) hz1.1 hz1.2 (by decide) hd (fun hd => ?_)
  exact go_if_ne (by decide) hz2 hd kt kf
theorem b_City_openDoors_21 {P : jm_P} {d : Nat} {I : jm_I} {Q : Option jm_V → jm_I → Prop} {o0 : Option jm_V} {x1 : Int} {x2 : Int}  (k : Gx P d md_City_openDoors 27 [o0, some (.inl (jb_or x1 (jb_shl 1 x2))), some (.inl x2)] [] I Q) : Gx P d md_City_openDoors 21 [o0, some (.inl x1), some (.inl x2)] [] I Q := by
  show jm_Go d 0 0 md_City_openDoors 21 [o0, some (.inl x1), some (.inl x2)] [] (jx P I) (jx_Q P Q)
  have hd : jm_dc md_City_openDoors.2.1 21 [(.iload_n 1, 1), (.iconst 1, 1), (.iload_n 2, 1), (.ishl, 1), (.ior, 1), (.istore_n 1, 1)] = true := by decide +kernel
  refine go_iload_n rfl hd (fun hd => ?_)
  refine go_iconst hd (fun hd => ?_)
  refine go_iload_n rfl hd (fun hd => ?_)
  refine go_ishl hd (fun hd => ?_)
  refine go_ior hd (fun hd => ?_)
  refine go_istore_n (by decide) hd (fun hd => ?_)
  exact k
theorem b_City_openDoors_27 {P : jm_P} {d : Nat} {I : jm_I} {Q : Option jm_V → jm_I → Prop} {o0 : Option jm_V} {o1 : Option jm_V} {x2 : Int}  (k : Gx P d md_City_openDoors 4 [o0, o1, some (.inl (x2 + 1))] [] I Q) : Gx P d md_City_openDoors 27 [o0, o1, some (.inl x2)] [] I Q := by
  show jm_Go d 0 0 md_City_openDoors 27 [o0, o1, some (.inl x2)] [] (jx P I) (jx_Q P Q)
  have hd : jm_dc md_City_openDoors.2.1 27 [(.iinc 2 1, 3), (.goto (-26), 3)] = true := by decide +kernel
  refine go_iinc rfl hd (fun hd => ?_)
  exact go_goto (by decide) hd k
theorem b_City_openDoors_33 {P : jm_P} {d : Nat} {I : jm_I} {Q : Option jm_V → jm_I → Prop} {o0 : Option jm_V} {x1 : Int} {o2 : Option jm_V}  (k : Q (some (.inl x1)) I) : Gx P d md_City_openDoors 33 [o0, some (.inl x1), o2] [] I Q := by
  show jm_Go d 0 0 md_City_openDoors 33 [o0, some (.inl x1), o2] [] (jx P I) (jx_Q P Q)
  have hd : jm_dc md_City_openDoors.2.1 33 [(.iload_n 1, 1), (.ireturn, 1)] = true := by decide +kernel
  refine go_iload_n rfl hd (fun hd => ?_)
  exact go_ireturn hd rfl ⟨_, rfl, k⟩
end
