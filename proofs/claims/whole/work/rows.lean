section
-- ===== PART A: goes FIRST, ahead of the names: the tables' words, and 'selects' of the private methods out of them =====
/-- a private method of a class that the tables say can be made, by its rows of tables_1 -/
def lw_okq (q : MethodName × Nat) : Prop := (q.1.cls ≠ "java/lang/invoke/MethodHandle" ∧ q.1.cls ≠ "java/lang/invoke/VarHandle") ∧ Cond.instantiable q.1.cls q.2 ∈ tables_1 ∧ Cond.privateMethod q.1 ∈ tables_1 ∧ Cond.instanceMethod q.1 ∈ tables_1
theorem lw_p0 : lw_okq (⟨"ParkingEnforcement$TownReader", "readPlaces", "()V"⟩, 8) := ⟨⟨by decide +kernel, by decide +kernel⟩, List.mem_of_getElem? (i := 34) (by decide +kernel), List.mem_of_getElem? (i := 422) (by decide +kernel), List.mem_of_getElem? (i := 423) (by decide +kernel)⟩
theorem lw_p1 : lw_okq (⟨"ParkingEnforcement$TownReader", "readWord", "()I"⟩, 8) := ⟨⟨by decide +kernel, by decide +kernel⟩, List.mem_of_getElem? (i := 34) (by decide +kernel), List.mem_of_getElem? (i := 426) (by decide +kernel), List.mem_of_getElem? (i := 427) (by decide +kernel)⟩
theorem lw_p2 : lw_okq (⟨"ParkingEnforcement$TownReader", "skipSpaces", "()V"⟩, 8) := ⟨⟨by decide +kernel, by decide +kernel⟩, List.mem_of_getElem? (i := 34) (by decide +kernel), List.mem_of_getElem? (i := 430) (by decide +kernel), List.mem_of_getElem? (i := 431) (by decide +kernel)⟩
theorem lw_p3 : lw_okq (⟨"ParkingEnforcement$TownReader", "nextByte", "()I"⟩, 8) := ⟨⟨by decide +kernel, by decide +kernel⟩, List.mem_of_getElem? (i := 34) (by decide +kernel), List.mem_of_getElem? (i := 434) (by decide +kernel), List.mem_of_getElem? (i := 435) (by decide +kernel)⟩
theorem lw_p4 : lw_okq (⟨"ParkingEnforcement$TownReader", "isWordRead", "(Ljava/lang/String;)Z"⟩, 8) := ⟨⟨by decide +kernel, by decide +kernel⟩, List.mem_of_getElem? (i := 34) (by decide +kernel), List.mem_of_getElem? (i := 449) (by decide +kernel), List.mem_of_getElem? (i := 450) (by decide +kernel)⟩
theorem lw_p5 : lw_okq (⟨"ParkingEnforcement$TownReader", "fail", "(II)V"⟩, 8) := ⟨⟨by decide +kernel, by decide +kernel⟩, List.mem_of_getElem? (i := 34) (by decide +kernel), List.mem_of_getElem? (i := 502) (by decide +kernel), List.mem_of_getElem? (i := 503) (by decide +kernel)⟩
theorem lw_p6 : lw_okq (⟨"ParkingEnforcement$TownReader", "readNumber", "(II)I"⟩, 8) := ⟨⟨by decide +kernel, by decide +kernel⟩, List.mem_of_getElem? (i := 34) (by decide +kernel), List.mem_of_getElem? (i := 506) (by decide +kernel), List.mem_of_getElem? (i := 507) (by decide +kernel)⟩
theorem lw_p7 : lw_okq (⟨"ParkingEnforcement$TownReader", "readSemicolon", "()V"⟩, 8) := ⟨⟨by decide +kernel, by decide +kernel⟩, List.mem_of_getElem? (i := 34) (by decide +kernel), List.mem_of_getElem? (i := 515) (by decide +kernel), List.mem_of_getElem? (i := 516) (by decide +kernel)⟩
theorem lw_p8 : lw_okq (⟨"ParkingEnforcement$TownReader", "readStatement", "()V"⟩, 8) := ⟨⟨by decide +kernel, by decide +kernel⟩, List.mem_of_getElem? (i := 34) (by decide +kernel), List.mem_of_getElem? (i := 519) (by decide +kernel), List.mem_of_getElem? (i := 520) (by decide +kernel)⟩
theorem lw_p9 : lw_okq (⟨"ParkingEnforcement$TownReader", "readRoad", "()V"⟩, 8) := ⟨⟨by decide +kernel, by decide +kernel⟩, List.mem_of_getElem? (i := 34) (by decide +kernel), List.mem_of_getElem? (i := 523) (by decide +kernel), List.mem_of_getElem? (i := 524) (by decide +kernel)⟩
theorem lw_p10 : lw_okq (⟨"ParkingEnforcement$TownReader", "readPlace", "()I"⟩, 8) := ⟨⟨by decide +kernel, by decide +kernel⟩, List.mem_of_getElem? (i := 34) (by decide +kernel), List.mem_of_getElem? (i := 527) (by decide +kernel), List.mem_of_getElem? (i := 528) (by decide +kernel)⟩
theorem lw_p11 : lw_okq (⟨"ParkingEnforcement$TownReader", "readZone", "()V"⟩, 8) := ⟨⟨by decide +kernel, by decide +kernel⟩, List.mem_of_getElem? (i := 34) (by decide +kernel), List.mem_of_getElem? (i := 536) (by decide +kernel), List.mem_of_getElem? (i := 537) (by decide +kernel)⟩
theorem lw_p12 : lw_okq (⟨"ParkingEnforcement$TownReader", "readRate", "()V"⟩, 8) := ⟨⟨by decide +kernel, by decide +kernel⟩, List.mem_of_getElem? (i := 34) (by decide +kernel), List.mem_of_getElem? (i := 540) (by decide +kernel), List.mem_of_getElem? (i := 541) (by decide +kernel)⟩
theorem lw_p13 : lw_okq (⟨"ParkingEnforcement$TownReader", "readStay", "()V"⟩, 8) := ⟨⟨by decide +kernel, by decide +kernel⟩, List.mem_of_getElem? (i := 34) (by decide +kernel), List.mem_of_getElem? (i := 553) (by decide +kernel), List.mem_of_getElem? (i := 554) (by decide +kernel)⟩
theorem lw_p14 : lw_okq (⟨"ParkingEnforcement$TownReader", "readSpaces", "()V"⟩, 8) := ⟨⟨by decide +kernel, by decide +kernel⟩, List.mem_of_getElem? (i := 34) (by decide +kernel), List.mem_of_getElem? (i := 557) (by decide +kernel), List.mem_of_getElem? (i := 558) (by decide +kernel)⟩
theorem lw_p15 : lw_okq (⟨"ParkingEnforcement$TownReader", "readPound", "()V"⟩, 8) := ⟨⟨by decide +kernel, by decide +kernel⟩, List.mem_of_getElem? (i := 34) (by decide +kernel), List.mem_of_getElem? (i := 561) (by decide +kernel), List.mem_of_getElem? (i := 562) (by decide +kernel)⟩
def lw_privs_1 : List (MethodName × Nat) := [(⟨"ParkingEnforcement$TownReader", "readPlaces", "()V"⟩, 8), (⟨"ParkingEnforcement$TownReader", "readWord", "()I"⟩, 8), (⟨"ParkingEnforcement$TownReader", "skipSpaces", "()V"⟩, 8), (⟨"ParkingEnforcement$TownReader", "nextByte", "()I"⟩, 8), (⟨"ParkingEnforcement$TownReader", "isWordRead", "(Ljava/lang/String;)Z"⟩, 8), (⟨"ParkingEnforcement$TownReader", "fail", "(II)V"⟩, 8), (⟨"ParkingEnforcement$TownReader", "readNumber", "(II)I"⟩, 8), (⟨"ParkingEnforcement$TownReader", "readSemicolon", "()V"⟩, 8), (⟨"ParkingEnforcement$TownReader", "readStatement", "()V"⟩, 8), (⟨"ParkingEnforcement$TownReader", "readRoad", "()V"⟩, 8), (⟨"ParkingEnforcement$TownReader", "readPlace", "()I"⟩, 8), (⟨"ParkingEnforcement$TownReader", "readZone", "()V"⟩, 8), (⟨"ParkingEnforcement$TownReader", "readRate", "()V"⟩, 8), (⟨"ParkingEnforcement$TownReader", "readStay", "()V"⟩, 8), (⟨"ParkingEnforcement$TownReader", "readSpaces", "()V"⟩, 8), (⟨"ParkingEnforcement$TownReader", "readPound", "()V"⟩, 8)]
theorem lw_r1 : ∀ q ∈ lw_privs_1, lw_okq q := List.forall_mem_cons.mpr ⟨lw_p0, List.forall_mem_cons.mpr ⟨lw_p1, List.forall_mem_cons.mpr ⟨lw_p2, List.forall_mem_cons.mpr ⟨lw_p3, List.forall_mem_cons.mpr ⟨lw_p4, List.forall_mem_cons.mpr ⟨lw_p5, List.forall_mem_cons.mpr ⟨lw_p6, List.forall_mem_cons.mpr ⟨lw_p7, List.forall_mem_cons.mpr ⟨lw_p8, List.forall_mem_cons.mpr ⟨lw_p9, List.forall_mem_cons.mpr ⟨lw_p10, List.forall_mem_cons.mpr ⟨lw_p11, List.forall_mem_cons.mpr ⟨lw_p12, List.forall_mem_cons.mpr ⟨lw_p13, List.forall_mem_cons.mpr ⟨lw_p14, List.forall_mem_cons.mpr ⟨lw_p15, fun _ h => absurd h List.not_mem_nil⟩⟩⟩⟩⟩⟩⟩⟩⟩⟩⟩⟩⟩⟩⟩⟩
theorem lw_p16 : lw_okq (⟨"ParkingEnforcement$Zone", "chargedBefore", "(I)I"⟩, 2) := ⟨⟨by decide +kernel, by decide +kernel⟩, List.mem_of_getElem? (i := 47) (by decide +kernel), List.mem_of_getElem? (i := 687) (by decide +kernel), List.mem_of_getElem? (i := 688) (by decide +kernel)⟩
theorem lw_p17 : lw_okq (⟨"ParkingEnforcement$World", "writeTicket", "(LParkingEnforcement$Car;I)V"⟩, 5) := ⟨⟨by decide +kernel, by decide +kernel⟩, List.mem_of_getElem? (i := 169) (by decide +kernel), List.mem_of_getElem? (i := 719) (by decide +kernel), List.mem_of_getElem? (i := 720) (by decide +kernel)⟩
theorem lw_p18 : lw_okq (⟨"ParkingEnforcement$World", "payTickets", "(LParkingEnforcement$Car;)V"⟩, 5) := ⟨⟨by decide +kernel, by decide +kernel⟩, List.mem_of_getElem? (i := 169) (by decide +kernel), List.mem_of_getElem? (i := 737) (by decide +kernel), List.mem_of_getElem? (i := 738) (by decide +kernel)⟩
theorem lw_p19 : lw_okq (⟨"ParkingEnforcement$World", "payFees", "(LParkingEnforcement$Car;)V"⟩, 5) := ⟨⟨by decide +kernel, by decide +kernel⟩, List.mem_of_getElem? (i := 169) (by decide +kernel), List.mem_of_getElem? (i := 746) (by decide +kernel), List.mem_of_getElem? (i := 747) (by decide +kernel)⟩
theorem lw_p20 : lw_okq (⟨"ParkingEnforcement$World", "release", "(LParkingEnforcement$Car;)V"⟩, 5) := ⟨⟨by decide +kernel, by decide +kernel⟩, List.mem_of_getElem? (i := 169) (by decide +kernel), List.mem_of_getElem? (i := 751) (by decide +kernel), List.mem_of_getElem? (i := 752) (by decide +kernel)⟩
theorem lw_p21 : lw_okq (⟨"ParkingEnforcement$TourPlanner", "chooseCandidates", "(LParkingEnforcement$World;)V"⟩, 12) := ⟨⟨by decide +kernel, by decide +kernel⟩, List.mem_of_getElem? (i := 302) (by decide +kernel), List.mem_of_getElem? (i := 768) (by decide +kernel), List.mem_of_getElem? (i := 769) (by decide +kernel)⟩
theorem lw_p22 : lw_okq (⟨"ParkingEnforcement$TourPlanner", "countClampedBefore", "(LParkingEnforcement$Car;ILParkingEnforcement$World;)I"⟩, 12) := ⟨⟨by decide +kernel, by decide +kernel⟩, List.mem_of_getElem? (i := 302) (by decide +kernel), List.mem_of_getElem? (i := 783) (by decide +kernel), List.mem_of_getElem? (i := 784) (by decide +kernel)⟩
theorem lw_p23 : lw_okq (⟨"ParkingEnforcement$TourPlanner", "choosePounds", "(LParkingEnforcement$World;)V"⟩, 12) := ⟨⟨by decide +kernel, by decide +kernel⟩, List.mem_of_getElem? (i := 302) (by decide +kernel), List.mem_of_getElem? (i := 788) (by decide +kernel), List.mem_of_getElem? (i := 789) (by decide +kernel)⟩
theorem lw_p24 : lw_okq (⟨"ParkingEnforcement$TourPlanner", "measureTrips", "(LParkingEnforcement$Town;)V"⟩, 12) := ⟨⟨by decide +kernel, by decide +kernel⟩, List.mem_of_getElem? (i := 302) (by decide +kernel), List.mem_of_getElem? (i := 797) (by decide +kernel), List.mem_of_getElem? (i := 798) (by decide +kernel)⟩
theorem lw_p25 : lw_okq (⟨"ParkingEnforcement$TourPlanner", "weighStates", "()V"⟩, 12) := ⟨⟨by decide +kernel, by decide +kernel⟩, List.mem_of_getElem? (i := 302) (by decide +kernel), List.mem_of_getElem? (i := 806) (by decide +kernel), List.mem_of_getElem? (i := 807) (by decide +kernel)⟩
theorem lw_p26 : lw_okq (⟨"ParkingEnforcement$TourPlanner", "bestWorth", "(III)I"⟩, 12) := ⟨⟨by decide +kernel, by decide +kernel⟩, List.mem_of_getElem? (i := 302) (by decide +kernel), List.mem_of_getElem? (i := 814) (by decide +kernel), List.mem_of_getElem? (i := 815) (by decide +kernel)⟩
theorem lw_p27 : lw_okq (⟨"ParkingEnforcement$TourPlanner", "worthOver", "(IIIII)I"⟩, 12) := ⟨⟨by decide +kernel, by decide +kernel⟩, List.mem_of_getElem? (i := 302) (by decide +kernel), List.mem_of_getElem? (i := 818) (by decide +kernel), List.mem_of_getElem? (i := 819) (by decide +kernel)⟩
theorem lw_p28 : lw_okq (⟨"ParkingEnforcement$TourPlanner", "takeBestTrips", "(I)V"⟩, 12) := ⟨⟨by decide +kernel, by decide +kernel⟩, List.mem_of_getElem? (i := 302) (by decide +kernel), List.mem_of_getElem? (i := 825) (by decide +kernel), List.mem_of_getElem? (i := 826) (by decide +kernel)⟩
theorem lw_p29 : lw_okq (⟨"ParkingEnforcement$TourPlanner", "smallestBestTrip", "(III)I"⟩, 12) := ⟨⟨by decide +kernel, by decide +kernel⟩, List.mem_of_getElem? (i := 302) (by decide +kernel), List.mem_of_getElem? (i := 829) (by decide +kernel), List.mem_of_getElem? (i := 830) (by decide +kernel)⟩
theorem lw_p30 : lw_okq (⟨"ParkingEnforcement$TourPlanner", "addTrip", "(III)V"⟩, 12) := ⟨⟨by decide +kernel, by decide +kernel⟩, List.mem_of_getElem? (i := 302) (by decide +kernel), List.mem_of_getElem? (i := 833) (by decide +kernel), List.mem_of_getElem? (i := 834) (by decide +kernel)⟩
theorem lw_p31 : lw_okq (⟨"ParkingEnforcement$Log", "isOn", "(III)Z"⟩, 7) := ⟨⟨by decide +kernel, by decide +kernel⟩, List.mem_of_getElem? (i := 179) (by decide +kernel), List.mem_of_getElem? (i := 982) (by decide +kernel), List.mem_of_getElem? (i := 983) (by decide +kernel)⟩
def lw_privs_2 : List (MethodName × Nat) := [(⟨"ParkingEnforcement$Zone", "chargedBefore", "(I)I"⟩, 2), (⟨"ParkingEnforcement$World", "writeTicket", "(LParkingEnforcement$Car;I)V"⟩, 5), (⟨"ParkingEnforcement$World", "payTickets", "(LParkingEnforcement$Car;)V"⟩, 5), (⟨"ParkingEnforcement$World", "payFees", "(LParkingEnforcement$Car;)V"⟩, 5), (⟨"ParkingEnforcement$World", "release", "(LParkingEnforcement$Car;)V"⟩, 5), (⟨"ParkingEnforcement$TourPlanner", "chooseCandidates", "(LParkingEnforcement$World;)V"⟩, 12), (⟨"ParkingEnforcement$TourPlanner", "countClampedBefore", "(LParkingEnforcement$Car;ILParkingEnforcement$World;)I"⟩, 12), (⟨"ParkingEnforcement$TourPlanner", "choosePounds", "(LParkingEnforcement$World;)V"⟩, 12), (⟨"ParkingEnforcement$TourPlanner", "measureTrips", "(LParkingEnforcement$Town;)V"⟩, 12), (⟨"ParkingEnforcement$TourPlanner", "weighStates", "()V"⟩, 12), (⟨"ParkingEnforcement$TourPlanner", "bestWorth", "(III)I"⟩, 12), (⟨"ParkingEnforcement$TourPlanner", "worthOver", "(IIIII)I"⟩, 12), (⟨"ParkingEnforcement$TourPlanner", "takeBestTrips", "(I)V"⟩, 12), (⟨"ParkingEnforcement$TourPlanner", "smallestBestTrip", "(III)I"⟩, 12), (⟨"ParkingEnforcement$TourPlanner", "addTrip", "(III)V"⟩, 12), (⟨"ParkingEnforcement$Log", "isOn", "(III)Z"⟩, 7)]
theorem lw_r2 : ∀ q ∈ lw_privs_2, lw_okq q := List.forall_mem_cons.mpr ⟨lw_p16, List.forall_mem_cons.mpr ⟨lw_p17, List.forall_mem_cons.mpr ⟨lw_p18, List.forall_mem_cons.mpr ⟨lw_p19, List.forall_mem_cons.mpr ⟨lw_p20, List.forall_mem_cons.mpr ⟨lw_p21, List.forall_mem_cons.mpr ⟨lw_p22, List.forall_mem_cons.mpr ⟨lw_p23, List.forall_mem_cons.mpr ⟨lw_p24, List.forall_mem_cons.mpr ⟨lw_p25, List.forall_mem_cons.mpr ⟨lw_p26, List.forall_mem_cons.mpr ⟨lw_p27, List.forall_mem_cons.mpr ⟨lw_p28, List.forall_mem_cons.mpr ⟨lw_p29, List.forall_mem_cons.mpr ⟨lw_p30, List.forall_mem_cons.mpr ⟨lw_p31, fun _ h => absurd h List.not_mem_nil⟩⟩⟩⟩⟩⟩⟩⟩⟩⟩⟩⟩⟩⟩⟩⟩
theorem lw_p32 : lw_okq (⟨"ParkingEnforcement$PatrolPlanner", "findValues", "(LParkingEnforcement$World;)I"⟩, 6) := ⟨⟨by decide +kernel, by decide +kernel⟩, List.mem_of_getElem? (i := 350) (by decide +kernel), List.mem_of_getElem? (i := 1091) (by decide +kernel), List.mem_of_getElem? (i := 1092) (by decide +kernel)⟩
theorem lw_p33 : lw_okq (⟨"ParkingEnforcement$PatrolPlanner", "considerSet", "(ILParkingEnforcement$Town;I)V"⟩, 6) := ⟨⟨by decide +kernel, by decide +kernel⟩, List.mem_of_getElem? (i := 350) (by decide +kernel), List.mem_of_getElem? (i := 1097) (by decide +kernel), List.mem_of_getElem? (i := 1098) (by decide +kernel)⟩
theorem lw_p34 : lw_okq (⟨"ParkingEnforcement$PatrolPlanner", "lengthEndingAt", "(IILParkingEnforcement$Town;)I"⟩, 6) := ⟨⟨by decide +kernel, by decide +kernel⟩, List.mem_of_getElem? (i := 350) (by decide +kernel), List.mem_of_getElem? (i := 1103) (by decide +kernel), List.mem_of_getElem? (i := 1104) (by decide +kernel)⟩
theorem lw_p35 : lw_okq (⟨"java/lang/Throwable", "fillInStackTrace", "(I)Ljava/lang/Throwable;"⟩, 6) := ⟨⟨by decide +kernel, by decide +kernel⟩, List.mem_of_getElem? (i := 1164) (by decide +kernel), List.mem_of_getElem? (i := 1162) (by decide +kernel), List.mem_of_getElem? (i := 1163) (by decide +kernel)⟩
theorem lw_p36 : lw_okq (⟨"ParkingEnforcement", "ofTicket", "([III)I"⟩, 6) := ⟨⟨by decide +kernel, by decide +kernel⟩, List.mem_of_getElem? (i := 26) (by decide +kernel), List.mem_of_getElem? (i := 1201) (by decide +kernel), List.mem_of_getElem? (i := 1202) (by decide +kernel)⟩
theorem lw_p37 : lw_okq (⟨"ParkingEnforcement", "logged", "([II)I"⟩, 6) := ⟨⟨by decide +kernel, by decide +kernel⟩, List.mem_of_getElem? (i := 26) (by decide +kernel), List.mem_of_getElem? (i := 1241) (by decide +kernel), List.mem_of_getElem? (i := 1242) (by decide +kernel)⟩
theorem lw_p38 : lw_okq (⟨"ParkingEnforcement", "ofTrip", "([II)I"⟩, 6) := ⟨⟨by decide +kernel, by decide +kernel⟩, List.mem_of_getElem? (i := 26) (by decide +kernel), List.mem_of_getElem? (i := 1289) (by decide +kernel), List.mem_of_getElem? (i := 1290) (by decide +kernel)⟩
theorem lw_p39 : lw_okq (⟨"ParkingEnforcementModel", "reads", "()V"⟩, 27) := ⟨⟨by decide +kernel, by decide +kernel⟩, List.mem_of_getElem? (i := 1301) (by decide +kernel), List.mem_of_getElem? (i := 1412) (by decide +kernel), List.mem_of_getElem? (i := 1413) (by decide +kernel)⟩
theorem lw_p40 : lw_okq (⟨"ParkingEnforcementModel", "next", "()I"⟩, 27) := ⟨⟨by decide +kernel, by decide +kernel⟩, List.mem_of_getElem? (i := 1301) (by decide +kernel), List.mem_of_getElem? (i := 1416) (by decide +kernel), List.mem_of_getElem? (i := 1417) (by decide +kernel)⟩
theorem lw_p41 : lw_okq (⟨"ParkingEnforcementModel", "here", "()I"⟩, 27) := ⟨⟨by decide +kernel, by decide +kernel⟩, List.mem_of_getElem? (i := 1301) (by decide +kernel), List.mem_of_getElem? (i := 1420) (by decide +kernel), List.mem_of_getElem? (i := 1421) (by decide +kernel)⟩
theorem lw_p42 : lw_okq (⟨"ParkingEnforcementModel", "isWord", "(Ljava/lang/String;)Z"⟩, 27) := ⟨⟨by decide +kernel, by decide +kernel⟩, List.mem_of_getElem? (i := 1301) (by decide +kernel), List.mem_of_getElem? (i := 1425) (by decide +kernel), List.mem_of_getElem? (i := 1426) (by decide +kernel)⟩
theorem lw_p43 : lw_okq (⟨"ParkingEnforcementModel", "fails", "(II)V"⟩, 27) := ⟨⟨by decide +kernel, by decide +kernel⟩, List.mem_of_getElem? (i := 1301) (by decide +kernel), List.mem_of_getElem? (i := 1431) (by decide +kernel), List.mem_of_getElem? (i := 1432) (by decide +kernel)⟩
theorem lw_p44 : lw_okq (⟨"ParkingEnforcementModel", "number", "(II)I"⟩, 27) := ⟨⟨by decide +kernel, by decide +kernel⟩, List.mem_of_getElem? (i := 1301) (by decide +kernel), List.mem_of_getElem? (i := 1435) (by decide +kernel), List.mem_of_getElem? (i := 1436) (by decide +kernel)⟩
theorem lw_p45 : lw_okq (⟨"ParkingEnforcementModel", "isMore", "()Z"⟩, 27) := ⟨⟨by decide +kernel, by decide +kernel⟩, List.mem_of_getElem? (i := 1301) (by decide +kernel), List.mem_of_getElem? (i := 1439) (by decide +kernel), List.mem_of_getElem? (i := 1440) (by decide +kernel)⟩
theorem lw_p46 : lw_okq (⟨"ParkingEnforcementModel", "statement", "()V"⟩, 27) := ⟨⟨by decide +kernel, by decide +kernel⟩, List.mem_of_getElem? (i := 1301) (by decide +kernel), List.mem_of_getElem? (i := 1443) (by decide +kernel), List.mem_of_getElem? (i := 1444) (by decide +kernel)⟩
theorem lw_p47 : lw_okq (⟨"ParkingEnforcementModel", "road", "()V"⟩, 27) := ⟨⟨by decide +kernel, by decide +kernel⟩, List.mem_of_getElem? (i := 1301) (by decide +kernel), List.mem_of_getElem? (i := 1448) (by decide +kernel), List.mem_of_getElem? (i := 1449) (by decide +kernel)⟩
def lw_privs_3 : List (MethodName × Nat) := [(⟨"ParkingEnforcement$PatrolPlanner", "findValues", "(LParkingEnforcement$World;)I"⟩, 6), (⟨"ParkingEnforcement$PatrolPlanner", "considerSet", "(ILParkingEnforcement$Town;I)V"⟩, 6), (⟨"ParkingEnforcement$PatrolPlanner", "lengthEndingAt", "(IILParkingEnforcement$Town;)I"⟩, 6), (⟨"java/lang/Throwable", "fillInStackTrace", "(I)Ljava/lang/Throwable;"⟩, 6), (⟨"ParkingEnforcement", "ofTicket", "([III)I"⟩, 6), (⟨"ParkingEnforcement", "logged", "([II)I"⟩, 6), (⟨"ParkingEnforcement", "ofTrip", "([II)I"⟩, 6), (⟨"ParkingEnforcementModel", "reads", "()V"⟩, 27), (⟨"ParkingEnforcementModel", "next", "()I"⟩, 27), (⟨"ParkingEnforcementModel", "here", "()I"⟩, 27), (⟨"ParkingEnforcementModel", "isWord", "(Ljava/lang/String;)Z"⟩, 27), (⟨"ParkingEnforcementModel", "fails", "(II)V"⟩, 27), (⟨"ParkingEnforcementModel", "number", "(II)I"⟩, 27), (⟨"ParkingEnforcementModel", "isMore", "()Z"⟩, 27), (⟨"ParkingEnforcementModel", "statement", "()V"⟩, 27), (⟨"ParkingEnforcementModel", "road", "()V"⟩, 27)]
theorem lw_r3 : ∀ q ∈ lw_privs_3, lw_okq q := List.forall_mem_cons.mpr ⟨lw_p32, List.forall_mem_cons.mpr ⟨lw_p33, List.forall_mem_cons.mpr ⟨lw_p34, List.forall_mem_cons.mpr ⟨lw_p35, List.forall_mem_cons.mpr ⟨lw_p36, List.forall_mem_cons.mpr ⟨lw_p37, List.forall_mem_cons.mpr ⟨lw_p38, List.forall_mem_cons.mpr ⟨lw_p39, List.forall_mem_cons.mpr ⟨lw_p40, List.forall_mem_cons.mpr ⟨lw_p41, List.forall_mem_cons.mpr ⟨lw_p42, List.forall_mem_cons.mpr ⟨lw_p43, List.forall_mem_cons.mpr ⟨lw_p44, List.forall_mem_cons.mpr ⟨lw_p45, List.forall_mem_cons.mpr ⟨lw_p46, List.forall_mem_cons.mpr ⟨lw_p47, fun _ h => absurd h List.not_mem_nil⟩⟩⟩⟩⟩⟩⟩⟩⟩⟩⟩⟩⟩⟩⟩⟩
theorem lw_p48 : lw_okq (⟨"ParkingEnforcementModel", "place", "()I"⟩, 27) := ⟨⟨by decide +kernel, by decide +kernel⟩, List.mem_of_getElem? (i := 1301) (by decide +kernel), List.mem_of_getElem? (i := 1452) (by decide +kernel), List.mem_of_getElem? (i := 1453) (by decide +kernel)⟩
theorem lw_p49 : lw_okq (⟨"ParkingEnforcementModel", "row", "(IIII)V"⟩, 27) := ⟨⟨by decide +kernel, by decide +kernel⟩, List.mem_of_getElem? (i := 1301) (by decide +kernel), List.mem_of_getElem? (i := 1457) (by decide +kernel), List.mem_of_getElem? (i := 1458) (by decide +kernel)⟩
theorem lw_p50 : lw_okq (⟨"ParkingEnforcementModel", "rate", "()V"⟩, 27) := ⟨⟨by decide +kernel, by decide +kernel⟩, List.mem_of_getElem? (i := 1301) (by decide +kernel), List.mem_of_getElem? (i := 1462) (by decide +kernel), List.mem_of_getElem? (i := 1463) (by decide +kernel)⟩
theorem lw_p51 : lw_okq (⟨"ParkingEnforcementModel", "pound", "()V"⟩, 27) := ⟨⟨by decide +kernel, by decide +kernel⟩, List.mem_of_getElem? (i := 1301) (by decide +kernel), List.mem_of_getElem? (i := 1469) (by decide +kernel), List.mem_of_getElem? (i := 1470) (by decide +kernel)⟩
theorem lw_p52 : lw_okq (⟨"ParkingEnforcementModel", "isPlace", "(I)Z"⟩, 27) := ⟨⟨by decide +kernel, by decide +kernel⟩, List.mem_of_getElem? (i := 1301) (by decide +kernel), List.mem_of_getElem? (i := 1491) (by decide +kernel), List.mem_of_getElem? (i := 1492) (by decide +kernel)⟩
theorem lw_p53 : lw_okq (⟨"ParkingEnforcementModel", "of", "(II)I"⟩, 27) := ⟨⟨by decide +kernel, by decide +kernel⟩, List.mem_of_getElem? (i := 1301) (by decide +kernel), List.mem_of_getElem? (i := 1495) (by decide +kernel), List.mem_of_getElem? (i := 1496) (by decide +kernel)⟩
theorem lw_p54 : lw_okq (⟨"ParkingEnforcementModel", "free", "(I)I"⟩, 27) := ⟨⟨by decide +kernel, by decide +kernel⟩, List.mem_of_getElem? (i := 1301) (by decide +kernel), List.mem_of_getElem? (i := 1499) (by decide +kernel), List.mem_of_getElem? (i := 1500) (by decide +kernel)⟩
theorem lw_p55 : lw_okq (⟨"ParkingEnforcementModel", "isAt", "(II)Z"⟩, 27) := ⟨⟨by decide +kernel, by decide +kernel⟩, List.mem_of_getElem? (i := 1301) (by decide +kernel), List.mem_of_getElem? (i := 1503) (by decide +kernel), List.mem_of_getElem? (i := 1504) (by decide +kernel)⟩
theorem lw_p56 : lw_okq (⟨"ParkingEnforcementModel", "isFull", "()Z"⟩, 27) := ⟨⟨by decide +kernel, by decide +kernel⟩, List.mem_of_getElem? (i := 1301) (by decide +kernel), List.mem_of_getElem? (i := 1507) (by decide +kernel), List.mem_of_getElem? (i := 1508) (by decide +kernel)⟩
theorem lw_p57 : lw_okq (⟨"ParkingEnforcementModel", "set", "(III)V"⟩, 27) := ⟨⟨by decide +kernel, by decide +kernel⟩, List.mem_of_getElem? (i := 1301) (by decide +kernel), List.mem_of_getElem? (i := 1511) (by decide +kernel), List.mem_of_getElem? (i := 1512) (by decide +kernel)⟩
theorem lw_p58 : lw_okq (⟨"ParkingEnforcementModel", "logs", "(III)V"⟩, 27) := ⟨⟨by decide +kernel, by decide +kernel⟩, List.mem_of_getElem? (i := 1301) (by decide +kernel), List.mem_of_getElem? (i := 1515) (by decide +kernel), List.mem_of_getElem? (i := 1516) (by decide +kernel)⟩
theorem lw_p59 : lw_okq (⟨"ParkingEnforcementModel", "bought", "(III)I"⟩, 27) := ⟨⟨by decide +kernel, by decide +kernel⟩, List.mem_of_getElem? (i := 1301) (by decide +kernel), List.mem_of_getElem? (i := 1524) (by decide +kernel), List.mem_of_getElem? (i := 1525) (by decide +kernel)⟩
theorem lw_p60 : lw_okq (⟨"ParkingEnforcementModel", "cents", "(II)I"⟩, 27) := ⟨⟨by decide +kernel, by decide +kernel⟩, List.mem_of_getElem? (i := 1301) (by decide +kernel), List.mem_of_getElem? (i := 1528) (by decide +kernel), List.mem_of_getElem? (i := 1529) (by decide +kernel)⟩
theorem lw_p61 : lw_okq (⟨"ParkingEnforcementModel", "over", "(I)I"⟩, 27) := ⟨⟨by decide +kernel, by decide +kernel⟩, List.mem_of_getElem? (i := 1301) (by decide +kernel), List.mem_of_getElem? (i := 1536) (by decide +kernel), List.mem_of_getElem? (i := 1537) (by decide +kernel)⟩
theorem lw_p62 : lw_okq (⟨"ParkingEnforcementModel", "fine", "(I)I"⟩, 27) := ⟨⟨by decide +kernel, by decide +kernel⟩, List.mem_of_getElem? (i := 1301) (by decide +kernel), List.mem_of_getElem? (i := 1544) (by decide +kernel), List.mem_of_getElem? (i := 1545) (by decide +kernel)⟩
theorem lw_p63 : lw_okq (⟨"ParkingEnforcementModel", "tickets", "(I)I"⟩, 27) := ⟨⟨by decide +kernel, by decide +kernel⟩, List.mem_of_getElem? (i := 1301) (by decide +kernel), List.mem_of_getElem? (i := 1548) (by decide +kernel), List.mem_of_getElem? (i := 1549) (by decide +kernel)⟩
def lw_privs_4 : List (MethodName × Nat) := [(⟨"ParkingEnforcementModel", "place", "()I"⟩, 27), (⟨"ParkingEnforcementModel", "row", "(IIII)V"⟩, 27), (⟨"ParkingEnforcementModel", "rate", "()V"⟩, 27), (⟨"ParkingEnforcementModel", "pound", "()V"⟩, 27), (⟨"ParkingEnforcementModel", "isPlace", "(I)Z"⟩, 27), (⟨"ParkingEnforcementModel", "of", "(II)I"⟩, 27), (⟨"ParkingEnforcementModel", "free", "(I)I"⟩, 27), (⟨"ParkingEnforcementModel", "isAt", "(II)Z"⟩, 27), (⟨"ParkingEnforcementModel", "isFull", "()Z"⟩, 27), (⟨"ParkingEnforcementModel", "set", "(III)V"⟩, 27), (⟨"ParkingEnforcementModel", "logs", "(III)V"⟩, 27), (⟨"ParkingEnforcementModel", "bought", "(III)I"⟩, 27), (⟨"ParkingEnforcementModel", "cents", "(II)I"⟩, 27), (⟨"ParkingEnforcementModel", "over", "(I)I"⟩, 27), (⟨"ParkingEnforcementModel", "fine", "(I)I"⟩, 27), (⟨"ParkingEnforcementModel", "tickets", "(I)I"⟩, 27)]
theorem lw_r4 : ∀ q ∈ lw_privs_4, lw_okq q := List.forall_mem_cons.mpr ⟨lw_p48, List.forall_mem_cons.mpr ⟨lw_p49, List.forall_mem_cons.mpr ⟨lw_p50, List.forall_mem_cons.mpr ⟨lw_p51, List.forall_mem_cons.mpr ⟨lw_p52, List.forall_mem_cons.mpr ⟨lw_p53, List.forall_mem_cons.mpr ⟨lw_p54, List.forall_mem_cons.mpr ⟨lw_p55, List.forall_mem_cons.mpr ⟨lw_p56, List.forall_mem_cons.mpr ⟨lw_p57, List.forall_mem_cons.mpr ⟨lw_p58, List.forall_mem_cons.mpr ⟨lw_p59, List.forall_mem_cons.mpr ⟨lw_p60, List.forall_mem_cons.mpr ⟨lw_p61, List.forall_mem_cons.mpr ⟨lw_p62, List.forall_mem_cons.mpr ⟨lw_p63, fun _ h => absurd h List.not_mem_nil⟩⟩⟩⟩⟩⟩⟩⟩⟩⟩⟩⟩⟩⟩⟩⟩
theorem lw_p64 : lw_okq (⟨"ParkingEnforcementModel", "entry", "(II)I"⟩, 27) := ⟨⟨by decide +kernel, by decide +kernel⟩, List.mem_of_getElem? (i := 1301) (by decide +kernel), List.mem_of_getElem? (i := 1552) (by decide +kernel), List.mem_of_getElem? (i := 1553) (by decide +kernel)⟩
theorem lw_p65 : lw_okq (⟨"ParkingEnforcementModel", "ticket", "(II)I"⟩, 27) := ⟨⟨by decide +kernel, by decide +kernel⟩, List.mem_of_getElem? (i := 1301) (by decide +kernel), List.mem_of_getElem? (i := 1556) (by decide +kernel), List.mem_of_getElem? (i := 1557) (by decide +kernel)⟩
theorem lw_p66 : lw_okq (⟨"ParkingEnforcementModel", "unpaid", "(I)I"⟩, 27) := ⟨⟨by decide +kernel, by decide +kernel⟩, List.mem_of_getElem? (i := 1301) (by decide +kernel), List.mem_of_getElem? (i := 1560) (by decide +kernel), List.mem_of_getElem? (i := 1561) (by decide +kernel)⟩
theorem lw_p67 : lw_okq (⟨"ParkingEnforcementModel", "oldest", "(I)I"⟩, 27) := ⟨⟨by decide +kernel, by decide +kernel⟩, List.mem_of_getElem? (i := 1301) (by decide +kernel), List.mem_of_getElem? (i := 1569) (by decide +kernel), List.mem_of_getElem? (i := 1570) (by decide +kernel)⟩
theorem lw_p68 : lw_okq (⟨"ParkingEnforcementModel", "paysTickets", "(I)V"⟩, 27) := ⟨⟨by decide +kernel, by decide +kernel⟩, List.mem_of_getElem? (i := 1301) (by decide +kernel), List.mem_of_getElem? (i := 1573) (by decide +kernel), List.mem_of_getElem? (i := 1574) (by decide +kernel)⟩
theorem lw_p69 : lw_okq (⟨"ParkingEnforcementModel", "releases", "(I)V"⟩, 27) := ⟨⟨by decide +kernel, by decide +kernel⟩, List.mem_of_getElem? (i := 1301) (by decide +kernel), List.mem_of_getElem? (i := 1577) (by decide +kernel), List.mem_of_getElem? (i := 1578) (by decide +kernel)⟩
theorem lw_p70 : lw_okq (⟨"ParkingEnforcementModel", "owes", "(I)I"⟩, 27) := ⟨⟨by decide +kernel, by decide +kernel⟩, List.mem_of_getElem? (i := 1301) (by decide +kernel), List.mem_of_getElem? (i := 1581) (by decide +kernel), List.mem_of_getElem? (i := 1582) (by decide +kernel)⟩
theorem lw_p71 : lw_okq (⟨"ParkingEnforcementModel", "tours", "()V"⟩, 27) := ⟨⟨by decide +kernel, by decide +kernel⟩, List.mem_of_getElem? (i := 1301) (by decide +kernel), List.mem_of_getElem? (i := 1589) (by decide +kernel), List.mem_of_getElem? (i := 1590) (by decide +kernel)⟩
theorem lw_p72 : lw_okq (⟨"ParkingEnforcementModel", "isTowable", "(I)Z"⟩, 27) := ⟨⟨by decide +kernel, by decide +kernel⟩, List.mem_of_getElem? (i := 1301) (by decide +kernel), List.mem_of_getElem? (i := 1593) (by decide +kernel), List.mem_of_getElem? (i := 1594) (by decide +kernel)⟩
theorem lw_p73 : lw_okq (⟨"ParkingEnforcementModel", "ahead", "(I)I"⟩, 27) := ⟨⟨by decide +kernel, by decide +kernel⟩, List.mem_of_getElem? (i := 1301) (by decide +kernel), List.mem_of_getElem? (i := 1597) (by decide +kernel), List.mem_of_getElem? (i := 1598) (by decide +kernel)⟩
theorem lw_p74 : lw_okq (⟨"ParkingEnforcementModel", "roomOf", "(I)I"⟩, 27) := ⟨⟨by decide +kernel, by decide +kernel⟩, List.mem_of_getElem? (i := 1301) (by decide +kernel), List.mem_of_getElem? (i := 1601) (by decide +kernel), List.mem_of_getElem? (i := 1602) (by decide +kernel)⟩
theorem lw_p75 : lw_okq (⟨"ParkingEnforcementModel", "trips", "(IIII)V"⟩, 27) := ⟨⟨by decide +kernel, by decide +kernel⟩, List.mem_of_getElem? (i := 1301) (by decide +kernel), List.mem_of_getElem? (i := 1605) (by decide +kernel), List.mem_of_getElem? (i := 1606) (by decide +kernel)⟩
theorem lw_p76 : lw_okq (⟨"ParkingEnforcementModel", "way", "(II)I"⟩, 27) := ⟨⟨by decide +kernel, by decide +kernel⟩, List.mem_of_getElem? (i := 1301) (by decide +kernel), List.mem_of_getElem? (i := 1609) (by decide +kernel), List.mem_of_getElem? (i := 1610) (by decide +kernel)⟩
theorem lw_p77 : lw_okq (⟨"ParkingEnforcementModel", "asks", "(IIII)I"⟩, 27) := ⟨⟨by decide +kernel, by decide +kernel⟩, List.mem_of_getElem? (i := 1301) (by decide +kernel), List.mem_of_getElem? (i := 1680) (by decide +kernel), List.mem_of_getElem? (i := 1681) (by decide +kernel)⟩
theorem lw_p78 : lw_okq (⟨"ParkingEnforcementModel", "ofTicket", "(III)I"⟩, 27) := ⟨⟨by decide +kernel, by decide +kernel⟩, List.mem_of_getElem? (i := 1301) (by decide +kernel), List.mem_of_getElem? (i := 1704) (by decide +kernel), List.mem_of_getElem? (i := 1705) (by decide +kernel)⟩
theorem lw_p79 : lw_okq (⟨"ParkingEnforcementModel", "ofLog", "(II)I"⟩, 27) := ⟨⟨by decide +kernel, by decide +kernel⟩, List.mem_of_getElem? (i := 1301) (by decide +kernel), List.mem_of_getElem? (i := 1744) (by decide +kernel), List.mem_of_getElem? (i := 1745) (by decide +kernel)⟩
def lw_privs_5 : List (MethodName × Nat) := [(⟨"ParkingEnforcementModel", "entry", "(II)I"⟩, 27), (⟨"ParkingEnforcementModel", "ticket", "(II)I"⟩, 27), (⟨"ParkingEnforcementModel", "unpaid", "(I)I"⟩, 27), (⟨"ParkingEnforcementModel", "oldest", "(I)I"⟩, 27), (⟨"ParkingEnforcementModel", "paysTickets", "(I)V"⟩, 27), (⟨"ParkingEnforcementModel", "releases", "(I)V"⟩, 27), (⟨"ParkingEnforcementModel", "owes", "(I)I"⟩, 27), (⟨"ParkingEnforcementModel", "tours", "()V"⟩, 27), (⟨"ParkingEnforcementModel", "isTowable", "(I)Z"⟩, 27), (⟨"ParkingEnforcementModel", "ahead", "(I)I"⟩, 27), (⟨"ParkingEnforcementModel", "roomOf", "(I)I"⟩, 27), (⟨"ParkingEnforcementModel", "trips", "(IIII)V"⟩, 27), (⟨"ParkingEnforcementModel", "way", "(II)I"⟩, 27), (⟨"ParkingEnforcementModel", "asks", "(IIII)I"⟩, 27), (⟨"ParkingEnforcementModel", "ofTicket", "(III)I"⟩, 27), (⟨"ParkingEnforcementModel", "ofLog", "(II)I"⟩, 27)]
theorem lw_r5 : ∀ q ∈ lw_privs_5, lw_okq q := List.forall_mem_cons.mpr ⟨lw_p64, List.forall_mem_cons.mpr ⟨lw_p65, List.forall_mem_cons.mpr ⟨lw_p66, List.forall_mem_cons.mpr ⟨lw_p67, List.forall_mem_cons.mpr ⟨lw_p68, List.forall_mem_cons.mpr ⟨lw_p69, List.forall_mem_cons.mpr ⟨lw_p70, List.forall_mem_cons.mpr ⟨lw_p71, List.forall_mem_cons.mpr ⟨lw_p72, List.forall_mem_cons.mpr ⟨lw_p73, List.forall_mem_cons.mpr ⟨lw_p74, List.forall_mem_cons.mpr ⟨lw_p75, List.forall_mem_cons.mpr ⟨lw_p76, List.forall_mem_cons.mpr ⟨lw_p77, List.forall_mem_cons.mpr ⟨lw_p78, List.forall_mem_cons.mpr ⟨lw_p79, fun _ h => absurd h List.not_mem_nil⟩⟩⟩⟩⟩⟩⟩⟩⟩⟩⟩⟩⟩⟩⟩⟩
theorem lw_p80 : lw_okq (⟨"ParkingEnforcementModel", "priceOf", "(III)I"⟩, 27) := ⟨⟨by decide +kernel, by decide +kernel⟩, List.mem_of_getElem? (i := 1301) (by decide +kernel), List.mem_of_getElem? (i := 1772) (by decide +kernel), List.mem_of_getElem? (i := 1773) (by decide +kernel)⟩
theorem lw_p81 : lw_okq (⟨"ParkingEnforcementModel", "finesAfter", "(II)I"⟩, 27) := ⟨⟨by decide +kernel, by decide +kernel⟩, List.mem_of_getElem? (i := 1301) (by decide +kernel), List.mem_of_getElem? (i := 1788) (by decide +kernel), List.mem_of_getElem? (i := 1789) (by decide +kernel)⟩
theorem lw_p82 : lw_okq (⟨"ParkingEnforcementModel", "placeAt", "(I)I"⟩, 27) := ⟨⟨by decide +kernel, by decide +kernel⟩, List.mem_of_getElem? (i := 1301) (by decide +kernel), List.mem_of_getElem? (i := 1800) (by decide +kernel), List.mem_of_getElem? (i := 1801) (by decide +kernel)⟩
theorem lw_p83 : lw_okq (⟨"ParkingEnforcementModel", "ofTour", "(I[I)I"⟩, 27) := ⟨⟨by decide +kernel, by decide +kernel⟩, List.mem_of_getElem? (i := 1301) (by decide +kernel), List.mem_of_getElem? (i := 1824) (by decide +kernel), List.mem_of_getElem? (i := 1825) (by decide +kernel)⟩
theorem lw_p84 : lw_okq (⟨"ParkingEnforcementModel", "patrols", "(II)Z"⟩, 27) := ⟨⟨by decide +kernel, by decide +kernel⟩, List.mem_of_getElem? (i := 1301) (by decide +kernel), List.mem_of_getElem? (i := 1836) (by decide +kernel), List.mem_of_getElem? (i := 1837) (by decide +kernel)⟩
theorem lw_p85 : lw_okq (⟨"ParkingEnforcementModel", "valueOf", "(I)I"⟩, 27) := ⟨⟨by decide +kernel, by decide +kernel⟩, List.mem_of_getElem? (i := 1301) (by decide +kernel), List.mem_of_getElem? (i := 1840) (by decide +kernel), List.mem_of_getElem? (i := 1841) (by decide +kernel)⟩
theorem lw_p86 : lw_okq (⟨"ParkingEnforcementModel", "ends", "(III)I"⟩, 27) := ⟨⟨by decide +kernel, by decide +kernel⟩, List.mem_of_getElem? (i := 1301) (by decide +kernel), List.mem_of_getElem? (i := 1844) (by decide +kernel), List.mem_of_getElem? (i := 1845) (by decide +kernel)⟩
def lw_privs_6 : List (MethodName × Nat) := [(⟨"ParkingEnforcementModel", "priceOf", "(III)I"⟩, 27), (⟨"ParkingEnforcementModel", "finesAfter", "(II)I"⟩, 27), (⟨"ParkingEnforcementModel", "placeAt", "(I)I"⟩, 27), (⟨"ParkingEnforcementModel", "ofTour", "(I[I)I"⟩, 27), (⟨"ParkingEnforcementModel", "patrols", "(II)Z"⟩, 27), (⟨"ParkingEnforcementModel", "valueOf", "(I)I"⟩, 27), (⟨"ParkingEnforcementModel", "ends", "(III)I"⟩, 27)]
theorem lw_r6 : ∀ q ∈ lw_privs_6, lw_okq q := List.forall_mem_cons.mpr ⟨lw_p80, List.forall_mem_cons.mpr ⟨lw_p81, List.forall_mem_cons.mpr ⟨lw_p82, List.forall_mem_cons.mpr ⟨lw_p83, List.forall_mem_cons.mpr ⟨lw_p84, List.forall_mem_cons.mpr ⟨lw_p85, List.forall_mem_cons.mpr ⟨lw_p86, fun _ h => absurd h List.not_mem_nil⟩⟩⟩⟩⟩⟩⟩
def lw_privs : List (MethodName × Nat) := lw_privs_1 ++ (lw_privs_2 ++ (lw_privs_3 ++ (lw_privs_4 ++ (lw_privs_5 ++ (lw_privs_6)))))
def lw_tbl : List Cond := k2_sels lw_privs ++ tables_1
theorem lw_privs_ok : ∀ q ∈ lw_privs, lw_okq q := by
  show ∀ q ∈ lw_privs_1 ++ (lw_privs_2 ++ (lw_privs_3 ++ (lw_privs_4 ++ (lw_privs_5 ++ (lw_privs_6))))), lw_okq q
  exact List.forall_mem_append.mpr ⟨lw_r1, List.forall_mem_append.mpr ⟨lw_r2, List.forall_mem_append.mpr ⟨lw_r3, List.forall_mem_append.mpr ⟨lw_r4, List.forall_mem_append.mpr ⟨lw_r5, lw_r6⟩⟩⟩⟩⟩
end
section
def RX0 : String := "ParkingEnforcement$Car"
def TX0 : u_T := fun k => match k with
  | 0 => ("ParkingEnforcement$Car", "number", "I", true)
  | 1 => ("ParkingEnforcement$Car", "status", "I", false)
  | 2 => ("ParkingEnforcement$Car", "place", "I", false)
  | 3 => ("ParkingEnforcement$Car", "paidTo", "I", false)
  | 4 => ("ParkingEnforcement$Car", "clampMinute", "I", false)
  | 5 => ("ParkingEnforcement$Car", "tickets", "I", false)
  | 6 => ("ParkingEnforcement$Car", "ticketsPaid", "I", false)
  | 7 => ("ParkingEnforcement$Car", "latestTicket", "I", false)
  | 8 => ("ParkingEnforcement$Car", "ticketCents", "I", false)
  | 9 => ("ParkingEnforcement$Car", "feeCents", "I", false)
  | _ => ("ParkingEnforcement$Car", "creditCents", "I", false)
def tyX0 : Nat → FieldType := fun k => match k with
  | 0 => .int
  | 1 => .int
  | 2 => .int
  | 3 => .int
  | 4 => .int
  | 5 => .int
  | 6 => .int
  | 7 => .int
  | 8 => .int
  | 9 => .int
  | _ => .int
abbrev wsX00 : List Cond := u_ws RX0 TX0 11
theorem nmX0 : ∀ a, a < 11 → ∀ b, b < 11 → a ≠ b → (TX0 a).2.1 ≠ (TX0 b).2.1 := by decide +kernel
theorem tyX0_ok : ∀ k, k < 11 → parseFieldDescriptor (TX0 k).2.2.1 = some (tyX0 k) := by decide +kernel
abbrev cX0_init : ByteArray := prog_2_method_1_code
def yX0_init : MethodName := ⟨RX0, "<init>", "(I)V"⟩
abbrev cX0_clear : ByteArray := prog_2_method_2_code
def yX0_clear : MethodName := ⟨RX0, "clear", "()V"⟩
abbrev cX0_copyFrom : ByteArray := prog_2_method_3_code
def yX0_copyFrom : MethodName := ⟨RX0, "copyFrom", "(LParkingEnforcement$Car;)V"⟩
abbrev cX0_isAt : ByteArray := prog_2_method_4_code
def yX0_isAt : MethodName := ⟨RX0, "isAt", "(II)Z"⟩
abbrev cX0_takesSpaceAt : ByteArray := prog_2_method_5_code
def yX0_takesSpaceAt : MethodName := ⟨RX0, "takesSpaceAt", "(I)Z"⟩
abbrev cX0_canBeTowedAt : ByteArray := prog_2_method_6_code
def yX0_canBeTowedAt : MethodName := ⟨RX0, "canBeTowedAt", "(I)Z"⟩
abbrev cX0_unpaidTickets : ByteArray := prog_2_method_7_code
def yX0_unpaidTickets : MethodName := ⟨RX0, "unpaidTickets", "()I"⟩
abbrev cX0_owesNothing : ByteArray := prog_2_method_8_code
def yX0_owesNothing : MethodName := ⟨RX0, "owesNothing", "()Z"⟩
abbrev cX0_owed : ByteArray := prog_2_method_9_code
def yX0_owed : MethodName := ⟨RX0, "owed", "()I"⟩
abbrev cX0_hadTicketShortlyBefore : ByteArray := prog_2_method_10_code
def yX0_hadTicketShortlyBefore : MethodName := ⟨RX0, "hadTicketShortlyBefore", "(I)Z"⟩
abbrev cX0_fineFor : ByteArray := prog_2_method_11_code
def yX0_fineFor : MethodName := ⟨RX0, "fineFor", "(I)I"⟩
def RX1 : String := "ParkingEnforcement$Log"
def TX1 : u_T := fun k => match k with
  | 0 => ("ParkingEnforcement$Log", "size", "I", false)
  | 1 => ("ParkingEnforcement$Log", "minutes", "[I", true)
  | 2 => ("ParkingEnforcement$Log", "kinds", "[I", true)
  | 3 => ("ParkingEnforcement$Log", "carNumbers", "[I", true)
  | 4 => ("ParkingEnforcement$Log", "amounts", "[I", true)
  | 5 => ("ParkingEnforcement$Log", "parkPlace", "[I", true)
  | _ => ("ParkingEnforcement$Log", "parkCount", "[I", true)
def tyX1 : Nat → FieldType := fun k => match k with
  | 0 => .int
  | 1 => .array .int
  | 2 => .array .int
  | 3 => .array .int
  | 4 => .array .int
  | 5 => .array .int
  | _ => .array .int
abbrev wsX10 : List Cond := u_ws RX1 TX1 7
theorem nmX1 : ∀ a, a < 7 → ∀ b, b < 7 → a ≠ b → (TX1 a).2.1 ≠ (TX1 b).2.1 := by decide +kernel
theorem tyX1_ok : ∀ k, k < 7 → parseFieldDescriptor (TX1 k).2.2.1 = some (tyX1 k) := by decide +kernel
abbrev cX1_init : ByteArray := prog_3_method_1_code
def yX1_init : MethodName := ⟨RX1, "<init>", "()V"⟩
abbrev cX1_copyFrom : ByteArray := prog_3_method_2_code
def yX1_copyFrom : MethodName := ⟨RX1, "copyFrom", "(LParkingEnforcement$Log;)V"⟩
abbrev cX1_isFull : ByteArray := prog_3_method_3_code
def yX1_isFull : MethodName := ⟨RX1, "isFull", "()Z"⟩
abbrev cX1_has : ByteArray := prog_3_method_4_code
def yX1_has : MethodName := ⟨RX1, "has", "(I)Z"⟩
abbrev cX1_add : ByteArray := prog_3_method_5_code
def yX1_add : MethodName := ⟨RX1, "add", "(IIII)V"⟩
abbrev cX1_isOn : ByteArray := prog_3_method_6_code
def yX1_isOn : MethodName := ⟨RX1, "isOn", "(III)Z"⟩
abbrev cX1_sum : ByteArray := prog_3_method_7_code
def yX1_sum : MethodName := ⟨RX1, "sum", "(II)I"⟩
abbrev cX1_ticketEntry : ByteArray := prog_3_method_8_code
def yX1_ticketEntry : MethodName := ⟨RX1, "ticketEntry", "(II)I"⟩
abbrev cX1_meterSum : ByteArray := prog_3_method_9_code
def yX1_meterSum : MethodName := ⟨RX1, "meterSum", "(IILParkingEnforcement$Town;)I"⟩
abbrev cX1_mostParks : ByteArray := prog_3_method_10_code
def yX1_mostParks : MethodName := ⟨RX1, "mostParks", "(I)I"⟩
def RX2 : String := "ParkingEnforcement$PatrolPlanner"
def TX2 : u_T := fun k => match k with
  | 0 => ("ParkingEnforcement$PatrolPlanner", "values", "[I", true)
  | 1 => ("ParkingEnforcement$PatrolPlanner", "shortest", "[I", true)
  | 2 => ("ParkingEnforcement$PatrolPlanner", "start", "I", false)
  | 3 => ("ParkingEnforcement$PatrolPlanner", "bestValue", "I", false)
  | 4 => ("ParkingEnforcement$PatrolPlanner", "bestLength", "I", false)
  | _ => ("ParkingEnforcement$PatrolPlanner", "bestSet", "I", false)
def tyX2 : Nat → FieldType := fun k => match k with
  | 0 => .array .int
  | 1 => .array .int
  | 2 => .int
  | 3 => .int
  | 4 => .int
  | _ => .int
abbrev wsX20 : List Cond := u_ws RX2 TX2 6
theorem nmX2 : ∀ a, a < 6 → ∀ b, b < 6 → a ≠ b → (TX2 a).2.1 ≠ (TX2 b).2.1 := by decide +kernel
theorem tyX2_ok : ∀ k, k < 6 → parseFieldDescriptor (TX2 k).2.2.1 = some (tyX2 k) := by decide +kernel
abbrev cX2_init : ByteArray := prog_4_method_1_code
def yX2_init : MethodName := ⟨RX2, "<init>", "()V"⟩
abbrev cX2_plan : ByteArray := prog_4_method_2_code
def yX2_plan : MethodName := ⟨RX2, "plan", "(LParkingEnforcement$World;II)V"⟩
abbrev cX2_findValues : ByteArray := prog_4_method_3_code
def yX2_findValues : MethodName := ⟨RX2, "findValues", "(LParkingEnforcement$World;)I"⟩
abbrev cX2_considerSet : ByteArray := prog_4_method_4_code
def yX2_considerSet : MethodName := ⟨RX2, "considerSet", "(ILParkingEnforcement$Town;I)V"⟩
abbrev cX2_lengthEndingAt : ByteArray := prog_4_method_5_code
def yX2_lengthEndingAt : MethodName := ⟨RX2, "lengthEndingAt", "(IILParkingEnforcement$Town;)I"⟩
def RX3 : String := "ParkingEnforcement$TourPlanner"
def TX3 : u_T := fun k => match k with
  | 0 => ("ParkingEnforcement$TourPlanner", "candidates", "[I", true)
  | 1 => ("ParkingEnforcement$TourPlanner", "carPlace", "[I", true)
  | 2 => ("ParkingEnforcement$TourPlanner", "poundPlace", "[I", true)
  | 3 => ("ParkingEnforcement$TourPlanner", "room", "[I", true)
  | 4 => ("ParkingEnforcement$TourPlanner", "lengths", "[I", true)
  | 5 => ("ParkingEnforcement$TourPlanner", "worth", "[I", true)
  | 6 => ("ParkingEnforcement$TourPlanner", "tripCar", "[I", true)
  | 7 => ("ParkingEnforcement$TourPlanner", "tripPound", "[I", true)
  | 8 => ("ParkingEnforcement$TourPlanner", "tripLength", "[I", true)
  | 9 => ("ParkingEnforcement$TourPlanner", "candidateCount", "I", false)
  | 10 => ("ParkingEnforcement$TourPlanner", "pounds", "I", false)
  | _ => ("ParkingEnforcement$TourPlanner", "trips", "I", false)
def tyX3 : Nat → FieldType := fun k => match k with
  | 0 => .array .int
  | 1 => .array .int
  | 2 => .array .int
  | 3 => .array .int
  | 4 => .array .int
  | 5 => .array .int
  | 6 => .array .int
  | 7 => .array .int
  | 8 => .array .int
  | 9 => .int
  | 10 => .int
  | _ => .int
abbrev wsX30 : List Cond := u_ws RX3 TX3 12
theorem nmX3 : ∀ a, a < 12 → ∀ b, b < 12 → a ≠ b → (TX3 a).2.1 ≠ (TX3 b).2.1 := by decide +kernel
theorem tyX3_ok : ∀ k, k < 12 → parseFieldDescriptor (TX3 k).2.2.1 = some (tyX3 k) := by decide +kernel
abbrev cX3_init : ByteArray := prog_5_method_1_code
def yX3_init : MethodName := ⟨RX3, "<init>", "()V"⟩
abbrev cX3_plan : ByteArray := prog_5_method_2_code
def yX3_plan : MethodName := ⟨RX3, "plan", "(LParkingEnforcement$World;)V"⟩
abbrev cX3_wholeLength : ByteArray := prog_5_method_3_code
def yX3_wholeLength : MethodName := ⟨RX3, "wholeLength", "()I"⟩
abbrev cX3_chooseCandidates : ByteArray := prog_5_method_4_code
def yX3_chooseCandidates : MethodName := ⟨RX3, "chooseCandidates", "(LParkingEnforcement$World;)V"⟩
abbrev cX3_countClampedBefore : ByteArray := prog_5_method_5_code
def yX3_countClampedBefore : MethodName := ⟨RX3, "countClampedBefore", "(LParkingEnforcement$Car;ILParkingEnforcement$World;)I"⟩
abbrev cX3_choosePounds : ByteArray := prog_5_method_6_code
def yX3_choosePounds : MethodName := ⟨RX3, "choosePounds", "(LParkingEnforcement$World;)V"⟩
abbrev cX3_measureTrips : ByteArray := prog_5_method_7_code
def yX3_measureTrips : MethodName := ⟨RX3, "measureTrips", "(LParkingEnforcement$Town;)V"⟩
abbrev cX3_tripIndex : ByteArray := prog_5_method_8_code
def yX3_tripIndex : MethodName := ⟨RX3, "tripIndex", "(III)I"⟩
abbrev cX3_stateIndex : ByteArray := prog_5_method_9_code
def yX3_stateIndex : MethodName := ⟨RX3, "stateIndex", "(III)I"⟩
abbrev cX3_weighStates : ByteArray := prog_5_method_10_code
def yX3_weighStates : MethodName := ⟨RX3, "weighStates", "()V"⟩
abbrev cX3_bestWorth : ByteArray := prog_5_method_11_code
def yX3_bestWorth : MethodName := ⟨RX3, "bestWorth", "(III)I"⟩
abbrev cX3_worthOver : ByteArray := prog_5_method_12_code
def yX3_worthOver : MethodName := ⟨RX3, "worthOver", "(IIIII)I"⟩
abbrev cX3_takeBestTrips : ByteArray := prog_5_method_13_code
def yX3_takeBestTrips : MethodName := ⟨RX3, "takeBestTrips", "(I)V"⟩
abbrev cX3_smallestBestTrip : ByteArray := prog_5_method_14_code
def yX3_smallestBestTrip : MethodName := ⟨RX3, "smallestBestTrip", "(III)I"⟩
abbrev cX3_addTrip : ByteArray := prog_5_method_15_code
def yX3_addTrip : MethodName := ⟨RX3, "addTrip", "(III)V"⟩
def RX4 : String := "ParkingEnforcement$Town"
def TX4 : u_T := fun k => match k with
  | 0 => ("ParkingEnforcement$Town", "size", "I", false)
  | 1 => ("ParkingEnforcement$Town", "poundCount", "I", false)
  | 2 => ("ParkingEnforcement$Town", "firstPound", "I", false)
  | 3 => ("ParkingEnforcement$Town", "zoneNumber", "[I", true)
  | 4 => ("ParkingEnforcement$Town", "spaces", "[I", true)
  | 5 => ("ParkingEnforcement$Town", "poundSize", "[I", true)
  | 6 => ("ParkingEnforcement$Town", "roads", "[I", true)
  | 7 => ("ParkingEnforcement$Town", "ways", "[I", true)
  | _ => ("ParkingEnforcement$Town", "zones", "[LParkingEnforcement$Zone;", true)
def tyX4 : Nat → FieldType := fun k => match k with
  | 0 => .int
  | 1 => .int
  | 2 => .int
  | 3 => .array .int
  | 4 => .array .int
  | 5 => .array .int
  | 6 => .array .int
  | 7 => .array .int
  | _ => .array (.object "ParkingEnforcement$Zone")
abbrev wsX40 : List Cond := u_ws RX4 TX4 9
theorem nmX4 : ∀ a, a < 9 → ∀ b, b < 9 → a ≠ b → (TX4 a).2.1 ≠ (TX4 b).2.1 := by decide +kernel
theorem tyX4_ok : ∀ k, k < 9 → parseFieldDescriptor (TX4 k).2.2.1 = some (tyX4 k) := by decide +kernel
abbrev cX4_init : ByteArray := prog_6_method_1_code
def yX4_init : MethodName := ⟨RX4, "<init>", "()V"⟩
abbrev cX4_clear : ByteArray := prog_6_method_2_code
def yX4_clear : MethodName := ⟨RX4, "clear", "()V"⟩
abbrev cX4_copyFrom : ByteArray := prog_6_method_3_code
def yX4_copyFrom : MethodName := ⟨RX4, "copyFrom", "(LParkingEnforcement$Town;)V"⟩
abbrev cX4_has : ByteArray := prog_6_method_4_code
def yX4_has : MethodName := ⟨RX4, "has", "(I)Z"⟩
abbrev cX4_zoneOrNull : ByteArray := prog_6_method_5_code
def yX4_zoneOrNull : MethodName := ⟨RX4, "zoneOrNull", "(I)LParkingEnforcement$Zone;"⟩
abbrev cX4_zoneAt : ByteArray := prog_6_method_6_code
def yX4_zoneAt : MethodName := ⟨RX4, "zoneAt", "(I)LParkingEnforcement$Zone;"⟩
abbrev cX4_hasPound : ByteArray := prog_6_method_7_code
def yX4_hasPound : MethodName := ⟨RX4, "hasPound", "(I)Z"⟩
abbrev cX4_setPound : ByteArray := prog_6_method_8_code
def yX4_setPound : MethodName := ⟨RX4, "setPound", "(II)V"⟩
abbrev cX4_addRoad : ByteArray := prog_6_method_9_code
def yX4_addRoad : MethodName := ⟨RX4, "addRoad", "(III)V"⟩
abbrev cX4_way : ByteArray := prog_6_method_10_code
def yX4_way : MethodName := ⟨RX4, "way", "(II)I"⟩
abbrev cX4_findWays : ByteArray := prog_6_method_11_code
def yX4_findWays : MethodName := ⟨RX4, "findWays", "()V"⟩
abbrev cX4_firstStep : ByteArray := prog_6_method_12_code
def yX4_firstStep : MethodName := ⟨RX4, "firstStep", "(II)I"⟩
def RX5 : String := "ParkingEnforcement$TownReader"
def TX5 : u_T := fun k => match k with
  | 0 => ("ParkingEnforcement$TownReader", "town", "LParkingEnforcement$Town;", true)
  | 1 => ("ParkingEnforcement$TownReader", "bytes", "[I", true)
  | 2 => ("ParkingEnforcement$TownReader", "length", "I", false)
  | 3 => ("ParkingEnforcement$TownReader", "position", "I", false)
  | 4 => ("ParkingEnforcement$TownReader", "numberAt", "I", false)
  | 5 => ("ParkingEnforcement$TownReader", "wordAt", "I", false)
  | 6 => ("ParkingEnforcement$TownReader", "errorKind", "I", false)
  | _ => ("ParkingEnforcement$TownReader", "errorAt", "I", false)
def tyX5 : Nat → FieldType := fun k => match k with
  | 0 => .object "ParkingEnforcement$Town"
  | 1 => .array .int
  | 2 => .int
  | 3 => .int
  | 4 => .int
  | 5 => .int
  | 6 => .int
  | _ => .int
abbrev wsX50 : List Cond := u_ws RX5 TX5 8
theorem nmX5 : ∀ a, a < 8 → ∀ b, b < 8 → a ≠ b → (TX5 a).2.1 ≠ (TX5 b).2.1 := by decide +kernel
theorem tyX5_ok : ∀ k, k < 8 → parseFieldDescriptor (TX5 k).2.2.1 = some (tyX5 k) := by decide +kernel
abbrev cX5_init : ByteArray := prog_7_method_1_code
def yX5_init : MethodName := ⟨RX5, "<init>", "()V"⟩
abbrev cX5_isBufferFull : ByteArray := prog_7_method_2_code
def yX5_isBufferFull : MethodName := ⟨RX5, "isBufferFull", "()Z"⟩
abbrev cX5_append : ByteArray := prog_7_method_3_code
def yX5_append : MethodName := ⟨RX5, "append", "(I)I"⟩
abbrev cX5_readBuffer : ByteArray := prog_7_method_4_code
def yX5_readBuffer : MethodName := ⟨RX5, "readBuffer", "()V"⟩
abbrev cX5_fail : ByteArray := prog_7_method_5_code
def yX5_fail : MethodName := ⟨RX5, "fail", "(II)V"⟩
abbrev cX5_readPlaces : ByteArray := prog_7_method_6_code
def yX5_readPlaces : MethodName := ⟨RX5, "readPlaces", "()V"⟩
abbrev cX5_readSemicolon : ByteArray := prog_7_method_7_code
def yX5_readSemicolon : MethodName := ⟨RX5, "readSemicolon", "()V"⟩
abbrev cX5_readStatement : ByteArray := prog_7_method_8_code
def yX5_readStatement : MethodName := ⟨RX5, "readStatement", "()V"⟩
abbrev cX5_readRoad : ByteArray := prog_7_method_9_code
def yX5_readRoad : MethodName := ⟨RX5, "readRoad", "()V"⟩
abbrev cX5_readZone : ByteArray := prog_7_method_10_code
def yX5_readZone : MethodName := ⟨RX5, "readZone", "()V"⟩
abbrev cX5_readRate : ByteArray := prog_7_method_11_code
def yX5_readRate : MethodName := ⟨RX5, "readRate", "()V"⟩
abbrev cX5_readStay : ByteArray := prog_7_method_12_code
def yX5_readStay : MethodName := ⟨RX5, "readStay", "()V"⟩
abbrev cX5_readSpaces : ByteArray := prog_7_method_13_code
def yX5_readSpaces : MethodName := ⟨RX5, "readSpaces", "()V"⟩
abbrev cX5_readPound : ByteArray := prog_7_method_14_code
def yX5_readPound : MethodName := ⟨RX5, "readPound", "()V"⟩
abbrev cX5_readPlace : ByteArray := prog_7_method_15_code
def yX5_readPlace : MethodName := ⟨RX5, "readPlace", "()I"⟩
abbrev cX5_readNumber : ByteArray := prog_7_method_16_code
def yX5_readNumber : MethodName := ⟨RX5, "readNumber", "(II)I"⟩
abbrev cX5_readWord : ByteArray := prog_7_method_17_code
def yX5_readWord : MethodName := ⟨RX5, "readWord", "()I"⟩
abbrev cX5_spelling : ByteArray := prog_7_method_18_code
def yX5_spelling : MethodName := ⟨RX5, "spelling", "(I)Ljava/lang/String;"⟩
abbrev cX5_isWordRead : ByteArray := prog_7_method_19_code
def yX5_isWordRead : MethodName := ⟨RX5, "isWordRead", "(Ljava/lang/String;)Z"⟩
abbrev cX5_skipSpaces : ByteArray := prog_7_method_20_code
def yX5_skipSpaces : MethodName := ⟨RX5, "skipSpaces", "()V"⟩
abbrev cX5_isDigit : ByteArray := prog_7_method_21_code
def yX5_isDigit : MethodName := ⟨RX5, "isDigit", "(I)Z"⟩
abbrev cX5_nextByte : ByteArray := prog_7_method_22_code
def yX5_nextByte : MethodName := ⟨RX5, "nextByte", "()I"⟩
def RX6 : String := "ParkingEnforcement$World"
def TX6 : u_T := fun k => match k with
  | 0 => ("ParkingEnforcement$World", "town", "LParkingEnforcement$Town;", true)
  | 1 => ("ParkingEnforcement$World", "cars", "[LParkingEnforcement$Car;", true)
  | 2 => ("ParkingEnforcement$World", "log", "LParkingEnforcement$Log;", true)
  | 3 => ("ParkingEnforcement$World", "minute", "I", false)
  | _ => ("ParkingEnforcement$World", "truckPlace", "I", false)
def tyX6 : Nat → FieldType := fun k => match k with
  | 0 => .object "ParkingEnforcement$Town"
  | 1 => .array (.object "ParkingEnforcement$Car")
  | 2 => .object "ParkingEnforcement$Log"
  | 3 => .int
  | _ => .int
abbrev wsX60 : List Cond := u_ws RX6 TX6 5
theorem nmX6 : ∀ a, a < 5 → ∀ b, b < 5 → a ≠ b → (TX6 a).2.1 ≠ (TX6 b).2.1 := by decide +kernel
theorem tyX6_ok : ∀ k, k < 5 → parseFieldDescriptor (TX6 k).2.2.1 = some (tyX6 k) := by decide +kernel
abbrev cX6_init : ByteArray := prog_8_method_1_code
def yX6_init : MethodName := ⟨RX6, "<init>", "()V"⟩
abbrev cX6_begin : ByteArray := prog_8_method_2_code
def yX6_begin : MethodName := ⟨RX6, "begin", "(LParkingEnforcement$Town;)V"⟩
abbrev cX6_copyFrom : ByteArray := prog_8_method_3_code
def yX6_copyFrom : MethodName := ⟨RX6, "copyFrom", "(LParkingEnforcement$World;)V"⟩
abbrev cX6_carOrNull : ByteArray := prog_8_method_4_code
def yX6_carOrNull : MethodName := ⟨RX6, "carOrNull", "(I)LParkingEnforcement$Car;"⟩
abbrev cX6_note : ByteArray := prog_8_method_5_code
def yX6_note : MethodName := ⟨RX6, "note", "(ILParkingEnforcement$Car;I)V"⟩
abbrev cX6_carsOnSpaces : ByteArray := prog_8_method_6_code
def yX6_carsOnSpaces : MethodName := ⟨RX6, "carsOnSpaces", "(I)I"⟩
abbrev cX6_spacesLeft : ByteArray := prog_8_method_7_code
def yX6_spacesLeft : MethodName := ⟨RX6, "spacesLeft", "(I)I"⟩
abbrev cX6_poundRoom : ByteArray := prog_8_method_8_code
def yX6_poundRoom : MethodName := ⟨RX6, "poundRoom", "(I)I"⟩
abbrev cX6_putCar : ByteArray := prog_8_method_9_code
def yX6_putCar : MethodName := ⟨RX6, "putCar", "(LParkingEnforcement$Car;I)V"⟩
abbrev cX6_boughtUntil : ByteArray := prog_8_method_10_code
def yX6_boughtUntil : MethodName := ⟨RX6, "boughtUntil", "(III)I"⟩
abbrev cX6_overtimeOf : ByteArray := prog_8_method_11_code
def yX6_overtimeOf : MethodName := ⟨RX6, "overtimeOf", "(LParkingEnforcement$Car;)I"⟩
abbrev cX6_carsPaidTo : ByteArray := prog_8_method_12_code
def yX6_carsPaidTo : MethodName := ⟨RX6, "carsPaidTo", "(II)I"⟩
abbrev cX6_ticketFor : ByteArray := prog_8_method_13_code
def yX6_ticketFor : MethodName := ⟨RX6, "ticketFor", "(LParkingEnforcement$Car;I)I"⟩
abbrev cX6_countTickets : ByteArray := prog_8_method_14_code
def yX6_countTickets : MethodName := ⟨RX6, "countTickets", "(II)I"⟩
abbrev cX6_ticketSum : ByteArray := prog_8_method_15_code
def yX6_ticketSum : MethodName := ⟨RX6, "ticketSum", "(II)I"⟩
abbrev cX6_bestWait : ByteArray := prog_8_method_16_code
def yX6_bestWait : MethodName := ⟨RX6, "bestWait", "(II)I"⟩
abbrev cX6_writeTickets : ByteArray := prog_8_method_17_code
def yX6_writeTickets : MethodName := ⟨RX6, "writeTickets", "(I)I"⟩
abbrev cX6_writeTicket : ByteArray := prog_8_method_18_code
def yX6_writeTicket : MethodName := ⟨RX6, "writeTicket", "(LParkingEnforcement$Car;I)V"⟩
abbrev cX6_takeMoney : ByteArray := prog_8_method_19_code
def yX6_takeMoney : MethodName := ⟨RX6, "takeMoney", "(LParkingEnforcement$Car;I)V"⟩
abbrev cX6_payTickets : ByteArray := prog_8_method_20_code
def yX6_payTickets : MethodName := ⟨RX6, "payTickets", "(LParkingEnforcement$Car;)V"⟩
abbrev cX6_payFees : ByteArray := prog_8_method_21_code
def yX6_payFees : MethodName := ⟨RX6, "payFees", "(LParkingEnforcement$Car;)V"⟩
abbrev cX6_release : ByteArray := prog_8_method_22_code
def yX6_release : MethodName := ⟨RX6, "release", "(LParkingEnforcement$Car;)V"⟩
abbrev cX6_allOwed : ByteArray := prog_8_method_23_code
def yX6_allOwed : MethodName := ⟨RX6, "allOwed", "()I"⟩
abbrev cX6_carsToTow : ByteArray := prog_8_method_24_code
def yX6_carsToTow : MethodName := ⟨RX6, "carsToTow", "()I"⟩
abbrev cX6_bringToPound : ByteArray := prog_8_method_25_code
def yX6_bringToPound : MethodName := ⟨RX6, "bringToPound", "(LParkingEnforcement$Car;I)V"⟩
def RX7 : String := "ParkingEnforcement$Zone"
def TX7 : u_T := fun k => match k with
  | 0 => ("ParkingEnforcement$Zone", "rates", "[I", true)
  | _ => ("ParkingEnforcement$Zone", "stayLimit", "I", false)
def tyX7 : Nat → FieldType := fun k => match k with
  | 0 => .array .int
  | _ => .int
abbrev wsX70 : List Cond := u_ws RX7 TX7 2
theorem nmX7 : ∀ a, a < 2 → ∀ b, b < 2 → a ≠ b → (TX7 a).2.1 ≠ (TX7 b).2.1 := by decide +kernel
theorem tyX7_ok : ∀ k, k < 2 → parseFieldDescriptor (TX7 k).2.2.1 = some (tyX7 k) := by decide +kernel
abbrev cX7_init : ByteArray := prog_9_method_1_code
def yX7_init : MethodName := ⟨RX7, "<init>", "()V"⟩
abbrev cX7_clear : ByteArray := prog_9_method_2_code
def yX7_clear : MethodName := ⟨RX7, "clear", "()V"⟩
abbrev cX7_copyFrom : ByteArray := prog_9_method_3_code
def yX7_copyFrom : MethodName := ⟨RX7, "copyFrom", "(LParkingEnforcement$Zone;)V"⟩
abbrev cX7_setRates : ByteArray := prog_9_method_4_code
def yX7_setRates : MethodName := ⟨RX7, "setRates", "(III)V"⟩
abbrev cX7_rateAt : ByteArray := prog_9_method_5_code
def yX7_rateAt : MethodName := ⟨RX7, "rateAt", "(I)I"⟩
abbrev cX7_cost : ByteArray := prog_9_method_6_code
def yX7_cost : MethodName := ⟨RX7, "cost", "(II)I"⟩
abbrev cX7_lastsUntil : ByteArray := prog_9_method_7_code
def yX7_lastsUntil : MethodName := ⟨RX7, "lastsUntil", "(III)I"⟩
abbrev cX7_cheapest : ByteArray := prog_9_method_8_code
def yX7_cheapest : MethodName := ⟨RX7, "cheapest", "(II)I"⟩
abbrev cX7_chargedMinutes : ByteArray := prog_9_method_9_code
def yX7_chargedMinutes : MethodName := ⟨RX7, "chargedMinutes", "(II)I"⟩
abbrev cX7_chargedBefore : ByteArray := prog_9_method_10_code
def yX7_chargedBefore : MethodName := ⟨RX7, "chargedBefore", "(I)I"⟩
def RX8 : String := "ParkingEnforcement"
def TX8 : u_T := fun k => match k with
  | 0 => ("ParkingEnforcement", "reader", "LParkingEnforcement$TownReader;", true)
  | 1 => ("ParkingEnforcement", "world", "LParkingEnforcement$World;", true)
  | 2 => ("ParkingEnforcement", "slots", "[LParkingEnforcement$World;", true)
  | 3 => ("ParkingEnforcement", "slotUsed", "[Z", true)
  | 4 => ("ParkingEnforcement", "tours", "LParkingEnforcement$TourPlanner;", true)
  | _ => ("ParkingEnforcement", "patrols", "LParkingEnforcement$PatrolPlanner;", true)
def tyX8 : Nat → FieldType := fun k => match k with
  | 0 => .object "ParkingEnforcement$TownReader"
  | 1 => .object "ParkingEnforcement$World"
  | 2 => .array (.object "ParkingEnforcement$World")
  | 3 => .array .boolean
  | 4 => .object "ParkingEnforcement$TourPlanner"
  | _ => .object "ParkingEnforcement$PatrolPlanner"
abbrev wsX80 : List Cond := u_ws RX8 TX8 6
theorem nmX8 : ∀ a, a < 6 → ∀ b, b < 6 → a ≠ b → (TX8 a).2.1 ≠ (TX8 b).2.1 := by decide +kernel
theorem tyX8_ok : ∀ k, k < 6 → parseFieldDescriptor (TX8 k).2.2.1 = some (tyX8 k) := by decide +kernel
abbrev cX8_init : ByteArray := prog_1_method_1_code
def yX8_init : MethodName := ⟨RX8, "<init>", "()V"⟩
abbrev cX8_appendByte : ByteArray := prog_1_method_2_code
def yX8_appendByte : MethodName := ⟨RX8, "appendByte", "(I)I"⟩
abbrev cX8_load : ByteArray := prog_1_method_3_code
def yX8_load : MethodName := ⟨RX8, "load", "()I"⟩
abbrev cX8_loadError : ByteArray := prog_1_method_4_code
def yX8_loadError : MethodName := ⟨RX8, "loadError", "()I"⟩
abbrev cX8_advance : ByteArray := prog_1_method_5_code
def yX8_advance : MethodName := ⟨RX8, "advance", "(I)I"⟩
abbrev cX8_park : ByteArray := prog_1_method_6_code
def yX8_park : MethodName := ⟨RX8, "park", "(II)I"⟩
abbrev cX8_pay : ByteArray := prog_1_method_7_code
def yX8_pay : MethodName := ⟨RX8, "pay", "(II)I"⟩
abbrev cX8_leave : ByteArray := prog_1_method_8_code
def yX8_leave : MethodName := ⟨RX8, "leave", "(I)I"⟩
abbrev cX8_inspect : ByteArray := prog_1_method_9_code
def yX8_inspect : MethodName := ⟨RX8, "inspect", "(I)I"⟩
abbrev cX8_payFines : ByteArray := prog_1_method_10_code
def yX8_payFines : MethodName := ⟨RX8, "payFines", "(II)I"⟩
abbrev cX8_towNext : ByteArray := prog_1_method_11_code
def yX8_towNext : MethodName := ⟨RX8, "towNext", "()I"⟩
abbrev cX8_setRate : ByteArray := prog_1_method_12_code
def yX8_setRate : MethodName := ⟨RX8, "setRate", "(III)I"⟩
abbrev cX8_saveSnapshot : ByteArray := prog_1_method_13_code
def yX8_saveSnapshot : MethodName := ⟨RX8, "saveSnapshot", "(I)I"⟩
abbrev cX8_restoreSnapshot : ByteArray := prog_1_method_14_code
def yX8_restoreSnapshot : MethodName := ⟨RX8, "restoreSnapshot", "(I)I"⟩
abbrev cX8_now : ByteArray := prog_1_method_15_code
def yX8_now : MethodName := ⟨RX8, "now", "()I"⟩
abbrev cX8_placeCount : ByteArray := prog_1_method_16_code
def yX8_placeCount : MethodName := ⟨RX8, "placeCount", "()I"⟩
abbrev cX8_distance : ByteArray := prog_1_method_17_code
def yX8_distance : MethodName := ⟨RX8, "distance", "(II)I"⟩
abbrev cX8_nextOnWay : ByteArray := prog_1_method_18_code
def yX8_nextOnWay : MethodName := ⟨RX8, "nextOnWay", "(II)I"⟩
abbrev cX8_zone : ByteArray := prog_1_method_19_code
def yX8_zone : MethodName := ⟨RX8, "zone", "(I)I"⟩
abbrev cX8_rate : ByteArray := prog_1_method_20_code
def yX8_rate : MethodName := ⟨RX8, "rate", "(II)I"⟩
abbrev cX8_longestStay : ByteArray := prog_1_method_21_code
def yX8_longestStay : MethodName := ⟨RX8, "longestStay", "(I)I"⟩
abbrev cX8_freeSpaces : ByteArray := prog_1_method_22_code
def yX8_freeSpaces : MethodName := ⟨RX8, "freeSpaces", "(I)I"⟩
abbrev cX8_carsAt : ByteArray := prog_1_method_23_code
def yX8_carsAt : MethodName := ⟨RX8, "carsAt", "(I)I"⟩
abbrev cX8_poundFree : ByteArray := prog_1_method_24_code
def yX8_poundFree : MethodName := ⟨RX8, "poundFree", "(I)I"⟩
abbrev cX8_truck : ByteArray := prog_1_method_25_code
def yX8_truck : MethodName := ⟨RX8, "truck", "()I"⟩
abbrev cX8_state : ByteArray := prog_1_method_26_code
def yX8_state : MethodName := ⟨RX8, "state", "(I)I"⟩
abbrev cX8_placeOf : ByteArray := prog_1_method_27_code
def yX8_placeOf : MethodName := ⟨RX8, "placeOf", "(I)I"⟩
abbrev cX8_paidUntil : ByteArray := prog_1_method_28_code
def yX8_paidUntil : MethodName := ⟨RX8, "paidUntil", "(I)I"⟩
abbrev cX8_overtime : ByteArray := prog_1_method_29_code
def yX8_overtime : MethodName := ⟨RX8, "overtime", "(I)I"⟩
abbrev cX8_ticketCount : ByteArray := prog_1_method_30_code
def yX8_ticketCount : MethodName := ⟨RX8, "ticketCount", "(I)I"⟩
abbrev cX8_ticketAmount : ByteArray := prog_1_method_31_code
def yX8_ticketAmount : MethodName := ⟨RX8, "ticketAmount", "(II)I"⟩
abbrev cX8_ticketMinute : ByteArray := prog_1_method_32_code
def yX8_ticketMinute : MethodName := ⟨RX8, "ticketMinute", "(II)I"⟩
abbrev cX8_ofTicket : ByteArray := prog_1_method_33_code
def yX8_ofTicket : MethodName := ⟨RX8, "ofTicket", "([III)I"⟩
abbrev cX8_isTicketPaid : ByteArray := prog_1_method_34_code
def yX8_isTicketPaid : MethodName := ⟨RX8, "isTicketPaid", "(II)Z"⟩
abbrev cX8_due : ByteArray := prog_1_method_35_code
def yX8_due : MethodName := ⟨RX8, "due", "(I)I"⟩
abbrev cX8_credit : ByteArray := prog_1_method_36_code
def yX8_credit : MethodName := ⟨RX8, "credit", "(I)I"⟩
abbrev cX8_fees : ByteArray := prog_1_method_37_code
def yX8_fees : MethodName := ⟨RX8, "fees", "(I)I"⟩
abbrev cX8_clampedSince : ByteArray := prog_1_method_38_code
def yX8_clampedSince : MethodName := ⟨RX8, "clampedSince", "(I)I"⟩
abbrev cX8_towable : ByteArray := prog_1_method_39_code
def yX8_towable : MethodName := ⟨RX8, "towable", "()I"⟩
abbrev cX8_logCount : ByteArray := prog_1_method_40_code
def yX8_logCount : MethodName := ⟨RX8, "logCount", "()I"⟩
abbrev cX8_logMinute : ByteArray := prog_1_method_41_code
def yX8_logMinute : MethodName := ⟨RX8, "logMinute", "(I)I"⟩
abbrev cX8_logKind : ByteArray := prog_1_method_42_code
def yX8_logKind : MethodName := ⟨RX8, "logKind", "(I)I"⟩
abbrev cX8_logCar : ByteArray := prog_1_method_43_code
def yX8_logCar : MethodName := ⟨RX8, "logCar", "(I)I"⟩
abbrev cX8_logAmount : ByteArray := prog_1_method_44_code
def yX8_logAmount : MethodName := ⟨RX8, "logAmount", "(I)I"⟩
abbrev cX8_logged : ByteArray := prog_1_method_45_code
def yX8_logged : MethodName := ⟨RX8, "logged", "([II)I"⟩
abbrev cX8_daySum : ByteArray := prog_1_method_46_code
def yX8_daySum : MethodName := ⟨RX8, "daySum", "(II)I"⟩
abbrev cX8_owedInAll : ByteArray := prog_1_method_47_code
def yX8_owedInAll : MethodName := ⟨RX8, "owedInAll", "()I"⟩
abbrev cX8_price : ByteArray := prog_1_method_48_code
def yX8_price : MethodName := ⟨RX8, "price", "(III)I"⟩
abbrev cX8_cheapestStart : ByteArray := prog_1_method_49_code
def yX8_cheapestStart : MethodName := ⟨RX8, "cheapestStart", "(II)I"⟩
abbrev cX8_minutesFor : ByteArray := prog_1_method_50_code
def yX8_minutesFor : MethodName := ⟨RX8, "minutesFor", "(II)I"⟩
abbrev cX8_ticketNow : ByteArray := prog_1_method_51_code
def yX8_ticketNow : MethodName := ⟨RX8, "ticketNow", "(I)I"⟩
abbrev cX8_ticketsAfter : ByteArray := prog_1_method_52_code
def yX8_ticketsAfter : MethodName := ⟨RX8, "ticketsAfter", "(II)I"⟩
abbrev cX8_bestInspection : ByteArray := prog_1_method_53_code
def yX8_bestInspection : MethodName := ⟨RX8, "bestInspection", "(II)I"⟩
abbrev cX8_revenue : ByteArray := prog_1_method_54_code
def yX8_revenue : MethodName := ⟨RX8, "revenue", "(II)I"⟩
abbrev cX8_paidSoon : ByteArray := prog_1_method_55_code
def yX8_paidSoon : MethodName := ⟨RX8, "paidSoon", "(II)I"⟩
abbrev cX8_busiestPlace : ByteArray := prog_1_method_56_code
def yX8_busiestPlace : MethodName := ⟨RX8, "busiestPlace", "(I)I"⟩
abbrev cX8_tourLength : ByteArray := prog_1_method_57_code
def yX8_tourLength : MethodName := ⟨RX8, "tourLength", "()I"⟩
abbrev cX8_tourMinutes : ByteArray := prog_1_method_58_code
def yX8_tourMinutes : MethodName := ⟨RX8, "tourMinutes", "()I"⟩
abbrev cX8_tourCar : ByteArray := prog_1_method_59_code
def yX8_tourCar : MethodName := ⟨RX8, "tourCar", "(I)I"⟩
abbrev cX8_tourPound : ByteArray := prog_1_method_60_code
def yX8_tourPound : MethodName := ⟨RX8, "tourPound", "(I)I"⟩
abbrev cX8_ofTrip : ByteArray := prog_1_method_61_code
def yX8_ofTrip : MethodName := ⟨RX8, "ofTrip", "([II)I"⟩
abbrev cX8_patrolValue : ByteArray := prog_1_method_62_code
def yX8_patrolValue : MethodName := ⟨RX8, "patrolValue", "(II)I"⟩
abbrev cX8_patrolSet : ByteArray := prog_1_method_63_code
def yX8_patrolSet : MethodName := ⟨RX8, "patrolSet", "(II)I"⟩
abbrev cX8_patrolMinutes : ByteArray := prog_1_method_64_code
def yX8_patrolMinutes : MethodName := ⟨RX8, "patrolMinutes", "(II)I"⟩
abbrev cX8_within : ByteArray := prog_1_method_65_code
def yX8_within : MethodName := ⟨RX8, "within", "(III)Z"⟩
abbrev cX8_at : ByteArray := prog_1_method_66_code
def yX8_at : MethodName := ⟨RX8, "at", "([II)I"⟩
abbrev cX8_put : ByteArray := prog_1_method_67_code
def yX8_put : MethodName := ⟨RX8, "put", "([III)V"⟩
abbrev cX8_copyRow : ByteArray := prog_1_method_68_code
def yX8_copyRow : MethodName := ⟨RX8, "copyRow", "([I[I)V"⟩
abbrev cX8_contains : ByteArray := prog_1_method_69_code
def yX8_contains : MethodName := ⟨RX8, "contains", "(II)Z"⟩
abbrev cX8_fullCents : ByteArray := prog_1_method_70_code
def yX8_fullCents : MethodName := ⟨RX8, "fullCents", "(I)I"⟩
abbrev cX8_hasDaySums : ByteArray := prog_1_method_71_code
def yX8_hasDaySums : MethodName := ⟨RX8, "hasDaySums", "(I)Z"⟩
def RX9 : String := "ParkingEnforcementModel"
def TX9 : u_T := fun k => match k with
  | 0 => ("ParkingEnforcementModel", "now", "[I", true)
  | 1 => ("ParkingEnforcementModel", "read", "[I", true)
  | 2 => ("ParkingEnforcementModel", "copies", "[I", true)
  | 3 => ("ParkingEnforcementModel", "isSaved", "[Z", true)
  | 4 => ("ParkingEnforcementModel", "thrown", "I", false)
  | 5 => ("ParkingEnforcementModel", "buffer", "[B", true)
  | 6 => ("ParkingEnforcementModel", "length", "I", false)
  | 7 => ("ParkingEnforcementModel", "at", "I", false)
  | 8 => ("ParkingEnforcementModel", "begin", "I", false)
  | 9 => ("ParkingEnforcementModel", "error", "I", false)
  | 10 => ("ParkingEnforcementModel", "errorAt", "I", false)
  | 11 => ("ParkingEnforcementModel", "lastError", "I", false)
  | 12 => ("ParkingEnforcementModel", "candidates", "[I", true)
  | 13 => ("ParkingEnforcementModel", "cars", "[I", true)
  | 14 => ("ParkingEnforcementModel", "pounds", "[I", true)
  | 15 => ("ParkingEnforcementModel", "bestCars", "[I", true)
  | 16 => ("ParkingEnforcementModel", "bestPounds", "[I", true)
  | 17 => ("ParkingEnforcementModel", "room", "[I", true)
  | 18 => ("ParkingEnforcementModel", "candidateMany", "I", false)
  | 19 => ("ParkingEnforcementModel", "bestMany", "I", false)
  | 20 => ("ParkingEnforcementModel", "bestLength", "I", false)
  | 21 => ("ParkingEnforcementModel", "foreseen", "I", false)
  | 22 => ("ParkingEnforcementModel", "shortest", "[I", true)
  | 23 => ("ParkingEnforcementModel", "values", "[I", true)
  | 24 => ("ParkingEnforcementModel", "bestSet", "I", false)
  | 25 => ("ParkingEnforcementModel", "bestValue", "I", false)
  | _ => ("ParkingEnforcementModel", "bestMinutes", "I", false)
def tyX9 : Nat → FieldType := fun k => match k with
  | 0 => .array .int
  | 1 => .array .int
  | 2 => .array .int
  | 3 => .array .boolean
  | 4 => .int
  | 5 => .array .byte
  | 6 => .int
  | 7 => .int
  | 8 => .int
  | 9 => .int
  | 10 => .int
  | 11 => .int
  | 12 => .array .int
  | 13 => .array .int
  | 14 => .array .int
  | 15 => .array .int
  | 16 => .array .int
  | 17 => .array .int
  | 18 => .int
  | 19 => .int
  | 20 => .int
  | 21 => .int
  | 22 => .array .int
  | 23 => .array .int
  | 24 => .int
  | 25 => .int
  | _ => .int
abbrev wsX90 : List Cond := u_ws RX9 TX9 27
theorem nmX9 : ∀ a, a < 27 → ∀ b, b < 27 → a ≠ b → (TX9 a).2.1 ≠ (TX9 b).2.1 := by decide +kernel
theorem tyX9_ok : ∀ k, k < 27 → parseFieldDescriptor (TX9 k).2.2.1 = some (tyX9 k) := by decide +kernel
abbrev cX9_init : ByteArray := prog_11_method_1_code
def yX9_init : MethodName := ⟨RX9, "<init>", "()V"⟩
abbrev cX9_thrown : ByteArray := prog_11_method_2_code
def yX9_thrown : MethodName := ⟨RX9, "thrown", "()I"⟩
abbrev cX9_in : ByteArray := prog_11_method_3_code
def yX9_in : MethodName := ⟨RX9, "in", "(III)Z"⟩
abbrev cX9_copies : ByteArray := prog_11_method_4_code
def yX9_copies : MethodName := ⟨RX9, "copies", "([II[II)V"⟩
abbrev cX9_begins : ByteArray := prog_11_method_5_code
def yX9_begins : MethodName := ⟨RX9, "begins", "([II)V"⟩
abbrev cX9_finds : ByteArray := prog_11_method_6_code
def yX9_finds : MethodName := ⟨RX9, "finds", "([I)V"⟩
abbrev cX9_isPlace : ByteArray := prog_11_method_7_code
def yX9_isPlace : MethodName := ⟨RX9, "isPlace", "(I)Z"⟩
abbrev cX9_isCar : ByteArray := prog_11_method_8_code
def yX9_isCar : MethodName := ⟨RX9, "isCar", "(I)Z"⟩
abbrev cX9_isZone : ByteArray := prog_11_method_9_code
def yX9_isZone : MethodName := ⟨RX9, "isZone", "(I)Z"⟩
abbrev cX9_way : ByteArray := prog_11_method_10_code
def yX9_way : MethodName := ⟨RX9, "way", "(II)I"⟩
abbrev cX9_of : ByteArray := prog_11_method_11_code
def yX9_of : MethodName := ⟨RX9, "of", "(II)I"⟩
abbrev cX9_set : ByteArray := prog_11_method_12_code
def yX9_set : MethodName := ⟨RX9, "set", "(III)V"⟩
abbrev cX9_appendByte : ByteArray := prog_11_method_13_code
def yX9_appendByte : MethodName := ⟨RX9, "appendByte", "(I)I"⟩
abbrev cX9_here : ByteArray := prog_11_method_14_code
def yX9_here : MethodName := ⟨RX9, "here", "()I"⟩
abbrev cX9_next : ByteArray := prog_11_method_15_code
def yX9_next : MethodName := ⟨RX9, "next", "()I"⟩
abbrev cX9_fails : ByteArray := prog_11_method_16_code
def yX9_fails : MethodName := ⟨RX9, "fails", "(II)V"⟩
abbrev cX9_reads : ByteArray := prog_11_method_17_code
def yX9_reads : MethodName := ⟨RX9, "reads", "()V"⟩
abbrev cX9_isWord : ByteArray := prog_11_method_18_code
def yX9_isWord : MethodName := ⟨RX9, "isWord", "(Ljava/lang/String;)Z"⟩
abbrev cX9_number : ByteArray := prog_11_method_19_code
def yX9_number : MethodName := ⟨RX9, "number", "(II)I"⟩
abbrev cX9_place : ByteArray := prog_11_method_20_code
def yX9_place : MethodName := ⟨RX9, "place", "()I"⟩
abbrev cX9_road : ByteArray := prog_11_method_21_code
def yX9_road : MethodName := ⟨RX9, "road", "()V"⟩
abbrev cX9_rate : ByteArray := prog_11_method_22_code
def yX9_rate : MethodName := ⟨RX9, "rate", "()V"⟩
abbrev cX9_pound : ByteArray := prog_11_method_23_code
def yX9_pound : MethodName := ⟨RX9, "pound", "()V"⟩
abbrev cX9_row : ByteArray := prog_11_method_24_code
def yX9_row : MethodName := ⟨RX9, "row", "(IIII)V"⟩
abbrev cX9_statement : ByteArray := prog_11_method_25_code
def yX9_statement : MethodName := ⟨RX9, "statement", "()V"⟩
abbrev cX9_isMore : ByteArray := prog_11_method_26_code
def yX9_isMore : MethodName := ⟨RX9, "isMore", "()Z"⟩
abbrev cX9_load : ByteArray := prog_11_method_27_code
def yX9_load : MethodName := ⟨RX9, "load", "()I"⟩
abbrev cX9_loadError : ByteArray := prog_11_method_28_code
def yX9_loadError : MethodName := ⟨RX9, "loadError", "()I"⟩
abbrev cX9_isFull : ByteArray := prog_11_method_29_code
def yX9_isFull : MethodName := ⟨RX9, "isFull", "()Z"⟩
abbrev cX9_entry : ByteArray := prog_11_method_30_code
def yX9_entry : MethodName := ⟨RX9, "entry", "(II)I"⟩
abbrev cX9_logs : ByteArray := prog_11_method_31_code
def yX9_logs : MethodName := ⟨RX9, "logs", "(III)V"⟩
abbrev cX9_ticket : ByteArray := prog_11_method_32_code
def yX9_ticket : MethodName := ⟨RX9, "ticket", "(II)I"⟩
abbrev cX9_tickets : ByteArray := prog_11_method_33_code
def yX9_tickets : MethodName := ⟨RX9, "tickets", "(I)I"⟩
abbrev cX9_oldest : ByteArray := prog_11_method_34_code
def yX9_oldest : MethodName := ⟨RX9, "oldest", "(I)I"⟩
abbrev cX9_unpaid : ByteArray := prog_11_method_35_code
def yX9_unpaid : MethodName := ⟨RX9, "unpaid", "(I)I"⟩
abbrev cX9_owes : ByteArray := prog_11_method_36_code
def yX9_owes : MethodName := ⟨RX9, "owes", "(I)I"⟩
abbrev cX9_advance : ByteArray := prog_11_method_37_code
def yX9_advance : MethodName := ⟨RX9, "advance", "(I)I"⟩
abbrev cX9_cents : ByteArray := prog_11_method_38_code
def yX9_cents : MethodName := ⟨RX9, "cents", "(II)I"⟩
abbrev cX9_free : ByteArray := prog_11_method_39_code
def yX9_free : MethodName := ⟨RX9, "free", "(I)I"⟩
abbrev cX9_isAt : ByteArray := prog_11_method_40_code
def yX9_isAt : MethodName := ⟨RX9, "isAt", "(II)Z"⟩
abbrev cX9_park : ByteArray := prog_11_method_41_code
def yX9_park : MethodName := ⟨RX9, "park", "(II)I"⟩
abbrev cX9_bought : ByteArray := prog_11_method_42_code
def yX9_bought : MethodName := ⟨RX9, "bought", "(III)I"⟩
abbrev cX9_pay : ByteArray := prog_11_method_43_code
def yX9_pay : MethodName := ⟨RX9, "pay", "(II)I"⟩
abbrev cX9_over : ByteArray := prog_11_method_44_code
def yX9_over : MethodName := ⟨RX9, "over", "(I)I"⟩
abbrev cX9_leave : ByteArray := prog_11_method_45_code
def yX9_leave : MethodName := ⟨RX9, "leave", "(I)I"⟩
abbrev cX9_fine : ByteArray := prog_11_method_46_code
def yX9_fine : MethodName := ⟨RX9, "fine", "(I)I"⟩
abbrev cX9_inspect : ByteArray := prog_11_method_47_code
def yX9_inspect : MethodName := ⟨RX9, "inspect", "(I)I"⟩
abbrev cX9_paysTickets : ByteArray := prog_11_method_48_code
def yX9_paysTickets : MethodName := ⟨RX9, "paysTickets", "(I)V"⟩
abbrev cX9_releases : ByteArray := prog_11_method_49_code
def yX9_releases : MethodName := ⟨RX9, "releases", "(I)V"⟩
abbrev cX9_payFines : ByteArray := prog_11_method_50_code
def yX9_payFines : MethodName := ⟨RX9, "payFines", "(II)I"⟩
abbrev cX9_isTowable : ByteArray := prog_11_method_51_code
def yX9_isTowable : MethodName := ⟨RX9, "isTowable", "(I)Z"⟩
abbrev cX9_ahead : ByteArray := prog_11_method_52_code
def yX9_ahead : MethodName := ⟨RX9, "ahead", "(I)I"⟩
abbrev cX9_roomOf : ByteArray := prog_11_method_53_code
def yX9_roomOf : MethodName := ⟨RX9, "roomOf", "(I)I"⟩
abbrev cX9_tours : ByteArray := prog_11_method_54_code
def yX9_tours : MethodName := ⟨RX9, "tours", "()V"⟩
abbrev cX9_trips : ByteArray := prog_11_method_55_code
def yX9_trips : MethodName := ⟨RX9, "trips", "(IIII)V"⟩
abbrev cX9_towNext : ByteArray := prog_11_method_56_code
def yX9_towNext : MethodName := ⟨RX9, "towNext", "()I"⟩
abbrev cX9_setRate : ByteArray := prog_11_method_57_code
def yX9_setRate : MethodName := ⟨RX9, "setRate", "(III)I"⟩
abbrev cX9_saveSnapshot : ByteArray := prog_11_method_58_code
def yX9_saveSnapshot : MethodName := ⟨RX9, "saveSnapshot", "(I)I"⟩
abbrev cX9_restoreSnapshot : ByteArray := prog_11_method_59_code
def yX9_restoreSnapshot : MethodName := ⟨RX9, "restoreSnapshot", "(I)I"⟩
abbrev cX9_now : ByteArray := prog_11_method_60_code
def yX9_now : MethodName := ⟨RX9, "now", "()I"⟩
abbrev cX9_placeCount : ByteArray := prog_11_method_61_code
def yX9_placeCount : MethodName := ⟨RX9, "placeCount", "()I"⟩
abbrev cX9_distance : ByteArray := prog_11_method_62_code
def yX9_distance : MethodName := ⟨RX9, "distance", "(II)I"⟩
abbrev cX9_nextOnWay : ByteArray := prog_11_method_63_code
def yX9_nextOnWay : MethodName := ⟨RX9, "nextOnWay", "(II)I"⟩
abbrev cX9_zone : ByteArray := prog_11_method_64_code
def yX9_zone : MethodName := ⟨RX9, "zone", "(I)I"⟩
abbrev cX9_rate_ : ByteArray := prog_11_method_65_code
def yX9_rate_ : MethodName := ⟨RX9, "rate", "(II)I"⟩
abbrev cX9_longestStay : ByteArray := prog_11_method_66_code
def yX9_longestStay : MethodName := ⟨RX9, "longestStay", "(I)I"⟩
abbrev cX9_freeSpaces : ByteArray := prog_11_method_67_code
def yX9_freeSpaces : MethodName := ⟨RX9, "freeSpaces", "(I)I"⟩
abbrev cX9_carsAt : ByteArray := prog_11_method_68_code
def yX9_carsAt : MethodName := ⟨RX9, "carsAt", "(I)I"⟩
abbrev cX9_poundFree : ByteArray := prog_11_method_69_code
def yX9_poundFree : MethodName := ⟨RX9, "poundFree", "(I)I"⟩
abbrev cX9_truck : ByteArray := prog_11_method_70_code
def yX9_truck : MethodName := ⟨RX9, "truck", "()I"⟩
abbrev cX9_state : ByteArray := prog_11_method_71_code
def yX9_state : MethodName := ⟨RX9, "state", "(I)I"⟩
abbrev cX9_asks : ByteArray := prog_11_method_72_code
def yX9_asks : MethodName := ⟨RX9, "asks", "(IIII)I"⟩
abbrev cX9_placeOf : ByteArray := prog_11_method_73_code
def yX9_placeOf : MethodName := ⟨RX9, "placeOf", "(I)I"⟩
abbrev cX9_paidUntil : ByteArray := prog_11_method_74_code
def yX9_paidUntil : MethodName := ⟨RX9, "paidUntil", "(I)I"⟩
abbrev cX9_overtime : ByteArray := prog_11_method_75_code
def yX9_overtime : MethodName := ⟨RX9, "overtime", "(I)I"⟩
abbrev cX9_clampedSince : ByteArray := prog_11_method_76_code
def yX9_clampedSince : MethodName := ⟨RX9, "clampedSince", "(I)I"⟩
abbrev cX9_ticketCount : ByteArray := prog_11_method_77_code
def yX9_ticketCount : MethodName := ⟨RX9, "ticketCount", "(I)I"⟩
abbrev cX9_ofTicket : ByteArray := prog_11_method_78_code
def yX9_ofTicket : MethodName := ⟨RX9, "ofTicket", "(III)I"⟩
abbrev cX9_ticketAmount : ByteArray := prog_11_method_79_code
def yX9_ticketAmount : MethodName := ⟨RX9, "ticketAmount", "(II)I"⟩
abbrev cX9_ticketMinute : ByteArray := prog_11_method_80_code
def yX9_ticketMinute : MethodName := ⟨RX9, "ticketMinute", "(II)I"⟩
abbrev cX9_isTicketPaid : ByteArray := prog_11_method_81_code
def yX9_isTicketPaid : MethodName := ⟨RX9, "isTicketPaid", "(II)Z"⟩
abbrev cX9_due : ByteArray := prog_11_method_82_code
def yX9_due : MethodName := ⟨RX9, "due", "(I)I"⟩
abbrev cX9_credit : ByteArray := prog_11_method_83_code
def yX9_credit : MethodName := ⟨RX9, "credit", "(I)I"⟩
abbrev cX9_fees : ByteArray := prog_11_method_84_code
def yX9_fees : MethodName := ⟨RX9, "fees", "(I)I"⟩
abbrev cX9_towable : ByteArray := prog_11_method_85_code
def yX9_towable : MethodName := ⟨RX9, "towable", "()I"⟩
abbrev cX9_ticketNow : ByteArray := prog_11_method_86_code
def yX9_ticketNow : MethodName := ⟨RX9, "ticketNow", "(I)I"⟩
abbrev cX9_logCount : ByteArray := prog_11_method_87_code
def yX9_logCount : MethodName := ⟨RX9, "logCount", "()I"⟩
abbrev cX9_ofLog : ByteArray := prog_11_method_88_code
def yX9_ofLog : MethodName := ⟨RX9, "ofLog", "(II)I"⟩
abbrev cX9_logMinute : ByteArray := prog_11_method_89_code
def yX9_logMinute : MethodName := ⟨RX9, "logMinute", "(I)I"⟩
abbrev cX9_logKind : ByteArray := prog_11_method_90_code
def yX9_logKind : MethodName := ⟨RX9, "logKind", "(I)I"⟩
abbrev cX9_logCar : ByteArray := prog_11_method_91_code
def yX9_logCar : MethodName := ⟨RX9, "logCar", "(I)I"⟩
abbrev cX9_logAmount : ByteArray := prog_11_method_92_code
def yX9_logAmount : MethodName := ⟨RX9, "logAmount", "(I)I"⟩
abbrev cX9_daySum : ByteArray := prog_11_method_93_code
def yX9_daySum : MethodName := ⟨RX9, "daySum", "(II)I"⟩
abbrev cX9_owedInAll : ByteArray := prog_11_method_94_code
def yX9_owedInAll : MethodName := ⟨RX9, "owedInAll", "()I"⟩
abbrev cX9_priceOf : ByteArray := prog_11_method_95_code
def yX9_priceOf : MethodName := ⟨RX9, "priceOf", "(III)I"⟩
abbrev cX9_price : ByteArray := prog_11_method_96_code
def yX9_price : MethodName := ⟨RX9, "price", "(III)I"⟩
abbrev cX9_cheapestStart : ByteArray := prog_11_method_97_code
def yX9_cheapestStart : MethodName := ⟨RX9, "cheapestStart", "(II)I"⟩
abbrev cX9_minutesFor : ByteArray := prog_11_method_98_code
def yX9_minutesFor : MethodName := ⟨RX9, "minutesFor", "(II)I"⟩
abbrev cX9_finesAfter : ByteArray := prog_11_method_99_code
def yX9_finesAfter : MethodName := ⟨RX9, "finesAfter", "(II)I"⟩
abbrev cX9_ticketsAfter : ByteArray := prog_11_method_100_code
def yX9_ticketsAfter : MethodName := ⟨RX9, "ticketsAfter", "(II)I"⟩
abbrev cX9_bestInspection : ByteArray := prog_11_method_101_code
def yX9_bestInspection : MethodName := ⟨RX9, "bestInspection", "(II)I"⟩
abbrev cX9_placeAt : ByteArray := prog_11_method_102_code
def yX9_placeAt : MethodName := ⟨RX9, "placeAt", "(I)I"⟩
abbrev cX9_revenue : ByteArray := prog_11_method_103_code
def yX9_revenue : MethodName := ⟨RX9, "revenue", "(II)I"⟩
abbrev cX9_paidSoon : ByteArray := prog_11_method_104_code
def yX9_paidSoon : MethodName := ⟨RX9, "paidSoon", "(II)I"⟩
abbrev cX9_busiestPlace : ByteArray := prog_11_method_105_code
def yX9_busiestPlace : MethodName := ⟨RX9, "busiestPlace", "(I)I"⟩
abbrev cX9_tourLength : ByteArray := prog_11_method_106_code
def yX9_tourLength : MethodName := ⟨RX9, "tourLength", "()I"⟩
abbrev cX9_tourMinutes : ByteArray := prog_11_method_107_code
def yX9_tourMinutes : MethodName := ⟨RX9, "tourMinutes", "()I"⟩
abbrev cX9_ofTour : ByteArray := prog_11_method_108_code
def yX9_ofTour : MethodName := ⟨RX9, "ofTour", "(I[I)I"⟩
abbrev cX9_tourCar : ByteArray := prog_11_method_109_code
def yX9_tourCar : MethodName := ⟨RX9, "tourCar", "(I)I"⟩
abbrev cX9_tourPound : ByteArray := prog_11_method_110_code
def yX9_tourPound : MethodName := ⟨RX9, "tourPound", "(I)I"⟩
abbrev cX9_valueOf : ByteArray := prog_11_method_111_code
def yX9_valueOf : MethodName := ⟨RX9, "valueOf", "(I)I"⟩
abbrev cX9_ends : ByteArray := prog_11_method_112_code
def yX9_ends : MethodName := ⟨RX9, "ends", "(III)I"⟩
abbrev cX9_patrols : ByteArray := prog_11_method_113_code
def yX9_patrols : MethodName := ⟨RX9, "patrols", "(II)Z"⟩
abbrev cX9_patrolValue : ByteArray := prog_11_method_114_code
def yX9_patrolValue : MethodName := ⟨RX9, "patrolValue", "(II)I"⟩
abbrev cX9_patrolSet : ByteArray := prog_11_method_115_code
def yX9_patrolSet : MethodName := ⟨RX9, "patrolSet", "(II)I"⟩
abbrev cX9_patrolMinutes : ByteArray := prog_11_method_116_code
def yX9_patrolMinutes : MethodName := ⟨RX9, "patrolMinutes", "(II)I"⟩
def RJ6 : String := "java/lang/Integer"
abbrev cJ6_bitCount_0f7a4 : ByteArray := prog_18_method_49_code
def yJ6_bitCount_0f7a4 : MethodName := ⟨RJ6, "bitCount", "(I)I"⟩
def RJ9 : String := "java/lang/Math"
abbrev cJ9_max_7cf53 : ByteArray := prog_19_method_65_code
def yJ9_max_7cf53 : MethodName := ⟨RJ9, "max", "(II)I"⟩
abbrev cJ9_min_7cf53 : ByteArray := prog_19_method_69_code
def yJ9_min_7cf53 : MethodName := ⟨RJ9, "min", "(II)I"⟩
def RJ0 : String := "java/lang/String"
abbrev cJ0_length_8abf5 : ByteArray := prog_21_method_54_code
def yJ0_length_8abf5 : MethodName := ⟨RJ0, "length", "()I"⟩
abbrev cJ0_charAt_5068e : ByteArray := prog_21_method_56_code
def yJ0_charAt_5068e : MethodName := ⟨RJ0, "charAt", "(I)C"⟩
abbrev cJ0_coder_7d493 : ByteArray := prog_21_method_152_code
def yJ0_coder_7d493 : MethodName := ⟨RJ0, "coder", "()B"⟩
abbrev cJ0_isLatin1_aae02 : ByteArray := prog_21_method_154_code
def yJ0_isLatin1_aae02 : MethodName := ⟨RJ0, "isLatin1", "()Z"⟩
abbrev cJ0_checkIndex_df160 : ByteArray := prog_21_method_155_code
def yJ0_checkIndex_df160 : MethodName := ⟨RJ0, "checkIndex", "(II)V"⟩
def RJ1 : String := "java/lang/StringLatin1"
abbrev cJ1_charAt_3b067 : ByteArray := prog_22_method_2_code
def yJ1_charAt_3b067 : MethodName := ⟨RJ1, "charAt", "([BI)C"⟩
def RJ2 : String := "java/lang/StringUTF16"
abbrev cJ2_getChar_3b067 : ByteArray := prog_23_method_5_code
def yJ2_getChar_3b067 : MethodName := ⟨RJ2, "getChar", "([BI)C"⟩
abbrev cJ2_length_9d52b : ByteArray := prog_23_method_6_code
def yJ2_length_9d52b : MethodName := ⟨RJ2, "length", "([B)I"⟩
abbrev cJ2_charAt_3b067 : ByteArray := prog_23_method_83_code
def yJ2_charAt_3b067 : MethodName := ⟨RJ2, "charAt", "([BI)C"⟩
abbrev cJ2_checkIndex_2214a : ByteArray := prog_23_method_91_code
def yJ2_checkIndex_2214a : MethodName := ⟨RJ2, "checkIndex", "(I[B)V"⟩
def RJ10 : String := "java/lang/System"
def RJ7 : String := "java/util/Arrays"
abbrev cJ7_fill_53178 : ByteArray := prog_28_method_103_code
def yJ7_fill_53178 : MethodName := ⟨RJ7, "fill", "([II)V"⟩
def RJ3 : String := "jdk/internal/util/Preconditions"
abbrev cJ3_checkIndex_8e157 : ByteArray := prog_30_method_11_code
def yJ3_checkIndex_8e157 : MethodName := ⟨RJ3, "checkIndex", "(IILjava/util/function/BiFunction;)I"⟩
def RL : String := "ParkingEnforcementLaw"
abbrev cL_advance : ByteArray := method_3_code
def yL_advance : MethodName := ⟨RL, "advance", "(LParkingEnforcement;I[J)I"⟩
abbrev cL_ticketAmount : ByteArray := method_4_code
def yL_ticketAmount : MethodName := ⟨RL, "ticketAmount", "(LParkingEnforcement;II[J)I"⟩
abbrev cL_ticketMinute : ByteArray := method_5_code
def yL_ticketMinute : MethodName := ⟨RL, "ticketMinute", "(LParkingEnforcement;II[J)I"⟩
abbrev cL_logMinute : ByteArray := method_6_code
def yL_logMinute : MethodName := ⟨RL, "logMinute", "(LParkingEnforcement;I[J)I"⟩
abbrev cL_logKind : ByteArray := method_7_code
def yL_logKind : MethodName := ⟨RL, "logKind", "(LParkingEnforcement;I[J)I"⟩
abbrev cL_logCar : ByteArray := method_8_code
def yL_logCar : MethodName := ⟨RL, "logCar", "(LParkingEnforcement;I[J)I"⟩
abbrev cL_logAmount : ByteArray := method_9_code
def yL_logAmount : MethodName := ⟨RL, "logAmount", "(LParkingEnforcement;I[J)I"⟩
abbrev cL_tourCar : ByteArray := method_10_code
def yL_tourCar : MethodName := ⟨RL, "tourCar", "(LParkingEnforcement;I[J)I"⟩
abbrev cL_tourPound : ByteArray := method_11_code
def yL_tourPound : MethodName := ⟨RL, "tourPound", "(LParkingEnforcement;I[J)I"⟩
abbrev cL_law : ByteArray := code
def yL_law : MethodName := ⟨RL, "law", "([I)Z"⟩
abbrev vwCl : List vw_C := [(RX0, TX0, 11), (RX1, TX1, 7), (RX2, TX2, 6), (RX3, TX3, 12), (RX4, TX4, 9), (RX5, TX5, 8), (RX6, TX6, 5), (RX7, TX7, 2), (RX8, TX8, 6), (RX9, TX9, 27)]
end
section
/-! The methods of the claim, as rows (operation, its place or target, a number, a class or how many arguments, the pool entry, the place of its word); by program out of the listing. -/
-- 0 J0_coder_7d493
def bl_0_6 : List (Nat × Nat × Int × Nat × Nat × Nat) := (55, 2, 0, 0, 0, 0) :: []
def bl_0_5 : List (Nat × Nat × Int × Nat × Nat × Nat) := (0, 0, 1, 0, 0, 0) :: bl_0_6
def bl_0_0 : List (Nat × Nat × Int × Nat × Nat × Nat) := (72, 0, 0, 0, 38, 2220) :: (26, 5, 10, 0, 0, 0) :: (2, 0, 0, 0, 0, 0) :: (67, 0, 0, 0, 15, 8193) :: (32, 6, 4, 0, 0, 0) :: bl_0_5
-- 1 J0_isLatin1_aae02
def bl_1_8 : List (Nat × Nat × Int × Nat × Nat × Nat) := (55, 1, 0, 0, 0, 0) :: []
def bl_1_7 : List (Nat × Nat × Int × Nat × Nat × Nat) := (0, 0, 0, 0, 0, 0) :: bl_1_8
def bl_1_0 : List (Nat × Nat × Int × Nat × Nat × Nat) := (72, 0, 0, 0, 38, 2220) :: (26, 7, 14, 0, 0, 0) :: (2, 0, 0, 0, 0, 0) :: (67, 0, 0, 0, 15, 8193) :: (27, 7, 7, 0, 0, 0) :: (0, 0, 1, 0, 0, 0) :: (32, 8, 4, 0, 0, 0) :: bl_1_7
-- 2 J3_checkIndex_8e157
def bl_2_10 : List (Nat × Nat × Int × Nat × Nat × Nat) := (1, 0, 0, 0, 0, 0) :: (55, 0, 0, 0, 0, 0) :: []
def bl_2_5 : List (Nat × Nat × Int × Nat × Nat × Nat) := (2, 2, 0, 0, 0, 0) :: (1, 0, 0, 0, 0, 0) :: (1, 1, 0, 0, 0, 0) :: (99, 0, 0, 0, 0, 0) :: (99, 0, 0, 0, 0, 0) :: bl_2_10
def bl_2_0 : List (Nat × Nat × Int × Nat × Nat × Nat) := (1, 0, 0, 0, 0, 0) :: (28, 5, 8, 0, 0, 0) :: (1, 0, 0, 0, 0, 0) :: (1, 1, 0, 0, 0, 0) :: (22, 10, 10, 0, 0, 0) :: bl_2_5
-- 3 J6_bitCount_0f7a4
def bl_3_0 : List (Nat × Nat × Int × Nat × Nat × Nat) := (1, 0, 0, 0, 0, 0) :: (1, 0, 0, 0, 0, 0) :: (0, 0, 1, 0, 0, 0) :: (16, 0, 0, 0, 0, 0) :: (0, 4, 1431655765, 0, 265, 3148) :: (11, 0, 0, 0, 0, 0) :: (7, 0, 0, 0, 0, 0) :: (3, 0, 0, 0, 0, 0) :: (1, 0, 0, 0, 0, 0) :: (0, 4, 858993459, 0, 266, 3149) :: (11, 0, 0, 0, 0, 0) :: (1, 0, 0, 0, 0, 0) :: (0, 0, 2, 0, 0, 0) :: (16, 0, 0, 0, 0, 0) :: (0, 4, 858993459, 0, 266, 3149) :: (11, 0, 0, 0, 0, 0) :: (6, 0, 0, 0, 0, 0) :: (3, 0, 0, 0, 0, 0) :: (1, 0, 0, 0, 0, 0) :: (1, 0, 0, 0, 0, 0) :: (0, 0, 4, 0, 0, 0) :: (16, 0, 0, 0, 0, 0) :: (6, 0, 0, 0, 0, 0) :: (0, 4, 252645135, 0, 267, 3150) :: (11, 0, 0, 0, 0, 0) :: (3, 0, 0, 0, 0, 0) :: (1, 0, 0, 0, 0, 0) :: (1, 0, 0, 0, 0, 0) :: (0, 1, 8, 0, 0, 0) :: (16, 0, 0, 0, 0, 0) :: (6, 0, 0, 0, 0, 0) :: (3, 0, 0, 0, 0, 0) :: (1, 0, 0, 0, 0, 0) :: (1, 0, 0, 0, 0, 0) :: (0, 1, 16, 0, 0, 0) :: (16, 0, 0, 0, 0, 0) :: (6, 0, 0, 0, 0, 0) :: (3, 0, 0, 0, 0, 0) :: (1, 0, 0, 0, 0, 0) :: (0, 1, 63, 0, 0, 0) :: (11, 0, 0, 0, 0, 0) :: (55, 0, 0, 0, 0, 0) :: []
-- 4 J7_fill_53178
def bl_4_14 : List (Nat × Nat × Int × Nat × Nat × Nat) := (57, 0, 0, 0, 0, 0) :: []
def bl_4_5 : List (Nat × Nat × Int × Nat × Nat × Nat) := (1, 2, 0, 0, 0, 0) :: (1, 3, 0, 0, 0, 0) :: (23, 14, 13, 0, 0, 0) :: (2, 0, 0, 0, 0, 0) :: (1, 2, 0, 0, 0, 0) :: (1, 1, 0, 0, 0, 0) :: (41, 0, 0, 0, 0, 0) :: (5, 2, 1, 0, 0, 0) :: (32, 5, (-12), 0, 0, 0) :: bl_4_14
def bl_4_0 : List (Nat × Nat × Int × Nat × Nat × Nat) := (0, 0, 0, 0, 0, 0) :: (3, 2, 0, 0, 0, 0) :: (2, 0, 0, 0, 0, 0) :: (48, 0, 0, 0, 0, 0) :: (3, 3, 0, 0, 0, 0) :: bl_4_5
-- 5 X0_canBeTowedAt
def bl_5_13 : List (Nat × Nat × Int × Nat × Nat × Nat) := (55, 1, 0, 0, 0, 0) :: []
def bl_5_12 : List (Nat × Nat × Int × Nat × Nat × Nat) := (0, 0, 0, 0, 0, 0) :: bl_5_13
def bl_5_0 : List (Nat × Nat × Int × Nat × Nat × Nat) := (2, 0, 0, 0, 0, 0) :: (36, 1, 0, 0, 15, 1222) :: (0, 0, 2, 0, 0, 0) :: (21, 12, 19, 0, 0, 0) :: (2, 0, 0, 0, 0, 0) :: (36, 4, 0, 0, 24, 1232) :: (1, 1, 0, 0, 0, 0) :: (0, 2, 180, 0, 0, 0) :: (7, 0, 0, 0, 0, 0) :: (24, 12, 7, 0, 0, 0) :: (0, 0, 1, 0, 0, 0) :: (32, 13, 4, 0, 0, 0) :: bl_5_12
-- 6 X0_clear
def bl_6_0 : List (Nat × Nat × Int × Nat × Nat × Nat) := (2, 0, 0, 0, 0, 0) :: (0, 0, 0, 0, 0, 0) :: (38, 1, 0, 0, 15, 1222) :: (2, 0, 0, 0, 0, 0) :: (0, 0, 0, 0, 0, 0) :: (38, 2, 0, 0, 18, 1225) :: (2, 0, 0, 0, 0, 0) :: (0, 0, 0, 0, 0, 0) :: (38, 3, 0, 0, 21, 1229) :: (2, 0, 0, 0, 0, 0) :: (0, 0, 0, 0, 0, 0) :: (38, 4, 0, 0, 24, 1232) :: (2, 0, 0, 0, 0, 0) :: (0, 0, 0, 0, 0, 0) :: (38, 5, 0, 0, 27, 1236) :: (2, 0, 0, 0, 0, 0) :: (0, 0, 0, 0, 0, 0) :: (38, 6, 0, 0, 30, 1239) :: (2, 0, 0, 0, 0, 0) :: (0, 0, 0, 0, 0, 0) :: (38, 7, 0, 0, 33, 2002) :: (2, 0, 0, 0, 0, 0) :: (0, 0, 0, 0, 0, 0) :: (38, 8, 0, 0, 36, 2004) :: (2, 0, 0, 0, 0, 0) :: (0, 0, 0, 0, 0, 0) :: (38, 9, 0, 0, 39, 2006) :: (2, 0, 0, 0, 0, 0) :: (0, 0, 0, 0, 0, 0) :: (38, 10, 0, 0, 42, 2009) :: (57, 0, 0, 0, 0, 0) :: []
-- 7 X0_copyFrom
def bl_7_0 : List (Nat × Nat × Int × Nat × Nat × Nat) := (2, 0, 0, 0, 0, 0) :: (2, 1, 0, 0, 0, 0) :: (36, 1, 0, 0, 15, 1222) :: (38, 1, 0, 0, 15, 1222) :: (2, 0, 0, 0, 0, 0) :: (2, 1, 0, 0, 0, 0) :: (36, 2, 0, 0, 18, 1225) :: (38, 2, 0, 0, 18, 1225) :: (2, 0, 0, 0, 0, 0) :: (2, 1, 0, 0, 0, 0) :: (36, 3, 0, 0, 21, 1229) :: (38, 3, 0, 0, 21, 1229) :: (2, 0, 0, 0, 0, 0) :: (2, 1, 0, 0, 0, 0) :: (36, 4, 0, 0, 24, 1232) :: (38, 4, 0, 0, 24, 1232) :: (2, 0, 0, 0, 0, 0) :: (2, 1, 0, 0, 0, 0) :: (36, 5, 0, 0, 27, 1236) :: (38, 5, 0, 0, 27, 1236) :: (2, 0, 0, 0, 0, 0) :: (2, 1, 0, 0, 0, 0) :: (36, 6, 0, 0, 30, 1239) :: (38, 6, 0, 0, 30, 1239) :: (2, 0, 0, 0, 0, 0) :: (2, 1, 0, 0, 0, 0) :: (36, 7, 0, 0, 33, 2002) :: (38, 7, 0, 0, 33, 2002) :: (2, 0, 0, 0, 0, 0) :: (2, 1, 0, 0, 0, 0) :: (36, 8, 0, 0, 36, 2004) :: (38, 8, 0, 0, 36, 2004) :: (2, 0, 0, 0, 0, 0) :: (2, 1, 0, 0, 0, 0) :: (36, 9, 0, 0, 39, 2006) :: (38, 9, 0, 0, 39, 2006) :: (2, 0, 0, 0, 0, 0) :: (2, 1, 0, 0, 0, 0) :: (36, 10, 0, 0, 42, 2009) :: (38, 10, 0, 0, 42, 2009) :: (57, 0, 0, 0, 0, 0) :: []
-- 8 X0_hadTicketShortlyBefore
def bl_8_12 : List (Nat × Nat × Int × Nat × Nat × Nat) := (55, 1, 0, 0, 0, 0) :: []
def bl_8_11 : List (Nat × Nat × Int × Nat × Nat × Nat) := (0, 0, 0, 0, 0, 0) :: bl_8_12
def bl_8_0 : List (Nat × Nat × Int × Nat × Nat × Nat) := (2, 0, 0, 0, 0, 0) :: (36, 5, 0, 0, 27, 1236) :: (31, 11, 18, 0, 0, 0) :: (2, 0, 0, 0, 0, 0) :: (36, 7, 0, 0, 33, 2002) :: (1, 1, 0, 0, 0, 0) :: (0, 1, 120, 0, 0, 0) :: (7, 0, 0, 0, 0, 0) :: (25, 11, 7, 0, 0, 0) :: (0, 0, 1, 0, 0, 0) :: (32, 12, 4, 0, 0, 0) :: bl_8_11
-- 9 X0_isAt
def bl_9_11 : List (Nat × Nat × Int × Nat × Nat × Nat) := (55, 1, 0, 0, 0, 0) :: []
def bl_9_10 : List (Nat × Nat × Int × Nat × Nat × Nat) := (0, 0, 0, 0, 0, 0) :: bl_9_11
def bl_9_0 : List (Nat × Nat × Int × Nat × Nat × Nat) := (2, 0, 0, 0, 0, 0) :: (36, 1, 0, 0, 15, 1222) :: (1, 2, 0, 0, 0, 0) :: (21, 10, 15, 0, 0, 0) :: (2, 0, 0, 0, 0, 0) :: (36, 2, 0, 0, 18, 1225) :: (1, 1, 0, 0, 0, 0) :: (21, 10, 7, 0, 0, 0) :: (0, 0, 1, 0, 0, 0) :: (32, 11, 4, 0, 0, 0) :: bl_9_10
-- 10 X0_unpaidTickets
def bl_10_0 : List (Nat × Nat × Int × Nat × Nat × Nat) := (2, 0, 0, 0, 0, 0) :: (36, 5, 0, 0, 27, 1236) :: (2, 0, 0, 0, 0, 0) :: (36, 6, 0, 0, 30, 1239) :: (7, 0, 0, 0, 0, 0) :: (55, 0, 0, 0, 0, 0) :: []
-- 11 X1_has
def bl_11_9 : List (Nat × Nat × Int × Nat × Nat × Nat) := (55, 1, 0, 0, 0, 0) :: []
def bl_11_8 : List (Nat × Nat × Int × Nat × Nat × Nat) := (0, 0, 0, 0, 0, 0) :: bl_11_9
def bl_11_0 : List (Nat × Nat × Int × Nat × Nat × Nat) := (1, 1, 0, 0, 0, 0) :: (28, 8, 15, 0, 0, 0) :: (1, 1, 0, 0, 0, 0) :: (2, 0, 0, 0, 0, 0) :: (36, 0, 0, 1, 30, 1184) :: (23, 8, 7, 0, 0, 0) :: (0, 0, 1, 0, 0, 0) :: (32, 9, 4, 0, 0, 0) :: bl_11_8
-- 12 X1_isFull
def bl_12_7 : List (Nat × Nat × Int × Nat × Nat × Nat) := (55, 1, 0, 0, 0, 0) :: []
def bl_12_6 : List (Nat × Nat × Int × Nat × Nat × Nat) := (0, 0, 0, 0, 0, 0) :: bl_12_7
def bl_12_0 : List (Nat × Nat × Int × Nat × Nat × Nat) := (2, 0, 0, 0, 0, 0) :: (36, 0, 0, 1, 30, 1184) :: (0, 2, 340, 0, 0, 0) :: (22, 6, 7, 0, 0, 0) :: (0, 0, 1, 0, 0, 0) :: (32, 7, 4, 0, 0, 0) :: bl_12_6
-- 13 X3_stateIndex
def bl_13_0 : List (Nat × Nat × Int × Nat × Nat × Nat) := (1, 0, 0, 0, 0, 0) :: (0, 1, 7, 0, 0, 0) :: (8, 0, 0, 0, 0, 0) :: (1, 1, 0, 0, 0, 0) :: (6, 0, 0, 0, 0, 0) :: (0, 0, 2, 0, 0, 0) :: (8, 0, 0, 0, 0, 0) :: (1, 2, 0, 0, 0, 0) :: (6, 0, 0, 0, 0, 0) :: (55, 0, 0, 0, 0, 0) :: []
-- 14 X3_tripIndex
def bl_14_0 : List (Nat × Nat × Int × Nat × Nat × Nat) := (1, 0, 0, 0, 0, 0) :: (0, 1, 6, 0, 0, 0) :: (8, 0, 0, 0, 0, 0) :: (1, 1, 0, 0, 0, 0) :: (6, 0, 0, 0, 0, 0) :: (0, 0, 2, 0, 0, 0) :: (8, 0, 0, 0, 0, 0) :: (1, 2, 0, 0, 0, 0) :: (6, 0, 0, 0, 0, 0) :: (55, 0, 0, 0, 0, 0) :: []
-- 15 X4_has
def bl_15_9 : List (Nat × Nat × Int × Nat × Nat × Nat) := (55, 1, 0, 0, 0, 0) :: []
def bl_15_8 : List (Nat × Nat × Int × Nat × Nat × Nat) := (0, 0, 0, 0, 0, 0) :: bl_15_9
def bl_15_0 : List (Nat × Nat × Int × Nat × Nat × Nat) := (1, 1, 0, 0, 0, 0) :: (28, 8, 15, 0, 0, 0) :: (1, 1, 0, 0, 0, 0) :: (2, 0, 0, 0, 0, 0) :: (36, 0, 0, 4, 37, 1100) :: (23, 8, 7, 0, 0, 0) :: (0, 0, 1, 0, 0, 0) :: (32, 9, 4, 0, 0, 0) :: bl_15_8
-- 16 X4_zoneOrNull
def bl_16_13 : List (Nat × Nat × Int × Nat × Nat × Nat) := (56, 0, 0, 0, 0, 0) :: []
def bl_16_12 : List (Nat × Nat × Int × Nat × Nat × Nat) := (68, 0, 0, 0, 0, 0) :: bl_16_13
def bl_16_0 : List (Nat × Nat × Int × Nat × Nat × Nat) := (1, 1, 0, 0, 0, 0) :: (28, 12, 21, 0, 0, 0) :: (1, 1, 0, 0, 0, 0) :: (2, 0, 0, 0, 0, 0) :: (37, 8, 0, 4, 29, 1120) :: (48, 0, 0, 0, 0, 0) :: (23, 12, 12, 0, 0, 0) :: (2, 0, 0, 0, 0, 0) :: (37, 8, 0, 4, 29, 1120) :: (1, 1, 0, 0, 0, 0) :: (46, 0, 0, 0, 0, 0) :: (32, 13, 4, 0, 0, 0) :: bl_16_12
-- 17 X5_fail
def bl_17_9 : List (Nat × Nat × Int × Nat × Nat × Nat) := (57, 0, 0, 0, 0, 0) :: []
def bl_17_0 : List (Nat × Nat × Int × Nat × Nat × Nat) := (2, 0, 0, 0, 0, 0) :: (36, 6, 0, 5, 36, 1148) :: (27, 9, 13, 0, 0, 0) :: (2, 0, 0, 0, 0, 0) :: (1, 1, 0, 0, 0, 0) :: (38, 6, 0, 5, 36, 1148) :: (2, 0, 0, 0, 0, 0) :: (1, 2, 0, 0, 0, 0) :: (38, 7, 0, 5, 39, 1150) :: bl_17_9
-- 18 X5_isBufferFull
def bl_18_7 : List (Nat × Nat × Int × Nat × Nat × Nat) := (55, 1, 0, 0, 0, 0) :: []
def bl_18_6 : List (Nat × Nat × Int × Nat × Nat × Nat) := (0, 0, 0, 0, 0, 0) :: bl_18_7
def bl_18_0 : List (Nat × Nat × Int × Nat × Nat × Nat) := (2, 0, 0, 0, 0, 0) :: (36, 2, 0, 5, 22, 1143) :: (0, 2, 600, 0, 0, 0) :: (22, 6, 7, 0, 0, 0) :: (0, 0, 1, 0, 0, 0) :: (32, 7, 4, 0, 0, 0) :: bl_18_6
-- 19 X5_isDigit
def bl_19_9 : List (Nat × Nat × Int × Nat × Nat × Nat) := (55, 1, 0, 0, 0, 0) :: []
def bl_19_8 : List (Nat × Nat × Int × Nat × Nat × Nat) := (0, 0, 0, 0, 0, 0) :: bl_19_9
def bl_19_0 : List (Nat × Nat × Int × Nat × Nat × Nat) := (1, 0, 0, 0, 0, 0) :: (0, 1, 48, 0, 0, 0) :: (22, 8, 13, 0, 0, 0) :: (1, 0, 0, 0, 0, 0) :: (0, 1, 57, 0, 0, 0) :: (24, 8, 7, 0, 0, 0) :: (0, 0, 1, 0, 0, 0) :: (32, 9, 4, 0, 0, 0) :: bl_19_8
-- 20 X5_nextByte
def bl_20_21 : List (Nat × Nat × Int × Nat × Nat × Nat) := (55, 0, 0, 0, 0, 0) :: []
def bl_20_20 : List (Nat × Nat × Int × Nat × Nat × Nat) := (0, 0, (-1), 0, 0, 0) :: bl_20_21
def bl_20_0 : List (Nat × Nat × Int × Nat × Nat × Nat) := (2, 0, 0, 0, 0, 0) :: (36, 3, 0, 5, 33, 1144) :: (28, 20, 38, 0, 0, 0) :: (2, 0, 0, 0, 0, 0) :: (36, 3, 0, 5, 33, 1144) :: (2, 0, 0, 0, 0, 0) :: (36, 2, 0, 5, 22, 1143) :: (23, 20, 27, 0, 0, 0) :: (2, 0, 0, 0, 0, 0) :: (36, 3, 0, 5, 33, 1144) :: (2, 0, 0, 0, 0, 0) :: (37, 1, 0, 5, 18, 1142) :: (48, 0, 0, 0, 0, 0) :: (23, 20, 15, 0, 0, 0) :: (2, 0, 0, 0, 0, 0) :: (37, 1, 0, 5, 18, 1142) :: (2, 0, 0, 0, 0, 0) :: (36, 3, 0, 5, 33, 1144) :: (40, 0, 0, 0, 0, 0) :: (32, 21, 4, 0, 0, 0) :: bl_20_20
-- 21 X5_spelling
def bl_21_14 : List (Nat × Nat × Int × Nat × Nat × Nat) := (65, 6, 0, 0, 166, 0) :: (56, 0, 0, 0, 0, 0) :: []
def bl_21_12 : List (Nat × Nat × Int × Nat × Nat × Nat) := (65, 5, 0, 0, 165, 0) :: (56, 0, 0, 0, 0, 0) :: bl_21_14
def bl_21_10 : List (Nat × Nat × Int × Nat × Nat × Nat) := (65, 4, 0, 0, 163, 0) :: (56, 0, 0, 0, 0, 0) :: bl_21_12
def bl_21_8 : List (Nat × Nat × Int × Nat × Nat × Nat) := (65, 3, 0, 0, 161, 0) :: (56, 0, 0, 0, 0, 0) :: bl_21_10
def bl_21_6 : List (Nat × Nat × Int × Nat × Nat × Nat) := (65, 2, 0, 0, 159, 0) :: (56, 0, 0, 0, 0, 0) :: bl_21_8
def bl_21_4 : List (Nat × Nat × Int × Nat × Nat × Nat) := (65, 1, 0, 0, 157, 0) :: (56, 0, 0, 0, 0, 0) :: bl_21_6
def bl_21_2 : List (Nat × Nat × Int × Nat × Nat × Nat) := (65, 0, 0, 0, 155, 0) :: (56, 0, 0, 0, 0, 0) :: bl_21_4
def bl_21_0 : List (Nat × Nat × Int × Nat × Nat × Nat) := (1, 0, 0, 0, 0, 0) :: (35, 0, 1, 14, 0, 0) :: bl_21_2
-- 22 X6_carOrNull
def bl_22_13 : List (Nat × Nat × Int × Nat × Nat × Nat) := (56, 0, 0, 0, 0, 0) :: []
def bl_22_12 : List (Nat × Nat × Int × Nat × Nat × Nat) := (68, 0, 0, 0, 0, 0) :: bl_22_13
def bl_22_0 : List (Nat × Nat × Int × Nat × Nat × Nat) := (1, 1, 0, 0, 0, 0) :: (28, 12, 21, 0, 0, 0) :: (1, 1, 0, 0, 0, 0) :: (2, 0, 0, 0, 0, 0) :: (37, 1, 0, 6, 20, 2039) :: (48, 0, 0, 0, 0, 0) :: (23, 12, 12, 0, 0, 0) :: (2, 0, 0, 0, 0, 0) :: (37, 1, 0, 6, 20, 2039) :: (1, 1, 0, 0, 0, 0) :: (46, 0, 0, 0, 0, 0) :: (32, 13, 4, 0, 0, 0) :: bl_22_12
-- 23 X8_at
def bl_23_11 : List (Nat × Nat × Int × Nat × Nat × Nat) := (55, 0, 0, 0, 0, 0) :: []
def bl_23_10 : List (Nat × Nat × Int × Nat × Nat × Nat) := (0, 0, 0, 0, 0, 0) :: bl_23_11
def bl_23_0 : List (Nat × Nat × Int × Nat × Nat × Nat) := (1, 1, 0, 0, 0, 0) :: (28, 10, 15, 0, 0, 0) :: (1, 1, 0, 0, 0, 0) :: (2, 0, 0, 0, 0, 0) :: (48, 0, 0, 0, 0, 0) :: (23, 10, 9, 0, 0, 0) :: (2, 0, 0, 0, 0, 0) :: (1, 1, 0, 0, 0, 0) :: (40, 0, 0, 0, 0, 0) :: (32, 11, 4, 0, 0, 0) :: bl_23_10
-- 24 X8_contains
def bl_24_9 : List (Nat × Nat × Int × Nat × Nat × Nat) := (55, 1, 0, 0, 0, 0) :: []
def bl_24_8 : List (Nat × Nat × Int × Nat × Nat × Nat) := (0, 0, 0, 0, 0, 0) :: bl_24_9
def bl_24_0 : List (Nat × Nat × Int × Nat × Nat × Nat) := (1, 0, 0, 0, 0, 0) :: (1, 1, 0, 0, 0, 0) :: (15, 0, 0, 0, 0, 0) :: (0, 0, 1, 0, 0, 0) :: (11, 0, 0, 0, 0, 0) :: (26, 8, 7, 0, 0, 0) :: (0, 0, 1, 0, 0, 0) :: (32, 9, 4, 0, 0, 0) :: bl_24_8
-- 25 X8_fullCents
def bl_25_0 : List (Nat × Nat × Int × Nat × Nat × Nat) := (1, 0, 0, 0, 0, 0) :: (0, 1, 59, 0, 0, 0) :: (6, 0, 0, 0, 0, 0) :: (0, 1, 60, 0, 0, 0) :: (9, 0, 0, 0, 0, 0) :: (55, 0, 0, 0, 0, 0) :: []
-- 26 X8_hasDaySums
def bl_26_4 : List (Nat × Nat × Int × Nat × Nat × Nat) := (0, 0, 0, 0, 0, 0) :: (55, 1, 0, 0, 0, 0) :: []
def bl_26_2 : List (Nat × Nat × Int × Nat × Nat × Nat) := (0, 0, 1, 0, 0, 0) :: (55, 1, 0, 0, 0, 0) :: bl_26_4
def bl_26_0 : List (Nat × Nat × Int × Nat × Nat × Nat) := (1, 0, 0, 0, 0, 0) :: (35, 1, 2, 4, 0, 0) :: bl_26_2
-- 27 X8_loadError
def bl_27_0 : List (Nat × Nat × Int × Nat × Nat × Nat) := (2, 0, 0, 0, 0, 0) :: (37, 0, 0, 8, 10, 2137) :: (36, 6, 0, 5, 60, 1147) :: (55, 0, 0, 0, 0, 0) :: []
-- 28 X8_logCount
def bl_28_0 : List (Nat × Nat × Int × Nat × Nat × Nat) := (2, 0, 0, 0, 0, 0) :: (37, 1, 0, 8, 19, 2138) :: (37, 2, 0, 6, 107, 2042) :: (36, 0, 0, 1, 263, 1186) :: (55, 0, 0, 0, 0, 0) :: []
-- 29 X8_now
def bl_29_0 : List (Nat × Nat × Int × Nat × Nat × Nat) := (2, 0, 0, 0, 0, 0) :: (37, 1, 0, 8, 19, 2138) :: (36, 3, 0, 6, 88, 2045) :: (55, 0, 0, 0, 0, 0) :: []
-- 30 X8_placeCount
def bl_30_0 : List (Nat × Nat × Int × Nat × Nat × Nat) := (2, 0, 0, 0, 0, 0) :: (37, 1, 0, 8, 19, 2138) :: (37, 0, 0, 6, 75, 2038) :: (36, 0, 0, 4, 76, 1102) :: (55, 0, 0, 0, 0, 0) :: []
-- 31 X8_put
def bl_31_10 : List (Nat × Nat × Int × Nat × Nat × Nat) := (57, 0, 0, 0, 0, 0) :: []
def bl_31_0 : List (Nat × Nat × Int × Nat × Nat × Nat) := (1, 1, 0, 0, 0, 0) :: (28, 10, 13, 0, 0, 0) :: (1, 1, 0, 0, 0, 0) :: (2, 0, 0, 0, 0, 0) :: (48, 0, 0, 0, 0, 0) :: (23, 10, 7, 0, 0, 0) :: (2, 0, 0, 0, 0, 0) :: (1, 1, 0, 0, 0, 0) :: (1, 2, 0, 0, 0, 0) :: (41, 0, 0, 0, 0, 0) :: bl_31_10
-- 32 X8_truck
def bl_32_10 : List (Nat × Nat × Int × Nat × Nat × Nat) := (55, 0, 0, 0, 0, 0) :: []
def bl_32_7 : List (Nat × Nat × Int × Nat × Nat × Nat) := (2, 0, 0, 0, 0, 0) :: (37, 1, 0, 8, 19, 2138) :: (36, 4, 0, 6, 223, 2048) :: bl_32_10
def bl_32_0 : List (Nat × Nat × Int × Nat × Nat × Nat) := (2, 0, 0, 0, 0, 0) :: (37, 1, 0, 8, 19, 2138) :: (36, 4, 0, 6, 223, 2048) :: (0, 0, (-1), 0, 0, 0) :: (21, 7, 8, 0, 0, 0) :: (0, 1, (-3), 0, 0, 0) :: (32, 10, 10, 0, 0, 0) :: bl_32_7
-- 33 X8_within
def bl_33_9 : List (Nat × Nat × Int × Nat × Nat × Nat) := (55, 1, 0, 0, 0, 0) :: []
def bl_33_8 : List (Nat × Nat × Int × Nat × Nat × Nat) := (0, 0, 0, 0, 0, 0) :: bl_33_9
def bl_33_0 : List (Nat × Nat × Int × Nat × Nat × Nat) := (1, 0, 0, 0, 0, 0) :: (1, 1, 0, 0, 0, 0) :: (22, 8, 12, 0, 0, 0) :: (1, 0, 0, 0, 0, 0) :: (1, 2, 0, 0, 0, 0) :: (24, 8, 7, 0, 0, 0) :: (0, 0, 1, 0, 0, 0) :: (32, 9, 4, 0, 0, 0) :: bl_33_8
-- 34 X9_begins
def bl_34_58 : List (Nat × Nat × Int × Nat × Nat × Nat) := (57, 0, 0, 0, 0, 0) :: []
def bl_34_47 : List (Nat × Nat × Int × Nat × Nat × Nat) := (1, 2, 0, 0, 0, 0) :: (0, 1, 100, 0, 0, 0) :: (23, 58, 16, 0, 0, 0) :: (2, 0, 0, 0, 0, 0) :: (0, 0, 3, 0, 0, 0) :: (1, 2, 0, 0, 0, 0) :: (6, 0, 0, 0, 0, 0) :: (0, 3, 1000000, 0, 63, 6109) :: (41, 0, 0, 0, 0, 0) :: (5, 2, 1, 0, 0, 0) :: (32, 47, (-16), 0, 0, 0) :: bl_34_58
def bl_34_45 : List (Nat × Nat × Int × Nat × Nat × Nat) := (0, 0, 0, 0, 0, 0) :: (3, 2, 0, 0, 0, 0) :: bl_34_47
def bl_34_34 : List (Nat × Nat × Int × Nat × Nat × Nat) := (1, 2, 0, 0, 0, 0) :: (0, 0, 4, 0, 0, 0) :: (23, 45, 18, 0, 0, 0) :: (2, 0, 0, 0, 0, 0) :: (0, 2, 329, 0, 0, 0) :: (1, 2, 0, 0, 0, 0) :: (6, 0, 0, 0, 0, 0) :: (0, 1, 120, 0, 0, 0) :: (41, 0, 0, 0, 0, 0) :: (5, 2, 1, 0, 0, 0) :: (32, 34, (-17), 0, 0, 0) :: bl_34_45
def bl_34_32 : List (Nat × Nat × Int × Nat × Nat × Nat) := (0, 0, 0, 0, 0, 0) :: (3, 2, 0, 0, 0, 0) :: bl_34_34
def bl_34_21 : List (Nat × Nat × Int × Nat × Nat × Nat) := (1, 2, 0, 0, 0, 0) :: (0, 1, 10, 0, 0, 0) :: (23, 32, 17, 0, 0, 0) :: (2, 0, 0, 0, 0, 0) :: (0, 2, 213, 0, 0, 0) :: (1, 2, 0, 0, 0, 0) :: (6, 0, 0, 0, 0, 0) :: (0, 0, 2, 0, 0, 0) :: (41, 0, 0, 0, 0, 0) :: (5, 2, 1, 0, 0, 0) :: (32, 21, (-17), 0, 0, 0) :: bl_34_32
def bl_34_11 : List (Nat × Nat × Int × Nat × Nat × Nat) := (2, 0, 0, 0, 0, 0) :: (0, 0, 0, 0, 0, 0) :: (1, 1, 0, 0, 0, 0) :: (41, 0, 0, 0, 0, 0) :: (2, 0, 0, 0, 0, 0) :: (0, 0, 1, 0, 0, 0) :: (0, 1, (-3), 0, 0, 0) :: (41, 0, 0, 0, 0, 0) :: (0, 0, 0, 0, 0, 0) :: (3, 2, 0, 0, 0, 0) :: bl_34_21
def bl_34_2 : List (Nat × Nat × Int × Nat × Nat × Nat) := (1, 2, 0, 0, 0, 0) :: (0, 2, 2430, 0, 0, 0) :: (23, 11, 13, 0, 0, 0) :: (2, 0, 0, 0, 0, 0) :: (1, 2, 0, 0, 0, 0) :: (0, 0, 0, 0, 0, 0) :: (41, 0, 0, 0, 0, 0) :: (5, 2, 1, 0, 0, 0) :: (32, 2, (-14), 0, 0, 0) :: bl_34_11
def bl_34_0 : List (Nat × Nat × Int × Nat × Nat × Nat) := (0, 0, 0, 0, 0, 0) :: (3, 2, 0, 0, 0, 0) :: bl_34_2
-- 35 X9_cents
def bl_35_0 : List (Nat × Nat × Int × Nat × Nat × Nat) := (2, 0, 0, 0, 0, 0) :: (37, 0, 0, 9, 9, 6114) :: (0, 2, 233, 0, 0, 0) :: (0, 1, 24, 0, 0, 0) :: (2, 0, 0, 0, 0, 0) :: (37, 0, 0, 9, 9, 6114) :: (0, 2, 203, 0, 0, 0) :: (1, 1, 0, 0, 0, 0) :: (6, 0, 0, 0, 0, 0) :: (40, 0, 0, 0, 0, 0) :: (8, 0, 0, 0, 0, 0) :: (6, 0, 0, 0, 0, 0) :: (1, 2, 0, 0, 0, 0) :: (0, 1, 60, 0, 0, 0) :: (9, 0, 0, 0, 0, 0) :: (0, 1, 24, 0, 0, 0) :: (10, 0, 0, 0, 0, 0) :: (6, 0, 0, 0, 0, 0) :: (40, 0, 0, 0, 0, 0) :: (55, 0, 0, 0, 0, 0) :: []
-- 36 X9_copies
def bl_36_21 : List (Nat × Nat × Int × Nat × Nat × Nat) := (57, 0, 0, 0, 0, 0) :: []
def bl_36_2 : List (Nat × Nat × Int × Nat × Nat × Nat) := (1, 4, 0, 0, 1, 0) :: (0, 2, 2430, 0, 0, 0) :: (23, 21, 29, 0, 0, 0) :: (2, 2, 0, 0, 0, 0) :: (0, 2, 2430, 0, 0, 0) :: (1, 3, 0, 0, 0, 0) :: (8, 0, 0, 0, 0, 0) :: (1, 4, 0, 0, 1, 0) :: (6, 0, 0, 0, 0, 0) :: (2, 0, 0, 0, 0, 0) :: (0, 2, 2430, 0, 0, 0) :: (1, 1, 0, 0, 0, 0) :: (8, 0, 0, 0, 0, 0) :: (1, 4, 0, 0, 1, 0) :: (6, 0, 0, 0, 0, 0) :: (40, 0, 0, 0, 0, 0) :: (41, 0, 0, 0, 0, 0) :: (5, 4, 1, 0, 0, 0) :: (32, 2, (-31), 0, 0, 0) :: bl_36_21
def bl_36_0 : List (Nat × Nat × Int × Nat × Nat × Nat) := (0, 0, 0, 0, 0, 0) :: (3, 4, 0, 0, 1, 0) :: bl_36_2
-- 37 X9_entry
def bl_37_0 : List (Nat × Nat × Int × Nat × Nat × Nat) := (2, 0, 0, 0, 0, 0) :: (37, 0, 0, 9, 9, 6114) :: (0, 2, 430, 0, 0, 0) :: (0, 0, 5, 0, 0, 0) :: (1, 1, 0, 0, 0, 0) :: (8, 0, 0, 0, 0, 0) :: (6, 0, 0, 0, 0, 0) :: (1, 2, 0, 0, 0, 0) :: (6, 0, 0, 0, 0, 0) :: (40, 0, 0, 0, 0, 0) :: (55, 0, 0, 0, 0, 0) :: []
-- 38 X9_fails
def bl_38_9 : List (Nat × Nat × Int × Nat × Nat × Nat) := (57, 0, 0, 0, 0, 0) :: []
def bl_38_0 : List (Nat × Nat × Int × Nat × Nat × Nat) := (2, 0, 0, 0, 0, 0) :: (36, 9, 0, 9, 87, 6123) :: (27, 9, 13, 0, 0, 0) :: (2, 0, 0, 0, 0, 0) :: (1, 1, 0, 0, 0, 0) :: (38, 9, 0, 9, 87, 6123) :: (2, 0, 0, 0, 0, 0) :: (1, 2, 0, 0, 0, 0) :: (38, 10, 0, 9, 90, 6124) :: bl_38_9
-- 39 X9_here
def bl_39_14 : List (Nat × Nat × Int × Nat × Nat × Nat) := (55, 0, 0, 0, 0, 0) :: []
def bl_39_13 : List (Nat × Nat × Int × Nat × Nat × Nat) := (0, 0, (-1), 0, 0, 0) :: bl_39_14
def bl_39_0 : List (Nat × Nat × Int × Nat × Nat × Nat) := (2, 0, 0, 0, 0, 0) :: (36, 7, 0, 9, 77, 6121) :: (2, 0, 0, 0, 0, 0) :: (36, 6, 0, 9, 74, 6120) :: (23, 13, 19, 0, 0, 0) :: (2, 0, 0, 0, 0, 0) :: (37, 5, 0, 9, 23, 6119) :: (2, 0, 0, 0, 0, 0) :: (36, 7, 0, 9, 77, 6121) :: (44, 0, 0, 0, 0, 0) :: (0, 2, 255, 0, 0, 0) :: (11, 0, 0, 0, 0, 0) :: (32, 14, 4, 0, 0, 0) :: bl_39_13
-- 40 X9_in
def bl_40_9 : List (Nat × Nat × Int × Nat × Nat × Nat) := (55, 1, 0, 0, 0, 0) :: []
def bl_40_8 : List (Nat × Nat × Int × Nat × Nat × Nat) := (0, 0, 0, 0, 0, 0) :: bl_40_9
def bl_40_0 : List (Nat × Nat × Int × Nat × Nat × Nat) := (1, 0, 0, 0, 0, 0) :: (1, 1, 0, 0, 0, 0) :: (22, 8, 12, 0, 0, 0) :: (1, 0, 0, 0, 0, 0) :: (1, 2, 0, 0, 0, 0) :: (24, 8, 7, 0, 0, 0) :: (0, 0, 1, 0, 0, 0) :: (32, 9, 4, 0, 0, 0) :: bl_40_8
-- 41 X9_isFull
def bl_41_9 : List (Nat × Nat × Int × Nat × Nat × Nat) := (55, 1, 0, 0, 0, 0) :: []
def bl_41_8 : List (Nat × Nat × Int × Nat × Nat × Nat) := (0, 0, 0, 0, 0, 0) :: bl_41_9
def bl_41_0 : List (Nat × Nat × Int × Nat × Nat × Nat) := (2, 0, 0, 0, 0, 0) :: (37, 0, 0, 9, 9, 6114) :: (0, 2, 429, 0, 0, 0) :: (40, 0, 0, 0, 0, 0) :: (0, 2, 340, 0, 0, 0) :: (22, 8, 7, 0, 0, 0) :: (0, 0, 1, 0, 0, 0) :: (32, 9, 4, 0, 0, 0) :: bl_41_8
-- 42 X9_loadError
def bl_42_0 : List (Nat × Nat × Int × Nat × Nat × Nat) := (2, 0, 0, 0, 0, 0) :: (0, 0, 0, 0, 0, 0) :: (38, 4, 0, 9, 59, 6118) :: (2, 0, 0, 0, 0, 0) :: (36, 11, 0, 9, 152, 6125) :: (55, 0, 0, 0, 0, 0) :: []
-- 43 X9_logCount
def bl_43_0 : List (Nat × Nat × Int × Nat × Nat × Nat) := (2, 0, 0, 0, 0, 0) :: (0, 0, 0, 0, 0, 0) :: (38, 4, 0, 9, 59, 6118) :: (2, 0, 0, 0, 0, 0) :: (37, 0, 0, 9, 9, 6114) :: (0, 2, 429, 0, 0, 0) :: (40, 0, 0, 0, 0, 0) :: (55, 0, 0, 0, 0, 0) :: []
-- 44 X9_logs
def bl_44_0 : List (Nat × Nat × Int × Nat × Nat × Nat) := (0, 2, 430, 0, 0, 0) :: (0, 0, 5, 0, 0, 0) :: (2, 0, 0, 0, 0, 0) :: (37, 0, 0, 9, 9, 6114) :: (0, 2, 429, 0, 0, 0) :: (40, 0, 0, 0, 0, 0) :: (8, 0, 0, 0, 0, 0) :: (6, 0, 0, 0, 0, 0) :: (3, 4, 0, 0, 1, 0) :: (2, 0, 0, 0, 0, 0) :: (37, 0, 0, 9, 9, 6114) :: (1, 4, 0, 0, 1, 0) :: (0, 0, 0, 0, 0, 0) :: (6, 0, 0, 0, 0, 0) :: (2, 0, 0, 0, 0, 0) :: (37, 0, 0, 9, 9, 6114) :: (0, 0, 2, 0, 0, 0) :: (40, 0, 0, 0, 0, 0) :: (41, 0, 0, 0, 0, 0) :: (2, 0, 0, 0, 0, 0) :: (37, 0, 0, 9, 9, 6114) :: (1, 4, 0, 0, 1, 0) :: (0, 0, 1, 0, 0, 0) :: (6, 0, 0, 0, 0, 0) :: (1, 1, 0, 0, 0, 0) :: (41, 0, 0, 0, 0, 0) :: (2, 0, 0, 0, 0, 0) :: (37, 0, 0, 9, 9, 6114) :: (1, 4, 0, 0, 1, 0) :: (0, 0, 2, 0, 0, 0) :: (6, 0, 0, 0, 0, 0) :: (1, 2, 0, 0, 0, 0) :: (41, 0, 0, 0, 0, 0) :: (2, 0, 0, 0, 0, 0) :: (37, 0, 0, 9, 9, 6114) :: (1, 4, 0, 0, 1, 0) :: (0, 0, 3, 0, 0, 0) :: (6, 0, 0, 0, 0, 0) :: (1, 3, 0, 0, 0, 0) :: (41, 0, 0, 0, 0, 0) :: (2, 0, 0, 0, 0, 0) :: (37, 0, 0, 9, 9, 6114) :: (1, 4, 0, 0, 1, 0) :: (0, 0, 4, 0, 0, 0) :: (6, 0, 0, 0, 0, 0) :: (0, 0, 0, 0, 0, 0) :: (41, 0, 0, 0, 0, 0) :: (2, 0, 0, 0, 0, 0) :: (37, 0, 0, 9, 9, 6114) :: (0, 2, 429, 0, 0, 0) :: (69, 0, 0, 0, 0, 0) :: (40, 0, 0, 0, 0, 0) :: (0, 0, 1, 0, 0, 0) :: (6, 0, 0, 0, 0, 0) :: (41, 0, 0, 0, 0, 0) :: (57, 0, 0, 0, 0, 0) :: []
-- 45 X9_now
def bl_45_0 : List (Nat × Nat × Int × Nat × Nat × Nat) := (2, 0, 0, 0, 0, 0) :: (0, 0, 0, 0, 0, 0) :: (38, 4, 0, 9, 59, 6118) :: (2, 0, 0, 0, 0, 0) :: (37, 0, 0, 9, 9, 6114) :: (0, 0, 2, 0, 0, 0) :: (40, 0, 0, 0, 0, 0) :: (55, 0, 0, 0, 0, 0) :: []
-- 46 X9_of
def bl_46_0 : List (Nat × Nat × Int × Nat × Nat × Nat) := (2, 0, 0, 0, 0, 0) :: (37, 0, 0, 9, 9, 6114) :: (0, 2, 333, 0, 0, 0) :: (0, 1, 6, 0, 0, 0) :: (1, 1, 0, 0, 0, 0) :: (8, 0, 0, 0, 0, 0) :: (6, 0, 0, 0, 0, 0) :: (1, 2, 0, 0, 0, 0) :: (6, 0, 0, 0, 0, 0) :: (40, 0, 0, 0, 0, 0) :: (55, 0, 0, 0, 0, 0) :: []
-- 47 X9_placeCount
def bl_47_0 : List (Nat × Nat × Int × Nat × Nat × Nat) := (2, 0, 0, 0, 0, 0) :: (0, 0, 0, 0, 0, 0) :: (38, 4, 0, 9, 59, 6118) :: (2, 0, 0, 0, 0, 0) :: (37, 0, 0, 9, 9, 6114) :: (0, 0, 0, 0, 0, 0) :: (40, 0, 0, 0, 0, 0) :: (55, 0, 0, 0, 0, 0) :: []
-- 48 X9_set
def bl_48_0 : List (Nat × Nat × Int × Nat × Nat × Nat) := (2, 0, 0, 0, 0, 0) :: (37, 0, 0, 9, 9, 6114) :: (0, 2, 333, 0, 0, 0) :: (0, 1, 6, 0, 0, 0) :: (1, 1, 0, 0, 0, 0) :: (8, 0, 0, 0, 0, 0) :: (6, 0, 0, 0, 0, 0) :: (1, 2, 0, 0, 0, 0) :: (6, 0, 0, 0, 0, 0) :: (1, 3, 0, 0, 0, 0) :: (41, 0, 0, 0, 0, 0) :: (57, 0, 0, 0, 0, 0) :: []
-- 49 X9_thrown
def bl_49_0 : List (Nat × Nat × Int × Nat × Nat × Nat) := (2, 0, 0, 0, 0, 0) :: (36, 4, 0, 9, 59, 6118) :: (55, 0, 0, 0, 0, 0) :: []
-- 50 X9_truck
def bl_50_0 : List (Nat × Nat × Int × Nat × Nat × Nat) := (2, 0, 0, 0, 0, 0) :: (0, 0, 0, 0, 0, 0) :: (38, 4, 0, 9, 59, 6118) :: (2, 0, 0, 0, 0, 0) :: (37, 0, 0, 9, 9, 6114) :: (0, 0, 1, 0, 0, 0) :: (40, 0, 0, 0, 0, 0) :: (55, 0, 0, 0, 0, 0) :: []
-- 51 X9_way
def bl_51_0 : List (Nat × Nat × Int × Nat × Nat × Nat) := (2, 0, 0, 0, 0, 0) :: (37, 0, 0, 9, 9, 6114) :: (0, 1, 103, 0, 0, 0) :: (0, 1, 10, 0, 0, 0) :: (1, 1, 0, 0, 0, 0) :: (8, 0, 0, 0, 0, 0) :: (6, 0, 0, 0, 0, 0) :: (1, 2, 0, 0, 0, 0) :: (6, 0, 0, 0, 0, 0) :: (40, 0, 0, 0, 0, 0) :: (55, 0, 0, 0, 0, 0) :: []
-- 52 J0_checkIndex_df160
def bl_52_0 : List (Nat × Nat × Int × Nat × Nat × Nat) := (1, 0, 0, 0, 0, 0) :: (1, 1, 0, 0, 0, 0) :: (73, 0, 0, 0, 1053, 2237) :: (49, 2, 99, 3, 1059, 2239) :: (19, 0, 0, 0, 0, 0) :: (57, 0, 0, 0, 0, 0) :: []
-- 53 J0_length_8abf5
def bl_53_0 : List (Nat × Nat × Int × Nat × Nat × Nat) := (2, 0, 0, 0, 0, 0) :: (66, 0, 0, 0, 9, 8192) :: (48, 0, 0, 0, 0, 0) :: (2, 0, 0, 0, 0, 0) :: (50, 0, 90, 1, 335, 2216) :: (15, 0, 0, 0, 0, 0) :: (55, 0, 0, 0, 0, 0) :: []
-- 54 X0_fineFor
def bl_54_11 : List (Nat × Nat × Int × Nat × Nat × Nat) := (3, 2, 0, 0, 0, 0) :: (1, 2, 0, 0, 0, 0) :: (0, 2, 500, 0, 0, 0) :: (0, 0, 5, 0, 0, 0) :: (2, 0, 0, 0, 0, 0) :: (50, 10, 0, 1, 49, 3233) :: (76, 0, 0, 0, 59, 3237) :: (8, 0, 0, 0, 0, 0) :: (6, 0, 0, 0, 0, 0) :: (55, 0, 0, 0, 0, 0) :: []
def bl_54_10 : List (Nat × Nat × Int × Nat × Nat × Nat) := (0, 2, 6000, 0, 0, 0) :: bl_54_11
def bl_54_5 : List (Nat × Nat × Int × Nat × Nat × Nat) := (1, 1, 0, 0, 0, 0) :: (0, 1, 120, 0, 0, 0) :: (24, 10, 9, 0, 0, 0) :: (0, 2, 3000, 0, 0, 0) :: (32, 11, 6, 0, 0, 0) :: bl_54_10
def bl_54_0 : List (Nat × Nat × Int × Nat × Nat × Nat) := (1, 1, 0, 0, 0, 0) :: (0, 1, 30, 0, 0, 0) :: (24, 5, 9, 0, 0, 0) :: (0, 2, 1500, 0, 0, 0) :: (32, 11, 18, 0, 0, 0) :: bl_54_5
-- 55 X0_init
def bl_55_0 : List (Nat × Nat × Int × Nat × Nat × Nat) := (2, 0, 0, 0, 0, 0) :: (63, 0, 0, 0, 3, 1217) :: (2, 0, 0, 0, 0, 0) :: (1, 1, 0, 0, 0, 0) :: (38, 0, 0, 0, 9, 1218) :: (57, 0, 0, 0, 0, 0) :: []
-- 56 X0_owed
def bl_56_0 : List (Nat × Nat × Int × Nat × Nat × Nat) := (0, 0, 0, 0, 0, 0) :: (2, 0, 0, 0, 0, 0) :: (36, 8, 0, 0, 36, 2004) :: (2, 0, 0, 0, 0, 0) :: (36, 9, 0, 0, 39, 2006) :: (6, 0, 0, 0, 0, 0) :: (2, 0, 0, 0, 0, 0) :: (36, 10, 0, 0, 42, 2009) :: (7, 0, 0, 0, 0, 0) :: (75, 0, 0, 0, 53, 4038) :: (55, 0, 0, 0, 0, 0) :: []
-- 57 X0_owesNothing
def bl_57_9 : List (Nat × Nat × Int × Nat × Nat × Nat) := (55, 1, 0, 0, 0, 0) :: []
def bl_57_8 : List (Nat × Nat × Int × Nat × Nat × Nat) := (0, 0, 0, 0, 0, 0) :: bl_57_9
def bl_57_0 : List (Nat × Nat × Int × Nat × Nat × Nat) := (2, 0, 0, 0, 0, 0) :: (50, 10, 0, 1, 49, 3233) :: (27, 8, 14, 0, 0, 0) :: (2, 0, 0, 0, 0, 0) :: (36, 9, 0, 0, 39, 2006) :: (27, 8, 7, 0, 0, 0) :: (0, 0, 1, 0, 0, 0) :: (32, 9, 4, 0, 0, 0) :: bl_57_8
-- 58 X0_takesSpaceAt
def bl_58_13 : List (Nat × Nat × Int × Nat × Nat × Nat) := (55, 1, 0, 0, 0, 0) :: []
def bl_58_12 : List (Nat × Nat × Int × Nat × Nat × Nat) := (0, 0, 0, 0, 0, 0) :: bl_58_13
def bl_58_10 : List (Nat × Nat × Int × Nat × Nat × Nat) := (0, 0, 1, 0, 0, 0) :: (32, 13, 4, 0, 0, 0) :: bl_58_12
def bl_58_0 : List (Nat × Nat × Int × Nat × Nat × Nat) := (2, 0, 0, 0, 0, 0) :: (1, 1, 0, 0, 0, 0) :: (0, 0, 1, 0, 0, 0) :: (50, 9, 0, 3, 45, 3141) :: (27, 10, 12, 0, 0, 0) :: (2, 0, 0, 0, 0, 0) :: (1, 1, 0, 0, 0, 0) :: (0, 0, 2, 0, 0, 0) :: (50, 9, 0, 3, 45, 3141) :: (26, 12, 7, 0, 0, 0) :: bl_58_10
-- 59 X1_add
def bl_59_34 : List (Nat × Nat × Int × Nat × Nat × Nat) := (57, 0, 0, 0, 0, 0) :: []
def bl_59_0 : List (Nat × Nat × Int × Nat × Nat × Nat) := (2, 0, 0, 0, 0, 0) :: (36, 0, 0, 1, 30, 1184) :: (0, 2, 400, 0, 0, 0) :: (23, 34, 62, 0, 0, 0) :: (2, 0, 0, 0, 0, 0) :: (37, 1, 0, 1, 11, 1187) :: (2, 0, 0, 0, 0, 0) :: (36, 0, 0, 1, 30, 1184) :: (1, 1, 0, 0, 0, 0) :: (52, 31, 8, 3, 38, 14) :: (2, 0, 0, 0, 0, 0) :: (37, 2, 0, 1, 15, 1189) :: (2, 0, 0, 0, 0, 0) :: (36, 0, 0, 1, 30, 1184) :: (1, 2, 0, 0, 0, 0) :: (52, 31, 8, 3, 38, 14) :: (2, 0, 0, 0, 0, 0) :: (37, 3, 0, 1, 18, 1191) :: (2, 0, 0, 0, 0, 0) :: (36, 0, 0, 1, 30, 1184) :: (1, 3, 0, 0, 0, 0) :: (52, 31, 8, 3, 38, 14) :: (2, 0, 0, 0, 0, 0) :: (37, 4, 0, 1, 21, 1193) :: (2, 0, 0, 0, 0, 0) :: (36, 0, 0, 1, 30, 1184) :: (1, 4, 0, 0, 1, 0) :: (52, 31, 8, 3, 38, 14) :: (2, 0, 0, 0, 0, 0) :: (18, 0, 0, 0, 0, 0) :: (36, 0, 0, 1, 30, 1184) :: (0, 0, 1, 0, 0, 0) :: (6, 0, 0, 0, 0, 0) :: (38, 0, 0, 1, 30, 1184) :: bl_59_34
-- 60 X1_init
def bl_60_0 : List (Nat × Nat × Int × Nat × Nat × Nat) := (2, 0, 0, 0, 0, 0) :: (63, 0, 0, 0, 3, 1183) :: (2, 0, 0, 0, 0, 0) :: (0, 2, 400, 0, 0, 0) :: (59, 0, 0, 0, 0, 0) :: (39, 1, 0, 1, 11, 1187) :: (2, 0, 0, 0, 0, 0) :: (0, 2, 400, 0, 0, 0) :: (59, 0, 0, 0, 0, 0) :: (39, 2, 0, 1, 15, 1189) :: (2, 0, 0, 0, 0, 0) :: (0, 2, 400, 0, 0, 0) :: (59, 0, 0, 0, 0, 0) :: (39, 3, 0, 1, 18, 1191) :: (2, 0, 0, 0, 0, 0) :: (0, 2, 400, 0, 0, 0) :: (59, 0, 0, 0, 0, 0) :: (39, 4, 0, 1, 21, 1193) :: (2, 0, 0, 0, 0, 0) :: (0, 1, 16, 0, 0, 0) :: (59, 0, 0, 0, 0, 0) :: (39, 5, 0, 1, 24, 1196) :: (2, 0, 0, 0, 0, 0) :: (0, 1, 10, 0, 0, 0) :: (59, 0, 0, 0, 0, 0) :: (39, 6, 0, 1, 27, 1197) :: (57, 0, 0, 0, 0, 0) :: []
-- 61 X1_isOn
def bl_61_17 : List (Nat × Nat × Int × Nat × Nat × Nat) := (55, 1, 0, 0, 0, 0) :: []
def bl_61_16 : List (Nat × Nat × Int × Nat × Nat × Nat) := (0, 0, 0, 0, 0, 0) :: bl_61_17
def bl_61_0 : List (Nat × Nat × Int × Nat × Nat × Nat) := (2, 0, 0, 0, 0, 0) :: (37, 2, 0, 1, 15, 1189) :: (1, 1, 0, 0, 0, 0) :: (52, 23, 8, 2, 42, 16) :: (1, 3, 0, 0, 0, 0) :: (21, 16, 23, 0, 0, 0) :: (2, 0, 0, 0, 0, 0) :: (37, 1, 0, 1, 11, 1187) :: (1, 1, 0, 0, 0, 0) :: (52, 23, 8, 2, 42, 16) :: (0, 2, 1440, 0, 0, 0) :: (9, 0, 0, 0, 0, 0) :: (1, 2, 0, 0, 0, 0) :: (21, 16, 7, 0, 0, 0) :: (0, 0, 1, 0, 0, 0) :: (32, 17, 4, 0, 0, 0) :: bl_61_16
-- 62 X1_ticketEntry
def bl_62_28 : List (Nat × Nat × Int × Nat × Nat × Nat) := (0, 0, (-1), 0, 0, 0) :: (55, 0, 0, 0, 0, 0) :: []
def bl_62_26 : List (Nat × Nat × Int × Nat × Nat × Nat) := (5, 4, 1, 0, 0, 0) :: (32, 4, (-49), 0, 0, 0) :: bl_62_28
def bl_62_25 : List (Nat × Nat × Int × Nat × Nat × Nat) := (5, 3, 1, 0, 0, 0) :: bl_62_26
def bl_62_4 : List (Nat × Nat × Int × Nat × Nat × Nat) := (1, 4, 0, 0, 1, 0) :: (2, 0, 0, 0, 0, 0) :: (36, 0, 0, 1, 30, 1184) :: (23, 28, 46, 0, 0, 0) :: (2, 0, 0, 0, 0, 0) :: (37, 2, 0, 1, 15, 1189) :: (1, 4, 0, 0, 1, 0) :: (52, 23, 8, 2, 42, 16) :: (0, 0, 4, 0, 0, 0) :: (21, 26, 27, 0, 0, 0) :: (2, 0, 0, 0, 0, 0) :: (37, 3, 0, 1, 18, 1191) :: (1, 4, 0, 0, 1, 0) :: (52, 23, 8, 2, 42, 16) :: (1, 1, 0, 0, 0, 0) :: (21, 26, 14, 0, 0, 0) :: (1, 3, 0, 0, 0, 0) :: (1, 2, 0, 0, 0, 0) :: (21, 25, 6, 0, 0, 0) :: (1, 4, 0, 0, 1, 0) :: (55, 0, 0, 0, 0, 0) :: bl_62_25
def bl_62_0 : List (Nat × Nat × Int × Nat × Nat × Nat) := (0, 0, 0, 0, 0, 0) :: (3, 3, 0, 0, 0, 0) :: (0, 0, 0, 0, 0, 0) :: (3, 4, 0, 0, 1, 0) :: bl_62_4
-- 63 X2_init
def bl_63_0 : List (Nat × Nat × Int × Nat × Nat × Nat) := (2, 0, 0, 0, 0, 0) :: (63, 0, 0, 0, 3, 2114) :: (2, 0, 0, 0, 0, 0) :: (0, 1, 10, 0, 0, 0) :: (59, 0, 0, 0, 0, 0) :: (39, 0, 0, 2, 9, 2115) :: (2, 0, 0, 0, 0, 0) :: (0, 2, 10240, 0, 0, 0) :: (59, 0, 0, 0, 0, 0) :: (39, 1, 0, 2, 15, 2116) :: (57, 0, 0, 0, 0, 0) :: []
-- 64 X3_addTrip
def bl_64_0 : List (Nat × Nat × Int × Nat × Nat × Nat) := (2, 0, 0, 0, 0, 0) :: (37, 6, 0, 3, 30, 2073) :: (2, 0, 0, 0, 0, 0) :: (36, 11, 0, 3, 67, 2081) :: (2, 0, 0, 0, 0, 0) :: (37, 0, 0, 3, 11, 2067) :: (1, 2, 0, 0, 0, 0) :: (52, 23, 8, 2, 70, 19) :: (52, 31, 8, 3, 98, 18) :: (2, 0, 0, 0, 0, 0) :: (37, 7, 0, 3, 33, 2075) :: (2, 0, 0, 0, 0, 0) :: (36, 11, 0, 3, 67, 2081) :: (2, 0, 0, 0, 0, 0) :: (37, 2, 0, 3, 18, 2069) :: (1, 3, 0, 0, 0, 0) :: (52, 23, 8, 2, 70, 19) :: (52, 31, 8, 3, 98, 18) :: (2, 0, 0, 0, 0, 0) :: (37, 8, 0, 3, 36, 2077) :: (2, 0, 0, 0, 0, 0) :: (36, 11, 0, 3, 67, 2081) :: (2, 0, 0, 0, 0, 0) :: (37, 4, 0, 3, 24, 2071) :: (1, 1, 0, 0, 0, 0) :: (1, 2, 0, 0, 0, 0) :: (1, 3, 0, 0, 0, 0) :: (49, 14, 3, 3, 128, 4082) :: (52, 23, 8, 2, 70, 19) :: (52, 31, 8, 3, 98, 18) :: (2, 0, 0, 0, 0, 0) :: (18, 0, 0, 0, 0, 0) :: (36, 11, 0, 3, 67, 2081) :: (0, 0, 1, 0, 0, 0) :: (6, 0, 0, 0, 0, 0) :: (38, 11, 0, 3, 67, 2081) :: (57, 0, 0, 0, 0, 0) :: []
-- 65 X3_countClampedBefore
def bl_65_46 : List (Nat × Nat × Int × Nat × Nat × Nat) := (1, 4, 0, 0, 1, 0) :: (55, 0, 0, 0, 0, 0) :: []
def bl_65_44 : List (Nat × Nat × Int × Nat × Nat × Nat) := (5, 7, 1, 0, 0, 0) :: (32, 10, (-80), 0, 0, 0) :: bl_65_46
def bl_65_35 : List (Nat × Nat × Int × Nat × Nat × Nat) := (3, 9, 0, 0, 1, 0) :: (1, 2, 0, 0, 0, 0) :: (2, 8, 0, 0, 1, 0) :: (36, 0, 0, 0, 85, 1219) :: (52, 24, 8, 2, 90, 17) :: (26, 44, 11, 0, 0, 0) :: (1, 9, 0, 0, 1, 0) :: (26, 44, 6, 0, 0, 0) :: (5, 4, 1, 0, 0, 0) :: bl_65_44
def bl_65_34 : List (Nat × Nat × Int × Nat × Nat × Nat) := (0, 0, 0, 0, 0, 0) :: bl_65_35
def bl_65_32 : List (Nat × Nat × Int × Nat × Nat × Nat) := (0, 0, 1, 0, 0, 0) :: (32, 35, 4, 0, 0, 0) :: bl_65_34
def bl_65_10 : List (Nat × Nat × Int × Nat × Nat × Nat) := (1, 7, 0, 0, 1, 0) :: (1, 6, 0, 0, 1, 0) :: (23, 46, 79, 0, 0, 0) :: (2, 5, 0, 0, 1, 0) :: (1, 7, 0, 0, 1, 0) :: (46, 0, 0, 0, 0, 0) :: (4, 8, 0, 0, 1, 0) :: (2, 8, 0, 0, 1, 0) :: (36, 4, 0, 0, 105, 1233) :: (2, 1, 0, 0, 0, 0) :: (36, 4, 0, 0, 105, 1233) :: (22, 32, 27, 0, 0, 0) :: (2, 8, 0, 0, 1, 0) :: (36, 4, 0, 0, 105, 1233) :: (2, 1, 0, 0, 0, 0) :: (36, 4, 0, 0, 105, 1233) :: (21, 34, 19, 0, 0, 0) :: (2, 8, 0, 0, 1, 0) :: (36, 0, 0, 0, 85, 1219) :: (2, 1, 0, 0, 0, 0) :: (36, 0, 0, 0, 85, 1219) :: (23, 34, 7, 0, 0, 0) :: bl_65_32
def bl_65_0 : List (Nat × Nat × Int × Nat × Nat × Nat) := (0, 0, 0, 0, 0, 0) :: (3, 4, 0, 0, 1, 0) :: (2, 3, 0, 0, 0, 0) :: (37, 1, 0, 6, 81, 2040) :: (4, 5, 0, 0, 1, 0) :: (2, 5, 0, 0, 1, 0) :: (48, 0, 0, 0, 0, 0) :: (3, 6, 0, 0, 1, 0) :: (0, 0, 0, 0, 0, 0) :: (3, 7, 0, 0, 1, 0) :: bl_65_10
-- 66 X3_init
def bl_66_0 : List (Nat × Nat × Int × Nat × Nat × Nat) := (2, 0, 0, 0, 0, 0) :: (63, 0, 0, 0, 3, 2066) :: (2, 0, 0, 0, 0, 0) :: (0, 1, 6, 0, 0, 0) :: (59, 0, 0, 0, 0, 0) :: (39, 0, 0, 3, 11, 2067) :: (2, 0, 0, 0, 0, 0) :: (0, 1, 6, 0, 0, 0) :: (59, 0, 0, 0, 0, 0) :: (39, 1, 0, 3, 15, 2068) :: (2, 0, 0, 0, 0, 0) :: (0, 0, 2, 0, 0, 0) :: (59, 0, 0, 0, 0, 0) :: (39, 2, 0, 3, 18, 2069) :: (2, 0, 0, 0, 0, 0) :: (0, 0, 2, 0, 0, 0) :: (59, 0, 0, 0, 0, 0) :: (39, 3, 0, 3, 21, 2070) :: (2, 0, 0, 0, 0, 0) :: (0, 1, 24, 0, 0, 0) :: (59, 0, 0, 0, 0, 0) :: (39, 4, 0, 3, 24, 2071) :: (2, 0, 0, 0, 0, 0) :: (0, 2, 896, 0, 0, 0) :: (59, 0, 0, 0, 0, 0) :: (39, 5, 0, 3, 27, 2072) :: (2, 0, 0, 0, 0, 0) :: (0, 1, 6, 0, 0, 0) :: (59, 0, 0, 0, 0, 0) :: (39, 6, 0, 3, 30, 2073) :: (2, 0, 0, 0, 0, 0) :: (0, 1, 6, 0, 0, 0) :: (59, 0, 0, 0, 0, 0) :: (39, 7, 0, 3, 33, 2075) :: (2, 0, 0, 0, 0, 0) :: (0, 1, 6, 0, 0, 0) :: (59, 0, 0, 0, 0, 0) :: (39, 8, 0, 3, 36, 2077) :: (57, 0, 0, 0, 0, 0) :: []
-- 67 X3_wholeLength
def bl_67_17 : List (Nat × Nat × Int × Nat × Nat × Nat) := (1, 1, 0, 0, 0, 0) :: (55, 0, 0, 0, 0, 0) :: []
def bl_67_4 : List (Nat × Nat × Int × Nat × Nat × Nat) := (1, 2, 0, 0, 0, 0) :: (2, 0, 0, 0, 0, 0) :: (36, 11, 0, 3, 67, 2081) :: (23, 17, 20, 0, 0, 0) :: (1, 1, 0, 0, 0, 0) :: (2, 0, 0, 0, 0, 0) :: (37, 8, 0, 3, 36, 2077) :: (1, 2, 0, 0, 0, 0) :: (52, 23, 8, 2, 70, 19) :: (6, 0, 0, 0, 0, 0) :: (3, 1, 0, 0, 0, 0) :: (5, 2, 1, 0, 0, 0) :: (32, 4, (-22), 0, 0, 0) :: bl_67_17
def bl_67_0 : List (Nat × Nat × Int × Nat × Nat × Nat) := (0, 0, 0, 0, 0, 0) :: (3, 1, 0, 0, 0, 0) :: (0, 0, 0, 0, 0, 0) :: (3, 2, 0, 0, 0, 0) :: bl_67_4
-- 68 X3_worthOver
def bl_68_39 : List (Nat × Nat × Int × Nat × Nat × Nat) := (3, 8, 0, 0, 1, 0) :: (0, 3, 100000, 0, 153, 4102) :: (1, 7, 0, 0, 1, 0) :: (7, 0, 0, 0, 0, 0) :: (2, 0, 0, 0, 0, 0) :: (37, 5, 0, 3, 27, 2072) :: (1, 1, 0, 0, 0, 0) :: (0, 0, 1, 0, 0, 0) :: (1, 4, 0, 0, 1, 0) :: (14, 0, 0, 0, 0, 0) :: (12, 0, 0, 0, 0, 0) :: (1, 8, 0, 0, 1, 0) :: (1, 5, 0, 0, 1, 0) :: (49, 13, 3, 3, 137, 4090) :: (52, 23, 8, 2, 70, 19) :: (6, 0, 0, 0, 0, 0) :: (55, 0, 0, 0, 0, 0) :: []
def bl_68_38 : List (Nat × Nat × Int × Nat × Nat × Nat) := (1, 2, 0, 0, 0, 0) :: bl_68_39
def bl_68_32 : List (Nat × Nat × Int × Nat × Nat × Nat) := (1, 5, 0, 0, 1, 0) :: (27, 38, 9, 0, 0, 0) :: (1, 2, 0, 0, 0, 0) :: (0, 0, 1, 0, 0, 0) :: (6, 0, 0, 0, 0, 0) :: (32, 39, 4, 0, 0, 0) :: bl_68_38
def bl_68_30 : List (Nat × Nat × Int × Nat × Nat × Nat) := (0, 0, 0, 0, 0, 0) :: (55, 0, 0, 0, 0, 0) :: bl_68_32
def bl_68_8 : List (Nat × Nat × Int × Nat × Nat × Nat) := (3, 6, 0, 0, 1, 0) :: (2, 0, 0, 0, 0, 0) :: (37, 4, 0, 3, 24, 2071) :: (1, 3, 0, 0, 0, 0) :: (1, 4, 0, 0, 1, 0) :: (1, 5, 0, 0, 1, 0) :: (49, 14, 3, 3, 128, 4082) :: (52, 23, 8, 2, 70, 19) :: (3, 7, 0, 0, 1, 0) :: (1, 1, 0, 0, 0, 0) :: (1, 4, 0, 0, 1, 0) :: (52, 24, 8, 2, 90, 17) :: (27, 30, 24, 0, 0, 0) :: (1, 6, 0, 0, 1, 0) :: (2, 0, 0, 0, 0, 0) :: (37, 3, 0, 3, 21, 2070) :: (1, 5, 0, 0, 1, 0) :: (52, 23, 8, 2, 70, 19) :: (23, 30, 10, 0, 0, 0) :: (1, 7, 0, 0, 1, 0) :: (0, 3, 1000000, 0, 152, 4101) :: (22, 32, 5, 0, 0, 0) :: bl_68_30
def bl_68_4 : List (Nat × Nat × Int × Nat × Nat × Nat) := (1, 1, 0, 0, 0, 0) :: (49, 3, 99, 1, 132, 4089) :: (1, 2, 0, 0, 0, 0) :: (7, 0, 0, 0, 0, 0) :: bl_68_8
def bl_68_0 : List (Nat × Nat × Int × Nat × Nat × Nat) := (1, 5, 0, 0, 1, 0) :: (27, 4, 7, 0, 0, 0) :: (1, 2, 0, 0, 0, 0) :: (32, 8, 9, 0, 0, 0) :: bl_68_4
-- 69 X4_addRoad
def bl_69_0 : List (Nat × Nat × Int × Nat × Nat × Nat) := (1, 3, 0, 0, 0, 0) :: (2, 0, 0, 0, 0, 0) :: (37, 6, 0, 4, 21, 1118) :: (1, 1, 0, 0, 0, 0) :: (0, 1, 10, 0, 0, 0) :: (8, 0, 0, 0, 0, 0) :: (1, 2, 0, 0, 0, 0) :: (6, 0, 0, 0, 0, 0) :: (52, 23, 8, 2, 66, 4) :: (76, 0, 0, 0, 82, 3054) :: (3, 4, 0, 0, 1, 0) :: (2, 0, 0, 0, 0, 0) :: (37, 6, 0, 4, 21, 1118) :: (1, 1, 0, 0, 0, 0) :: (0, 1, 10, 0, 0, 0) :: (8, 0, 0, 0, 0, 0) :: (1, 2, 0, 0, 0, 0) :: (6, 0, 0, 0, 0, 0) :: (1, 4, 0, 0, 1, 0) :: (52, 31, 8, 3, 78, 3) :: (2, 0, 0, 0, 0, 0) :: (37, 6, 0, 4, 21, 1118) :: (1, 2, 0, 0, 0, 0) :: (0, 1, 10, 0, 0, 0) :: (8, 0, 0, 0, 0, 0) :: (1, 1, 0, 0, 0, 0) :: (6, 0, 0, 0, 0, 0) :: (1, 4, 0, 0, 1, 0) :: (52, 31, 8, 3, 78, 3) :: (57, 0, 0, 0, 0, 0) :: []
-- 70 X4_hasPound
def bl_70_8 : List (Nat × Nat × Int × Nat × Nat × Nat) := (55, 1, 0, 0, 0, 0) :: []
def bl_70_7 : List (Nat × Nat × Int × Nat × Nat × Nat) := (0, 0, 0, 0, 0, 0) :: bl_70_8
def bl_70_0 : List (Nat × Nat × Int × Nat × Nat × Nat) := (2, 0, 0, 0, 0, 0) :: (37, 5, 0, 4, 18, 1116) :: (1, 1, 0, 0, 0, 0) :: (52, 23, 8, 2, 66, 4) :: (31, 7, 7, 0, 0, 0) :: (0, 0, 1, 0, 0, 0) :: (32, 8, 4, 0, 0, 0) :: bl_70_7
-- 71 X4_way
def bl_71_0 : List (Nat × Nat × Int × Nat × Nat × Nat) := (2, 0, 0, 0, 0, 0) :: (37, 7, 0, 4, 24, 1119) :: (1, 1, 0, 0, 0, 0) :: (0, 1, 10, 0, 0, 0) :: (8, 0, 0, 0, 0, 0) :: (1, 2, 0, 0, 0, 0) :: (6, 0, 0, 0, 0, 0) :: (52, 23, 8, 2, 66, 4) :: (55, 0, 0, 0, 0, 0) :: []
-- 72 X4_zoneAt
def bl_72_15 : List (Nat × Nat × Int × Nat × Nat × Nat) := (56, 0, 0, 0, 0, 0) :: []
def bl_72_14 : List (Nat × Nat × Int × Nat × Nat × Nat) := (2, 2, 0, 0, 0, 0) :: bl_72_15
def bl_72_0 : List (Nat × Nat × Int × Nat × Nat × Nat) := (2, 0, 0, 0, 0, 0) :: (2, 0, 0, 0, 0, 0) :: (37, 3, 0, 4, 9, 1109) :: (1, 1, 0, 0, 0, 0) :: (52, 23, 8, 2, 66, 4) :: (50, 16, 4, 2, 70, 3183) :: (4, 2, 0, 0, 0, 0) :: (2, 2, 0, 0, 0, 0) :: (34, 14, 12, 0, 0, 0) :: (2, 0, 0, 0, 0, 0) :: (37, 8, 0, 4, 29, 1120) :: (0, 0, 0, 0, 0, 0) :: (46, 0, 0, 0, 0, 0) :: (32, 15, 4, 0, 0, 0) :: bl_72_14
-- 73 X5_append
def bl_73_0 : List (Nat × Nat × Int × Nat × Nat × Nat) := (2, 0, 0, 0, 0, 0) :: (37, 1, 0, 5, 18, 1142) :: (2, 0, 0, 0, 0, 0) :: (36, 2, 0, 5, 22, 1143) :: (1, 1, 0, 0, 0, 0) :: (52, 31, 8, 3, 26, 8) :: (2, 0, 0, 0, 0, 0) :: (18, 0, 0, 0, 0, 0) :: (36, 2, 0, 5, 22, 1143) :: (0, 0, 1, 0, 0, 0) :: (6, 0, 0, 0, 0, 0) :: (38, 2, 0, 5, 22, 1143) :: (2, 0, 0, 0, 0, 0) :: (36, 2, 0, 5, 22, 1143) :: (55, 0, 0, 0, 0, 0) :: []
-- 74 X5_readSemicolon
def bl_74_16 : List (Nat × Nat × Int × Nat × Nat × Nat) := (57, 0, 0, 0, 0, 0) :: []
def bl_74_11 : List (Nat × Nat × Int × Nat × Nat × Nat) := (2, 0, 0, 0, 0, 0) :: (0, 0, 1, 0, 0, 0) :: (2, 0, 0, 0, 0, 0) :: (36, 3, 0, 5, 33, 1144) :: (50, 17, 5, 3, 64, 3021) :: bl_74_16
def bl_74_0 : List (Nat × Nat × Int × Nat × Nat × Nat) := (2, 0, 0, 0, 0, 0) :: (50, 20, 5, 1, 75, 2193) :: (0, 1, 59, 0, 0, 0) :: (21, 11, 16, 0, 0, 0) :: (2, 0, 0, 0, 0, 0) :: (18, 0, 0, 0, 0, 0) :: (36, 3, 0, 5, 33, 1144) :: (0, 0, 1, 0, 0, 0) :: (6, 0, 0, 0, 0, 0) :: (38, 3, 0, 5, 33, 1144) :: (32, 16, 12, 0, 0, 0) :: bl_74_11
-- 75 X5_skipSpaces
def bl_75_16 : List (Nat × Nat × Int × Nat × Nat × Nat) := (57, 0, 0, 0, 0, 0) :: []
def bl_75_0 : List (Nat × Nat × Int × Nat × Nat × Nat) := (2, 0, 0, 0, 0, 0) :: (36, 3, 0, 5, 33, 1144) :: (2, 0, 0, 0, 0, 0) :: (36, 2, 0, 5, 22, 1143) :: (23, 16, 25, 0, 0, 0) :: (2, 0, 0, 0, 0, 0) :: (50, 20, 5, 1, 75, 2193) :: (0, 1, 32, 0, 0, 0) :: (21, 16, 16, 0, 0, 0) :: (2, 0, 0, 0, 0, 0) :: (18, 0, 0, 0, 0, 0) :: (36, 3, 0, 5, 33, 1144) :: (0, 0, 1, 0, 0, 0) :: (6, 0, 0, 0, 0, 0) :: (38, 3, 0, 5, 33, 1144) :: (32, 0, (-30), 0, 0, 0) :: bl_75_16
-- 76 X6_carsPaidTo
def bl_76_35 : List (Nat × Nat × Int × Nat × Nat × Nat) := (1, 3, 0, 0, 0, 0) :: (55, 0, 0, 0, 0, 0) :: []
def bl_76_33 : List (Nat × Nat × Int × Nat × Nat × Nat) := (5, 6, 1, 0, 0, 0) :: (32, 10, (-46), 0, 0, 0) :: bl_76_35
def bl_76_10 : List (Nat × Nat × Int × Nat × Nat × Nat) := (1, 6, 0, 0, 1, 0) :: (1, 5, 0, 0, 1, 0) :: (23, 35, 45, 0, 0, 0) :: (2, 4, 0, 0, 1, 0) :: (1, 6, 0, 0, 1, 0) :: (46, 0, 0, 0, 0, 0) :: (4, 7, 0, 0, 1, 0) :: (2, 7, 0, 0, 1, 0) :: (1, 1, 0, 0, 0, 0) :: (0, 0, 1, 0, 0, 0) :: (50, 9, 0, 3, 91, 3220) :: (26, 33, 22, 0, 0, 0) :: (2, 7, 0, 0, 1, 0) :: (36, 3, 0, 0, 101, 1231) :: (1, 2, 0, 0, 0, 0) :: (24, 33, 13, 0, 0, 0) :: (1, 3, 0, 0, 0, 0) :: (0, 0, 1, 0, 0, 0) :: (2, 7, 0, 0, 1, 0) :: (36, 0, 0, 0, 60, 1220) :: (14, 0, 0, 0, 0, 0) :: (12, 0, 0, 0, 0, 0) :: (3, 3, 0, 0, 0, 0) :: bl_76_33
def bl_76_0 : List (Nat × Nat × Int × Nat × Nat × Nat) := (0, 0, 0, 0, 0, 0) :: (3, 3, 0, 0, 0, 0) :: (2, 0, 0, 0, 0, 0) :: (37, 1, 0, 6, 20, 2039) :: (4, 4, 0, 0, 1, 0) :: (2, 4, 0, 0, 1, 0) :: (48, 0, 0, 0, 0, 0) :: (3, 5, 0, 0, 1, 0) :: (0, 0, 0, 0, 0, 0) :: (3, 6, 0, 0, 1, 0) :: bl_76_10
-- 77 X6_carsToTow
def bl_77_31 : List (Nat × Nat × Int × Nat × Nat × Nat) := (1, 1, 0, 0, 0, 0) :: (55, 0, 0, 0, 0, 0) :: []
def bl_77_29 : List (Nat × Nat × Int × Nat × Nat × Nat) := (5, 4, 1, 0, 0, 0) :: (32, 10, (-37), 0, 0, 0) :: bl_77_31
def bl_77_10 : List (Nat × Nat × Int × Nat × Nat × Nat) := (1, 4, 0, 0, 1, 0) :: (1, 3, 0, 0, 0, 0) :: (23, 31, 37, 0, 0, 0) :: (2, 2, 0, 0, 0, 0) :: (1, 4, 0, 0, 1, 0) :: (46, 0, 0, 0, 0, 0) :: (4, 5, 0, 0, 1, 0) :: (2, 5, 0, 0, 1, 0) :: (2, 0, 0, 0, 0, 0) :: (36, 3, 0, 6, 48, 2043) :: (50, 5, 0, 2, 189, 4055) :: (26, 29, 13, 0, 0, 0) :: (1, 1, 0, 0, 0, 0) :: (0, 0, 1, 0, 0, 0) :: (2, 5, 0, 0, 1, 0) :: (36, 0, 0, 0, 60, 1220) :: (14, 0, 0, 0, 0, 0) :: (12, 0, 0, 0, 0, 0) :: (3, 1, 0, 0, 0, 0) :: bl_77_29
def bl_77_0 : List (Nat × Nat × Int × Nat × Nat × Nat) := (0, 0, 0, 0, 0, 0) :: (3, 1, 0, 0, 0, 0) :: (2, 0, 0, 0, 0, 0) :: (37, 1, 0, 6, 20, 2039) :: (4, 2, 0, 0, 0, 0) :: (2, 2, 0, 0, 0, 0) :: (48, 0, 0, 0, 0, 0) :: (3, 3, 0, 0, 0, 0) :: (0, 0, 0, 0, 0, 0) :: (3, 4, 0, 0, 1, 0) :: bl_77_10
-- 78 X6_poundRoom
def bl_78_29 : List (Nat × Nat × Int × Nat × Nat × Nat) := (1, 2, 0, 0, 0, 0) :: (55, 0, 0, 0, 0, 0) :: []
def bl_78_27 : List (Nat × Nat × Int × Nat × Nat × Nat) := (5, 5, 1, 0, 0, 0) :: (32, 14, (-29), 0, 0, 0) :: bl_78_29
def bl_78_14 : List (Nat × Nat × Int × Nat × Nat × Nat) := (1, 5, 0, 0, 1, 0) :: (1, 4, 0, 0, 1, 0) :: (23, 29, 28, 0, 0, 0) :: (2, 3, 0, 0, 0, 0) :: (1, 5, 0, 0, 1, 0) :: (46, 0, 0, 0, 0, 0) :: (4, 6, 0, 0, 1, 0) :: (2, 6, 0, 0, 1, 0) :: (1, 1, 0, 0, 0, 0) :: (0, 0, 3, 0, 0, 0) :: (50, 9, 0, 3, 91, 3220) :: (26, 27, 6, 0, 0, 0) :: (5, 2, (-1), 0, 0, 0) :: bl_78_27
def bl_78_0 : List (Nat × Nat × Int × Nat × Nat × Nat) := (2, 0, 0, 0, 0, 0) :: (37, 0, 0, 6, 12, 2035) :: (37, 5, 0, 4, 88, 1117) :: (1, 1, 0, 0, 0, 0) :: (52, 23, 8, 2, 75, 13) :: (3, 2, 0, 0, 0, 0) :: (2, 0, 0, 0, 0, 0) :: (37, 1, 0, 6, 20, 2039) :: (4, 3, 0, 0, 0, 0) :: (2, 3, 0, 0, 0, 0) :: (48, 0, 0, 0, 0, 0) :: (3, 4, 0, 0, 1, 0) :: (0, 0, 0, 0, 0, 0) :: (3, 5, 0, 0, 1, 0) :: bl_78_14
-- 79 X7_chargedBefore
def bl_79_35 : List (Nat × Nat × Int × Nat × Nat × Nat) := (1, 1, 0, 0, 0, 0) :: (0, 2, 1440, 0, 0, 0) :: (9, 0, 0, 0, 0, 0) :: (1, 3, 0, 0, 0, 0) :: (8, 0, 0, 0, 0, 0) :: (1, 4, 0, 0, 1, 0) :: (6, 0, 0, 0, 0, 0) :: (55, 0, 0, 0, 0, 0) :: []
def bl_79_33 : List (Nat × Nat × Int × Nat × Nat × Nat) := (5, 5, 1, 0, 0, 0) :: (32, 10, (-47), 0, 0, 0) :: bl_79_35
def bl_79_10 : List (Nat × Nat × Int × Nat × Nat × Nat) := (1, 5, 0, 0, 1, 0) :: (2, 0, 0, 0, 0, 0) :: (37, 0, 0, 7, 9, 1052) :: (48, 0, 0, 0, 0, 0) :: (23, 35, 43, 0, 0, 0) :: (2, 0, 0, 0, 0, 0) :: (37, 0, 0, 7, 9, 1052) :: (1, 5, 0, 0, 1, 0) :: (40, 0, 0, 0, 0, 0) :: (31, 33, 27, 0, 0, 0) :: (5, 3, 60, 0, 0, 0) :: (1, 4, 0, 0, 1, 0) :: (0, 0, 0, 0, 0, 0) :: (0, 1, 60, 0, 0, 0) :: (1, 2, 0, 0, 0, 0) :: (1, 5, 0, 0, 1, 0) :: (0, 1, 60, 0, 0, 0) :: (8, 0, 0, 0, 0, 0) :: (7, 0, 0, 0, 0, 0) :: (76, 0, 0, 0, 51, 3210) :: (75, 0, 0, 0, 56, 3211) :: (6, 0, 0, 0, 0, 0) :: (3, 4, 0, 0, 1, 0) :: bl_79_33
def bl_79_0 : List (Nat × Nat × Int × Nat × Nat × Nat) := (1, 1, 0, 0, 0, 0) :: (0, 2, 1440, 0, 0, 0) :: (10, 0, 0, 0, 0, 0) :: (3, 2, 0, 0, 0, 0) :: (0, 0, 0, 0, 0, 0) :: (3, 3, 0, 0, 0, 0) :: (0, 0, 0, 0, 0, 0) :: (3, 4, 0, 0, 1, 0) :: (0, 0, 0, 0, 0, 0) :: (3, 5, 0, 0, 1, 0) :: bl_79_10
-- 80 X7_clear
def bl_80_0 : List (Nat × Nat × Int × Nat × Nat × Nat) := (2, 0, 0, 0, 0, 0) :: (37, 0, 0, 7, 9, 1052) :: (0, 0, 0, 0, 0, 0) :: (49, 4, 99, 2, 19, 1076) :: (2, 0, 0, 0, 0, 0) :: (0, 1, 120, 0, 0, 0) :: (38, 1, 0, 7, 15, 1054) :: (57, 0, 0, 0, 0, 0) :: []
-- 81 X7_init
def bl_81_0 : List (Nat × Nat × Int × Nat × Nat × Nat) := (2, 0, 0, 0, 0, 0) :: (63, 0, 0, 0, 3, 1051) :: (2, 0, 0, 0, 0, 0) :: (0, 1, 24, 0, 0, 0) :: (59, 0, 0, 0, 0, 0) :: (39, 0, 0, 7, 9, 1052) :: (2, 0, 0, 0, 0, 0) :: (0, 1, 120, 0, 0, 0) :: (38, 1, 0, 7, 15, 1054) :: (57, 0, 0, 0, 0, 0) :: []
-- 82 X7_rateAt
def bl_82_0 : List (Nat × Nat × Int × Nat × Nat × Nat) := (2, 0, 0, 0, 0, 0) :: (37, 0, 0, 7, 9, 1052) :: (1, 1, 0, 0, 0, 0) :: (0, 1, 60, 0, 0, 0) :: (9, 0, 0, 0, 0, 0) :: (0, 1, 24, 0, 0, 0) :: (10, 0, 0, 0, 0, 0) :: (52, 23, 8, 2, 33, 15) :: (55, 0, 0, 0, 0, 0) :: []
-- 83 X7_setRates
def bl_83_12 : List (Nat × Nat × Int × Nat × Nat × Nat) := (57, 0, 0, 0, 0, 0) :: []
def bl_83_2 : List (Nat × Nat × Int × Nat × Nat × Nat) := (1, 4, 0, 0, 1, 0) :: (1, 2, 0, 0, 0, 0) :: (23, 12, 19, 0, 0, 0) :: (2, 0, 0, 0, 0, 0) :: (37, 0, 0, 7, 9, 1052) :: (1, 4, 0, 0, 1, 0) :: (1, 3, 0, 0, 0, 0) :: (52, 31, 8, 3, 29, 11) :: (5, 4, 1, 0, 0, 0) :: (32, 2, (-19), 0, 0, 0) :: bl_83_12
def bl_83_0 : List (Nat × Nat × Int × Nat × Nat × Nat) := (1, 1, 0, 0, 0, 0) :: (3, 4, 0, 0, 1, 0) :: bl_83_2
-- 84 X8_clampedSince
def bl_84_17 : List (Nat × Nat × Int × Nat × Nat × Nat) := (55, 0, 0, 0, 0, 0) :: []
def bl_84_16 : List (Nat × Nat × Int × Nat × Nat × Nat) := (0, 1, (-2), 0, 0, 0) :: bl_84_17
def bl_84_9 : List (Nat × Nat × Int × Nat × Nat × Nat) := (2, 2, 0, 0, 0, 0) :: (36, 1, 0, 0, 99, 1223) :: (0, 0, 2, 0, 0, 0) :: (21, 16, 10, 0, 0, 0) :: (2, 2, 0, 0, 0, 0) :: (36, 4, 0, 0, 257, 1235) :: (32, 17, 5, 0, 0, 0) :: bl_84_16
def bl_84_0 : List (Nat × Nat × Int × Nat × Nat × Nat) := (2, 0, 0, 0, 0, 0) :: (37, 1, 0, 8, 19, 2138) :: (1, 1, 0, 0, 0, 0) :: (50, 22, 6, 2, 91, 3120) :: (4, 2, 0, 0, 0, 0) :: (2, 2, 0, 0, 0, 0) :: (34, 9, 5, 0, 0, 0) :: (0, 0, (-1), 0, 0, 0) :: (55, 0, 0, 0, 0, 0) :: bl_84_9
-- 85 X8_copyRow
def bl_85_0 : List (Nat × Nat × Int × Nat × Nat × Nat) := (2, 0, 0, 0, 0, 0) :: (0, 0, 0, 0, 0, 0) :: (2, 1, 0, 0, 0, 0) :: (0, 0, 0, 0, 0, 0) :: (2, 0, 0, 0, 0, 0) :: (48, 0, 0, 0, 0, 0) :: (2, 1, 0, 0, 0, 0) :: (48, 0, 0, 0, 0, 0) :: (76, 0, 0, 0, 339, 1084) :: (64, 0, 0, 0, 342, 1087) :: (57, 0, 0, 0, 0, 0) :: []
-- 86 X8_credit
def bl_86_11 : List (Nat × Nat × Int × Nat × Nat × Nat) := (55, 0, 0, 0, 0, 0) :: []
def bl_86_9 : List (Nat × Nat × Int × Nat × Nat × Nat) := (2, 2, 0, 0, 0, 0) :: (36, 10, 0, 0, 251, 2011) :: bl_86_11
def bl_86_0 : List (Nat × Nat × Int × Nat × Nat × Nat) := (2, 0, 0, 0, 0, 0) :: (37, 1, 0, 8, 19, 2138) :: (1, 1, 0, 0, 0, 0) :: (50, 22, 6, 2, 91, 3120) :: (4, 2, 0, 0, 0, 0) :: (2, 2, 0, 0, 0, 0) :: (34, 9, 7, 0, 0, 0) :: (0, 0, (-1), 0, 0, 0) :: (32, 11, 7, 0, 0, 0) :: bl_86_9
-- 87 X8_fees
def bl_87_11 : List (Nat × Nat × Int × Nat × Nat × Nat) := (55, 0, 0, 0, 0, 0) :: []
def bl_87_9 : List (Nat × Nat × Int × Nat × Nat × Nat) := (2, 2, 0, 0, 0, 0) :: (36, 9, 0, 0, 254, 2008) :: bl_87_11
def bl_87_0 : List (Nat × Nat × Int × Nat × Nat × Nat) := (2, 0, 0, 0, 0, 0) :: (37, 1, 0, 8, 19, 2138) :: (1, 1, 0, 0, 0, 0) :: (50, 22, 6, 2, 91, 3120) :: (4, 2, 0, 0, 0, 0) :: (2, 2, 0, 0, 0, 0) :: (34, 9, 7, 0, 0, 0) :: (0, 0, (-1), 0, 0, 0) :: (32, 11, 7, 0, 0, 0) :: bl_87_9
-- 88 X8_isTicketPaid
def bl_88_16 : List (Nat × Nat × Int × Nat × Nat × Nat) := (55, 1, 0, 0, 0, 0) :: []
def bl_88_15 : List (Nat × Nat × Int × Nat × Nat × Nat) := (0, 0, 0, 0, 0, 0) :: bl_88_16
def bl_88_0 : List (Nat × Nat × Int × Nat × Nat × Nat) := (2, 0, 0, 0, 0, 0) :: (37, 1, 0, 8, 19, 2138) :: (1, 1, 0, 0, 0, 0) :: (50, 22, 6, 2, 91, 3120) :: (4, 3, 0, 0, 0, 0) :: (2, 3, 0, 0, 0, 0) :: (33, 15, 19, 0, 0, 0) :: (1, 2, 0, 0, 0, 0) :: (28, 15, 15, 0, 0, 0) :: (1, 2, 0, 0, 0, 0) :: (2, 3, 0, 0, 0, 0) :: (36, 6, 0, 0, 248, 2001) :: (23, 15, 7, 0, 0, 0) :: (0, 0, 1, 0, 0, 0) :: (32, 16, 4, 0, 0, 0) :: bl_88_15
-- 89 X8_longestStay
def bl_89_12 : List (Nat × Nat × Int × Nat × Nat × Nat) := (55, 0, 0, 0, 0, 0) :: []
def bl_89_10 : List (Nat × Nat × Int × Nat × Nat × Nat) := (2, 2, 0, 0, 0, 0) :: (36, 1, 0, 7, 211, 1057) :: bl_89_12
def bl_89_0 : List (Nat × Nat × Int × Nat × Nat × Nat) := (2, 0, 0, 0, 0, 0) :: (37, 1, 0, 8, 19, 2138) :: (37, 0, 0, 6, 75, 2038) :: (1, 1, 0, 0, 0, 0) :: (50, 16, 4, 2, 185, 4125) :: (4, 2, 0, 0, 0, 0) :: (2, 2, 0, 0, 0, 0) :: (34, 10, 7, 0, 0, 0) :: (0, 0, (-1), 0, 0, 0) :: (32, 12, 7, 0, 0, 0) :: bl_89_10
-- 90 X8_paidUntil
def bl_90_17 : List (Nat × Nat × Int × Nat × Nat × Nat) := (55, 0, 0, 0, 0, 0) :: []
def bl_90_16 : List (Nat × Nat × Int × Nat × Nat × Nat) := (0, 1, (-2), 0, 0, 0) :: bl_90_17
def bl_90_9 : List (Nat × Nat × Int × Nat × Nat × Nat) := (2, 2, 0, 0, 0, 0) :: (36, 1, 0, 0, 99, 1223) :: (0, 0, 1, 0, 0, 0) :: (21, 16, 10, 0, 0, 0) :: (2, 2, 0, 0, 0, 0) :: (36, 3, 0, 0, 120, 1230) :: (32, 17, 5, 0, 0, 0) :: bl_90_16
def bl_90_0 : List (Nat × Nat × Int × Nat × Nat × Nat) := (2, 0, 0, 0, 0, 0) :: (37, 1, 0, 8, 19, 2138) :: (1, 1, 0, 0, 0, 0) :: (50, 22, 6, 2, 91, 3120) :: (4, 2, 0, 0, 0, 0) :: (2, 2, 0, 0, 0, 0) :: (34, 9, 5, 0, 0, 0) :: (0, 0, (-1), 0, 0, 0) :: (55, 0, 0, 0, 0, 0) :: bl_90_9
-- 91 X8_placeOf
def bl_91_16 : List (Nat × Nat × Int × Nat × Nat × Nat) := (55, 0, 0, 0, 0, 0) :: []
def bl_91_14 : List (Nat × Nat × Int × Nat × Nat × Nat) := (2, 2, 0, 0, 0, 0) :: (36, 2, 0, 0, 129, 1227) :: bl_91_16
def bl_91_9 : List (Nat × Nat × Int × Nat × Nat × Nat) := (2, 2, 0, 0, 0, 0) :: (36, 1, 0, 0, 99, 1223) :: (27, 14, 8, 0, 0, 0) :: (0, 1, (-2), 0, 0, 0) :: (32, 16, 7, 0, 0, 0) :: bl_91_14
def bl_91_0 : List (Nat × Nat × Int × Nat × Nat × Nat) := (2, 0, 0, 0, 0, 0) :: (37, 1, 0, 8, 19, 2138) :: (1, 1, 0, 0, 0, 0) :: (50, 22, 6, 2, 91, 3120) :: (4, 2, 0, 0, 0, 0) :: (2, 2, 0, 0, 0, 0) :: (34, 9, 5, 0, 0, 0) :: (0, 0, (-1), 0, 0, 0) :: (55, 0, 0, 0, 0, 0) :: bl_91_9
-- 92 X8_rate
def bl_92_15 : List (Nat × Nat × Int × Nat × Nat × Nat) := (2, 3, 0, 0, 0, 0) :: (37, 0, 0, 7, 189, 1053) :: (1, 2, 0, 0, 0, 0) :: (49, 23, 8, 2, 166, 4116) :: (55, 0, 0, 0, 0, 0) :: []
def bl_92_13 : List (Nat × Nat × Int × Nat × Nat × Nat) := (0, 0, (-1), 0, 0, 0) :: (55, 0, 0, 0, 0, 0) :: bl_92_15
def bl_92_0 : List (Nat × Nat × Int × Nat × Nat × Nat) := (2, 0, 0, 0, 0, 0) :: (37, 1, 0, 8, 19, 2138) :: (37, 0, 0, 6, 75, 2038) :: (1, 1, 0, 0, 0, 0) :: (50, 16, 4, 2, 185, 4125) :: (4, 3, 0, 0, 0, 0) :: (2, 3, 0, 0, 0, 0) :: (33, 13, 13, 0, 0, 0) :: (1, 2, 0, 0, 0, 0) :: (0, 0, 0, 0, 0, 0) :: (0, 1, 23, 0, 0, 0) :: (49, 33, 8, 3, 45, 2160) :: (27, 15, 5, 0, 0, 0) :: bl_92_13
-- 93 X8_setRate
def bl_93_20 : List (Nat × Nat × Int × Nat × Nat × Nat) := (2, 4, 0, 0, 1, 0) :: (37, 0, 0, 7, 189, 1053) :: (1, 2, 0, 0, 0, 0) :: (49, 23, 8, 2, 166, 4116) :: (3, 5, 0, 0, 1, 0) :: (2, 4, 0, 0, 1, 0) :: (37, 0, 0, 7, 189, 1053) :: (1, 2, 0, 0, 0, 0) :: (1, 3, 0, 0, 0, 0) :: (49, 31, 8, 3, 194, 4126) :: (1, 5, 0, 0, 1, 0) :: (55, 0, 0, 0, 0, 0) :: []
def bl_93_18 : List (Nat × Nat × Int × Nat × Nat × Nat) := (0, 0, (-1), 0, 0, 0) :: (55, 0, 0, 0, 0, 0) :: bl_93_20
def bl_93_0 : List (Nat × Nat × Int × Nat × Nat × Nat) := (2, 0, 0, 0, 0, 0) :: (37, 1, 0, 8, 19, 2138) :: (37, 0, 0, 6, 75, 2038) :: (1, 1, 0, 0, 0, 0) :: (50, 16, 4, 2, 185, 4125) :: (4, 4, 0, 0, 1, 0) :: (2, 4, 0, 0, 1, 0) :: (33, 18, 24, 0, 0, 0) :: (1, 2, 0, 0, 0, 0) :: (0, 0, 0, 0, 0, 0) :: (0, 1, 23, 0, 0, 0) :: (49, 33, 8, 3, 45, 2160) :: (26, 18, 14, 0, 0, 0) :: (1, 3, 0, 0, 0, 0) :: (0, 0, 0, 0, 0, 0) :: (0, 2, 999, 0, 0, 0) :: (49, 33, 8, 3, 45, 2160) :: (27, 20, 5, 0, 0, 0) :: bl_93_18
-- 94 X8_state
def bl_94_11 : List (Nat × Nat × Int × Nat × Nat × Nat) := (55, 0, 0, 0, 0, 0) :: []
def bl_94_9 : List (Nat × Nat × Int × Nat × Nat × Nat) := (2, 2, 0, 0, 0, 0) :: (36, 1, 0, 0, 99, 1223) :: bl_94_11
def bl_94_0 : List (Nat × Nat × Int × Nat × Nat × Nat) := (2, 0, 0, 0, 0, 0) :: (37, 1, 0, 8, 19, 2138) :: (1, 1, 0, 0, 0, 0) :: (50, 22, 6, 2, 91, 3120) :: (4, 2, 0, 0, 0, 0) :: (2, 2, 0, 0, 0, 0) :: (34, 9, 7, 0, 0, 0) :: (0, 0, (-1), 0, 0, 0) :: (32, 11, 7, 0, 0, 0) :: bl_94_9
-- 95 X8_ticketCount
def bl_95_11 : List (Nat × Nat × Int × Nat × Nat × Nat) := (55, 0, 0, 0, 0, 0) :: []
def bl_95_9 : List (Nat × Nat × Int × Nat × Nat × Nat) := (2, 2, 0, 0, 0, 0) :: (36, 5, 0, 0, 226, 1238) :: bl_95_11
def bl_95_0 : List (Nat × Nat × Int × Nat × Nat × Nat) := (2, 0, 0, 0, 0, 0) :: (37, 1, 0, 8, 19, 2138) :: (1, 1, 0, 0, 0, 0) :: (50, 22, 6, 2, 91, 3120) :: (4, 2, 0, 0, 0, 0) :: (2, 2, 0, 0, 0, 0) :: (34, 9, 7, 0, 0, 0) :: (0, 0, (-1), 0, 0, 0) :: (32, 11, 7, 0, 0, 0) :: bl_95_9
-- 96 X8_zone
def bl_96_14 : List (Nat × Nat × Int × Nat × Nat × Nat) := (55, 0, 0, 0, 0, 0) :: []
def bl_96_13 : List (Nat × Nat × Int × Nat × Nat × Nat) := (0, 0, (-1), 0, 0, 0) :: bl_96_14
def bl_96_0 : List (Nat × Nat × Int × Nat × Nat × Nat) := (2, 0, 0, 0, 0, 0) :: (37, 1, 0, 8, 19, 2138) :: (37, 0, 0, 6, 75, 2038) :: (1, 1, 0, 0, 0, 0) :: (50, 15, 4, 2, 95, 3124) :: (26, 13, 20, 0, 0, 0) :: (2, 0, 0, 0, 0, 0) :: (37, 1, 0, 8, 19, 2138) :: (37, 0, 0, 6, 75, 2038) :: (37, 3, 0, 4, 208, 1112) :: (1, 1, 0, 0, 0, 0) :: (49, 23, 8, 2, 166, 4116) :: (32, 14, 4, 0, 0, 0) :: bl_96_13
-- 97 X9_advance
def bl_97_25 : List (Nat × Nat × Int × Nat × Nat × Nat) := (2, 0, 0, 0, 0, 0) :: (37, 0, 0, 9, 9, 6114) :: (0, 0, 2, 0, 0, 0) :: (69, 0, 0, 0, 0, 0) :: (40, 0, 0, 0, 0, 0) :: (1, 1, 0, 0, 0, 0) :: (6, 0, 0, 0, 0, 0) :: (41, 0, 0, 0, 0, 0) :: (2, 0, 0, 0, 0, 0) :: (37, 0, 0, 9, 9, 6114) :: (0, 0, 2, 0, 0, 0) :: (40, 0, 0, 0, 0, 0) :: (55, 0, 0, 0, 0, 0) :: []
def bl_97_15 : List (Nat × Nat × Int × Nat × Nat × Nat) := (2, 0, 0, 0, 0, 0) :: (37, 0, 0, 9, 9, 6114) :: (0, 0, 2, 0, 0, 0) :: (40, 0, 0, 0, 0, 0) :: (1, 1, 0, 0, 0, 0) :: (6, 0, 0, 0, 0, 0) :: (0, 2, 10079, 0, 0, 0) :: (25, 25, 6, 0, 0, 0) :: (0, 1, (-4), 0, 0, 0) :: (55, 0, 0, 0, 0, 0) :: bl_97_25
def bl_97_9 : List (Nat × Nat × Int × Nat × Nat × Nat) := (38, 4, 0, 9, 59, 6118) :: (2, 0, 0, 0, 0, 0) :: (36, 4, 0, 9, 59, 6118) :: (31, 15, 5, 0, 0, 0) :: (0, 0, 0, 0, 0, 0) :: (55, 0, 0, 0, 0, 0) :: bl_97_15
def bl_97_8 : List (Nat × Nat × Int × Nat × Nat × Nat) := (0, 0, 1, 0, 0, 0) :: bl_97_9
def bl_97_0 : List (Nat × Nat × Int × Nat × Nat × Nat) := (2, 0, 0, 0, 0, 0) :: (1, 1, 0, 0, 0, 0) :: (0, 0, 0, 0, 0, 0) :: (0, 2, 1440, 0, 0, 0) :: (49, 40, 9, 3, 70, 6204) :: (26, 8, 7, 0, 0, 0) :: (0, 0, 0, 0, 0, 0) :: (32, 9, 4, 0, 0, 0) :: bl_97_8
-- 98 X9_appendByte
def bl_98_14 : List (Nat × Nat × Int × Nat × Nat × Nat) := (2, 0, 0, 0, 0, 0) :: (37, 5, 0, 9, 23, 6119) :: (2, 0, 0, 0, 0, 0) :: (36, 6, 0, 9, 74, 6120) :: (1, 1, 0, 0, 0, 0) :: (17, 0, 0, 0, 0, 0) :: (45, 0, 0, 0, 0, 0) :: (2, 0, 0, 0, 0, 0) :: (18, 0, 0, 0, 0, 0) :: (36, 6, 0, 9, 74, 6120) :: (0, 0, 1, 0, 0, 0) :: (6, 0, 0, 0, 0, 0) :: (38, 6, 0, 9, 74, 6120) :: (2, 0, 0, 0, 0, 0) :: (36, 6, 0, 9, 74, 6120) :: (55, 0, 0, 0, 0, 0) :: []
def bl_98_12 : List (Nat × Nat × Int × Nat × Nat × Nat) := (0, 0, (-1), 0, 0, 0) :: (55, 0, 0, 0, 0, 0) :: bl_98_14
def bl_98_0 : List (Nat × Nat × Int × Nat × Nat × Nat) := (2, 0, 0, 0, 0, 0) :: (0, 0, 0, 0, 0, 0) :: (38, 4, 0, 9, 59, 6118) :: (1, 1, 0, 0, 0, 0) :: (0, 0, 0, 0, 0, 0) :: (0, 2, 255, 0, 0, 0) :: (49, 40, 9, 3, 70, 6204) :: (26, 12, 13, 0, 0, 0) :: (2, 0, 0, 0, 0, 0) :: (36, 6, 0, 9, 74, 6120) :: (0, 2, 600, 0, 0, 0) :: (21, 14, 5, 0, 0, 0) :: bl_98_12
-- 99 X9_bought
def bl_99_39 : List (Nat × Nat × Int × Nat × Nat × Nat) := (1, 4, 0, 0, 1, 0) :: (55, 0, 0, 0, 0, 0) :: []
def bl_99_6 : List (Nat × Nat × Int × Nat × Nat × Nat) := (1, 4, 0, 0, 1, 0) :: (2, 0, 0, 0, 0, 0) :: (37, 0, 0, 9, 9, 6114) :: (0, 0, 2, 0, 0, 0) :: (40, 0, 0, 0, 0, 0) :: (2, 0, 0, 0, 0, 0) :: (37, 0, 0, 9, 9, 6114) :: (0, 2, 329, 0, 0, 0) :: (2, 0, 0, 0, 0, 0) :: (37, 0, 0, 9, 9, 6114) :: (0, 2, 203, 0, 0, 0) :: (1, 1, 0, 0, 0, 0) :: (6, 0, 0, 0, 0, 0) :: (40, 0, 0, 0, 0, 0) :: (6, 0, 0, 0, 0, 0) :: (40, 0, 0, 0, 0, 0) :: (6, 0, 0, 0, 0, 0) :: (23, 39, 33, 0, 0, 0) :: (2, 0, 0, 0, 0, 0) :: (1, 1, 0, 0, 0, 0) :: (1, 4, 0, 0, 1, 0) :: (50, 35, 9, 3, 192, 7087) :: (1, 5, 0, 0, 1, 0) :: (24, 39, 21, 0, 0, 0) :: (1, 5, 0, 0, 1, 0) :: (2, 0, 0, 0, 0, 0) :: (1, 1, 0, 0, 0, 0) :: (1, 4, 0, 0, 1, 0) :: (50, 35, 9, 3, 192, 7087) :: (7, 0, 0, 0, 0, 0) :: (3, 5, 0, 0, 1, 0) :: (5, 4, 1, 0, 0, 0) :: (32, 6, (-58), 0, 0, 0) :: bl_99_39
def bl_99_0 : List (Nat × Nat × Int × Nat × Nat × Nat) := (1, 2, 0, 0, 0, 0) :: (3, 4, 0, 0, 1, 0) :: (0, 1, 60, 0, 0, 0) :: (1, 3, 0, 0, 0, 0) :: (8, 0, 0, 0, 0, 0) :: (3, 5, 0, 0, 1, 0) :: bl_99_6
-- 100 X9_busiestPlace
def bl_100_69 : List (Nat × Nat × Int × Nat × Nat × Nat) := (1, 2, 0, 0, 0, 0) :: (55, 0, 0, 0, 0, 0) :: []
def bl_100_67 : List (Nat × Nat × Int × Nat × Nat × Nat) := (5, 4, 1, 0, 0, 0) :: (32, 16, (-99), 0, 0, 0) :: bl_100_69
def bl_100_60 : List (Nat × Nat × Int × Nat × Nat × Nat) := (1, 5, 0, 0, 1, 0) :: (1, 3, 0, 0, 0, 0) :: (25, 67, 9, 0, 0, 0) :: (1, 4, 0, 0, 1, 0) :: (3, 2, 0, 0, 0, 0) :: (1, 5, 0, 0, 1, 0) :: (3, 3, 0, 0, 0, 0) :: bl_100_67
def bl_100_56 : List (Nat × Nat × Int × Nat × Nat × Nat) := (6, 0, 0, 0, 0, 0) :: (3, 5, 0, 0, 1, 0) :: (5, 6, 1, 0, 0, 0) :: (32, 26, (-64), 0, 0, 0) :: bl_100_60
def bl_100_55 : List (Nat × Nat × Int × Nat × Nat × Nat) := (0, 0, 0, 0, 0, 0) :: bl_100_56
def bl_100_26 : List (Nat × Nat × Int × Nat × Nat × Nat) := (1, 6, 0, 0, 1, 0) :: (2, 0, 0, 0, 0, 0) :: (37, 0, 0, 9, 9, 6114) :: (0, 2, 429, 0, 0, 0) :: (40, 0, 0, 0, 0, 0) :: (23, 60, 57, 0, 0, 0) :: (1, 5, 0, 0, 1, 0) :: (2, 0, 0, 0, 0, 0) :: (1, 6, 0, 0, 1, 0) :: (0, 0, 1, 0, 0, 0) :: (50, 37, 9, 3, 158, 7111) :: (0, 0, 1, 0, 0, 0) :: (21, 55, 34, 0, 0, 0) :: (2, 0, 0, 0, 0, 0) :: (1, 6, 0, 0, 1, 0) :: (0, 0, 3, 0, 0, 0) :: (50, 37, 9, 3, 158, 7111) :: (1, 4, 0, 0, 1, 0) :: (21, 55, 22, 0, 0, 0) :: (2, 0, 0, 0, 0, 0) :: (1, 6, 0, 0, 1, 0) :: (0, 0, 0, 0, 0, 0) :: (50, 37, 9, 3, 158, 7111) :: (0, 2, 1440, 0, 0, 0) :: (9, 0, 0, 0, 0, 0) :: (1, 1, 0, 0, 0, 0) :: (21, 55, 7, 0, 0, 0) :: (0, 0, 1, 0, 0, 0) :: (32, 56, 4, 0, 0, 0) :: bl_100_55
def bl_100_16 : List (Nat × Nat × Int × Nat × Nat × Nat) := (1, 4, 0, 0, 1, 0) :: (2, 0, 0, 0, 0, 0) :: (37, 0, 0, 9, 9, 6114) :: (0, 0, 0, 0, 0, 0) :: (40, 0, 0, 0, 0, 0) :: (23, 69, 94, 0, 0, 0) :: (0, 0, 0, 0, 0, 0) :: (3, 5, 0, 0, 1, 0) :: (0, 0, 0, 0, 0, 0) :: (3, 6, 0, 0, 1, 0) :: bl_100_26
def bl_100_10 : List (Nat × Nat × Int × Nat × Nat × Nat) := (0, 1, (-3), 0, 0, 0) :: (3, 2, 0, 0, 0, 0) :: (0, 0, 0, 0, 0, 0) :: (3, 3, 0, 0, 0, 0) :: (0, 0, 0, 0, 0, 0) :: (3, 4, 0, 0, 1, 0) :: bl_100_16
def bl_100_0 : List (Nat × Nat × Int × Nat × Nat × Nat) := (2, 0, 0, 0, 0, 0) :: (0, 0, 0, 0, 0, 0) :: (38, 4, 0, 9, 59, 6118) :: (1, 1, 0, 0, 0, 0) :: (0, 0, 0, 0, 0, 0) :: (0, 1, 6, 0, 0, 0) :: (49, 40, 9, 3, 70, 6204) :: (27, 10, 5, 0, 0, 0) :: (0, 0, (-1), 0, 0, 0) :: (55, 0, 0, 0, 0, 0) :: bl_100_10
-- 101 X9_daySum
def bl_101_56 : List (Nat × Nat × Int × Nat × Nat × Nat) := (1, 3, 0, 0, 0, 0) :: (55, 0, 0, 0, 0, 0) :: []
def bl_101_52 : List (Nat × Nat × Int × Nat × Nat × Nat) := (6, 0, 0, 0, 0, 0) :: (3, 3, 0, 0, 0, 0) :: (5, 4, 1, 0, 0, 0) :: (32, 25, (-56), 0, 0, 0) :: bl_101_56
def bl_101_51 : List (Nat × Nat × Int × Nat × Nat × Nat) := (0, 0, 0, 0, 0, 0) :: bl_101_52
def bl_101_25 : List (Nat × Nat × Int × Nat × Nat × Nat) := (1, 4, 0, 0, 1, 0) :: (2, 0, 0, 0, 0, 0) :: (37, 0, 0, 9, 9, 6114) :: (0, 2, 429, 0, 0, 0) :: (40, 0, 0, 0, 0, 0) :: (23, 56, 49, 0, 0, 0) :: (1, 3, 0, 0, 0, 0) :: (2, 0, 0, 0, 0, 0) :: (1, 4, 0, 0, 1, 0) :: (0, 0, 1, 0, 0, 0) :: (50, 37, 9, 3, 158, 7111) :: (1, 2, 0, 0, 0, 0) :: (21, 51, 28, 0, 0, 0) :: (2, 0, 0, 0, 0, 0) :: (1, 4, 0, 0, 1, 0) :: (0, 0, 0, 0, 0, 0) :: (50, 37, 9, 3, 158, 7111) :: (0, 2, 1440, 0, 0, 0) :: (9, 0, 0, 0, 0, 0) :: (1, 1, 0, 0, 0, 0) :: (21, 51, 13, 0, 0, 0) :: (2, 0, 0, 0, 0, 0) :: (1, 4, 0, 0, 1, 0) :: (0, 0, 3, 0, 0, 0) :: (50, 37, 9, 3, 158, 7111) :: (32, 52, 4, 0, 0, 0) :: bl_101_51
def bl_101_21 : List (Nat × Nat × Int × Nat × Nat × Nat) := (0, 0, 0, 0, 0, 0) :: (3, 3, 0, 0, 0, 0) :: (0, 0, 0, 0, 0, 0) :: (3, 4, 0, 0, 1, 0) :: bl_101_25
def bl_101_19 : List (Nat × Nat × Int × Nat × Nat × Nat) := (0, 0, (-1), 0, 0, 0) :: (55, 0, 0, 0, 0, 0) :: bl_101_21
def bl_101_0 : List (Nat × Nat × Int × Nat × Nat × Nat) := (2, 0, 0, 0, 0, 0) :: (0, 0, 0, 0, 0, 0) :: (38, 4, 0, 9, 59, 6118) :: (1, 1, 0, 0, 0, 0) :: (0, 0, 0, 0, 0, 0) :: (0, 1, 6, 0, 0, 0) :: (49, 40, 9, 3, 70, 6204) :: (26, 19, 24, 0, 0, 0) :: (1, 2, 0, 0, 0, 0) :: (0, 0, 2, 0, 0, 0) :: (20, 21, 21, 0, 0, 0) :: (1, 2, 0, 0, 0, 0) :: (0, 0, 4, 0, 0, 0) :: (0, 1, 8, 0, 0, 0) :: (49, 40, 9, 3, 70, 6204) :: (27, 21, 11, 0, 0, 0) :: (1, 2, 0, 0, 0, 0) :: (0, 1, 10, 0, 0, 0) :: (20, 21, 5, 0, 0, 0) :: bl_101_19
-- 102 X9_ends
def bl_102_54 : List (Nat × Nat × Int × Nat × Nat × Nat) := (1, 5, 0, 0, 1, 0) :: (0, 3, 1000000, 0, 63, 6109) :: (76, 0, 0, 0, 64, 6113) :: (55, 0, 0, 0, 0, 0) :: []
def bl_102_52 : List (Nat × Nat × Int × Nat × Nat × Nat) := (5, 6, 1, 0, 0, 0) :: (32, 21, (-55), 0, 0, 0) :: bl_102_54
def bl_102_21 : List (Nat × Nat × Int × Nat × Nat × Nat) := (1, 6, 0, 0, 1, 0) :: (2, 0, 0, 0, 0, 0) :: (37, 0, 0, 9, 9, 6114) :: (0, 0, 0, 0, 0, 0) :: (40, 0, 0, 0, 0, 0) :: (23, 54, 50, 0, 0, 0) :: (1, 4, 0, 0, 1, 0) :: (1, 6, 0, 0, 1, 0) :: (15, 0, 0, 0, 0, 0) :: (0, 0, 1, 0, 0, 0) :: (11, 0, 0, 0, 0, 0) :: (0, 0, 1, 0, 0, 0) :: (21, 52, 33, 0, 0, 0) :: (1, 5, 0, 0, 1, 0) :: (2, 0, 0, 0, 0, 0) :: (37, 22, 0, 9, 45, 6136) :: (0, 1, 10, 0, 0, 0) :: (1, 4, 0, 0, 1, 0) :: (8, 0, 0, 0, 0, 0) :: (1, 6, 0, 0, 1, 0) :: (6, 0, 0, 0, 0, 0) :: (40, 0, 0, 0, 0, 0) :: (2, 0, 0, 0, 0, 0) :: (1, 6, 0, 0, 1, 0) :: (1, 3, 0, 0, 0, 0) :: (50, 51, 9, 3, 249, 7168) :: (6, 0, 0, 0, 0, 0) :: (0, 0, 5, 0, 0, 0) :: (6, 0, 0, 0, 0, 0) :: (76, 0, 0, 0, 64, 6113) :: (3, 5, 0, 0, 1, 0) :: bl_102_52
def bl_102_18 : List (Nat × Nat × Int × Nat × Nat × Nat) := (3, 5, 0, 0, 1, 0) :: (0, 0, 0, 0, 0, 0) :: (3, 6, 0, 0, 1, 0) :: bl_102_21
def bl_102_17 : List (Nat × Nat × Int × Nat × Nat × Nat) := (0, 3, 1000000, 0, 63, 6109) :: bl_102_18
def bl_102_0 : List (Nat × Nat × Int × Nat × Nat × Nat) := (1, 2, 0, 0, 0, 0) :: (0, 0, 1, 0, 0, 0) :: (1, 3, 0, 0, 0, 0) :: (14, 0, 0, 0, 0, 0) :: (0, 0, (-1), 0, 0, 0) :: (13, 0, 0, 0, 0, 0) :: (11, 0, 0, 0, 0, 0) :: (3, 4, 0, 0, 1, 0) :: (1, 4, 0, 0, 1, 0) :: (27, 17, 14, 0, 0, 0) :: (2, 0, 0, 0, 0, 0) :: (1, 1, 0, 0, 0, 0) :: (1, 3, 0, 0, 0, 0) :: (50, 51, 9, 3, 249, 7168) :: (0, 0, 5, 0, 0, 0) :: (6, 0, 0, 0, 0, 0) :: (32, 18, 5, 0, 0, 0) :: bl_102_17
-- 103 X9_finds
def bl_103_98 : List (Nat × Nat × Int × Nat × Nat × Nat) := (57, 0, 0, 0, 0, 0) :: []
def bl_103_96 : List (Nat × Nat × Int × Nat × Nat × Nat) := (5, 1, 1, 0, 0, 0) :: (32, 39, (-89), 0, 0, 0) :: bl_103_98
def bl_103_94 : List (Nat × Nat × Int × Nat × Nat × Nat) := (5, 2, 1, 0, 0, 0) :: (32, 44, (-75), 0, 0, 0) :: bl_103_96
def bl_103_49 : List (Nat × Nat × Int × Nat × Nat × Nat) := (1, 3, 0, 0, 0, 0) :: (0, 1, 10, 0, 0, 0) :: (23, 94, 61, 0, 0, 0) :: (2, 0, 0, 0, 0, 0) :: (0, 1, 103, 0, 0, 0) :: (0, 1, 10, 0, 0, 0) :: (1, 2, 0, 0, 0, 0) :: (8, 0, 0, 0, 0, 0) :: (6, 0, 0, 0, 0, 0) :: (1, 1, 0, 0, 0, 0) :: (6, 0, 0, 0, 0, 0) :: (40, 0, 0, 0, 0, 0) :: (2, 0, 0, 0, 0, 0) :: (0, 1, 103, 0, 0, 0) :: (0, 1, 10, 0, 0, 0) :: (1, 1, 0, 0, 0, 0) :: (8, 0, 0, 0, 0, 0) :: (6, 0, 0, 0, 0, 0) :: (1, 3, 0, 0, 0, 0) :: (6, 0, 0, 0, 0, 0) :: (40, 0, 0, 0, 0, 0) :: (6, 0, 0, 0, 0, 0) :: (3, 4, 0, 0, 1, 0) :: (2, 0, 0, 0, 0, 0) :: (0, 1, 103, 0, 0, 0) :: (0, 1, 10, 0, 0, 0) :: (1, 2, 0, 0, 0, 0) :: (8, 0, 0, 0, 0, 0) :: (6, 0, 0, 0, 0, 0) :: (1, 3, 0, 0, 0, 0) :: (6, 0, 0, 0, 0, 0) :: (2, 0, 0, 0, 0, 0) :: (0, 1, 103, 0, 0, 0) :: (0, 1, 10, 0, 0, 0) :: (1, 2, 0, 0, 0, 0) :: (8, 0, 0, 0, 0, 0) :: (6, 0, 0, 0, 0, 0) :: (1, 3, 0, 0, 0, 0) :: (6, 0, 0, 0, 0, 0) :: (40, 0, 0, 0, 0, 0) :: (1, 4, 0, 0, 1, 0) :: (76, 0, 0, 0, 64, 6113) :: (41, 0, 0, 0, 0, 0) :: (5, 3, 1, 0, 0, 0) :: (32, 49, (-61), 0, 0, 0) :: bl_103_94
def bl_103_44 : List (Nat × Nat × Int × Nat × Nat × Nat) := (1, 2, 0, 0, 0, 0) :: (0, 1, 10, 0, 0, 0) :: (23, 96, 75, 0, 0, 0) :: (0, 0, 0, 0, 0, 0) :: (3, 3, 0, 0, 0, 0) :: bl_103_49
def bl_103_39 : List (Nat × Nat × Int × Nat × Nat × Nat) := (1, 1, 0, 0, 0, 0) :: (0, 1, 10, 0, 0, 0) :: (23, 98, 89, 0, 0, 0) :: (0, 0, 0, 0, 0, 0) :: (3, 2, 0, 0, 0, 0) :: bl_103_44
def bl_103_37 : List (Nat × Nat × Int × Nat × Nat × Nat) := (0, 0, 0, 0, 0, 0) :: (3, 1, 0, 0, 0, 0) :: bl_103_39
def bl_103_35 : List (Nat × Nat × Int × Nat × Nat × Nat) := (5, 1, 1, 0, 0, 0) :: (32, 2, (-53), 0, 0, 0) :: bl_103_37
def bl_103_32 : List (Nat × Nat × Int × Nat × Nat × Nat) := (41, 0, 0, 0, 0, 0) :: (5, 2, 1, 0, 0, 0) :: (32, 7, (-39), 0, 0, 0) :: bl_103_35
def bl_103_23 : List (Nat × Nat × Int × Nat × Nat × Nat) := (2, 0, 0, 0, 0, 0) :: (0, 0, 3, 0, 0, 0) :: (0, 1, 10, 0, 0, 0) :: (1, 1, 0, 0, 0, 0) :: (8, 0, 0, 0, 0, 0) :: (6, 0, 0, 0, 0, 0) :: (1, 2, 0, 0, 0, 0) :: (6, 0, 0, 0, 0, 0) :: (40, 0, 0, 0, 0, 0) :: bl_103_32
def bl_103_7 : List (Nat × Nat × Int × Nat × Nat × Nat) := (1, 2, 0, 0, 0, 0) :: (0, 1, 10, 0, 0, 0) :: (23, 35, 39, 0, 0, 0) :: (2, 0, 0, 0, 0, 0) :: (0, 1, 103, 0, 0, 0) :: (0, 1, 10, 0, 0, 0) :: (1, 1, 0, 0, 0, 0) :: (8, 0, 0, 0, 0, 0) :: (6, 0, 0, 0, 0, 0) :: (1, 2, 0, 0, 0, 0) :: (6, 0, 0, 0, 0, 0) :: (1, 1, 0, 0, 0, 0) :: (1, 2, 0, 0, 0, 0) :: (21, 23, 7, 0, 0, 0) :: (0, 0, 0, 0, 0, 0) :: (32, 32, 13, 0, 0, 0) :: bl_103_23
def bl_103_2 : List (Nat × Nat × Int × Nat × Nat × Nat) := (1, 1, 0, 0, 0, 0) :: (0, 1, 10, 0, 0, 0) :: (23, 37, 53, 0, 0, 0) :: (0, 0, 0, 0, 0, 0) :: (3, 2, 0, 0, 0, 0) :: bl_103_7
def bl_103_0 : List (Nat × Nat × Int × Nat × Nat × Nat) := (0, 0, 0, 0, 0, 0) :: (3, 1, 0, 0, 0, 0) :: bl_103_2
-- 104 X9_isAt
def bl_104_17 : List (Nat × Nat × Int × Nat × Nat × Nat) := (55, 1, 0, 0, 0, 0) :: []
def bl_104_16 : List (Nat × Nat × Int × Nat × Nat × Nat) := (0, 0, 0, 0, 0, 0) :: bl_104_17
def bl_104_0 : List (Nat × Nat × Int × Nat × Nat × Nat) := (2, 0, 0, 0, 0, 0) :: (1, 1, 0, 0, 0, 0) :: (0, 0, 0, 0, 0, 0) :: (50, 46, 9, 3, 161, 7054) :: (0, 0, 1, 0, 0, 0) :: (0, 0, 2, 0, 0, 0) :: (49, 40, 9, 3, 70, 6204) :: (26, 16, 17, 0, 0, 0) :: (2, 0, 0, 0, 0, 0) :: (1, 1, 0, 0, 0, 0) :: (0, 0, 1, 0, 0, 0) :: (50, 46, 9, 3, 161, 7054) :: (1, 2, 0, 0, 0, 0) :: (21, 16, 7, 0, 0, 0) :: (0, 0, 1, 0, 0, 0) :: (32, 17, 4, 0, 0, 0) :: bl_104_16
-- 105 X9_isCar
def bl_105_0 : List (Nat × Nat × Int × Nat × Nat × Nat) := (1, 0, 0, 0, 0, 0) :: (0, 0, 0, 0, 0, 0) :: (0, 1, 15, 0, 0, 0) :: (49, 40, 9, 3, 70, 6204) :: (55, 1, 0, 0, 0, 0) :: []
-- 106 X9_isPlace
def bl_106_0 : List (Nat × Nat × Int × Nat × Nat × Nat) := (1, 1, 0, 0, 0, 0) :: (0, 0, 0, 0, 0, 0) :: (2, 0, 0, 0, 0, 0) :: (37, 0, 0, 9, 9, 6114) :: (0, 0, 0, 0, 0, 0) :: (40, 0, 0, 0, 0, 0) :: (0, 0, 1, 0, 0, 0) :: (7, 0, 0, 0, 0, 0) :: (49, 40, 9, 3, 70, 6204) :: (55, 1, 0, 0, 0, 0) :: []
-- 107 X9_isTowable
def bl_107_20 : List (Nat × Nat × Int × Nat × Nat × Nat) := (55, 1, 0, 0, 0, 0) :: []
def bl_107_19 : List (Nat × Nat × Int × Nat × Nat × Nat) := (0, 0, 0, 0, 0, 0) :: bl_107_20
def bl_107_0 : List (Nat × Nat × Int × Nat × Nat × Nat) := (2, 0, 0, 0, 0, 0) :: (1, 1, 0, 0, 0, 0) :: (0, 0, 0, 0, 0, 0) :: (50, 46, 9, 3, 161, 7054) :: (0, 0, 2, 0, 0, 0) :: (21, 19, 26, 0, 0, 0) :: (2, 0, 0, 0, 0, 0) :: (37, 0, 0, 9, 9, 6114) :: (0, 0, 2, 0, 0, 0) :: (40, 0, 0, 0, 0, 0) :: (2, 0, 0, 0, 0, 0) :: (1, 1, 0, 0, 0, 0) :: (0, 0, 5, 0, 0, 0) :: (50, 46, 9, 3, 161, 7054) :: (0, 2, 180, 0, 0, 0) :: (6, 0, 0, 0, 0, 0) :: (22, 19, 7, 0, 0, 0) :: (0, 0, 1, 0, 0, 0) :: (32, 20, 4, 0, 0, 0) :: bl_107_19
-- 108 X9_isZone
def bl_108_0 : List (Nat × Nat × Int × Nat × Nat × Nat) := (1, 0, 0, 0, 0, 0) :: (0, 0, 0, 0, 0, 0) :: (0, 0, 3, 0, 0, 0) :: (49, 40, 9, 3, 70, 6204) :: (55, 1, 0, 0, 0, 0) :: []
-- 109 X9_next
def bl_109_11 : List (Nat × Nat × Int × Nat × Nat × Nat) := (2, 0, 0, 0, 0, 0) :: (2, 0, 0, 0, 0, 0) :: (36, 7, 0, 9, 77, 6121) :: (38, 8, 0, 9, 84, 6122) :: (2, 0, 0, 0, 0, 0) :: (50, 39, 9, 1, 80, 6219) :: (55, 0, 0, 0, 0, 0) :: []
def bl_109_0 : List (Nat × Nat × Int × Nat × Nat × Nat) := (2, 0, 0, 0, 0, 0) :: (50, 39, 9, 1, 80, 6219) :: (0, 1, 32, 0, 0, 0) :: (21, 11, 16, 0, 0, 0) :: (2, 0, 0, 0, 0, 0) :: (18, 0, 0, 0, 0, 0) :: (36, 7, 0, 9, 77, 6121) :: (0, 0, 1, 0, 0, 0) :: (6, 0, 0, 0, 0, 0) :: (38, 7, 0, 9, 77, 6121) :: (32, 0, (-19), 0, 0, 0) :: bl_109_11
-- 110 X9_ofLog
def bl_110_24 : List (Nat × Nat × Int × Nat × Nat × Nat) := (55, 0, 0, 0, 0, 0) :: []
def bl_110_20 : List (Nat × Nat × Int × Nat × Nat × Nat) := (2, 0, 0, 0, 0, 0) :: (1, 1, 0, 0, 0, 0) :: (1, 2, 0, 0, 0, 0) :: (50, 37, 9, 3, 158, 7111) :: bl_110_24
def bl_110_14 : List (Nat × Nat × Int × Nat × Nat × Nat) := (38, 4, 0, 9, 59, 6118) :: (2, 0, 0, 0, 0, 0) :: (36, 4, 0, 9, 59, 6118) :: (31, 20, 7, 0, 0, 0) :: (0, 0, 0, 0, 0, 0) :: (32, 24, 9, 0, 0, 0) :: bl_110_20
def bl_110_13 : List (Nat × Nat × Int × Nat × Nat × Nat) := (0, 0, 1, 0, 0, 0) :: bl_110_14
def bl_110_0 : List (Nat × Nat × Int × Nat × Nat × Nat) := (2, 0, 0, 0, 0, 0) :: (1, 1, 0, 0, 0, 0) :: (0, 0, 0, 0, 0, 0) :: (2, 0, 0, 0, 0, 0) :: (37, 0, 0, 9, 9, 6114) :: (0, 2, 429, 0, 0, 0) :: (40, 0, 0, 0, 0, 0) :: (0, 0, 1, 0, 0, 0) :: (7, 0, 0, 0, 0, 0) :: (49, 40, 9, 3, 70, 6204) :: (26, 13, 7, 0, 0, 0) :: (0, 0, 0, 0, 0, 0) :: (32, 14, 4, 0, 0, 0) :: bl_110_13
-- 111 X9_oldest
def bl_111_29 : List (Nat × Nat × Int × Nat × Nat × Nat) := (0, 0, (-1), 0, 0, 0) :: (55, 0, 0, 0, 0, 0) :: []
def bl_111_27 : List (Nat × Nat × Int × Nat × Nat × Nat) := (5, 2, 1, 0, 0, 0) :: (32, 2, (-46), 0, 0, 0) :: bl_111_29
def bl_111_2 : List (Nat × Nat × Int × Nat × Nat × Nat) := (1, 2, 0, 0, 0, 0) :: (2, 0, 0, 0, 0, 0) :: (37, 0, 0, 9, 9, 6114) :: (0, 2, 429, 0, 0, 0) :: (40, 0, 0, 0, 0, 0) :: (23, 29, 40, 0, 0, 0) :: (2, 0, 0, 0, 0, 0) :: (1, 2, 0, 0, 0, 0) :: (0, 0, 1, 0, 0, 0) :: (50, 37, 9, 3, 158, 7111) :: (0, 0, 4, 0, 0, 0) :: (21, 27, 24, 0, 0, 0) :: (2, 0, 0, 0, 0, 0) :: (1, 2, 0, 0, 0, 0) :: (0, 0, 2, 0, 0, 0) :: (50, 37, 9, 3, 158, 7111) :: (1, 1, 0, 0, 0, 0) :: (21, 27, 14, 0, 0, 0) :: (2, 0, 0, 0, 0, 0) :: (1, 2, 0, 0, 0, 0) :: (0, 0, 4, 0, 0, 0) :: (50, 37, 9, 3, 158, 7111) :: (27, 27, 5, 0, 0, 0) :: (1, 2, 0, 0, 0, 0) :: (55, 0, 0, 0, 0, 0) :: bl_111_27
def bl_111_0 : List (Nat × Nat × Int × Nat × Nat × Nat) := (0, 0, 0, 0, 0, 0) :: (3, 2, 0, 0, 0, 0) :: bl_111_2
-- 112 X9_over
def bl_112_29 : List (Nat × Nat × Int × Nat × Nat × Nat) := (1, 2, 0, 0, 0, 0) :: (55, 0, 0, 0, 0, 0) :: []
def bl_112_25 : List (Nat × Nat × Int × Nat × Nat × Nat) := (6, 0, 0, 0, 0, 0) :: (3, 2, 0, 0, 0, 0) :: (5, 3, 1, 0, 0, 0) :: (32, 7, (-35), 0, 0, 0) :: bl_112_29
def bl_112_24 : List (Nat × Nat × Int × Nat × Nat × Nat) := (0, 0, 0, 0, 0, 0) :: bl_112_25
def bl_112_7 : List (Nat × Nat × Int × Nat × Nat × Nat) := (1, 3, 0, 0, 0, 0) :: (2, 0, 0, 0, 0, 0) :: (37, 0, 0, 9, 9, 6114) :: (0, 0, 2, 0, 0, 0) :: (40, 0, 0, 0, 0, 0) :: (23, 29, 31, 0, 0, 0) :: (1, 2, 0, 0, 0, 0) :: (2, 0, 0, 0, 0, 0) :: (2, 0, 0, 0, 0, 0) :: (1, 1, 0, 0, 0, 0) :: (0, 0, 1, 0, 0, 0) :: (50, 46, 9, 3, 161, 7054) :: (1, 3, 0, 0, 0, 0) :: (50, 35, 9, 3, 192, 7087) :: (31, 24, 7, 0, 0, 0) :: (0, 0, 1, 0, 0, 0) :: (32, 25, 4, 0, 0, 0) :: bl_112_24
def bl_112_0 : List (Nat × Nat × Int × Nat × Nat × Nat) := (0, 0, 0, 0, 0, 0) :: (3, 2, 0, 0, 0, 0) :: (2, 0, 0, 0, 0, 0) :: (1, 1, 0, 0, 0, 0) :: (0, 0, 2, 0, 0, 0) :: (50, 46, 9, 3, 161, 7054) :: (3, 3, 0, 0, 0, 0) :: bl_112_7
-- 113 X9_owes
def bl_113_46 : List (Nat × Nat × Int × Nat × Nat × Nat) := (0, 0, 0, 0, 0, 0) :: (1, 2, 0, 0, 0, 0) :: (75, 0, 0, 0, 164, 7082) :: (55, 0, 0, 0, 0, 0) :: []
def bl_113_42 : List (Nat × Nat × Int × Nat × Nat × Nat) := (6, 0, 0, 0, 0, 0) :: (3, 2, 0, 0, 0, 0) :: (5, 3, 1, 0, 0, 0) :: (32, 12, (-57), 0, 0, 0) :: bl_113_46
def bl_113_41 : List (Nat × Nat × Int × Nat × Nat × Nat) := (0, 0, 0, 0, 0, 0) :: bl_113_42
def bl_113_12 : List (Nat × Nat × Int × Nat × Nat × Nat) := (1, 3, 0, 0, 0, 0) :: (2, 0, 0, 0, 0, 0) :: (37, 0, 0, 9, 9, 6114) :: (0, 2, 429, 0, 0, 0) :: (40, 0, 0, 0, 0, 0) :: (23, 46, 51, 0, 0, 0) :: (1, 2, 0, 0, 0, 0) :: (2, 0, 0, 0, 0, 0) :: (1, 3, 0, 0, 0, 0) :: (0, 0, 1, 0, 0, 0) :: (50, 37, 9, 3, 158, 7111) :: (0, 0, 4, 0, 0, 0) :: (21, 41, 31, 0, 0, 0) :: (2, 0, 0, 0, 0, 0) :: (1, 3, 0, 0, 0, 0) :: (0, 0, 2, 0, 0, 0) :: (50, 37, 9, 3, 158, 7111) :: (1, 1, 0, 0, 0, 0) :: (21, 41, 21, 0, 0, 0) :: (2, 0, 0, 0, 0, 0) :: (1, 3, 0, 0, 0, 0) :: (0, 0, 4, 0, 0, 0) :: (50, 37, 9, 3, 158, 7111) :: (27, 41, 12, 0, 0, 0) :: (2, 0, 0, 0, 0, 0) :: (1, 3, 0, 0, 0, 0) :: (0, 0, 3, 0, 0, 0) :: (50, 37, 9, 3, 158, 7111) :: (32, 42, 4, 0, 0, 0) :: bl_113_41
def bl_113_0 : List (Nat × Nat × Int × Nat × Nat × Nat) := (2, 0, 0, 0, 0, 0) :: (1, 1, 0, 0, 0, 0) :: (0, 0, 4, 0, 0, 0) :: (50, 46, 9, 3, 161, 7054) :: (2, 0, 0, 0, 0, 0) :: (1, 1, 0, 0, 0, 0) :: (0, 0, 3, 0, 0, 0) :: (50, 46, 9, 3, 161, 7054) :: (7, 0, 0, 0, 0, 0) :: (3, 2, 0, 0, 0, 0) :: (0, 0, 0, 0, 0, 0) :: (3, 3, 0, 0, 0, 0) :: bl_113_12
-- 114 X9_placeAt
def bl_114_19 : List (Nat × Nat × Int × Nat × Nat × Nat) := (2, 0, 0, 0, 0, 0) :: (1, 2, 0, 0, 0, 0) :: (0, 0, 3, 0, 0, 0) :: (50, 37, 9, 3, 158, 7111) :: (55, 0, 0, 0, 0, 0) :: []
def bl_114_17 : List (Nat × Nat × Int × Nat × Nat × Nat) := (5, 2, (-1), 0, 0, 0) :: (32, 2, (-28), 0, 0, 0) :: bl_114_19
def bl_114_2 : List (Nat × Nat × Int × Nat × Nat × Nat) := (2, 0, 0, 0, 0, 0) :: (1, 2, 0, 0, 0, 0) :: (0, 0, 1, 0, 0, 0) :: (50, 37, 9, 3, 158, 7111) :: (0, 0, 1, 0, 0, 0) :: (21, 17, 18, 0, 0, 0) :: (2, 0, 0, 0, 0, 0) :: (1, 2, 0, 0, 0, 0) :: (0, 0, 2, 0, 0, 0) :: (50, 37, 9, 3, 158, 7111) :: (2, 0, 0, 0, 0, 0) :: (1, 1, 0, 0, 0, 0) :: (0, 0, 2, 0, 0, 0) :: (50, 37, 9, 3, 158, 7111) :: (20, 19, 9, 0, 0, 0) :: bl_114_17
def bl_114_0 : List (Nat × Nat × Int × Nat × Nat × Nat) := (1, 1, 0, 0, 0, 0) :: (3, 2, 0, 0, 0, 0) :: bl_114_2
-- 115 X9_priceOf
def bl_115_18 : List (Nat × Nat × Int × Nat × Nat × Nat) := (1, 4, 0, 0, 1, 0) :: (0, 1, 59, 0, 0, 0) :: (6, 0, 0, 0, 0, 0) :: (0, 1, 60, 0, 0, 0) :: (9, 0, 0, 0, 0, 0) :: (55, 0, 0, 0, 0, 0) :: []
def bl_115_4 : List (Nat × Nat × Int × Nat × Nat × Nat) := (1, 5, 0, 0, 1, 0) :: (1, 2, 0, 0, 0, 0) :: (1, 3, 0, 0, 0, 0) :: (6, 0, 0, 0, 0, 0) :: (23, 18, 21, 0, 0, 0) :: (1, 4, 0, 0, 1, 0) :: (2, 0, 0, 0, 0, 0) :: (1, 1, 0, 0, 0, 0) :: (1, 5, 0, 0, 1, 0) :: (50, 35, 9, 3, 192, 7087) :: (6, 0, 0, 0, 0, 0) :: (3, 4, 0, 0, 1, 0) :: (5, 5, 1, 0, 0, 0) :: (32, 4, (-23), 0, 0, 0) :: bl_115_18
def bl_115_0 : List (Nat × Nat × Int × Nat × Nat × Nat) := (0, 0, 0, 0, 0, 0) :: (3, 4, 0, 0, 1, 0) :: (1, 2, 0, 0, 0, 0) :: (3, 5, 0, 0, 1, 0) :: bl_115_4
-- 116 X9_releases
def bl_116_47 : List (Nat × Nat × Int × Nat × Nat × Nat) := (57, 0, 0, 0, 0, 0) :: []
def bl_116_28 : List (Nat × Nat × Int × Nat × Nat × Nat) := (2, 0, 0, 0, 0, 0) :: (1, 1, 0, 0, 0, 0) :: (0, 0, 0, 0, 0, 0) :: (50, 46, 9, 3, 161, 7054) :: (0, 0, 3, 0, 0, 0) :: (21, 47, 23, 0, 0, 0) :: (2, 0, 0, 0, 0, 0) :: (1, 1, 0, 0, 0, 0) :: (0, 0, 0, 0, 0, 0) :: (0, 0, 0, 0, 0, 0) :: (50, 48, 9, 4, 185, 7070) :: (2, 0, 0, 0, 0, 0) :: (0, 1, 9, 0, 0, 0) :: (1, 1, 0, 0, 0, 0) :: (2, 0, 0, 0, 0, 0) :: (1, 1, 0, 0, 0, 0) :: (0, 0, 1, 0, 0, 0) :: (50, 46, 9, 3, 161, 7054) :: (50, 44, 9, 4, 189, 7074) :: bl_116_47
def bl_116_0 : List (Nat × Nat × Int × Nat × Nat × Nat) := (2, 0, 0, 0, 0, 0) :: (1, 1, 0, 0, 0, 0) :: (0, 0, 0, 0, 0, 0) :: (50, 46, 9, 3, 161, 7054) :: (0, 0, 2, 0, 0, 0) :: (21, 28, 38, 0, 0, 0) :: (2, 0, 0, 0, 0, 0) :: (1, 1, 0, 0, 0, 0) :: (0, 0, 0, 0, 0, 0) :: (0, 0, 1, 0, 0, 0) :: (50, 48, 9, 4, 185, 7070) :: (2, 0, 0, 0, 0, 0) :: (1, 1, 0, 0, 0, 0) :: (0, 0, 2, 0, 0, 0) :: (2, 0, 0, 0, 0, 0) :: (37, 0, 0, 9, 9, 6114) :: (0, 0, 2, 0, 0, 0) :: (40, 0, 0, 0, 0, 0) :: (50, 48, 9, 4, 185, 7070) :: (2, 0, 0, 0, 0, 0) :: (0, 1, 9, 0, 0, 0) :: (1, 1, 0, 0, 0, 0) :: (2, 0, 0, 0, 0, 0) :: (1, 1, 0, 0, 0, 0) :: (0, 0, 1, 0, 0, 0) :: (50, 46, 9, 3, 161, 7054) :: (50, 44, 9, 4, 189, 7074) :: (32, 47, 33, 0, 0, 0) :: bl_116_28
-- 117 X9_restoreSnapshot
def bl_117_17 : List (Nat × Nat × Int × Nat × Nat × Nat) := (2, 0, 0, 0, 0, 0) :: (37, 2, 0, 9, 16, 6116) :: (1, 1, 0, 0, 0, 0) :: (2, 0, 0, 0, 0, 0) :: (37, 0, 0, 9, 9, 6114) :: (0, 0, 0, 0, 0, 0) :: (49, 36, 9, 4, 155, 7032) :: (2, 0, 0, 0, 0, 0) :: (37, 0, 0, 9, 9, 6114) :: (0, 0, 2, 0, 0, 0) :: (40, 0, 0, 0, 0, 0) :: (55, 0, 0, 0, 0, 0) :: []
def bl_117_10 : List (Nat × Nat × Int × Nat × Nat × Nat) := (2, 0, 0, 0, 0, 0) :: (37, 3, 0, 9, 19, 6117) :: (1, 1, 0, 0, 0, 0) :: (42, 0, 0, 0, 0, 0) :: (27, 17, 6, 0, 0, 0) :: (0, 1, (-3), 0, 0, 0) :: (55, 0, 0, 0, 0, 0) :: bl_117_17
def bl_117_0 : List (Nat × Nat × Int × Nat × Nat × Nat) := (2, 0, 0, 0, 0, 0) :: (0, 0, 0, 0, 0, 0) :: (38, 4, 0, 9, 59, 6118) :: (1, 1, 0, 0, 0, 0) :: (0, 0, 0, 0, 0, 0) :: (0, 0, 1, 0, 0, 0) :: (49, 40, 9, 3, 70, 6204) :: (27, 10, 5, 0, 0, 0) :: (0, 0, (-1), 0, 0, 0) :: (55, 0, 0, 0, 0, 0) :: bl_117_10
-- 118 X9_roomOf
def bl_118_32 : List (Nat × Nat × Int × Nat × Nat × Nat) := (1, 2, 0, 0, 0, 0) :: (55, 0, 0, 0, 0, 0) :: []
def bl_118_28 : List (Nat × Nat × Int × Nat × Nat × Nat) := (7, 0, 0, 0, 0, 0) :: (3, 2, 0, 0, 0, 0) :: (5, 3, 1, 0, 0, 0) :: (32, 9, (-37), 0, 0, 0) :: bl_118_32
def bl_118_27 : List (Nat × Nat × Int × Nat × Nat × Nat) := (0, 0, 0, 0, 0, 0) :: bl_118_28
def bl_118_9 : List (Nat × Nat × Int × Nat × Nat × Nat) := (1, 3, 0, 0, 0, 0) :: (0, 1, 16, 0, 0, 0) :: (23, 32, 37, 0, 0, 0) :: (1, 2, 0, 0, 0, 0) :: (2, 0, 0, 0, 0, 0) :: (1, 3, 0, 0, 0, 0) :: (0, 0, 0, 0, 0, 0) :: (50, 46, 9, 3, 161, 7054) :: (0, 0, 3, 0, 0, 0) :: (21, 27, 17, 0, 0, 0) :: (2, 0, 0, 0, 0, 0) :: (1, 3, 0, 0, 0, 0) :: (0, 0, 1, 0, 0, 0) :: (50, 46, 9, 3, 161, 7054) :: (1, 1, 0, 0, 0, 0) :: (21, 27, 7, 0, 0, 0) :: (0, 0, 1, 0, 0, 0) :: (32, 28, 4, 0, 0, 0) :: bl_118_27
def bl_118_0 : List (Nat × Nat × Int × Nat × Nat × Nat) := (2, 0, 0, 0, 0, 0) :: (37, 0, 0, 9, 9, 6114) :: (0, 2, 223, 0, 0, 0) :: (1, 1, 0, 0, 0, 0) :: (6, 0, 0, 0, 0, 0) :: (40, 0, 0, 0, 0, 0) :: (3, 2, 0, 0, 0, 0) :: (0, 0, 0, 0, 0, 0) :: (3, 3, 0, 0, 0, 0) :: bl_118_9
-- 119 X9_saveSnapshot
def bl_119_10 : List (Nat × Nat × Int × Nat × Nat × Nat) := (2, 0, 0, 0, 0, 0) :: (37, 0, 0, 9, 9, 6114) :: (0, 0, 0, 0, 0, 0) :: (2, 0, 0, 0, 0, 0) :: (37, 2, 0, 9, 16, 6116) :: (1, 1, 0, 0, 0, 0) :: (49, 36, 9, 4, 155, 7032) :: (2, 0, 0, 0, 0, 0) :: (37, 3, 0, 9, 19, 6117) :: (1, 1, 0, 0, 0, 0) :: (0, 0, 1, 0, 0, 0) :: (43, 0, 0, 0, 0, 0) :: (2, 0, 0, 0, 0, 0) :: (37, 0, 0, 9, 9, 6114) :: (0, 0, 2, 0, 0, 0) :: (40, 0, 0, 0, 0, 0) :: (55, 0, 0, 0, 0, 0) :: []
def bl_119_0 : List (Nat × Nat × Int × Nat × Nat × Nat) := (2, 0, 0, 0, 0, 0) :: (0, 0, 0, 0, 0, 0) :: (38, 4, 0, 9, 59, 6118) :: (1, 1, 0, 0, 0, 0) :: (0, 0, 0, 0, 0, 0) :: (0, 0, 1, 0, 0, 0) :: (49, 40, 9, 3, 70, 6204) :: (27, 10, 5, 0, 0, 0) :: (0, 0, (-1), 0, 0, 0) :: (55, 0, 0, 0, 0, 0) :: bl_119_10
-- 120 X9_ticket
def bl_120_32 : List (Nat × Nat × Int × Nat × Nat × Nat) := (0, 0, (-1), 0, 0, 0) :: (55, 0, 0, 0, 0, 0) :: []
def bl_120_30 : List (Nat × Nat × Int × Nat × Nat × Nat) := (5, 4, 1, 0, 0, 0) :: (32, 4, (-55), 0, 0, 0) :: bl_120_32
def bl_120_29 : List (Nat × Nat × Int × Nat × Nat × Nat) := (5, 3, (-1), 0, 0, 0) :: bl_120_30
def bl_120_25 : List (Nat × Nat × Int × Nat × Nat × Nat) := (1, 3, 0, 0, 0, 0) :: (27, 29, 6, 0, 0, 0) :: (1, 4, 0, 0, 1, 0) :: (55, 0, 0, 0, 0, 0) :: bl_120_29
def bl_120_4 : List (Nat × Nat × Int × Nat × Nat × Nat) := (1, 4, 0, 0, 1, 0) :: (2, 0, 0, 0, 0, 0) :: (37, 0, 0, 9, 9, 6114) :: (0, 2, 429, 0, 0, 0) :: (40, 0, 0, 0, 0, 0) :: (23, 32, 48, 0, 0, 0) :: (1, 3, 0, 0, 0, 0) :: (28, 32, 44, 0, 0, 0) :: (2, 0, 0, 0, 0, 0) :: (1, 4, 0, 0, 1, 0) :: (0, 0, 1, 0, 0, 0) :: (50, 37, 9, 3, 158, 7111) :: (0, 0, 4, 0, 0, 0) :: (21, 30, 27, 0, 0, 0) :: (2, 0, 0, 0, 0, 0) :: (1, 4, 0, 0, 1, 0) :: (0, 0, 2, 0, 0, 0) :: (50, 37, 9, 3, 158, 7111) :: (1, 1, 0, 0, 0, 0) :: (20, 25, 6, 0, 0, 0) :: (32, 30, 13, 0, 0, 0) :: bl_120_25
def bl_120_0 : List (Nat × Nat × Int × Nat × Nat × Nat) := (1, 2, 0, 0, 0, 0) :: (3, 3, 0, 0, 0, 0) :: (0, 0, 0, 0, 0, 0) :: (3, 4, 0, 0, 1, 0) :: bl_120_4
-- 121 X9_tickets
def bl_121_30 : List (Nat × Nat × Int × Nat × Nat × Nat) := (1, 2, 0, 0, 0, 0) :: (55, 0, 0, 0, 0, 0) :: []
def bl_121_26 : List (Nat × Nat × Int × Nat × Nat × Nat) := (6, 0, 0, 0, 0, 0) :: (3, 2, 0, 0, 0, 0) :: (5, 3, 1, 0, 0, 0) :: (32, 4, (-43), 0, 0, 0) :: bl_121_30
def bl_121_25 : List (Nat × Nat × Int × Nat × Nat × Nat) := (0, 0, 0, 0, 0, 0) :: bl_121_26
def bl_121_4 : List (Nat × Nat × Int × Nat × Nat × Nat) := (1, 3, 0, 0, 0, 0) :: (2, 0, 0, 0, 0, 0) :: (37, 0, 0, 9, 9, 6114) :: (0, 2, 429, 0, 0, 0) :: (40, 0, 0, 0, 0, 0) :: (23, 30, 37, 0, 0, 0) :: (1, 2, 0, 0, 0, 0) :: (2, 0, 0, 0, 0, 0) :: (1, 3, 0, 0, 0, 0) :: (0, 0, 1, 0, 0, 0) :: (50, 37, 9, 3, 158, 7111) :: (0, 0, 4, 0, 0, 0) :: (21, 25, 17, 0, 0, 0) :: (2, 0, 0, 0, 0, 0) :: (1, 3, 0, 0, 0, 0) :: (0, 0, 2, 0, 0, 0) :: (50, 37, 9, 3, 158, 7111) :: (1, 1, 0, 0, 0, 0) :: (21, 25, 7, 0, 0, 0) :: (0, 0, 1, 0, 0, 0) :: (32, 26, 4, 0, 0, 0) :: bl_121_25
def bl_121_0 : List (Nat × Nat × Int × Nat × Nat × Nat) := (0, 0, 0, 0, 0, 0) :: (3, 2, 0, 0, 0, 0) :: (0, 0, 0, 0, 0, 0) :: (3, 3, 0, 0, 0, 0) :: bl_121_4
-- 122 X9_trips_6
def bl_122_137 : List (Nat × Nat × Int × Nat × Nat × Nat) := (57, 0, 0, 0, 0, 0) :: []
def bl_122_135 : List (Nat × Nat × Int × Nat × Nat × Nat) := (5, 5, 1, 0, 0, 0) :: (32, 43, (-159), 0, 0, 0) :: bl_122_137
def bl_122_133 : List (Nat × Nat × Int × Nat × Nat × Nat) := (5, 7, 1, 0, 0, 0) :: (32, 54, (-132), 0, 0, 0) :: bl_122_135
def bl_122_93 : List (Nat × Nat × Int × Nat × Nat × Nat) := (2, 0, 0, 0, 0, 0) :: (37, 17, 0, 9, 42, 6131) :: (1, 7, 0, 0, 1, 0) :: (69, 0, 0, 0, 0, 0) :: (40, 0, 0, 0, 0, 0) :: (0, 0, 1, 0, 0, 0) :: (7, 0, 0, 0, 0, 0) :: (41, 0, 0, 0, 0, 0) :: (2, 0, 0, 0, 0, 0) :: (37, 13, 0, 9, 30, 6127) :: (1, 1, 0, 0, 0, 0) :: (1, 6, 0, 0, 1, 0) :: (41, 0, 0, 0, 0, 0) :: (2, 0, 0, 0, 0, 0) :: (37, 14, 0, 9, 33, 6128) :: (1, 1, 0, 0, 0, 0) :: (1, 7, 0, 0, 1, 0) :: (41, 0, 0, 0, 0, 0) :: (2, 0, 0, 0, 0, 0) :: (1, 1, 0, 0, 0, 0) :: (0, 0, 1, 0, 0, 0) :: (6, 0, 0, 0, 0, 0) :: (1, 7, 0, 0, 1, 0) :: (1, 3, 0, 0, 0, 0) :: (0, 0, 1, 0, 0, 0) :: (1, 5, 0, 0, 1, 0) :: (14, 0, 0, 0, 0, 0) :: (12, 0, 0, 0, 0, 0) :: (1, 4, 0, 0, 1, 0) :: (1, 8, 0, 0, 1, 0) :: (6, 0, 0, 0, 0, 0) :: (99, 0, 0, 0, 0, 0) :: (2, 0, 0, 0, 0, 0) :: (37, 17, 0, 9, 42, 6131) :: (1, 7, 0, 0, 1, 0) :: (69, 0, 0, 0, 0, 0) :: (40, 0, 0, 0, 0, 0) :: (0, 0, 1, 0, 0, 0) :: (6, 0, 0, 0, 0, 0) :: (41, 0, 0, 0, 0, 0) :: bl_122_133
def bl_122_54 : List (Nat × Nat × Int × Nat × Nat × Nat) := (1, 7, 0, 0, 1, 0) :: (2, 0, 0, 0, 0, 0) :: (37, 0, 0, 9, 9, 6114) :: (0, 0, 0, 0, 0, 0) :: (40, 0, 0, 0, 0, 0) :: (23, 135, 127, 0, 0, 0) :: (1, 3, 0, 0, 0, 0) :: (1, 5, 0, 0, 1, 0) :: (15, 0, 0, 0, 0, 0) :: (0, 0, 1, 0, 0, 0) :: (11, 0, 0, 0, 0, 0) :: (27, 135, 118, 0, 0, 0) :: (2, 0, 0, 0, 0, 0) :: (1, 2, 0, 0, 0, 0) :: (2, 0, 0, 0, 0, 0) :: (1, 6, 0, 0, 1, 0) :: (0, 0, 1, 0, 0, 0) :: (50, 46, 9, 3, 161, 7054) :: (50, 51, 9, 3, 249, 7168) :: (0, 1, 10, 0, 0, 0) :: (6, 0, 0, 0, 0, 0) :: (2, 0, 0, 0, 0, 0) :: (2, 0, 0, 0, 0, 0) :: (1, 6, 0, 0, 1, 0) :: (0, 0, 1, 0, 0, 0) :: (50, 46, 9, 3, 161, 7054) :: (1, 7, 0, 0, 1, 0) :: (50, 51, 9, 3, 249, 7168) :: (6, 0, 0, 0, 0, 0) :: (3, 8, 0, 0, 1, 0) :: (2, 0, 0, 0, 0, 0) :: (37, 17, 0, 9, 42, 6131) :: (1, 7, 0, 0, 1, 0) :: (40, 0, 0, 0, 0, 0) :: (26, 133, 71, 0, 0, 0) :: (1, 8, 0, 0, 1, 0) :: (0, 3, 1000000, 0, 63, 6109) :: (22, 93, 6, 0, 0, 0) :: (32, 133, 61, 0, 0, 0) :: bl_122_93
def bl_122_43 : List (Nat × Nat × Int × Nat × Nat × Nat) := (1, 5, 0, 0, 1, 0) :: (2, 0, 0, 0, 0, 0) :: (36, 18, 0, 9, 231, 6132) :: (23, 137, 156, 0, 0, 0) :: (2, 0, 0, 0, 0, 0) :: (37, 12, 0, 9, 27, 6126) :: (1, 5, 0, 0, 1, 0) :: (40, 0, 0, 0, 0, 0) :: (3, 6, 0, 0, 1, 0) :: (0, 0, 0, 0, 0, 0) :: (3, 7, 0, 0, 1, 0) :: bl_122_54
def bl_122_41 : List (Nat × Nat × Int × Nat × Nat × Nat) := (0, 0, 0, 0, 0, 0) :: (3, 5, 0, 0, 1, 0) :: bl_122_43
def bl_122_20 : List (Nat × Nat × Int × Nat × Nat × Nat) := (1, 5, 0, 0, 1, 0) :: (1, 1, 0, 0, 0, 0) :: (23, 41, 37, 0, 0, 0) :: (2, 0, 0, 0, 0, 0) :: (37, 15, 0, 9, 36, 6129) :: (1, 5, 0, 0, 1, 0) :: (2, 0, 0, 0, 0, 0) :: (37, 13, 0, 9, 30, 6127) :: (1, 5, 0, 0, 1, 0) :: (40, 0, 0, 0, 0, 0) :: (41, 0, 0, 0, 0, 0) :: (2, 0, 0, 0, 0, 0) :: (37, 16, 0, 9, 39, 6130) :: (1, 5, 0, 0, 1, 0) :: (2, 0, 0, 0, 0, 0) :: (37, 14, 0, 9, 33, 6128) :: (1, 5, 0, 0, 1, 0) :: (40, 0, 0, 0, 0, 0) :: (41, 0, 0, 0, 0, 0) :: (5, 5, 1, 0, 0, 0) :: (32, 20, (-37), 0, 0, 0) :: bl_122_41
def bl_122_12 : List (Nat × Nat × Int × Nat × Nat × Nat) := (2, 0, 0, 0, 0, 0) :: (1, 1, 0, 0, 0, 0) :: (38, 19, 0, 9, 240, 6133) :: (2, 0, 0, 0, 0, 0) :: (1, 4, 0, 0, 1, 0) :: (38, 20, 0, 9, 243, 6134) :: (0, 0, 0, 0, 0, 0) :: (3, 5, 0, 0, 1, 0) :: bl_122_20
def bl_122_0 : List (Nat × Nat × Int × Nat × Nat × Nat) := (1, 1, 0, 0, 0, 0) :: (2, 0, 0, 0, 0, 0) :: (36, 19, 0, 9, 240, 6133) :: (24, 12, 20, 0, 0, 0) :: (1, 1, 0, 0, 0, 0) :: (2, 0, 0, 0, 0, 0) :: (36, 19, 0, 9, 240, 6133) :: (21, 41, 66, 0, 0, 0) :: (1, 4, 0, 0, 1, 0) :: (2, 0, 0, 0, 0, 0) :: (36, 20, 0, 9, 243, 6134) :: (23, 41, 57, 0, 0, 0) :: bl_122_12
-- 123 X9_unpaid
def bl_123_35 : List (Nat × Nat × Int × Nat × Nat × Nat) := (1, 2, 0, 0, 0, 0) :: (55, 0, 0, 0, 0, 0) :: []
def bl_123_31 : List (Nat × Nat × Int × Nat × Nat × Nat) := (6, 0, 0, 0, 0, 0) :: (3, 2, 0, 0, 0, 0) :: (5, 3, 1, 0, 0, 0) :: (32, 4, (-52), 0, 0, 0) :: bl_123_35
def bl_123_30 : List (Nat × Nat × Int × Nat × Nat × Nat) := (0, 0, 0, 0, 0, 0) :: bl_123_31
def bl_123_4 : List (Nat × Nat × Int × Nat × Nat × Nat) := (1, 3, 0, 0, 0, 0) :: (2, 0, 0, 0, 0, 0) :: (37, 0, 0, 9, 9, 6114) :: (0, 2, 429, 0, 0, 0) :: (40, 0, 0, 0, 0, 0) :: (23, 35, 46, 0, 0, 0) :: (1, 2, 0, 0, 0, 0) :: (2, 0, 0, 0, 0, 0) :: (1, 3, 0, 0, 0, 0) :: (0, 0, 1, 0, 0, 0) :: (50, 37, 9, 3, 158, 7111) :: (0, 0, 4, 0, 0, 0) :: (21, 30, 26, 0, 0, 0) :: (2, 0, 0, 0, 0, 0) :: (1, 3, 0, 0, 0, 0) :: (0, 0, 2, 0, 0, 0) :: (50, 37, 9, 3, 158, 7111) :: (1, 1, 0, 0, 0, 0) :: (21, 30, 16, 0, 0, 0) :: (2, 0, 0, 0, 0, 0) :: (1, 3, 0, 0, 0, 0) :: (0, 0, 4, 0, 0, 0) :: (50, 37, 9, 3, 158, 7111) :: (27, 30, 7, 0, 0, 0) :: (0, 0, 1, 0, 0, 0) :: (32, 31, 4, 0, 0, 0) :: bl_123_30
def bl_123_0 : List (Nat × Nat × Int × Nat × Nat × Nat) := (0, 0, 0, 0, 0, 0) :: (3, 2, 0, 0, 0, 0) :: (0, 0, 0, 0, 0, 0) :: (3, 3, 0, 0, 0, 0) :: bl_123_4
-- 124 J1_charAt_3b067
def bl_124_0 : List (Nat × Nat × Int × Nat × Nat × Nat) := (1, 1, 0, 0, 0, 0) :: (2, 0, 0, 0, 0, 0) :: (48, 0, 0, 0, 0, 0) :: (49, 52, 90, 2, 9, 2234) :: (2, 0, 0, 0, 0, 0) :: (1, 1, 0, 0, 0, 0) :: (44, 0, 0, 0, 0, 0) :: (0, 2, 255, 0, 0, 0) :: (11, 0, 0, 0, 0, 0) :: (74, 0, 0, 0, 0, 0) :: (55, 3, 0, 0, 0, 0) :: []
-- 125 X1_copyFrom
def bl_125_0 : List (Nat × Nat × Int × Nat × Nat × Nat) := (2, 0, 0, 0, 0, 0) :: (2, 1, 0, 0, 0, 0) :: (36, 0, 0, 1, 30, 1184) :: (38, 0, 0, 1, 30, 1184) :: (2, 1, 0, 0, 0, 0) :: (37, 1, 0, 1, 11, 1187) :: (2, 0, 0, 0, 0, 0) :: (37, 1, 0, 1, 11, 1187) :: (52, 85, 8, 2, 34, 20) :: (2, 1, 0, 0, 0, 0) :: (37, 2, 0, 1, 15, 1189) :: (2, 0, 0, 0, 0, 0) :: (37, 2, 0, 1, 15, 1189) :: (52, 85, 8, 2, 34, 20) :: (2, 1, 0, 0, 0, 0) :: (37, 3, 0, 1, 18, 1191) :: (2, 0, 0, 0, 0, 0) :: (37, 3, 0, 1, 18, 1191) :: (52, 85, 8, 2, 34, 20) :: (2, 1, 0, 0, 0, 0) :: (37, 4, 0, 1, 21, 1193) :: (2, 0, 0, 0, 0, 0) :: (37, 4, 0, 1, 21, 1193) :: (52, 85, 8, 2, 34, 20) :: (57, 0, 0, 0, 0, 0) :: []
-- 126 X1_meterSum
def bl_126_51 : List (Nat × Nat × Int × Nat × Nat × Nat) := (1, 4, 0, 0, 1, 0) :: (55, 0, 0, 0, 0, 0) :: []
def bl_126_49 : List (Nat × Nat × Int × Nat × Nat × Nat) := (5, 5, 1, 0, 0, 0) :: (32, 4, (-99), 0, 0, 0) :: bl_126_51
def bl_126_27 : List (Nat × Nat × Int × Nat × Nat × Nat) := (2, 0, 0, 0, 0, 0) :: (1, 5, 0, 0, 1, 0) :: (1, 2, 0, 0, 0, 0) :: (0, 0, 2, 0, 0, 0) :: (50, 61, 1, 4, 46, 5021) :: (26, 49, 37, 0, 0, 0) :: (2, 3, 0, 0, 0, 0) :: (37, 3, 0, 4, 50, 1110) :: (2, 0, 0, 0, 0, 0) :: (37, 5, 0, 1, 24, 1196) :: (1, 6, 0, 0, 1, 0) :: (52, 23, 8, 2, 42, 16) :: (52, 23, 8, 2, 42, 16) :: (1, 1, 0, 0, 0, 0) :: (21, 49, 17, 0, 0, 0) :: (1, 4, 0, 0, 1, 0) :: (2, 0, 0, 0, 0, 0) :: (37, 4, 0, 1, 21, 1193) :: (1, 5, 0, 0, 1, 0) :: (52, 23, 8, 2, 42, 16) :: (6, 0, 0, 0, 0, 0) :: (3, 4, 0, 0, 1, 0) :: bl_126_49
def bl_126_4 : List (Nat × Nat × Int × Nat × Nat × Nat) := (1, 5, 0, 0, 1, 0) :: (2, 0, 0, 0, 0, 0) :: (36, 0, 0, 1, 30, 1184) :: (23, 51, 96, 0, 0, 0) :: (2, 0, 0, 0, 0, 0) :: (37, 3, 0, 1, 18, 1191) :: (1, 5, 0, 0, 1, 0) :: (52, 23, 8, 2, 42, 16) :: (3, 6, 0, 0, 1, 0) :: (2, 0, 0, 0, 0, 0) :: (37, 2, 0, 1, 15, 1189) :: (1, 5, 0, 0, 1, 0) :: (52, 23, 8, 2, 42, 16) :: (0, 0, 1, 0, 0, 0) :: (21, 27, 21, 0, 0, 0) :: (2, 0, 0, 0, 0, 0) :: (37, 5, 0, 1, 24, 1196) :: (1, 6, 0, 0, 1, 0) :: (2, 0, 0, 0, 0, 0) :: (37, 4, 0, 1, 21, 1193) :: (1, 5, 0, 0, 1, 0) :: (52, 23, 8, 2, 42, 16) :: (52, 31, 8, 3, 38, 14) :: bl_126_27
def bl_126_0 : List (Nat × Nat × Int × Nat × Nat × Nat) := (0, 0, 0, 0, 0, 0) :: (3, 4, 0, 0, 1, 0) :: (0, 0, 0, 0, 0, 0) :: (3, 5, 0, 0, 1, 0) :: bl_126_4
-- 127 X1_mostParks
def bl_127_59 : List (Nat × Nat × Int × Nat × Nat × Nat) := (1, 2, 0, 0, 0, 0) :: (55, 0, 0, 0, 0, 0) :: []
def bl_127_57 : List (Nat × Nat × Int × Nat × Nat × Nat) := (5, 4, 1, 0, 0, 0) :: (32, 39, (-35), 0, 0, 0) :: bl_127_59
def bl_127_39 : List (Nat × Nat × Int × Nat × Nat × Nat) := (1, 4, 0, 0, 1, 0) :: (2, 0, 0, 0, 0, 0) :: (37, 6, 0, 1, 27, 1197) :: (48, 0, 0, 0, 0, 0) :: (23, 59, 31, 0, 0, 0) :: (2, 0, 0, 0, 0, 0) :: (37, 6, 0, 1, 27, 1197) :: (1, 4, 0, 0, 1, 0) :: (40, 0, 0, 0, 0, 0) :: (1, 3, 0, 0, 0, 0) :: (25, 57, 14, 0, 0, 0) :: (2, 0, 0, 0, 0, 0) :: (37, 6, 0, 1, 27, 1197) :: (1, 4, 0, 0, 1, 0) :: (40, 0, 0, 0, 0, 0) :: (3, 3, 0, 0, 0, 0) :: (1, 4, 0, 0, 1, 0) :: (3, 2, 0, 0, 0, 0) :: bl_127_57
def bl_127_33 : List (Nat × Nat × Int × Nat × Nat × Nat) := (0, 0, (-1), 0, 0, 0) :: (3, 2, 0, 0, 0, 0) :: (0, 0, 0, 0, 0, 0) :: (3, 3, 0, 0, 0, 0) :: (0, 0, 0, 0, 0, 0) :: (3, 4, 0, 0, 1, 0) :: bl_127_39
def bl_127_31 : List (Nat × Nat × Int × Nat × Nat × Nat) := (5, 2, 1, 0, 0, 0) :: (32, 6, (-48), 0, 0, 0) :: bl_127_33
def bl_127_6 : List (Nat × Nat × Int × Nat × Nat × Nat) := (1, 2, 0, 0, 0, 0) :: (2, 0, 0, 0, 0, 0) :: (36, 0, 0, 1, 30, 1184) :: (23, 33, 46, 0, 0, 0) :: (2, 0, 0, 0, 0, 0) :: (1, 2, 0, 0, 0, 0) :: (1, 1, 0, 0, 0, 0) :: (0, 0, 1, 0, 0, 0) :: (50, 61, 1, 4, 46, 5021) :: (26, 31, 30, 0, 0, 0) :: (2, 0, 0, 0, 0, 0) :: (37, 4, 0, 1, 21, 1193) :: (1, 2, 0, 0, 0, 0) :: (52, 23, 8, 2, 42, 16) :: (3, 3, 0, 0, 0, 0) :: (2, 0, 0, 0, 0, 0) :: (37, 6, 0, 1, 27, 1197) :: (1, 3, 0, 0, 0, 0) :: (2, 0, 0, 0, 0, 0) :: (37, 6, 0, 1, 27, 1197) :: (1, 3, 0, 0, 0, 0) :: (52, 23, 8, 2, 42, 16) :: (0, 0, 1, 0, 0, 0) :: (6, 0, 0, 0, 0, 0) :: (52, 31, 8, 3, 38, 14) :: bl_127_31
def bl_127_0 : List (Nat × Nat × Int × Nat × Nat × Nat) := (2, 0, 0, 0, 0, 0) :: (37, 6, 0, 1, 27, 1197) :: (0, 0, 0, 0, 0, 0) :: (49, 4, 99, 2, 55, 5109) :: (0, 0, 0, 0, 0, 0) :: (3, 2, 0, 0, 0, 0) :: bl_127_6
-- 128 X1_sum
def bl_128_23 : List (Nat × Nat × Int × Nat × Nat × Nat) := (1, 3, 0, 0, 0, 0) :: (55, 0, 0, 0, 0, 0) :: []
def bl_128_21 : List (Nat × Nat × Int × Nat × Nat × Nat) := (5, 4, 1, 0, 0, 0) :: (32, 4, (-35), 0, 0, 0) :: bl_128_23
def bl_128_4 : List (Nat × Nat × Int × Nat × Nat × Nat) := (1, 4, 0, 0, 1, 0) :: (2, 0, 0, 0, 0, 0) :: (36, 0, 0, 1, 30, 1184) :: (23, 23, 32, 0, 0, 0) :: (2, 0, 0, 0, 0, 0) :: (1, 4, 0, 0, 1, 0) :: (1, 1, 0, 0, 0, 0) :: (1, 2, 0, 0, 0, 0) :: (50, 61, 1, 4, 46, 5021) :: (26, 21, 15, 0, 0, 0) :: (1, 3, 0, 0, 0, 0) :: (2, 0, 0, 0, 0, 0) :: (37, 4, 0, 1, 21, 1193) :: (1, 4, 0, 0, 1, 0) :: (52, 23, 8, 2, 42, 16) :: (6, 0, 0, 0, 0, 0) :: (3, 3, 0, 0, 0, 0) :: bl_128_21
def bl_128_0 : List (Nat × Nat × Int × Nat × Nat × Nat) := (0, 0, 0, 0, 0, 0) :: (3, 3, 0, 0, 0, 0) :: (0, 0, 0, 0, 0, 0) :: (3, 4, 0, 0, 1, 0) :: bl_128_4
-- 129 X2_lengthEndingAt
def bl_129_46 : List (Nat × Nat × Int × Nat × Nat × Nat) := (1, 5, 0, 0, 1, 0) :: (0, 0, 5, 0, 0, 0) :: (6, 0, 0, 0, 0, 0) :: (55, 0, 0, 0, 0, 0) :: []
def bl_129_44 : List (Nat × Nat × Int × Nat × Nat × Nat) := (5, 6, 1, 0, 0, 0) :: (32, 20, (-52), 0, 0, 0) :: bl_129_46
def bl_129_20 : List (Nat × Nat × Int × Nat × Nat × Nat) := (1, 6, 0, 0, 1, 0) :: (2, 3, 0, 0, 0, 0) :: (36, 0, 0, 4, 41, 1101) :: (23, 46, 49, 0, 0, 0) :: (1, 4, 0, 0, 1, 0) :: (1, 6, 0, 0, 1, 0) :: (52, 24, 8, 2, 62, 23) :: (26, 44, 33, 0, 0, 0) :: (1, 5, 0, 0, 1, 0) :: (2, 0, 0, 0, 0, 0) :: (37, 1, 0, 2, 15, 2116) :: (1, 4, 0, 0, 1, 0) :: (0, 1, 10, 0, 0, 0) :: (8, 0, 0, 0, 0, 0) :: (1, 6, 0, 0, 1, 0) :: (6, 0, 0, 0, 0, 0) :: (52, 23, 8, 2, 75, 24) :: (2, 3, 0, 0, 0, 0) :: (1, 6, 0, 0, 1, 0) :: (1, 2, 0, 0, 0, 0) :: (50, 71, 4, 3, 79, 5146) :: (6, 0, 0, 0, 0, 0) :: (76, 0, 0, 0, 70, 5148) :: (3, 5, 0, 0, 1, 0) :: bl_129_44
def bl_129_17 : List (Nat × Nat × Int × Nat × Nat × Nat) := (3, 5, 0, 0, 1, 0) :: (0, 0, 0, 0, 0, 0) :: (3, 6, 0, 0, 1, 0) :: bl_129_20
def bl_129_16 : List (Nat × Nat × Int × Nat × Nat × Nat) := (0, 3, 1000000, 0, 61, 5140) :: bl_129_17
def bl_129_0 : List (Nat × Nat × Int × Nat × Nat × Nat) := (1, 1, 0, 0, 0, 0) :: (0, 0, 1, 0, 0, 0) :: (1, 2, 0, 0, 0, 0) :: (14, 0, 0, 0, 0, 0) :: (0, 0, (-1), 0, 0, 0) :: (13, 0, 0, 0, 0, 0) :: (11, 0, 0, 0, 0, 0) :: (3, 4, 0, 0, 1, 0) :: (1, 4, 0, 0, 1, 0) :: (27, 16, 15, 0, 0, 0) :: (2, 3, 0, 0, 0, 0) :: (2, 0, 0, 0, 0, 0) :: (36, 2, 0, 2, 18, 2117) :: (1, 2, 0, 0, 0, 0) :: (50, 71, 4, 3, 79, 5146) :: (32, 17, 5, 0, 0, 0) :: bl_129_16
-- 130 X3_bestWorth
def bl_130_28 : List (Nat × Nat × Int × Nat × Nat × Nat) := (1, 4, 0, 0, 1, 0) :: (55, 0, 0, 0, 0, 0) :: []
def bl_130_26 : List (Nat × Nat × Int × Nat × Nat × Nat) := (5, 5, 1, 0, 0, 0) :: (32, 4, (-48), 0, 0, 0) :: bl_130_28
def bl_130_10 : List (Nat × Nat × Int × Nat × Nat × Nat) := (1, 6, 0, 0, 1, 0) :: (2, 0, 0, 0, 0, 0) :: (36, 10, 0, 3, 108, 2080) :: (23, 26, 27, 0, 0, 0) :: (1, 4, 0, 0, 1, 0) :: (2, 0, 0, 0, 0, 0) :: (1, 1, 0, 0, 0, 0) :: (1, 2, 0, 0, 0, 0) :: (1, 3, 0, 0, 0, 0) :: (1, 5, 0, 0, 1, 0) :: (1, 6, 0, 0, 1, 0) :: (50, 68, 3, 6, 143, 4097) :: (75, 0, 0, 0, 147, 4103) :: (3, 4, 0, 0, 1, 0) :: (5, 6, 1, 0, 0, 0) :: (32, 10, (-30), 0, 0, 0) :: bl_130_26
def bl_130_4 : List (Nat × Nat × Int × Nat × Nat × Nat) := (1, 5, 0, 0, 1, 0) :: (2, 0, 0, 0, 0, 0) :: (36, 9, 0, 3, 78, 2079) :: (23, 28, 45, 0, 0, 0) :: (0, 0, 0, 0, 0, 0) :: (3, 6, 0, 0, 1, 0) :: bl_130_10
def bl_130_0 : List (Nat × Nat × Int × Nat × Nat × Nat) := (0, 0, 0, 0, 0, 0) :: (3, 4, 0, 0, 1, 0) :: (0, 0, 0, 0, 0, 0) :: (3, 5, 0, 0, 1, 0) :: bl_130_4
-- 131 X3_chooseCandidates
def bl_131_55 : List (Nat × Nat × Int × Nat × Nat × Nat) := (57, 0, 0, 0, 0, 0) :: []
def bl_131_53 : List (Nat × Nat × Int × Nat × Nat × Nat) := (5, 5, 1, 0, 0, 0) :: (32, 14, (-83), 0, 0, 0) :: bl_131_55
def bl_131_14 : List (Nat × Nat × Int × Nat × Nat × Nat) := (1, 5, 0, 0, 1, 0) :: (1, 4, 0, 0, 1, 0) :: (23, 55, 82, 0, 0, 0) :: (2, 3, 0, 0, 0, 0) :: (1, 5, 0, 0, 1, 0) :: (46, 0, 0, 0, 0, 0) :: (4, 6, 0, 0, 1, 0) :: (1, 2, 0, 0, 0, 0) :: (2, 6, 0, 0, 1, 0) :: (36, 0, 0, 0, 85, 1219) :: (52, 24, 8, 2, 90, 17) :: (26, 53, 58, 0, 0, 0) :: (2, 0, 0, 0, 0, 0) :: (2, 6, 0, 0, 1, 0) :: (1, 2, 0, 0, 0, 0) :: (2, 1, 0, 0, 0, 0) :: (50, 65, 3, 4, 94, 4062) :: (0, 1, 6, 0, 0, 0) :: (23, 53, 45, 0, 0, 0) :: (2, 0, 0, 0, 0, 0) :: (37, 0, 0, 3, 11, 2067) :: (2, 0, 0, 0, 0, 0) :: (36, 9, 0, 3, 78, 2079) :: (2, 6, 0, 0, 1, 0) :: (36, 0, 0, 0, 85, 1219) :: (52, 31, 8, 3, 98, 18) :: (2, 0, 0, 0, 0, 0) :: (37, 1, 0, 3, 15, 2068) :: (2, 0, 0, 0, 0, 0) :: (36, 9, 0, 3, 78, 2079) :: (2, 6, 0, 0, 1, 0) :: (36, 2, 0, 0, 102, 1226) :: (52, 31, 8, 3, 98, 18) :: (2, 0, 0, 0, 0, 0) :: (18, 0, 0, 0, 0, 0) :: (36, 9, 0, 3, 78, 2079) :: (0, 0, 1, 0, 0, 0) :: (6, 0, 0, 0, 0, 0) :: (38, 9, 0, 3, 78, 2079) :: bl_131_53
def bl_131_0 : List (Nat × Nat × Int × Nat × Nat × Nat) := (2, 1, 0, 0, 0, 0) :: (50, 77, 6, 1, 74, 4051) :: (3, 2, 0, 0, 0, 0) :: (2, 0, 0, 0, 0, 0) :: (0, 0, 0, 0, 0, 0) :: (38, 9, 0, 3, 78, 2079) :: (2, 1, 0, 0, 0, 0) :: (37, 1, 0, 6, 81, 2040) :: (4, 3, 0, 0, 0, 0) :: (2, 3, 0, 0, 0, 0) :: (48, 0, 0, 0, 0, 0) :: (3, 4, 0, 0, 1, 0) :: (0, 0, 0, 0, 0, 0) :: (3, 5, 0, 0, 1, 0) :: bl_131_14
-- 132 X3_choosePounds
def bl_132_41 : List (Nat × Nat × Int × Nat × Nat × Nat) := (57, 0, 0, 0, 0, 0) :: []
def bl_132_39 : List (Nat × Nat × Int × Nat × Nat × Nat) := (5, 2, 1, 0, 0, 0) :: (32, 5, (-71), 0, 0, 0) :: bl_132_41
def bl_132_5 : List (Nat × Nat × Int × Nat × Nat × Nat) := (1, 2, 0, 0, 0, 0) :: (2, 1, 0, 0, 0, 0) :: (37, 0, 0, 6, 46, 2036) :: (36, 0, 0, 4, 111, 1103) :: (23, 41, 66, 0, 0, 0) :: (2, 1, 0, 0, 0, 0) :: (37, 0, 0, 6, 46, 2036) :: (1, 2, 0, 0, 0, 0) :: (50, 70, 4, 2, 116, 4071) :: (26, 39, 49, 0, 0, 0) :: (2, 0, 0, 0, 0, 0) :: (36, 10, 0, 3, 108, 2080) :: (0, 0, 2, 0, 0, 0) :: (23, 39, 41, 0, 0, 0) :: (2, 0, 0, 0, 0, 0) :: (37, 2, 0, 3, 18, 2069) :: (2, 0, 0, 0, 0, 0) :: (36, 10, 0, 3, 108, 2080) :: (1, 2, 0, 0, 0, 0) :: (52, 31, 8, 3, 98, 18) :: (2, 0, 0, 0, 0, 0) :: (37, 3, 0, 3, 21, 2070) :: (2, 0, 0, 0, 0, 0) :: (36, 10, 0, 3, 108, 2080) :: (2, 1, 0, 0, 0, 0) :: (1, 2, 0, 0, 0, 0) :: (50, 78, 6, 2, 120, 4072) :: (52, 31, 8, 3, 98, 18) :: (2, 0, 0, 0, 0, 0) :: (18, 0, 0, 0, 0, 0) :: (36, 10, 0, 3, 108, 2080) :: (0, 0, 1, 0, 0, 0) :: (6, 0, 0, 0, 0, 0) :: (38, 10, 0, 3, 108, 2080) :: bl_132_39
def bl_132_0 : List (Nat × Nat × Int × Nat × Nat × Nat) := (2, 0, 0, 0, 0, 0) :: (0, 0, 0, 0, 0, 0) :: (38, 10, 0, 3, 108, 2080) :: (0, 0, 0, 0, 0, 0) :: (3, 2, 0, 0, 0, 0) :: bl_132_5
-- 133 X3_measureTrips
def bl_133_55 : List (Nat × Nat × Int × Nat × Nat × Nat) := (57, 0, 0, 0, 0, 0) :: []
def bl_133_53 : List (Nat × Nat × Int × Nat × Nat × Nat) := (5, 2, 1, 0, 0, 0) :: (32, 2, (-106), 0, 0, 0) :: bl_133_55
def bl_133_51 : List (Nat × Nat × Int × Nat × Nat × Nat) := (5, 3, 1, 0, 0, 0) :: (32, 8, (-90), 0, 0, 0) :: bl_133_53
def bl_133_14 : List (Nat × Nat × Int × Nat × Nat × Nat) := (1, 4, 0, 0, 1, 0) :: (2, 0, 0, 0, 0, 0) :: (36, 10, 0, 3, 108, 2080) :: (23, 51, 70, 0, 0, 0) :: (2, 0, 0, 0, 0, 0) :: (37, 1, 0, 3, 15, 2068) :: (1, 3, 0, 0, 0, 0) :: (52, 23, 8, 2, 70, 19) :: (3, 5, 0, 0, 1, 0) :: (2, 1, 0, 0, 0, 0) :: (2, 0, 0, 0, 0, 0) :: (37, 2, 0, 3, 18, 2069) :: (1, 2, 0, 0, 0, 0) :: (52, 23, 8, 2, 70, 19) :: (1, 5, 0, 0, 1, 0) :: (50, 71, 4, 3, 124, 4081) :: (2, 1, 0, 0, 0, 0) :: (1, 5, 0, 0, 1, 0) :: (2, 0, 0, 0, 0, 0) :: (37, 2, 0, 3, 18, 2069) :: (1, 4, 0, 0, 1, 0) :: (52, 23, 8, 2, 70, 19) :: (50, 71, 4, 3, 124, 4081) :: (6, 0, 0, 0, 0, 0) :: (3, 6, 0, 0, 1, 0) :: (2, 0, 0, 0, 0, 0) :: (37, 4, 0, 3, 24, 2071) :: (1, 2, 0, 0, 0, 0) :: (1, 3, 0, 0, 0, 0) :: (1, 4, 0, 0, 1, 0) :: (49, 14, 3, 3, 128, 4082) :: (1, 6, 0, 0, 1, 0) :: (0, 1, 10, 0, 0, 0) :: (6, 0, 0, 0, 0, 0) :: (52, 31, 8, 3, 98, 18) :: (5, 4, 1, 0, 0, 0) :: (32, 14, (-73), 0, 0, 0) :: bl_133_51
def bl_133_8 : List (Nat × Nat × Int × Nat × Nat × Nat) := (1, 3, 0, 0, 0, 0) :: (2, 0, 0, 0, 0, 0) :: (36, 9, 0, 3, 78, 2079) :: (23, 53, 88, 0, 0, 0) :: (0, 0, 0, 0, 0, 0) :: (3, 4, 0, 0, 1, 0) :: bl_133_14
def bl_133_2 : List (Nat × Nat × Int × Nat × Nat × Nat) := (1, 2, 0, 0, 0, 0) :: (2, 0, 0, 0, 0, 0) :: (36, 10, 0, 3, 108, 2080) :: (23, 55, 104, 0, 0, 0) :: (0, 0, 0, 0, 0, 0) :: (3, 3, 0, 0, 0, 0) :: bl_133_8
def bl_133_0 : List (Nat × Nat × Int × Nat × Nat × Nat) := (0, 0, 0, 0, 0, 0) :: (3, 2, 0, 0, 0, 0) :: bl_133_2
-- 134 X4_findWays
def bl_134_67 : List (Nat × Nat × Int × Nat × Nat × Nat) := (57, 0, 0, 0, 0, 0) :: []
def bl_134_65 : List (Nat × Nat × Int × Nat × Nat × Nat) := (5, 1, 1, 0, 0, 0) :: (32, 23, (-78), 0, 0, 0) :: bl_134_67
def bl_134_63 : List (Nat × Nat × Int × Nat × Nat × Nat) := (5, 2, 1, 0, 0, 0) :: (32, 28, (-64), 0, 0, 0) :: bl_134_65
def bl_134_61 : List (Nat × Nat × Int × Nat × Nat × Nat) := (5, 3, 1, 0, 0, 0) :: (32, 33, (-50), 0, 0, 0) :: bl_134_63
def bl_134_33 : List (Nat × Nat × Int × Nat × Nat × Nat) := (1, 3, 0, 0, 0, 0) :: (0, 1, 10, 0, 0, 0) :: (23, 63, 50, 0, 0, 0) :: (2, 0, 0, 0, 0, 0) :: (1, 2, 0, 0, 0, 0) :: (1, 1, 0, 0, 0, 0) :: (50, 71, 4, 3, 88, 1093) :: (2, 0, 0, 0, 0, 0) :: (1, 1, 0, 0, 0, 0) :: (1, 3, 0, 0, 0, 0) :: (50, 71, 4, 3, 88, 1093) :: (6, 0, 0, 0, 0, 0) :: (3, 4, 0, 0, 1, 0) :: (1, 4, 0, 0, 1, 0) :: (2, 0, 0, 0, 0, 0) :: (1, 2, 0, 0, 0, 0) :: (1, 3, 0, 0, 0, 0) :: (50, 71, 4, 3, 88, 1093) :: (23, 61, 18, 0, 0, 0) :: (2, 0, 0, 0, 0, 0) :: (37, 7, 0, 4, 24, 1119) :: (1, 2, 0, 0, 0, 0) :: (0, 1, 10, 0, 0, 0) :: (8, 0, 0, 0, 0, 0) :: (1, 3, 0, 0, 0, 0) :: (6, 0, 0, 0, 0, 0) :: (1, 4, 0, 0, 1, 0) :: (52, 31, 8, 3, 78, 3) :: bl_134_61
def bl_134_28 : List (Nat × Nat × Int × Nat × Nat × Nat) := (1, 2, 0, 0, 0, 0) :: (0, 1, 10, 0, 0, 0) :: (23, 65, 64, 0, 0, 0) :: (0, 0, 0, 0, 0, 0) :: (3, 3, 0, 0, 0, 0) :: bl_134_33
def bl_134_23 : List (Nat × Nat × Int × Nat × Nat × Nat) := (1, 1, 0, 0, 0, 0) :: (0, 1, 10, 0, 0, 0) :: (23, 67, 78, 0, 0, 0) :: (0, 0, 0, 0, 0, 0) :: (3, 2, 0, 0, 0, 0) :: bl_134_28
def bl_134_21 : List (Nat × Nat × Int × Nat × Nat × Nat) := (0, 0, 0, 0, 0, 0) :: (3, 1, 0, 0, 0, 0) :: bl_134_23
def bl_134_7 : List (Nat × Nat × Int × Nat × Nat × Nat) := (1, 1, 0, 0, 0, 0) :: (0, 1, 10, 0, 0, 0) :: (23, 21, 23, 0, 0, 0) :: (2, 0, 0, 0, 0, 0) :: (37, 7, 0, 4, 24, 1119) :: (1, 1, 0, 0, 0, 0) :: (0, 1, 10, 0, 0, 0) :: (8, 0, 0, 0, 0, 0) :: (1, 1, 0, 0, 0, 0) :: (6, 0, 0, 0, 0, 0) :: (0, 0, 0, 0, 0, 0) :: (52, 31, 8, 3, 78, 3) :: (5, 1, 1, 0, 0, 0) :: (32, 7, (-23), 0, 0, 0) :: bl_134_21
def bl_134_0 : List (Nat × Nat × Int × Nat × Nat × Nat) := (2, 0, 0, 0, 0, 0) :: (37, 6, 0, 4, 21, 1118) :: (2, 0, 0, 0, 0, 0) :: (37, 7, 0, 4, 24, 1119) :: (52, 85, 8, 2, 58, 2) :: (0, 0, 0, 0, 0, 0) :: (3, 1, 0, 0, 0, 0) :: bl_134_7
-- 135 X4_firstStep
def bl_135_33 : List (Nat × Nat × Int × Nat × Nat × Nat) := (0, 0, (-1), 0, 0, 0) :: (55, 0, 0, 0, 0, 0) :: []
def bl_135_31 : List (Nat × Nat × Int × Nat × Nat × Nat) := (5, 4, 1, 0, 0, 0) :: (32, 7, (-47), 0, 0, 0) :: bl_135_33
def bl_135_7 : List (Nat × Nat × Int × Nat × Nat × Nat) := (1, 4, 0, 0, 1, 0) :: (2, 0, 0, 0, 0, 0) :: (36, 0, 0, 4, 37, 1100) :: (23, 33, 44, 0, 0, 0) :: (1, 3, 0, 0, 0, 0) :: (0, 3, 1000000, 0, 53, 1071) :: (23, 33, 38, 0, 0, 0) :: (2, 0, 0, 0, 0, 0) :: (37, 6, 0, 4, 21, 1118) :: (1, 1, 0, 0, 0, 0) :: (0, 1, 10, 0, 0, 0) :: (8, 0, 0, 0, 0, 0) :: (1, 4, 0, 0, 1, 0) :: (6, 0, 0, 0, 0, 0) :: (52, 23, 8, 2, 66, 4) :: (2, 0, 0, 0, 0, 0) :: (1, 4, 0, 0, 1, 0) :: (1, 2, 0, 0, 0, 0) :: (50, 71, 4, 3, 88, 1093) :: (6, 0, 0, 0, 0, 0) :: (1, 3, 0, 0, 0, 0) :: (21, 31, 6, 0, 0, 0) :: (1, 4, 0, 0, 1, 0) :: (55, 0, 0, 0, 0, 0) :: bl_135_31
def bl_135_0 : List (Nat × Nat × Int × Nat × Nat × Nat) := (2, 0, 0, 0, 0, 0) :: (1, 1, 0, 0, 0, 0) :: (1, 2, 0, 0, 0, 0) :: (50, 71, 4, 3, 88, 1093) :: (3, 3, 0, 0, 0, 0) :: (0, 0, 0, 0, 0, 0) :: (3, 4, 0, 0, 1, 0) :: bl_135_7
-- 136 X4_setPound
def bl_136_17 : List (Nat × Nat × Int × Nat × Nat × Nat) := (2, 0, 0, 0, 0, 0) :: (37, 5, 0, 4, 18, 1116) :: (1, 1, 0, 0, 0, 0) :: (1, 2, 0, 0, 0, 0) :: (52, 31, 8, 3, 78, 3) :: (57, 0, 0, 0, 0, 0) :: []
def bl_136_0 : List (Nat × Nat × Int × Nat × Nat × Nat) := (2, 0, 0, 0, 0, 0) :: (1, 1, 0, 0, 0, 0) :: (50, 70, 4, 2, 74, 3092) :: (27, 17, 26, 0, 0, 0) :: (2, 0, 0, 0, 0, 0) :: (18, 0, 0, 0, 0, 0) :: (36, 1, 0, 4, 41, 1105) :: (0, 0, 1, 0, 0, 0) :: (6, 0, 0, 0, 0, 0) :: (38, 1, 0, 4, 41, 1105) :: (2, 0, 0, 0, 0, 0) :: (36, 2, 0, 4, 44, 1107) :: (0, 0, (-1), 0, 0, 0) :: (21, 17, 8, 0, 0, 0) :: (2, 0, 0, 0, 0, 0) :: (1, 1, 0, 0, 0, 0) :: (38, 2, 0, 4, 44, 1107) :: bl_136_17
-- 137 X5_readNumber
def bl_137_61 : List (Nat × Nat × Int × Nat × Nat × Nat) := (1, 3, 0, 0, 0, 0) :: (55, 0, 0, 0, 0, 0) :: []
def bl_137_49 : List (Nat × Nat × Int × Nat × Nat × Nat) := (1, 3, 0, 0, 0, 0) :: (1, 1, 0, 0, 0, 0) :: (1, 2, 0, 0, 0, 0) :: (52, 33, 8, 3, 143, 9) :: (27, 61, 14, 0, 0, 0) :: (2, 0, 0, 0, 0, 0) :: (0, 0, 2, 0, 0, 0) :: (2, 0, 0, 0, 0, 0) :: (36, 4, 0, 5, 99, 1145) :: (50, 17, 5, 3, 64, 3021) :: (0, 0, (-1), 0, 0, 0) :: (55, 0, 0, 0, 0, 0) :: bl_137_61
def bl_137_22 : List (Nat × Nat × Int × Nat × Nat × Nat) := (2, 0, 0, 0, 0, 0) :: (36, 3, 0, 5, 33, 1144) :: (2, 0, 0, 0, 0, 0) :: (36, 2, 0, 5, 22, 1143) :: (23, 49, 44, 0, 0, 0) :: (2, 0, 0, 0, 0, 0) :: (50, 20, 5, 1, 75, 2193) :: (49, 19, 5, 1, 134, 3029) :: (26, 49, 34, 0, 0, 0) :: (0, 3, 1000000, 0, 137, 3032) :: (1, 3, 0, 0, 0, 0) :: (0, 1, 10, 0, 0, 0) :: (8, 0, 0, 0, 0, 0) :: (2, 0, 0, 0, 0, 0) :: (50, 20, 5, 1, 75, 2193) :: (6, 0, 0, 0, 0, 0) :: (0, 1, 48, 0, 0, 0) :: (7, 0, 0, 0, 0, 0) :: (76, 0, 0, 0, 138, 3033) :: (3, 3, 0, 0, 0, 0) :: (2, 0, 0, 0, 0, 0) :: (18, 0, 0, 0, 0, 0) :: (36, 3, 0, 5, 33, 1144) :: (0, 0, 1, 0, 0, 0) :: (6, 0, 0, 0, 0, 0) :: (38, 3, 0, 5, 33, 1144) :: (32, 22, (-49), 0, 0, 0) :: bl_137_49
def bl_137_16 : List (Nat × Nat × Int × Nat × Nat × Nat) := (2, 0, 0, 0, 0, 0) :: (2, 0, 0, 0, 0, 0) :: (36, 3, 0, 5, 33, 1144) :: (38, 4, 0, 5, 99, 1145) :: (0, 0, 0, 0, 0, 0) :: (3, 3, 0, 0, 0, 0) :: bl_137_22
def bl_137_11 : List (Nat × Nat × Int × Nat × Nat × Nat) := (2, 0, 0, 0, 0, 0) :: (36, 6, 0, 5, 36, 1148) :: (26, 16, 5, 0, 0, 0) :: (0, 0, (-1), 0, 0, 0) :: (55, 0, 0, 0, 0, 0) :: bl_137_16
def bl_137_0 : List (Nat × Nat × Int × Nat × Nat × Nat) := (2, 0, 0, 0, 0, 0) :: (50, 75, 5, 1, 45, 2189) :: (2, 0, 0, 0, 0, 0) :: (50, 20, 5, 1, 75, 2193) :: (49, 19, 5, 1, 134, 3029) :: (27, 11, 12, 0, 0, 0) :: (2, 0, 0, 0, 0, 0) :: (0, 0, 1, 0, 0, 0) :: (2, 0, 0, 0, 0, 0) :: (36, 3, 0, 5, 33, 1144) :: (50, 17, 5, 3, 64, 3021) :: bl_137_11
-- 138 X6_allOwed
def bl_138_24 : List (Nat × Nat × Int × Nat × Nat × Nat) := (1, 1, 0, 0, 0, 0) :: (55, 0, 0, 0, 0, 0) :: []
def bl_138_10 : List (Nat × Nat × Int × Nat × Nat × Nat) := (1, 4, 0, 0, 1, 0) :: (1, 3, 0, 0, 0, 0) :: (23, 24, 23, 0, 0, 0) :: (2, 2, 0, 0, 0, 0) :: (1, 4, 0, 0, 1, 0) :: (46, 0, 0, 0, 0, 0) :: (4, 5, 0, 0, 1, 0) :: (1, 1, 0, 0, 0, 0) :: (2, 5, 0, 0, 1, 0) :: (50, 56, 0, 1, 186, 5033) :: (6, 0, 0, 0, 0, 0) :: (3, 1, 0, 0, 0, 0) :: (5, 4, 1, 0, 0, 0) :: (32, 10, (-23), 0, 0, 0) :: bl_138_24
def bl_138_0 : List (Nat × Nat × Int × Nat × Nat × Nat) := (0, 0, 0, 0, 0, 0) :: (3, 1, 0, 0, 0, 0) :: (2, 0, 0, 0, 0, 0) :: (37, 1, 0, 6, 20, 2039) :: (4, 2, 0, 0, 0, 0) :: (2, 2, 0, 0, 0, 0) :: (48, 0, 0, 0, 0, 0) :: (3, 3, 0, 0, 0, 0) :: (0, 0, 0, 0, 0, 0) :: (3, 4, 0, 0, 1, 0) :: bl_138_10
-- 139 X6_carsOnSpaces
def bl_139_30 : List (Nat × Nat × Int × Nat × Nat × Nat) := (1, 2, 0, 0, 0, 0) :: (55, 0, 0, 0, 0, 0) :: []
def bl_139_28 : List (Nat × Nat × Int × Nat × Nat × Nat) := (5, 5, 1, 0, 0, 0) :: (32, 10, (-35), 0, 0, 0) :: bl_139_30
def bl_139_10 : List (Nat × Nat × Int × Nat × Nat × Nat) := (1, 5, 0, 0, 1, 0) :: (1, 4, 0, 0, 1, 0) :: (23, 30, 34, 0, 0, 0) :: (2, 3, 0, 0, 0, 0) :: (1, 5, 0, 0, 1, 0) :: (46, 0, 0, 0, 0, 0) :: (4, 6, 0, 0, 1, 0) :: (2, 6, 0, 0, 1, 0) :: (1, 1, 0, 0, 0, 0) :: (50, 58, 0, 2, 67, 3137) :: (26, 28, 13, 0, 0, 0) :: (1, 2, 0, 0, 0, 0) :: (0, 0, 1, 0, 0, 0) :: (2, 6, 0, 0, 1, 0) :: (36, 0, 0, 0, 60, 1220) :: (14, 0, 0, 0, 0, 0) :: (12, 0, 0, 0, 0, 0) :: (3, 2, 0, 0, 0, 0) :: bl_139_28
def bl_139_0 : List (Nat × Nat × Int × Nat × Nat × Nat) := (0, 0, 0, 0, 0, 0) :: (3, 2, 0, 0, 0, 0) :: (2, 0, 0, 0, 0, 0) :: (37, 1, 0, 6, 20, 2039) :: (4, 3, 0, 0, 0, 0) :: (2, 3, 0, 0, 0, 0) :: (48, 0, 0, 0, 0, 0) :: (3, 4, 0, 0, 1, 0) :: (0, 0, 0, 0, 0, 0) :: (3, 5, 0, 0, 1, 0) :: bl_139_10
-- 140 X6_note
def bl_140_0 : List (Nat × Nat × Int × Nat × Nat × Nat) := (2, 0, 0, 0, 0, 0) :: (37, 2, 0, 6, 27, 2041) :: (2, 0, 0, 0, 0, 0) :: (36, 3, 0, 6, 48, 2043) :: (1, 1, 0, 0, 0, 0) :: (2, 2, 0, 0, 0, 0) :: (36, 0, 0, 0, 60, 1220) :: (1, 3, 0, 0, 0, 0) :: (50, 59, 1, 5, 63, 3163) :: (57, 0, 0, 0, 0, 0) :: []
-- 141 X7_chargedMinutes
def bl_141_12 : List (Nat × Nat × Int × Nat × Nat × Nat) := (55, 0, 0, 0, 0, 0) :: []
def bl_141_11 : List (Nat × Nat × Int × Nat × Nat × Nat) := (0, 0, 0, 0, 0, 0) :: bl_141_12
def bl_141_0 : List (Nat × Nat × Int × Nat × Nat × Nat) := (1, 1, 0, 0, 0, 0) :: (1, 2, 0, 0, 0, 0) :: (23, 11, 17, 0, 0, 0) :: (2, 0, 0, 0, 0, 0) :: (1, 2, 0, 0, 0, 0) :: (50, 79, 7, 2, 48, 3206) :: (2, 0, 0, 0, 0, 0) :: (1, 1, 0, 0, 0, 0) :: (50, 79, 7, 2, 48, 3206) :: (7, 0, 0, 0, 0, 0) :: (32, 12, 4, 0, 0, 0) :: bl_141_11
-- 142 X7_copyFrom
def bl_142_0 : List (Nat × Nat × Int × Nat × Nat × Nat) := (2, 1, 0, 0, 0, 0) :: (37, 0, 0, 7, 9, 1052) :: (2, 0, 0, 0, 0, 0) :: (37, 0, 0, 7, 9, 1052) :: (52, 85, 8, 2, 25, 12) :: (2, 0, 0, 0, 0, 0) :: (2, 1, 0, 0, 0, 0) :: (36, 1, 0, 7, 15, 1054) :: (38, 1, 0, 7, 15, 1054) :: (57, 0, 0, 0, 0, 0) :: []
-- 143 X7_cost
def bl_143_17 : List (Nat × Nat × Int × Nat × Nat × Nat) := (1, 3, 0, 0, 0, 0) :: (55, 0, 0, 0, 0, 0) :: []
def bl_143_4 : List (Nat × Nat × Int × Nat × Nat × Nat) := (1, 4, 0, 0, 1, 0) :: (1, 2, 0, 0, 0, 0) :: (23, 17, 20, 0, 0, 0) :: (1, 3, 0, 0, 0, 0) :: (2, 0, 0, 0, 0, 0) :: (1, 1, 0, 0, 0, 0) :: (1, 4, 0, 0, 1, 0) :: (6, 0, 0, 0, 0, 0) :: (50, 82, 7, 2, 37, 3188) :: (6, 0, 0, 0, 0, 0) :: (3, 3, 0, 0, 0, 0) :: (5, 4, 1, 0, 0, 0) :: (32, 4, (-20), 0, 0, 0) :: bl_143_17
def bl_143_0 : List (Nat × Nat × Int × Nat × Nat × Nat) := (0, 0, 0, 0, 0, 0) :: (3, 3, 0, 0, 0, 0) :: (0, 0, 0, 0, 0, 0) :: (3, 4, 0, 0, 1, 0) :: bl_143_4
-- 144 X7_lastsUntil
def bl_144_22 : List (Nat × Nat × Int × Nat × Nat × Nat) := (1, 5, 0, 0, 1, 0) :: (55, 0, 0, 0, 0, 0) :: []
def bl_144_6 : List (Nat × Nat × Int × Nat × Nat × Nat) := (1, 5, 0, 0, 1, 0) :: (1, 2, 0, 0, 0, 0) :: (23, 22, 31, 0, 0, 0) :: (2, 0, 0, 0, 0, 0) :: (1, 5, 0, 0, 1, 0) :: (50, 82, 7, 2, 37, 3188) :: (1, 4, 0, 0, 1, 0) :: (24, 22, 20, 0, 0, 0) :: (1, 4, 0, 0, 1, 0) :: (2, 0, 0, 0, 0, 0) :: (1, 5, 0, 0, 1, 0) :: (50, 82, 7, 2, 37, 3188) :: (7, 0, 0, 0, 0, 0) :: (3, 4, 0, 0, 1, 0) :: (5, 5, 1, 0, 0, 0) :: (32, 6, (-31), 0, 0, 0) :: bl_144_22
def bl_144_0 : List (Nat × Nat × Int × Nat × Nat × Nat) := (1, 3, 0, 0, 0, 0) :: (0, 1, 60, 0, 0, 0) :: (8, 0, 0, 0, 0, 0) :: (3, 4, 0, 0, 1, 0) :: (1, 1, 0, 0, 0, 0) :: (3, 5, 0, 0, 1, 0) :: bl_144_6
-- 145 X8_appendByte
def bl_145_11 : List (Nat × Nat × Int × Nat × Nat × Nat) := (2, 0, 0, 0, 0, 0) :: (37, 0, 0, 8, 10, 2137) :: (1, 1, 0, 0, 0, 0) :: (50, 73, 5, 2, 53, 2167) :: (55, 0, 0, 0, 0, 0) :: []
def bl_145_9 : List (Nat × Nat × Int × Nat × Nat × Nat) := (0, 0, (-1), 0, 0, 0) :: (55, 0, 0, 0, 0, 0) :: bl_145_11
def bl_145_0 : List (Nat × Nat × Int × Nat × Nat × Nat) := (1, 1, 0, 0, 0, 0) :: (0, 0, 0, 0, 0, 0) :: (0, 2, 255, 0, 0, 0) :: (49, 33, 8, 3, 45, 2160) :: (26, 9, 13, 0, 0, 0) :: (2, 0, 0, 0, 0, 0) :: (37, 0, 0, 8, 10, 2137) :: (50, 18, 5, 1, 49, 2163) :: (26, 11, 5, 0, 0, 0) :: bl_145_9
-- 146 X8_distance
def bl_146_27 : List (Nat × Nat × Int × Nat × Nat × Nat) := (55, 0, 0, 0, 0, 0) :: []
def bl_146_26 : List (Nat × Nat × Int × Nat × Nat × Nat) := (1, 3, 0, 0, 0, 0) :: bl_146_27
def bl_146_14 : List (Nat × Nat × Int × Nat × Nat × Nat) := (2, 0, 0, 0, 0, 0) :: (37, 1, 0, 8, 19, 2138) :: (37, 0, 0, 6, 75, 2038) :: (1, 1, 0, 0, 0, 0) :: (1, 2, 0, 0, 0, 0) :: (50, 71, 4, 3, 201, 4160) :: (3, 3, 0, 0, 0, 0) :: (1, 3, 0, 0, 0, 0) :: (0, 3, 1000000, 0, 204, 4161) :: (22, 26, 8, 0, 0, 0) :: (0, 1, (-3), 0, 0, 0) :: (32, 27, 4, 0, 0, 0) :: bl_146_26
def bl_146_12 : List (Nat × Nat × Int × Nat × Nat × Nat) := (0, 0, (-1), 0, 0, 0) :: (55, 0, 0, 0, 0, 0) :: bl_146_14
def bl_146_0 : List (Nat × Nat × Int × Nat × Nat × Nat) := (2, 0, 0, 0, 0, 0) :: (37, 1, 0, 8, 19, 2138) :: (37, 0, 0, 6, 75, 2038) :: (1, 1, 0, 0, 0, 0) :: (50, 15, 4, 2, 95, 3124) :: (26, 12, 17, 0, 0, 0) :: (2, 0, 0, 0, 0, 0) :: (37, 1, 0, 8, 19, 2138) :: (37, 0, 0, 6, 75, 2038) :: (1, 2, 0, 0, 0, 0) :: (50, 15, 4, 2, 95, 3124) :: (27, 14, 5, 0, 0, 0) :: bl_146_12
-- 147 X8_due
def bl_147_11 : List (Nat × Nat × Int × Nat × Nat × Nat) := (55, 0, 0, 0, 0, 0) :: []
def bl_147_9 : List (Nat × Nat × Int × Nat × Nat × Nat) := (2, 2, 0, 0, 0, 0) :: (50, 56, 0, 1, 154, 4034) :: bl_147_11
def bl_147_0 : List (Nat × Nat × Int × Nat × Nat × Nat) := (2, 0, 0, 0, 0, 0) :: (37, 1, 0, 8, 19, 2138) :: (1, 1, 0, 0, 0, 0) :: (50, 22, 6, 2, 91, 3120) :: (4, 2, 0, 0, 0, 0) :: (2, 2, 0, 0, 0, 0) :: (34, 9, 7, 0, 0, 0) :: (0, 0, (-1), 0, 0, 0) :: (32, 11, 7, 0, 0, 0) :: bl_147_9
-- 148 X8_paidSoon
def bl_148_13 : List (Nat × Nat × Int × Nat × Nat × Nat) := (2, 0, 0, 0, 0, 0) :: (37, 1, 0, 8, 19, 2138) :: (1, 1, 0, 0, 0, 0) :: (2, 0, 0, 0, 0, 0) :: (37, 1, 0, 8, 19, 2138) :: (36, 3, 0, 6, 88, 2045) :: (1, 2, 0, 0, 0, 0) :: (6, 0, 0, 0, 0, 0) :: (50, 76, 6, 3, 313, 5097) :: (55, 0, 0, 0, 0, 0) :: []
def bl_148_11 : List (Nat × Nat × Int × Nat × Nat × Nat) := (0, 0, (-1), 0, 0, 0) :: (55, 0, 0, 0, 0, 0) :: bl_148_13
def bl_148_0 : List (Nat × Nat × Int × Nat × Nat × Nat) := (2, 0, 0, 0, 0, 0) :: (37, 1, 0, 8, 19, 2138) :: (37, 0, 0, 6, 75, 2038) :: (1, 1, 0, 0, 0, 0) :: (50, 15, 4, 2, 95, 3124) :: (26, 11, 14, 0, 0, 0) :: (1, 2, 0, 0, 0, 0) :: (0, 0, 0, 0, 0, 0) :: (0, 2, 600, 0, 0, 0) :: (49, 33, 8, 3, 45, 2160) :: (27, 13, 5, 0, 0, 0) :: bl_148_11
-- 149 X8_poundFree
def bl_149_20 : List (Nat × Nat × Int × Nat × Nat × Nat) := (55, 0, 0, 0, 0, 0) :: []
def bl_149_19 : List (Nat × Nat × Int × Nat × Nat × Nat) := (0, 1, (-3), 0, 0, 0) :: bl_149_20
def bl_149_8 : List (Nat × Nat × Int × Nat × Nat × Nat) := (2, 0, 0, 0, 0, 0) :: (37, 1, 0, 8, 19, 2138) :: (37, 0, 0, 6, 75, 2038) :: (1, 1, 0, 0, 0, 0) :: (50, 70, 4, 2, 217, 4195) :: (26, 19, 14, 0, 0, 0) :: (2, 0, 0, 0, 0, 0) :: (37, 1, 0, 8, 19, 2138) :: (1, 1, 0, 0, 0, 0) :: (50, 78, 6, 2, 220, 4196) :: (32, 20, 5, 0, 0, 0) :: bl_149_19
def bl_149_0 : List (Nat × Nat × Int × Nat × Nat × Nat) := (2, 0, 0, 0, 0, 0) :: (37, 1, 0, 8, 19, 2138) :: (37, 0, 0, 6, 75, 2038) :: (1, 1, 0, 0, 0, 0) :: (50, 15, 4, 2, 95, 3124) :: (27, 8, 5, 0, 0, 0) :: (0, 0, (-1), 0, 0, 0) :: (55, 0, 0, 0, 0, 0) :: bl_149_8
-- 150 X8_towable
def bl_150_0 : List (Nat × Nat × Int × Nat × Nat × Nat) := (2, 0, 0, 0, 0, 0) :: (37, 1, 0, 8, 19, 2138) :: (50, 77, 6, 1, 260, 5005) :: (55, 0, 0, 0, 0, 0) :: []
-- 151 X9_ahead
def bl_151_46 : List (Nat × Nat × Int × Nat × Nat × Nat) := (1, 2, 0, 0, 0, 0) :: (55, 0, 0, 0, 0, 0) :: []
def bl_151_42 : List (Nat × Nat × Int × Nat × Nat × Nat) := (6, 0, 0, 0, 0, 0) :: (3, 2, 0, 0, 0, 0) :: (5, 3, 1, 0, 0, 0) :: (32, 4, (-72), 0, 0, 0) :: bl_151_46
def bl_151_41 : List (Nat × Nat × Int × Nat × Nat × Nat) := (0, 0, 0, 0, 0, 0) :: bl_151_42
def bl_151_31 : List (Nat × Nat × Int × Nat × Nat × Nat) := (3, 4, 0, 0, 1, 0) :: (1, 2, 0, 0, 0, 0) :: (2, 0, 0, 0, 0, 0) :: (1, 3, 0, 0, 0, 0) :: (50, 107, 9, 2, 228, 7152) :: (26, 41, 12, 0, 0, 0) :: (1, 4, 0, 0, 1, 0) :: (26, 41, 7, 0, 0, 0) :: (0, 0, 1, 0, 0, 0) :: (32, 42, 4, 0, 0, 0) :: bl_151_41
def bl_151_30 : List (Nat × Nat × Int × Nat × Nat × Nat) := (0, 0, 0, 0, 0, 0) :: bl_151_31
def bl_151_28 : List (Nat × Nat × Int × Nat × Nat × Nat) := (0, 0, 1, 0, 0, 0) :: (32, 31, 4, 0, 0, 0) :: bl_151_30
def bl_151_4 : List (Nat × Nat × Int × Nat × Nat × Nat) := (1, 3, 0, 0, 0, 0) :: (0, 1, 16, 0, 0, 0) :: (23, 46, 72, 0, 0, 0) :: (2, 0, 0, 0, 0, 0) :: (1, 3, 0, 0, 0, 0) :: (0, 0, 5, 0, 0, 0) :: (50, 46, 9, 3, 161, 7054) :: (2, 0, 0, 0, 0, 0) :: (1, 1, 0, 0, 0, 0) :: (0, 0, 5, 0, 0, 0) :: (50, 46, 9, 3, 161, 7054) :: (22, 28, 23, 0, 0, 0) :: (2, 0, 0, 0, 0, 0) :: (1, 3, 0, 0, 0, 0) :: (0, 0, 5, 0, 0, 0) :: (50, 46, 9, 3, 161, 7054) :: (2, 0, 0, 0, 0, 0) :: (1, 1, 0, 0, 0, 0) :: (0, 0, 5, 0, 0, 0) :: (50, 46, 9, 3, 161, 7054) :: (21, 30, 12, 0, 0, 0) :: (1, 3, 0, 0, 0, 0) :: (1, 1, 0, 0, 0, 0) :: (23, 30, 7, 0, 0, 0) :: bl_151_28
def bl_151_0 : List (Nat × Nat × Int × Nat × Nat × Nat) := (0, 0, 0, 0, 0, 0) :: (3, 2, 0, 0, 0, 0) :: (0, 0, 0, 0, 0, 0) :: (3, 3, 0, 0, 0, 0) :: bl_151_4
-- 152 X9_asks
def bl_152_22 : List (Nat × Nat × Int × Nat × Nat × Nat) := (55, 0, 0, 0, 0, 0) :: []
def bl_152_21 : List (Nat × Nat × Int × Nat × Nat × Nat) := (0, 1, (-2), 0, 0, 0) :: bl_152_22
def bl_152_8 : List (Nat × Nat × Int × Nat × Nat × Nat) := (2, 0, 0, 0, 0, 0) :: (1, 1, 0, 0, 0, 0) :: (0, 0, 0, 0, 0, 0) :: (50, 46, 9, 3, 161, 7054) :: (1, 3, 0, 0, 0, 0) :: (1, 4, 0, 0, 1, 0) :: (49, 40, 9, 3, 70, 6204) :: (26, 21, 12, 0, 0, 0) :: (2, 0, 0, 0, 0, 0) :: (1, 1, 0, 0, 0, 0) :: (1, 2, 0, 0, 0, 0) :: (50, 46, 9, 3, 161, 7054) :: (32, 22, 5, 0, 0, 0) :: bl_152_21
def bl_152_0 : List (Nat × Nat × Int × Nat × Nat × Nat) := (2, 0, 0, 0, 0, 0) :: (0, 0, 0, 0, 0, 0) :: (38, 4, 0, 9, 59, 6118) :: (1, 1, 0, 0, 0, 0) :: (49, 105, 9, 1, 171, 7047) :: (27, 8, 7, 0, 0, 0) :: (0, 0, (-1), 0, 0, 0) :: (32, 22, 29, 0, 0, 0) :: bl_152_8
-- 153 X9_carsAt
def bl_153_31 : List (Nat × Nat × Int × Nat × Nat × Nat) := (1, 2, 0, 0, 0, 0) :: (55, 0, 0, 0, 0, 0) :: []
def bl_153_27 : List (Nat × Nat × Int × Nat × Nat × Nat) := (12, 0, 0, 0, 0, 0) :: (3, 2, 0, 0, 0, 0) :: (5, 3, 1, 0, 0, 0) :: (32, 13, (-28), 0, 0, 0) :: bl_153_31
def bl_153_26 : List (Nat × Nat × Int × Nat × Nat × Nat) := (0, 0, 0, 0, 0, 0) :: bl_153_27
def bl_153_13 : List (Nat × Nat × Int × Nat × Nat × Nat) := (1, 3, 0, 0, 0, 0) :: (0, 1, 16, 0, 0, 0) :: (23, 31, 28, 0, 0, 0) :: (1, 2, 0, 0, 0, 0) :: (2, 0, 0, 0, 0, 0) :: (1, 3, 0, 0, 0, 0) :: (1, 1, 0, 0, 0, 0) :: (50, 104, 9, 3, 167, 7062) :: (26, 26, 9, 0, 0, 0) :: (0, 0, 1, 0, 0, 0) :: (1, 3, 0, 0, 0, 0) :: (14, 0, 0, 0, 0, 0) :: (32, 27, 4, 0, 0, 0) :: bl_153_26
def bl_153_9 : List (Nat × Nat × Int × Nat × Nat × Nat) := (0, 0, 0, 0, 0, 0) :: (3, 2, 0, 0, 0, 0) :: (0, 0, 0, 0, 0, 0) :: (3, 3, 0, 0, 0, 0) :: bl_153_13
def bl_153_0 : List (Nat × Nat × Int × Nat × Nat × Nat) := (2, 0, 0, 0, 0, 0) :: (0, 0, 0, 0, 0, 0) :: (38, 4, 0, 9, 59, 6118) :: (2, 0, 0, 0, 0, 0) :: (1, 1, 0, 0, 0, 0) :: (50, 106, 9, 2, 175, 7050) :: (27, 9, 5, 0, 0, 0) :: (0, 0, (-1), 0, 0, 0) :: (55, 0, 0, 0, 0, 0) :: bl_153_9
-- 154 X9_cheapestStart
def bl_154_46 : List (Nat × Nat × Int × Nat × Nat × Nat) := (1, 3, 0, 0, 0, 0) :: (55, 0, 0, 0, 0, 0) :: []
def bl_154_43 : List (Nat × Nat × Int × Nat × Nat × Nat) := (3, 3, 0, 0, 0, 0) :: (5, 4, 1, 0, 0, 0) :: (32, 21, (-43), 0, 0, 0) :: bl_154_46
def bl_154_42 : List (Nat × Nat × Int × Nat × Nat × Nat) := (1, 3, 0, 0, 0, 0) :: bl_154_43
def bl_154_21 : List (Nat × Nat × Int × Nat × Nat × Nat) := (1, 4, 0, 0, 1, 0) :: (2, 0, 0, 0, 0, 0) :: (37, 0, 0, 9, 9, 6114) :: (0, 0, 2, 0, 0, 0) :: (40, 0, 0, 0, 0, 0) :: (0, 2, 1440, 0, 0, 0) :: (6, 0, 0, 0, 0, 0) :: (23, 46, 34, 0, 0, 0) :: (2, 0, 0, 0, 0, 0) :: (1, 1, 0, 0, 0, 0) :: (1, 4, 0, 0, 1, 0) :: (1, 2, 0, 0, 0, 0) :: (50, 115, 9, 4, 268, 8091) :: (2, 0, 0, 0, 0, 0) :: (1, 1, 0, 0, 0, 0) :: (1, 3, 0, 0, 0, 0) :: (1, 2, 0, 0, 0, 0) :: (50, 115, 9, 4, 268, 8091) :: (23, 42, 8, 0, 0, 0) :: (1, 4, 0, 0, 1, 0) :: (32, 43, 4, 0, 0, 0) :: bl_154_42
def bl_154_14 : List (Nat × Nat × Int × Nat × Nat × Nat) := (2, 0, 0, 0, 0, 0) :: (37, 0, 0, 9, 9, 6114) :: (0, 0, 2, 0, 0, 0) :: (40, 0, 0, 0, 0, 0) :: (3, 3, 0, 0, 0, 0) :: (1, 3, 0, 0, 0, 0) :: (3, 4, 0, 0, 1, 0) :: bl_154_21
def bl_154_12 : List (Nat × Nat × Int × Nat × Nat × Nat) := (0, 0, (-1), 0, 0, 0) :: (55, 0, 0, 0, 0, 0) :: bl_154_14
def bl_154_0 : List (Nat × Nat × Int × Nat × Nat × Nat) := (2, 0, 0, 0, 0, 0) :: (0, 0, 0, 0, 0, 0) :: (38, 4, 0, 9, 59, 6118) :: (2, 0, 0, 0, 0, 0) :: (1, 1, 0, 0, 0, 0) :: (50, 106, 9, 2, 175, 7050) :: (26, 12, 14, 0, 0, 0) :: (1, 2, 0, 0, 0, 0) :: (0, 0, 1, 0, 0, 0) :: (0, 2, 600, 0, 0, 0) :: (49, 40, 9, 3, 70, 6204) :: (27, 14, 5, 0, 0, 0) :: bl_154_12
-- 155 X9_distance
def bl_155_25 : List (Nat × Nat × Int × Nat × Nat × Nat) := (55, 0, 0, 0, 0, 0) :: []
def bl_155_24 : List (Nat × Nat × Int × Nat × Nat × Nat) := (0, 1, (-3), 0, 0, 0) :: bl_155_25
def bl_155_13 : List (Nat × Nat × Int × Nat × Nat × Nat) := (2, 0, 0, 0, 0, 0) :: (1, 1, 0, 0, 0, 0) :: (1, 2, 0, 0, 0, 0) :: (50, 51, 9, 3, 249, 7168) :: (0, 3, 1000000, 0, 63, 6109) :: (23, 24, 12, 0, 0, 0) :: (2, 0, 0, 0, 0, 0) :: (1, 1, 0, 0, 0, 0) :: (1, 2, 0, 0, 0, 0) :: (50, 51, 9, 3, 249, 7168) :: (32, 25, 5, 0, 0, 0) :: bl_155_24
def bl_155_11 : List (Nat × Nat × Int × Nat × Nat × Nat) := (0, 0, (-1), 0, 0, 0) :: (55, 0, 0, 0, 0, 0) :: bl_155_13
def bl_155_0 : List (Nat × Nat × Int × Nat × Nat × Nat) := (2, 0, 0, 0, 0, 0) :: (0, 0, 0, 0, 0, 0) :: (38, 4, 0, 9, 59, 6118) :: (2, 0, 0, 0, 0, 0) :: (1, 1, 0, 0, 0, 0) :: (50, 106, 9, 2, 175, 7050) :: (26, 11, 11, 0, 0, 0) :: (2, 0, 0, 0, 0, 0) :: (1, 2, 0, 0, 0, 0) :: (50, 106, 9, 2, 175, 7050) :: (27, 13, 5, 0, 0, 0) :: bl_155_11
-- 156 X9_due
def bl_156_11 : List (Nat × Nat × Int × Nat × Nat × Nat) := (55, 0, 0, 0, 0, 0) :: []
def bl_156_10 : List (Nat × Nat × Int × Nat × Nat × Nat) := (0, 0, (-1), 0, 0, 0) :: bl_156_11
def bl_156_0 : List (Nat × Nat × Int × Nat × Nat × Nat) := (2, 0, 0, 0, 0, 0) :: (0, 0, 0, 0, 0, 0) :: (38, 4, 0, 9, 59, 6118) :: (1, 1, 0, 0, 0, 0) :: (49, 105, 9, 1, 171, 7047) :: (26, 10, 11, 0, 0, 0) :: (2, 0, 0, 0, 0, 0) :: (1, 1, 0, 0, 0, 0) :: (50, 113, 9, 2, 225, 7140) :: (32, 11, 4, 0, 0, 0) :: bl_156_10
-- 157 X9_fine
def bl_157_49 : List (Nat × Nat × Int × Nat × Nat × Nat) := (0, 2, 500, 0, 0, 0) :: (0, 0, 5, 0, 0, 0) :: (2, 0, 0, 0, 0, 0) :: (1, 1, 0, 0, 0, 0) :: (50, 123, 9, 2, 208, 7119) :: (76, 0, 0, 0, 64, 6113) :: (8, 0, 0, 0, 0, 0) :: (6, 0, 0, 0, 0, 0) :: (55, 0, 0, 0, 0, 0) :: []
def bl_157_48 : List (Nat × Nat × Int × Nat × Nat × Nat) := (0, 2, 6000, 0, 0, 0) :: bl_157_49
def bl_157_43 : List (Nat × Nat × Int × Nat × Nat × Nat) := (1, 2, 0, 0, 0, 0) :: (0, 1, 120, 0, 0, 0) :: (24, 48, 9, 0, 0, 0) :: (0, 2, 3000, 0, 0, 0) :: (32, 49, 6, 0, 0, 0) :: bl_157_48
def bl_157_38 : List (Nat × Nat × Int × Nat × Nat × Nat) := (1, 2, 0, 0, 0, 0) :: (0, 1, 30, 0, 0, 0) :: (24, 43, 9, 0, 0, 0) :: (0, 2, 1500, 0, 0, 0) :: (32, 49, 18, 0, 0, 0) :: bl_157_43
def bl_157_36 : List (Nat × Nat × Int × Nat × Nat × Nat) := (0, 0, 0, 0, 0, 0) :: (55, 0, 0, 0, 0, 0) :: bl_157_38
def bl_157_8 : List (Nat × Nat × Int × Nat × Nat × Nat) := (2, 0, 0, 0, 0, 0) :: (1, 1, 0, 0, 0, 0) :: (50, 112, 9, 2, 199, 7095) :: (3, 2, 0, 0, 0, 0) :: (2, 0, 0, 0, 0, 0) :: (1, 1, 0, 0, 0, 0) :: (2, 0, 0, 0, 0, 0) :: (1, 1, 0, 0, 0, 0) :: (50, 121, 9, 2, 202, 7107) :: (0, 0, 1, 0, 0, 0) :: (7, 0, 0, 0, 0, 0) :: (50, 120, 9, 3, 205, 7115) :: (3, 3, 0, 0, 0, 0) :: (1, 2, 0, 0, 0, 0) :: (26, 36, 25, 0, 0, 0) :: (1, 3, 0, 0, 0, 0) :: (28, 38, 23, 0, 0, 0) :: (2, 0, 0, 0, 0, 0) :: (1, 3, 0, 0, 0, 0) :: (0, 0, 0, 0, 0, 0) :: (50, 37, 9, 3, 158, 7111) :: (2, 0, 0, 0, 0, 0) :: (37, 0, 0, 9, 9, 6114) :: (0, 0, 2, 0, 0, 0) :: (40, 0, 0, 0, 0, 0) :: (0, 1, 120, 0, 0, 0) :: (7, 0, 0, 0, 0, 0) :: (25, 38, 5, 0, 0, 0) :: bl_157_36
def bl_157_0 : List (Nat × Nat × Int × Nat × Nat × Nat) := (2, 0, 0, 0, 0, 0) :: (1, 1, 0, 0, 0, 0) :: (0, 0, 0, 0, 0, 0) :: (50, 46, 9, 3, 161, 7054) :: (0, 0, 1, 0, 0, 0) :: (20, 8, 5, 0, 0, 0) :: (0, 0, 0, 0, 0, 0) :: (55, 0, 0, 0, 0, 0) :: bl_157_8
-- 158 X9_free
def bl_158_25 : List (Nat × Nat × Int × Nat × Nat × Nat) := (1, 2, 0, 0, 0, 0) :: (55, 0, 0, 0, 0, 0) :: []
def bl_158_21 : List (Nat × Nat × Int × Nat × Nat × Nat) := (7, 0, 0, 0, 0, 0) :: (3, 2, 0, 0, 0, 0) :: (5, 3, 1, 0, 0, 0) :: (32, 9, (-26), 0, 0, 0) :: bl_158_25
def bl_158_20 : List (Nat × Nat × Int × Nat × Nat × Nat) := (0, 0, 0, 0, 0, 0) :: bl_158_21
def bl_158_9 : List (Nat × Nat × Int × Nat × Nat × Nat) := (1, 3, 0, 0, 0, 0) :: (0, 1, 16, 0, 0, 0) :: (23, 25, 26, 0, 0, 0) :: (1, 2, 0, 0, 0, 0) :: (2, 0, 0, 0, 0, 0) :: (1, 3, 0, 0, 0, 0) :: (1, 1, 0, 0, 0, 0) :: (50, 104, 9, 3, 167, 7062) :: (26, 20, 7, 0, 0, 0) :: (0, 0, 1, 0, 0, 0) :: (32, 21, 4, 0, 0, 0) :: bl_158_20
def bl_158_0 : List (Nat × Nat × Int × Nat × Nat × Nat) := (2, 0, 0, 0, 0, 0) :: (37, 0, 0, 9, 9, 6114) :: (0, 2, 213, 0, 0, 0) :: (1, 1, 0, 0, 0, 0) :: (6, 0, 0, 0, 0, 0) :: (40, 0, 0, 0, 0, 0) :: (3, 2, 0, 0, 0, 0) :: (0, 0, 0, 0, 0, 0) :: (3, 3, 0, 0, 0, 0) :: bl_158_9
-- 159 X9_init
def bl_159_0 : List (Nat × Nat × Int × Nat × Nat × Nat) := (2, 0, 0, 0, 0, 0) :: (63, 0, 0, 0, 3, 6105) :: (2, 0, 0, 0, 0, 0) :: (0, 2, 2430, 0, 0, 0) :: (59, 0, 0, 0, 0, 0) :: (39, 0, 0, 9, 9, 6114) :: (2, 0, 0, 0, 0, 0) :: (0, 2, 2430, 0, 0, 0) :: (59, 0, 0, 0, 0, 0) :: (39, 1, 0, 9, 13, 6115) :: (2, 0, 0, 0, 0, 0) :: (0, 2, 4860, 0, 0, 0) :: (59, 0, 0, 0, 0, 0) :: (39, 2, 0, 9, 16, 6116) :: (2, 0, 0, 0, 0, 0) :: (0, 0, 2, 0, 0, 0) :: (60, 0, 0, 0, 0, 0) :: (39, 3, 0, 9, 19, 6117) :: (2, 0, 0, 0, 0, 0) :: (0, 2, 600, 0, 0, 0) :: (61, 0, 0, 0, 0, 0) :: (39, 5, 0, 9, 23, 6119) :: (2, 0, 0, 0, 0, 0) :: (0, 1, 6, 0, 0, 0) :: (59, 0, 0, 0, 0, 0) :: (39, 12, 0, 9, 27, 6126) :: (2, 0, 0, 0, 0, 0) :: (0, 1, 6, 0, 0, 0) :: (59, 0, 0, 0, 0, 0) :: (39, 13, 0, 9, 30, 6127) :: (2, 0, 0, 0, 0, 0) :: (0, 1, 6, 0, 0, 0) :: (59, 0, 0, 0, 0, 0) :: (39, 14, 0, 9, 33, 6128) :: (2, 0, 0, 0, 0, 0) :: (0, 1, 6, 0, 0, 0) :: (59, 0, 0, 0, 0, 0) :: (39, 15, 0, 9, 36, 6129) :: (2, 0, 0, 0, 0, 0) :: (0, 1, 6, 0, 0, 0) :: (59, 0, 0, 0, 0, 0) :: (39, 16, 0, 9, 39, 6130) :: (2, 0, 0, 0, 0, 0) :: (0, 1, 10, 0, 0, 0) :: (59, 0, 0, 0, 0, 0) :: (39, 17, 0, 9, 42, 6131) :: (2, 0, 0, 0, 0, 0) :: (0, 2, 10240, 0, 0, 0) :: (59, 0, 0, 0, 0, 0) :: (39, 22, 0, 9, 45, 6136) :: (2, 0, 0, 0, 0, 0) :: (0, 1, 10, 0, 0, 0) :: (59, 0, 0, 0, 0, 0) :: (39, 23, 0, 9, 48, 6137) :: (2, 0, 0, 0, 0, 0) :: (37, 0, 0, 9, 9, 6114) :: (0, 0, 1, 0, 0, 0) :: (49, 34, 9, 2, 51, 6106) :: (2, 0, 0, 0, 0, 0) :: (37, 0, 0, 9, 9, 6114) :: (49, 103, 9, 1, 55, 6110) :: (57, 0, 0, 0, 0, 0) :: []
-- 160 X9_isMore
def bl_160_19 : List (Nat × Nat × Int × Nat × Nat × Nat) := (2, 0, 0, 0, 0, 0) :: (18, 0, 0, 0, 0, 0) :: (36, 7, 0, 9, 77, 6121) :: (0, 0, 1, 0, 0, 0) :: (6, 0, 0, 0, 0, 0) :: (38, 7, 0, 9, 77, 6121) :: (0, 0, 1, 0, 0, 0) :: (55, 1, 0, 0, 0, 0) :: []
def bl_160_8 : List (Nat × Nat × Int × Nat × Nat × Nat) := (2, 0, 0, 0, 0, 0) :: (50, 39, 9, 1, 80, 6219) :: (0, 1, 59, 0, 0, 0) :: (20, 19, 14, 0, 0, 0) :: (2, 0, 0, 0, 0, 0) :: (0, 0, 1, 0, 0, 0) :: (2, 0, 0, 0, 0, 0) :: (36, 7, 0, 9, 77, 6121) :: (50, 38, 9, 3, 104, 6230) :: (0, 0, 0, 0, 0, 0) :: (55, 1, 0, 0, 0, 0) :: bl_160_19
def bl_160_6 : List (Nat × Nat × Int × Nat × Nat × Nat) := (0, 0, 0, 0, 0, 0) :: (55, 1, 0, 0, 0, 0) :: bl_160_8
def bl_160_0 : List (Nat × Nat × Int × Nat × Nat × Nat) := (2, 0, 0, 0, 0, 0) :: (36, 9, 0, 9, 87, 6123) :: (27, 6, 10, 0, 0, 0) :: (2, 0, 0, 0, 0, 0) :: (50, 109, 9, 1, 93, 6215) :: (29, 8, 5, 0, 0, 0) :: bl_160_6
-- 161 X9_leave
def bl_161_21 : List (Nat × Nat × Int × Nat × Nat × Nat) := (2, 0, 0, 0, 0, 0) :: (1, 1, 0, 0, 0, 0) :: (50, 112, 9, 2, 199, 7095) :: (3, 2, 0, 0, 0, 0) :: (2, 0, 0, 0, 0, 0) :: (1, 1, 0, 0, 0, 0) :: (0, 0, 0, 0, 0, 0) :: (0, 0, 0, 0, 0, 0) :: (50, 48, 9, 4, 185, 7070) :: (2, 0, 0, 0, 0, 0) :: (0, 0, 3, 0, 0, 0) :: (1, 1, 0, 0, 0, 0) :: (1, 2, 0, 0, 0, 0) :: (50, 44, 9, 4, 189, 7074) :: (1, 2, 0, 0, 0, 0) :: (55, 0, 0, 0, 0, 0) :: []
def bl_161_16 : List (Nat × Nat × Int × Nat × Nat × Nat) := (2, 0, 0, 0, 0, 0) :: (50, 41, 9, 1, 182, 7066) :: (26, 21, 6, 0, 0, 0) :: (0, 1, (-4), 0, 0, 0) :: (55, 0, 0, 0, 0, 0) :: bl_161_21
def bl_161_8 : List (Nat × Nat × Int × Nat × Nat × Nat) := (2, 0, 0, 0, 0, 0) :: (1, 1, 0, 0, 0, 0) :: (0, 0, 0, 0, 0, 0) :: (50, 46, 9, 3, 161, 7054) :: (0, 0, 1, 0, 0, 0) :: (20, 16, 6, 0, 0, 0) :: (0, 1, (-2), 0, 0, 0) :: (55, 0, 0, 0, 0, 0) :: bl_161_16
def bl_161_0 : List (Nat × Nat × Int × Nat × Nat × Nat) := (2, 0, 0, 0, 0, 0) :: (0, 0, 0, 0, 0, 0) :: (38, 4, 0, 9, 59, 6118) :: (1, 1, 0, 0, 0, 0) :: (49, 105, 9, 1, 171, 7047) :: (27, 8, 5, 0, 0, 0) :: (0, 0, (-1), 0, 0, 0) :: (55, 0, 0, 0, 0, 0) :: bl_161_8
-- 162 X9_logAmount
def bl_162_0 : List (Nat × Nat × Int × Nat × Nat × Nat) := (2, 0, 0, 0, 0, 0) :: (1, 1, 0, 0, 0, 0) :: (0, 0, 3, 0, 0, 0) :: (50, 110, 9, 3, 265, 8063) :: (55, 0, 0, 0, 0, 0) :: []
-- 163 X9_logCar
def bl_163_0 : List (Nat × Nat × Int × Nat × Nat × Nat) := (2, 0, 0, 0, 0, 0) :: (1, 1, 0, 0, 0, 0) :: (0, 0, 2, 0, 0, 0) :: (50, 110, 9, 3, 265, 8063) :: (55, 0, 0, 0, 0, 0) :: []
-- 164 X9_logKind
def bl_164_0 : List (Nat × Nat × Int × Nat × Nat × Nat) := (2, 0, 0, 0, 0, 0) :: (1, 1, 0, 0, 0, 0) :: (0, 0, 1, 0, 0, 0) :: (50, 110, 9, 3, 265, 8063) :: (55, 0, 0, 0, 0, 0) :: []
-- 165 X9_logMinute
def bl_165_0 : List (Nat × Nat × Int × Nat × Nat × Nat) := (2, 0, 0, 0, 0, 0) :: (1, 1, 0, 0, 0, 0) :: (0, 0, 0, 0, 0, 0) :: (50, 110, 9, 3, 265, 8063) :: (55, 0, 0, 0, 0, 0) :: []
-- 166 X9_longestStay
def bl_166_14 : List (Nat × Nat × Int × Nat × Nat × Nat) := (55, 0, 0, 0, 0, 0) :: []
def bl_166_13 : List (Nat × Nat × Int × Nat × Nat × Nat) := (0, 0, (-1), 0, 0, 0) :: bl_166_14
def bl_166_0 : List (Nat × Nat × Int × Nat × Nat × Nat) := (2, 0, 0, 0, 0, 0) :: (0, 0, 0, 0, 0, 0) :: (38, 4, 0, 9, 59, 6118) :: (1, 1, 0, 0, 0, 0) :: (49, 108, 9, 1, 255, 7176) :: (26, 13, 16, 0, 0, 0) :: (2, 0, 0, 0, 0, 0) :: (37, 0, 0, 9, 9, 6114) :: (0, 2, 329, 0, 0, 0) :: (1, 1, 0, 0, 0, 0) :: (6, 0, 0, 0, 0, 0) :: (40, 0, 0, 0, 0, 0) :: (32, 14, 4, 0, 0, 0) :: bl_166_13
-- 167 X9_minutesFor
def bl_167_14 : List (Nat × Nat × Int × Nat × Nat × Nat) := (2, 0, 0, 0, 0, 0) :: (1, 1, 0, 0, 0, 0) :: (2, 0, 0, 0, 0, 0) :: (37, 0, 0, 9, 9, 6114) :: (0, 0, 2, 0, 0, 0) :: (40, 0, 0, 0, 0, 0) :: (1, 2, 0, 0, 0, 0) :: (50, 99, 9, 4, 195, 7083) :: (2, 0, 0, 0, 0, 0) :: (37, 0, 0, 9, 9, 6114) :: (0, 0, 2, 0, 0, 0) :: (40, 0, 0, 0, 0, 0) :: (7, 0, 0, 0, 0, 0) :: (55, 0, 0, 0, 0, 0) :: []
def bl_167_12 : List (Nat × Nat × Int × Nat × Nat × Nat) := (0, 0, (-1), 0, 0, 0) :: (55, 0, 0, 0, 0, 0) :: bl_167_14
def bl_167_0 : List (Nat × Nat × Int × Nat × Nat × Nat) := (2, 0, 0, 0, 0, 0) :: (0, 0, 0, 0, 0, 0) :: (38, 4, 0, 9, 59, 6118) :: (2, 0, 0, 0, 0, 0) :: (1, 1, 0, 0, 0, 0) :: (50, 106, 9, 2, 175, 7050) :: (26, 12, 14, 0, 0, 0) :: (1, 2, 0, 0, 0, 0) :: (0, 0, 0, 0, 0, 0) :: (0, 2, 9999, 0, 0, 0) :: (49, 40, 9, 3, 70, 6204) :: (27, 14, 5, 0, 0, 0) :: bl_167_12
-- 168 X9_nextOnWay
def bl_168_54 : List (Nat × Nat × Int × Nat × Nat × Nat) := (0, 1, (-3), 0, 0, 0) :: (55, 0, 0, 0, 0, 0) :: []
def bl_168_52 : List (Nat × Nat × Int × Nat × Nat × Nat) := (5, 3, 1, 0, 0, 0) :: (32, 18, (-55), 0, 0, 0) :: bl_168_54
def bl_168_18 : List (Nat × Nat × Int × Nat × Nat × Nat) := (1, 3, 0, 0, 0, 0) :: (2, 0, 0, 0, 0, 0) :: (37, 0, 0, 9, 9, 6114) :: (0, 0, 0, 0, 0, 0) :: (40, 0, 0, 0, 0, 0) :: (23, 54, 51, 0, 0, 0) :: (2, 0, 0, 0, 0, 0) :: (1, 1, 0, 0, 0, 0) :: (1, 2, 0, 0, 0, 0) :: (50, 51, 9, 3, 249, 7168) :: (0, 3, 1000000, 0, 63, 6109) :: (23, 54, 40, 0, 0, 0) :: (2, 0, 0, 0, 0, 0) :: (37, 0, 0, 9, 9, 6114) :: (0, 0, 3, 0, 0, 0) :: (0, 1, 10, 0, 0, 0) :: (1, 1, 0, 0, 0, 0) :: (8, 0, 0, 0, 0, 0) :: (6, 0, 0, 0, 0, 0) :: (1, 3, 0, 0, 0, 0) :: (6, 0, 0, 0, 0, 0) :: (40, 0, 0, 0, 0, 0) :: (2, 0, 0, 0, 0, 0) :: (1, 3, 0, 0, 0, 0) :: (1, 2, 0, 0, 0, 0) :: (50, 51, 9, 3, 249, 7168) :: (6, 0, 0, 0, 0, 0) :: (2, 0, 0, 0, 0, 0) :: (1, 1, 0, 0, 0, 0) :: (1, 2, 0, 0, 0, 0) :: (50, 51, 9, 3, 249, 7168) :: (21, 52, 5, 0, 0, 0) :: (1, 3, 0, 0, 0, 0) :: (55, 0, 0, 0, 0, 0) :: bl_168_52
def bl_168_16 : List (Nat × Nat × Int × Nat × Nat × Nat) := (0, 0, 0, 0, 0, 0) :: (3, 3, 0, 0, 0, 0) :: bl_168_18
def bl_168_14 : List (Nat × Nat × Int × Nat × Nat × Nat) := (0, 0, (-1), 0, 0, 0) :: (55, 0, 0, 0, 0, 0) :: bl_168_16
def bl_168_0 : List (Nat × Nat × Int × Nat × Nat × Nat) := (2, 0, 0, 0, 0, 0) :: (0, 0, 0, 0, 0, 0) :: (38, 4, 0, 9, 59, 6118) :: (2, 0, 0, 0, 0, 0) :: (1, 1, 0, 0, 0, 0) :: (50, 106, 9, 2, 175, 7050) :: (26, 14, 16, 0, 0, 0) :: (2, 0, 0, 0, 0, 0) :: (1, 2, 0, 0, 0, 0) :: (50, 106, 9, 2, 175, 7050) :: (26, 14, 8, 0, 0, 0) :: (1, 1, 0, 0, 0, 0) :: (1, 2, 0, 0, 0, 0) :: (21, 16, 5, 0, 0, 0) :: bl_168_14
-- 169 X9_number
def bl_169_56 : List (Nat × Nat × Int × Nat × Nat × Nat) := (1, 3, 0, 0, 0, 0) :: (55, 0, 0, 0, 0, 0) :: []
def bl_169_44 : List (Nat × Nat × Int × Nat × Nat × Nat) := (1, 3, 0, 0, 0, 0) :: (1, 1, 0, 0, 0, 0) :: (1, 2, 0, 0, 0, 0) :: (49, 40, 9, 3, 70, 6204) :: (27, 56, 14, 0, 0, 0) :: (2, 0, 0, 0, 0, 0) :: (0, 0, 2, 0, 0, 0) :: (2, 0, 0, 0, 0, 0) :: (36, 8, 0, 9, 84, 6122) :: (50, 38, 9, 3, 104, 6230) :: (1, 1, 0, 0, 0, 0) :: (55, 0, 0, 0, 0, 0) :: bl_169_56
def bl_169_20 : List (Nat × Nat × Int × Nat × Nat × Nat) := (2, 0, 0, 0, 0, 0) :: (50, 39, 9, 1, 80, 6219) :: (0, 1, 48, 0, 0, 0) :: (0, 1, 57, 0, 0, 0) :: (49, 40, 9, 3, 70, 6204) :: (26, 44, 34, 0, 0, 0) :: (0, 3, 1000000, 0, 63, 6109) :: (0, 1, 10, 0, 0, 0) :: (1, 3, 0, 0, 0, 0) :: (8, 0, 0, 0, 0, 0) :: (2, 0, 0, 0, 0, 0) :: (50, 39, 9, 1, 80, 6219) :: (6, 0, 0, 0, 0, 0) :: (0, 1, 48, 0, 0, 0) :: (7, 0, 0, 0, 0, 0) :: (76, 0, 0, 0, 64, 6113) :: (3, 3, 0, 0, 0, 0) :: (2, 0, 0, 0, 0, 0) :: (18, 0, 0, 0, 0, 0) :: (36, 7, 0, 9, 77, 6121) :: (0, 0, 1, 0, 0, 0) :: (6, 0, 0, 0, 0, 0) :: (38, 7, 0, 9, 77, 6121) :: (32, 20, (-42), 0, 0, 0) :: bl_169_44
def bl_169_18 : List (Nat × Nat × Int × Nat × Nat × Nat) := (0, 0, 0, 0, 0, 0) :: (3, 3, 0, 0, 0, 0) :: bl_169_20
def bl_169_5 : List (Nat × Nat × Int × Nat × Nat × Nat) := (2, 0, 0, 0, 0, 0) :: (50, 109, 9, 1, 93, 6215) :: (0, 1, 48, 0, 0, 0) :: (0, 1, 57, 0, 0, 0) :: (49, 40, 9, 3, 70, 6204) :: (27, 18, 14, 0, 0, 0) :: (2, 0, 0, 0, 0, 0) :: (0, 0, 1, 0, 0, 0) :: (2, 0, 0, 0, 0, 0) :: (36, 7, 0, 9, 77, 6121) :: (50, 38, 9, 3, 104, 6230) :: (1, 1, 0, 0, 0, 0) :: (55, 0, 0, 0, 0, 0) :: bl_169_18
def bl_169_0 : List (Nat × Nat × Int × Nat × Nat × Nat) := (2, 0, 0, 0, 0, 0) :: (36, 9, 0, 9, 87, 6123) :: (26, 5, 5, 0, 0, 0) :: (1, 1, 0, 0, 0, 0) :: (55, 0, 0, 0, 0, 0) :: bl_169_5
-- 170 X9_ofTicket
def bl_170_27 : List (Nat × Nat × Int × Nat × Nat × Nat) := (55, 0, 0, 0, 0, 0) :: []
def bl_170_23 : List (Nat × Nat × Int × Nat × Nat × Nat) := (2, 0, 0, 0, 0, 0) :: (1, 4, 0, 0, 1, 0) :: (1, 3, 0, 0, 0, 0) :: (50, 37, 9, 3, 158, 7111) :: bl_170_27
def bl_170_18 : List (Nat × Nat × Int × Nat × Nat × Nat) := (38, 4, 0, 9, 59, 6118) :: (1, 4, 0, 0, 1, 0) :: (29, 23, 7, 0, 0, 0) :: (0, 0, 0, 0, 0, 0) :: (32, 27, 10, 0, 0, 0) :: bl_170_23
def bl_170_17 : List (Nat × Nat × Int × Nat × Nat × Nat) := (0, 0, 0, 0, 0, 0) :: bl_170_18
def bl_170_11 : List (Nat × Nat × Int × Nat × Nat × Nat) := (3, 4, 0, 0, 1, 0) :: (2, 0, 0, 0, 0, 0) :: (1, 4, 0, 0, 1, 0) :: (29, 17, 7, 0, 0, 0) :: (0, 0, 1, 0, 0, 0) :: (32, 18, 4, 0, 0, 0) :: bl_170_17
def bl_170_10 : List (Nat × Nat × Int × Nat × Nat × Nat) := (0, 0, (-1), 0, 0, 0) :: bl_170_11
def bl_170_0 : List (Nat × Nat × Int × Nat × Nat × Nat) := (1, 1, 0, 0, 0, 0) :: (49, 105, 9, 1, 171, 7047) :: (26, 10, 16, 0, 0, 0) :: (1, 2, 0, 0, 0, 0) :: (28, 10, 12, 0, 0, 0) :: (2, 0, 0, 0, 0, 0) :: (1, 1, 0, 0, 0, 0) :: (1, 2, 0, 0, 0, 0) :: (50, 120, 9, 3, 205, 7115) :: (32, 11, 4, 0, 0, 0) :: bl_170_10
-- 171 X9_owedInAll
def bl_171_18 : List (Nat × Nat × Int × Nat × Nat × Nat) := (1, 1, 0, 0, 0, 0) :: (55, 0, 0, 0, 0, 0) :: []
def bl_171_7 : List (Nat × Nat × Int × Nat × Nat × Nat) := (1, 2, 0, 0, 0, 0) :: (0, 1, 16, 0, 0, 0) :: (23, 18, 17, 0, 0, 0) :: (1, 1, 0, 0, 0, 0) :: (2, 0, 0, 0, 0, 0) :: (1, 2, 0, 0, 0, 0) :: (50, 113, 9, 2, 225, 7140) :: (6, 0, 0, 0, 0, 0) :: (3, 1, 0, 0, 0, 0) :: (5, 2, 1, 0, 0, 0) :: (32, 7, (-17), 0, 0, 0) :: bl_171_18
def bl_171_0 : List (Nat × Nat × Int × Nat × Nat × Nat) := (2, 0, 0, 0, 0, 0) :: (0, 0, 0, 0, 0, 0) :: (38, 4, 0, 9, 59, 6118) :: (0, 0, 0, 0, 0, 0) :: (3, 1, 0, 0, 0, 0) :: (0, 0, 0, 0, 0, 0) :: (3, 2, 0, 0, 0, 0) :: bl_171_7
-- 172 X9_paidSoon
def bl_172_60 : List (Nat × Nat × Int × Nat × Nat × Nat) := (1, 3, 0, 0, 0, 0) :: (55, 0, 0, 0, 0, 0) :: []
def bl_172_56 : List (Nat × Nat × Int × Nat × Nat × Nat) := (12, 0, 0, 0, 0, 0) :: (3, 3, 0, 0, 0, 0) :: (5, 4, 1, 0, 0, 0) :: (32, 18, (-73), 0, 0, 0) :: bl_172_60
def bl_172_55 : List (Nat × Nat × Int × Nat × Nat × Nat) := (0, 0, 0, 0, 0, 0) :: bl_172_56
def bl_172_36 : List (Nat × Nat × Int × Nat × Nat × Nat) := (3, 5, 0, 0, 1, 0) :: (1, 3, 0, 0, 0, 0) :: (1, 5, 0, 0, 1, 0) :: (26, 55, 28, 0, 0, 0) :: (2, 0, 0, 0, 0, 0) :: (1, 4, 0, 0, 1, 0) :: (0, 0, 2, 0, 0, 0) :: (50, 46, 9, 3, 161, 7054) :: (2, 0, 0, 0, 0, 0) :: (37, 0, 0, 9, 9, 6114) :: (0, 0, 2, 0, 0, 0) :: (40, 0, 0, 0, 0, 0) :: (1, 2, 0, 0, 0, 0) :: (6, 0, 0, 0, 0, 0) :: (24, 55, 10, 0, 0, 0) :: (0, 0, 1, 0, 0, 0) :: (1, 4, 0, 0, 1, 0) :: (14, 0, 0, 0, 0, 0) :: (32, 56, 4, 0, 0, 0) :: bl_172_55
def bl_172_35 : List (Nat × Nat × Int × Nat × Nat × Nat) := (0, 0, 0, 0, 0, 0) :: bl_172_36
def bl_172_18 : List (Nat × Nat × Int × Nat × Nat × Nat) := (1, 4, 0, 0, 1, 0) :: (0, 1, 16, 0, 0, 0) :: (23, 60, 72, 0, 0, 0) :: (2, 0, 0, 0, 0, 0) :: (1, 4, 0, 0, 1, 0) :: (0, 0, 0, 0, 0, 0) :: (50, 46, 9, 3, 161, 7054) :: (0, 0, 1, 0, 0, 0) :: (21, 35, 18, 0, 0, 0) :: (2, 0, 0, 0, 0, 0) :: (1, 4, 0, 0, 1, 0) :: (0, 0, 1, 0, 0, 0) :: (50, 46, 9, 3, 161, 7054) :: (1, 1, 0, 0, 0, 0) :: (21, 35, 7, 0, 0, 0) :: (0, 0, 1, 0, 0, 0) :: (32, 36, 4, 0, 0, 0) :: bl_172_35
def bl_172_14 : List (Nat × Nat × Int × Nat × Nat × Nat) := (0, 0, 0, 0, 0, 0) :: (3, 3, 0, 0, 0, 0) :: (0, 0, 0, 0, 0, 0) :: (3, 4, 0, 0, 1, 0) :: bl_172_18
def bl_172_12 : List (Nat × Nat × Int × Nat × Nat × Nat) := (0, 0, (-1), 0, 0, 0) :: (55, 0, 0, 0, 0, 0) :: bl_172_14
def bl_172_0 : List (Nat × Nat × Int × Nat × Nat × Nat) := (2, 0, 0, 0, 0, 0) :: (0, 0, 0, 0, 0, 0) :: (38, 4, 0, 9, 59, 6118) :: (2, 0, 0, 0, 0, 0) :: (1, 1, 0, 0, 0, 0) :: (50, 106, 9, 2, 175, 7050) :: (26, 12, 14, 0, 0, 0) :: (1, 2, 0, 0, 0, 0) :: (0, 0, 0, 0, 0, 0) :: (0, 2, 600, 0, 0, 0) :: (49, 40, 9, 3, 70, 6204) :: (27, 14, 5, 0, 0, 0) :: bl_172_12
-- 173 X9_pay
def bl_173_50 : List (Nat × Nat × Int × Nat × Nat × Nat) := (2, 0, 0, 0, 0, 0) :: (1, 1, 0, 0, 0, 0) :: (0, 0, 2, 0, 0, 0) :: (1, 4, 0, 0, 1, 0) :: (50, 48, 9, 4, 185, 7070) :: (2, 0, 0, 0, 0, 0) :: (0, 0, 2, 0, 0, 0) :: (1, 1, 0, 0, 0, 0) :: (1, 2, 0, 0, 0, 0) :: (50, 44, 9, 4, 189, 7074) :: (1, 4, 0, 0, 1, 0) :: (55, 0, 0, 0, 0, 0) :: []
def bl_173_45 : List (Nat × Nat × Int × Nat × Nat × Nat) := (2, 0, 0, 0, 0, 0) :: (50, 41, 9, 1, 182, 7066) :: (26, 50, 6, 0, 0, 0) :: (0, 1, (-4), 0, 0, 0) :: (55, 0, 0, 0, 0, 0) :: bl_173_50
def bl_173_21 : List (Nat × Nat × Int × Nat × Nat × Nat) := (2, 0, 0, 0, 0, 0) :: (37, 0, 0, 9, 9, 6114) :: (0, 0, 2, 0, 0, 0) :: (40, 0, 0, 0, 0, 0) :: (2, 0, 0, 0, 0, 0) :: (1, 1, 0, 0, 0, 0) :: (0, 0, 2, 0, 0, 0) :: (50, 46, 9, 3, 161, 7054) :: (75, 0, 0, 0, 164, 7082) :: (3, 3, 0, 0, 0, 0) :: (2, 0, 0, 0, 0, 0) :: (2, 0, 0, 0, 0, 0) :: (1, 1, 0, 0, 0, 0) :: (0, 0, 1, 0, 0, 0) :: (50, 46, 9, 3, 161, 7054) :: (1, 3, 0, 0, 0, 0) :: (1, 2, 0, 0, 0, 0) :: (50, 99, 9, 4, 195, 7083) :: (3, 4, 0, 0, 1, 0) :: (1, 4, 0, 0, 1, 0) :: (1, 3, 0, 0, 0, 0) :: (21, 45, 6, 0, 0, 0) :: (0, 1, (-3), 0, 0, 0) :: (55, 0, 0, 0, 0, 0) :: bl_173_45
def bl_173_13 : List (Nat × Nat × Int × Nat × Nat × Nat) := (2, 0, 0, 0, 0, 0) :: (1, 1, 0, 0, 0, 0) :: (0, 0, 0, 0, 0, 0) :: (50, 46, 9, 3, 161, 7054) :: (0, 0, 1, 0, 0, 0) :: (20, 21, 6, 0, 0, 0) :: (0, 1, (-2), 0, 0, 0) :: (55, 0, 0, 0, 0, 0) :: bl_173_21
def bl_173_11 : List (Nat × Nat × Int × Nat × Nat × Nat) := (0, 0, (-1), 0, 0, 0) :: (55, 0, 0, 0, 0, 0) :: bl_173_13
def bl_173_0 : List (Nat × Nat × Int × Nat × Nat × Nat) := (2, 0, 0, 0, 0, 0) :: (0, 0, 0, 0, 0, 0) :: (38, 4, 0, 9, 59, 6118) :: (1, 1, 0, 0, 0, 0) :: (49, 105, 9, 1, 171, 7047) :: (26, 11, 14, 0, 0, 0) :: (1, 2, 0, 0, 0, 0) :: (0, 0, 1, 0, 0, 0) :: (0, 2, 9999, 0, 0, 0) :: (49, 40, 9, 3, 70, 6204) :: (27, 13, 5, 0, 0, 0) :: bl_173_11
-- 174 X9_paysTickets
def bl_174_52 : List (Nat × Nat × Int × Nat × Nat × Nat) := (57, 0, 0, 0, 0, 0) :: []
def bl_174_4 : List (Nat × Nat × Int × Nat × Nat × Nat) := (1, 2, 0, 0, 0, 0) :: (28, 52, 74, 0, 0, 0) :: (2, 0, 0, 0, 0, 0) :: (1, 1, 0, 0, 0, 0) :: (0, 0, 3, 0, 0, 0) :: (50, 46, 9, 3, 161, 7054) :: (2, 0, 0, 0, 0, 0) :: (1, 2, 0, 0, 0, 0) :: (0, 0, 3, 0, 0, 0) :: (50, 37, 9, 3, 158, 7111) :: (22, 52, 59, 0, 0, 0) :: (2, 0, 0, 0, 0, 0) :: (1, 1, 0, 0, 0, 0) :: (0, 0, 3, 0, 0, 0) :: (2, 0, 0, 0, 0, 0) :: (1, 1, 0, 0, 0, 0) :: (0, 0, 3, 0, 0, 0) :: (50, 46, 9, 3, 161, 7054) :: (2, 0, 0, 0, 0, 0) :: (1, 2, 0, 0, 0, 0) :: (0, 0, 3, 0, 0, 0) :: (50, 37, 9, 3, 158, 7111) :: (7, 0, 0, 0, 0, 0) :: (50, 48, 9, 4, 185, 7070) :: (2, 0, 0, 0, 0, 0) :: (37, 0, 0, 9, 9, 6114) :: (0, 2, 430, 0, 0, 0) :: (0, 0, 5, 0, 0, 0) :: (1, 2, 0, 0, 0, 0) :: (8, 0, 0, 0, 0, 0) :: (6, 0, 0, 0, 0, 0) :: (0, 0, 4, 0, 0, 0) :: (6, 0, 0, 0, 0, 0) :: (0, 0, 1, 0, 0, 0) :: (41, 0, 0, 0, 0, 0) :: (2, 0, 0, 0, 0, 0) :: (0, 1, 7, 0, 0, 0) :: (1, 1, 0, 0, 0, 0) :: (2, 0, 0, 0, 0, 0) :: (1, 2, 0, 0, 0, 0) :: (0, 0, 3, 0, 0, 0) :: (50, 37, 9, 3, 158, 7111) :: (50, 44, 9, 4, 189, 7074) :: (2, 0, 0, 0, 0, 0) :: (1, 1, 0, 0, 0, 0) :: (50, 111, 9, 2, 214, 7128) :: (3, 2, 0, 0, 0, 0) :: (32, 4, (-72), 0, 0, 0) :: bl_174_52
def bl_174_0 : List (Nat × Nat × Int × Nat × Nat × Nat) := (2, 0, 0, 0, 0, 0) :: (1, 1, 0, 0, 0, 0) :: (50, 111, 9, 2, 214, 7128) :: (3, 2, 0, 0, 0, 0) :: bl_174_4
-- 175 X9_poundFree
def bl_175_21 : List (Nat × Nat × Int × Nat × Nat × Nat) := (55, 0, 0, 0, 0, 0) :: []
def bl_175_18 : List (Nat × Nat × Int × Nat × Nat × Nat) := (2, 0, 0, 0, 0, 0) :: (1, 1, 0, 0, 0, 0) :: (50, 118, 9, 2, 237, 7160) :: bl_175_21
def bl_175_9 : List (Nat × Nat × Int × Nat × Nat × Nat) := (2, 0, 0, 0, 0, 0) :: (37, 0, 0, 9, 9, 6114) :: (0, 2, 223, 0, 0, 0) :: (1, 1, 0, 0, 0, 0) :: (6, 0, 0, 0, 0, 0) :: (40, 0, 0, 0, 0, 0) :: (27, 18, 8, 0, 0, 0) :: (0, 1, (-3), 0, 0, 0) :: (32, 21, 8, 0, 0, 0) :: bl_175_18
def bl_175_0 : List (Nat × Nat × Int × Nat × Nat × Nat) := (2, 0, 0, 0, 0, 0) :: (0, 0, 0, 0, 0, 0) :: (38, 4, 0, 9, 59, 6118) :: (2, 0, 0, 0, 0, 0) :: (1, 1, 0, 0, 0, 0) :: (50, 106, 9, 2, 175, 7050) :: (27, 9, 7, 0, 0, 0) :: (0, 0, (-1), 0, 0, 0) :: (32, 21, 26, 0, 0, 0) :: bl_175_9
-- 176 X9_price
def bl_176_24 : List (Nat × Nat × Int × Nat × Nat × Nat) := (55, 0, 0, 0, 0, 0) :: []
def bl_176_23 : List (Nat × Nat × Int × Nat × Nat × Nat) := (0, 0, (-1), 0, 0, 0) :: bl_176_24
def bl_176_0 : List (Nat × Nat × Int × Nat × Nat × Nat) := (2, 0, 0, 0, 0, 0) :: (0, 0, 0, 0, 0, 0) :: (38, 4, 0, 9, 59, 6118) :: (2, 0, 0, 0, 0, 0) :: (1, 1, 0, 0, 0, 0) :: (50, 106, 9, 2, 175, 7050) :: (26, 23, 35, 0, 0, 0) :: (1, 2, 0, 0, 0, 0) :: (0, 0, 0, 0, 0, 0) :: (0, 2, 10079, 0, 0, 0) :: (49, 40, 9, 3, 70, 6204) :: (26, 23, 24, 0, 0, 0) :: (1, 3, 0, 0, 0, 0) :: (0, 0, 0, 0, 0, 0) :: (0, 2, 1440, 0, 0, 0) :: (49, 40, 9, 3, 70, 6204) :: (26, 23, 13, 0, 0, 0) :: (2, 0, 0, 0, 0, 0) :: (1, 1, 0, 0, 0, 0) :: (1, 2, 0, 0, 0, 0) :: (1, 3, 0, 0, 0, 0) :: (50, 115, 9, 4, 268, 8091) :: (32, 24, 4, 0, 0, 0) :: bl_176_23
-- 177 X9_rate_
def bl_177_23 : List (Nat × Nat × Int × Nat × Nat × Nat) := (55, 0, 0, 0, 0, 0) :: []
def bl_177_22 : List (Nat × Nat × Int × Nat × Nat × Nat) := (0, 0, (-1), 0, 0, 0) :: bl_177_23
def bl_177_0 : List (Nat × Nat × Int × Nat × Nat × Nat) := (2, 0, 0, 0, 0, 0) :: (0, 0, 0, 0, 0, 0) :: (38, 4, 0, 9, 59, 6118) :: (1, 1, 0, 0, 0, 0) :: (49, 108, 9, 1, 255, 7176) :: (26, 22, 31, 0, 0, 0) :: (1, 2, 0, 0, 0, 0) :: (0, 0, 0, 0, 0, 0) :: (0, 1, 23, 0, 0, 0) :: (49, 40, 9, 3, 70, 6204) :: (26, 22, 21, 0, 0, 0) :: (2, 0, 0, 0, 0, 0) :: (37, 0, 0, 9, 9, 6114) :: (0, 2, 233, 0, 0, 0) :: (0, 1, 24, 0, 0, 0) :: (1, 1, 0, 0, 0, 0) :: (8, 0, 0, 0, 0, 0) :: (6, 0, 0, 0, 0, 0) :: (1, 2, 0, 0, 0, 0) :: (6, 0, 0, 0, 0, 0) :: (40, 0, 0, 0, 0, 0) :: (32, 23, 4, 0, 0, 0) :: bl_177_22
-- 178 X9_reads
def bl_178_16 : List (Nat × Nat × Int × Nat × Nat × Nat) := (57, 0, 0, 0, 0, 0) :: []
def bl_178_3 : List (Nat × Nat × Int × Nat × Nat × Nat) := (2, 0, 0, 0, 0, 0) :: (50, 39, 9, 1, 80, 6219) :: (0, 1, 97, 0, 0, 0) :: (0, 1, 122, 0, 0, 0) :: (49, 40, 9, 3, 70, 6204) :: (26, 16, 16, 0, 0, 0) :: (2, 0, 0, 0, 0, 0) :: (18, 0, 0, 0, 0, 0) :: (36, 7, 0, 9, 77, 6121) :: (0, 0, 1, 0, 0, 0) :: (6, 0, 0, 0, 0, 0) :: (38, 7, 0, 9, 77, 6121) :: (32, 3, (-24), 0, 0, 0) :: bl_178_16
def bl_178_0 : List (Nat × Nat × Int × Nat × Nat × Nat) := (2, 0, 0, 0, 0, 0) :: (50, 109, 9, 1, 93, 6215) :: (19, 0, 0, 0, 0, 0) :: bl_178_3
-- 179 X9_revenue
def bl_179_56 : List (Nat × Nat × Int × Nat × Nat × Nat) := (1, 3, 0, 0, 0, 0) :: (55, 0, 0, 0, 0, 0) :: []
def bl_179_54 : List (Nat × Nat × Int × Nat × Nat × Nat) := (5, 4, 1, 0, 0, 0) :: (32, 17, (-71), 0, 0, 0) :: bl_179_56
def bl_179_17 : List (Nat × Nat × Int × Nat × Nat × Nat) := (1, 4, 0, 0, 1, 0) :: (2, 0, 0, 0, 0, 0) :: (37, 0, 0, 9, 9, 6114) :: (0, 2, 429, 0, 0, 0) :: (40, 0, 0, 0, 0, 0) :: (23, 56, 64, 0, 0, 0) :: (2, 0, 0, 0, 0, 0) :: (1, 4, 0, 0, 1, 0) :: (0, 0, 1, 0, 0, 0) :: (50, 37, 9, 3, 158, 7111) :: (0, 0, 2, 0, 0, 0) :: (21, 54, 47, 0, 0, 0) :: (2, 0, 0, 0, 0, 0) :: (1, 4, 0, 0, 1, 0) :: (0, 0, 0, 0, 0, 0) :: (50, 37, 9, 3, 158, 7111) :: (0, 2, 1440, 0, 0, 0) :: (9, 0, 0, 0, 0, 0) :: (1, 2, 0, 0, 0, 0) :: (21, 54, 32, 0, 0, 0) :: (2, 0, 0, 0, 0, 0) :: (37, 0, 0, 9, 9, 6114) :: (0, 2, 203, 0, 0, 0) :: (2, 0, 0, 0, 0, 0) :: (1, 4, 0, 0, 1, 0) :: (50, 114, 9, 2, 277, 8119) :: (6, 0, 0, 0, 0, 0) :: (40, 0, 0, 0, 0, 0) :: (1, 1, 0, 0, 0, 0) :: (21, 54, 13, 0, 0, 0) :: (1, 3, 0, 0, 0, 0) :: (2, 0, 0, 0, 0, 0) :: (1, 4, 0, 0, 1, 0) :: (0, 0, 3, 0, 0, 0) :: (50, 37, 9, 3, 158, 7111) :: (6, 0, 0, 0, 0, 0) :: (3, 3, 0, 0, 0, 0) :: bl_179_54
def bl_179_13 : List (Nat × Nat × Int × Nat × Nat × Nat) := (0, 0, 0, 0, 0, 0) :: (3, 3, 0, 0, 0, 0) :: (0, 0, 0, 0, 0, 0) :: (3, 4, 0, 0, 1, 0) :: bl_179_17
def bl_179_11 : List (Nat × Nat × Int × Nat × Nat × Nat) := (0, 0, (-1), 0, 0, 0) :: (55, 0, 0, 0, 0, 0) :: bl_179_13
def bl_179_0 : List (Nat × Nat × Int × Nat × Nat × Nat) := (2, 0, 0, 0, 0, 0) :: (0, 0, 0, 0, 0, 0) :: (38, 4, 0, 9, 59, 6118) :: (1, 1, 0, 0, 0, 0) :: (49, 108, 9, 1, 255, 7176) :: (26, 11, 13, 0, 0, 0) :: (1, 2, 0, 0, 0, 0) :: (0, 0, 0, 0, 0, 0) :: (0, 1, 6, 0, 0, 0) :: (49, 40, 9, 3, 70, 6204) :: (27, 13, 5, 0, 0, 0) :: bl_179_11
-- 180 X9_setRate
def bl_180_18 : List (Nat × Nat × Int × Nat × Nat × Nat) := (2, 0, 0, 0, 0, 0) :: (37, 0, 0, 9, 9, 6114) :: (0, 2, 233, 0, 0, 0) :: (0, 1, 24, 0, 0, 0) :: (1, 1, 0, 0, 0, 0) :: (8, 0, 0, 0, 0, 0) :: (6, 0, 0, 0, 0, 0) :: (1, 2, 0, 0, 0, 0) :: (6, 0, 0, 0, 0, 0) :: (40, 0, 0, 0, 0, 0) :: (3, 4, 0, 0, 1, 0) :: (2, 0, 0, 0, 0, 0) :: (37, 0, 0, 9, 9, 6114) :: (0, 2, 233, 0, 0, 0) :: (0, 1, 24, 0, 0, 0) :: (1, 1, 0, 0, 0, 0) :: (8, 0, 0, 0, 0, 0) :: (6, 0, 0, 0, 0, 0) :: (1, 2, 0, 0, 0, 0) :: (6, 0, 0, 0, 0, 0) :: (1, 3, 0, 0, 0, 0) :: (41, 0, 0, 0, 0, 0) :: (1, 4, 0, 0, 1, 0) :: (55, 0, 0, 0, 0, 0) :: []
def bl_180_16 : List (Nat × Nat × Int × Nat × Nat × Nat) := (0, 0, (-1), 0, 0, 0) :: (55, 0, 0, 0, 0, 0) :: bl_180_18
def bl_180_0 : List (Nat × Nat × Int × Nat × Nat × Nat) := (2, 0, 0, 0, 0, 0) :: (0, 0, 0, 0, 0, 0) :: (38, 4, 0, 9, 59, 6118) :: (1, 1, 0, 0, 0, 0) :: (49, 108, 9, 1, 255, 7176) :: (26, 16, 24, 0, 0, 0) :: (1, 2, 0, 0, 0, 0) :: (0, 0, 0, 0, 0, 0) :: (0, 1, 23, 0, 0, 0) :: (49, 40, 9, 3, 70, 6204) :: (26, 16, 14, 0, 0, 0) :: (1, 3, 0, 0, 0, 0) :: (0, 0, 0, 0, 0, 0) :: (0, 2, 999, 0, 0, 0) :: (49, 40, 9, 3, 70, 6204) :: (27, 18, 5, 0, 0, 0) :: bl_180_16
-- 181 X9_state
def bl_181_12 : List (Nat × Nat × Int × Nat × Nat × Nat) := (55, 0, 0, 0, 0, 0) :: []
def bl_181_11 : List (Nat × Nat × Int × Nat × Nat × Nat) := (0, 0, (-1), 0, 0, 0) :: bl_181_12
def bl_181_0 : List (Nat × Nat × Int × Nat × Nat × Nat) := (2, 0, 0, 0, 0, 0) :: (0, 0, 0, 0, 0, 0) :: (38, 4, 0, 9, 59, 6118) :: (1, 1, 0, 0, 0, 0) :: (49, 105, 9, 1, 171, 7047) :: (26, 11, 12, 0, 0, 0) :: (2, 0, 0, 0, 0, 0) :: (1, 1, 0, 0, 0, 0) :: (0, 0, 0, 0, 0, 0) :: (50, 46, 9, 3, 161, 7054) :: (32, 12, 4, 0, 0, 0) :: bl_181_11
-- 182 X9_ticketCount
def bl_182_11 : List (Nat × Nat × Int × Nat × Nat × Nat) := (55, 0, 0, 0, 0, 0) :: []
def bl_182_10 : List (Nat × Nat × Int × Nat × Nat × Nat) := (0, 0, (-1), 0, 0, 0) :: bl_182_11
def bl_182_0 : List (Nat × Nat × Int × Nat × Nat × Nat) := (2, 0, 0, 0, 0, 0) :: (0, 0, 0, 0, 0, 0) :: (38, 4, 0, 9, 59, 6118) :: (1, 1, 0, 0, 0, 0) :: (49, 105, 9, 1, 171, 7047) :: (26, 10, 11, 0, 0, 0) :: (2, 0, 0, 0, 0, 0) :: (1, 1, 0, 0, 0, 0) :: (50, 121, 9, 2, 202, 7107) :: (32, 11, 4, 0, 0, 0) :: bl_182_10
-- 183 X9_towable
def bl_183_24 : List (Nat × Nat × Int × Nat × Nat × Nat) := (1, 1, 0, 0, 0, 0) :: (55, 0, 0, 0, 0, 0) :: []
def bl_183_20 : List (Nat × Nat × Int × Nat × Nat × Nat) := (12, 0, 0, 0, 0, 0) :: (3, 1, 0, 0, 0, 0) :: (5, 2, 1, 0, 0, 0) :: (32, 7, (-27), 0, 0, 0) :: bl_183_24
def bl_183_19 : List (Nat × Nat × Int × Nat × Nat × Nat) := (0, 0, 0, 0, 0, 0) :: bl_183_20
def bl_183_7 : List (Nat × Nat × Int × Nat × Nat × Nat) := (1, 2, 0, 0, 0, 0) :: (0, 1, 16, 0, 0, 0) :: (23, 24, 27, 0, 0, 0) :: (1, 1, 0, 0, 0, 0) :: (2, 0, 0, 0, 0, 0) :: (1, 2, 0, 0, 0, 0) :: (50, 107, 9, 2, 228, 7152) :: (26, 19, 9, 0, 0, 0) :: (0, 0, 1, 0, 0, 0) :: (1, 2, 0, 0, 0, 0) :: (14, 0, 0, 0, 0, 0) :: (32, 20, 4, 0, 0, 0) :: bl_183_19
def bl_183_0 : List (Nat × Nat × Int × Nat × Nat × Nat) := (2, 0, 0, 0, 0, 0) :: (0, 0, 0, 0, 0, 0) :: (38, 4, 0, 9, 59, 6118) :: (0, 0, 0, 0, 0, 0) :: (3, 1, 0, 0, 0, 0) :: (0, 0, 0, 0, 0, 0) :: (3, 2, 0, 0, 0, 0) :: bl_183_7
-- 184 X9_trips_5
def bl_184_137 : List (Nat × Nat × Int × Nat × Nat × Nat) := (57, 0, 0, 0, 0, 0) :: []
def bl_184_135 : List (Nat × Nat × Int × Nat × Nat × Nat) := (5, 5, 1, 0, 0, 0) :: (32, 43, (-159), 0, 0, 0) :: bl_184_137
def bl_184_133 : List (Nat × Nat × Int × Nat × Nat × Nat) := (5, 7, 1, 0, 0, 0) :: (32, 54, (-132), 0, 0, 0) :: bl_184_135
def bl_184_93 : List (Nat × Nat × Int × Nat × Nat × Nat) := (2, 0, 0, 0, 0, 0) :: (37, 17, 0, 9, 42, 6131) :: (1, 7, 0, 0, 1, 0) :: (69, 0, 0, 0, 0, 0) :: (40, 0, 0, 0, 0, 0) :: (0, 0, 1, 0, 0, 0) :: (7, 0, 0, 0, 0, 0) :: (41, 0, 0, 0, 0, 0) :: (2, 0, 0, 0, 0, 0) :: (37, 13, 0, 9, 30, 6127) :: (1, 1, 0, 0, 0, 0) :: (1, 6, 0, 0, 1, 0) :: (41, 0, 0, 0, 0, 0) :: (2, 0, 0, 0, 0, 0) :: (37, 14, 0, 9, 33, 6128) :: (1, 1, 0, 0, 0, 0) :: (1, 7, 0, 0, 1, 0) :: (41, 0, 0, 0, 0, 0) :: (2, 0, 0, 0, 0, 0) :: (1, 1, 0, 0, 0, 0) :: (0, 0, 1, 0, 0, 0) :: (6, 0, 0, 0, 0, 0) :: (1, 7, 0, 0, 1, 0) :: (1, 3, 0, 0, 0, 0) :: (0, 0, 1, 0, 0, 0) :: (1, 5, 0, 0, 1, 0) :: (14, 0, 0, 0, 0, 0) :: (12, 0, 0, 0, 0, 0) :: (1, 4, 0, 0, 1, 0) :: (1, 8, 0, 0, 1, 0) :: (6, 0, 0, 0, 0, 0) :: (50, 122, 9, 5, 246, 7164) :: (2, 0, 0, 0, 0, 0) :: (37, 17, 0, 9, 42, 6131) :: (1, 7, 0, 0, 1, 0) :: (69, 0, 0, 0, 0, 0) :: (40, 0, 0, 0, 0, 0) :: (0, 0, 1, 0, 0, 0) :: (6, 0, 0, 0, 0, 0) :: (41, 0, 0, 0, 0, 0) :: bl_184_133
def bl_184_54 : List (Nat × Nat × Int × Nat × Nat × Nat) := (1, 7, 0, 0, 1, 0) :: (2, 0, 0, 0, 0, 0) :: (37, 0, 0, 9, 9, 6114) :: (0, 0, 0, 0, 0, 0) :: (40, 0, 0, 0, 0, 0) :: (23, 135, 127, 0, 0, 0) :: (1, 3, 0, 0, 0, 0) :: (1, 5, 0, 0, 1, 0) :: (15, 0, 0, 0, 0, 0) :: (0, 0, 1, 0, 0, 0) :: (11, 0, 0, 0, 0, 0) :: (27, 135, 118, 0, 0, 0) :: (2, 0, 0, 0, 0, 0) :: (1, 2, 0, 0, 0, 0) :: (2, 0, 0, 0, 0, 0) :: (1, 6, 0, 0, 1, 0) :: (0, 0, 1, 0, 0, 0) :: (50, 46, 9, 3, 161, 7054) :: (50, 51, 9, 3, 249, 7168) :: (0, 1, 10, 0, 0, 0) :: (6, 0, 0, 0, 0, 0) :: (2, 0, 0, 0, 0, 0) :: (2, 0, 0, 0, 0, 0) :: (1, 6, 0, 0, 1, 0) :: (0, 0, 1, 0, 0, 0) :: (50, 46, 9, 3, 161, 7054) :: (1, 7, 0, 0, 1, 0) :: (50, 51, 9, 3, 249, 7168) :: (6, 0, 0, 0, 0, 0) :: (3, 8, 0, 0, 1, 0) :: (2, 0, 0, 0, 0, 0) :: (37, 17, 0, 9, 42, 6131) :: (1, 7, 0, 0, 1, 0) :: (40, 0, 0, 0, 0, 0) :: (26, 133, 71, 0, 0, 0) :: (1, 8, 0, 0, 1, 0) :: (0, 3, 1000000, 0, 63, 6109) :: (22, 93, 6, 0, 0, 0) :: (32, 133, 61, 0, 0, 0) :: bl_184_93
def bl_184_43 : List (Nat × Nat × Int × Nat × Nat × Nat) := (1, 5, 0, 0, 1, 0) :: (2, 0, 0, 0, 0, 0) :: (36, 18, 0, 9, 231, 6132) :: (23, 137, 156, 0, 0, 0) :: (2, 0, 0, 0, 0, 0) :: (37, 12, 0, 9, 27, 6126) :: (1, 5, 0, 0, 1, 0) :: (40, 0, 0, 0, 0, 0) :: (3, 6, 0, 0, 1, 0) :: (0, 0, 0, 0, 0, 0) :: (3, 7, 0, 0, 1, 0) :: bl_184_54
def bl_184_41 : List (Nat × Nat × Int × Nat × Nat × Nat) := (0, 0, 0, 0, 0, 0) :: (3, 5, 0, 0, 1, 0) :: bl_184_43
def bl_184_20 : List (Nat × Nat × Int × Nat × Nat × Nat) := (1, 5, 0, 0, 1, 0) :: (1, 1, 0, 0, 0, 0) :: (23, 41, 37, 0, 0, 0) :: (2, 0, 0, 0, 0, 0) :: (37, 15, 0, 9, 36, 6129) :: (1, 5, 0, 0, 1, 0) :: (2, 0, 0, 0, 0, 0) :: (37, 13, 0, 9, 30, 6127) :: (1, 5, 0, 0, 1, 0) :: (40, 0, 0, 0, 0, 0) :: (41, 0, 0, 0, 0, 0) :: (2, 0, 0, 0, 0, 0) :: (37, 16, 0, 9, 39, 6130) :: (1, 5, 0, 0, 1, 0) :: (2, 0, 0, 0, 0, 0) :: (37, 14, 0, 9, 33, 6128) :: (1, 5, 0, 0, 1, 0) :: (40, 0, 0, 0, 0, 0) :: (41, 0, 0, 0, 0, 0) :: (5, 5, 1, 0, 0, 0) :: (32, 20, (-37), 0, 0, 0) :: bl_184_41
def bl_184_12 : List (Nat × Nat × Int × Nat × Nat × Nat) := (2, 0, 0, 0, 0, 0) :: (1, 1, 0, 0, 0, 0) :: (38, 19, 0, 9, 240, 6133) :: (2, 0, 0, 0, 0, 0) :: (1, 4, 0, 0, 1, 0) :: (38, 20, 0, 9, 243, 6134) :: (0, 0, 0, 0, 0, 0) :: (3, 5, 0, 0, 1, 0) :: bl_184_20
def bl_184_0 : List (Nat × Nat × Int × Nat × Nat × Nat) := (1, 1, 0, 0, 0, 0) :: (2, 0, 0, 0, 0, 0) :: (36, 19, 0, 9, 240, 6133) :: (24, 12, 20, 0, 0, 0) :: (1, 1, 0, 0, 0, 0) :: (2, 0, 0, 0, 0, 0) :: (36, 19, 0, 9, 240, 6133) :: (21, 41, 66, 0, 0, 0) :: (1, 4, 0, 0, 1, 0) :: (2, 0, 0, 0, 0, 0) :: (36, 20, 0, 9, 243, 6134) :: (23, 41, 57, 0, 0, 0) :: bl_184_12
-- 185 X9_zone
def bl_185_15 : List (Nat × Nat × Int × Nat × Nat × Nat) := (55, 0, 0, 0, 0, 0) :: []
def bl_185_14 : List (Nat × Nat × Int × Nat × Nat × Nat) := (0, 0, (-1), 0, 0, 0) :: bl_185_15
def bl_185_0 : List (Nat × Nat × Int × Nat × Nat × Nat) := (2, 0, 0, 0, 0, 0) :: (0, 0, 0, 0, 0, 0) :: (38, 4, 0, 9, 59, 6118) :: (2, 0, 0, 0, 0, 0) :: (1, 1, 0, 0, 0, 0) :: (50, 106, 9, 2, 175, 7050) :: (26, 14, 16, 0, 0, 0) :: (2, 0, 0, 0, 0, 0) :: (37, 0, 0, 9, 9, 6114) :: (0, 2, 203, 0, 0, 0) :: (1, 1, 0, 0, 0, 0) :: (6, 0, 0, 0, 0, 0) :: (40, 0, 0, 0, 0, 0) :: (32, 15, 4, 0, 0, 0) :: bl_185_14
-- 186 J0_charAt_5068e
def bl_186_8 : List (Nat × Nat × Int × Nat × Nat × Nat) := (2, 0, 0, 0, 0, 0) :: (66, 0, 0, 0, 9, 8192) :: (1, 1, 0, 0, 0, 0) :: (99, 0, 0, 0, 0, 0) :: (55, 3, 0, 0, 0, 0) :: []
def bl_186_0 : List (Nat × Nat × Int × Nat × Nat × Nat) := (2, 0, 0, 0, 0, 0) :: (50, 1, 90, 1, 492, 2227) :: (26, 8, 12, 0, 0, 0) :: (2, 0, 0, 0, 0, 0) :: (66, 0, 0, 0, 9, 8192) :: (1, 1, 0, 0, 0, 0) :: (49, 124, 99, 2, 495, 2231) :: (55, 3, 0, 0, 0, 0) :: bl_186_8
-- 187 X2_considerSet
def bl_187_72 : List (Nat × Nat × Int × Nat × Nat × Nat) := (57, 0, 0, 0, 0, 0) :: []
def bl_187_57 : List (Nat × Nat × Int × Nat × Nat × Nat) := (3, 6, 0, 0, 1, 0) :: (1, 5, 0, 0, 1, 0) :: (1, 3, 0, 0, 0, 0) :: (24, 72, 25, 0, 0, 0) :: (1, 6, 0, 0, 1, 0) :: (26, 72, 20, 0, 0, 0) :: (2, 0, 0, 0, 0, 0) :: (1, 4, 0, 0, 1, 0) :: (38, 3, 0, 2, 22, 2118) :: (2, 0, 0, 0, 0, 0) :: (1, 5, 0, 0, 1, 0) :: (38, 4, 0, 2, 25, 2120) :: (2, 0, 0, 0, 0, 0) :: (1, 1, 0, 0, 0, 0) :: (38, 5, 0, 2, 28, 2122) :: bl_187_72
def bl_187_56 : List (Nat × Nat × Int × Nat × Nat × Nat) := (0, 0, 0, 0, 0, 0) :: bl_187_57
def bl_187_54 : List (Nat × Nat × Int × Nat × Nat × Nat) := (0, 0, 1, 0, 0, 0) :: (32, 57, 4, 0, 0, 0) :: bl_187_56
def bl_187_42 : List (Nat × Nat × Int × Nat × Nat × Nat) := (1, 4, 0, 0, 1, 0) :: (2, 0, 0, 0, 0, 0) :: (36, 3, 0, 2, 22, 2118) :: (24, 54, 21, 0, 0, 0) :: (1, 4, 0, 0, 1, 0) :: (2, 0, 0, 0, 0, 0) :: (36, 3, 0, 2, 22, 2118) :: (21, 56, 16, 0, 0, 0) :: (1, 5, 0, 0, 1, 0) :: (2, 0, 0, 0, 0, 0) :: (36, 4, 0, 2, 25, 2120) :: (23, 56, 7, 0, 0, 0) :: bl_187_54
def bl_187_40 : List (Nat × Nat × Int × Nat × Nat × Nat) := (5, 6, 1, 0, 0, 0) :: (32, 6, (-70), 0, 0, 0) :: bl_187_42
def bl_187_6 : List (Nat × Nat × Int × Nat × Nat × Nat) := (1, 6, 0, 0, 1, 0) :: (2, 2, 0, 0, 0, 0) :: (36, 0, 0, 4, 41, 1101) :: (23, 42, 67, 0, 0, 0) :: (1, 1, 0, 0, 0, 0) :: (1, 6, 0, 0, 1, 0) :: (52, 24, 8, 2, 62, 23) :: (26, 40, 52, 0, 0, 0) :: (2, 0, 0, 0, 0, 0) :: (1, 1, 0, 0, 0, 0) :: (1, 6, 0, 0, 1, 0) :: (2, 2, 0, 0, 0, 0) :: (50, 129, 2, 4, 66, 5142) :: (3, 7, 0, 0, 1, 0) :: (2, 0, 0, 0, 0, 0) :: (37, 1, 0, 2, 15, 2116) :: (1, 1, 0, 0, 0, 0) :: (0, 1, 10, 0, 0, 0) :: (8, 0, 0, 0, 0, 0) :: (1, 6, 0, 0, 1, 0) :: (6, 0, 0, 0, 0, 0) :: (1, 7, 0, 0, 1, 0) :: (52, 31, 8, 3, 57, 22) :: (1, 5, 0, 0, 1, 0) :: (1, 7, 0, 0, 1, 0) :: (76, 0, 0, 0, 70, 5148) :: (3, 5, 0, 0, 1, 0) :: (1, 4, 0, 0, 1, 0) :: (2, 0, 0, 0, 0, 0) :: (37, 0, 0, 2, 9, 2115) :: (1, 6, 0, 0, 1, 0) :: (52, 23, 8, 2, 75, 24) :: (6, 0, 0, 0, 0, 0) :: (3, 4, 0, 0, 1, 0) :: bl_187_40
def bl_187_0 : List (Nat × Nat × Int × Nat × Nat × Nat) := (0, 0, 0, 0, 0, 0) :: (3, 4, 0, 0, 1, 0) :: (0, 3, 1000000, 0, 61, 5140) :: (3, 5, 0, 0, 1, 0) :: (0, 0, 0, 0, 0, 0) :: (3, 6, 0, 0, 1, 0) :: bl_187_6
-- 188 X3_smallestBestTrip
def bl_188_39 : List (Nat × Nat × Int × Nat × Nat × Nat) := (0, 0, (-1), 0, 0, 0) :: (55, 0, 0, 0, 0, 0) :: []
def bl_188_37 : List (Nat × Nat × Int × Nat × Nat × Nat) := (5, 5, 1, 0, 0, 0) :: (32, 8, (-59), 0, 0, 0) :: bl_188_39
def bl_188_35 : List (Nat × Nat × Int × Nat × Nat × Nat) := (5, 6, 1, 0, 0, 0) :: (32, 16, (-36), 0, 0, 0) :: bl_188_37
def bl_188_16 : List (Nat × Nat × Int × Nat × Nat × Nat) := (1, 6, 0, 0, 1, 0) :: (2, 0, 0, 0, 0, 0) :: (36, 10, 0, 3, 108, 2080) :: (23, 37, 33, 0, 0, 0) :: (2, 0, 0, 0, 0, 0) :: (1, 1, 0, 0, 0, 0) :: (1, 2, 0, 0, 0, 0) :: (1, 3, 0, 0, 0, 0) :: (1, 5, 0, 0, 1, 0) :: (1, 6, 0, 0, 1, 0) :: (50, 68, 3, 6, 143, 4097) :: (1, 4, 0, 0, 1, 0) :: (21, 35, 11, 0, 0, 0) :: (1, 5, 0, 0, 1, 0) :: (0, 0, 2, 0, 0, 0) :: (8, 0, 0, 0, 0, 0) :: (1, 6, 0, 0, 1, 0) :: (6, 0, 0, 0, 0, 0) :: (55, 0, 0, 0, 0, 0) :: bl_188_35
def bl_188_8 : List (Nat × Nat × Int × Nat × Nat × Nat) := (1, 5, 0, 0, 1, 0) :: (2, 0, 0, 0, 0, 0) :: (36, 9, 0, 3, 78, 2079) :: (23, 39, 56, 0, 0, 0) :: (1, 4, 0, 0, 1, 0) :: (31, 39, 51, 0, 0, 0) :: (0, 0, 0, 0, 0, 0) :: (3, 6, 0, 0, 1, 0) :: bl_188_16
def bl_188_0 : List (Nat × Nat × Int × Nat × Nat × Nat) := (2, 0, 0, 0, 0, 0) :: (1, 1, 0, 0, 0, 0) :: (1, 2, 0, 0, 0, 0) :: (1, 3, 0, 0, 0, 0) :: (50, 130, 3, 4, 140, 4093) :: (3, 4, 0, 0, 1, 0) :: (0, 0, 0, 0, 0, 0) :: (3, 5, 0, 0, 1, 0) :: bl_188_8
-- 189 X3_weighStates
def bl_189_39 : List (Nat × Nat × Int × Nat × Nat × Nat) := (57, 0, 0, 0, 0, 0) :: []
def bl_189_37 : List (Nat × Nat × Int × Nat × Nat × Nat) := (5, 1, (-1), 0, 0, 0) :: (32, 7, (-59), 0, 0, 0) :: bl_189_39
def bl_189_35 : List (Nat × Nat × Int × Nat × Nat × Nat) := (5, 2, 1, 0, 0, 0) :: (32, 11, (-47), 0, 0, 0) :: bl_189_37
def bl_189_17 : List (Nat × Nat × Int × Nat × Nat × Nat) := (1, 3, 0, 0, 0, 0) :: (2, 0, 0, 0, 0, 0) :: (36, 10, 0, 3, 108, 2080) :: (23, 35, 29, 0, 0, 0) :: (2, 0, 0, 0, 0, 0) :: (37, 5, 0, 3, 27, 2072) :: (1, 1, 0, 0, 0, 0) :: (1, 2, 0, 0, 0, 0) :: (1, 3, 0, 0, 0, 0) :: (49, 13, 3, 3, 137, 4090) :: (2, 0, 0, 0, 0, 0) :: (1, 1, 0, 0, 0, 0) :: (1, 2, 0, 0, 0, 0) :: (1, 3, 0, 0, 0, 0) :: (50, 130, 3, 4, 140, 4093) :: (52, 31, 8, 3, 98, 18) :: (5, 3, 1, 0, 0, 0) :: (32, 17, (-31), 0, 0, 0) :: bl_189_35
def bl_189_11 : List (Nat × Nat × Int × Nat × Nat × Nat) := (1, 2, 0, 0, 0, 0) :: (1, 1, 0, 0, 0, 0) :: (49, 3, 99, 1, 132, 4089) :: (24, 37, 45, 0, 0, 0) :: (0, 0, 0, 0, 0, 0) :: (3, 3, 0, 0, 0, 0) :: bl_189_17
def bl_189_7 : List (Nat × Nat × Int × Nat × Nat × Nat) := (1, 1, 0, 0, 0, 0) :: (28, 39, 61, 0, 0, 0) :: (0, 0, 0, 0, 0, 0) :: (3, 2, 0, 0, 0, 0) :: bl_189_11
def bl_189_0 : List (Nat × Nat × Int × Nat × Nat × Nat) := (0, 0, 1, 0, 0, 0) :: (2, 0, 0, 0, 0, 0) :: (36, 9, 0, 3, 78, 2079) :: (14, 0, 0, 0, 0, 0) :: (0, 0, 1, 0, 0, 0) :: (7, 0, 0, 0, 0, 0) :: (3, 1, 0, 0, 0, 0) :: bl_189_7
-- 190 X4_clear
def bl_190_44 : List (Nat × Nat × Int × Nat × Nat × Nat) := (2, 0, 0, 0, 0, 0) :: (50, 134, 4, 1, 55, 1077) :: (57, 0, 0, 0, 0, 0) :: []
def bl_190_33 : List (Nat × Nat × Int × Nat × Nat × Nat) := (1, 3, 0, 0, 0, 0) :: (1, 2, 0, 0, 0, 0) :: (23, 44, 19, 0, 0, 0) :: (2, 1, 0, 0, 0, 0) :: (1, 3, 0, 0, 0, 0) :: (46, 0, 0, 0, 0, 0) :: (4, 4, 0, 0, 1, 0) :: (2, 4, 0, 0, 1, 0) :: (50, 80, 7, 1, 54, 1072) :: (5, 3, 1, 0, 0, 0) :: (32, 33, (-18), 0, 0, 0) :: bl_190_44
def bl_190_0 : List (Nat × Nat × Int × Nat × Nat × Nat) := (2, 0, 0, 0, 0, 0) :: (0, 0, 1, 0, 0, 0) :: (38, 0, 0, 4, 37, 1100) :: (2, 0, 0, 0, 0, 0) :: (0, 0, 0, 0, 0, 0) :: (38, 1, 0, 4, 41, 1105) :: (2, 0, 0, 0, 0, 0) :: (0, 0, (-1), 0, 0, 0) :: (38, 2, 0, 4, 44, 1107) :: (2, 0, 0, 0, 0, 0) :: (37, 3, 0, 4, 9, 1109) :: (0, 0, 0, 0, 0, 0) :: (49, 4, 99, 2, 47, 1068) :: (2, 0, 0, 0, 0, 0) :: (37, 4, 0, 4, 15, 1113) :: (0, 0, 2, 0, 0, 0) :: (49, 4, 99, 2, 47, 1068) :: (2, 0, 0, 0, 0, 0) :: (37, 5, 0, 4, 18, 1116) :: (0, 0, 0, 0, 0, 0) :: (49, 4, 99, 2, 47, 1068) :: (2, 0, 0, 0, 0, 0) :: (37, 6, 0, 4, 21, 1118) :: (0, 3, 1000000, 0, 53, 1071) :: (49, 4, 99, 2, 47, 1068) :: (2, 0, 0, 0, 0, 0) :: (37, 8, 0, 4, 29, 1120) :: (4, 1, 0, 0, 0, 0) :: (2, 1, 0, 0, 0, 0) :: (48, 0, 0, 0, 0, 0) :: (3, 2, 0, 0, 0, 0) :: (0, 0, 0, 0, 0, 0) :: (3, 3, 0, 0, 0, 0) :: bl_190_33
-- 191 X4_copyFrom
def bl_191_55 : List (Nat × Nat × Int × Nat × Nat × Nat) := (57, 0, 0, 0, 0, 0) :: []
def bl_191_39 : List (Nat × Nat × Int × Nat × Nat × Nat) := (1, 2, 0, 0, 0, 0) :: (2, 0, 0, 0, 0, 0) :: (37, 8, 0, 4, 29, 1120) :: (48, 0, 0, 0, 0, 0) :: (23, 55, 24, 0, 0, 0) :: (2, 0, 0, 0, 0, 0) :: (37, 8, 0, 4, 29, 1120) :: (1, 2, 0, 0, 0, 0) :: (46, 0, 0, 0, 0, 0) :: (2, 1, 0, 0, 0, 0) :: (37, 8, 0, 4, 29, 1120) :: (1, 2, 0, 0, 0, 0) :: (46, 0, 0, 0, 0, 0) :: (50, 142, 7, 2, 62, 3102) :: (5, 2, 1, 0, 0, 0) :: (32, 39, (-27), 0, 0, 0) :: bl_191_55
def bl_191_0 : List (Nat × Nat × Int × Nat × Nat × Nat) := (2, 0, 0, 0, 0, 0) :: (2, 1, 0, 0, 0, 0) :: (36, 0, 0, 4, 37, 1100) :: (38, 0, 0, 4, 37, 1100) :: (2, 0, 0, 0, 0, 0) :: (2, 1, 0, 0, 0, 0) :: (36, 1, 0, 4, 41, 1105) :: (38, 1, 0, 4, 41, 1105) :: (2, 0, 0, 0, 0, 0) :: (2, 1, 0, 0, 0, 0) :: (36, 2, 0, 4, 44, 1107) :: (38, 2, 0, 4, 44, 1107) :: (2, 1, 0, 0, 0, 0) :: (37, 3, 0, 4, 9, 1109) :: (2, 0, 0, 0, 0, 0) :: (37, 3, 0, 4, 9, 1109) :: (52, 85, 8, 2, 58, 2) :: (2, 1, 0, 0, 0, 0) :: (37, 4, 0, 4, 15, 1113) :: (2, 0, 0, 0, 0, 0) :: (37, 4, 0, 4, 15, 1113) :: (52, 85, 8, 2, 58, 2) :: (2, 1, 0, 0, 0, 0) :: (37, 5, 0, 4, 18, 1116) :: (2, 0, 0, 0, 0, 0) :: (37, 5, 0, 4, 18, 1116) :: (52, 85, 8, 2, 58, 2) :: (2, 1, 0, 0, 0, 0) :: (37, 6, 0, 4, 21, 1118) :: (2, 0, 0, 0, 0, 0) :: (37, 6, 0, 4, 21, 1118) :: (52, 85, 8, 2, 58, 2) :: (2, 1, 0, 0, 0, 0) :: (37, 7, 0, 4, 24, 1119) :: (2, 0, 0, 0, 0, 0) :: (37, 7, 0, 4, 24, 1119) :: (52, 85, 8, 2, 58, 2) :: (0, 0, 0, 0, 0, 0) :: (3, 2, 0, 0, 0, 0) :: bl_191_39
-- 192 X5_readPlace
def bl_192_0 : List (Nat × Nat × Int × Nat × Nat × Nat) := (2, 0, 0, 0, 0, 0) :: (0, 0, 0, 0, 0, 0) :: (2, 0, 0, 0, 0, 0) :: (37, 0, 0, 5, 12, 1140) :: (36, 0, 0, 4, 72, 1104) :: (0, 0, 1, 0, 0, 0) :: (7, 0, 0, 0, 0, 0) :: (50, 137, 5, 3, 68, 3025) :: (55, 0, 0, 0, 0, 0) :: []
-- 193 X5_readRate
def bl_193_35 : List (Nat × Nat × Int × Nat × Nat × Nat) := (57, 0, 0, 0, 0, 0) :: []
def bl_193_0 : List (Nat × Nat × Int × Nat × Nat × Nat) := (2, 0, 0, 0, 0, 0) :: (37, 0, 0, 5, 12, 1140) :: (2, 0, 0, 0, 0, 0) :: (0, 0, 0, 0, 0, 0) :: (0, 0, 3, 0, 0, 0) :: (50, 137, 5, 3, 68, 3025) :: (50, 16, 4, 2, 109, 3063) :: (4, 1, 0, 0, 0, 0) :: (2, 0, 0, 0, 0, 0) :: (0, 0, 0, 0, 0, 0) :: (0, 1, 23, 0, 0, 0) :: (50, 137, 5, 3, 68, 3025) :: (3, 2, 0, 0, 0, 0) :: (2, 0, 0, 0, 0, 0) :: (1, 2, 0, 0, 0, 0) :: (0, 0, 1, 0, 0, 0) :: (6, 0, 0, 0, 0, 0) :: (0, 1, 24, 0, 0, 0) :: (50, 137, 5, 3, 68, 3025) :: (3, 3, 0, 0, 0, 0) :: (2, 0, 0, 0, 0, 0) :: (0, 0, 0, 0, 0, 0) :: (0, 2, 999, 0, 0, 0) :: (50, 137, 5, 3, 68, 3025) :: (3, 4, 0, 0, 1, 0) :: (2, 0, 0, 0, 0, 0) :: (36, 6, 0, 5, 36, 1148) :: (27, 35, 15, 0, 0, 0) :: (2, 1, 0, 0, 0, 0) :: (33, 35, 11, 0, 0, 0) :: (2, 1, 0, 0, 0, 0) :: (1, 2, 0, 0, 0, 0) :: (1, 3, 0, 0, 0, 0) :: (1, 4, 0, 0, 1, 0) :: (50, 83, 7, 4, 113, 3067) :: bl_193_35
-- 194 X5_readStay
def bl_194_21 : List (Nat × Nat × Int × Nat × Nat × Nat) := (57, 0, 0, 0, 0, 0) :: []
def bl_194_0 : List (Nat × Nat × Int × Nat × Nat × Nat) := (2, 0, 0, 0, 0, 0) :: (37, 0, 0, 5, 12, 1140) :: (2, 0, 0, 0, 0, 0) :: (0, 0, 0, 0, 0, 0) :: (0, 0, 3, 0, 0, 0) :: (50, 137, 5, 3, 68, 3025) :: (50, 16, 4, 2, 109, 3063) :: (4, 1, 0, 0, 0, 0) :: (2, 0, 0, 0, 0, 0) :: (0, 1, 10, 0, 0, 0) :: (0, 2, 600, 0, 0, 0) :: (50, 137, 5, 3, 68, 3025) :: (3, 2, 0, 0, 0, 0) :: (2, 0, 0, 0, 0, 0) :: (36, 6, 0, 5, 36, 1148) :: (27, 21, 12, 0, 0, 0) :: (2, 1, 0, 0, 0, 0) :: (33, 21, 8, 0, 0, 0) :: (2, 1, 0, 0, 0, 0) :: (1, 2, 0, 0, 0, 0) :: (38, 1, 0, 7, 118, 1056) :: bl_194_21
-- 195 X6_boughtUntil
def bl_195_0 : List (Nat × Nat × Int × Nat × Nat × Nat) := (2, 0, 0, 0, 0, 0) :: (37, 0, 0, 6, 12, 2035) :: (1, 1, 0, 0, 0, 0) :: (50, 72, 4, 2, 108, 3179) :: (4, 4, 0, 0, 1, 0) :: (2, 4, 0, 0, 1, 0) :: (1, 2, 0, 0, 0, 0) :: (2, 0, 0, 0, 0, 0) :: (36, 3, 0, 6, 48, 2043) :: (2, 4, 0, 0, 1, 0) :: (36, 1, 0, 7, 112, 1055) :: (6, 0, 0, 0, 0, 0) :: (1, 3, 0, 0, 0, 0) :: (50, 144, 7, 4, 117, 3184) :: (55, 0, 0, 0, 0, 0) :: []
-- 196 X6_bringToPound
def bl_196_0 : List (Nat × Nat × Int × Nat × Nat × Nat) := (2, 1, 0, 0, 0, 0) :: (0, 0, 3, 0, 0, 0) :: (38, 1, 0, 0, 95, 1224) :: (2, 1, 0, 0, 0, 0) :: (1, 2, 0, 0, 0, 0) :: (38, 2, 0, 0, 98, 1228) :: (2, 1, 0, 0, 0, 0) :: (18, 0, 0, 0, 0, 0) :: (36, 9, 0, 0, 158, 2007) :: (0, 2, 15000, 0, 0, 0) :: (6, 0, 0, 0, 0, 0) :: (38, 9, 0, 0, 158, 2007) :: (2, 0, 0, 0, 0, 0) :: (1, 2, 0, 0, 0, 0) :: (38, 4, 0, 6, 31, 2046) :: (2, 0, 0, 0, 0, 0) :: (0, 1, 10, 0, 0, 0) :: (2, 1, 0, 0, 0, 0) :: (0, 2, 15000, 0, 0, 0) :: (50, 140, 6, 4, 104, 3159) :: (57, 0, 0, 0, 0, 0) :: []
-- 197 X6_overtimeOf
def bl_197_0 : List (Nat × Nat × Int × Nat × Nat × Nat) := (2, 0, 0, 0, 0, 0) :: (37, 0, 0, 6, 12, 2035) :: (2, 1, 0, 0, 0, 0) :: (36, 2, 0, 0, 98, 1228) :: (50, 72, 4, 2, 108, 3179) :: (2, 1, 0, 0, 0, 0) :: (36, 3, 0, 0, 101, 1231) :: (2, 0, 0, 0, 0, 0) :: (36, 3, 0, 6, 48, 2043) :: (50, 141, 7, 3, 121, 3202) :: (55, 0, 0, 0, 0, 0) :: []
-- 198 X6_payFees
def bl_198_26 : List (Nat × Nat × Int × Nat × Nat × Nat) := (57, 0, 0, 0, 0, 0) :: []
def bl_198_0 : List (Nat × Nat × Int × Nat × Nat × Nat) := (2, 1, 0, 0, 0, 0) :: (36, 9, 0, 0, 158, 2007) :: (3, 2, 0, 0, 0, 0) :: (2, 1, 0, 0, 0, 0) :: (50, 10, 0, 1, 151, 4002) :: (27, 26, 38, 0, 0, 0) :: (1, 2, 0, 0, 0, 0) :: (31, 26, 34, 0, 0, 0) :: (2, 1, 0, 0, 0, 0) :: (36, 10, 0, 0, 161, 2010) :: (1, 2, 0, 0, 0, 0) :: (22, 26, 26, 0, 0, 0) :: (2, 1, 0, 0, 0, 0) :: (18, 0, 0, 0, 0, 0) :: (36, 10, 0, 0, 161, 2010) :: (1, 2, 0, 0, 0, 0) :: (7, 0, 0, 0, 0, 0) :: (38, 10, 0, 0, 161, 2010) :: (2, 1, 0, 0, 0, 0) :: (0, 0, 0, 0, 0, 0) :: (38, 9, 0, 0, 158, 2007) :: (2, 0, 0, 0, 0, 0) :: (0, 1, 8, 0, 0, 0) :: (2, 1, 0, 0, 0, 0) :: (1, 2, 0, 0, 0, 0) :: (50, 140, 6, 4, 104, 3159) :: bl_198_26
-- 199 X6_payTickets
def bl_199_55 : List (Nat × Nat × Int × Nat × Nat × Nat) := (57, 0, 0, 0, 0, 0) :: []
def bl_199_54 : List (Nat × Nat × Int × Nat × Nat × Nat) := (32, 2, (-97), 0, 0, 0) :: bl_199_55
def bl_199_28 : List (Nat × Nat × Int × Nat × Nat × Nat) := (3, 2, 0, 0, 0, 0) :: (1, 2, 0, 0, 0, 0) :: (26, 54, 41, 0, 0, 0) :: (2, 1, 0, 0, 0, 0) :: (18, 0, 0, 0, 0, 0) :: (36, 10, 0, 0, 161, 2010) :: (1, 3, 0, 0, 0, 0) :: (7, 0, 0, 0, 0, 0) :: (38, 10, 0, 0, 161, 2010) :: (2, 1, 0, 0, 0, 0) :: (18, 0, 0, 0, 0, 0) :: (36, 8, 0, 0, 148, 2005) :: (1, 3, 0, 0, 0, 0) :: (7, 0, 0, 0, 0, 0) :: (38, 8, 0, 0, 148, 2005) :: (2, 1, 0, 0, 0, 0) :: (18, 0, 0, 0, 0, 0) :: (36, 6, 0, 0, 177, 2000) :: (0, 0, 1, 0, 0, 0) :: (6, 0, 0, 0, 0, 0) :: (38, 6, 0, 0, 177, 2000) :: (2, 0, 0, 0, 0, 0) :: (0, 1, 7, 0, 0, 0) :: (2, 1, 0, 0, 0, 0) :: (1, 3, 0, 0, 0, 0) :: (50, 140, 6, 4, 104, 3159) :: bl_199_54
def bl_199_27 : List (Nat × Nat × Int × Nat × Nat × Nat) := (0, 0, 0, 0, 0, 0) :: bl_199_28
def bl_199_2 : List (Nat × Nat × Int × Nat × Nat × Nat) := (1, 2, 0, 0, 0, 0) :: (26, 55, 99, 0, 0, 0) :: (2, 1, 0, 0, 0, 0) :: (36, 6, 0, 0, 177, 2000) :: (2, 1, 0, 0, 0, 0) :: (36, 5, 0, 0, 142, 1237) :: (23, 55, 88, 0, 0, 0) :: (2, 0, 0, 0, 0, 0) :: (37, 2, 0, 6, 27, 2041) :: (37, 4, 0, 1, 180, 1194) :: (2, 0, 0, 0, 0, 0) :: (37, 2, 0, 6, 27, 2041) :: (2, 1, 0, 0, 0, 0) :: (36, 0, 0, 0, 60, 1220) :: (2, 1, 0, 0, 0, 0) :: (36, 6, 0, 0, 177, 2000) :: (50, 62, 1, 3, 183, 4020) :: (52, 23, 8, 2, 75, 13) :: (3, 3, 0, 0, 0, 0) :: (2, 1, 0, 0, 0, 0) :: (36, 10, 0, 0, 161, 2010) :: (1, 3, 0, 0, 0, 0) :: (22, 27, 7, 0, 0, 0) :: (0, 0, 1, 0, 0, 0) :: (32, 28, 4, 0, 0, 0) :: bl_199_27
def bl_199_0 : List (Nat × Nat × Int × Nat × Nat × Nat) := (0, 0, 1, 0, 0, 0) :: (3, 2, 0, 0, 0, 0) :: bl_199_2
-- 200 X6_putCar
def bl_200_0 : List (Nat × Nat × Int × Nat × Nat × Nat) := (2, 1, 0, 0, 0, 0) :: (0, 0, 1, 0, 0, 0) :: (38, 1, 0, 0, 95, 1224) :: (2, 1, 0, 0, 0, 0) :: (1, 2, 0, 0, 0, 0) :: (38, 2, 0, 0, 98, 1228) :: (2, 1, 0, 0, 0, 0) :: (2, 0, 0, 0, 0, 0) :: (36, 3, 0, 6, 48, 2043) :: (38, 3, 0, 0, 101, 1231) :: (2, 0, 0, 0, 0, 0) :: (0, 0, 1, 0, 0, 0) :: (2, 1, 0, 0, 0, 0) :: (1, 2, 0, 0, 0, 0) :: (50, 140, 6, 4, 104, 3159) :: (57, 0, 0, 0, 0, 0) :: []
-- 201 X6_release
def bl_201_31 : List (Nat × Nat × Int × Nat × Nat × Nat) := (57, 0, 0, 0, 0, 0) :: []
def bl_201_18 : List (Nat × Nat × Int × Nat × Nat × Nat) := (2, 1, 0, 0, 0, 0) :: (36, 1, 0, 0, 95, 1224) :: (0, 0, 3, 0, 0, 0) :: (21, 31, 19, 0, 0, 0) :: (2, 1, 0, 0, 0, 0) :: (0, 0, 0, 0, 0, 0) :: (38, 1, 0, 0, 95, 1224) :: (2, 0, 0, 0, 0, 0) :: (0, 1, 9, 0, 0, 0) :: (2, 1, 0, 0, 0, 0) :: (2, 1, 0, 0, 0, 0) :: (36, 2, 0, 0, 98, 1228) :: (50, 140, 6, 4, 104, 3159) :: bl_201_31
def bl_201_0 : List (Nat × Nat × Int × Nat × Nat × Nat) := (2, 1, 0, 0, 0, 0) :: (36, 1, 0, 0, 95, 1224) :: (0, 0, 2, 0, 0, 0) :: (21, 18, 30, 0, 0, 0) :: (2, 1, 0, 0, 0, 0) :: (0, 0, 1, 0, 0, 0) :: (38, 1, 0, 0, 95, 1224) :: (2, 1, 0, 0, 0, 0) :: (2, 0, 0, 0, 0, 0) :: (36, 3, 0, 6, 48, 2043) :: (38, 3, 0, 0, 101, 1231) :: (2, 0, 0, 0, 0, 0) :: (0, 1, 9, 0, 0, 0) :: (2, 1, 0, 0, 0, 0) :: (2, 1, 0, 0, 0, 0) :: (36, 2, 0, 0, 98, 1228) :: (50, 140, 6, 4, 104, 3159) :: (32, 31, 27, 0, 0, 0) :: bl_201_18
-- 202 X6_spacesLeft
def bl_202_0 : List (Nat × Nat × Int × Nat × Nat × Nat) := (2, 0, 0, 0, 0, 0) :: (37, 0, 0, 6, 12, 2035) :: (37, 4, 0, 4, 71, 1114) :: (1, 1, 0, 0, 0, 0) :: (52, 23, 8, 2, 75, 13) :: (2, 0, 0, 0, 0, 0) :: (1, 1, 0, 0, 0, 0) :: (50, 139, 6, 2, 79, 3133) :: (49, 3, 99, 1, 83, 3145) :: (7, 0, 0, 0, 0, 0) :: (55, 0, 0, 0, 0, 0) :: []
-- 203 X6_ticketFor
def bl_203_27 : List (Nat × Nat × Int × Nat × Nat × Nat) := (55, 0, 0, 0, 0, 0) :: []
def bl_203_26 : List (Nat × Nat × Int × Nat × Nat × Nat) := (0, 0, 0, 0, 0, 0) :: bl_203_27
def bl_203_10 : List (Nat × Nat × Int × Nat × Nat × Nat) := (2, 0, 0, 0, 0, 0) :: (37, 0, 0, 6, 12, 2035) :: (2, 1, 0, 0, 0, 0) :: (36, 2, 0, 0, 98, 1228) :: (50, 72, 4, 2, 108, 3179) :: (2, 1, 0, 0, 0, 0) :: (36, 3, 0, 0, 101, 1231) :: (1, 2, 0, 0, 0, 0) :: (50, 141, 7, 3, 121, 3202) :: (3, 3, 0, 0, 0, 0) :: (1, 3, 0, 0, 0, 0) :: (31, 26, 11, 0, 0, 0) :: (2, 1, 0, 0, 0, 0) :: (1, 3, 0, 0, 0, 0) :: (50, 54, 0, 2, 128, 3229) :: (32, 27, 4, 0, 0, 0) :: bl_203_26
def bl_203_8 : List (Nat × Nat × Int × Nat × Nat × Nat) := (0, 0, 0, 0, 0, 0) :: (55, 0, 0, 0, 0, 0) :: bl_203_10
def bl_203_0 : List (Nat × Nat × Int × Nat × Nat × Nat) := (2, 1, 0, 0, 0, 0) :: (36, 1, 0, 0, 95, 1224) :: (0, 0, 1, 0, 0, 0) :: (21, 8, 11, 0, 0, 0) :: (2, 1, 0, 0, 0, 0) :: (1, 2, 0, 0, 0, 0) :: (50, 8, 0, 2, 125, 3225) :: (26, 10, 5, 0, 0, 0) :: bl_203_8
-- 204 X6_writeTicket
def bl_204_43 : List (Nat × Nat × Int × Nat × Nat × Nat) := (57, 0, 0, 0, 0, 0) :: []
def bl_204_0 : List (Nat × Nat × Int × Nat × Nat × Nat) := (2, 1, 0, 0, 0, 0) :: (18, 0, 0, 0, 0, 0) :: (36, 5, 0, 0, 142, 1237) :: (0, 0, 1, 0, 0, 0) :: (6, 0, 0, 0, 0, 0) :: (38, 5, 0, 0, 142, 1237) :: (2, 1, 0, 0, 0, 0) :: (2, 0, 0, 0, 0, 0) :: (36, 3, 0, 6, 48, 2043) :: (38, 7, 0, 0, 145, 2003) :: (2, 1, 0, 0, 0, 0) :: (18, 0, 0, 0, 0, 0) :: (36, 8, 0, 0, 148, 2005) :: (1, 2, 0, 0, 0, 0) :: (6, 0, 0, 0, 0, 0) :: (38, 8, 0, 0, 148, 2005) :: (2, 0, 0, 0, 0, 0) :: (0, 0, 4, 0, 0, 0) :: (2, 1, 0, 0, 0, 0) :: (1, 2, 0, 0, 0, 0) :: (50, 140, 6, 4, 104, 3159) :: (2, 1, 0, 0, 0, 0) :: (50, 10, 0, 1, 151, 4002) :: (0, 0, 3, 0, 0, 0) :: (22, 43, 37, 0, 0, 0) :: (2, 1, 0, 0, 0, 0) :: (0, 0, 2, 0, 0, 0) :: (38, 1, 0, 0, 95, 1224) :: (2, 1, 0, 0, 0, 0) :: (2, 0, 0, 0, 0, 0) :: (36, 3, 0, 6, 48, 2043) :: (38, 4, 0, 0, 155, 1234) :: (2, 1, 0, 0, 0, 0) :: (18, 0, 0, 0, 0, 0) :: (36, 9, 0, 0, 158, 2007) :: (0, 2, 8000, 0, 0, 0) :: (6, 0, 0, 0, 0, 0) :: (38, 9, 0, 0, 158, 2007) :: (2, 0, 0, 0, 0, 0) :: (0, 0, 5, 0, 0, 0) :: (2, 1, 0, 0, 0, 0) :: (0, 2, 8000, 0, 0, 0) :: (50, 140, 6, 4, 104, 3159) :: bl_204_43
-- 205 X7_cheapest
def bl_205_46 : List (Nat × Nat × Int × Nat × Nat × Nat) := (1, 4, 0, 0, 1, 0) :: (55, 0, 0, 0, 0, 0) :: []
def bl_205_44 : List (Nat × Nat × Int × Nat × Nat × Nat) := (5, 6, 1, 0, 0, 0) :: (32, 14, (-54), 0, 0, 0) :: bl_205_46
def bl_205_14 : List (Nat × Nat × Int × Nat × Nat × Nat) := (1, 6, 0, 0, 1, 0) :: (1, 1, 0, 0, 0, 0) :: (0, 2, 1440, 0, 0, 0) :: (6, 0, 0, 0, 0, 0) :: (23, 46, 50, 0, 0, 0) :: (1, 3, 0, 0, 0, 0) :: (2, 0, 0, 0, 0, 0) :: (1, 6, 0, 0, 1, 0) :: (0, 0, 1, 0, 0, 0) :: (7, 0, 0, 0, 0, 0) :: (1, 2, 0, 0, 0, 0) :: (6, 0, 0, 0, 0, 0) :: (50, 82, 7, 2, 37, 3188) :: (2, 0, 0, 0, 0, 0) :: (1, 6, 0, 0, 1, 0) :: (0, 0, 1, 0, 0, 0) :: (7, 0, 0, 0, 0, 0) :: (50, 82, 7, 2, 37, 3188) :: (7, 0, 0, 0, 0, 0) :: (6, 0, 0, 0, 0, 0) :: (3, 3, 0, 0, 0, 0) :: (1, 3, 0, 0, 0, 0) :: (52, 25, 8, 1, 45, 21) :: (1, 5, 0, 0, 1, 0) :: (23, 44, 13, 0, 0, 0) :: (1, 3, 0, 0, 0, 0) :: (52, 25, 8, 1, 45, 21) :: (3, 5, 0, 0, 1, 0) :: (1, 6, 0, 0, 1, 0) :: (3, 4, 0, 0, 1, 0) :: bl_205_44
def bl_205_0 : List (Nat × Nat × Int × Nat × Nat × Nat) := (2, 0, 0, 0, 0, 0) :: (1, 1, 0, 0, 0, 0) :: (1, 2, 0, 0, 0, 0) :: (50, 143, 7, 3, 41, 5054) :: (3, 3, 0, 0, 0, 0) :: (1, 1, 0, 0, 0, 0) :: (3, 4, 0, 0, 1, 0) :: (1, 3, 0, 0, 0, 0) :: (52, 25, 8, 1, 45, 21) :: (3, 5, 0, 0, 1, 0) :: (1, 1, 0, 0, 0, 0) :: (0, 0, 1, 0, 0, 0) :: (6, 0, 0, 0, 0, 0) :: (3, 6, 0, 0, 1, 0) :: bl_205_14
-- 206 X8_busiestPlace
def bl_206_19 : List (Nat × Nat × Int × Nat × Nat × Nat) := (55, 0, 0, 0, 0, 0) :: []
def bl_206_18 : List (Nat × Nat × Int × Nat × Nat × Nat) := (1, 2, 0, 0, 0, 0) :: bl_206_19
def bl_206_7 : List (Nat × Nat × Int × Nat × Nat × Nat) := (2, 0, 0, 0, 0, 0) :: (37, 1, 0, 8, 19, 2138) :: (37, 2, 0, 6, 107, 2042) :: (1, 1, 0, 0, 0, 0) :: (50, 127, 1, 2, 316, 5105) :: (3, 2, 0, 0, 0, 0) :: (1, 2, 0, 0, 0, 0) :: (0, 0, (-1), 0, 0, 0) :: (21, 18, 8, 0, 0, 0) :: (0, 1, (-3), 0, 0, 0) :: (32, 19, 4, 0, 0, 0) :: bl_206_18
def bl_206_0 : List (Nat × Nat × Int × Nat × Nat × Nat) := (1, 1, 0, 0, 0, 0) :: (0, 0, 0, 0, 0, 0) :: (0, 1, 6, 0, 0, 0) :: (49, 33, 8, 3, 45, 2160) :: (27, 7, 5, 0, 0, 0) :: (0, 0, (-1), 0, 0, 0) :: (55, 0, 0, 0, 0, 0) :: bl_206_7
-- 207 X8_carsAt
def bl_207_12 : List (Nat × Nat × Int × Nat × Nat × Nat) := (55, 0, 0, 0, 0, 0) :: []
def bl_207_11 : List (Nat × Nat × Int × Nat × Nat × Nat) := (0, 0, (-1), 0, 0, 0) :: bl_207_12
def bl_207_0 : List (Nat × Nat × Int × Nat × Nat × Nat) := (2, 0, 0, 0, 0, 0) :: (37, 1, 0, 8, 19, 2138) :: (37, 0, 0, 6, 75, 2038) :: (1, 1, 0, 0, 0, 0) :: (50, 15, 4, 2, 95, 3124) :: (26, 11, 14, 0, 0, 0) :: (2, 0, 0, 0, 0, 0) :: (37, 1, 0, 8, 19, 2138) :: (1, 1, 0, 0, 0, 0) :: (50, 139, 6, 2, 214, 4190) :: (32, 12, 4, 0, 0, 0) :: bl_207_11
-- 208 X8_daySum
def bl_208_10 : List (Nat × Nat × Int × Nat × Nat × Nat) := (2, 0, 0, 0, 0, 0) :: (37, 1, 0, 8, 19, 2138) :: (37, 2, 0, 6, 107, 2042) :: (1, 1, 0, 0, 0, 0) :: (1, 2, 0, 0, 0, 0) :: (50, 128, 1, 3, 281, 5017) :: (55, 0, 0, 0, 0, 0) :: []
def bl_208_8 : List (Nat × Nat × Int × Nat × Nat × Nat) := (0, 0, (-1), 0, 0, 0) :: (55, 0, 0, 0, 0, 0) :: bl_208_10
def bl_208_0 : List (Nat × Nat × Int × Nat × Nat × Nat) := (1, 1, 0, 0, 0, 0) :: (0, 0, 0, 0, 0, 0) :: (0, 1, 6, 0, 0, 0) :: (49, 33, 8, 3, 45, 2160) :: (26, 8, 10, 0, 0, 0) :: (1, 2, 0, 0, 0, 0) :: (49, 26, 8, 1, 278, 5014) :: (27, 10, 5, 0, 0, 0) :: bl_208_8
-- 209 X8_nextOnWay
def bl_209_30 : List (Nat × Nat × Int × Nat × Nat × Nat) := (55, 0, 0, 0, 0, 0) :: []
def bl_209_29 : List (Nat × Nat × Int × Nat × Nat × Nat) := (1, 3, 0, 0, 0, 0) :: bl_209_30
def bl_209_17 : List (Nat × Nat × Int × Nat × Nat × Nat) := (2, 0, 0, 0, 0, 0) :: (37, 1, 0, 8, 19, 2138) :: (37, 0, 0, 6, 75, 2038) :: (1, 1, 0, 0, 0, 0) :: (1, 2, 0, 0, 0, 0) :: (50, 135, 4, 3, 205, 4166) :: (3, 3, 0, 0, 0, 0) :: (1, 3, 0, 0, 0, 0) :: (0, 0, (-1), 0, 0, 0) :: (21, 29, 8, 0, 0, 0) :: (0, 1, (-3), 0, 0, 0) :: (32, 30, 4, 0, 0, 0) :: bl_209_29
def bl_209_15 : List (Nat × Nat × Int × Nat × Nat × Nat) := (0, 0, (-1), 0, 0, 0) :: (55, 0, 0, 0, 0, 0) :: bl_209_17
def bl_209_0 : List (Nat × Nat × Int × Nat × Nat × Nat) := (2, 0, 0, 0, 0, 0) :: (37, 1, 0, 8, 19, 2138) :: (37, 0, 0, 6, 75, 2038) :: (1, 1, 0, 0, 0, 0) :: (50, 15, 4, 2, 95, 3124) :: (26, 15, 22, 0, 0, 0) :: (2, 0, 0, 0, 0, 0) :: (37, 1, 0, 8, 19, 2138) :: (37, 0, 0, 6, 75, 2038) :: (1, 2, 0, 0, 0, 0) :: (50, 15, 4, 2, 95, 3124) :: (26, 15, 8, 0, 0, 0) :: (1, 1, 0, 0, 0, 0) :: (1, 2, 0, 0, 0, 0) :: (21, 17, 5, 0, 0, 0) :: bl_209_15
-- 210 X8_owedInAll
def bl_210_0 : List (Nat × Nat × Int × Nat × Nat × Nat) := (2, 0, 0, 0, 0, 0) :: (37, 1, 0, 8, 19, 2138) :: (50, 138, 6, 1, 284, 5029) :: (55, 0, 0, 0, 0, 0) :: []
-- 211 X8_price
def bl_211_18 : List (Nat × Nat × Int × Nat × Nat × Nat) := (2, 0, 0, 0, 0, 0) :: (37, 1, 0, 8, 19, 2138) :: (37, 0, 0, 6, 75, 2038) :: (1, 1, 0, 0, 0, 0) :: (50, 72, 4, 2, 287, 5038) :: (1, 2, 0, 0, 0, 0) :: (1, 3, 0, 0, 0, 0) :: (50, 143, 7, 3, 290, 5039) :: (49, 25, 8, 1, 293, 5043) :: (55, 0, 0, 0, 0, 0) :: []
def bl_211_16 : List (Nat × Nat × Int × Nat × Nat × Nat) := (0, 0, (-1), 0, 0, 0) :: (55, 0, 0, 0, 0, 0) :: bl_211_18
def bl_211_0 : List (Nat × Nat × Int × Nat × Nat × Nat) := (2, 0, 0, 0, 0, 0) :: (37, 1, 0, 8, 19, 2138) :: (37, 0, 0, 6, 75, 2038) :: (1, 1, 0, 0, 0, 0) :: (50, 15, 4, 2, 95, 3124) :: (26, 16, 25, 0, 0, 0) :: (1, 2, 0, 0, 0, 0) :: (0, 0, 0, 0, 0, 0) :: (0, 2, 10079, 0, 0, 0) :: (49, 33, 8, 3, 45, 2160) :: (26, 16, 14, 0, 0, 0) :: (1, 3, 0, 0, 0, 0) :: (0, 0, 0, 0, 0, 0) :: (0, 2, 1440, 0, 0, 0) :: (49, 33, 8, 3, 45, 2160) :: (27, 18, 5, 0, 0, 0) :: bl_211_16
-- 212 X8_revenue
def bl_212_12 : List (Nat × Nat × Int × Nat × Nat × Nat) := (2, 0, 0, 0, 0, 0) :: (37, 1, 0, 8, 19, 2138) :: (37, 2, 0, 6, 107, 2042) :: (1, 1, 0, 0, 0, 0) :: (1, 2, 0, 0, 0, 0) :: (2, 0, 0, 0, 0, 0) :: (37, 1, 0, 8, 19, 2138) :: (37, 0, 0, 6, 75, 2038) :: (50, 126, 1, 4, 309, 5089) :: (55, 0, 0, 0, 0, 0) :: []
def bl_212_10 : List (Nat × Nat × Int × Nat × Nat × Nat) := (0, 0, (-1), 0, 0, 0) :: (55, 0, 0, 0, 0, 0) :: bl_212_12
def bl_212_0 : List (Nat × Nat × Int × Nat × Nat × Nat) := (1, 1, 0, 0, 0, 0) :: (0, 0, 0, 0, 0, 0) :: (0, 0, 3, 0, 0, 0) :: (49, 33, 8, 3, 45, 2160) :: (26, 10, 13, 0, 0, 0) :: (1, 2, 0, 0, 0, 0) :: (0, 0, 0, 0, 0, 0) :: (0, 1, 6, 0, 0, 0) :: (49, 33, 8, 3, 45, 2160) :: (27, 12, 5, 0, 0, 0) :: bl_212_10
-- 213 X9_clampedSince
def bl_213_0 : List (Nat × Nat × Int × Nat × Nat × Nat) := (2, 0, 0, 0, 0, 0) :: (1, 1, 0, 0, 0, 0) :: (0, 0, 5, 0, 0, 0) :: (0, 0, 2, 0, 0, 0) :: (0, 0, 2, 0, 0, 0) :: (50, 152, 9, 5, 258, 7239) :: (55, 0, 0, 0, 0, 0) :: []
-- 214 X9_credit
def bl_214_0 : List (Nat × Nat × Int × Nat × Nat × Nat) := (2, 0, 0, 0, 0, 0) :: (1, 1, 0, 0, 0, 0) :: (0, 0, 3, 0, 0, 0) :: (0, 0, 0, 0, 0, 0) :: (0, 0, 3, 0, 0, 0) :: (50, 152, 9, 5, 258, 7239) :: (55, 0, 0, 0, 0, 0) :: []
-- 215 X9_fees
def bl_215_0 : List (Nat × Nat × Int × Nat × Nat × Nat) := (2, 0, 0, 0, 0, 0) :: (1, 1, 0, 0, 0, 0) :: (0, 0, 4, 0, 0, 0) :: (0, 0, 0, 0, 0, 0) :: (0, 0, 3, 0, 0, 0) :: (50, 152, 9, 5, 258, 7239) :: (55, 0, 0, 0, 0, 0) :: []
-- 216 X9_finesAfter
def bl_216_45 : List (Nat × Nat × Int × Nat × Nat × Nat) := (2, 0, 0, 0, 0, 0) :: (37, 0, 0, 9, 9, 6114) :: (0, 0, 2, 0, 0, 0) :: (69, 0, 0, 0, 0, 0) :: (40, 0, 0, 0, 0, 0) :: (1, 2, 0, 0, 0, 0) :: (7, 0, 0, 0, 0, 0) :: (41, 0, 0, 0, 0, 0) :: (1, 3, 0, 0, 0, 0) :: (55, 0, 0, 0, 0, 0) :: []
def bl_216_41 : List (Nat × Nat × Int × Nat × Nat × Nat) := (6, 0, 0, 0, 0, 0) :: (38, 21, 0, 9, 271, 6135) :: (5, 4, 1, 0, 0, 0) :: (32, 15, (-56), 0, 0, 0) :: bl_216_45
def bl_216_40 : List (Nat × Nat × Int × Nat × Nat × Nat) := (0, 0, 0, 0, 0, 0) :: bl_216_41
def bl_216_28 : List (Nat × Nat × Int × Nat × Nat × Nat) := (3, 5, 0, 0, 1, 0) :: (1, 3, 0, 0, 0, 0) :: (1, 5, 0, 0, 1, 0) :: (6, 0, 0, 0, 0, 0) :: (3, 3, 0, 0, 0, 0) :: (2, 0, 0, 0, 0, 0) :: (18, 0, 0, 0, 0, 0) :: (36, 21, 0, 9, 271, 6135) :: (1, 5, 0, 0, 1, 0) :: (31, 40, 7, 0, 0, 0) :: (0, 0, 1, 0, 0, 0) :: (32, 41, 4, 0, 0, 0) :: bl_216_40
def bl_216_27 : List (Nat × Nat × Int × Nat × Nat × Nat) := (0, 0, 0, 0, 0, 0) :: bl_216_28
def bl_216_15 : List (Nat × Nat × Int × Nat × Nat × Nat) := (1, 4, 0, 0, 1, 0) :: (0, 1, 16, 0, 0, 0) :: (23, 45, 55, 0, 0, 0) :: (2, 0, 0, 0, 0, 0) :: (1, 4, 0, 0, 1, 0) :: (1, 1, 0, 0, 0, 0) :: (50, 104, 9, 3, 167, 7062) :: (26, 27, 12, 0, 0, 0) :: (2, 0, 0, 0, 0, 0) :: (1, 4, 0, 0, 1, 0) :: (50, 157, 9, 2, 211, 7103) :: (32, 28, 4, 0, 0, 0) :: bl_216_27
def bl_216_0 : List (Nat × Nat × Int × Nat × Nat × Nat) := (2, 0, 0, 0, 0, 0) :: (37, 0, 0, 9, 9, 6114) :: (0, 0, 2, 0, 0, 0) :: (69, 0, 0, 0, 0, 0) :: (40, 0, 0, 0, 0, 0) :: (1, 2, 0, 0, 0, 0) :: (6, 0, 0, 0, 0, 0) :: (41, 0, 0, 0, 0, 0) :: (2, 0, 0, 0, 0, 0) :: (0, 0, 0, 0, 0, 0) :: (38, 21, 0, 9, 271, 6135) :: (0, 0, 0, 0, 0, 0) :: (3, 3, 0, 0, 0, 0) :: (0, 0, 0, 0, 0, 0) :: (3, 4, 0, 0, 1, 0) :: bl_216_15
-- 217 X9_freeSpaces
def bl_217_12 : List (Nat × Nat × Int × Nat × Nat × Nat) := (55, 0, 0, 0, 0, 0) :: []
def bl_217_11 : List (Nat × Nat × Int × Nat × Nat × Nat) := (0, 0, (-1), 0, 0, 0) :: bl_217_12
def bl_217_0 : List (Nat × Nat × Int × Nat × Nat × Nat) := (2, 0, 0, 0, 0, 0) :: (0, 0, 0, 0, 0, 0) :: (38, 4, 0, 9, 59, 6118) :: (2, 0, 0, 0, 0, 0) :: (1, 1, 0, 0, 0, 0) :: (50, 106, 9, 2, 175, 7050) :: (26, 11, 11, 0, 0, 0) :: (2, 0, 0, 0, 0, 0) :: (1, 1, 0, 0, 0, 0) :: (50, 158, 9, 2, 178, 7058) :: (32, 12, 4, 0, 0, 0) :: bl_217_11
-- 218 X9_inspect
def bl_218_76 : List (Nat × Nat × Int × Nat × Nat × Nat) := (1, 2, 0, 0, 0, 0) :: (55, 0, 0, 0, 0, 0) :: []
def bl_218_74 : List (Nat × Nat × Int × Nat × Nat × Nat) := (5, 3, 1, 0, 0, 0) :: (32, 18, (-101), 0, 0, 0) :: bl_218_76
def bl_218_35 : List (Nat × Nat × Int × Nat × Nat × Nat) := (5, 2, 1, 0, 0, 0) :: (2, 0, 0, 0, 0, 0) :: (0, 0, 4, 0, 0, 0) :: (1, 3, 0, 0, 0, 0) :: (1, 4, 0, 0, 1, 0) :: (50, 44, 9, 4, 189, 7074) :: (2, 0, 0, 0, 0, 0) :: (1, 3, 0, 0, 0, 0) :: (50, 123, 9, 2, 208, 7119) :: (0, 0, 3, 0, 0, 0) :: (22, 74, 47, 0, 0, 0) :: (2, 0, 0, 0, 0, 0) :: (1, 3, 0, 0, 0, 0) :: (0, 0, 0, 0, 0, 0) :: (0, 0, 2, 0, 0, 0) :: (50, 48, 9, 4, 185, 7070) :: (2, 0, 0, 0, 0, 0) :: (1, 3, 0, 0, 0, 0) :: (0, 0, 5, 0, 0, 0) :: (2, 0, 0, 0, 0, 0) :: (37, 0, 0, 9, 9, 6114) :: (0, 0, 2, 0, 0, 0) :: (40, 0, 0, 0, 0, 0) :: (50, 48, 9, 4, 185, 7070) :: (2, 0, 0, 0, 0, 0) :: (1, 3, 0, 0, 0, 0) :: (0, 0, 4, 0, 0, 0) :: (2, 0, 0, 0, 0, 0) :: (1, 3, 0, 0, 0, 0) :: (0, 0, 4, 0, 0, 0) :: (50, 46, 9, 3, 161, 7054) :: (0, 2, 8000, 0, 0, 0) :: (6, 0, 0, 0, 0, 0) :: (50, 48, 9, 4, 185, 7070) :: (2, 0, 0, 0, 0, 0) :: (0, 0, 5, 0, 0, 0) :: (1, 3, 0, 0, 0, 0) :: (0, 2, 8000, 0, 0, 0) :: (50, 44, 9, 4, 189, 7074) :: bl_218_74
def bl_218_31 : List (Nat × Nat × Int × Nat × Nat × Nat) := (3, 4, 0, 0, 1, 0) :: (1, 4, 0, 0, 1, 0) :: (27, 35, 6, 0, 0, 0) :: (32, 74, 67, 0, 0, 0) :: bl_218_35
def bl_218_30 : List (Nat × Nat × Int × Nat × Nat × Nat) := (0, 0, 0, 0, 0, 0) :: bl_218_31
def bl_218_18 : List (Nat × Nat × Int × Nat × Nat × Nat) := (1, 3, 0, 0, 0, 0) :: (0, 1, 16, 0, 0, 0) :: (23, 76, 101, 0, 0, 0) :: (2, 0, 0, 0, 0, 0) :: (1, 3, 0, 0, 0, 0) :: (1, 1, 0, 0, 0, 0) :: (50, 104, 9, 3, 167, 7062) :: (26, 30, 11, 0, 0, 0) :: (2, 0, 0, 0, 0, 0) :: (1, 3, 0, 0, 0, 0) :: (50, 157, 9, 2, 211, 7103) :: (32, 31, 4, 0, 0, 0) :: bl_218_30
def bl_218_14 : List (Nat × Nat × Int × Nat × Nat × Nat) := (0, 0, 0, 0, 0, 0) :: (3, 2, 0, 0, 0, 0) :: (0, 0, 0, 0, 0, 0) :: (3, 3, 0, 0, 0, 0) :: bl_218_18
def bl_218_9 : List (Nat × Nat × Int × Nat × Nat × Nat) := (2, 0, 0, 0, 0, 0) :: (50, 41, 9, 1, 182, 7066) :: (26, 14, 6, 0, 0, 0) :: (0, 1, (-4), 0, 0, 0) :: (55, 0, 0, 0, 0, 0) :: bl_218_14
def bl_218_0 : List (Nat × Nat × Int × Nat × Nat × Nat) := (2, 0, 0, 0, 0, 0) :: (0, 0, 0, 0, 0, 0) :: (38, 4, 0, 9, 59, 6118) :: (2, 0, 0, 0, 0, 0) :: (1, 1, 0, 0, 0, 0) :: (50, 106, 9, 2, 175, 7050) :: (27, 9, 5, 0, 0, 0) :: (0, 0, (-1), 0, 0, 0) :: (55, 0, 0, 0, 0, 0) :: bl_218_9
-- 219 X9_isTicketPaid
def bl_219_10 : List (Nat × Nat × Int × Nat × Nat × Nat) := (3, 3, 0, 0, 0, 0) :: (2, 0, 0, 0, 0, 0) :: (0, 0, 0, 0, 0, 0) :: (38, 4, 0, 9, 59, 6118) :: (1, 3, 0, 0, 0, 0) :: (55, 1, 0, 0, 0, 0) :: []
def bl_219_9 : List (Nat × Nat × Int × Nat × Nat × Nat) := (0, 0, 0, 0, 0, 0) :: bl_219_10
def bl_219_0 : List (Nat × Nat × Int × Nat × Nat × Nat) := (2, 0, 0, 0, 0, 0) :: (1, 1, 0, 0, 0, 0) :: (1, 2, 0, 0, 0, 0) :: (0, 0, 4, 0, 0, 0) :: (50, 170, 9, 4, 262, 8023) :: (0, 0, 1, 0, 0, 0) :: (21, 9, 7, 0, 0, 0) :: (0, 0, 1, 0, 0, 0) :: (32, 10, 4, 0, 0, 0) :: bl_219_9
-- 220 X9_overtime
def bl_220_14 : List (Nat × Nat × Int × Nat × Nat × Nat) := (55, 0, 0, 0, 0, 0) :: []
def bl_220_11 : List (Nat × Nat × Int × Nat × Nat × Nat) := (2, 0, 0, 0, 0, 0) :: (1, 1, 0, 0, 0, 0) :: (50, 112, 9, 2, 199, 7095) :: bl_220_14
def bl_220_0 : List (Nat × Nat × Int × Nat × Nat × Nat) := (2, 0, 0, 0, 0, 0) :: (1, 1, 0, 0, 0, 0) :: (0, 0, 2, 0, 0, 0) :: (0, 0, 1, 0, 0, 0) :: (0, 0, 1, 0, 0, 0) :: (50, 152, 9, 5, 258, 7239) :: (3, 2, 0, 0, 0, 0) :: (1, 2, 0, 0, 0, 0) :: (29, 11, 7, 0, 0, 0) :: (1, 2, 0, 0, 0, 0) :: (32, 14, 8, 0, 0, 0) :: bl_220_11
-- 221 X9_paidUntil
def bl_221_0 : List (Nat × Nat × Int × Nat × Nat × Nat) := (2, 0, 0, 0, 0, 0) :: (1, 1, 0, 0, 0, 0) :: (0, 0, 2, 0, 0, 0) :: (0, 0, 1, 0, 0, 0) :: (0, 0, 1, 0, 0, 0) :: (50, 152, 9, 5, 258, 7239) :: (55, 0, 0, 0, 0, 0) :: []
-- 222 X9_park
def bl_222_30 : List (Nat × Nat × Int × Nat × Nat × Nat) := (2, 0, 0, 0, 0, 0) :: (1, 1, 0, 0, 0, 0) :: (0, 0, 0, 0, 0, 0) :: (0, 0, 1, 0, 0, 0) :: (50, 48, 9, 4, 185, 7070) :: (2, 0, 0, 0, 0, 0) :: (1, 1, 0, 0, 0, 0) :: (0, 0, 1, 0, 0, 0) :: (1, 2, 0, 0, 0, 0) :: (50, 48, 9, 4, 185, 7070) :: (2, 0, 0, 0, 0, 0) :: (1, 1, 0, 0, 0, 0) :: (0, 0, 2, 0, 0, 0) :: (2, 0, 0, 0, 0, 0) :: (37, 0, 0, 9, 9, 6114) :: (0, 0, 2, 0, 0, 0) :: (40, 0, 0, 0, 0, 0) :: (50, 48, 9, 4, 185, 7070) :: (2, 0, 0, 0, 0, 0) :: (0, 0, 1, 0, 0, 0) :: (1, 1, 0, 0, 0, 0) :: (1, 2, 0, 0, 0, 0) :: (50, 44, 9, 4, 189, 7074) :: (2, 0, 0, 0, 0, 0) :: (1, 2, 0, 0, 0, 0) :: (50, 158, 9, 2, 178, 7058) :: (55, 0, 0, 0, 0, 0) :: []
def bl_222_25 : List (Nat × Nat × Int × Nat × Nat × Nat) := (2, 0, 0, 0, 0, 0) :: (50, 41, 9, 1, 182, 7066) :: (26, 30, 6, 0, 0, 0) :: (0, 1, (-4), 0, 0, 0) :: (55, 0, 0, 0, 0, 0) :: bl_222_30
def bl_222_19 : List (Nat × Nat × Int × Nat × Nat × Nat) := (2, 0, 0, 0, 0, 0) :: (1, 2, 0, 0, 0, 0) :: (50, 158, 9, 2, 178, 7058) :: (27, 25, 6, 0, 0, 0) :: (0, 1, (-3), 0, 0, 0) :: (55, 0, 0, 0, 0, 0) :: bl_222_25
def bl_222_12 : List (Nat × Nat × Int × Nat × Nat × Nat) := (2, 0, 0, 0, 0, 0) :: (1, 1, 0, 0, 0, 0) :: (0, 0, 0, 0, 0, 0) :: (50, 46, 9, 3, 161, 7054) :: (26, 19, 6, 0, 0, 0) :: (0, 1, (-2), 0, 0, 0) :: (55, 0, 0, 0, 0, 0) :: bl_222_19
def bl_222_10 : List (Nat × Nat × Int × Nat × Nat × Nat) := (0, 0, (-1), 0, 0, 0) :: (55, 0, 0, 0, 0, 0) :: bl_222_12
def bl_222_0 : List (Nat × Nat × Int × Nat × Nat × Nat) := (2, 0, 0, 0, 0, 0) :: (0, 0, 0, 0, 0, 0) :: (38, 4, 0, 9, 59, 6118) :: (1, 1, 0, 0, 0, 0) :: (49, 105, 9, 1, 171, 7047) :: (26, 10, 11, 0, 0, 0) :: (2, 0, 0, 0, 0, 0) :: (1, 2, 0, 0, 0, 0) :: (50, 106, 9, 2, 175, 7050) :: (27, 12, 5, 0, 0, 0) :: bl_222_10
-- 223 X9_payFines
def bl_223_92 : List (Nat × Nat × Int × Nat × Nat × Nat) := (2, 0, 0, 0, 0, 0) :: (1, 1, 0, 0, 0, 0) :: (50, 113, 9, 2, 225, 7140) :: (55, 0, 0, 0, 0, 0) :: []
def bl_223_84 : List (Nat × Nat × Int × Nat × Nat × Nat) := (2, 0, 0, 0, 0, 0) :: (1, 1, 0, 0, 0, 0) :: (0, 0, 4, 0, 0, 0) :: (50, 46, 9, 3, 161, 7054) :: (27, 92, 8, 0, 0, 0) :: (2, 0, 0, 0, 0, 0) :: (1, 1, 0, 0, 0, 0) :: (50, 116, 9, 2, 222, 7136) :: bl_223_92
def bl_223_29 : List (Nat × Nat × Int × Nat × Nat × Nat) := (2, 0, 0, 0, 0, 0) :: (1, 1, 0, 0, 0, 0) :: (0, 0, 3, 0, 0, 0) :: (2, 0, 0, 0, 0, 0) :: (1, 1, 0, 0, 0, 0) :: (0, 0, 3, 0, 0, 0) :: (50, 46, 9, 3, 161, 7054) :: (1, 2, 0, 0, 0, 0) :: (6, 0, 0, 0, 0, 0) :: (50, 48, 9, 4, 185, 7070) :: (2, 0, 0, 0, 0, 0) :: (0, 1, 6, 0, 0, 0) :: (1, 1, 0, 0, 0, 0) :: (1, 2, 0, 0, 0, 0) :: (50, 44, 9, 4, 189, 7074) :: (2, 0, 0, 0, 0, 0) :: (1, 1, 0, 0, 0, 0) :: (50, 174, 9, 2, 218, 7132) :: (2, 0, 0, 0, 0, 0) :: (1, 1, 0, 0, 0, 0) :: (50, 111, 9, 2, 214, 7128) :: (29, 92, 67, 0, 0, 0) :: (2, 0, 0, 0, 0, 0) :: (1, 1, 0, 0, 0, 0) :: (0, 0, 4, 0, 0, 0) :: (50, 46, 9, 3, 161, 7054) :: (3, 3, 0, 0, 0, 0) :: (1, 3, 0, 0, 0, 0) :: (31, 84, 42, 0, 0, 0) :: (2, 0, 0, 0, 0, 0) :: (1, 1, 0, 0, 0, 0) :: (0, 0, 3, 0, 0, 0) :: (50, 46, 9, 3, 161, 7054) :: (1, 3, 0, 0, 0, 0) :: (22, 84, 32, 0, 0, 0) :: (2, 0, 0, 0, 0, 0) :: (1, 1, 0, 0, 0, 0) :: (0, 0, 3, 0, 0, 0) :: (2, 0, 0, 0, 0, 0) :: (1, 1, 0, 0, 0, 0) :: (0, 0, 3, 0, 0, 0) :: (50, 46, 9, 3, 161, 7054) :: (1, 3, 0, 0, 0, 0) :: (7, 0, 0, 0, 0, 0) :: (50, 48, 9, 4, 185, 7070) :: (2, 0, 0, 0, 0, 0) :: (1, 1, 0, 0, 0, 0) :: (0, 0, 4, 0, 0, 0) :: (0, 0, 0, 0, 0, 0) :: (50, 48, 9, 4, 185, 7070) :: (2, 0, 0, 0, 0, 0) :: (0, 1, 8, 0, 0, 0) :: (1, 1, 0, 0, 0, 0) :: (1, 3, 0, 0, 0, 0) :: (50, 44, 9, 4, 189, 7074) :: bl_223_84
def bl_223_24 : List (Nat × Nat × Int × Nat × Nat × Nat) := (2, 0, 0, 0, 0, 0) :: (50, 41, 9, 1, 182, 7066) :: (26, 29, 6, 0, 0, 0) :: (0, 1, (-4), 0, 0, 0) :: (55, 0, 0, 0, 0, 0) :: bl_223_29
def bl_223_13 : List (Nat × Nat × Int × Nat × Nat × Nat) := (2, 0, 0, 0, 0, 0) :: (1, 1, 0, 0, 0, 0) :: (50, 111, 9, 2, 214, 7128) :: (29, 24, 15, 0, 0, 0) :: (2, 0, 0, 0, 0, 0) :: (1, 1, 0, 0, 0, 0) :: (0, 0, 4, 0, 0, 0) :: (50, 46, 9, 3, 161, 7054) :: (27, 24, 6, 0, 0, 0) :: (0, 1, (-3), 0, 0, 0) :: (55, 0, 0, 0, 0, 0) :: bl_223_24
def bl_223_11 : List (Nat × Nat × Int × Nat × Nat × Nat) := (0, 0, (-1), 0, 0, 0) :: (55, 0, 0, 0, 0, 0) :: bl_223_13
def bl_223_0 : List (Nat × Nat × Int × Nat × Nat × Nat) := (2, 0, 0, 0, 0, 0) :: (0, 0, 0, 0, 0, 0) :: (38, 4, 0, 9, 59, 6118) :: (1, 1, 0, 0, 0, 0) :: (49, 105, 9, 1, 171, 7047) :: (26, 11, 13, 0, 0, 0) :: (1, 2, 0, 0, 0, 0) :: (0, 0, 1, 0, 0, 0) :: (0, 3, 99999, 0, 217, 7127) :: (49, 40, 9, 3, 70, 6204) :: (27, 13, 5, 0, 0, 0) :: bl_223_11
-- 224 X9_place
def bl_224_0 : List (Nat × Nat × Int × Nat × Nat × Nat) := (2, 0, 0, 0, 0, 0) :: (0, 0, 0, 0, 0, 0) :: (2, 0, 0, 0, 0, 0) :: (37, 1, 0, 9, 13, 6115) :: (0, 0, 0, 0, 0, 0) :: (40, 0, 0, 0, 0, 0) :: (0, 0, 1, 0, 0, 0) :: (7, 0, 0, 0, 0, 0) :: (50, 169, 9, 3, 108, 6234) :: (55, 0, 0, 0, 0, 0) :: []
-- 225 X9_placeOf
def bl_225_0 : List (Nat × Nat × Int × Nat × Nat × Nat) := (2, 0, 0, 0, 0, 0) :: (1, 1, 0, 0, 0, 0) :: (0, 0, 1, 0, 0, 0) :: (0, 0, 1, 0, 0, 0) :: (0, 0, 3, 0, 0, 0) :: (50, 152, 9, 5, 258, 7239) :: (55, 0, 0, 0, 0, 0) :: []
-- 226 X9_rate
def bl_226_43 : List (Nat × Nat × Int × Nat × Nat × Nat) := (57, 0, 0, 0, 0, 0) :: []
def bl_226_24 : List (Nat × Nat × Int × Nat × Nat × Nat) := (1, 5, 0, 0, 1, 0) :: (1, 3, 0, 0, 0, 0) :: (23, 43, 34, 0, 0, 0) :: (2, 0, 0, 0, 0, 0) :: (36, 9, 0, 9, 87, 6123) :: (27, 43, 27, 0, 0, 0) :: (2, 0, 0, 0, 0, 0) :: (37, 1, 0, 9, 13, 6115) :: (0, 2, 233, 0, 0, 0) :: (0, 1, 24, 0, 0, 0) :: (1, 1, 0, 0, 0, 0) :: (8, 0, 0, 0, 0, 0) :: (6, 0, 0, 0, 0, 0) :: (1, 5, 0, 0, 1, 0) :: (6, 0, 0, 0, 0, 0) :: (1, 4, 0, 0, 1, 0) :: (41, 0, 0, 0, 0, 0) :: (5, 5, 1, 0, 0, 0) :: (32, 24, (-34), 0, 0, 0) :: bl_226_43
def bl_226_0 : List (Nat × Nat × Int × Nat × Nat × Nat) := (2, 0, 0, 0, 0, 0) :: (0, 0, 0, 0, 0, 0) :: (0, 0, 3, 0, 0, 0) :: (50, 169, 9, 3, 108, 6234) :: (3, 1, 0, 0, 0, 0) :: (2, 0, 0, 0, 0, 0) :: (0, 0, 0, 0, 0, 0) :: (0, 1, 23, 0, 0, 0) :: (50, 169, 9, 3, 108, 6234) :: (3, 2, 0, 0, 0, 0) :: (2, 0, 0, 0, 0, 0) :: (1, 2, 0, 0, 0, 0) :: (0, 0, 1, 0, 0, 0) :: (6, 0, 0, 0, 0, 0) :: (0, 1, 24, 0, 0, 0) :: (50, 169, 9, 3, 108, 6234) :: (3, 3, 0, 0, 0, 0) :: (2, 0, 0, 0, 0, 0) :: (0, 0, 0, 0, 0, 0) :: (0, 2, 999, 0, 0, 0) :: (50, 169, 9, 3, 108, 6234) :: (3, 4, 0, 0, 1, 0) :: (1, 2, 0, 0, 0, 0) :: (3, 5, 0, 0, 1, 0) :: bl_226_24
-- 227 X9_row
def bl_227_20 : List (Nat × Nat × Int × Nat × Nat × Nat) := (57, 0, 0, 0, 0, 0) :: []
def bl_227_0 : List (Nat × Nat × Int × Nat × Nat × Nat) := (2, 0, 0, 0, 0, 0) :: (0, 0, 0, 0, 0, 0) :: (1, 2, 0, 0, 0, 0) :: (50, 169, 9, 3, 108, 6234) :: (3, 5, 0, 0, 1, 0) :: (2, 0, 0, 0, 0, 0) :: (1, 3, 0, 0, 0, 0) :: (1, 4, 0, 0, 1, 0) :: (50, 169, 9, 3, 108, 6234) :: (3, 6, 0, 0, 1, 0) :: (2, 0, 0, 0, 0, 0) :: (36, 9, 0, 9, 87, 6123) :: (27, 20, 14, 0, 0, 0) :: (2, 0, 0, 0, 0, 0) :: (37, 1, 0, 9, 13, 6115) :: (1, 1, 0, 0, 0, 0) :: (1, 5, 0, 0, 1, 0) :: (6, 0, 0, 0, 0, 0) :: (1, 6, 0, 0, 1, 0) :: (41, 0, 0, 0, 0, 0) :: bl_227_20
-- 228 X9_ticketAmount
def bl_228_0 : List (Nat × Nat × Int × Nat × Nat × Nat) := (2, 0, 0, 0, 0, 0) :: (1, 1, 0, 0, 0, 0) :: (1, 2, 0, 0, 0, 0) :: (0, 0, 3, 0, 0, 0) :: (50, 170, 9, 4, 262, 8023) :: (55, 0, 0, 0, 0, 0) :: []
-- 229 X9_ticketMinute
def bl_229_0 : List (Nat × Nat × Int × Nat × Nat × Nat) := (2, 0, 0, 0, 0, 0) :: (1, 1, 0, 0, 0, 0) :: (1, 2, 0, 0, 0, 0) :: (0, 0, 0, 0, 0, 0) :: (50, 170, 9, 4, 262, 8023) :: (55, 0, 0, 0, 0, 0) :: []
-- 230 X9_ticketNow
def bl_230_11 : List (Nat × Nat × Int × Nat × Nat × Nat) := (55, 0, 0, 0, 0, 0) :: []
def bl_230_10 : List (Nat × Nat × Int × Nat × Nat × Nat) := (0, 0, (-1), 0, 0, 0) :: bl_230_11
def bl_230_0 : List (Nat × Nat × Int × Nat × Nat × Nat) := (2, 0, 0, 0, 0, 0) :: (0, 0, 0, 0, 0, 0) :: (38, 4, 0, 9, 59, 6118) :: (1, 1, 0, 0, 0, 0) :: (49, 105, 9, 1, 171, 7047) :: (26, 10, 11, 0, 0, 0) :: (2, 0, 0, 0, 0, 0) :: (1, 1, 0, 0, 0, 0) :: (50, 157, 9, 2, 211, 7103) :: (32, 11, 4, 0, 0, 0) :: bl_230_10
-- 231 X9_trips_4
def bl_231_137 : List (Nat × Nat × Int × Nat × Nat × Nat) := (57, 0, 0, 0, 0, 0) :: []
def bl_231_135 : List (Nat × Nat × Int × Nat × Nat × Nat) := (5, 5, 1, 0, 0, 0) :: (32, 43, (-159), 0, 0, 0) :: bl_231_137
def bl_231_133 : List (Nat × Nat × Int × Nat × Nat × Nat) := (5, 7, 1, 0, 0, 0) :: (32, 54, (-132), 0, 0, 0) :: bl_231_135
def bl_231_93 : List (Nat × Nat × Int × Nat × Nat × Nat) := (2, 0, 0, 0, 0, 0) :: (37, 17, 0, 9, 42, 6131) :: (1, 7, 0, 0, 1, 0) :: (69, 0, 0, 0, 0, 0) :: (40, 0, 0, 0, 0, 0) :: (0, 0, 1, 0, 0, 0) :: (7, 0, 0, 0, 0, 0) :: (41, 0, 0, 0, 0, 0) :: (2, 0, 0, 0, 0, 0) :: (37, 13, 0, 9, 30, 6127) :: (1, 1, 0, 0, 0, 0) :: (1, 6, 0, 0, 1, 0) :: (41, 0, 0, 0, 0, 0) :: (2, 0, 0, 0, 0, 0) :: (37, 14, 0, 9, 33, 6128) :: (1, 1, 0, 0, 0, 0) :: (1, 7, 0, 0, 1, 0) :: (41, 0, 0, 0, 0, 0) :: (2, 0, 0, 0, 0, 0) :: (1, 1, 0, 0, 0, 0) :: (0, 0, 1, 0, 0, 0) :: (6, 0, 0, 0, 0, 0) :: (1, 7, 0, 0, 1, 0) :: (1, 3, 0, 0, 0, 0) :: (0, 0, 1, 0, 0, 0) :: (1, 5, 0, 0, 1, 0) :: (14, 0, 0, 0, 0, 0) :: (12, 0, 0, 0, 0, 0) :: (1, 4, 0, 0, 1, 0) :: (1, 8, 0, 0, 1, 0) :: (6, 0, 0, 0, 0, 0) :: (50, 184, 9, 5, 246, 7164) :: (2, 0, 0, 0, 0, 0) :: (37, 17, 0, 9, 42, 6131) :: (1, 7, 0, 0, 1, 0) :: (69, 0, 0, 0, 0, 0) :: (40, 0, 0, 0, 0, 0) :: (0, 0, 1, 0, 0, 0) :: (6, 0, 0, 0, 0, 0) :: (41, 0, 0, 0, 0, 0) :: bl_231_133
def bl_231_54 : List (Nat × Nat × Int × Nat × Nat × Nat) := (1, 7, 0, 0, 1, 0) :: (2, 0, 0, 0, 0, 0) :: (37, 0, 0, 9, 9, 6114) :: (0, 0, 0, 0, 0, 0) :: (40, 0, 0, 0, 0, 0) :: (23, 135, 127, 0, 0, 0) :: (1, 3, 0, 0, 0, 0) :: (1, 5, 0, 0, 1, 0) :: (15, 0, 0, 0, 0, 0) :: (0, 0, 1, 0, 0, 0) :: (11, 0, 0, 0, 0, 0) :: (27, 135, 118, 0, 0, 0) :: (2, 0, 0, 0, 0, 0) :: (1, 2, 0, 0, 0, 0) :: (2, 0, 0, 0, 0, 0) :: (1, 6, 0, 0, 1, 0) :: (0, 0, 1, 0, 0, 0) :: (50, 46, 9, 3, 161, 7054) :: (50, 51, 9, 3, 249, 7168) :: (0, 1, 10, 0, 0, 0) :: (6, 0, 0, 0, 0, 0) :: (2, 0, 0, 0, 0, 0) :: (2, 0, 0, 0, 0, 0) :: (1, 6, 0, 0, 1, 0) :: (0, 0, 1, 0, 0, 0) :: (50, 46, 9, 3, 161, 7054) :: (1, 7, 0, 0, 1, 0) :: (50, 51, 9, 3, 249, 7168) :: (6, 0, 0, 0, 0, 0) :: (3, 8, 0, 0, 1, 0) :: (2, 0, 0, 0, 0, 0) :: (37, 17, 0, 9, 42, 6131) :: (1, 7, 0, 0, 1, 0) :: (40, 0, 0, 0, 0, 0) :: (26, 133, 71, 0, 0, 0) :: (1, 8, 0, 0, 1, 0) :: (0, 3, 1000000, 0, 63, 6109) :: (22, 93, 6, 0, 0, 0) :: (32, 133, 61, 0, 0, 0) :: bl_231_93
def bl_231_43 : List (Nat × Nat × Int × Nat × Nat × Nat) := (1, 5, 0, 0, 1, 0) :: (2, 0, 0, 0, 0, 0) :: (36, 18, 0, 9, 231, 6132) :: (23, 137, 156, 0, 0, 0) :: (2, 0, 0, 0, 0, 0) :: (37, 12, 0, 9, 27, 6126) :: (1, 5, 0, 0, 1, 0) :: (40, 0, 0, 0, 0, 0) :: (3, 6, 0, 0, 1, 0) :: (0, 0, 0, 0, 0, 0) :: (3, 7, 0, 0, 1, 0) :: bl_231_54
def bl_231_41 : List (Nat × Nat × Int × Nat × Nat × Nat) := (0, 0, 0, 0, 0, 0) :: (3, 5, 0, 0, 1, 0) :: bl_231_43
def bl_231_20 : List (Nat × Nat × Int × Nat × Nat × Nat) := (1, 5, 0, 0, 1, 0) :: (1, 1, 0, 0, 0, 0) :: (23, 41, 37, 0, 0, 0) :: (2, 0, 0, 0, 0, 0) :: (37, 15, 0, 9, 36, 6129) :: (1, 5, 0, 0, 1, 0) :: (2, 0, 0, 0, 0, 0) :: (37, 13, 0, 9, 30, 6127) :: (1, 5, 0, 0, 1, 0) :: (40, 0, 0, 0, 0, 0) :: (41, 0, 0, 0, 0, 0) :: (2, 0, 0, 0, 0, 0) :: (37, 16, 0, 9, 39, 6130) :: (1, 5, 0, 0, 1, 0) :: (2, 0, 0, 0, 0, 0) :: (37, 14, 0, 9, 33, 6128) :: (1, 5, 0, 0, 1, 0) :: (40, 0, 0, 0, 0, 0) :: (41, 0, 0, 0, 0, 0) :: (5, 5, 1, 0, 0, 0) :: (32, 20, (-37), 0, 0, 0) :: bl_231_41
def bl_231_12 : List (Nat × Nat × Int × Nat × Nat × Nat) := (2, 0, 0, 0, 0, 0) :: (1, 1, 0, 0, 0, 0) :: (38, 19, 0, 9, 240, 6133) :: (2, 0, 0, 0, 0, 0) :: (1, 4, 0, 0, 1, 0) :: (38, 20, 0, 9, 243, 6134) :: (0, 0, 0, 0, 0, 0) :: (3, 5, 0, 0, 1, 0) :: bl_231_20
def bl_231_0 : List (Nat × Nat × Int × Nat × Nat × Nat) := (1, 1, 0, 0, 0, 0) :: (2, 0, 0, 0, 0, 0) :: (36, 19, 0, 9, 240, 6133) :: (24, 12, 20, 0, 0, 0) :: (1, 1, 0, 0, 0, 0) :: (2, 0, 0, 0, 0, 0) :: (36, 19, 0, 9, 240, 6133) :: (21, 41, 66, 0, 0, 0) :: (1, 4, 0, 0, 1, 0) :: (2, 0, 0, 0, 0, 0) :: (36, 20, 0, 9, 243, 6134) :: (23, 41, 57, 0, 0, 0) :: bl_231_12
-- 232 X9_valueOf
def bl_232_22 : List (Nat × Nat × Int × Nat × Nat × Nat) := (1, 2, 0, 0, 0, 0) :: (55, 0, 0, 0, 0, 0) :: []
def bl_232_18 : List (Nat × Nat × Int × Nat × Nat × Nat) := (6, 0, 0, 0, 0, 0) :: (3, 2, 0, 0, 0, 0) :: (5, 3, 1, 0, 0, 0) :: (32, 4, (-30), 0, 0, 0) :: bl_232_22
def bl_232_17 : List (Nat × Nat × Int × Nat × Nat × Nat) := (0, 0, 0, 0, 0, 0) :: bl_232_18
def bl_232_4 : List (Nat × Nat × Int × Nat × Nat × Nat) := (1, 3, 0, 0, 0, 0) :: (0, 1, 16, 0, 0, 0) :: (23, 22, 30, 0, 0, 0) :: (1, 2, 0, 0, 0, 0) :: (2, 0, 0, 0, 0, 0) :: (1, 3, 0, 0, 0, 0) :: (1, 1, 0, 0, 0, 0) :: (50, 104, 9, 3, 167, 7062) :: (26, 17, 11, 0, 0, 0) :: (2, 0, 0, 0, 0, 0) :: (1, 3, 0, 0, 0, 0) :: (50, 157, 9, 2, 211, 7103) :: (32, 18, 4, 0, 0, 0) :: bl_232_17
def bl_232_0 : List (Nat × Nat × Int × Nat × Nat × Nat) := (0, 0, 0, 0, 0, 0) :: (3, 2, 0, 0, 0, 0) :: (0, 0, 0, 0, 0, 0) :: (3, 3, 0, 0, 0, 0) :: bl_232_4
-- 233 X3_takeBestTrips
def bl_233_73 : List (Nat × Nat × Int × Nat × Nat × Nat) := (57, 0, 0, 0, 0, 0) :: []
def bl_233_61 : List (Nat × Nat × Int × Nat × Nat × Nat) := (6, 0, 0, 0, 0, 0) :: (3, 3, 0, 0, 0, 0) :: (1, 8, 0, 0, 1, 0) :: (3, 4, 0, 0, 1, 0) :: (2, 0, 0, 0, 0, 0) :: (1, 2, 0, 0, 0, 0) :: (1, 3, 0, 0, 0, 0) :: (1, 4, 0, 0, 1, 0) :: (50, 188, 3, 4, 154, 4108) :: (3, 5, 0, 0, 1, 0) :: (5, 6, 1, 0, 0, 0) :: (32, 29, (-74), 0, 0, 0) :: bl_233_73
def bl_233_60 : List (Nat × Nat × Int × Nat × Nat × Nat) := (0, 0, 0, 0, 0, 0) :: bl_233_61
def bl_233_29 : List (Nat × Nat × Int × Nat × Nat × Nat) := (1, 6, 0, 0, 1, 0) :: (2, 0, 0, 0, 0, 0) :: (36, 9, 0, 3, 78, 2079) :: (23, 73, 71, 0, 0, 0) :: (1, 5, 0, 0, 1, 0) :: (0, 0, (-1), 0, 0, 0) :: (20, 73, 65, 0, 0, 0) :: (1, 5, 0, 0, 1, 0) :: (0, 0, 2, 0, 0, 0) :: (9, 0, 0, 0, 0, 0) :: (3, 7, 0, 0, 1, 0) :: (1, 5, 0, 0, 1, 0) :: (0, 0, 2, 0, 0, 0) :: (10, 0, 0, 0, 0, 0) :: (3, 8, 0, 0, 1, 0) :: (2, 0, 0, 0, 0, 0) :: (1, 4, 0, 0, 1, 0) :: (1, 7, 0, 0, 1, 0) :: (1, 8, 0, 0, 1, 0) :: (50, 64, 3, 4, 157, 4112) :: (1, 2, 0, 0, 0, 0) :: (0, 0, 1, 0, 0, 0) :: (1, 7, 0, 0, 1, 0) :: (14, 0, 0, 0, 0, 0) :: (12, 0, 0, 0, 0, 0) :: (3, 2, 0, 0, 0, 0) :: (1, 3, 0, 0, 0, 0) :: (1, 8, 0, 0, 1, 0) :: (27, 60, 7, 0, 0, 0) :: (0, 0, 1, 0, 0, 0) :: (32, 61, 4, 0, 0, 0) :: bl_233_60
def bl_233_20 : List (Nat × Nat × Int × Nat × Nat × Nat) := (3, 4, 0, 0, 1, 0) :: (2, 0, 0, 0, 0, 0) :: (1, 2, 0, 0, 0, 0) :: (1, 3, 0, 0, 0, 0) :: (1, 4, 0, 0, 1, 0) :: (50, 188, 3, 4, 154, 4108) :: (3, 5, 0, 0, 1, 0) :: (0, 0, 0, 0, 0, 0) :: (3, 6, 0, 0, 1, 0) :: bl_233_29
def bl_233_19 : List (Nat × Nat × Int × Nat × Nat × Nat) := (0, 0, 0, 0, 0, 0) :: bl_233_20
def bl_233_0 : List (Nat × Nat × Int × Nat × Nat × Nat) := (2, 0, 0, 0, 0, 0) :: (0, 0, 0, 0, 0, 0) :: (38, 11, 0, 3, 67, 2081) :: (0, 0, 0, 0, 0, 0) :: (3, 2, 0, 0, 0, 0) :: (0, 0, 0, 0, 0, 0) :: (3, 3, 0, 0, 0, 0) :: (2, 0, 0, 0, 0, 0) :: (36, 10, 0, 3, 108, 2080) :: (0, 0, 2, 0, 0, 0) :: (21, 19, 19, 0, 0, 0) :: (2, 0, 0, 0, 0, 0) :: (37, 2, 0, 3, 18, 2069) :: (0, 0, 1, 0, 0, 0) :: (52, 23, 8, 2, 70, 19) :: (1, 1, 0, 0, 0, 0) :: (21, 19, 7, 0, 0, 0) :: (0, 0, 1, 0, 0, 0) :: (32, 20, 4, 0, 0, 0) :: bl_233_19
-- 234 X4_init
def bl_234_42 : List (Nat × Nat × Int × Nat × Nat × Nat) := (2, 0, 0, 0, 0, 0) :: (50, 190, 4, 1, 34, 1064) :: (57, 0, 0, 0, 0, 0) :: []
def bl_234_28 : List (Nat × Nat × Int × Nat × Nat × Nat) := (1, 1, 0, 0, 0, 0) :: (2, 0, 0, 0, 0, 0) :: (37, 8, 0, 4, 29, 1120) :: (48, 0, 0, 0, 0, 0) :: (23, 42, 22, 0, 0, 0) :: (2, 0, 0, 0, 0, 0) :: (37, 8, 0, 4, 29, 1120) :: (1, 1, 0, 0, 0, 0) :: (58, 7, 0, 0, 27, 1045) :: (18, 0, 0, 0, 0, 0) :: (54, 81, 7, 1, 33, 1) :: (47, 0, 0, 0, 0, 0) :: (5, 1, 1, 0, 0, 0) :: (32, 28, (-25), 0, 0, 0) :: bl_234_42
def bl_234_0 : List (Nat × Nat × Int × Nat × Nat × Nat) := (2, 0, 0, 0, 0, 0) :: (63, 0, 0, 0, 3, 1044) :: (2, 0, 0, 0, 0, 0) :: (0, 1, 10, 0, 0, 0) :: (59, 0, 0, 0, 0, 0) :: (39, 3, 0, 4, 9, 1109) :: (2, 0, 0, 0, 0, 0) :: (0, 1, 10, 0, 0, 0) :: (59, 0, 0, 0, 0, 0) :: (39, 4, 0, 4, 15, 1113) :: (2, 0, 0, 0, 0, 0) :: (0, 1, 10, 0, 0, 0) :: (59, 0, 0, 0, 0, 0) :: (39, 5, 0, 4, 18, 1116) :: (2, 0, 0, 0, 0, 0) :: (0, 1, 100, 0, 0, 0) :: (59, 0, 0, 0, 0, 0) :: (39, 6, 0, 4, 21, 1118) :: (2, 0, 0, 0, 0, 0) :: (0, 1, 100, 0, 0, 0) :: (59, 0, 0, 0, 0, 0) :: (39, 7, 0, 4, 24, 1119) :: (2, 0, 0, 0, 0, 0) :: (0, 0, 4, 0, 0, 0) :: (62, 103, 0, 0, 27, 1045) :: (39, 8, 0, 4, 29, 1120) :: (0, 0, 0, 0, 0, 0) :: (3, 1, 0, 0, 0, 0) :: bl_234_28
-- 235 X5_isWordRead
def bl_235_31 : List (Nat × Nat × Int × Nat × Nat × Nat) := (0, 0, 1, 0, 0, 0) :: (55, 1, 0, 0, 0, 0) :: []
def bl_235_29 : List (Nat × Nat × Int × Nat × Nat × Nat) := (5, 2, 1, 0, 0, 0) :: (32, 12, (-34), 0, 0, 0) :: bl_235_31
def bl_235_12 : List (Nat × Nat × Int × Nat × Nat × Nat) := (1, 2, 0, 0, 0, 0) :: (2, 1, 0, 0, 0, 0) :: (50, 53, 90, 1, 168, 2212) :: (23, 31, 32, 0, 0, 0) :: (2, 0, 0, 0, 0, 0) :: (37, 1, 0, 5, 18, 1142) :: (2, 0, 0, 0, 0, 0) :: (36, 5, 0, 5, 61, 1146) :: (1, 2, 0, 0, 0, 0) :: (6, 0, 0, 0, 0, 0) :: (52, 23, 8, 2, 172, 10) :: (2, 1, 0, 0, 0, 0) :: (1, 2, 0, 0, 0, 0) :: (50, 186, 90, 2, 176, 2223) :: (20, 29, 5, 0, 0, 0) :: (0, 0, 0, 0, 0, 0) :: (55, 1, 0, 0, 0, 0) :: bl_235_29
def bl_235_10 : List (Nat × Nat × Int × Nat × Nat × Nat) := (0, 0, 0, 0, 0, 0) :: (3, 2, 0, 0, 0, 0) :: bl_235_12
def bl_235_0 : List (Nat × Nat × Int × Nat × Nat × Nat) := (2, 0, 0, 0, 0, 0) :: (36, 3, 0, 5, 33, 1144) :: (2, 0, 0, 0, 0, 0) :: (36, 5, 0, 5, 61, 1146) :: (7, 0, 0, 0, 0, 0) :: (2, 1, 0, 0, 0, 0) :: (50, 53, 90, 1, 168, 2212) :: (20, 10, 5, 0, 0, 0) :: (0, 0, 0, 0, 0, 0) :: (55, 1, 0, 0, 0, 0) :: bl_235_10
-- 236 X5_readPound
def bl_236_31 : List (Nat × Nat × Int × Nat × Nat × Nat) := (57, 0, 0, 0, 0, 0) :: []
def bl_236_18 : List (Nat × Nat × Int × Nat × Nat × Nat) := (2, 0, 0, 0, 0, 0) :: (0, 0, 1, 0, 0, 0) :: (0, 1, 6, 0, 0, 0) :: (50, 137, 5, 3, 68, 3025) :: (3, 2, 0, 0, 0, 0) :: (2, 0, 0, 0, 0, 0) :: (36, 6, 0, 5, 36, 1148) :: (27, 31, 12, 0, 0, 0) :: (2, 0, 0, 0, 0, 0) :: (37, 0, 0, 5, 12, 1140) :: (1, 1, 0, 0, 0, 0) :: (1, 2, 0, 0, 0, 0) :: (50, 136, 4, 3, 131, 3088) :: bl_236_31
def bl_236_0 : List (Nat × Nat × Int × Nat × Nat × Nat) := (2, 0, 0, 0, 0, 0) :: (50, 192, 5, 1, 96, 3046) :: (3, 1, 0, 0, 0, 0) :: (2, 0, 0, 0, 0, 0) :: (37, 0, 0, 5, 12, 1140) :: (1, 1, 0, 0, 0, 0) :: (50, 70, 4, 2, 124, 3084) :: (27, 18, 23, 0, 0, 0) :: (2, 0, 0, 0, 0, 0) :: (37, 0, 0, 5, 12, 1140) :: (36, 1, 0, 4, 128, 1106) :: (0, 0, 2, 0, 0, 0) :: (22, 18, 12, 0, 0, 0) :: (2, 0, 0, 0, 0, 0) :: (0, 0, 3, 0, 0, 0) :: (2, 0, 0, 0, 0, 0) :: (36, 4, 0, 5, 99, 1145) :: (50, 17, 5, 3, 64, 3021) :: bl_236_18
-- 237 X5_readRoad
def bl_237_28 : List (Nat × Nat × Int × Nat × Nat × Nat) := (57, 0, 0, 0, 0, 0) :: []
def bl_237_14 : List (Nat × Nat × Int × Nat × Nat × Nat) := (2, 0, 0, 0, 0, 0) :: (0, 0, 1, 0, 0, 0) :: (0, 1, 99, 0, 0, 0) :: (50, 137, 5, 3, 68, 3025) :: (3, 3, 0, 0, 0, 0) :: (2, 0, 0, 0, 0, 0) :: (36, 6, 0, 5, 36, 1148) :: (27, 28, 13, 0, 0, 0) :: (2, 0, 0, 0, 0, 0) :: (37, 0, 0, 5, 12, 1140) :: (1, 1, 0, 0, 0, 0) :: (1, 2, 0, 0, 0, 0) :: (1, 3, 0, 0, 0, 0) :: (50, 69, 4, 4, 102, 3050) :: bl_237_28
def bl_237_0 : List (Nat × Nat × Int × Nat × Nat × Nat) := (2, 0, 0, 0, 0, 0) :: (50, 192, 5, 1, 96, 3046) :: (3, 1, 0, 0, 0, 0) :: (2, 0, 0, 0, 0, 0) :: (50, 192, 5, 1, 96, 3046) :: (3, 2, 0, 0, 0, 0) :: (1, 1, 0, 0, 0, 0) :: (1, 2, 0, 0, 0, 0) :: (21, 14, 12, 0, 0, 0) :: (2, 0, 0, 0, 0, 0) :: (0, 0, 3, 0, 0, 0) :: (2, 0, 0, 0, 0, 0) :: (36, 4, 0, 5, 99, 1145) :: (50, 17, 5, 3, 64, 3021) :: bl_237_14
-- 238 X5_readSpaces
def bl_238_17 : List (Nat × Nat × Int × Nat × Nat × Nat) := (57, 0, 0, 0, 0, 0) :: []
def bl_238_0 : List (Nat × Nat × Int × Nat × Nat × Nat) := (2, 0, 0, 0, 0, 0) :: (50, 192, 5, 1, 96, 3046) :: (3, 1, 0, 0, 0, 0) :: (2, 0, 0, 0, 0, 0) :: (0, 0, 0, 0, 0, 0) :: (0, 1, 8, 0, 0, 0) :: (50, 137, 5, 3, 68, 3025) :: (3, 2, 0, 0, 0, 0) :: (2, 0, 0, 0, 0, 0) :: (36, 6, 0, 5, 36, 1148) :: (27, 17, 15, 0, 0, 0) :: (2, 0, 0, 0, 0, 0) :: (37, 0, 0, 5, 12, 1140) :: (37, 4, 0, 4, 121, 1115) :: (1, 1, 0, 0, 0, 0) :: (1, 2, 0, 0, 0, 0) :: (52, 31, 8, 3, 26, 8) :: bl_238_17
-- 239 X5_readZone
def bl_239_17 : List (Nat × Nat × Int × Nat × Nat × Nat) := (57, 0, 0, 0, 0, 0) :: []
def bl_239_0 : List (Nat × Nat × Int × Nat × Nat × Nat) := (2, 0, 0, 0, 0, 0) :: (50, 192, 5, 1, 96, 3046) :: (3, 1, 0, 0, 0, 0) :: (2, 0, 0, 0, 0, 0) :: (0, 0, 0, 0, 0, 0) :: (0, 0, 3, 0, 0, 0) :: (50, 137, 5, 3, 68, 3025) :: (3, 2, 0, 0, 0, 0) :: (2, 0, 0, 0, 0, 0) :: (36, 6, 0, 5, 36, 1148) :: (27, 17, 15, 0, 0, 0) :: (2, 0, 0, 0, 0, 0) :: (37, 0, 0, 5, 12, 1140) :: (37, 3, 0, 4, 106, 1111) :: (1, 1, 0, 0, 0, 0) :: (1, 2, 0, 0, 0, 0) :: (52, 31, 8, 3, 26, 8) :: bl_239_17
-- 240 X6_begin
def bl_240_23 : List (Nat × Nat × Int × Nat × Nat × Nat) := (2, 0, 0, 0, 0, 0) :: (37, 2, 0, 6, 27, 2041) :: (0, 0, 0, 0, 0, 0) :: (38, 0, 0, 1, 45, 1185) :: (2, 0, 0, 0, 0, 0) :: (0, 0, 0, 0, 0, 0) :: (38, 3, 0, 6, 48, 2043) :: (2, 0, 0, 0, 0, 0) :: (2, 0, 0, 0, 0, 0) :: (37, 0, 0, 6, 12, 2035) :: (36, 2, 0, 4, 51, 1108) :: (38, 4, 0, 6, 31, 2046) :: (57, 0, 0, 0, 0, 0) :: []
def bl_240_12 : List (Nat × Nat × Int × Nat × Nat × Nat) := (1, 4, 0, 0, 1, 0) :: (1, 3, 0, 0, 0, 0) :: (23, 23, 20, 0, 0, 0) :: (2, 2, 0, 0, 0, 0) :: (1, 4, 0, 0, 1, 0) :: (46, 0, 0, 0, 0, 0) :: (4, 5, 0, 0, 1, 0) :: (2, 5, 0, 0, 1, 0) :: (50, 6, 0, 1, 42, 3107) :: (5, 4, 1, 0, 0, 0) :: (32, 12, (-20), 0, 0, 0) :: bl_240_23
def bl_240_0 : List (Nat × Nat × Int × Nat × Nat × Nat) := (2, 0, 0, 0, 0, 0) :: (37, 0, 0, 6, 12, 2035) :: (2, 1, 0, 0, 0, 0) :: (50, 191, 4, 2, 38, 3098) :: (2, 0, 0, 0, 0, 0) :: (37, 1, 0, 6, 20, 2039) :: (4, 2, 0, 0, 0, 0) :: (2, 2, 0, 0, 0, 0) :: (48, 0, 0, 0, 0, 0) :: (3, 3, 0, 0, 0, 0) :: (0, 0, 0, 0, 0, 0) :: (3, 4, 0, 0, 1, 0) :: bl_240_12
-- 241 X6_copyFrom
def bl_241_23 : List (Nat × Nat × Int × Nat × Nat × Nat) := (2, 0, 0, 0, 0, 0) :: (37, 2, 0, 6, 27, 2041) :: (2, 1, 0, 0, 0, 0) :: (37, 2, 0, 6, 27, 2041) :: (50, 125, 1, 2, 57, 4139) :: (2, 0, 0, 0, 0, 0) :: (2, 1, 0, 0, 0, 0) :: (36, 3, 0, 6, 48, 2043) :: (38, 3, 0, 6, 48, 2043) :: (2, 0, 0, 0, 0, 0) :: (2, 1, 0, 0, 0, 0) :: (36, 4, 0, 6, 31, 2046) :: (38, 4, 0, 6, 31, 2046) :: (57, 0, 0, 0, 0, 0) :: []
def bl_241_7 : List (Nat × Nat × Int × Nat × Nat × Nat) := (1, 2, 0, 0, 0, 0) :: (2, 0, 0, 0, 0, 0) :: (37, 1, 0, 6, 20, 2039) :: (48, 0, 0, 0, 0, 0) :: (23, 23, 24, 0, 0, 0) :: (2, 0, 0, 0, 0, 0) :: (37, 1, 0, 6, 20, 2039) :: (1, 2, 0, 0, 0, 0) :: (46, 0, 0, 0, 0, 0) :: (2, 1, 0, 0, 0, 0) :: (37, 1, 0, 6, 20, 2039) :: (1, 2, 0, 0, 0, 0) :: (46, 0, 0, 0, 0, 0) :: (50, 7, 0, 2, 54, 4135) :: (5, 2, 1, 0, 0, 0) :: (32, 7, (-27), 0, 0, 0) :: bl_241_23
def bl_241_0 : List (Nat × Nat × Int × Nat × Nat × Nat) := (2, 0, 0, 0, 0, 0) :: (37, 0, 0, 6, 12, 2035) :: (2, 1, 0, 0, 0, 0) :: (37, 0, 0, 6, 12, 2035) :: (50, 191, 4, 2, 38, 3098) :: (0, 0, 0, 0, 0, 0) :: (3, 2, 0, 0, 0, 0) :: bl_241_7
-- 242 X6_countTickets
def bl_242_30 : List (Nat × Nat × Int × Nat × Nat × Nat) := (1, 3, 0, 0, 0, 0) :: (55, 0, 0, 0, 0, 0) :: []
def bl_242_28 : List (Nat × Nat × Int × Nat × Nat × Nat) := (5, 6, 1, 0, 0, 0) :: (32, 10, (-40), 0, 0, 0) :: bl_242_30
def bl_242_10 : List (Nat × Nat × Int × Nat × Nat × Nat) := (1, 6, 0, 0, 1, 0) :: (1, 5, 0, 0, 1, 0) :: (23, 30, 39, 0, 0, 0) :: (2, 4, 0, 0, 1, 0) :: (1, 6, 0, 0, 1, 0) :: (46, 0, 0, 0, 0, 0) :: (4, 7, 0, 0, 1, 0) :: (2, 7, 0, 0, 1, 0) :: (1, 1, 0, 0, 0, 0) :: (0, 0, 1, 0, 0, 0) :: (50, 9, 0, 3, 91, 3220) :: (26, 28, 16, 0, 0, 0) :: (2, 0, 0, 0, 0, 0) :: (2, 7, 0, 0, 1, 0) :: (1, 2, 0, 0, 0, 0) :: (50, 203, 6, 3, 131, 3221) :: (31, 28, 6, 0, 0, 0) :: (5, 3, 1, 0, 0, 0) :: bl_242_28
def bl_242_0 : List (Nat × Nat × Int × Nat × Nat × Nat) := (0, 0, 0, 0, 0, 0) :: (3, 3, 0, 0, 0, 0) :: (2, 0, 0, 0, 0, 0) :: (37, 1, 0, 6, 20, 2039) :: (4, 4, 0, 0, 1, 0) :: (2, 4, 0, 0, 1, 0) :: (48, 0, 0, 0, 0, 0) :: (3, 5, 0, 0, 1, 0) :: (0, 0, 0, 0, 0, 0) :: (3, 6, 0, 0, 1, 0) :: bl_242_10
-- 243 X6_takeMoney
def bl_243_23 : List (Nat × Nat × Int × Nat × Nat × Nat) := (57, 0, 0, 0, 0, 0) :: []
def bl_243_0 : List (Nat × Nat × Int × Nat × Nat × Nat) := (2, 1, 0, 0, 0, 0) :: (18, 0, 0, 0, 0, 0) :: (36, 10, 0, 0, 161, 2010) :: (1, 2, 0, 0, 0, 0) :: (6, 0, 0, 0, 0, 0) :: (38, 10, 0, 0, 161, 2010) :: (2, 0, 0, 0, 0, 0) :: (0, 1, 6, 0, 0, 0) :: (2, 1, 0, 0, 0, 0) :: (1, 2, 0, 0, 0, 0) :: (50, 140, 6, 4, 104, 3159) :: (2, 0, 0, 0, 0, 0) :: (2, 1, 0, 0, 0, 0) :: (50, 199, 6, 2, 164, 4016) :: (2, 0, 0, 0, 0, 0) :: (2, 1, 0, 0, 0, 0) :: (50, 198, 6, 2, 167, 4025) :: (2, 1, 0, 0, 0, 0) :: (50, 57, 0, 1, 170, 4029) :: (26, 23, 8, 0, 0, 0) :: (2, 0, 0, 0, 0, 0) :: (2, 1, 0, 0, 0, 0) :: (50, 201, 6, 2, 174, 4030) :: bl_243_23
-- 244 X6_ticketSum
def bl_244_31 : List (Nat × Nat × Int × Nat × Nat × Nat) := (1, 3, 0, 0, 0, 0) :: (55, 0, 0, 0, 0, 0) :: []
def bl_244_29 : List (Nat × Nat × Int × Nat × Nat × Nat) := (5, 6, 1, 0, 0, 0) :: (32, 10, (-37), 0, 0, 0) :: bl_244_31
def bl_244_10 : List (Nat × Nat × Int × Nat × Nat × Nat) := (1, 6, 0, 0, 1, 0) :: (1, 5, 0, 0, 1, 0) :: (23, 31, 36, 0, 0, 0) :: (2, 4, 0, 0, 1, 0) :: (1, 6, 0, 0, 1, 0) :: (46, 0, 0, 0, 0, 0) :: (4, 7, 0, 0, 1, 0) :: (2, 7, 0, 0, 1, 0) :: (1, 1, 0, 0, 0, 0) :: (0, 0, 1, 0, 0, 0) :: (50, 9, 0, 3, 91, 3220) :: (26, 29, 13, 0, 0, 0) :: (1, 3, 0, 0, 0, 0) :: (2, 0, 0, 0, 0, 0) :: (2, 7, 0, 0, 1, 0) :: (1, 2, 0, 0, 0, 0) :: (50, 203, 6, 3, 131, 3221) :: (6, 0, 0, 0, 0, 0) :: (3, 3, 0, 0, 0, 0) :: bl_244_29
def bl_244_0 : List (Nat × Nat × Int × Nat × Nat × Nat) := (0, 0, 0, 0, 0, 0) :: (3, 3, 0, 0, 0, 0) :: (2, 0, 0, 0, 0, 0) :: (37, 1, 0, 6, 20, 2039) :: (4, 4, 0, 0, 1, 0) :: (2, 4, 0, 0, 1, 0) :: (48, 0, 0, 0, 0, 0) :: (3, 5, 0, 0, 1, 0) :: (0, 0, 0, 0, 0, 0) :: (3, 6, 0, 0, 1, 0) :: bl_244_10
-- 245 X6_writeTickets
def bl_245_39 : List (Nat × Nat × Int × Nat × Nat × Nat) := (1, 2, 0, 0, 0, 0) :: (55, 0, 0, 0, 0, 0) :: []
def bl_245_37 : List (Nat × Nat × Int × Nat × Nat × Nat) := (5, 5, 1, 0, 0, 0) :: (32, 10, (-58), 0, 0, 0) :: bl_245_39
def bl_245_29 : List (Nat × Nat × Int × Nat × Nat × Nat) := (3, 7, 0, 0, 1, 0) :: (1, 7, 0, 0, 1, 0) :: (31, 37, 14, 0, 0, 0) :: (2, 0, 0, 0, 0, 0) :: (2, 6, 0, 0, 1, 0) :: (1, 7, 0, 0, 1, 0) :: (50, 204, 6, 3, 138, 3238) :: (5, 2, 1, 0, 0, 0) :: bl_245_37
def bl_245_28 : List (Nat × Nat × Int × Nat × Nat × Nat) := (0, 0, 0, 0, 0, 0) :: bl_245_29
def bl_245_10 : List (Nat × Nat × Int × Nat × Nat × Nat) := (1, 5, 0, 0, 1, 0) :: (1, 4, 0, 0, 1, 0) :: (23, 39, 57, 0, 0, 0) :: (2, 3, 0, 0, 0, 0) :: (1, 5, 0, 0, 1, 0) :: (46, 0, 0, 0, 0, 0) :: (4, 6, 0, 0, 1, 0) :: (2, 6, 0, 0, 1, 0) :: (1, 1, 0, 0, 0, 0) :: (0, 0, 1, 0, 0, 0) :: (50, 9, 0, 3, 91, 3220) :: (26, 28, 16, 0, 0, 0) :: (2, 0, 0, 0, 0, 0) :: (2, 6, 0, 0, 1, 0) :: (2, 0, 0, 0, 0, 0) :: (36, 3, 0, 6, 48, 2043) :: (50, 203, 6, 3, 131, 3221) :: (32, 29, 4, 0, 0, 0) :: bl_245_28
def bl_245_0 : List (Nat × Nat × Int × Nat × Nat × Nat) := (0, 0, 0, 0, 0, 0) :: (3, 2, 0, 0, 0, 0) :: (2, 0, 0, 0, 0, 0) :: (37, 1, 0, 6, 20, 2039) :: (4, 3, 0, 0, 0, 0) :: (2, 3, 0, 0, 0, 0) :: (48, 0, 0, 0, 0, 0) :: (3, 4, 0, 0, 1, 0) :: (0, 0, 0, 0, 0, 0) :: (3, 5, 0, 0, 1, 0) :: bl_245_10
-- 246 X8_cheapestStart
def bl_246_13 : List (Nat × Nat × Int × Nat × Nat × Nat) := (2, 0, 0, 0, 0, 0) :: (37, 1, 0, 8, 19, 2138) :: (37, 0, 0, 6, 75, 2038) :: (1, 1, 0, 0, 0, 0) :: (50, 72, 4, 2, 287, 5038) :: (2, 0, 0, 0, 0, 0) :: (37, 1, 0, 8, 19, 2138) :: (36, 3, 0, 6, 88, 2045) :: (1, 2, 0, 0, 0, 0) :: (50, 205, 7, 3, 296, 5050) :: (55, 0, 0, 0, 0, 0) :: []
def bl_246_11 : List (Nat × Nat × Int × Nat × Nat × Nat) := (0, 0, (-1), 0, 0, 0) :: (55, 0, 0, 0, 0, 0) :: bl_246_13
def bl_246_0 : List (Nat × Nat × Int × Nat × Nat × Nat) := (2, 0, 0, 0, 0, 0) :: (37, 1, 0, 8, 19, 2138) :: (37, 0, 0, 6, 75, 2038) :: (1, 1, 0, 0, 0, 0) :: (50, 15, 4, 2, 95, 3124) :: (26, 11, 14, 0, 0, 0) :: (1, 2, 0, 0, 0, 0) :: (0, 0, 1, 0, 0, 0) :: (0, 2, 600, 0, 0, 0) :: (49, 33, 8, 3, 45, 2160) :: (27, 13, 5, 0, 0, 0) :: bl_246_11
-- 247 X8_freeSpaces
def bl_247_12 : List (Nat × Nat × Int × Nat × Nat × Nat) := (55, 0, 0, 0, 0, 0) :: []
def bl_247_11 : List (Nat × Nat × Int × Nat × Nat × Nat) := (0, 0, (-1), 0, 0, 0) :: bl_247_12
def bl_247_0 : List (Nat × Nat × Int × Nat × Nat × Nat) := (2, 0, 0, 0, 0, 0) :: (37, 1, 0, 8, 19, 2138) :: (37, 0, 0, 6, 75, 2038) :: (1, 1, 0, 0, 0, 0) :: (50, 15, 4, 2, 95, 3124) :: (26, 11, 14, 0, 0, 0) :: (2, 0, 0, 0, 0, 0) :: (37, 1, 0, 8, 19, 2138) :: (1, 1, 0, 0, 0, 0) :: (50, 202, 6, 2, 104, 3128) :: (32, 12, 4, 0, 0, 0) :: bl_247_11
-- 248 X8_leave
def bl_248_22 : List (Nat × Nat × Int × Nat × Nat × Nat) := (2, 0, 0, 0, 0, 0) :: (37, 1, 0, 8, 19, 2138) :: (2, 2, 0, 0, 0, 0) :: (50, 197, 6, 2, 140, 3198) :: (3, 3, 0, 0, 0, 0) :: (2, 2, 0, 0, 0, 0) :: (0, 0, 0, 0, 0, 0) :: (38, 1, 0, 0, 99, 1223) :: (2, 0, 0, 0, 0, 0) :: (37, 1, 0, 8, 19, 2138) :: (0, 0, 3, 0, 0, 0) :: (2, 2, 0, 0, 0, 0) :: (1, 3, 0, 0, 0, 0) :: (50, 140, 6, 4, 136, 3193) :: (1, 3, 0, 0, 0, 0) :: (55, 0, 0, 0, 0, 0) :: []
def bl_248_15 : List (Nat × Nat × Int × Nat × Nat × Nat) := (2, 0, 0, 0, 0, 0) :: (37, 1, 0, 8, 19, 2138) :: (37, 2, 0, 6, 107, 2042) :: (50, 12, 1, 1, 111, 3151) :: (26, 22, 6, 0, 0, 0) :: (0, 1, (-4), 0, 0, 0) :: (55, 0, 0, 0, 0, 0) :: bl_248_22
def bl_248_9 : List (Nat × Nat × Int × Nat × Nat × Nat) := (2, 2, 0, 0, 0, 0) :: (36, 1, 0, 0, 99, 1223) :: (0, 0, 1, 0, 0, 0) :: (20, 15, 6, 0, 0, 0) :: (0, 1, (-2), 0, 0, 0) :: (55, 0, 0, 0, 0, 0) :: bl_248_15
def bl_248_0 : List (Nat × Nat × Int × Nat × Nat × Nat) := (2, 0, 0, 0, 0, 0) :: (37, 1, 0, 8, 19, 2138) :: (1, 1, 0, 0, 0, 0) :: (50, 22, 6, 2, 91, 3120) :: (4, 2, 0, 0, 0, 0) :: (2, 2, 0, 0, 0, 0) :: (34, 9, 5, 0, 0, 0) :: (0, 0, (-1), 0, 0, 0) :: (55, 0, 0, 0, 0, 0) :: bl_248_9
-- 249 X8_minutesFor
def bl_249_13 : List (Nat × Nat × Int × Nat × Nat × Nat) := (2, 0, 0, 0, 0, 0) :: (37, 1, 0, 8, 19, 2138) :: (1, 1, 0, 0, 0, 0) :: (2, 0, 0, 0, 0, 0) :: (37, 1, 0, 8, 19, 2138) :: (36, 3, 0, 6, 88, 2045) :: (1, 2, 0, 0, 0, 0) :: (50, 195, 6, 4, 132, 3175) :: (2, 0, 0, 0, 0, 0) :: (37, 1, 0, 8, 19, 2138) :: (36, 3, 0, 6, 88, 2045) :: (7, 0, 0, 0, 0, 0) :: (55, 0, 0, 0, 0, 0) :: []
def bl_249_11 : List (Nat × Nat × Int × Nat × Nat × Nat) := (0, 0, (-1), 0, 0, 0) :: (55, 0, 0, 0, 0, 0) :: bl_249_13
def bl_249_0 : List (Nat × Nat × Int × Nat × Nat × Nat) := (2, 0, 0, 0, 0, 0) :: (37, 1, 0, 8, 19, 2138) :: (37, 0, 0, 6, 75, 2038) :: (1, 1, 0, 0, 0, 0) :: (50, 15, 4, 2, 95, 3124) :: (26, 11, 14, 0, 0, 0) :: (1, 2, 0, 0, 0, 0) :: (0, 0, 0, 0, 0, 0) :: (0, 2, 9999, 0, 0, 0) :: (49, 33, 8, 3, 45, 2160) :: (27, 13, 5, 0, 0, 0) :: bl_249_11
-- 250 X8_overtime
def bl_250_19 : List (Nat × Nat × Int × Nat × Nat × Nat) := (55, 0, 0, 0, 0, 0) :: []
def bl_250_18 : List (Nat × Nat × Int × Nat × Nat × Nat) := (0, 1, (-2), 0, 0, 0) :: bl_250_19
def bl_250_9 : List (Nat × Nat × Int × Nat × Nat × Nat) := (2, 2, 0, 0, 0, 0) :: (36, 1, 0, 0, 99, 1223) :: (0, 0, 1, 0, 0, 0) :: (21, 18, 14, 0, 0, 0) :: (2, 0, 0, 0, 0, 0) :: (37, 1, 0, 8, 19, 2138) :: (2, 2, 0, 0, 0, 0) :: (50, 197, 6, 2, 140, 3198) :: (32, 19, 5, 0, 0, 0) :: bl_250_18
def bl_250_0 : List (Nat × Nat × Int × Nat × Nat × Nat) := (2, 0, 0, 0, 0, 0) :: (37, 1, 0, 8, 19, 2138) :: (1, 1, 0, 0, 0, 0) :: (50, 22, 6, 2, 91, 3120) :: (4, 2, 0, 0, 0, 0) :: (2, 2, 0, 0, 0, 0) :: (34, 9, 5, 0, 0, 0) :: (0, 0, (-1), 0, 0, 0) :: (55, 0, 0, 0, 0, 0) :: bl_250_9
-- 251 X8_park
def bl_251_34 : List (Nat × Nat × Int × Nat × Nat × Nat) := (2, 0, 0, 0, 0, 0) :: (37, 1, 0, 8, 19, 2138) :: (2, 3, 0, 0, 0, 0) :: (1, 2, 0, 0, 0, 0) :: (50, 200, 6, 3, 116, 3155) :: (2, 0, 0, 0, 0, 0) :: (37, 1, 0, 8, 19, 2138) :: (1, 2, 0, 0, 0, 0) :: (50, 202, 6, 2, 104, 3128) :: (55, 0, 0, 0, 0, 0) :: []
def bl_251_27 : List (Nat × Nat × Int × Nat × Nat × Nat) := (2, 0, 0, 0, 0, 0) :: (37, 1, 0, 8, 19, 2138) :: (37, 2, 0, 6, 107, 2042) :: (50, 12, 1, 1, 111, 3151) :: (26, 34, 6, 0, 0, 0) :: (0, 1, (-4), 0, 0, 0) :: (55, 0, 0, 0, 0, 0) :: bl_251_34
def bl_251_20 : List (Nat × Nat × Int × Nat × Nat × Nat) := (2, 0, 0, 0, 0, 0) :: (37, 1, 0, 8, 19, 2138) :: (1, 2, 0, 0, 0, 0) :: (50, 202, 6, 2, 104, 3128) :: (30, 27, 6, 0, 0, 0) :: (0, 1, (-3), 0, 0, 0) :: (55, 0, 0, 0, 0, 0) :: bl_251_27
def bl_251_15 : List (Nat × Nat × Int × Nat × Nat × Nat) := (2, 3, 0, 0, 0, 0) :: (36, 1, 0, 0, 99, 1223) :: (26, 20, 6, 0, 0, 0) :: (0, 1, (-2), 0, 0, 0) :: (55, 0, 0, 0, 0, 0) :: bl_251_20
def bl_251_13 : List (Nat × Nat × Int × Nat × Nat × Nat) := (0, 0, (-1), 0, 0, 0) :: (55, 0, 0, 0, 0, 0) :: bl_251_15
def bl_251_0 : List (Nat × Nat × Int × Nat × Nat × Nat) := (2, 0, 0, 0, 0, 0) :: (37, 1, 0, 8, 19, 2138) :: (1, 1, 0, 0, 0, 0) :: (50, 22, 6, 2, 91, 3120) :: (4, 3, 0, 0, 0, 0) :: (2, 3, 0, 0, 0, 0) :: (33, 13, 17, 0, 0, 0) :: (2, 0, 0, 0, 0, 0) :: (37, 1, 0, 8, 19, 2138) :: (37, 0, 0, 6, 75, 2038) :: (1, 2, 0, 0, 0, 0) :: (50, 15, 4, 2, 95, 3124) :: (27, 15, 5, 0, 0, 0) :: bl_251_13
-- 252 X8_pay
def bl_252_47 : List (Nat × Nat × Int × Nat × Nat × Nat) := (2, 3, 0, 0, 0, 0) :: (1, 5, 0, 0, 1, 0) :: (38, 3, 0, 0, 120, 1230) :: (2, 0, 0, 0, 0, 0) :: (37, 1, 0, 8, 19, 2138) :: (0, 0, 2, 0, 0, 0) :: (2, 3, 0, 0, 0, 0) :: (1, 2, 0, 0, 0, 0) :: (50, 140, 6, 4, 136, 3193) :: (1, 5, 0, 0, 1, 0) :: (55, 0, 0, 0, 0, 0) :: []
def bl_252_40 : List (Nat × Nat × Int × Nat × Nat × Nat) := (2, 0, 0, 0, 0, 0) :: (37, 1, 0, 8, 19, 2138) :: (37, 2, 0, 6, 107, 2042) :: (50, 12, 1, 1, 111, 3151) :: (26, 47, 6, 0, 0, 0) :: (0, 1, (-4), 0, 0, 0) :: (55, 0, 0, 0, 0, 0) :: bl_252_47
def bl_252_20 : List (Nat × Nat × Int × Nat × Nat × Nat) := (2, 3, 0, 0, 0, 0) :: (36, 3, 0, 0, 120, 1230) :: (2, 0, 0, 0, 0, 0) :: (37, 1, 0, 8, 19, 2138) :: (36, 3, 0, 6, 88, 2045) :: (75, 0, 0, 0, 123, 3172) :: (3, 4, 0, 0, 1, 0) :: (2, 0, 0, 0, 0, 0) :: (37, 1, 0, 8, 19, 2138) :: (2, 3, 0, 0, 0, 0) :: (36, 2, 0, 0, 129, 1227) :: (1, 4, 0, 0, 1, 0) :: (1, 2, 0, 0, 0, 0) :: (50, 195, 6, 4, 132, 3175) :: (3, 5, 0, 0, 1, 0) :: (1, 5, 0, 0, 1, 0) :: (1, 4, 0, 0, 1, 0) :: (24, 40, 6, 0, 0, 0) :: (0, 1, (-3), 0, 0, 0) :: (55, 0, 0, 0, 0, 0) :: bl_252_40
def bl_252_14 : List (Nat × Nat × Int × Nat × Nat × Nat) := (2, 3, 0, 0, 0, 0) :: (36, 1, 0, 0, 99, 1223) :: (0, 0, 1, 0, 0, 0) :: (20, 20, 6, 0, 0, 0) :: (0, 1, (-2), 0, 0, 0) :: (55, 0, 0, 0, 0, 0) :: bl_252_20
def bl_252_12 : List (Nat × Nat × Int × Nat × Nat × Nat) := (0, 0, (-1), 0, 0, 0) :: (55, 0, 0, 0, 0, 0) :: bl_252_14
def bl_252_0 : List (Nat × Nat × Int × Nat × Nat × Nat) := (2, 0, 0, 0, 0, 0) :: (37, 1, 0, 8, 19, 2138) :: (1, 1, 0, 0, 0, 0) :: (50, 22, 6, 2, 91, 3120) :: (4, 3, 0, 0, 0, 0) :: (2, 3, 0, 0, 0, 0) :: (33, 12, 14, 0, 0, 0) :: (1, 2, 0, 0, 0, 0) :: (0, 0, 1, 0, 0, 0) :: (0, 2, 9999, 0, 0, 0) :: (49, 33, 8, 3, 45, 2160) :: (27, 14, 5, 0, 0, 0) :: bl_252_12
-- 253 X8_ticketNow
def bl_253_16 : List (Nat × Nat × Int × Nat × Nat × Nat) := (55, 0, 0, 0, 0, 0) :: []
def bl_253_9 : List (Nat × Nat × Int × Nat × Nat × Nat) := (2, 0, 0, 0, 0, 0) :: (37, 1, 0, 8, 19, 2138) :: (2, 2, 0, 0, 0, 0) :: (2, 0, 0, 0, 0, 0) :: (37, 1, 0, 8, 19, 2138) :: (36, 3, 0, 6, 88, 2045) :: (50, 203, 6, 3, 299, 5064) :: bl_253_16
def bl_253_0 : List (Nat × Nat × Int × Nat × Nat × Nat) := (2, 0, 0, 0, 0, 0) :: (37, 1, 0, 8, 19, 2138) :: (1, 1, 0, 0, 0, 0) :: (50, 22, 6, 2, 91, 3120) :: (4, 2, 0, 0, 0, 0) :: (2, 2, 0, 0, 0, 0) :: (34, 9, 7, 0, 0, 0) :: (0, 0, (-1), 0, 0, 0) :: (32, 16, 18, 0, 0, 0) :: bl_253_9
-- 254 X9_bestInspection
def bl_254_40 : List (Nat × Nat × Int × Nat × Nat × Nat) := (1, 3, 0, 0, 0, 0) :: (55, 0, 0, 0, 0, 0) :: []
def bl_254_38 : List (Nat × Nat × Int × Nat × Nat × Nat) := (5, 5, 1, 0, 0, 0) :: (32, 23, (-32), 0, 0, 0) :: bl_254_40
def bl_254_23 : List (Nat × Nat × Int × Nat × Nat × Nat) := (1, 5, 0, 0, 1, 0) :: (1, 2, 0, 0, 0, 0) :: (24, 40, 32, 0, 0, 0) :: (2, 0, 0, 0, 0, 0) :: (1, 1, 0, 0, 0, 0) :: (1, 5, 0, 0, 1, 0) :: (50, 216, 9, 3, 274, 8107) :: (3, 6, 0, 0, 1, 0) :: (1, 6, 0, 0, 1, 0) :: (1, 4, 0, 0, 1, 0) :: (25, 38, 10, 0, 0, 0) :: (1, 5, 0, 0, 1, 0) :: (3, 3, 0, 0, 0, 0) :: (1, 6, 0, 0, 1, 0) :: (3, 4, 0, 0, 1, 0) :: bl_254_38
def bl_254_14 : List (Nat × Nat × Int × Nat × Nat × Nat) := (0, 0, 0, 0, 0, 0) :: (3, 3, 0, 0, 0, 0) :: (2, 0, 0, 0, 0, 0) :: (1, 1, 0, 0, 0, 0) :: (0, 0, 0, 0, 0, 0) :: (50, 216, 9, 3, 274, 8107) :: (3, 4, 0, 0, 1, 0) :: (0, 0, 1, 0, 0, 0) :: (3, 5, 0, 0, 1, 0) :: bl_254_23
def bl_254_12 : List (Nat × Nat × Int × Nat × Nat × Nat) := (0, 0, (-1), 0, 0, 0) :: (55, 0, 0, 0, 0, 0) :: bl_254_14
def bl_254_0 : List (Nat × Nat × Int × Nat × Nat × Nat) := (2, 0, 0, 0, 0, 0) :: (0, 0, 0, 0, 0, 0) :: (38, 4, 0, 9, 59, 6118) :: (2, 0, 0, 0, 0, 0) :: (1, 1, 0, 0, 0, 0) :: (50, 106, 9, 2, 175, 7050) :: (26, 12, 13, 0, 0, 0) :: (1, 2, 0, 0, 0, 0) :: (0, 0, 0, 0, 0, 0) :: (0, 1, 120, 0, 0, 0) :: (49, 40, 9, 3, 70, 6204) :: (27, 14, 5, 0, 0, 0) :: bl_254_12
-- 255 X9_isWord
def bl_255_37 : List (Nat × Nat × Int × Nat × Nat × Nat) := (1, 2, 0, 0, 0, 0) :: (55, 1, 0, 0, 0, 0) :: []
def bl_255_34 : List (Nat × Nat × Int × Nat × Nat × Nat) := (3, 2, 0, 0, 0, 0) :: (5, 3, 1, 0, 0, 0) :: (32, 14, (-40), 0, 0, 0) :: bl_255_37
def bl_255_33 : List (Nat × Nat × Int × Nat × Nat × Nat) := (0, 0, 0, 0, 0, 0) :: bl_255_34
def bl_255_14 : List (Nat × Nat × Int × Nat × Nat × Nat) := (1, 2, 0, 0, 0, 0) :: (26, 37, 42, 0, 0, 0) :: (1, 3, 0, 0, 0, 0) :: (2, 1, 0, 0, 0, 0) :: (50, 53, 90, 1, 96, 6228) :: (23, 37, 34, 0, 0, 0) :: (2, 0, 0, 0, 0, 0) :: (37, 5, 0, 9, 23, 6119) :: (2, 0, 0, 0, 0, 0) :: (36, 8, 0, 9, 84, 6122) :: (1, 3, 0, 0, 0, 0) :: (6, 0, 0, 0, 0, 0) :: (44, 0, 0, 0, 0, 0) :: (2, 1, 0, 0, 0, 0) :: (1, 3, 0, 0, 0, 0) :: (50, 186, 90, 2, 100, 6229) :: (21, 33, 7, 0, 0, 0) :: (0, 0, 1, 0, 0, 0) :: (32, 34, 4, 0, 0, 0) :: bl_255_33
def bl_255_11 : List (Nat × Nat × Int × Nat × Nat × Nat) := (3, 2, 0, 0, 0, 0) :: (0, 0, 0, 0, 0, 0) :: (3, 3, 0, 0, 0, 0) :: bl_255_14
def bl_255_10 : List (Nat × Nat × Int × Nat × Nat × Nat) := (0, 0, 0, 0, 0, 0) :: bl_255_11
def bl_255_0 : List (Nat × Nat × Int × Nat × Nat × Nat) := (2, 0, 0, 0, 0, 0) :: (36, 7, 0, 9, 77, 6121) :: (2, 0, 0, 0, 0, 0) :: (36, 8, 0, 9, 84, 6122) :: (7, 0, 0, 0, 0, 0) :: (2, 1, 0, 0, 0, 0) :: (50, 53, 90, 1, 96, 6228) :: (21, 10, 7, 0, 0, 0) :: (0, 0, 1, 0, 0, 0) :: (32, 11, 4, 0, 0, 0) :: bl_255_10
-- 256 X9_patrols
def bl_256_128 : List (Nat × Nat × Int × Nat × Nat × Nat) := (0, 0, 1, 0, 0, 0) :: (55, 1, 0, 0, 0, 0) :: []
def bl_256_126 : List (Nat × Nat × Int × Nat × Nat × Nat) := (5, 3, 1, 0, 0, 0) :: (32, 42, (-155), 0, 0, 0) :: bl_256_128
def bl_256_117 : List (Nat × Nat × Int × Nat × Nat × Nat) := (2, 0, 0, 0, 0, 0) :: (1, 3, 0, 0, 0, 0) :: (38, 24, 0, 9, 287, 6138) :: (2, 0, 0, 0, 0, 0) :: (1, 5, 0, 0, 1, 0) :: (38, 25, 0, 9, 290, 6139) :: (2, 0, 0, 0, 0, 0) :: (1, 4, 0, 0, 1, 0) :: (38, 26, 0, 9, 293, 6140) :: bl_256_126
def bl_256_102 : List (Nat × Nat × Int × Nat × Nat × Nat) := (1, 4, 0, 0, 1, 0) :: (1, 2, 0, 0, 0, 0) :: (24, 126, 47, 0, 0, 0) :: (1, 5, 0, 0, 1, 0) :: (2, 0, 0, 0, 0, 0) :: (36, 25, 0, 9, 290, 6139) :: (24, 117, 21, 0, 0, 0) :: (1, 5, 0, 0, 1, 0) :: (2, 0, 0, 0, 0, 0) :: (36, 25, 0, 9, 290, 6139) :: (21, 126, 29, 0, 0, 0) :: (1, 4, 0, 0, 1, 0) :: (2, 0, 0, 0, 0, 0) :: (36, 26, 0, 9, 293, 6140) :: (23, 126, 20, 0, 0, 0) :: bl_256_117
def bl_256_100 : List (Nat × Nat × Int × Nat × Nat × Nat) := (5, 6, 1, 0, 0, 0) :: (32, 56, (-77), 0, 0, 0) :: bl_256_102
def bl_256_69 : List (Nat × Nat × Int × Nat × Nat × Nat) := (2, 0, 0, 0, 0, 0) :: (37, 22, 0, 9, 45, 6136) :: (0, 1, 10, 0, 0, 0) :: (1, 3, 0, 0, 0, 0) :: (8, 0, 0, 0, 0, 0) :: (1, 6, 0, 0, 1, 0) :: (6, 0, 0, 0, 0, 0) :: (2, 0, 0, 0, 0, 0) :: (1, 1, 0, 0, 0, 0) :: (1, 3, 0, 0, 0, 0) :: (1, 6, 0, 0, 1, 0) :: (50, 102, 9, 4, 296, 8163) :: (41, 0, 0, 0, 0, 0) :: (1, 4, 0, 0, 1, 0) :: (2, 0, 0, 0, 0, 0) :: (37, 22, 0, 9, 45, 6136) :: (0, 1, 10, 0, 0, 0) :: (1, 3, 0, 0, 0, 0) :: (8, 0, 0, 0, 0, 0) :: (1, 6, 0, 0, 1, 0) :: (6, 0, 0, 0, 0, 0) :: (40, 0, 0, 0, 0, 0) :: (76, 0, 0, 0, 64, 6113) :: (3, 4, 0, 0, 1, 0) :: (1, 5, 0, 0, 1, 0) :: (2, 0, 0, 0, 0, 0) :: (37, 23, 0, 9, 48, 6137) :: (1, 6, 0, 0, 1, 0) :: (40, 0, 0, 0, 0, 0) :: (6, 0, 0, 0, 0, 0) :: (3, 5, 0, 0, 1, 0) :: bl_256_100
def bl_256_56 : List (Nat × Nat × Int × Nat × Nat × Nat) := (1, 6, 0, 0, 1, 0) :: (2, 0, 0, 0, 0, 0) :: (37, 0, 0, 9, 9, 6114) :: (0, 0, 0, 0, 0, 0) :: (40, 0, 0, 0, 0, 0) :: (23, 102, 72, 0, 0, 0) :: (1, 3, 0, 0, 0, 0) :: (1, 6, 0, 0, 1, 0) :: (15, 0, 0, 0, 0, 0) :: (0, 0, 1, 0, 0, 0) :: (11, 0, 0, 0, 0, 0) :: (27, 69, 6, 0, 0, 0) :: (32, 100, 54, 0, 0, 0) :: bl_256_69
def bl_256_42 : List (Nat × Nat × Int × Nat × Nat × Nat) := (1, 3, 0, 0, 0, 0) :: (0, 0, 1, 0, 0, 0) :: (2, 0, 0, 0, 0, 0) :: (37, 0, 0, 9, 9, 6114) :: (0, 0, 0, 0, 0, 0) :: (40, 0, 0, 0, 0, 0) :: (14, 0, 0, 0, 0, 0) :: (23, 128, 149, 0, 0, 0) :: (0, 3, 1000000, 0, 63, 6109) :: (3, 4, 0, 0, 1, 0) :: (0, 0, 0, 0, 0, 0) :: (3, 5, 0, 0, 1, 0) :: (0, 0, 0, 0, 0, 0) :: (3, 6, 0, 0, 1, 0) :: bl_256_56
def bl_256_31 : List (Nat × Nat × Int × Nat × Nat × Nat) := (2, 0, 0, 0, 0, 0) :: (0, 0, 0, 0, 0, 0) :: (38, 24, 0, 9, 287, 6138) :: (2, 0, 0, 0, 0, 0) :: (0, 0, 0, 0, 0, 0) :: (38, 25, 0, 9, 290, 6139) :: (2, 0, 0, 0, 0, 0) :: (0, 0, 0, 0, 0, 0) :: (38, 26, 0, 9, 293, 6140) :: (0, 0, 1, 0, 0, 0) :: (3, 3, 0, 0, 0, 0) :: bl_256_42
def bl_256_16 : List (Nat × Nat × Int × Nat × Nat × Nat) := (1, 3, 0, 0, 0, 0) :: (2, 0, 0, 0, 0, 0) :: (37, 0, 0, 9, 9, 6114) :: (0, 0, 0, 0, 0, 0) :: (40, 0, 0, 0, 0, 0) :: (23, 31, 20, 0, 0, 0) :: (2, 0, 0, 0, 0, 0) :: (37, 23, 0, 9, 48, 6137) :: (1, 3, 0, 0, 0, 0) :: (2, 0, 0, 0, 0, 0) :: (1, 3, 0, 0, 0, 0) :: (50, 232, 9, 2, 284, 8159) :: (41, 0, 0, 0, 0, 0) :: (5, 3, 1, 0, 0, 0) :: (32, 16, (-24), 0, 0, 0) :: bl_256_31
def bl_256_14 : List (Nat × Nat × Int × Nat × Nat × Nat) := (0, 0, 0, 0, 0, 0) :: (3, 3, 0, 0, 0, 0) :: bl_256_16
def bl_256_12 : List (Nat × Nat × Int × Nat × Nat × Nat) := (0, 0, 0, 0, 0, 0) :: (55, 1, 0, 0, 0, 0) :: bl_256_14
def bl_256_0 : List (Nat × Nat × Int × Nat × Nat × Nat) := (2, 0, 0, 0, 0, 0) :: (0, 0, 0, 0, 0, 0) :: (38, 4, 0, 9, 59, 6118) :: (2, 0, 0, 0, 0, 0) :: (1, 1, 0, 0, 0, 0) :: (50, 106, 9, 2, 175, 7050) :: (26, 12, 14, 0, 0, 0) :: (1, 2, 0, 0, 0, 0) :: (0, 0, 0, 0, 0, 0) :: (0, 2, 600, 0, 0, 0) :: (49, 40, 9, 3, 70, 6204) :: (27, 14, 5, 0, 0, 0) :: bl_256_12
-- 257 X9_pound
def bl_257_66 : List (Nat × Nat × Int × Nat × Nat × Nat) := (57, 0, 0, 0, 0, 0) :: []
def bl_257_65 : List (Nat × Nat × Int × Nat × Nat × Nat) := (41, 0, 0, 0, 0, 0) :: bl_257_66
def bl_257_61 : List (Nat × Nat × Int × Nat × Nat × Nat) := (2, 0, 0, 0, 0, 0) :: (37, 1, 0, 9, 13, 6115) :: (0, 0, 1, 0, 0, 0) :: (40, 0, 0, 0, 0, 0) :: bl_257_65
def bl_257_36 : List (Nat × Nat × Int × Nat × Nat × Nat) := (2, 0, 0, 0, 0, 0) :: (0, 0, 1, 0, 0, 0) :: (0, 1, 6, 0, 0, 0) :: (50, 169, 9, 3, 108, 6234) :: (3, 3, 0, 0, 0, 0) :: (2, 0, 0, 0, 0, 0) :: (36, 9, 0, 9, 87, 6123) :: (27, 66, 39, 0, 0, 0) :: (2, 0, 0, 0, 0, 0) :: (37, 1, 0, 9, 13, 6115) :: (0, 2, 223, 0, 0, 0) :: (1, 1, 0, 0, 0, 0) :: (6, 0, 0, 0, 0, 0) :: (1, 3, 0, 0, 0, 0) :: (41, 0, 0, 0, 0, 0) :: (2, 0, 0, 0, 0, 0) :: (37, 1, 0, 9, 13, 6115) :: (0, 0, 1, 0, 0, 0) :: (2, 0, 0, 0, 0, 0) :: (37, 1, 0, 9, 13, 6115) :: (0, 0, 1, 0, 0, 0) :: (40, 0, 0, 0, 0, 0) :: (29, 61, 7, 0, 0, 0) :: (1, 1, 0, 0, 0, 0) :: (32, 65, 9, 0, 0, 0) :: bl_257_61
def bl_257_28 : List (Nat × Nat × Int × Nat × Nat × Nat) := (1, 2, 0, 0, 0, 0) :: (0, 0, 2, 0, 0, 0) :: (21, 36, 12, 0, 0, 0) :: (2, 0, 0, 0, 0, 0) :: (0, 0, 3, 0, 0, 0) :: (2, 0, 0, 0, 0, 0) :: (36, 8, 0, 9, 84, 6122) :: (50, 38, 9, 3, 104, 6230) :: bl_257_36
def bl_257_24 : List (Nat × Nat × Int × Nat × Nat × Nat) := (6, 0, 0, 0, 0, 0) :: (3, 2, 0, 0, 0, 0) :: (5, 3, 1, 0, 0, 0) :: (32, 7, (-35), 0, 0, 0) :: bl_257_28
def bl_257_23 : List (Nat × Nat × Int × Nat × Nat × Nat) := (0, 0, 0, 0, 0, 0) :: bl_257_24
def bl_257_7 : List (Nat × Nat × Int × Nat × Nat × Nat) := (1, 3, 0, 0, 0, 0) :: (0, 1, 10, 0, 0, 0) :: (23, 28, 35, 0, 0, 0) :: (1, 2, 0, 0, 0, 0) :: (1, 3, 0, 0, 0, 0) :: (1, 1, 0, 0, 0, 0) :: (20, 23, 20, 0, 0, 0) :: (2, 0, 0, 0, 0, 0) :: (37, 1, 0, 9, 13, 6115) :: (0, 2, 223, 0, 0, 0) :: (1, 3, 0, 0, 0, 0) :: (6, 0, 0, 0, 0, 0) :: (40, 0, 0, 0, 0, 0) :: (31, 23, 7, 0, 0, 0) :: (0, 0, 1, 0, 0, 0) :: (32, 24, 4, 0, 0, 0) :: bl_257_23
def bl_257_0 : List (Nat × Nat × Int × Nat × Nat × Nat) := (2, 0, 0, 0, 0, 0) :: (50, 224, 9, 1, 111, 7011) :: (3, 1, 0, 0, 0, 0) :: (0, 0, 0, 0, 0, 0) :: (3, 2, 0, 0, 0, 0) :: (0, 0, 0, 0, 0, 0) :: (3, 3, 0, 0, 0, 0) :: bl_257_7
-- 258 X9_road
def bl_258_57 : List (Nat × Nat × Int × Nat × Nat × Nat) := (57, 0, 0, 0, 0, 0) :: []
def bl_258_14 : List (Nat × Nat × Int × Nat × Nat × Nat) := (2, 0, 0, 0, 0, 0) :: (0, 0, 1, 0, 0, 0) :: (0, 1, 99, 0, 0, 0) :: (50, 169, 9, 3, 108, 6234) :: (3, 3, 0, 0, 0, 0) :: (2, 0, 0, 0, 0, 0) :: (36, 9, 0, 9, 87, 6123) :: (27, 57, 52, 0, 0, 0) :: (2, 0, 0, 0, 0, 0) :: (37, 1, 0, 9, 13, 6115) :: (0, 0, 3, 0, 0, 0) :: (0, 1, 10, 0, 0, 0) :: (1, 1, 0, 0, 0, 0) :: (8, 0, 0, 0, 0, 0) :: (6, 0, 0, 0, 0, 0) :: (1, 2, 0, 0, 0, 0) :: (6, 0, 0, 0, 0, 0) :: (40, 0, 0, 0, 0, 0) :: (1, 3, 0, 0, 0, 0) :: (76, 0, 0, 0, 64, 6113) :: (3, 4, 0, 0, 1, 0) :: (2, 0, 0, 0, 0, 0) :: (37, 1, 0, 9, 13, 6115) :: (0, 0, 3, 0, 0, 0) :: (0, 1, 10, 0, 0, 0) :: (1, 1, 0, 0, 0, 0) :: (8, 0, 0, 0, 0, 0) :: (6, 0, 0, 0, 0, 0) :: (1, 2, 0, 0, 0, 0) :: (6, 0, 0, 0, 0, 0) :: (1, 4, 0, 0, 1, 0) :: (41, 0, 0, 0, 0, 0) :: (2, 0, 0, 0, 0, 0) :: (37, 1, 0, 9, 13, 6115) :: (0, 0, 3, 0, 0, 0) :: (0, 1, 10, 0, 0, 0) :: (1, 2, 0, 0, 0, 0) :: (8, 0, 0, 0, 0, 0) :: (6, 0, 0, 0, 0, 0) :: (1, 1, 0, 0, 0, 0) :: (6, 0, 0, 0, 0, 0) :: (1, 4, 0, 0, 1, 0) :: (41, 0, 0, 0, 0, 0) :: bl_258_57
def bl_258_0 : List (Nat × Nat × Int × Nat × Nat × Nat) := (2, 0, 0, 0, 0, 0) :: (50, 224, 9, 1, 111, 7011) :: (3, 1, 0, 0, 0, 0) :: (2, 0, 0, 0, 0, 0) :: (50, 224, 9, 1, 111, 7011) :: (3, 2, 0, 0, 0, 0) :: (1, 1, 0, 0, 0, 0) :: (1, 2, 0, 0, 0, 0) :: (21, 14, 12, 0, 0, 0) :: (2, 0, 0, 0, 0, 0) :: (0, 0, 3, 0, 0, 0) :: (2, 0, 0, 0, 0, 0) :: (36, 8, 0, 9, 84, 6122) :: (50, 38, 9, 3, 104, 6230) :: bl_258_14
-- 259 X9_ticketsAfter
def bl_259_25 : List (Nat × Nat × Int × Nat × Nat × Nat) := (55, 0, 0, 0, 0, 0) :: []
def bl_259_24 : List (Nat × Nat × Int × Nat × Nat × Nat) := (0, 0, 0, 0, 0, 0) :: bl_259_25
def bl_259_14 : List (Nat × Nat × Int × Nat × Nat × Nat) := (2, 0, 0, 0, 0, 0) :: (1, 1, 0, 0, 0, 0) :: (1, 2, 0, 0, 0, 0) :: (50, 216, 9, 3, 274, 8107) :: (3, 3, 0, 0, 0, 0) :: (1, 3, 0, 0, 0, 0) :: (31, 24, 10, 0, 0, 0) :: (2, 0, 0, 0, 0, 0) :: (36, 21, 0, 9, 271, 6135) :: (32, 25, 4, 0, 0, 0) :: bl_259_24
def bl_259_12 : List (Nat × Nat × Int × Nat × Nat × Nat) := (0, 0, (-1), 0, 0, 0) :: (55, 0, 0, 0, 0, 0) :: bl_259_14
def bl_259_0 : List (Nat × Nat × Int × Nat × Nat × Nat) := (2, 0, 0, 0, 0, 0) :: (0, 0, 0, 0, 0, 0) :: (38, 4, 0, 9, 59, 6118) :: (2, 0, 0, 0, 0, 0) :: (1, 1, 0, 0, 0, 0) :: (50, 106, 9, 2, 175, 7050) :: (26, 12, 14, 0, 0, 0) :: (1, 2, 0, 0, 0, 0) :: (0, 0, 0, 0, 0, 0) :: (0, 2, 600, 0, 0, 0) :: (49, 40, 9, 3, 70, 6204) :: (27, 14, 5, 0, 0, 0) :: bl_259_12
-- 260 X9_trips_3
def bl_260_137 : List (Nat × Nat × Int × Nat × Nat × Nat) := (57, 0, 0, 0, 0, 0) :: []
def bl_260_135 : List (Nat × Nat × Int × Nat × Nat × Nat) := (5, 5, 1, 0, 0, 0) :: (32, 43, (-159), 0, 0, 0) :: bl_260_137
def bl_260_133 : List (Nat × Nat × Int × Nat × Nat × Nat) := (5, 7, 1, 0, 0, 0) :: (32, 54, (-132), 0, 0, 0) :: bl_260_135
def bl_260_93 : List (Nat × Nat × Int × Nat × Nat × Nat) := (2, 0, 0, 0, 0, 0) :: (37, 17, 0, 9, 42, 6131) :: (1, 7, 0, 0, 1, 0) :: (69, 0, 0, 0, 0, 0) :: (40, 0, 0, 0, 0, 0) :: (0, 0, 1, 0, 0, 0) :: (7, 0, 0, 0, 0, 0) :: (41, 0, 0, 0, 0, 0) :: (2, 0, 0, 0, 0, 0) :: (37, 13, 0, 9, 30, 6127) :: (1, 1, 0, 0, 0, 0) :: (1, 6, 0, 0, 1, 0) :: (41, 0, 0, 0, 0, 0) :: (2, 0, 0, 0, 0, 0) :: (37, 14, 0, 9, 33, 6128) :: (1, 1, 0, 0, 0, 0) :: (1, 7, 0, 0, 1, 0) :: (41, 0, 0, 0, 0, 0) :: (2, 0, 0, 0, 0, 0) :: (1, 1, 0, 0, 0, 0) :: (0, 0, 1, 0, 0, 0) :: (6, 0, 0, 0, 0, 0) :: (1, 7, 0, 0, 1, 0) :: (1, 3, 0, 0, 0, 0) :: (0, 0, 1, 0, 0, 0) :: (1, 5, 0, 0, 1, 0) :: (14, 0, 0, 0, 0, 0) :: (12, 0, 0, 0, 0, 0) :: (1, 4, 0, 0, 1, 0) :: (1, 8, 0, 0, 1, 0) :: (6, 0, 0, 0, 0, 0) :: (50, 231, 9, 5, 246, 7164) :: (2, 0, 0, 0, 0, 0) :: (37, 17, 0, 9, 42, 6131) :: (1, 7, 0, 0, 1, 0) :: (69, 0, 0, 0, 0, 0) :: (40, 0, 0, 0, 0, 0) :: (0, 0, 1, 0, 0, 0) :: (6, 0, 0, 0, 0, 0) :: (41, 0, 0, 0, 0, 0) :: bl_260_133
def bl_260_54 : List (Nat × Nat × Int × Nat × Nat × Nat) := (1, 7, 0, 0, 1, 0) :: (2, 0, 0, 0, 0, 0) :: (37, 0, 0, 9, 9, 6114) :: (0, 0, 0, 0, 0, 0) :: (40, 0, 0, 0, 0, 0) :: (23, 135, 127, 0, 0, 0) :: (1, 3, 0, 0, 0, 0) :: (1, 5, 0, 0, 1, 0) :: (15, 0, 0, 0, 0, 0) :: (0, 0, 1, 0, 0, 0) :: (11, 0, 0, 0, 0, 0) :: (27, 135, 118, 0, 0, 0) :: (2, 0, 0, 0, 0, 0) :: (1, 2, 0, 0, 0, 0) :: (2, 0, 0, 0, 0, 0) :: (1, 6, 0, 0, 1, 0) :: (0, 0, 1, 0, 0, 0) :: (50, 46, 9, 3, 161, 7054) :: (50, 51, 9, 3, 249, 7168) :: (0, 1, 10, 0, 0, 0) :: (6, 0, 0, 0, 0, 0) :: (2, 0, 0, 0, 0, 0) :: (2, 0, 0, 0, 0, 0) :: (1, 6, 0, 0, 1, 0) :: (0, 0, 1, 0, 0, 0) :: (50, 46, 9, 3, 161, 7054) :: (1, 7, 0, 0, 1, 0) :: (50, 51, 9, 3, 249, 7168) :: (6, 0, 0, 0, 0, 0) :: (3, 8, 0, 0, 1, 0) :: (2, 0, 0, 0, 0, 0) :: (37, 17, 0, 9, 42, 6131) :: (1, 7, 0, 0, 1, 0) :: (40, 0, 0, 0, 0, 0) :: (26, 133, 71, 0, 0, 0) :: (1, 8, 0, 0, 1, 0) :: (0, 3, 1000000, 0, 63, 6109) :: (22, 93, 6, 0, 0, 0) :: (32, 133, 61, 0, 0, 0) :: bl_260_93
def bl_260_43 : List (Nat × Nat × Int × Nat × Nat × Nat) := (1, 5, 0, 0, 1, 0) :: (2, 0, 0, 0, 0, 0) :: (36, 18, 0, 9, 231, 6132) :: (23, 137, 156, 0, 0, 0) :: (2, 0, 0, 0, 0, 0) :: (37, 12, 0, 9, 27, 6126) :: (1, 5, 0, 0, 1, 0) :: (40, 0, 0, 0, 0, 0) :: (3, 6, 0, 0, 1, 0) :: (0, 0, 0, 0, 0, 0) :: (3, 7, 0, 0, 1, 0) :: bl_260_54
def bl_260_41 : List (Nat × Nat × Int × Nat × Nat × Nat) := (0, 0, 0, 0, 0, 0) :: (3, 5, 0, 0, 1, 0) :: bl_260_43
def bl_260_20 : List (Nat × Nat × Int × Nat × Nat × Nat) := (1, 5, 0, 0, 1, 0) :: (1, 1, 0, 0, 0, 0) :: (23, 41, 37, 0, 0, 0) :: (2, 0, 0, 0, 0, 0) :: (37, 15, 0, 9, 36, 6129) :: (1, 5, 0, 0, 1, 0) :: (2, 0, 0, 0, 0, 0) :: (37, 13, 0, 9, 30, 6127) :: (1, 5, 0, 0, 1, 0) :: (40, 0, 0, 0, 0, 0) :: (41, 0, 0, 0, 0, 0) :: (2, 0, 0, 0, 0, 0) :: (37, 16, 0, 9, 39, 6130) :: (1, 5, 0, 0, 1, 0) :: (2, 0, 0, 0, 0, 0) :: (37, 14, 0, 9, 33, 6128) :: (1, 5, 0, 0, 1, 0) :: (40, 0, 0, 0, 0, 0) :: (41, 0, 0, 0, 0, 0) :: (5, 5, 1, 0, 0, 0) :: (32, 20, (-37), 0, 0, 0) :: bl_260_41
def bl_260_12 : List (Nat × Nat × Int × Nat × Nat × Nat) := (2, 0, 0, 0, 0, 0) :: (1, 1, 0, 0, 0, 0) :: (38, 19, 0, 9, 240, 6133) :: (2, 0, 0, 0, 0, 0) :: (1, 4, 0, 0, 1, 0) :: (38, 20, 0, 9, 243, 6134) :: (0, 0, 0, 0, 0, 0) :: (3, 5, 0, 0, 1, 0) :: bl_260_20
def bl_260_0 : List (Nat × Nat × Int × Nat × Nat × Nat) := (1, 1, 0, 0, 0, 0) :: (2, 0, 0, 0, 0, 0) :: (36, 19, 0, 9, 240, 6133) :: (24, 12, 20, 0, 0, 0) :: (1, 1, 0, 0, 0, 0) :: (2, 0, 0, 0, 0, 0) :: (36, 19, 0, 9, 240, 6133) :: (21, 41, 66, 0, 0, 0) :: (1, 4, 0, 0, 1, 0) :: (2, 0, 0, 0, 0, 0) :: (36, 20, 0, 9, 243, 6134) :: (23, 41, 57, 0, 0, 0) :: bl_260_12
-- 261 X2_findValues
def bl_261_30 : List (Nat × Nat × Int × Nat × Nat × Nat) := (1, 2, 0, 0, 0, 0) :: (55, 0, 0, 0, 0, 0) :: []
def bl_261_28 : List (Nat × Nat × Int × Nat × Nat × Nat) := (5, 3, 1, 0, 0, 0) :: (32, 4, (-46), 0, 0, 0) :: bl_261_30
def bl_261_4 : List (Nat × Nat × Int × Nat × Nat × Nat) := (1, 3, 0, 0, 0, 0) :: (2, 1, 0, 0, 0, 0) :: (37, 0, 0, 6, 35, 2037) :: (36, 0, 0, 4, 41, 1101) :: (23, 30, 41, 0, 0, 0) :: (2, 1, 0, 0, 0, 0) :: (1, 3, 0, 0, 0, 0) :: (2, 1, 0, 0, 0, 0) :: (36, 3, 0, 6, 50, 2044) :: (50, 244, 6, 3, 53, 5134) :: (3, 4, 0, 0, 1, 0) :: (2, 0, 0, 0, 0, 0) :: (37, 0, 0, 2, 9, 2115) :: (1, 3, 0, 0, 0, 0) :: (1, 4, 0, 0, 1, 0) :: (52, 31, 8, 3, 57, 22) :: (1, 4, 0, 0, 1, 0) :: (31, 28, 9, 0, 0, 0) :: (1, 2, 0, 0, 0, 0) :: (0, 0, 1, 0, 0, 0) :: (1, 3, 0, 0, 0, 0) :: (14, 0, 0, 0, 0, 0) :: (12, 0, 0, 0, 0, 0) :: (3, 2, 0, 0, 0, 0) :: bl_261_28
def bl_261_0 : List (Nat × Nat × Int × Nat × Nat × Nat) := (0, 0, 0, 0, 0, 0) :: (3, 2, 0, 0, 0, 0) :: (0, 0, 0, 0, 0, 0) :: (3, 3, 0, 0, 0, 0) :: bl_261_4
-- 262 X3_plan
def bl_262_0 : List (Nat × Nat × Int × Nat × Nat × Nat) := (2, 0, 0, 0, 0, 0) :: (2, 1, 0, 0, 0, 0) :: (50, 131, 3, 2, 39, 4047) :: (2, 0, 0, 0, 0, 0) :: (2, 1, 0, 0, 0, 0) :: (50, 132, 3, 2, 43, 4067) :: (2, 0, 0, 0, 0, 0) :: (2, 1, 0, 0, 0, 0) :: (37, 0, 0, 6, 46, 2036) :: (50, 133, 3, 2, 52, 4076) :: (2, 0, 0, 0, 0, 0) :: (50, 189, 3, 1, 56, 4085) :: (2, 0, 0, 0, 0, 0) :: (2, 1, 0, 0, 0, 0) :: (36, 4, 0, 6, 59, 2047) :: (50, 233, 3, 2, 63, 4104) :: (57, 0, 0, 0, 0, 0) :: []
-- 263 X5_init
def bl_263_0 : List (Nat × Nat × Int × Nat × Nat × Nat) := (2, 0, 0, 0, 0, 0) :: (63, 0, 0, 0, 3, 1038) :: (2, 0, 0, 0, 0, 0) :: (58, 4, 0, 0, 9, 1039) :: (18, 0, 0, 0, 0, 0) :: (51, 234, 4, 1, 11, 1041) :: (39, 0, 0, 5, 12, 1140) :: (2, 0, 0, 0, 0, 0) :: (0, 2, 600, 0, 0, 0) :: (59, 0, 0, 0, 0, 0) :: (39, 1, 0, 5, 18, 1142) :: (57, 0, 0, 0, 0, 0) :: []
-- 264 X5_readWord
def bl_264_38 : List (Nat × Nat × Int × Nat × Nat × Nat) := (0, 0, 0, 0, 0, 0) :: (55, 0, 0, 0, 0, 0) :: []
def bl_264_36 : List (Nat × Nat × Int × Nat × Nat × Nat) := (5, 1, 1, 0, 0, 0) :: (32, 26, (-22), 0, 0, 0) :: bl_264_38
def bl_264_26 : List (Nat × Nat × Int × Nat × Nat × Nat) := (1, 1, 0, 0, 0, 0) :: (0, 1, 7, 0, 0, 0) :: (24, 38, 22, 0, 0, 0) :: (2, 0, 0, 0, 0, 0) :: (1, 1, 0, 0, 0, 0) :: (49, 21, 5, 1, 147, 2198) :: (50, 235, 5, 2, 151, 2208) :: (26, 36, 5, 0, 0, 0) :: (1, 1, 0, 0, 0, 0) :: (55, 0, 0, 0, 0, 0) :: bl_264_36
def bl_264_24 : List (Nat × Nat × Int × Nat × Nat × Nat) := (0, 0, 1, 0, 0, 0) :: (3, 1, 0, 0, 0, 0) :: bl_264_26
def bl_264_6 : List (Nat × Nat × Int × Nat × Nat × Nat) := (2, 0, 0, 0, 0, 0) :: (36, 3, 0, 5, 33, 1144) :: (2, 0, 0, 0, 0, 0) :: (36, 2, 0, 5, 22, 1143) :: (23, 24, 30, 0, 0, 0) :: (2, 0, 0, 0, 0, 0) :: (50, 20, 5, 1, 75, 2193) :: (0, 1, 97, 0, 0, 0) :: (0, 1, 122, 0, 0, 0) :: (52, 33, 8, 3, 143, 9) :: (26, 24, 16, 0, 0, 0) :: (2, 0, 0, 0, 0, 0) :: (18, 0, 0, 0, 0, 0) :: (36, 3, 0, 5, 33, 1144) :: (0, 0, 1, 0, 0, 0) :: (6, 0, 0, 0, 0, 0) :: (38, 3, 0, 5, 33, 1144) :: (32, 6, (-35), 0, 0, 0) :: bl_264_24
def bl_264_0 : List (Nat × Nat × Int × Nat × Nat × Nat) := (2, 0, 0, 0, 0, 0) :: (50, 75, 5, 1, 45, 2189) :: (2, 0, 0, 0, 0, 0) :: (2, 0, 0, 0, 0, 0) :: (36, 3, 0, 5, 33, 1144) :: (38, 5, 0, 5, 61, 1146) :: bl_264_6
-- 265 X6_bestWait
def bl_265_26 : List (Nat × Nat × Int × Nat × Nat × Nat) := (1, 3, 0, 0, 0, 0) :: (55, 0, 0, 0, 0, 0) :: []
def bl_265_24 : List (Nat × Nat × Int × Nat × Nat × Nat) := (5, 5, 1, 0, 0, 0) :: (32, 6, (-37), 0, 0, 0) :: bl_265_26
def bl_265_6 : List (Nat × Nat × Int × Nat × Nat × Nat) := (1, 5, 0, 0, 1, 0) :: (1, 2, 0, 0, 0, 0) :: (24, 26, 37, 0, 0, 0) :: (2, 0, 0, 0, 0, 0) :: (1, 1, 0, 0, 0, 0) :: (2, 0, 0, 0, 0, 0) :: (36, 3, 0, 6, 48, 2043) :: (1, 5, 0, 0, 1, 0) :: (6, 0, 0, 0, 0, 0) :: (50, 244, 6, 3, 135, 5081) :: (3, 6, 0, 0, 1, 0) :: (1, 6, 0, 0, 1, 0) :: (1, 4, 0, 0, 1, 0) :: (25, 24, 10, 0, 0, 0) :: (1, 6, 0, 0, 1, 0) :: (3, 4, 0, 0, 1, 0) :: (1, 5, 0, 0, 1, 0) :: (3, 3, 0, 0, 0, 0) :: bl_265_24
def bl_265_0 : List (Nat × Nat × Int × Nat × Nat × Nat) := (0, 0, 0, 0, 0, 0) :: (3, 3, 0, 0, 0, 0) :: (0, 0, 0, 0, 0, 0) :: (3, 4, 0, 0, 1, 0) :: (0, 0, 0, 0, 0, 0) :: (3, 5, 0, 0, 1, 0) :: bl_265_6
-- 266 X6_init
def bl_266_36 : List (Nat × Nat × Int × Nat × Nat × Nat) := (57, 0, 0, 0, 0, 0) :: []
def bl_266_21 : List (Nat × Nat × Int × Nat × Nat × Nat) := (1, 1, 0, 0, 0, 0) :: (2, 0, 0, 0, 0, 0) :: (37, 1, 0, 6, 20, 2039) :: (48, 0, 0, 0, 0, 0) :: (23, 36, 23, 0, 0, 0) :: (2, 0, 0, 0, 0, 0) :: (37, 1, 0, 6, 20, 2039) :: (1, 1, 0, 0, 0, 0) :: (58, 0, 0, 0, 18, 1176) :: (18, 0, 0, 0, 0, 0) :: (1, 1, 0, 0, 0, 0) :: (51, 55, 0, 2, 35, 1214) :: (47, 0, 0, 0, 0, 0) :: (5, 1, 1, 0, 0, 0) :: (32, 21, (-26), 0, 0, 0) :: bl_266_36
def bl_266_0 : List (Nat × Nat × Int × Nat × Nat × Nat) := (2, 0, 0, 0, 0, 0) :: (63, 0, 0, 0, 3, 1173) :: (2, 0, 0, 0, 0, 0) :: (58, 4, 0, 0, 9, 1174) :: (18, 0, 0, 0, 0, 0) :: (51, 234, 4, 1, 11, 1175) :: (39, 0, 0, 6, 12, 2035) :: (2, 0, 0, 0, 0, 0) :: (0, 1, 16, 0, 0, 0) :: (62, 104, 0, 0, 18, 1176) :: (39, 1, 0, 6, 20, 2039) :: (2, 0, 0, 0, 0, 0) :: (58, 1, 0, 0, 24, 1178) :: (18, 0, 0, 0, 0, 0) :: (54, 60, 1, 1, 26, 5) :: (39, 2, 0, 6, 27, 2041) :: (2, 0, 0, 0, 0, 0) :: (0, 0, (-1), 0, 0, 0) :: (38, 4, 0, 6, 31, 2046) :: (0, 0, 0, 0, 0, 0) :: (3, 1, 0, 0, 0, 0) :: bl_266_21
-- 267 X8_inspect
def bl_267_15 : List (Nat × Nat × Int × Nat × Nat × Nat) := (2, 0, 0, 0, 0, 0) :: (37, 1, 0, 8, 19, 2138) :: (1, 1, 0, 0, 0, 0) :: (50, 245, 6, 2, 144, 3216) :: (55, 0, 0, 0, 0, 0) :: []
def bl_267_8 : List (Nat × Nat × Int × Nat × Nat × Nat) := (2, 0, 0, 0, 0, 0) :: (37, 1, 0, 8, 19, 2138) :: (37, 2, 0, 6, 107, 2042) :: (50, 12, 1, 1, 111, 3151) :: (26, 15, 6, 0, 0, 0) :: (0, 1, (-4), 0, 0, 0) :: (55, 0, 0, 0, 0, 0) :: bl_267_15
def bl_267_0 : List (Nat × Nat × Int × Nat × Nat × Nat) := (2, 0, 0, 0, 0, 0) :: (37, 1, 0, 8, 19, 2138) :: (37, 0, 0, 6, 75, 2038) :: (1, 1, 0, 0, 0, 0) :: (50, 15, 4, 2, 95, 3124) :: (27, 8, 5, 0, 0, 0) :: (0, 0, (-1), 0, 0, 0) :: (55, 0, 0, 0, 0, 0) :: bl_267_8
-- 268 X8_payFines
def bl_268_26 : List (Nat × Nat × Int × Nat × Nat × Nat) := (2, 0, 0, 0, 0, 0) :: (37, 1, 0, 8, 19, 2138) :: (2, 3, 0, 0, 0, 0) :: (1, 2, 0, 0, 0, 0) :: (50, 243, 6, 3, 151, 4012) :: (2, 3, 0, 0, 0, 0) :: (50, 56, 0, 1, 154, 4034) :: (55, 0, 0, 0, 0, 0) :: []
def bl_268_19 : List (Nat × Nat × Int × Nat × Nat × Nat) := (2, 0, 0, 0, 0, 0) :: (37, 1, 0, 8, 19, 2138) :: (37, 2, 0, 6, 107, 2042) :: (50, 12, 1, 1, 111, 3151) :: (26, 26, 6, 0, 0, 0) :: (0, 1, (-4), 0, 0, 0) :: (55, 0, 0, 0, 0, 0) :: bl_268_26
def bl_268_14 : List (Nat × Nat × Int × Nat × Nat × Nat) := (2, 3, 0, 0, 0, 0) :: (50, 57, 0, 1, 148, 4008) :: (26, 19, 6, 0, 0, 0) :: (0, 1, (-3), 0, 0, 0) :: (55, 0, 0, 0, 0, 0) :: bl_268_19
def bl_268_12 : List (Nat × Nat × Int × Nat × Nat × Nat) := (0, 0, (-1), 0, 0, 0) :: (55, 0, 0, 0, 0, 0) :: bl_268_14
def bl_268_0 : List (Nat × Nat × Int × Nat × Nat × Nat) := (2, 0, 0, 0, 0, 0) :: (37, 1, 0, 8, 19, 2138) :: (1, 1, 0, 0, 0, 0) :: (50, 22, 6, 2, 91, 3120) :: (4, 3, 0, 0, 0, 0) :: (2, 3, 0, 0, 0, 0) :: (33, 12, 13, 0, 0, 0) :: (1, 2, 0, 0, 0, 0) :: (0, 0, 1, 0, 0, 0) :: (0, 3, 99999, 0, 147, 4007) :: (49, 33, 8, 3, 45, 2160) :: (27, 14, 5, 0, 0, 0) :: bl_268_12
-- 269 X8_restoreSnapshot
def bl_269_14 : List (Nat × Nat × Int × Nat × Nat × Nat) := (2, 0, 0, 0, 0, 0) :: (37, 1, 0, 8, 19, 2138) :: (2, 0, 0, 0, 0, 0) :: (37, 2, 0, 8, 23, 2139) :: (1, 1, 0, 0, 0, 0) :: (46, 0, 0, 0, 0, 0) :: (50, 241, 6, 2, 198, 4131) :: (2, 0, 0, 0, 0, 0) :: (37, 1, 0, 8, 19, 2138) :: (36, 3, 0, 6, 88, 2045) :: (55, 0, 0, 0, 0, 0) :: []
def bl_269_7 : List (Nat × Nat × Int × Nat × Nat × Nat) := (2, 0, 0, 0, 0, 0) :: (37, 3, 0, 8, 27, 2140) :: (1, 1, 0, 0, 0, 0) :: (42, 0, 0, 0, 0, 0) :: (27, 14, 6, 0, 0, 0) :: (0, 1, (-3), 0, 0, 0) :: (55, 0, 0, 0, 0, 0) :: bl_269_14
def bl_269_0 : List (Nat × Nat × Int × Nat × Nat × Nat) := (1, 1, 0, 0, 0, 0) :: (0, 0, 0, 0, 0, 0) :: (0, 0, 1, 0, 0, 0) :: (49, 33, 8, 3, 45, 2160) :: (27, 7, 5, 0, 0, 0) :: (0, 0, (-1), 0, 0, 0) :: (55, 0, 0, 0, 0, 0) :: bl_269_7
-- 270 X8_saveSnapshot
def bl_270_7 : List (Nat × Nat × Int × Nat × Nat × Nat) := (2, 0, 0, 0, 0, 0) :: (37, 2, 0, 8, 23, 2139) :: (1, 1, 0, 0, 0, 0) :: (46, 0, 0, 0, 0, 0) :: (2, 0, 0, 0, 0, 0) :: (37, 1, 0, 8, 19, 2138) :: (50, 241, 6, 2, 198, 4131) :: (2, 0, 0, 0, 0, 0) :: (37, 3, 0, 8, 27, 2140) :: (1, 1, 0, 0, 0, 0) :: (0, 0, 1, 0, 0, 0) :: (43, 0, 0, 0, 0, 0) :: (2, 0, 0, 0, 0, 0) :: (37, 1, 0, 8, 19, 2138) :: (36, 3, 0, 6, 88, 2045) :: (55, 0, 0, 0, 0, 0) :: []
def bl_270_0 : List (Nat × Nat × Int × Nat × Nat × Nat) := (1, 1, 0, 0, 0, 0) :: (0, 0, 0, 0, 0, 0) :: (0, 0, 1, 0, 0, 0) :: (49, 33, 8, 3, 45, 2160) :: (27, 7, 5, 0, 0, 0) :: (0, 0, (-1), 0, 0, 0) :: (55, 0, 0, 0, 0, 0) :: bl_270_7
-- 271 X8_ticketsAfter
def bl_271_13 : List (Nat × Nat × Int × Nat × Nat × Nat) := (2, 0, 0, 0, 0, 0) :: (37, 1, 0, 8, 19, 2138) :: (1, 1, 0, 0, 0, 0) :: (2, 0, 0, 0, 0, 0) :: (37, 1, 0, 8, 19, 2138) :: (36, 3, 0, 6, 88, 2045) :: (1, 2, 0, 0, 0, 0) :: (6, 0, 0, 0, 0, 0) :: (50, 242, 6, 3, 303, 5069) :: (55, 0, 0, 0, 0, 0) :: []
def bl_271_11 : List (Nat × Nat × Int × Nat × Nat × Nat) := (0, 0, (-1), 0, 0, 0) :: (55, 0, 0, 0, 0, 0) :: bl_271_13
def bl_271_0 : List (Nat × Nat × Int × Nat × Nat × Nat) := (2, 0, 0, 0, 0, 0) :: (37, 1, 0, 8, 19, 2138) :: (37, 0, 0, 6, 75, 2038) :: (1, 1, 0, 0, 0, 0) :: (50, 15, 4, 2, 95, 3124) :: (26, 11, 14, 0, 0, 0) :: (1, 2, 0, 0, 0, 0) :: (0, 0, 0, 0, 0, 0) :: (0, 2, 600, 0, 0, 0) :: (49, 33, 8, 3, 45, 2160) :: (27, 13, 5, 0, 0, 0) :: bl_271_11
-- 272 X9_patrolMinutes
def bl_272_9 : List (Nat × Nat × Int × Nat × Nat × Nat) := (55, 0, 0, 0, 0, 0) :: []
def bl_272_8 : List (Nat × Nat × Int × Nat × Nat × Nat) := (0, 0, (-1), 0, 0, 0) :: bl_272_9
def bl_272_0 : List (Nat × Nat × Int × Nat × Nat × Nat) := (2, 0, 0, 0, 0, 0) :: (1, 1, 0, 0, 0, 0) :: (1, 2, 0, 0, 0, 0) :: (50, 256, 9, 3, 299, 8155) :: (26, 8, 10, 0, 0, 0) :: (2, 0, 0, 0, 0, 0) :: (36, 26, 0, 9, 293, 6140) :: (32, 9, 4, 0, 0, 0) :: bl_272_8
-- 273 X9_patrolSet
def bl_273_9 : List (Nat × Nat × Int × Nat × Nat × Nat) := (55, 0, 0, 0, 0, 0) :: []
def bl_273_8 : List (Nat × Nat × Int × Nat × Nat × Nat) := (0, 0, (-1), 0, 0, 0) :: bl_273_9
def bl_273_0 : List (Nat × Nat × Int × Nat × Nat × Nat) := (2, 0, 0, 0, 0, 0) :: (1, 1, 0, 0, 0, 0) :: (1, 2, 0, 0, 0, 0) :: (50, 256, 9, 3, 299, 8155) :: (26, 8, 10, 0, 0, 0) :: (2, 0, 0, 0, 0, 0) :: (36, 24, 0, 9, 287, 6138) :: (32, 9, 4, 0, 0, 0) :: bl_273_8
-- 274 X9_patrolValue
def bl_274_9 : List (Nat × Nat × Int × Nat × Nat × Nat) := (55, 0, 0, 0, 0, 0) :: []
def bl_274_8 : List (Nat × Nat × Int × Nat × Nat × Nat) := (0, 0, (-1), 0, 0, 0) :: bl_274_9
def bl_274_0 : List (Nat × Nat × Int × Nat × Nat × Nat) := (2, 0, 0, 0, 0, 0) :: (1, 1, 0, 0, 0, 0) :: (1, 2, 0, 0, 0, 0) :: (50, 256, 9, 3, 299, 8155) :: (26, 8, 10, 0, 0, 0) :: (2, 0, 0, 0, 0, 0) :: (36, 25, 0, 9, 290, 6139) :: (32, 9, 4, 0, 0, 0) :: bl_274_8
-- 275 X9_statement
def bl_275_71 : List (Nat × Nat × Int × Nat × Nat × Nat) := (57, 0, 0, 0, 0, 0) :: []
def bl_275_66 : List (Nat × Nat × Int × Nat × Nat × Nat) := (2, 0, 0, 0, 0, 0) :: (0, 0, 1, 0, 0, 0) :: (2, 0, 0, 0, 0, 0) :: (36, 8, 0, 9, 84, 6122) :: (50, 38, 9, 3, 104, 6230) :: bl_275_71
def bl_275_59 : List (Nat × Nat × Int × Nat × Nat × Nat) := (2, 0, 0, 0, 0, 0) :: (65, 17, 0, 0, 139, 0) :: (50, 255, 9, 2, 119, 6224) :: (26, 66, 10, 0, 0, 0) :: (2, 0, 0, 0, 0, 0) :: (50, 257, 9, 1, 141, 7028) :: (32, 71, 12, 0, 0, 0) :: bl_275_66
def bl_275_43 : List (Nat × Nat × Int × Nat × Nat × Nat) := (2, 0, 0, 0, 0, 0) :: (65, 16, 0, 0, 137, 0) :: (50, 255, 9, 2, 119, 6224) :: (26, 59, 24, 0, 0, 0) :: (2, 0, 0, 0, 0, 0) :: (0, 2, 213, 0, 0, 0) :: (2, 0, 0, 0, 0, 0) :: (37, 1, 0, 9, 13, 6115) :: (0, 0, 0, 0, 0, 0) :: (40, 0, 0, 0, 0, 0) :: (0, 0, 1, 0, 0, 0) :: (7, 0, 0, 0, 0, 0) :: (0, 0, 0, 0, 0, 0) :: (0, 1, 8, 0, 0, 0) :: (50, 227, 9, 5, 127, 7016) :: (32, 71, 28, 0, 0, 0) :: bl_275_59
def bl_275_32 : List (Nat × Nat × Int × Nat × Nat × Nat) := (2, 0, 0, 0, 0, 0) :: (65, 15, 0, 0, 135, 0) :: (50, 255, 9, 2, 119, 6224) :: (26, 43, 19, 0, 0, 0) :: (2, 0, 0, 0, 0, 0) :: (0, 2, 329, 0, 0, 0) :: (0, 0, 3, 0, 0, 0) :: (0, 1, 10, 0, 0, 0) :: (0, 2, 600, 0, 0, 0) :: (50, 227, 9, 5, 127, 7016) :: (32, 71, 58, 0, 0, 0) :: bl_275_43
def bl_275_25 : List (Nat × Nat × Int × Nat × Nat × Nat) := (2, 0, 0, 0, 0, 0) :: (65, 14, 0, 0, 131, 0) :: (50, 255, 9, 2, 119, 6224) :: (26, 32, 10, 0, 0, 0) :: (2, 0, 0, 0, 0, 0) :: (50, 226, 9, 1, 133, 7021) :: (32, 71, 83, 0, 0, 0) :: bl_275_32
def bl_275_9 : List (Nat × Nat × Int × Nat × Nat × Nat) := (2, 0, 0, 0, 0, 0) :: (65, 13, 0, 0, 125, 0) :: (50, 255, 9, 2, 119, 6224) :: (26, 25, 23, 0, 0, 0) :: (2, 0, 0, 0, 0, 0) :: (0, 2, 203, 0, 0, 0) :: (2, 0, 0, 0, 0, 0) :: (37, 1, 0, 9, 13, 6115) :: (0, 0, 0, 0, 0, 0) :: (40, 0, 0, 0, 0, 0) :: (0, 0, 1, 0, 0, 0) :: (7, 0, 0, 0, 0, 0) :: (0, 0, 0, 0, 0, 0) :: (0, 0, 3, 0, 0, 0) :: (50, 227, 9, 5, 127, 7016) :: (32, 71, 99, 0, 0, 0) :: bl_275_25
def bl_275_0 : List (Nat × Nat × Int × Nat × Nat × Nat) := (2, 0, 0, 0, 0, 0) :: (50, 178, 9, 1, 114, 6211) :: (2, 0, 0, 0, 0, 0) :: (65, 12, 0, 0, 117, 0) :: (50, 255, 9, 2, 119, 6224) :: (26, 9, 10, 0, 0, 0) :: (2, 0, 0, 0, 0, 0) :: (50, 258, 9, 1, 123, 7007) :: (32, 71, 128, 0, 0, 0) :: bl_275_9
-- 276 X9_trips_2
def bl_276_137 : List (Nat × Nat × Int × Nat × Nat × Nat) := (57, 0, 0, 0, 0, 0) :: []
def bl_276_135 : List (Nat × Nat × Int × Nat × Nat × Nat) := (5, 5, 1, 0, 0, 0) :: (32, 43, (-159), 0, 0, 0) :: bl_276_137
def bl_276_133 : List (Nat × Nat × Int × Nat × Nat × Nat) := (5, 7, 1, 0, 0, 0) :: (32, 54, (-132), 0, 0, 0) :: bl_276_135
def bl_276_93 : List (Nat × Nat × Int × Nat × Nat × Nat) := (2, 0, 0, 0, 0, 0) :: (37, 17, 0, 9, 42, 6131) :: (1, 7, 0, 0, 1, 0) :: (69, 0, 0, 0, 0, 0) :: (40, 0, 0, 0, 0, 0) :: (0, 0, 1, 0, 0, 0) :: (7, 0, 0, 0, 0, 0) :: (41, 0, 0, 0, 0, 0) :: (2, 0, 0, 0, 0, 0) :: (37, 13, 0, 9, 30, 6127) :: (1, 1, 0, 0, 0, 0) :: (1, 6, 0, 0, 1, 0) :: (41, 0, 0, 0, 0, 0) :: (2, 0, 0, 0, 0, 0) :: (37, 14, 0, 9, 33, 6128) :: (1, 1, 0, 0, 0, 0) :: (1, 7, 0, 0, 1, 0) :: (41, 0, 0, 0, 0, 0) :: (2, 0, 0, 0, 0, 0) :: (1, 1, 0, 0, 0, 0) :: (0, 0, 1, 0, 0, 0) :: (6, 0, 0, 0, 0, 0) :: (1, 7, 0, 0, 1, 0) :: (1, 3, 0, 0, 0, 0) :: (0, 0, 1, 0, 0, 0) :: (1, 5, 0, 0, 1, 0) :: (14, 0, 0, 0, 0, 0) :: (12, 0, 0, 0, 0, 0) :: (1, 4, 0, 0, 1, 0) :: (1, 8, 0, 0, 1, 0) :: (6, 0, 0, 0, 0, 0) :: (50, 260, 9, 5, 246, 7164) :: (2, 0, 0, 0, 0, 0) :: (37, 17, 0, 9, 42, 6131) :: (1, 7, 0, 0, 1, 0) :: (69, 0, 0, 0, 0, 0) :: (40, 0, 0, 0, 0, 0) :: (0, 0, 1, 0, 0, 0) :: (6, 0, 0, 0, 0, 0) :: (41, 0, 0, 0, 0, 0) :: bl_276_133
def bl_276_54 : List (Nat × Nat × Int × Nat × Nat × Nat) := (1, 7, 0, 0, 1, 0) :: (2, 0, 0, 0, 0, 0) :: (37, 0, 0, 9, 9, 6114) :: (0, 0, 0, 0, 0, 0) :: (40, 0, 0, 0, 0, 0) :: (23, 135, 127, 0, 0, 0) :: (1, 3, 0, 0, 0, 0) :: (1, 5, 0, 0, 1, 0) :: (15, 0, 0, 0, 0, 0) :: (0, 0, 1, 0, 0, 0) :: (11, 0, 0, 0, 0, 0) :: (27, 135, 118, 0, 0, 0) :: (2, 0, 0, 0, 0, 0) :: (1, 2, 0, 0, 0, 0) :: (2, 0, 0, 0, 0, 0) :: (1, 6, 0, 0, 1, 0) :: (0, 0, 1, 0, 0, 0) :: (50, 46, 9, 3, 161, 7054) :: (50, 51, 9, 3, 249, 7168) :: (0, 1, 10, 0, 0, 0) :: (6, 0, 0, 0, 0, 0) :: (2, 0, 0, 0, 0, 0) :: (2, 0, 0, 0, 0, 0) :: (1, 6, 0, 0, 1, 0) :: (0, 0, 1, 0, 0, 0) :: (50, 46, 9, 3, 161, 7054) :: (1, 7, 0, 0, 1, 0) :: (50, 51, 9, 3, 249, 7168) :: (6, 0, 0, 0, 0, 0) :: (3, 8, 0, 0, 1, 0) :: (2, 0, 0, 0, 0, 0) :: (37, 17, 0, 9, 42, 6131) :: (1, 7, 0, 0, 1, 0) :: (40, 0, 0, 0, 0, 0) :: (26, 133, 71, 0, 0, 0) :: (1, 8, 0, 0, 1, 0) :: (0, 3, 1000000, 0, 63, 6109) :: (22, 93, 6, 0, 0, 0) :: (32, 133, 61, 0, 0, 0) :: bl_276_93
def bl_276_43 : List (Nat × Nat × Int × Nat × Nat × Nat) := (1, 5, 0, 0, 1, 0) :: (2, 0, 0, 0, 0, 0) :: (36, 18, 0, 9, 231, 6132) :: (23, 137, 156, 0, 0, 0) :: (2, 0, 0, 0, 0, 0) :: (37, 12, 0, 9, 27, 6126) :: (1, 5, 0, 0, 1, 0) :: (40, 0, 0, 0, 0, 0) :: (3, 6, 0, 0, 1, 0) :: (0, 0, 0, 0, 0, 0) :: (3, 7, 0, 0, 1, 0) :: bl_276_54
def bl_276_41 : List (Nat × Nat × Int × Nat × Nat × Nat) := (0, 0, 0, 0, 0, 0) :: (3, 5, 0, 0, 1, 0) :: bl_276_43
def bl_276_20 : List (Nat × Nat × Int × Nat × Nat × Nat) := (1, 5, 0, 0, 1, 0) :: (1, 1, 0, 0, 0, 0) :: (23, 41, 37, 0, 0, 0) :: (2, 0, 0, 0, 0, 0) :: (37, 15, 0, 9, 36, 6129) :: (1, 5, 0, 0, 1, 0) :: (2, 0, 0, 0, 0, 0) :: (37, 13, 0, 9, 30, 6127) :: (1, 5, 0, 0, 1, 0) :: (40, 0, 0, 0, 0, 0) :: (41, 0, 0, 0, 0, 0) :: (2, 0, 0, 0, 0, 0) :: (37, 16, 0, 9, 39, 6130) :: (1, 5, 0, 0, 1, 0) :: (2, 0, 0, 0, 0, 0) :: (37, 14, 0, 9, 33, 6128) :: (1, 5, 0, 0, 1, 0) :: (40, 0, 0, 0, 0, 0) :: (41, 0, 0, 0, 0, 0) :: (5, 5, 1, 0, 0, 0) :: (32, 20, (-37), 0, 0, 0) :: bl_276_41
def bl_276_12 : List (Nat × Nat × Int × Nat × Nat × Nat) := (2, 0, 0, 0, 0, 0) :: (1, 1, 0, 0, 0, 0) :: (38, 19, 0, 9, 240, 6133) :: (2, 0, 0, 0, 0, 0) :: (1, 4, 0, 0, 1, 0) :: (38, 20, 0, 9, 243, 6134) :: (0, 0, 0, 0, 0, 0) :: (3, 5, 0, 0, 1, 0) :: bl_276_20
def bl_276_0 : List (Nat × Nat × Int × Nat × Nat × Nat) := (1, 1, 0, 0, 0, 0) :: (2, 0, 0, 0, 0, 0) :: (36, 19, 0, 9, 240, 6133) :: (24, 12, 20, 0, 0, 0) :: (1, 1, 0, 0, 0, 0) :: (2, 0, 0, 0, 0, 0) :: (36, 19, 0, 9, 240, 6133) :: (21, 41, 66, 0, 0, 0) :: (1, 4, 0, 0, 1, 0) :: (2, 0, 0, 0, 0, 0) :: (36, 20, 0, 9, 243, 6134) :: (23, 41, 57, 0, 0, 0) :: bl_276_12
-- 277 X2_plan
def bl_277_39 : List (Nat × Nat × Int × Nat × Nat × Nat) := (57, 0, 0, 0, 0, 0) :: []
def bl_277_37 : List (Nat × Nat × Int × Nat × Nat × Nat) := (5, 5, 1, 0, 0, 0) :: (32, 18, (-38), 0, 0, 0) :: bl_277_39
def bl_277_18 : List (Nat × Nat × Int × Nat × Nat × Nat) := (1, 5, 0, 0, 1, 0) :: (0, 0, 1, 0, 0, 0) :: (2, 1, 0, 0, 0, 0) :: (37, 0, 0, 6, 35, 2037) :: (36, 0, 0, 4, 41, 1101) :: (14, 0, 0, 0, 0, 0) :: (23, 39, 30, 0, 0, 0) :: (1, 5, 0, 0, 1, 0) :: (1, 4, 0, 0, 1, 0) :: (0, 0, (-1), 0, 0, 0) :: (13, 0, 0, 0, 0, 0) :: (11, 0, 0, 0, 0, 0) :: (27, 37, 14, 0, 0, 0) :: (2, 0, 0, 0, 0, 0) :: (1, 5, 0, 0, 1, 0) :: (2, 1, 0, 0, 0, 0) :: (37, 0, 0, 6, 35, 2037) :: (1, 3, 0, 0, 0, 0) :: (50, 187, 2, 4, 46, 5136) :: bl_277_37
def bl_277_0 : List (Nat × Nat × Int × Nat × Nat × Nat) := (2, 0, 0, 0, 0, 0) :: (1, 2, 0, 0, 0, 0) :: (38, 2, 0, 2, 18, 2117) :: (2, 0, 0, 0, 0, 0) :: (0, 0, 0, 0, 0, 0) :: (38, 3, 0, 2, 22, 2118) :: (2, 0, 0, 0, 0, 0) :: (0, 0, 0, 0, 0, 0) :: (38, 4, 0, 2, 25, 2120) :: (2, 0, 0, 0, 0, 0) :: (0, 0, 0, 0, 0, 0) :: (38, 5, 0, 2, 28, 2122) :: (2, 0, 0, 0, 0, 0) :: (2, 1, 0, 0, 0, 0) :: (50, 261, 2, 2, 31, 5130) :: (3, 4, 0, 0, 1, 0) :: (0, 0, 1, 0, 0, 0) :: (3, 5, 0, 0, 1, 0) :: bl_277_18
-- 278 X5_readPlaces
def bl_278_21 : List (Nat × Nat × Int × Nat × Nat × Nat) := (57, 0, 0, 0, 0, 0) :: []
def bl_278_9 : List (Nat × Nat × Int × Nat × Nat × Nat) := (2, 0, 0, 0, 0, 0) :: (0, 0, 1, 0, 0, 0) :: (0, 1, 10, 0, 0, 0) :: (50, 137, 5, 3, 68, 3025) :: (3, 1, 0, 0, 0, 0) :: (2, 0, 0, 0, 0, 0) :: (36, 6, 0, 5, 36, 1148) :: (27, 21, 11, 0, 0, 0) :: (2, 0, 0, 0, 0, 0) :: (37, 0, 0, 5, 12, 1140) :: (1, 1, 0, 0, 0, 0) :: (38, 0, 0, 4, 72, 1104) :: bl_278_21
def bl_278_0 : List (Nat × Nat × Int × Nat × Nat × Nat) := (2, 0, 0, 0, 0, 0) :: (50, 264, 5, 1, 57, 2185) :: (0, 0, 1, 0, 0, 0) :: (20, 9, 12, 0, 0, 0) :: (2, 0, 0, 0, 0, 0) :: (0, 0, 1, 0, 0, 0) :: (2, 0, 0, 0, 0, 0) :: (36, 5, 0, 5, 61, 1146) :: (50, 17, 5, 3, 64, 3021) :: bl_278_9
-- 279 X5_readStatement
def bl_279_30 : List (Nat × Nat × Int × Nat × Nat × Nat) := (57, 0, 0, 0, 0, 0) :: []
def bl_279_25 : List (Nat × Nat × Int × Nat × Nat × Nat) := (2, 0, 0, 0, 0, 0) :: (0, 0, 1, 0, 0, 0) :: (2, 0, 0, 0, 0, 0) :: (36, 5, 0, 5, 61, 1146) :: (50, 17, 5, 3, 64, 3021) :: bl_279_30
def bl_279_22 : List (Nat × Nat × Int × Nat × Nat × Nat) := (2, 0, 0, 0, 0, 0) :: (50, 236, 5, 1, 93, 3080) :: (32, 30, 12, 0, 0, 0) :: bl_279_25
def bl_279_19 : List (Nat × Nat × Int × Nat × Nat × Nat) := (2, 0, 0, 0, 0, 0) :: (50, 238, 5, 1, 90, 3076) :: (32, 30, 19, 0, 0, 0) :: bl_279_22
def bl_279_16 : List (Nat × Nat × Int × Nat × Nat × Nat) := (2, 0, 0, 0, 0, 0) :: (50, 194, 5, 1, 87, 3072) :: (32, 30, 26, 0, 0, 0) :: bl_279_19
def bl_279_13 : List (Nat × Nat × Int × Nat × Nat × Nat) := (2, 0, 0, 0, 0, 0) :: (50, 193, 5, 1, 84, 3059) :: (32, 30, 33, 0, 0, 0) :: bl_279_16
def bl_279_10 : List (Nat × Nat × Int × Nat × Nat × Nat) := (2, 0, 0, 0, 0, 0) :: (50, 239, 5, 1, 81, 3055) :: (32, 30, 40, 0, 0, 0) :: bl_279_13
def bl_279_7 : List (Nat × Nat × Int × Nat × Nat × Nat) := (2, 0, 0, 0, 0, 0) :: (50, 237, 5, 1, 78, 3042) :: (32, 30, 47, 0, 0, 0) :: bl_279_10
def bl_279_4 : List (Nat × Nat × Int × Nat × Nat × Nat) := (2, 0, 0, 0, 0, 0) :: (50, 264, 5, 1, 57, 2185) :: (35, 2, 2, 25, 0, 0) :: bl_279_7
def bl_279_0 : List (Nat × Nat × Int × Nat × Nat × Nat) := (2, 0, 0, 0, 0, 0) :: (36, 6, 0, 5, 36, 1148) :: (26, 4, 4, 0, 0, 0) :: (57, 0, 0, 0, 0, 0) :: bl_279_4
-- 280 X8_bestInspection
def bl_280_13 : List (Nat × Nat × Int × Nat × Nat × Nat) := (2, 0, 0, 0, 0, 0) :: (37, 1, 0, 8, 19, 2138) :: (1, 1, 0, 0, 0, 0) :: (1, 2, 0, 0, 0, 0) :: (50, 265, 6, 3, 306, 5077) :: (55, 0, 0, 0, 0, 0) :: []
def bl_280_11 : List (Nat × Nat × Int × Nat × Nat × Nat) := (0, 0, (-1), 0, 0, 0) :: (55, 0, 0, 0, 0, 0) :: bl_280_13
def bl_280_0 : List (Nat × Nat × Int × Nat × Nat × Nat) := (2, 0, 0, 0, 0, 0) :: (37, 1, 0, 8, 19, 2138) :: (37, 0, 0, 6, 75, 2038) :: (1, 1, 0, 0, 0, 0) :: (50, 15, 4, 2, 95, 3124) :: (26, 11, 13, 0, 0, 0) :: (1, 2, 0, 0, 0, 0) :: (0, 0, 0, 0, 0, 0) :: (0, 1, 120, 0, 0, 0) :: (49, 33, 8, 3, 45, 2160) :: (27, 13, 5, 0, 0, 0) :: bl_280_11
-- 281 X8_init
def bl_281_32 : List (Nat × Nat × Int × Nat × Nat × Nat) := (2, 0, 0, 0, 0, 0) :: (0, 0, 2, 0, 0, 0) :: (60, 0, 0, 0, 0, 0) :: (39, 3, 0, 8, 27, 2140) :: (2, 0, 0, 0, 0, 0) :: (58, 3, 0, 0, 31, 2061) :: (18, 0, 0, 0, 0, 0) :: (54, 66, 3, 1, 33, 6) :: (39, 4, 0, 8, 34, 2141) :: (2, 0, 0, 0, 0, 0) :: (58, 2, 0, 0, 38, 2109) :: (18, 0, 0, 0, 0, 0) :: (54, 63, 2, 1, 40, 7) :: (39, 5, 0, 8, 41, 2142) :: (57, 0, 0, 0, 0, 0) :: []
def bl_281_18 : List (Nat × Nat × Int × Nat × Nat × Nat) := (1, 1, 0, 0, 0, 0) :: (2, 0, 0, 0, 0, 0) :: (37, 2, 0, 8, 23, 2139) :: (48, 0, 0, 0, 0, 0) :: (23, 32, 22, 0, 0, 0) :: (2, 0, 0, 0, 0, 0) :: (37, 2, 0, 8, 23, 2139) :: (1, 1, 0, 0, 0, 0) :: (58, 6, 0, 0, 16, 1168) :: (18, 0, 0, 0, 0, 0) :: (51, 266, 6, 1, 18, 1170) :: (47, 0, 0, 0, 0, 0) :: (5, 1, 1, 0, 0, 0) :: (32, 18, (-25), 0, 0, 0) :: bl_281_32
def bl_281_0 : List (Nat × Nat × Int × Nat × Nat × Nat) := (2, 0, 0, 0, 0, 0) :: (63, 0, 0, 0, 1, 1030) :: (2, 0, 0, 0, 0, 0) :: (58, 5, 0, 0, 7, 1033) :: (18, 0, 0, 0, 0, 0) :: (54, 263, 5, 1, 9, 0) :: (39, 0, 0, 8, 10, 2137) :: (2, 0, 0, 0, 0, 0) :: (58, 6, 0, 0, 16, 1168) :: (18, 0, 0, 0, 0, 0) :: (51, 266, 6, 1, 18, 1170) :: (39, 1, 0, 8, 19, 2138) :: (2, 0, 0, 0, 0, 0) :: (0, 0, 2, 0, 0, 0) :: (62, 105, 0, 0, 16, 1168) :: (39, 2, 0, 8, 23, 2139) :: (0, 0, 0, 0, 0, 0) :: (3, 1, 0, 0, 0, 0) :: bl_281_18
-- 282 X8_tourLength
def bl_282_0 : List (Nat × Nat × Int × Nat × Nat × Nat) := (2, 0, 0, 0, 0, 0) :: (37, 4, 0, 8, 34, 2141) :: (2, 0, 0, 0, 0, 0) :: (37, 1, 0, 8, 19, 2138) :: (50, 262, 3, 2, 158, 4043) :: (2, 0, 0, 0, 0, 0) :: (37, 4, 0, 8, 34, 2141) :: (36, 11, 0, 3, 170, 2082) :: (55, 0, 0, 0, 0, 0) :: []
-- 283 X8_tourMinutes
def bl_283_0 : List (Nat × Nat × Int × Nat × Nat × Nat) := (2, 0, 0, 0, 0, 0) :: (37, 4, 0, 8, 34, 2141) :: (2, 0, 0, 0, 0, 0) :: (37, 1, 0, 8, 19, 2138) :: (50, 262, 3, 2, 158, 4043) :: (2, 0, 0, 0, 0, 0) :: (37, 4, 0, 8, 34, 2141) :: (50, 67, 3, 1, 319, 5118) :: (55, 0, 0, 0, 0, 0) :: []
-- 284 X8_towNext
def bl_284_42 : List (Nat × Nat × Int × Nat × Nat × Nat) := (2, 0, 0, 0, 0, 0) :: (37, 1, 0, 8, 19, 2138) :: (1, 2, 0, 0, 0, 0) :: (38, 3, 0, 6, 88, 2045) :: (2, 0, 0, 0, 0, 0) :: (37, 1, 0, 8, 19, 2138) :: (2, 1, 0, 0, 0, 0) :: (2, 0, 0, 0, 0, 0) :: (37, 4, 0, 8, 34, 2141) :: (37, 7, 0, 3, 176, 2076) :: (0, 0, 0, 0, 0, 0) :: (49, 23, 8, 2, 166, 4116) :: (50, 196, 6, 3, 179, 4117) :: (2, 1, 0, 0, 0, 0) :: (36, 0, 0, 0, 182, 1221) :: (55, 0, 0, 0, 0, 0) :: []
def bl_284_40 : List (Nat × Nat × Int × Nat × Nat × Nat) := (0, 1, (-4), 0, 0, 0) :: (55, 0, 0, 0, 0, 0) :: bl_284_42
def bl_284_22 : List (Nat × Nat × Int × Nat × Nat × Nat) := (2, 0, 0, 0, 0, 0) :: (37, 1, 0, 8, 19, 2138) :: (36, 3, 0, 6, 88, 2045) :: (2, 0, 0, 0, 0, 0) :: (37, 4, 0, 8, 34, 2141) :: (37, 8, 0, 3, 173, 2078) :: (0, 0, 0, 0, 0, 0) :: (49, 23, 8, 2, 166, 4116) :: (6, 0, 0, 0, 0, 0) :: (3, 2, 0, 0, 0, 0) :: (2, 0, 0, 0, 0, 0) :: (37, 1, 0, 8, 19, 2138) :: (37, 2, 0, 6, 107, 2042) :: (50, 12, 1, 1, 111, 3151) :: (27, 40, 10, 0, 0, 0) :: (1, 2, 0, 0, 0, 0) :: (0, 2, 10079, 0, 0, 0) :: (25, 42, 6, 0, 0, 0) :: bl_284_40
def bl_284_20 : List (Nat × Nat × Int × Nat × Nat × Nat) := (0, 1, (-3), 0, 0, 0) :: (55, 0, 0, 0, 0, 0) :: bl_284_22
def bl_284_0 : List (Nat × Nat × Int × Nat × Nat × Nat) := (2, 0, 0, 0, 0, 0) :: (37, 4, 0, 8, 34, 2141) :: (2, 0, 0, 0, 0, 0) :: (37, 1, 0, 8, 19, 2138) :: (50, 262, 3, 2, 158, 4043) :: (2, 0, 0, 0, 0, 0) :: (37, 1, 0, 8, 19, 2138) :: (2, 0, 0, 0, 0, 0) :: (37, 4, 0, 8, 34, 2141) :: (37, 6, 0, 3, 162, 2074) :: (0, 0, 0, 0, 0, 0) :: (49, 23, 8, 2, 166, 4116) :: (50, 22, 6, 2, 91, 3120) :: (4, 1, 0, 0, 0, 0) :: (2, 0, 0, 0, 0, 0) :: (37, 4, 0, 8, 34, 2141) :: (36, 11, 0, 3, 170, 2082) :: (26, 20, 7, 0, 0, 0) :: (2, 1, 0, 0, 0, 0) :: (34, 22, 6, 0, 0, 0) :: bl_284_20
-- 285 X9_load
def bl_285_48 : List (Nat × Nat × Int × Nat × Nat × Nat) := (2, 0, 0, 0, 0, 0) :: (37, 1, 0, 9, 13, 6115) :: (49, 103, 9, 1, 55, 6110) :: (2, 0, 0, 0, 0, 0) :: (37, 1, 0, 9, 13, 6115) :: (0, 0, 0, 0, 0, 0) :: (2, 0, 0, 0, 0, 0) :: (37, 0, 0, 9, 9, 6114) :: (0, 0, 0, 0, 0, 0) :: (49, 36, 9, 4, 155, 7032) :: (2, 0, 0, 0, 0, 0) :: (37, 0, 0, 9, 9, 6114) :: (0, 0, 0, 0, 0, 0) :: (40, 0, 0, 0, 0, 0) :: (55, 0, 0, 0, 0, 0) :: []
def bl_285_33 : List (Nat × Nat × Int × Nat × Nat × Nat) := (2, 0, 0, 0, 0, 0) :: (0, 0, 0, 0, 0, 0) :: (38, 6, 0, 9, 74, 6120) :: (2, 0, 0, 0, 0, 0) :: (2, 0, 0, 0, 0, 0) :: (36, 9, 0, 9, 87, 6123) :: (38, 11, 0, 9, 152, 6125) :: (2, 0, 0, 0, 0, 0) :: (36, 9, 0, 9, 87, 6123) :: (26, 48, 11, 0, 0, 0) :: (0, 1, (-100), 0, 0, 0) :: (2, 0, 0, 0, 0, 0) :: (36, 10, 0, 9, 90, 6124) :: (7, 0, 0, 0, 0, 0) :: (55, 0, 0, 0, 0, 0) :: bl_285_48
def bl_285_27 : List (Nat × Nat × Int × Nat × Nat × Nat) := (2, 0, 0, 0, 0, 0) :: (50, 160, 9, 1, 145, 6238) :: (26, 33, 10, 0, 0, 0) :: (2, 0, 0, 0, 0, 0) :: (50, 275, 9, 1, 149, 7002) :: (32, 27, (-11), 0, 0, 0) :: bl_285_33
def bl_285_20 : List (Nat × Nat × Int × Nat × Nat × Nat) := (2, 0, 0, 0, 0, 0) :: (37, 1, 0, 9, 13, 6115) :: (2, 0, 0, 0, 0, 0) :: (0, 0, 1, 0, 0, 0) :: (0, 1, 10, 0, 0, 0) :: (50, 169, 9, 3, 108, 6234) :: (49, 34, 9, 2, 51, 6106) :: bl_285_27
def bl_285_0 : List (Nat × Nat × Int × Nat × Nat × Nat) := (2, 0, 0, 0, 0, 0) :: (0, 0, 0, 0, 0, 0) :: (38, 4, 0, 9, 59, 6118) :: (2, 0, 0, 0, 0, 0) :: (0, 0, 0, 0, 0, 0) :: (38, 7, 0, 9, 77, 6121) :: (2, 0, 0, 0, 0, 0) :: (0, 0, 0, 0, 0, 0) :: (38, 9, 0, 9, 87, 6123) :: (2, 0, 0, 0, 0, 0) :: (50, 178, 9, 1, 114, 6211) :: (2, 0, 0, 0, 0, 0) :: (65, 11, 0, 0, 143, 0) :: (50, 255, 9, 2, 119, 6224) :: (27, 20, 12, 0, 0, 0) :: (2, 0, 0, 0, 0, 0) :: (0, 0, 1, 0, 0, 0) :: (2, 0, 0, 0, 0, 0) :: (36, 8, 0, 9, 84, 6122) :: (50, 38, 9, 3, 104, 6230) :: bl_285_20
-- 286 X9_trips_1
def bl_286_137 : List (Nat × Nat × Int × Nat × Nat × Nat) := (57, 0, 0, 0, 0, 0) :: []
def bl_286_135 : List (Nat × Nat × Int × Nat × Nat × Nat) := (5, 5, 1, 0, 0, 0) :: (32, 43, (-159), 0, 0, 0) :: bl_286_137
def bl_286_133 : List (Nat × Nat × Int × Nat × Nat × Nat) := (5, 7, 1, 0, 0, 0) :: (32, 54, (-132), 0, 0, 0) :: bl_286_135
def bl_286_93 : List (Nat × Nat × Int × Nat × Nat × Nat) := (2, 0, 0, 0, 0, 0) :: (37, 17, 0, 9, 42, 6131) :: (1, 7, 0, 0, 1, 0) :: (69, 0, 0, 0, 0, 0) :: (40, 0, 0, 0, 0, 0) :: (0, 0, 1, 0, 0, 0) :: (7, 0, 0, 0, 0, 0) :: (41, 0, 0, 0, 0, 0) :: (2, 0, 0, 0, 0, 0) :: (37, 13, 0, 9, 30, 6127) :: (1, 1, 0, 0, 0, 0) :: (1, 6, 0, 0, 1, 0) :: (41, 0, 0, 0, 0, 0) :: (2, 0, 0, 0, 0, 0) :: (37, 14, 0, 9, 33, 6128) :: (1, 1, 0, 0, 0, 0) :: (1, 7, 0, 0, 1, 0) :: (41, 0, 0, 0, 0, 0) :: (2, 0, 0, 0, 0, 0) :: (1, 1, 0, 0, 0, 0) :: (0, 0, 1, 0, 0, 0) :: (6, 0, 0, 0, 0, 0) :: (1, 7, 0, 0, 1, 0) :: (1, 3, 0, 0, 0, 0) :: (0, 0, 1, 0, 0, 0) :: (1, 5, 0, 0, 1, 0) :: (14, 0, 0, 0, 0, 0) :: (12, 0, 0, 0, 0, 0) :: (1, 4, 0, 0, 1, 0) :: (1, 8, 0, 0, 1, 0) :: (6, 0, 0, 0, 0, 0) :: (50, 276, 9, 5, 246, 7164) :: (2, 0, 0, 0, 0, 0) :: (37, 17, 0, 9, 42, 6131) :: (1, 7, 0, 0, 1, 0) :: (69, 0, 0, 0, 0, 0) :: (40, 0, 0, 0, 0, 0) :: (0, 0, 1, 0, 0, 0) :: (6, 0, 0, 0, 0, 0) :: (41, 0, 0, 0, 0, 0) :: bl_286_133
def bl_286_54 : List (Nat × Nat × Int × Nat × Nat × Nat) := (1, 7, 0, 0, 1, 0) :: (2, 0, 0, 0, 0, 0) :: (37, 0, 0, 9, 9, 6114) :: (0, 0, 0, 0, 0, 0) :: (40, 0, 0, 0, 0, 0) :: (23, 135, 127, 0, 0, 0) :: (1, 3, 0, 0, 0, 0) :: (1, 5, 0, 0, 1, 0) :: (15, 0, 0, 0, 0, 0) :: (0, 0, 1, 0, 0, 0) :: (11, 0, 0, 0, 0, 0) :: (27, 135, 118, 0, 0, 0) :: (2, 0, 0, 0, 0, 0) :: (1, 2, 0, 0, 0, 0) :: (2, 0, 0, 0, 0, 0) :: (1, 6, 0, 0, 1, 0) :: (0, 0, 1, 0, 0, 0) :: (50, 46, 9, 3, 161, 7054) :: (50, 51, 9, 3, 249, 7168) :: (0, 1, 10, 0, 0, 0) :: (6, 0, 0, 0, 0, 0) :: (2, 0, 0, 0, 0, 0) :: (2, 0, 0, 0, 0, 0) :: (1, 6, 0, 0, 1, 0) :: (0, 0, 1, 0, 0, 0) :: (50, 46, 9, 3, 161, 7054) :: (1, 7, 0, 0, 1, 0) :: (50, 51, 9, 3, 249, 7168) :: (6, 0, 0, 0, 0, 0) :: (3, 8, 0, 0, 1, 0) :: (2, 0, 0, 0, 0, 0) :: (37, 17, 0, 9, 42, 6131) :: (1, 7, 0, 0, 1, 0) :: (40, 0, 0, 0, 0, 0) :: (26, 133, 71, 0, 0, 0) :: (1, 8, 0, 0, 1, 0) :: (0, 3, 1000000, 0, 63, 6109) :: (22, 93, 6, 0, 0, 0) :: (32, 133, 61, 0, 0, 0) :: bl_286_93
def bl_286_43 : List (Nat × Nat × Int × Nat × Nat × Nat) := (1, 5, 0, 0, 1, 0) :: (2, 0, 0, 0, 0, 0) :: (36, 18, 0, 9, 231, 6132) :: (23, 137, 156, 0, 0, 0) :: (2, 0, 0, 0, 0, 0) :: (37, 12, 0, 9, 27, 6126) :: (1, 5, 0, 0, 1, 0) :: (40, 0, 0, 0, 0, 0) :: (3, 6, 0, 0, 1, 0) :: (0, 0, 0, 0, 0, 0) :: (3, 7, 0, 0, 1, 0) :: bl_286_54
def bl_286_41 : List (Nat × Nat × Int × Nat × Nat × Nat) := (0, 0, 0, 0, 0, 0) :: (3, 5, 0, 0, 1, 0) :: bl_286_43
def bl_286_20 : List (Nat × Nat × Int × Nat × Nat × Nat) := (1, 5, 0, 0, 1, 0) :: (1, 1, 0, 0, 0, 0) :: (23, 41, 37, 0, 0, 0) :: (2, 0, 0, 0, 0, 0) :: (37, 15, 0, 9, 36, 6129) :: (1, 5, 0, 0, 1, 0) :: (2, 0, 0, 0, 0, 0) :: (37, 13, 0, 9, 30, 6127) :: (1, 5, 0, 0, 1, 0) :: (40, 0, 0, 0, 0, 0) :: (41, 0, 0, 0, 0, 0) :: (2, 0, 0, 0, 0, 0) :: (37, 16, 0, 9, 39, 6130) :: (1, 5, 0, 0, 1, 0) :: (2, 0, 0, 0, 0, 0) :: (37, 14, 0, 9, 33, 6128) :: (1, 5, 0, 0, 1, 0) :: (40, 0, 0, 0, 0, 0) :: (41, 0, 0, 0, 0, 0) :: (5, 5, 1, 0, 0, 0) :: (32, 20, (-37), 0, 0, 0) :: bl_286_41
def bl_286_12 : List (Nat × Nat × Int × Nat × Nat × Nat) := (2, 0, 0, 0, 0, 0) :: (1, 1, 0, 0, 0, 0) :: (38, 19, 0, 9, 240, 6133) :: (2, 0, 0, 0, 0, 0) :: (1, 4, 0, 0, 1, 0) :: (38, 20, 0, 9, 243, 6134) :: (0, 0, 0, 0, 0, 0) :: (3, 5, 0, 0, 1, 0) :: bl_286_20
def bl_286_0 : List (Nat × Nat × Int × Nat × Nat × Nat) := (1, 1, 0, 0, 0, 0) :: (2, 0, 0, 0, 0, 0) :: (36, 19, 0, 9, 240, 6133) :: (24, 12, 20, 0, 0, 0) :: (1, 1, 0, 0, 0, 0) :: (2, 0, 0, 0, 0, 0) :: (36, 19, 0, 9, 240, 6133) :: (21, 41, 66, 0, 0, 0) :: (1, 4, 0, 0, 1, 0) :: (2, 0, 0, 0, 0, 0) :: (36, 20, 0, 9, 243, 6134) :: (23, 41, 57, 0, 0, 0) :: bl_286_12
-- 287 X5_readBuffer
def bl_287_37 : List (Nat × Nat × Int × Nat × Nat × Nat) := (2, 0, 0, 0, 0, 0) :: (37, 0, 0, 5, 12, 1140) :: (50, 134, 4, 1, 54, 3093) :: (2, 0, 0, 0, 0, 0) :: (0, 0, 0, 0, 0, 0) :: (38, 2, 0, 5, 22, 1143) :: (57, 0, 0, 0, 0, 0) :: []
def bl_287_18 : List (Nat × Nat × Int × Nat × Nat × Nat) := (1, 1, 0, 0, 0, 0) :: (0, 2, 600, 0, 0, 0) :: (23, 37, 39, 0, 0, 0) :: (2, 0, 0, 0, 0, 0) :: (36, 6, 0, 5, 36, 1148) :: (27, 37, 32, 0, 0, 0) :: (2, 0, 0, 0, 0, 0) :: (36, 3, 0, 5, 33, 1144) :: (2, 0, 0, 0, 0, 0) :: (36, 2, 0, 5, 22, 1143) :: (23, 37, 21, 0, 0, 0) :: (2, 0, 0, 0, 0, 0) :: (50, 74, 5, 1, 48, 3034) :: (2, 0, 0, 0, 0, 0) :: (50, 279, 5, 1, 51, 3038) :: (2, 0, 0, 0, 0, 0) :: (50, 75, 5, 1, 45, 2189) :: (5, 1, 1, 0, 0, 0) :: (32, 18, (-40), 0, 0, 0) :: bl_287_37
def bl_287_0 : List (Nat × Nat × Int × Nat × Nat × Nat) := (2, 0, 0, 0, 0, 0) :: (37, 0, 0, 5, 12, 1140) :: (50, 190, 4, 1, 30, 2180) :: (2, 0, 0, 0, 0, 0) :: (0, 0, 0, 0, 0, 0) :: (38, 3, 0, 5, 33, 1144) :: (2, 0, 0, 0, 0, 0) :: (0, 0, 0, 0, 0, 0) :: (38, 6, 0, 5, 36, 1148) :: (2, 0, 0, 0, 0, 0) :: (0, 0, 0, 0, 0, 0) :: (38, 7, 0, 5, 39, 1150) :: (2, 0, 0, 0, 0, 0) :: (50, 278, 5, 1, 42, 2181) :: (2, 0, 0, 0, 0, 0) :: (50, 75, 5, 1, 45, 2189) :: (0, 0, 0, 0, 0, 0) :: (3, 1, 0, 0, 0, 0) :: bl_287_18
-- 288 X8_patrolMinutes
def bl_288_13 : List (Nat × Nat × Int × Nat × Nat × Nat) := (2, 0, 0, 0, 0, 0) :: (37, 5, 0, 8, 41, 2142) :: (2, 0, 0, 0, 0, 0) :: (37, 1, 0, 8, 19, 2138) :: (1, 1, 0, 0, 0, 0) :: (1, 2, 0, 0, 0, 0) :: (50, 277, 2, 4, 327, 5126) :: (2, 0, 0, 0, 0, 0) :: (37, 5, 0, 8, 41, 2142) :: (36, 4, 0, 2, 336, 2121) :: (55, 0, 0, 0, 0, 0) :: []
def bl_288_11 : List (Nat × Nat × Int × Nat × Nat × Nat) := (0, 0, (-1), 0, 0, 0) :: (55, 0, 0, 0, 0, 0) :: bl_288_13
def bl_288_0 : List (Nat × Nat × Int × Nat × Nat × Nat) := (2, 0, 0, 0, 0, 0) :: (37, 1, 0, 8, 19, 2138) :: (37, 0, 0, 6, 75, 2038) :: (1, 1, 0, 0, 0, 0) :: (50, 15, 4, 2, 95, 3124) :: (26, 11, 14, 0, 0, 0) :: (1, 2, 0, 0, 0, 0) :: (0, 0, 0, 0, 0, 0) :: (0, 2, 600, 0, 0, 0) :: (49, 33, 8, 3, 45, 2160) :: (27, 13, 5, 0, 0, 0) :: bl_288_11
-- 289 X8_patrolSet
def bl_289_13 : List (Nat × Nat × Int × Nat × Nat × Nat) := (2, 0, 0, 0, 0, 0) :: (37, 5, 0, 8, 41, 2142) :: (2, 0, 0, 0, 0, 0) :: (37, 1, 0, 8, 19, 2138) :: (1, 1, 0, 0, 0, 0) :: (1, 2, 0, 0, 0, 0) :: (50, 277, 2, 4, 327, 5126) :: (2, 0, 0, 0, 0, 0) :: (37, 5, 0, 8, 41, 2142) :: (36, 5, 0, 2, 333, 2123) :: (55, 0, 0, 0, 0, 0) :: []
def bl_289_11 : List (Nat × Nat × Int × Nat × Nat × Nat) := (0, 0, (-1), 0, 0, 0) :: (55, 0, 0, 0, 0, 0) :: bl_289_13
def bl_289_0 : List (Nat × Nat × Int × Nat × Nat × Nat) := (2, 0, 0, 0, 0, 0) :: (37, 1, 0, 8, 19, 2138) :: (37, 0, 0, 6, 75, 2038) :: (1, 1, 0, 0, 0, 0) :: (50, 15, 4, 2, 95, 3124) :: (26, 11, 14, 0, 0, 0) :: (1, 2, 0, 0, 0, 0) :: (0, 0, 0, 0, 0, 0) :: (0, 2, 600, 0, 0, 0) :: (49, 33, 8, 3, 45, 2160) :: (27, 13, 5, 0, 0, 0) :: bl_289_11
-- 290 X8_patrolValue
def bl_290_13 : List (Nat × Nat × Int × Nat × Nat × Nat) := (2, 0, 0, 0, 0, 0) :: (37, 5, 0, 8, 41, 2142) :: (2, 0, 0, 0, 0, 0) :: (37, 1, 0, 8, 19, 2138) :: (1, 1, 0, 0, 0, 0) :: (1, 2, 0, 0, 0, 0) :: (50, 277, 2, 4, 327, 5126) :: (2, 0, 0, 0, 0, 0) :: (37, 5, 0, 8, 41, 2142) :: (36, 3, 0, 2, 330, 2119) :: (55, 0, 0, 0, 0, 0) :: []
def bl_290_11 : List (Nat × Nat × Int × Nat × Nat × Nat) := (0, 0, (-1), 0, 0, 0) :: (55, 0, 0, 0, 0, 0) :: bl_290_13
def bl_290_0 : List (Nat × Nat × Int × Nat × Nat × Nat) := (2, 0, 0, 0, 0, 0) :: (37, 1, 0, 8, 19, 2138) :: (37, 0, 0, 6, 75, 2038) :: (1, 1, 0, 0, 0, 0) :: (50, 15, 4, 2, 95, 3124) :: (26, 11, 14, 0, 0, 0) :: (1, 2, 0, 0, 0, 0) :: (0, 0, 0, 0, 0, 0) :: (0, 2, 600, 0, 0, 0) :: (49, 33, 8, 3, 45, 2160) :: (27, 13, 5, 0, 0, 0) :: bl_290_11
-- 291 X9_trips_0
def bl_291_137 : List (Nat × Nat × Int × Nat × Nat × Nat) := (57, 0, 0, 0, 0, 0) :: []
def bl_291_135 : List (Nat × Nat × Int × Nat × Nat × Nat) := (5, 5, 1, 0, 0, 0) :: (32, 43, (-159), 0, 0, 0) :: bl_291_137
def bl_291_133 : List (Nat × Nat × Int × Nat × Nat × Nat) := (5, 7, 1, 0, 0, 0) :: (32, 54, (-132), 0, 0, 0) :: bl_291_135
def bl_291_93 : List (Nat × Nat × Int × Nat × Nat × Nat) := (2, 0, 0, 0, 0, 0) :: (37, 17, 0, 9, 42, 6131) :: (1, 7, 0, 0, 1, 0) :: (69, 0, 0, 0, 0, 0) :: (40, 0, 0, 0, 0, 0) :: (0, 0, 1, 0, 0, 0) :: (7, 0, 0, 0, 0, 0) :: (41, 0, 0, 0, 0, 0) :: (2, 0, 0, 0, 0, 0) :: (37, 13, 0, 9, 30, 6127) :: (1, 1, 0, 0, 0, 0) :: (1, 6, 0, 0, 1, 0) :: (41, 0, 0, 0, 0, 0) :: (2, 0, 0, 0, 0, 0) :: (37, 14, 0, 9, 33, 6128) :: (1, 1, 0, 0, 0, 0) :: (1, 7, 0, 0, 1, 0) :: (41, 0, 0, 0, 0, 0) :: (2, 0, 0, 0, 0, 0) :: (1, 1, 0, 0, 0, 0) :: (0, 0, 1, 0, 0, 0) :: (6, 0, 0, 0, 0, 0) :: (1, 7, 0, 0, 1, 0) :: (1, 3, 0, 0, 0, 0) :: (0, 0, 1, 0, 0, 0) :: (1, 5, 0, 0, 1, 0) :: (14, 0, 0, 0, 0, 0) :: (12, 0, 0, 0, 0, 0) :: (1, 4, 0, 0, 1, 0) :: (1, 8, 0, 0, 1, 0) :: (6, 0, 0, 0, 0, 0) :: (50, 286, 9, 5, 246, 7164) :: (2, 0, 0, 0, 0, 0) :: (37, 17, 0, 9, 42, 6131) :: (1, 7, 0, 0, 1, 0) :: (69, 0, 0, 0, 0, 0) :: (40, 0, 0, 0, 0, 0) :: (0, 0, 1, 0, 0, 0) :: (6, 0, 0, 0, 0, 0) :: (41, 0, 0, 0, 0, 0) :: bl_291_133
def bl_291_54 : List (Nat × Nat × Int × Nat × Nat × Nat) := (1, 7, 0, 0, 1, 0) :: (2, 0, 0, 0, 0, 0) :: (37, 0, 0, 9, 9, 6114) :: (0, 0, 0, 0, 0, 0) :: (40, 0, 0, 0, 0, 0) :: (23, 135, 127, 0, 0, 0) :: (1, 3, 0, 0, 0, 0) :: (1, 5, 0, 0, 1, 0) :: (15, 0, 0, 0, 0, 0) :: (0, 0, 1, 0, 0, 0) :: (11, 0, 0, 0, 0, 0) :: (27, 135, 118, 0, 0, 0) :: (2, 0, 0, 0, 0, 0) :: (1, 2, 0, 0, 0, 0) :: (2, 0, 0, 0, 0, 0) :: (1, 6, 0, 0, 1, 0) :: (0, 0, 1, 0, 0, 0) :: (50, 46, 9, 3, 161, 7054) :: (50, 51, 9, 3, 249, 7168) :: (0, 1, 10, 0, 0, 0) :: (6, 0, 0, 0, 0, 0) :: (2, 0, 0, 0, 0, 0) :: (2, 0, 0, 0, 0, 0) :: (1, 6, 0, 0, 1, 0) :: (0, 0, 1, 0, 0, 0) :: (50, 46, 9, 3, 161, 7054) :: (1, 7, 0, 0, 1, 0) :: (50, 51, 9, 3, 249, 7168) :: (6, 0, 0, 0, 0, 0) :: (3, 8, 0, 0, 1, 0) :: (2, 0, 0, 0, 0, 0) :: (37, 17, 0, 9, 42, 6131) :: (1, 7, 0, 0, 1, 0) :: (40, 0, 0, 0, 0, 0) :: (26, 133, 71, 0, 0, 0) :: (1, 8, 0, 0, 1, 0) :: (0, 3, 1000000, 0, 63, 6109) :: (22, 93, 6, 0, 0, 0) :: (32, 133, 61, 0, 0, 0) :: bl_291_93
def bl_291_43 : List (Nat × Nat × Int × Nat × Nat × Nat) := (1, 5, 0, 0, 1, 0) :: (2, 0, 0, 0, 0, 0) :: (36, 18, 0, 9, 231, 6132) :: (23, 137, 156, 0, 0, 0) :: (2, 0, 0, 0, 0, 0) :: (37, 12, 0, 9, 27, 6126) :: (1, 5, 0, 0, 1, 0) :: (40, 0, 0, 0, 0, 0) :: (3, 6, 0, 0, 1, 0) :: (0, 0, 0, 0, 0, 0) :: (3, 7, 0, 0, 1, 0) :: bl_291_54
def bl_291_41 : List (Nat × Nat × Int × Nat × Nat × Nat) := (0, 0, 0, 0, 0, 0) :: (3, 5, 0, 0, 1, 0) :: bl_291_43
def bl_291_20 : List (Nat × Nat × Int × Nat × Nat × Nat) := (1, 5, 0, 0, 1, 0) :: (1, 1, 0, 0, 0, 0) :: (23, 41, 37, 0, 0, 0) :: (2, 0, 0, 0, 0, 0) :: (37, 15, 0, 9, 36, 6129) :: (1, 5, 0, 0, 1, 0) :: (2, 0, 0, 0, 0, 0) :: (37, 13, 0, 9, 30, 6127) :: (1, 5, 0, 0, 1, 0) :: (40, 0, 0, 0, 0, 0) :: (41, 0, 0, 0, 0, 0) :: (2, 0, 0, 0, 0, 0) :: (37, 16, 0, 9, 39, 6130) :: (1, 5, 0, 0, 1, 0) :: (2, 0, 0, 0, 0, 0) :: (37, 14, 0, 9, 33, 6128) :: (1, 5, 0, 0, 1, 0) :: (40, 0, 0, 0, 0, 0) :: (41, 0, 0, 0, 0, 0) :: (5, 5, 1, 0, 0, 0) :: (32, 20, (-37), 0, 0, 0) :: bl_291_41
def bl_291_12 : List (Nat × Nat × Int × Nat × Nat × Nat) := (2, 0, 0, 0, 0, 0) :: (1, 1, 0, 0, 0, 0) :: (38, 19, 0, 9, 240, 6133) :: (2, 0, 0, 0, 0, 0) :: (1, 4, 0, 0, 1, 0) :: (38, 20, 0, 9, 243, 6134) :: (0, 0, 0, 0, 0, 0) :: (3, 5, 0, 0, 1, 0) :: bl_291_20
def bl_291_0 : List (Nat × Nat × Int × Nat × Nat × Nat) := (1, 1, 0, 0, 0, 0) :: (2, 0, 0, 0, 0, 0) :: (36, 19, 0, 9, 240, 6133) :: (24, 12, 20, 0, 0, 0) :: (1, 1, 0, 0, 0, 0) :: (2, 0, 0, 0, 0, 0) :: (36, 19, 0, 9, 240, 6133) :: (21, 41, 66, 0, 0, 0) :: (1, 4, 0, 0, 1, 0) :: (2, 0, 0, 0, 0, 0) :: (36, 20, 0, 9, 243, 6134) :: (23, 41, 57, 0, 0, 0) :: bl_291_12
-- 292 X8_load
def bl_292_13 : List (Nat × Nat × Int × Nat × Nat × Nat) := (2, 0, 0, 0, 0, 0) :: (37, 1, 0, 8, 19, 2138) :: (2, 0, 0, 0, 0, 0) :: (37, 0, 0, 8, 10, 2137) :: (37, 0, 0, 5, 67, 1141) :: (50, 240, 6, 2, 71, 3094) :: (2, 0, 0, 0, 0, 0) :: (37, 1, 0, 8, 19, 2138) :: (37, 0, 0, 6, 75, 2038) :: (36, 0, 0, 4, 76, 1102) :: (55, 0, 0, 0, 0, 0) :: []
def bl_292_0 : List (Nat × Nat × Int × Nat × Nat × Nat) := (2, 0, 0, 0, 0, 0) :: (37, 0, 0, 8, 10, 2137) :: (50, 287, 5, 1, 57, 2176) :: (2, 0, 0, 0, 0, 0) :: (37, 0, 0, 8, 10, 2137) :: (36, 6, 0, 5, 60, 1147) :: (26, 13, 14, 0, 0, 0) :: (0, 1, (-100), 0, 0, 0) :: (2, 0, 0, 0, 0, 0) :: (37, 0, 0, 8, 10, 2137) :: (36, 7, 0, 5, 64, 1149) :: (7, 0, 0, 0, 0, 0) :: (55, 0, 0, 0, 0, 0) :: bl_292_13
-- 293 X9_tours
def bl_293_74 : List (Nat × Nat × Int × Nat × Nat × Nat) := (57, 0, 0, 0, 0, 0) :: []
def bl_293_54 : List (Nat × Nat × Int × Nat × Nat × Nat) := (2, 0, 0, 0, 0, 0) :: (0, 0, 0, 0, 0, 0) :: (38, 19, 0, 9, 240, 6133) :: (2, 0, 0, 0, 0, 0) :: (0, 0, 0, 0, 0, 0) :: (38, 20, 0, 9, 243, 6134) :: (2, 0, 0, 0, 0, 0) :: (37, 0, 0, 9, 9, 6114) :: (0, 0, 1, 0, 0, 0) :: (40, 0, 0, 0, 0, 0) :: (28, 74, 16, 0, 0, 0) :: (2, 0, 0, 0, 0, 0) :: (0, 0, 0, 0, 0, 0) :: (2, 0, 0, 0, 0, 0) :: (37, 0, 0, 9, 9, 6114) :: (0, 0, 1, 0, 0, 0) :: (40, 0, 0, 0, 0, 0) :: (0, 0, 0, 0, 0, 0) :: (0, 0, 0, 0, 0, 0) :: (50, 291, 9, 5, 246, 7164) :: bl_293_74
def bl_293_51 : List (Nat × Nat × Int × Nat × Nat × Nat) := (41, 0, 0, 0, 0, 0) :: (5, 1, 1, 0, 0, 0) :: (32, 33, (-37), 0, 0, 0) :: bl_293_54
def bl_293_50 : List (Nat × Nat × Int × Nat × Nat × Nat) := (0, 0, 0, 0, 0, 0) :: bl_293_51
def bl_293_33 : List (Nat × Nat × Int × Nat × Nat × Nat) := (1, 1, 0, 0, 0, 0) :: (0, 1, 10, 0, 0, 0) :: (23, 54, 37, 0, 0, 0) :: (2, 0, 0, 0, 0, 0) :: (37, 17, 0, 9, 42, 6131) :: (1, 1, 0, 0, 0, 0) :: (2, 0, 0, 0, 0, 0) :: (37, 0, 0, 9, 9, 6114) :: (0, 2, 223, 0, 0, 0) :: (1, 1, 0, 0, 0, 0) :: (6, 0, 0, 0, 0, 0) :: (40, 0, 0, 0, 0, 0) :: (31, 50, 11, 0, 0, 0) :: (2, 0, 0, 0, 0, 0) :: (1, 1, 0, 0, 0, 0) :: (50, 118, 9, 2, 237, 7160) :: (32, 51, 4, 0, 0, 0) :: bl_293_50
def bl_293_31 : List (Nat × Nat × Int × Nat × Nat × Nat) := (0, 0, 0, 0, 0, 0) :: (3, 1, 0, 0, 0, 0) :: bl_293_33
def bl_293_29 : List (Nat × Nat × Int × Nat × Nat × Nat) := (5, 1, 1, 0, 0, 0) :: (32, 5, (-47), 0, 0, 0) :: bl_293_31
def bl_293_5 : List (Nat × Nat × Int × Nat × Nat × Nat) := (1, 1, 0, 0, 0, 0) :: (0, 1, 16, 0, 0, 0) :: (23, 31, 47, 0, 0, 0) :: (2, 0, 0, 0, 0, 0) :: (1, 1, 0, 0, 0, 0) :: (50, 107, 9, 2, 228, 7152) :: (26, 29, 33, 0, 0, 0) :: (2, 0, 0, 0, 0, 0) :: (1, 1, 0, 0, 0, 0) :: (50, 151, 9, 2, 234, 7156) :: (0, 1, 6, 0, 0, 0) :: (23, 29, 23, 0, 0, 0) :: (2, 0, 0, 0, 0, 0) :: (37, 12, 0, 9, 27, 6126) :: (2, 0, 0, 0, 0, 0) :: (36, 18, 0, 9, 231, 6132) :: (1, 1, 0, 0, 0, 0) :: (41, 0, 0, 0, 0, 0) :: (2, 0, 0, 0, 0, 0) :: (18, 0, 0, 0, 0, 0) :: (36, 18, 0, 9, 231, 6132) :: (0, 0, 1, 0, 0, 0) :: (6, 0, 0, 0, 0, 0) :: (38, 18, 0, 9, 231, 6132) :: bl_293_29
def bl_293_0 : List (Nat × Nat × Int × Nat × Nat × Nat) := (2, 0, 0, 0, 0, 0) :: (0, 0, 0, 0, 0, 0) :: (38, 18, 0, 9, 231, 6132) :: (0, 0, 0, 0, 0, 0) :: (3, 1, 0, 0, 0, 0) :: bl_293_5
-- 294 X9_ofTour
def bl_294_23 : List (Nat × Nat × Int × Nat × Nat × Nat) := (55, 0, 0, 0, 0, 0) :: []
def bl_294_20 : List (Nat × Nat × Int × Nat × Nat × Nat) := (2, 2, 0, 0, 0, 0) :: (1, 1, 0, 0, 0, 0) :: (40, 0, 0, 0, 0, 0) :: bl_294_23
def bl_294_14 : List (Nat × Nat × Int × Nat × Nat × Nat) := (38, 4, 0, 9, 59, 6118) :: (2, 0, 0, 0, 0, 0) :: (36, 4, 0, 9, 59, 6118) :: (31, 20, 7, 0, 0, 0) :: (0, 0, 0, 0, 0, 0) :: (32, 23, 6, 0, 0, 0) :: bl_294_20
def bl_294_13 : List (Nat × Nat × Int × Nat × Nat × Nat) := (0, 0, 1, 0, 0, 0) :: bl_294_14
def bl_294_0 : List (Nat × Nat × Int × Nat × Nat × Nat) := (2, 0, 0, 0, 0, 0) :: (50, 293, 9, 1, 252, 7148) :: (2, 0, 0, 0, 0, 0) :: (1, 1, 0, 0, 0, 0) :: (0, 0, 0, 0, 0, 0) :: (2, 0, 0, 0, 0, 0) :: (36, 19, 0, 9, 240, 6133) :: (0, 0, 1, 0, 0, 0) :: (7, 0, 0, 0, 0, 0) :: (49, 40, 9, 3, 70, 6204) :: (26, 13, 7, 0, 0, 0) :: (0, 0, 0, 0, 0, 0) :: (32, 14, 4, 0, 0, 0) :: bl_294_13
-- 295 X9_tourLength
def bl_295_0 : List (Nat × Nat × Int × Nat × Nat × Nat) := (2, 0, 0, 0, 0, 0) :: (0, 0, 0, 0, 0, 0) :: (38, 4, 0, 9, 59, 6118) :: (2, 0, 0, 0, 0, 0) :: (50, 293, 9, 1, 252, 7148) :: (2, 0, 0, 0, 0, 0) :: (36, 19, 0, 9, 240, 6133) :: (55, 0, 0, 0, 0, 0) :: []
-- 296 X9_tourMinutes
def bl_296_0 : List (Nat × Nat × Int × Nat × Nat × Nat) := (2, 0, 0, 0, 0, 0) :: (0, 0, 0, 0, 0, 0) :: (38, 4, 0, 9, 59, 6118) :: (2, 0, 0, 0, 0, 0) :: (50, 293, 9, 1, 252, 7148) :: (2, 0, 0, 0, 0, 0) :: (36, 20, 0, 9, 243, 6134) :: (55, 0, 0, 0, 0, 0) :: []
-- 297 X9_towNext
def bl_297_52 : List (Nat × Nat × Int × Nat × Nat × Nat) := (2, 0, 0, 0, 0, 0) :: (37, 0, 0, 9, 9, 6114) :: (0, 0, 2, 0, 0, 0) :: (1, 2, 0, 0, 0, 0) :: (41, 0, 0, 0, 0, 0) :: (2, 0, 0, 0, 0, 0) :: (37, 0, 0, 9, 9, 6114) :: (0, 0, 1, 0, 0, 0) :: (2, 0, 0, 0, 0, 0) :: (37, 16, 0, 9, 39, 6130) :: (0, 0, 0, 0, 0, 0) :: (40, 0, 0, 0, 0, 0) :: (41, 0, 0, 0, 0, 0) :: (2, 0, 0, 0, 0, 0) :: (1, 1, 0, 0, 0, 0) :: (0, 0, 0, 0, 0, 0) :: (0, 0, 3, 0, 0, 0) :: (50, 48, 9, 4, 185, 7070) :: (2, 0, 0, 0, 0, 0) :: (1, 1, 0, 0, 0, 0) :: (0, 0, 1, 0, 0, 0) :: (2, 0, 0, 0, 0, 0) :: (37, 16, 0, 9, 39, 6130) :: (0, 0, 0, 0, 0, 0) :: (40, 0, 0, 0, 0, 0) :: (50, 48, 9, 4, 185, 7070) :: (2, 0, 0, 0, 0, 0) :: (1, 1, 0, 0, 0, 0) :: (0, 0, 4, 0, 0, 0) :: (2, 0, 0, 0, 0, 0) :: (1, 1, 0, 0, 0, 0) :: (0, 0, 4, 0, 0, 0) :: (50, 46, 9, 3, 161, 7054) :: (0, 2, 15000, 0, 0, 0) :: (6, 0, 0, 0, 0, 0) :: (50, 48, 9, 4, 185, 7070) :: (2, 0, 0, 0, 0, 0) :: (0, 1, 10, 0, 0, 0) :: (1, 1, 0, 0, 0, 0) :: (0, 2, 15000, 0, 0, 0) :: (50, 44, 9, 4, 189, 7074) :: (1, 1, 0, 0, 0, 0) :: (55, 0, 0, 0, 0, 0) :: []
def bl_297_50 : List (Nat × Nat × Int × Nat × Nat × Nat) := (0, 1, (-4), 0, 0, 0) :: (55, 0, 0, 0, 0, 0) :: bl_297_52
def bl_297_10 : List (Nat × Nat × Int × Nat × Nat × Nat) := (2, 0, 0, 0, 0, 0) :: (37, 15, 0, 9, 36, 6129) :: (0, 0, 0, 0, 0, 0) :: (40, 0, 0, 0, 0, 0) :: (3, 1, 0, 0, 0, 0) :: (2, 0, 0, 0, 0, 0) :: (37, 0, 0, 9, 9, 6114) :: (0, 0, 2, 0, 0, 0) :: (40, 0, 0, 0, 0, 0) :: (2, 0, 0, 0, 0, 0) :: (2, 0, 0, 0, 0, 0) :: (37, 0, 0, 9, 9, 6114) :: (0, 0, 1, 0, 0, 0) :: (40, 0, 0, 0, 0, 0) :: (2, 0, 0, 0, 0, 0) :: (1, 1, 0, 0, 0, 0) :: (0, 0, 1, 0, 0, 0) :: (50, 46, 9, 3, 161, 7054) :: (50, 51, 9, 3, 249, 7168) :: (6, 0, 0, 0, 0, 0) :: (0, 1, 10, 0, 0, 0) :: (6, 0, 0, 0, 0, 0) :: (2, 0, 0, 0, 0, 0) :: (2, 0, 0, 0, 0, 0) :: (1, 1, 0, 0, 0, 0) :: (0, 0, 1, 0, 0, 0) :: (50, 46, 9, 3, 161, 7054) :: (2, 0, 0, 0, 0, 0) :: (37, 16, 0, 9, 39, 6130) :: (0, 0, 0, 0, 0, 0) :: (40, 0, 0, 0, 0, 0) :: (50, 51, 9, 3, 249, 7168) :: (6, 0, 0, 0, 0, 0) :: (3, 2, 0, 0, 0, 0) :: (2, 0, 0, 0, 0, 0) :: (50, 41, 9, 1, 182, 7066) :: (27, 50, 10, 0, 0, 0) :: (1, 2, 0, 0, 0, 0) :: (0, 2, 10079, 0, 0, 0) :: (25, 52, 6, 0, 0, 0) :: bl_297_50
def bl_297_0 : List (Nat × Nat × Int × Nat × Nat × Nat) := (2, 0, 0, 0, 0, 0) :: (0, 0, 0, 0, 0, 0) :: (38, 4, 0, 9, 59, 6118) :: (2, 0, 0, 0, 0, 0) :: (50, 293, 9, 1, 252, 7148) :: (2, 0, 0, 0, 0, 0) :: (36, 19, 0, 9, 240, 6133) :: (27, 10, 6, 0, 0, 0) :: (0, 1, (-3), 0, 0, 0) :: (55, 0, 0, 0, 0, 0) :: bl_297_10
-- 298 X9_tourCar
def bl_298_0 : List (Nat × Nat × Int × Nat × Nat × Nat) := (2, 0, 0, 0, 0, 0) :: (1, 1, 0, 0, 0, 0) :: (2, 0, 0, 0, 0, 0) :: (37, 15, 0, 9, 36, 6129) :: (50, 294, 9, 3, 280, 8143) :: (55, 0, 0, 0, 0, 0) :: []
-- 299 X9_tourPound
def bl_299_0 : List (Nat × Nat × Int × Nat × Nat × Nat) := (2, 0, 0, 0, 0, 0) :: (1, 1, 0, 0, 0, 0) :: (2, 0, 0, 0, 0, 0) :: (37, 16, 0, 9, 39, 6130) :: (50, 294, 9, 3, 280, 8143) :: (55, 0, 0, 0, 0, 0) :: []
def mz_cdL : List (List (Nat × Nat × Int × Nat × Nat × Nat)) := [bl_0_0, bl_1_0, bl_2_0, bl_3_0, bl_4_0, bl_5_0, bl_6_0, bl_7_0, bl_8_0, bl_9_0, bl_10_0, bl_11_0, bl_12_0, bl_13_0, bl_14_0, bl_15_0, bl_16_0, bl_17_0, bl_18_0, bl_19_0, bl_20_0, bl_21_0, bl_22_0, bl_23_0, bl_24_0, bl_25_0, bl_26_0, bl_27_0, bl_28_0, bl_29_0, bl_30_0, bl_31_0, bl_32_0, bl_33_0, bl_34_0, bl_35_0, bl_36_0, bl_37_0, bl_38_0, bl_39_0, bl_40_0, bl_41_0, bl_42_0, bl_43_0, bl_44_0, bl_45_0, bl_46_0, bl_47_0, bl_48_0, bl_49_0, bl_50_0, bl_51_0, bl_52_0, bl_53_0, bl_54_0, bl_55_0, bl_56_0, bl_57_0, bl_58_0, bl_59_0, bl_60_0, bl_61_0, bl_62_0, bl_63_0, bl_64_0, bl_65_0, bl_66_0, bl_67_0, bl_68_0, bl_69_0, bl_70_0, bl_71_0, bl_72_0, bl_73_0, bl_74_0, bl_75_0, bl_76_0, bl_77_0, bl_78_0, bl_79_0, bl_80_0, bl_81_0, bl_82_0, bl_83_0, bl_84_0, bl_85_0, bl_86_0, bl_87_0, bl_88_0, bl_89_0, bl_90_0, bl_91_0, bl_92_0, bl_93_0, bl_94_0, bl_95_0, bl_96_0, bl_97_0, bl_98_0, bl_99_0, bl_100_0, bl_101_0, bl_102_0, bl_103_0, bl_104_0, bl_105_0, bl_106_0, bl_107_0, bl_108_0, bl_109_0, bl_110_0, bl_111_0, bl_112_0, bl_113_0, bl_114_0, bl_115_0, bl_116_0, bl_117_0, bl_118_0, bl_119_0, bl_120_0, bl_121_0, bl_122_0, bl_123_0, bl_124_0, bl_125_0, bl_126_0, bl_127_0, bl_128_0, bl_129_0, bl_130_0, bl_131_0, bl_132_0, bl_133_0, bl_134_0, bl_135_0, bl_136_0, bl_137_0, bl_138_0, bl_139_0, bl_140_0, bl_141_0, bl_142_0, bl_143_0, bl_144_0, bl_145_0, bl_146_0, bl_147_0, bl_148_0, bl_149_0, bl_150_0, bl_151_0, bl_152_0, bl_153_0, bl_154_0, bl_155_0, bl_156_0, bl_157_0, bl_158_0, bl_159_0, bl_160_0, bl_161_0, bl_162_0, bl_163_0, bl_164_0, bl_165_0, bl_166_0, bl_167_0, bl_168_0, bl_169_0, bl_170_0, bl_171_0, bl_172_0, bl_173_0, bl_174_0, bl_175_0, bl_176_0, bl_177_0, bl_178_0, bl_179_0, bl_180_0, bl_181_0, bl_182_0, bl_183_0, bl_184_0, bl_185_0, bl_186_0, bl_187_0, bl_188_0, bl_189_0, bl_190_0, bl_191_0, bl_192_0, bl_193_0, bl_194_0, bl_195_0, bl_196_0, bl_197_0, bl_198_0, bl_199_0, bl_200_0, bl_201_0, bl_202_0, bl_203_0, bl_204_0, bl_205_0, bl_206_0, bl_207_0, bl_208_0, bl_209_0, bl_210_0, bl_211_0, bl_212_0, bl_213_0, bl_214_0, bl_215_0, bl_216_0, bl_217_0, bl_218_0, bl_219_0, bl_220_0, bl_221_0, bl_222_0, bl_223_0, bl_224_0, bl_225_0, bl_226_0, bl_227_0, bl_228_0, bl_229_0, bl_230_0, bl_231_0, bl_232_0, bl_233_0, bl_234_0, bl_235_0, bl_236_0, bl_237_0, bl_238_0, bl_239_0, bl_240_0, bl_241_0, bl_242_0, bl_243_0, bl_244_0, bl_245_0, bl_246_0, bl_247_0, bl_248_0, bl_249_0, bl_250_0, bl_251_0, bl_252_0, bl_253_0, bl_254_0, bl_255_0, bl_256_0, bl_257_0, bl_258_0, bl_259_0, bl_260_0, bl_261_0, bl_262_0, bl_263_0, bl_264_0, bl_265_0, bl_266_0, bl_267_0, bl_268_0, bl_269_0, bl_270_0, bl_271_0, bl_272_0, bl_273_0, bl_274_0, bl_275_0, bl_276_0, bl_277_0, bl_278_0, bl_279_0, bl_280_0, bl_281_0, bl_282_0, bl_283_0, bl_284_0, bl_285_0, bl_286_0, bl_287_0, bl_288_0, bl_289_0, bl_290_0, bl_291_0, bl_292_0, bl_293_0, bl_294_0, bl_295_0, bl_296_0, bl_297_0, bl_298_0, bl_299_0]
def mz_LL : List Nat := [1, 1, 3, 1, 4, 2, 1, 2, 2, 3, 1, 2, 1, 3, 3, 2, 2, 3, 1, 1, 1, 1, 2, 2, 2, 1, 1, 1, 1, 1, 1, 3, 1, 3, 3, 3, 5, 3, 3, 1, 3, 1, 1, 1, 5, 1, 3, 1, 4, 1, 1, 3, 2, 1, 3, 2, 1, 1, 2, 5, 1, 4, 5, 1, 4, 10, 1, 3, 9, 5, 2, 3, 3, 2, 1, 1, 8, 6, 7, 6, 1, 1, 2, 5, 3, 2, 3, 3, 4, 3, 3, 3, 4, 6, 3, 3, 2, 2, 2, 6, 7, 5, 7, 5, 3, 1, 2, 2, 1, 1, 3, 3, 4, 4, 3, 6, 2, 2, 4, 2, 5, 4, 9, 4, 2, 2, 7, 5, 5, 7, 7, 7, 3, 7, 5, 5, 3, 4, 6, 7, 4, 3, 2, 5, 6, 2, 4, 3, 3, 2, 1, 5, 5, 4, 5, 3, 2, 4, 4, 1, 1, 3, 2, 2, 2, 2, 2, 3, 4, 4, 5, 3, 6, 5, 3, 2, 4, 3, 1, 5, 5, 2, 2, 3, 9, 2, 2, 8, 7, 4, 5, 3, 1, 5, 3, 5, 3, 2, 3, 4, 3, 2, 2, 4, 3, 7, 3, 2, 3, 4, 1, 4, 3, 2, 2, 2, 6, 2, 5, 4, 3, 2, 3, 4, 1, 2, 6, 7, 3, 3, 2, 9, 4, 9, 2, 3, 3, 4, 3, 3, 6, 3, 8, 3, 8, 8, 3, 2, 4, 3, 3, 4, 6, 3, 7, 4, 7, 4, 5, 4, 9, 5, 2, 1, 2, 7, 2, 2, 4, 2, 2, 3, 3, 3, 3, 1, 9, 6, 2, 1, 3, 2, 1, 1, 3, 1, 9, 2, 3, 3, 3, 9, 1, 2, 3, 1, 1, 3, 2, 2]
end
section
/-! A small machine of my own over the claim's methods: values, cells by their place in the order in which the constructors make them; its runs are runs of the JVM (part snd). -/
abbrev mz_V : Type := Int ⊕ Option (Nat × Nat × Nat)
abbrev mz_i (n : Int) : mz_V := .inl n
abbrev mz_r (t n o : Nat) : mz_V := .inr (some (t, n, o))
abbrev mz_I : Type := Nat × Nat × Int × Nat × Nat × Nat
abbrev mz_M : Type := Nat → Nat → Int
abbrev mz_S : Type := Nat × Nat × (Nat → Nat → Bool) × mz_M
abbrev mz_Ls : Type := List (Option mz_V)
def mz_up (m : mz_M) (o k : Nat) (v : Int) : mz_M := fun a j => if a = o ∧ j = k then v else m a j
def mz_iu (m : Nat → Nat → Bool) (o k : Nat) : Nat → Nat → Bool := fun a j => if a = o ∧ j = k then true else m a j
def mz_zr (m : mz_M) (o : Nat) : mz_M := fun a j => if a = o then 0 else m a j
def mz_if (m : Nat → Nat → Bool) (o : Nat) : Nat → Nat → Bool := fun a j => if a = o then false else m a j
def mz_cp (m : mz_M) (o d n : Nat) : mz_M := fun a j => if a = d ∧ j < n then m o j else m a j
def mz_w (n : Int) : Prop := -2147483648 ≤ n ∧ n ≤ 2147483647
def mz_and (x y : Int) : Int := (Int32.ofInt x &&& Int32.ofInt y).toInt
def mz_or (x y : Int) : Int := (Int32.ofInt x ||| Int32.ofInt y).toInt
def mz_xor (x y : Int) : Int := (Int32.ofInt x ^^^ Int32.ofInt y).toInt
def mz_shl (x y : Int) : Int := (Int32.ofInt x <<< (Int32.ofInt y &&& 31)).toInt
def mz_shr (x y : Int) : Int := (Int32.ofInt x >>> (Int32.ofInt y &&& 31)).toInt
def mz_ushr (x y : Int) : Int := ((Int32.ofInt x).toUInt32 >>> ((Int32.ofInt y).toUInt32 &&& Int32.toUInt32 31)).toInt32.toInt
def mz_i2b (x : Int) : Int := (Int32.ofInt x).toInt8.toInt32.toInt
/-- reference fields by class and field: kind, length, how far behind the object's own place -/
def mz_frL : List (Nat × (Nat × Nat × Nat)) := [(101, (100, 400, 1)), (102, (100, 400, 2)), (103, (100, 400, 3)), (104, (100, 400, 4)), (105, (100, 16, 5)), (106, (100, 10, 6)), (200, (100, 10, 1)), (201, (100, 10240, 2)), (300, (100, 6, 1)), (301, (100, 6, 2)), (302, (100, 2, 3)), (303, (100, 2, 4)), (304, (100, 24, 5)), (305, (100, 896, 6)), (306, (100, 6, 7)), (307, (100, 6, 8)), (308, (100, 6, 9)), (403, (100, 10, 1)), (404, (100, 10, 2)), (405, (100, 10, 3)), (406, (100, 100, 4)), (407, (100, 100, 5)), (408, (103, 4, 6)), (500, (4, 0, 1)), (501, (100, 600, 16)), (600, (4, 0, 1)), (601, (104, 16, 16)), (602, (1, 0, 17)), (700, (100, 24, 1)), (800, (5, 0, 1)), (801, (6, 0, 18)), (802, (105, 2, 58)), (803, (101, 2, 139)), (804, (3, 0, 140)), (805, (2, 0, 150)), (900, (100, 2430, 1)), (901, (100, 2430, 2)), (902, (100, 4860, 3)), (903, (101, 2, 4)), (905, (102, 600, 5)), (912, (100, 6, 6)), (913, (100, 6, 7)), (914, (100, 6, 8)), (915, (100, 6, 9)), (916, (100, 6, 10)), (917, (100, 10, 11)), (922, (100, 10240, 12)), (923, (100, 10, 13))]
def mz_fr (c k : Nat) : Option (Nat × Nat × Nat) := mz_frL.lookup (c * 100 + k)
/-- rows of references: the elements' class, how far the first is, how far they are apart -/
def mz_ar (t : Nat) : Nat × Nat × Nat := if t = 103 then (7, 1, 2) else if t = 104 then (0, 8, 1) else (6, 1, 41)
def mz_nf (c : Nat) : Nat := [11, 7, 6, 12, 9, 8, 5, 2, 6, 27].getD c 0
/-- what stands at each place once all is made -/
def mz_kdL : List (Nat × Nat) := [(8, 0), (5, 0), (4, 0), (100, 10), (100, 10), (100, 10), (100, 100), (100, 100), (103, 4), (7, 0), (100, 24), (7, 0), (100, 24), (7, 0), (100, 24), (7, 0), (100, 24), (100, 600), (6, 0), (4, 0), (100, 10), (100, 10), (100, 10), (100, 100), (100, 100), (103, 4), (7, 0), (100, 24), (7, 0), (100, 24), (7, 0), (100, 24), (7, 0), (100, 24), (104, 16), (1, 0), (100, 400), (100, 400), (100, 400), (100, 400), (100, 16), (100, 10), (0, 0), (0, 0), (0, 0), (0, 0), (0, 0), (0, 0), (0, 0), (0, 0), (0, 0), (0, 0), (0, 0), (0, 0), (0, 0), (0, 0), (0, 0), (0, 0), (105, 2), (6, 0), (4, 0), (100, 10), (100, 10), (100, 10), (100, 100), (100, 100), (103, 4), (7, 0), (100, 24), (7, 0), (100, 24), (7, 0), (100, 24), (7, 0), (100, 24), (104, 16), (1, 0), (100, 400), (100, 400), (100, 400), (100, 400), (100, 16), (100, 10), (0, 0), (0, 0), (0, 0), (0, 0), (0, 0), (0, 0), (0, 0), (0, 0), (0, 0), (0, 0), (0, 0), (0, 0), (0, 0), (0, 0), (0, 0), (0, 0), (6, 0), (4, 0), (100, 10), (100, 10), (100, 10), (100, 100), (100, 100), (103, 4), (7, 0), (100, 24), (7, 0), (100, 24), (7, 0), (100, 24), (7, 0), (100, 24), (104, 16), (1, 0), (100, 400), (100, 400), (100, 400), (100, 400), (100, 16), (100, 10), (0, 0), (0, 0), (0, 0), (0, 0), (0, 0), (0, 0), (0, 0), (0, 0), (0, 0), (0, 0), (0, 0), (0, 0), (0, 0), (0, 0), (0, 0), (0, 0), (101, 2), (3, 0), (100, 6), (100, 6), (100, 2), (100, 2), (100, 24), (100, 896), (100, 6), (100, 6), (100, 6), (2, 0), (100, 10), (100, 10240), (9, 0), (100, 2430), (100, 2430), (100, 4860), (101, 2), (102, 600), (100, 6), (100, 6), (100, 6), (100, 6), (100, 6), (100, 10), (100, 10240), (100, 10)]
def mz_kd (o : Nat) : Nat × Nat := mz_kdL.getD o (999, 0)
def mz_tx : List (List Int) := [[112, 108, 97, 99, 101, 115], [114, 111, 97, 100], [122, 111, 110, 101], [114, 97, 116, 101], [115, 116, 97, 121], [115, 112, 97, 99, 101, 115], [112, 111, 117, 110, 100], [109, 105, 110, 117, 116, 101, 115, 32, 105, 115, 32, 111, 117, 116, 32, 111, 102, 32, 114, 97, 110, 103, 101], [116, 104, 101, 114, 101, 32, 105, 115, 32, 110, 111, 32, 115, 117, 99, 104, 32, 116, 105, 99, 107, 101, 116], [116, 104, 101, 114, 101, 32, 105, 115, 32, 110, 111, 32, 115, 117, 99, 104, 32, 108, 111, 103, 32, 101, 110, 116, 114, 121], [116, 104, 101, 114, 101, 32, 105, 115, 32, 110, 111, 32, 115, 117, 99, 104, 32, 116, 114, 105, 112], [112, 108, 97, 99, 101, 115], [114, 111, 97, 100], [122, 111, 110, 101], [114, 97, 116, 101], [115, 116, 97, 121], [115, 112, 97, 99, 101, 115], [112, 111, 117, 110, 100]]
def mz_tl (s : Nat) : Nat := (mz_tx.getD s []).length
def mz_tc (s j : Nat) : Int := (mz_tx.getD s []).getD j 0
def mz_pop : Nat → List mz_V → List mz_V → (List mz_V → List mz_V → Prop) → Prop
  | 0, acc, st, K => K acc st
  | n + 1, acc, v :: st, K => mz_pop n (v :: acc) st K
  | _ + 1, _, [], _ => False
def mz_tsw (v : Int) : Int → List Nat → Nat → (Nat → Prop) → Prop
  | _, [], d, jp => jp d
  | lo, t :: ts, d, jp => if v = lo then jp t else mz_tsw v (lo + 1) ts d jp
def mz_tb (a : Nat) : List Nat := ([[2, 4, 6, 8, 10, 12], [2, 4, 2, 2, 2, 2, 2, 4, 2], [7, 10, 13, 16, 19, 22]] : List (List Nat)).getD a []
def mz_rc (b : Int) : List mz_V → Prop
  | .inr (some (t, _, _)) :: _ => (t : Int) = b
  | _ => False
def mz_lk : mz_Ls → Nat → (mz_V → Prop) → Prop
  | some v :: _, 0, K => K v
  | _ :: ls, a + 1, K => mz_lk ls a K
  | _, _, _ => False
section Stp
variable (nx : mz_Ls → List mz_V → mz_S → Prop) (jp : Nat → mz_Ls → List mz_V → mz_S → Prop) (call : Nat → List mz_V → mz_S → (Option mz_V → mz_S → Prop) → Prop) (rt : Option mz_V → mz_S → Prop)
def mz_st0 (e : mz_I) (ls : mz_Ls) (st : List mz_V) (σ : mz_S) : Prop :=
  match e with
  | (0, _, b, _) => nx ls (.inl b :: st) σ
  | (1, a, _) => mz_lk ls a fun v => match v with | .inl n => nx ls (.inl n :: st) σ | .inr _ => False
  | (2, a, _) => mz_lk ls a fun v => match v with | .inl _ => False | .inr r => nx ls (.inr r :: st) σ
  | (3, a, _) => match st with | .inl n :: st => nx (ls.set a (some (.inl n))) st σ | _ => False
  | (4, a, _) => match st with | .inr r :: st => nx (ls.set a (some (.inr r))) st σ | _ => False
  | (5, a, b, _) => mz_lk ls a fun v => match v with | .inl n => mz_w (n + b) ∧ nx (ls.set a (some (.inl (n + b)))) st σ | .inr _ => False
  | (6, _) => match st with | .inl y :: .inl x :: st => mz_w (x + y) ∧ nx ls (.inl (x + y) :: st) σ | _ => False
  | (7, _) => match st with | .inl y :: .inl x :: st => mz_w (x - y) ∧ nx ls (.inl (x - y) :: st) σ | _ => False
  | (8, _) => match st with | .inl y :: .inl x :: st => mz_w (x * y) ∧ nx ls (.inl (x * y) :: st) σ | _ => False
  | (9, _) => match st with | .inl y :: .inl x :: st => (0 < y ∧ 0 ≤ x) ∧ nx ls (.inl (x / y) :: st) σ | _ => False
  | (10, _) => match st with | .inl y :: .inl x :: st => (0 < y ∧ 0 ≤ x) ∧ nx ls (.inl (x % y) :: st) σ | _ => False
  | (11, _) => match st with | .inl y :: .inl x :: st => nx ls (.inl (mz_and x y) :: st) σ | _ => False
  | (12, _) => match st with | .inl y :: .inl x :: st => nx ls (.inl (mz_or x y) :: st) σ | _ => False
  | (13, _) => match st with | .inl y :: .inl x :: st => nx ls (.inl (mz_xor x y) :: st) σ | _ => False
  | (14, _) => match st with | .inl y :: .inl x :: st => nx ls (.inl (mz_shl x y) :: st) σ | _ => False
  | (15, _) => match st with | .inl y :: .inl x :: st => nx ls (.inl (mz_shr x y) :: st) σ | _ => False
  | (16, _) => match st with | .inl y :: .inl x :: st => nx ls (.inl (mz_ushr x y) :: st) σ | _ => False
  | (17, _) => match st with | .inl x :: st => nx ls (.inl (mz_i2b x) :: st) σ | _ => False
  | (18, _) => match st with | v :: st => nx ls (v :: v :: st) σ | _ => False
  | (19, _) => match st with | _ :: st => nx ls st σ | _ => False
  | (20, a, _) => match st with | .inl y :: .inl x :: st => if x = y then jp a ls st σ else nx ls st σ | _ => False
  | (21, a, _) => match st with | .inl y :: .inl x :: st => if x = y then nx ls st σ else jp a ls st σ | _ => False
  | (22, a, _) => match st with | .inl y :: .inl x :: st => if x < y then jp a ls st σ else nx ls st σ | _ => False
  | (23, a, _) => match st with | .inl y :: .inl x :: st => if x < y then nx ls st σ else jp a ls st σ | _ => False
  | (24, a, _) => match st with | .inl y :: .inl x :: st => if x ≤ y then nx ls st σ else jp a ls st σ | _ => False
  | (25, a, _) => match st with | .inl y :: .inl x :: st => if x ≤ y then jp a ls st σ else nx ls st σ | _ => False
  | (26, a, _) => match st with | .inl x :: st => if x = 0 then jp a ls st σ else nx ls st σ | _ => False
  | (27, a, _) => match st with | .inl x :: st => if x = 0 then nx ls st σ else jp a ls st σ | _ => False
  | (28, a, _) => match st with | .inl x :: st => if x < 0 then jp a ls st σ else nx ls st σ | _ => False
  | (29, a, _) => match st with | .inl x :: st => if x < 0 then nx ls st σ else jp a ls st σ | _ => False
  | (30, a, _) => match st with | .inl x :: st => if x ≤ 0 then nx ls st σ else jp a ls st σ | _ => False
  | (31, a, _) => match st with | .inl x :: st => if x ≤ 0 then jp a ls st σ else nx ls st σ | _ => False
  | (32, a, _) => jp a ls st σ
  | (33, a, _) => match st with | .inr none :: st => jp a ls st σ | .inr (some (t, _, _)) :: st => t < 90 ∧ nx ls st σ | _ => False
  | (34, a, _) => match st with | .inr none :: st => nx ls st σ | .inr (some (t, _, _)) :: st => t < 90 ∧ jp a ls st σ | _ => False
  | (35, a, b, c, _) => match st with | .inl v :: st => mz_tsw v b (mz_tb a) c fun t => jp t ls st σ | _ => False
  | _ => False
def mz_st1 (e : mz_I) (ls : mz_Ls) (st : List mz_V) (σ : mz_S) : Prop :=
  match e with
  | (36, a, _, c, _) => match st with | .inr (some (t, _, o)) :: st => t = c ∧ nx ls (.inl (σ.2.2.2 o a) :: st) σ | _ => False
  | (37, a, _, c, _) => match st with | .inr (some (t, _, o)) :: st => t = c ∧ σ.2.2.1 o a = true ∧ (match mz_fr c a with | some (u, n, f) => nx ls (.inr (some (u, n, o + f)) :: st) σ | none => False) | _ => False
  | (38, a, _, c, _) => match st with | .inl v :: .inr (some (t, _, o)) :: st => t = c ∧ nx ls st (σ.1, σ.2.1, σ.2.2.1, mz_up σ.2.2.2 o a v) | _ => False
  | (39, a, _, c, _) => match st with | .inr (some (u, n, q)) :: .inr (some (t, _, o)) :: st => t = c ∧ (match mz_fr c a with | some (u', n', f) => u = u' ∧ n = n' ∧ q = o + f | none => False) ∧ nx ls st (σ.1, σ.2.1, mz_iu σ.2.2.1 o a, σ.2.2.2) | _ => False
  | (40, _) => match st with | .inl j :: .inr (some (t, n, o)) :: st => t = 100 ∧ (0 ≤ j ∧ j < n) ∧ nx ls (.inl (σ.2.2.2 o j.toNat) :: st) σ | _ => False
  | (41, _) => match st with | .inl v :: .inl j :: .inr (some (t, n, o)) :: st => t = 100 ∧ (0 ≤ j ∧ j < n) ∧ nx ls st (σ.1, σ.2.1, σ.2.2.1, mz_up σ.2.2.2 o j.toNat v) | _ => False
  | (42, _) => match st with | .inl j :: .inr (some (t, n, o)) :: st => t = 101 ∧ (0 ≤ j ∧ j < n) ∧ nx ls (.inl (σ.2.2.2 o j.toNat) :: st) σ | _ => False
  | (43, _) => match st with | .inl v :: .inl j :: .inr (some (t, n, o)) :: st => t = 101 ∧ (0 ≤ j ∧ j < n) ∧ (v = 0 ∨ v = 1) ∧ nx ls st (σ.1, σ.2.1, σ.2.2.1, mz_up σ.2.2.2 o j.toNat v) | _ => False
  | (44, _) => match st with | .inl j :: .inr (some (t, n, o)) :: st => (0 ≤ j ∧ j < n) ∧ (if t = 102 then nx ls (.inl (σ.2.2.2 o j.toNat) :: st) σ else t = 91 ∧ nx ls (.inl (mz_tc o j.toNat) :: st) σ) | _ => False
  | (45, _) => match st with | .inl v :: .inl j :: .inr (some (t, n, o)) :: st => t = 102 ∧ (0 ≤ j ∧ j < n) ∧ (-128 ≤ v ∧ v ≤ 127) ∧ nx ls st (σ.1, σ.2.1, σ.2.2.1, mz_up σ.2.2.2 o j.toNat v) | _ => False
  | (46, _) => match st with | .inl j :: .inr (some (t, n, o)) :: st => (103 ≤ t ∧ t ≤ 105) ∧ (0 ≤ j ∧ j < n) ∧ σ.2.2.1 o j.toNat = true ∧ nx ls (.inr (some ((mz_ar t).1, 0, o + ((mz_ar t).2.1 + (mz_ar t).2.2 * j.toNat))) :: st) σ | _ => False
  | (47, _) => match st with | .inr (some (u, n', q)) :: .inl j :: .inr (some (t, n, o)) :: st => (103 ≤ t ∧ t ≤ 105) ∧ (0 ≤ j ∧ j < n) ∧ (u = (mz_ar t).1 ∧ n' = 0 ∧ q = o + ((mz_ar t).2.1 + (mz_ar t).2.2 * j.toNat)) ∧ nx ls st (σ.1, σ.2.1, mz_iu σ.2.2.1 o j.toNat, σ.2.2.2) | _ => False
  | (48, _) => match st with | .inr (some (t, n, _)) :: st => ((100 ≤ t ∧ t ≤ 105) ∨ t = 91) ∧ nx ls (.inl n :: st) σ | _ => False
  | (49, a, _, c, _) => mz_pop c [] st fun as st => st.length ≤ 8 ∧ call a as σ fun r σ' => nx ls (r.toList ++ st) σ'
  | (50, a, b, c, _) => mz_pop c [] st fun as st => mz_rc b as ∧ st.length ≤ 8 ∧ call a as σ fun r σ' => nx ls (r.toList ++ st) σ'
  | (51, a, b, c, _) => mz_pop c [] st fun as st => mz_rc b as ∧ st.length ≤ 8 ∧ call a as σ fun r σ' => nx ls (r.toList ++ st) σ'
  | (52, a, _, c, _) => mz_pop c [] st fun as st => st.length ≤ 8 ∧ call a as σ fun r σ' => nx ls (r.toList ++ st) σ'
  | (54, a, b, c, _) => mz_pop c [] st fun as st => mz_rc b as ∧ st.length ≤ 8 ∧ call a as σ fun r σ' => nx ls (r.toList ++ st) σ'
  | (55, a, _) => match st with | [.inl v] => (if a = 0 then True else if a = 1 then v = 0 ∨ v = 1 else if a = 2 then -128 ≤ v ∧ v ≤ 127 else 0 ≤ v ∧ v ≤ 65535) ∧ rt (some (.inl v)) σ | _ => False
  | (56, _) => match st with | [.inr r] => rt (some (.inr r)) σ | _ => False
  | (57, _) => match st with | [] => rt none σ | _ => False
  | (58, a, _) => mz_kd σ.1 = (a, 0) ∧ nx ls (.inr (some (a, 0, σ.1)) :: st) (σ.1 + 1, σ.2.1 + mz_nf a, mz_if σ.2.2.1 σ.1, mz_zr σ.2.2.2 σ.1)
  | (59, _) => match st with | .inl n :: st => (0 ≤ n ∧ n ≤ 100000) ∧ mz_kd σ.1 = (100, n.toNat) ∧ nx ls (.inr (some (100, n.toNat, σ.1)) :: st) (σ.1 + 1, σ.2.1 + n.toNat, mz_if σ.2.2.1 σ.1, mz_zr σ.2.2.2 σ.1) | _ => False
  | (60, _) => match st with | .inl n :: st => (0 ≤ n ∧ n ≤ 100000) ∧ mz_kd σ.1 = (101, n.toNat) ∧ nx ls (.inr (some (101, n.toNat, σ.1)) :: st) (σ.1 + 1, σ.2.1 + n.toNat, mz_if σ.2.2.1 σ.1, mz_zr σ.2.2.2 σ.1) | _ => False
  | (61, _) => match st with | .inl n :: st => (0 ≤ n ∧ n ≤ 100000) ∧ mz_kd σ.1 = (102, n.toNat) ∧ nx ls (.inr (some (102, n.toNat, σ.1)) :: st) (σ.1 + 1, σ.2.1 + n.toNat, mz_if σ.2.2.1 σ.1, mz_zr σ.2.2.2 σ.1) | _ => False
  | (62, a, _) => match st with | .inl n :: st => (103 ≤ a ∧ a ≤ 105) ∧ (0 ≤ n ∧ n ≤ 100000) ∧ mz_kd σ.1 = (a, n.toNat) ∧ nx ls (.inr (some (a, n.toNat, σ.1)) :: st) (σ.1 + 1, σ.2.1 + n.toNat, mz_if σ.2.2.1 σ.1, mz_zr σ.2.2.2 σ.1) | _ => False
  | (63, _) => match st with | .inr (some (t, _, _)) :: st => t < 10 ∧ st.length ≤ 8 ∧ nx ls st σ | _ => False
  | (64, _) => match st with | .inl n :: .inl dp :: .inr (some (t1, n1, o1)) :: .inl sp :: .inr (some (t0, n0, o0)) :: st => (t0 = 100 ∧ t1 = 100 ∧ sp = 0 ∧ dp = 0) ∧ (0 ≤ n ∧ n ≤ n0 ∧ n ≤ n1) ∧ st.length ≤ 8 ∧ nx ls st (σ.1, σ.2.1, σ.2.2.1, mz_cp σ.2.2.2 o0 o1 n.toNat) | _ => False
  | (65, a, _) => nx ls (.inr (some (90, 0, a)) :: st) σ
  | (66, _) => match st with | .inr (some (t, _, o)) :: st => t = 90 ∧ nx ls (.inr (some (91, mz_tl o, o)) :: st) σ | _ => False
  | (67, _) => match st with | .inr (some (t, _, _)) :: st => t = 90 ∧ nx ls (.inl 0 :: st) σ | _ => False
  | (68, _) => nx ls (.inr none :: st) σ
  | (69, _) => match st with | y :: x :: st => nx ls (y :: x :: y :: x :: st) σ | _ => False
  | (72, _) => nx ls (.inl 1 :: st) σ
  | (73, _) => nx ls (.inr (some (92, 0, 0)) :: st) σ
  | (74, _) => match st with | .inl x :: st => (0 ≤ x ∧ x ≤ 65535) ∧ nx ls (.inl x :: st) σ | _ => False
  | (75, _) => match st with | .inl y :: .inl x :: st => st.length ≤ 8 ∧ nx ls (.inl (max x y) :: st) σ | _ => False
  | (76, _) => match st with | .inl y :: .inl x :: st => st.length ≤ 8 ∧ nx ls (.inl (min x y) :: st) σ | _ => False
  | _ => False
def mz_stp (e : mz_I) (ls : mz_Ls) (st : List mz_V) (σ : mz_S) : Prop :=
  if e.1 < 36 then mz_st0 nx jp e ls st σ else mz_st1 nx call rt e ls st σ
end Stp
def mz_L (k : Nat) : Nat := mz_LL.getD k 0
def mz_cd (k : Nat) : List mz_I := mz_cdL.getD k []
def mz_ent (k : Nat) (args : List mz_V) : mz_Ls := args.map some ++ List.replicate (mz_L k - args.length) none
def mz_run : Nat → Nat → Nat → mz_Ls → List mz_V → mz_S → Option mz_V → mz_S → Prop
  | 0, _, _, _, _, _, _, _ => False
  | n + 1, k, i, ls, st, σ, r0, σ0 => match (mz_cd k)[i]? with
    | none => False
    | some e => mz_stp (fun ls st σ => mz_run n k (i + 1) ls st σ r0 σ0) (fun a ls st σ => mz_run n k a ls st σ r0 σ0)
        (fun k' as σ K => ∃ r1 σ1, mz_run n k' 0 (mz_ent k' as) [] σ r1 σ1 ∧ K r1 σ1) (fun r σ => r = r0 ∧ σ = σ0) e ls st σ
def mz_ex (k i : Nat) (ls : mz_Ls) (st : List mz_V) (σ : mz_S) (r0 : Option mz_V) (σ0 : mz_S) : Prop := ∃ n, mz_run n k i ls st σ r0 σ0
def mz_cl (k : Nat) (as : List mz_V) (σ : mz_S) (r0 : Option mz_V) (σ0 : mz_S) : Prop := mz_ex k 0 (mz_ent k as) [] σ r0 σ0
def mz_gr (σ σ' : mz_S) : Prop := σ.1 ≤ σ'.1 ∧ σ.2.1 ≤ σ'.2.1
theorem mz_gr_rf {σ : mz_S} : mz_gr σ σ := ⟨Nat.le_refl _, Nat.le_refl _⟩
/-- a step goes on in one way alone -/
def mz_one (σa : mz_S) (nx : mz_Ls → List mz_V → mz_S → Prop) (jp : Nat → mz_Ls → List mz_V → mz_S → Prop) (call : Nat → List mz_V → mz_S → (Option mz_V → mz_S → Prop) → Prop) (rt : Option mz_V → mz_S → Prop) (P : (mz_Ls → List mz_V → mz_S → Prop) → (Nat → mz_Ls → List mz_V → mz_S → Prop) → (Nat → List mz_V → mz_S → (Option mz_V → mz_S → Prop) → Prop) → (Option mz_V → mz_S → Prop) → Prop) : Prop :=
  (∃ ls st σ, nx ls st σ ∧ mz_gr σa σ ∧ ∀ nx' jp' call' rt', nx' ls st σ → P nx' jp' call' rt') ∨
  (∃ a ls st σ, jp a ls st σ ∧ mz_gr σa σ ∧ ∀ nx' jp' call' rt', jp' a ls st σ → P nx' jp' call' rt') ∨
  (∃ k as ls st σ, call k as σ (fun r σ' => nx ls (r.toList ++ st) σ') ∧ mz_gr σa σ ∧ ∀ nx' jp' call' rt', call' k as σ (fun r σ' => nx' ls (r.toList ++ st) σ') → P nx' jp' call' rt') ∨
  (∃ r σ, rt r σ ∧ mz_gr σa σ ∧ ∀ nx' jp' call' rt', rt' r σ → P nx' jp' call' rt')
section One
variable {nx : mz_Ls → List mz_V → mz_S → Prop} {jp : Nat → mz_Ls → List mz_V → mz_S → Prop} {call : Nat → List mz_V → mz_S → (Option mz_V → mz_S → Prop) → Prop} {rt : Option mz_V → mz_S → Prop} {σa : mz_S}
  {P Q : (mz_Ls → List mz_V → mz_S → Prop) → (Nat → mz_Ls → List mz_V → mz_S → Prop) → (Nat → List mz_V → mz_S → (Option mz_V → mz_S → Prop) → Prop) → (Option mz_V → mz_S → Prop) → Prop}
theorem mz_one_nx (ls : mz_Ls) (st : List mz_V) (σ : mz_S) (h : nx ls st σ) (hg : mz_gr σa σ := by first | exact ⟨Nat.le_refl _, Nat.le_refl _⟩ | exact ⟨Nat.le_succ _, Nat.le_add_right _ _⟩) : mz_one σa nx jp call rt (fun nx _ _ _ => nx ls st σ) := Or.inl ⟨ls, st, σ, h, hg, fun _ _ _ _ h => h⟩
theorem mz_one_jp (a : Nat) (ls : mz_Ls) (st : List mz_V) (σ : mz_S) (h : jp a ls st σ) (hg : mz_gr σa σ := by first | exact ⟨Nat.le_refl _, Nat.le_refl _⟩ | exact ⟨Nat.le_succ _, Nat.le_add_right _ _⟩) : mz_one σa nx jp call rt (fun _ jp _ _ => jp a ls st σ) := Or.inr (Or.inl ⟨a, ls, st, σ, h, hg, fun _ _ _ _ h => h⟩)
theorem mz_one_rt (r : Option mz_V) (σ : mz_S) (h : rt r σ) (hg : mz_gr σa σ := by first | exact ⟨Nat.le_refl _, Nat.le_refl _⟩ | exact ⟨Nat.le_succ _, Nat.le_add_right _ _⟩) : mz_one σa nx jp call rt (fun _ _ _ rt => rt r σ) := Or.inr (Or.inr (Or.inr ⟨r, σ, h, hg, fun _ _ _ _ h => h⟩))
theorem mz_one_call (k : Nat) (as : List mz_V) (ls : mz_Ls) (st : List mz_V) (σ : mz_S) (h : call k as σ (fun r σ' => nx ls (r.toList ++ st) σ')) (hg : mz_gr σa σ := by first | exact ⟨Nat.le_refl _, Nat.le_refl _⟩ | exact ⟨Nat.le_succ _, Nat.le_add_right _ _⟩) : mz_one σa nx jp call rt (fun nx _ call _ => call k as σ (fun r σ' => nx ls (r.toList ++ st) σ')) := Or.inr (Or.inr (Or.inl ⟨k, as, ls, st, σ, h, hg, fun _ _ _ _ h => h⟩))
theorem mz_one_imp (h : mz_one σa nx jp call rt P) (hpq : ∀ nx jp call rt, P nx jp call rt → Q nx jp call rt) : mz_one σa nx jp call rt Q := by
  rcases h with ⟨ls, st, σ, h, hg, h2⟩ | ⟨a, ls, st, σ, h, hg, h2⟩ | ⟨k, as, ls, st, σ, h, hg, h2⟩ | ⟨r, σ, h, hg, h2⟩
  · exact Or.inl ⟨ls, st, σ, h, hg, fun _ _ _ _ q => hpq _ _ _ _ (h2 _ _ _ _ q)⟩
  · exact Or.inr (Or.inl ⟨a, ls, st, σ, h, hg, fun _ _ _ _ q => hpq _ _ _ _ (h2 _ _ _ _ q)⟩)
  · exact Or.inr (Or.inr (Or.inl ⟨k, as, ls, st, σ, h, hg, fun _ _ _ _ q => hpq _ _ _ _ (h2 _ _ _ _ q)⟩))
  · exact Or.inr (Or.inr (Or.inr ⟨r, σ, h, hg, fun _ _ _ _ q => hpq _ _ _ _ (h2 _ _ _ _ q)⟩))
theorem mz_one_and {p : Prop} (hp : p) (h : mz_one σa nx jp call rt P) : mz_one σa nx jp call rt (fun a b c d => p ∧ P a b c d) := mz_one_imp h fun _ _ _ _ q => ⟨hp, q⟩
theorem mz_one_ite {c : Prop} [Decidable c] (h : if c then mz_one σa nx jp call rt P else mz_one σa nx jp call rt Q) : mz_one σa nx jp call rt (fun x y z w => if c then P x y z w else Q x y z w) := by
  by_cases hc : c
  · rw [if_pos hc] at h
    exact mz_one_imp h fun _ _ _ _ q => by rw [if_pos hc]; exact q
  · rw [if_neg hc] at h
    exact mz_one_imp h fun _ _ _ _ q => by rw [if_neg hc]; exact q
theorem mz_lk_spec {ls : mz_Ls} {a : Nat} {K : mz_V → Prop} (h : mz_lk ls a K) : ∃ v, ls[a]? = some (some v) ∧ K v := by
  induction ls generalizing a with
  | nil => cases a <;> exact h.elim
  | cons x t ih =>
    cases a with
    | zero =>
      cases x with
      | none => exact h.elim
      | some v => exact ⟨v, rfl, h⟩
    | succ a =>
      have h' : mz_lk t a K := by cases x <;> exact h
      obtain ⟨v, h1, h2⟩ := ih h'
      exact ⟨v, by simpa using h1, h2⟩
theorem mz_lk_of {ls : mz_Ls} {a : Nat} {K : mz_V → Prop} {v : mz_V} (h : ls[a]? = some (some v)) (hk : K v) : mz_lk ls a K := by
  induction ls generalizing a with
  | nil => simp at h
  | cons x t ih =>
    cases a with
    | zero =>
      simp at h
      subst h
      exact hk
    | succ a =>
      have h' := ih (by simpa using h)
      cases x <;> exact h'
theorem mz_pop_spec {n : Nat} {acc st : List mz_V} {K : List mz_V → List mz_V → Prop} (h : mz_pop n acc st K) : ∃ as rest, st = as.reverse ++ rest ∧ as.length = n ∧ K (as ++ acc) rest := by
  induction n generalizing acc st with
  | zero => exact ⟨[], st, rfl, rfl, h⟩
  | succ n ih =>
    cases st with
    | nil => exact h.elim
    | cons v st =>
      obtain ⟨as, rest, h1, h2, h3⟩ := ih h
      exact ⟨as ++ [v], rest, by simp [h1], by simp [h2], by simpa using h3⟩
theorem mz_pop_of {n : Nat} {acc as rest : List mz_V} {K : List mz_V → List mz_V → Prop} (hn : as.length = n) (h : K (as ++ acc) rest) : mz_pop n acc (as.reverse ++ rest) K := by
  induction n generalizing acc as with
  | zero =>
    cases as with
    | nil => exact h
    | cons _ _ => simp at hn
  | succ n ih =>
    rcases List.eq_nil_or_concat as with rfl | ⟨as', v, rfl⟩
    · simp at hn
    · have e : (as'.concat v).reverse ++ rest = v :: (as'.reverse ++ rest) := by simp
      rw [e]
      exact ih (by simpa using hn) (by simpa using h)
theorem mz_one_lk {ls : mz_Ls} {a : Nat} {P : mz_V → (mz_Ls → List mz_V → mz_S → Prop) → (Nat → mz_Ls → List mz_V → mz_S → Prop) → (Nat → List mz_V → mz_S → (Option mz_V → mz_S → Prop) → Prop) → (Option mz_V → mz_S → Prop) → Prop} (h : mz_lk ls a fun v => P v nx jp call rt) (hP : ∀ v, P v nx jp call rt → mz_one σa nx jp call rt (P v)) : mz_one σa nx jp call rt (fun a1 a2 a3 a4 => mz_lk ls a fun v => P v a1 a2 a3 a4) := by
  obtain ⟨v, h1, h2⟩ := mz_lk_spec h
  exact mz_one_imp (hP v h2) fun _ _ _ _ q => mz_lk_of h1 q
theorem mz_one_pop {n : Nat} {st : List mz_V} {P : List mz_V → List mz_V → (mz_Ls → List mz_V → mz_S → Prop) → (Nat → mz_Ls → List mz_V → mz_S → Prop) → (Nat → List mz_V → mz_S → (Option mz_V → mz_S → Prop) → Prop) → (Option mz_V → mz_S → Prop) → Prop} (h : mz_pop n [] st fun as st => P as st nx jp call rt) (hP : ∀ as st, P as st nx jp call rt → mz_one σa nx jp call rt (P as st)) : mz_one σa nx jp call rt (fun a1 a2 a3 a4 => mz_pop n [] st fun as st => P as st a1 a2 a3 a4) := by
  obtain ⟨as, rest, h1, h2, h3⟩ := mz_pop_spec h
  subst h1
  exact mz_one_imp (hP _ _ h3) fun _ _ _ _ q => mz_pop_of h2 q
theorem mz_one_tsw {v : Int} {ts : List Nat} {lo : Int} {d : Nat} {ls : mz_Ls} {st : List mz_V} {σ : mz_S} (h : mz_tsw v lo ts d fun t => jp t ls st σ) : mz_one σ nx jp call rt (fun _ a2 _ _ => mz_tsw v lo ts d fun t => a2 t ls st σ) := by
  induction ts generalizing lo with
  | nil => exact mz_one_jp d ls st σ h
  | cons t ts ih =>
    unfold mz_tsw at h ⊢
    apply mz_one_ite
    split at h
    · rename_i hc
      rw [if_pos hc]
      exact mz_one_jp t ls st σ h
    · rename_i hc
      rw [if_neg hc]
      exact ih h
set_option maxHeartbeats 4000000 in
theorem mz_one0 {e : mz_I} {ls : mz_Ls} {st : List mz_V} {σ : mz_S} (h : mz_st0 nx jp e ls st σ) : mz_one σ nx jp call rt (fun nx jp _ _ => mz_st0 nx jp e ls st σ) := by
  unfold mz_st0 at h ⊢
  split at h <;> first
    | exact h.elim
    | exact mz_one_nx _ _ _ h
    | exact mz_one_jp _ _ _ _ h
    | (split at h <;> first | exact h.elim | exact mz_one_nx _ _ _ h | exact mz_one_jp _ _ _ _ h | exact mz_one_and h.1 (mz_one_nx _ _ _ h.2) | exact mz_one_and h.1 (mz_one_jp _ _ _ _ h.2) | exact mz_one_tsw h | (apply mz_one_ite; split at h <;> (rename_i hc; first | (rw [if_pos hc]; first | exact mz_one_nx _ _ _ h | exact mz_one_jp _ _ _ _ h) | (rw [if_neg hc]; first | exact mz_one_nx _ _ _ h | exact mz_one_jp _ _ _ _ h))))
    | (refine mz_one_lk (P := fun v nx _ _ _ => _) h fun v q => ?_; split at q <;> first | exact q.elim | exact mz_one_nx _ _ _ q | exact mz_one_and q.1 (mz_one_nx _ _ _ q.2))
set_option maxHeartbeats 4000000 in
theorem mz_one1 {e : mz_I} {ls : mz_Ls} {st : List mz_V} {σ : mz_S} (h : mz_st1 nx call rt e ls st σ) : mz_one σ nx jp call rt (fun nx _ call rt => mz_st1 nx call rt e ls st σ) := by
  unfold mz_st1 at h ⊢
  split at h <;> first
    | exact h.elim
    | exact mz_one_nx _ _ _ h
    | exact mz_one_and h.1 (mz_one_nx _ _ _ h.2)
    | (refine mz_one_pop (P := fun as st nx _ call _ => _) h fun as st q => ?_; first | exact mz_one_and q.1 (mz_one_call _ _ _ _ _ q.2) | exact mz_one_and q.1 (mz_one_and q.2.1 (mz_one_call _ _ _ _ _ q.2.2)))
    | (split at h <;> first
        | exact h.elim
        | exact mz_one_nx _ _ _ h
        | exact mz_one_rt _ _ h
        | exact mz_one_and h.1 (mz_one_rt _ _ h.2)
        | exact mz_one_and h.1 (mz_one_nx _ _ _ h.2)
        | exact mz_one_and h.1 (mz_one_and h.2.1 (mz_one_nx _ _ _ h.2.2))
        | exact mz_one_and h.1 (mz_one_and h.2.1 (mz_one_and h.2.2.1 (mz_one_nx _ _ _ h.2.2.2)))
        | (refine mz_one_and h.1 (mz_one_and h.2.1 ?_); have h := h.2.2; split at h <;> first | exact h.elim | exact mz_one_nx _ _ _ h)
        | (refine mz_one_and h.1 (mz_one_ite ?_); have h := h.2; split at h <;> (rename_i hc; first | (rw [if_pos hc]; exact mz_one_nx _ _ _ h) | (rw [if_neg hc]; exact mz_one_and h.1 (mz_one_nx _ _ _ h.2)))))
theorem mz_oneS {e : mz_I} {ls : mz_Ls} {st : List mz_V} {σ : mz_S} (h : mz_stp nx jp call rt e ls st σ) : mz_one σ nx jp call rt (fun nx jp call rt => mz_stp nx jp call rt e ls st σ) := by
  unfold mz_stp at h ⊢
  apply mz_one_ite
  split at h
  · rename_i hc
    rw [if_pos hc]
    exact mz_one0 h
  · rename_i hc
    rw [if_neg hc]
    exact mz_one1 h
end One
theorem mz_run_mono : ∀ {n n' : Nat}, n ≤ n' → ∀ {k i : Nat} {ls : mz_Ls} {st : List mz_V} {σ : mz_S} {r0 : Option mz_V} {σ0 : mz_S}, mz_run n k i ls st σ r0 σ0 → mz_run n' k i ls st σ r0 σ0 := by
  intro n
  induction n with
  | zero => intro n' _ k i ls st σ r0 σ0 h; exact h.elim
  | succ n ih =>
    intro n' hn k i ls st σ r0 σ0 h
    obtain ⟨n', rfl⟩ : ∃ j, n' = j + 1 := ⟨n' - 1, by omega⟩
    have hn : n ≤ n' := by omega
    unfold mz_run at h ⊢
    split at h
    · exact h.elim
    · rcases mz_oneS h with ⟨ls, st, σ, h1, -, h2⟩ | ⟨a, ls, st, σ, h1, -, h2⟩ | ⟨k', as, ls, st, σ, ⟨r1, σ1, h1, h3⟩, -, h2⟩ | ⟨r, σ, h1, -, h2⟩
      · exact h2 _ _ _ _ (ih hn h1)
      · exact h2 _ _ _ _ (ih hn h1)
      · exact h2 _ _ _ _ ⟨r1, σ1, ih hn h1, ih hn h3⟩
      · exact h2 _ _ _ _ h1
theorem mz_run_gr : ∀ {n k i : Nat} {ls : mz_Ls} {st : List mz_V} {σ : mz_S} {r0 : Option mz_V} {σ0 : mz_S}, mz_run n k i ls st σ r0 σ0 → mz_gr σ σ0 := by
  intro n
  induction n with
  | zero => intro k i ls st σ r0 σ0 h; exact h.elim
  | succ n ih =>
    intro k i ls st σ r0 σ0 h
    unfold mz_run at h
    split at h
    · exact h.elim
    · have tr : ∀ {a b c : mz_S}, mz_gr a b → mz_gr b c → mz_gr a c := fun p q => ⟨Nat.le_trans p.1 q.1, Nat.le_trans p.2 q.2⟩
      rcases mz_oneS h with ⟨ls, st, σ, h1, hg, h2⟩ | ⟨a, ls, st, σ, h1, hg, h2⟩ | ⟨k', as, ls, st, σ, ⟨r1, σ1, h1, h3⟩, hg, h2⟩ | ⟨r, σ, ⟨-, rfl⟩, hg, h2⟩
      · exact tr hg (ih h1)
      · exact tr hg (ih h1)
      · exact tr hg (tr (ih h1) (ih h3))
      · exact hg
theorem mz_ex_step {k i : Nat} {ls : mz_Ls} {st : List mz_V} {σ : mz_S} {r0 : Option mz_V} {σ0 : mz_S} {e : mz_I} (he : (mz_cd k)[i]? = some e)
    (h : mz_stp (fun ls st σ => mz_ex k (i + 1) ls st σ r0 σ0) (fun a ls st σ => mz_ex k a ls st σ r0 σ0) (fun k' as σ K => ∃ r1 σ1, mz_cl k' as σ r1 σ1 ∧ K r1 σ1) (fun r σ => r = r0 ∧ σ = σ0) e ls st σ) : mz_ex k i ls st σ r0 σ0 := by
  have fin : ∀ n, mz_stp (fun ls st σ => mz_run n k (i + 1) ls st σ r0 σ0) (fun a ls st σ => mz_run n k a ls st σ r0 σ0) (fun k' as σ K => ∃ r1 σ1, mz_run n k' 0 (mz_ent k' as) [] σ r1 σ1 ∧ K r1 σ1) (fun r σ => r = r0 ∧ σ = σ0) e ls st σ → mz_ex k i ls st σ r0 σ0 := by
    intro n h
    refine ⟨n + 1, ?_⟩
    unfold mz_run
    rw [he]
    exact h
  rcases mz_oneS h with ⟨ls, st, σ, ⟨n, h1⟩, -, h2⟩ | ⟨a, ls, st, σ, ⟨n, h1⟩, -, h2⟩ | ⟨k', as, ls, st, σ, ⟨r1, σ1, ⟨n1, h1⟩, ⟨n3, h3⟩⟩, -, h2⟩ | ⟨r, σ, h1, -, h2⟩
  · exact fin n (h2 _ _ _ _ h1)
  · exact fin n (h2 _ _ _ _ h1)
  · exact fin (max n1 n3) (h2 _ _ _ _ ⟨r1, σ1, mz_run_mono (Nat.le_max_left _ _) h1, mz_run_mono (Nat.le_max_right _ _) h3⟩)
  · exact fin 0 (h2 _ _ _ _ h1)
/-- what is to be shown for a stretch of a method: it stops at the rows of ct, and when n is used up -/
def mz_vc : Nat → (Nat → Bool) → Nat → Nat → List mz_I → mz_Ls → List mz_V → mz_S → Option mz_V → mz_S → Prop
  | 0, _, k, i, _, ls, st, σ, r0, σ0 => mz_ex k i ls st σ r0 σ0
  | _ + 1, _, _, _, [], _, _, _, _, _ => False
  | n + 1, ct, k, i, e :: rem, ls, st, σ, r0, σ0 => mz_stp
      (fun ls st σ => if ct (i + 1) then mz_ex k (i + 1) ls st σ r0 σ0 else mz_vc n ct k (i + 1) rem ls st σ r0 σ0)
      (fun a ls st σ => if ct a then mz_ex k a ls st σ r0 σ0 else mz_vc n ct k a ((mz_cd k).drop a) ls st σ r0 σ0)
      (fun k' as σ K => ∃ r1 σ1, mz_cl k' as σ r1 σ1 ∧ K r1 σ1) (fun r σ => r = r0 ∧ σ = σ0) e ls st σ
theorem mz_vc_ok : ∀ (n : Nat) {ct : Nat → Bool} {k i : Nat} {ls : mz_Ls} {st : List mz_V} {σ : mz_S} {r0 : Option mz_V} {σ0 : mz_S}, mz_vc n ct k i ((mz_cd k).drop i) ls st σ r0 σ0 → mz_ex k i ls st σ r0 σ0 := by
  intro n
  induction n with
  | zero => intro ct k i ls st σ r0 σ0 h; exact h
  | succ n ih =>
    intro ct k i ls st σ r0 σ0 h
    cases hd : (mz_cd k).drop i with
    | nil => rw [hd] at h; exact h.elim
    | cons e rem =>
      rw [hd] at h
      have he : (mz_cd k)[i]? = some e := by
        have := congrArg List.head? hd
        simpa [List.head?_drop] using this
      have hr : (mz_cd k).drop (i + 1) = rem := by
        have := congrArg List.tail hd
        simpa [List.tail_drop] using this
      refine mz_ex_step he ?_
      have h' : mz_stp (fun ls st σ => if ct (i + 1) then mz_ex k (i + 1) ls st σ r0 σ0 else mz_vc n ct k (i + 1) rem ls st σ r0 σ0) (fun a ls st σ => if ct a then mz_ex k a ls st σ r0 σ0 else mz_vc n ct k a ((mz_cd k).drop a) ls st σ r0 σ0)
        (fun k' as σ K => ∃ r1 σ1, mz_cl k' as σ r1 σ1 ∧ K r1 σ1) (fun r σ => r = r0 ∧ σ = σ0) e ls st σ := h
      have nxt : ∀ (ls : mz_Ls) (st : List mz_V) (σ : mz_S), (if ct (i + 1) then mz_ex k (i + 1) ls st σ r0 σ0 else mz_vc n ct k (i + 1) rem ls st σ r0 σ0) → mz_ex k (i + 1) ls st σ r0 σ0 := by
        intro ls st σ q
        split at q
        · exact q
        · rw [← hr] at q
          exact ih q
      have jmp : ∀ (a : Nat) (ls : mz_Ls) (st : List mz_V) (σ : mz_S), (if ct a then mz_ex k a ls st σ r0 σ0 else mz_vc n ct k a ((mz_cd k).drop a) ls st σ r0 σ0) → mz_ex k a ls st σ r0 σ0 := by
        intro a ls st σ q
        split at q
        · exact q
        · exact ih q
      rcases mz_oneS h' with ⟨ls, st, σ, h1, -, h2⟩ | ⟨a, ls, st, σ, h1, -, h2⟩ | ⟨k', as, ls, st, σ, ⟨r1, σ1, h1, h3⟩, -, h2⟩ | ⟨r, σ, h1, -, h2⟩
      · exact h2 _ _ _ _ (nxt _ _ _ h1)
      · exact h2 _ _ _ _ (jmp _ _ _ _ h1)
      · exact h2 _ _ _ _ ⟨r1, σ1, h1, nxt _ _ _ h3⟩
      · exact h2 _ _ _ _ h1
theorem mz_cl_vc (n : Nat) (ct : Nat → Bool) {k : Nat} {as : List mz_V} {σ : mz_S} {r0 : Option mz_V} {σ0 : mz_S} (ls : mz_Ls) (hl : mz_ent k as = ls) (h : mz_vc n ct k 0 ((mz_cd k).drop 0) ls [] σ r0 σ0) : mz_cl k as σ r0 σ0 := by
  subst hl
  exact mz_vc_ok n h
end
section
/-! How a stretch of the small machine is gone through: one equation an operation, and the rows of each method from each place that is jumped to. -/
def mz_nx (n : Nat) (ct : Nat → Bool) (k i : Nat) (rem : List mz_I) (r0 : Option mz_V) (σ0 : mz_S) (ls : mz_Ls) (st : List mz_V) (σ : mz_S) : Prop := if ct i then mz_ex k i ls st σ r0 σ0 else mz_vc n ct k i rem ls st σ r0 σ0
theorem vcS0 : (∀ {n : Nat} {ct : Nat → Bool} {k i a : Nat} {b : Int} {c x y : Nat} {rem : List mz_I} {ls : mz_Ls} {st : List mz_V} {σ : mz_S} {r0 : Option mz_V} {σ0 : mz_S} , mz_vc (n + 1) ct k i ((0, a, b, c, x, y) :: rem) ls st σ r0 σ0 = (mz_nx n ct k (i + 1) rem r0 σ0 ls (.inl b :: st) σ)) ∧
  (∀ {n : Nat} {ct : Nat → Bool} {k i a : Nat} {b : Int} {c x y : Nat} {rem : List mz_I} {ls : mz_Ls} {st : List mz_V} {σ : mz_S} {r0 : Option mz_V} {σ0 : mz_S} , mz_vc (n + 1) ct k i ((1, a, b, c, x, y) :: rem) ls st σ r0 σ0 = (mz_lk ls a fun v => match v with | .inl n9 => mz_nx n ct k (i + 1) rem r0 σ0 ls (.inl n9 :: st) σ | .inr _ => False)) ∧
  (∀ {n : Nat} {ct : Nat → Bool} {k i a : Nat} {b : Int} {c x y : Nat} {rem : List mz_I} {ls : mz_Ls} {st : List mz_V} {σ : mz_S} {r0 : Option mz_V} {σ0 : mz_S} , mz_vc (n + 1) ct k i ((2, a, b, c, x, y) :: rem) ls st σ r0 σ0 = (mz_lk ls a fun v => match v with | .inl _ => False | .inr r9 => mz_nx n ct k (i + 1) rem r0 σ0 ls (.inr r9 :: st) σ)) ∧
  (∀ {n : Nat} {ct : Nat → Bool} {k i a : Nat} {b : Int} {c x y : Nat} {rem : List mz_I} {ls : mz_Ls} {st : List mz_V} {σ : mz_S} {r0 : Option mz_V} {σ0 : mz_S} {u : Int}, mz_vc (n + 1) ct k i ((3, a, b, c, x, y) :: rem) ls (.inl u :: st) σ r0 σ0 = (mz_nx n ct k (i + 1) rem r0 σ0 (ls.set a (some (.inl u))) st σ)) ∧
  (∀ {n : Nat} {ct : Nat → Bool} {k i a : Nat} {b : Int} {c x y : Nat} {rem : List mz_I} {ls : mz_Ls} {st : List mz_V} {σ : mz_S} {r0 : Option mz_V} {σ0 : mz_S} {u : Option (Nat × Nat × Nat)}, mz_vc (n + 1) ct k i ((4, a, b, c, x, y) :: rem) ls (.inr u :: st) σ r0 σ0 = (mz_nx n ct k (i + 1) rem r0 σ0 (ls.set a (some (.inr u))) st σ)) ∧
  (∀ {n : Nat} {ct : Nat → Bool} {k i a : Nat} {b : Int} {c x y : Nat} {rem : List mz_I} {ls : mz_Ls} {st : List mz_V} {σ : mz_S} {r0 : Option mz_V} {σ0 : mz_S} , mz_vc (n + 1) ct k i ((5, a, b, c, x, y) :: rem) ls st σ r0 σ0 = (mz_lk ls a fun v => match v with | .inl n9 => mz_w (n9 + b) ∧ mz_nx n ct k (i + 1) rem r0 σ0 (ls.set a (some (.inl (n9 + b)))) st σ | .inr _ => False)) ∧
  (∀ {n : Nat} {ct : Nat → Bool} {k i a : Nat} {b : Int} {c x y : Nat} {rem : List mz_I} {ls : mz_Ls} {st : List mz_V} {σ : mz_S} {r0 : Option mz_V} {σ0 : mz_S} {u v : Int}, mz_vc (n + 1) ct k i ((6, a, b, c, x, y) :: rem) ls (.inl v :: .inl u :: st) σ r0 σ0 = (mz_w (u + v) ∧ mz_nx n ct k (i + 1) rem r0 σ0 ls (.inl (u + v) :: st) σ)) ∧
  (∀ {n : Nat} {ct : Nat → Bool} {k i a : Nat} {b : Int} {c x y : Nat} {rem : List mz_I} {ls : mz_Ls} {st : List mz_V} {σ : mz_S} {r0 : Option mz_V} {σ0 : mz_S} {u v : Int}, mz_vc (n + 1) ct k i ((7, a, b, c, x, y) :: rem) ls (.inl v :: .inl u :: st) σ r0 σ0 = (mz_w (u - v) ∧ mz_nx n ct k (i + 1) rem r0 σ0 ls (.inl (u - v) :: st) σ)) ∧
  (∀ {n : Nat} {ct : Nat → Bool} {k i a : Nat} {b : Int} {c x y : Nat} {rem : List mz_I} {ls : mz_Ls} {st : List mz_V} {σ : mz_S} {r0 : Option mz_V} {σ0 : mz_S} {u v : Int}, mz_vc (n + 1) ct k i ((8, a, b, c, x, y) :: rem) ls (.inl v :: .inl u :: st) σ r0 σ0 = (mz_w (u * v) ∧ mz_nx n ct k (i + 1) rem r0 σ0 ls (.inl (u * v) :: st) σ)) ∧
  (∀ {n : Nat} {ct : Nat → Bool} {k i a : Nat} {b : Int} {c x y : Nat} {rem : List mz_I} {ls : mz_Ls} {st : List mz_V} {σ : mz_S} {r0 : Option mz_V} {σ0 : mz_S} {u v : Int}, mz_vc (n + 1) ct k i ((9, a, b, c, x, y) :: rem) ls (.inl v :: .inl u :: st) σ r0 σ0 = ((0 < v ∧ 0 ≤ u) ∧ mz_nx n ct k (i + 1) rem r0 σ0 ls (.inl (u / v) :: st) σ)) ∧
  (∀ {n : Nat} {ct : Nat → Bool} {k i a : Nat} {b : Int} {c x y : Nat} {rem : List mz_I} {ls : mz_Ls} {st : List mz_V} {σ : mz_S} {r0 : Option mz_V} {σ0 : mz_S} {u v : Int}, mz_vc (n + 1) ct k i ((10, a, b, c, x, y) :: rem) ls (.inl v :: .inl u :: st) σ r0 σ0 = ((0 < v ∧ 0 ≤ u) ∧ mz_nx n ct k (i + 1) rem r0 σ0 ls (.inl (u % v) :: st) σ)) ∧
  (∀ {n : Nat} {ct : Nat → Bool} {k i a : Nat} {b : Int} {c x y : Nat} {rem : List mz_I} {ls : mz_Ls} {st : List mz_V} {σ : mz_S} {r0 : Option mz_V} {σ0 : mz_S} {u v : Int}, mz_vc (n + 1) ct k i ((11, a, b, c, x, y) :: rem) ls (.inl v :: .inl u :: st) σ r0 σ0 = (mz_nx n ct k (i + 1) rem r0 σ0 ls (.inl (mz_and u v) :: st) σ)) := by
  refine ⟨?_, ?_, ?_, ?_, ?_, ?_, ?_, ?_, ?_, ?_, ?_, ?_⟩ <;> intros <;> rfl
theorem vcS1 : (∀ {n : Nat} {ct : Nat → Bool} {k i a : Nat} {b : Int} {c x y : Nat} {rem : List mz_I} {ls : mz_Ls} {st : List mz_V} {σ : mz_S} {r0 : Option mz_V} {σ0 : mz_S} {u v : Int}, mz_vc (n + 1) ct k i ((12, a, b, c, x, y) :: rem) ls (.inl v :: .inl u :: st) σ r0 σ0 = (mz_nx n ct k (i + 1) rem r0 σ0 ls (.inl (mz_or u v) :: st) σ)) ∧
  (∀ {n : Nat} {ct : Nat → Bool} {k i a : Nat} {b : Int} {c x y : Nat} {rem : List mz_I} {ls : mz_Ls} {st : List mz_V} {σ : mz_S} {r0 : Option mz_V} {σ0 : mz_S} {u v : Int}, mz_vc (n + 1) ct k i ((13, a, b, c, x, y) :: rem) ls (.inl v :: .inl u :: st) σ r0 σ0 = (mz_nx n ct k (i + 1) rem r0 σ0 ls (.inl (mz_xor u v) :: st) σ)) ∧
  (∀ {n : Nat} {ct : Nat → Bool} {k i a : Nat} {b : Int} {c x y : Nat} {rem : List mz_I} {ls : mz_Ls} {st : List mz_V} {σ : mz_S} {r0 : Option mz_V} {σ0 : mz_S} {u v : Int}, mz_vc (n + 1) ct k i ((14, a, b, c, x, y) :: rem) ls (.inl v :: .inl u :: st) σ r0 σ0 = (mz_nx n ct k (i + 1) rem r0 σ0 ls (.inl (mz_shl u v) :: st) σ)) ∧
  (∀ {n : Nat} {ct : Nat → Bool} {k i a : Nat} {b : Int} {c x y : Nat} {rem : List mz_I} {ls : mz_Ls} {st : List mz_V} {σ : mz_S} {r0 : Option mz_V} {σ0 : mz_S} {u v : Int}, mz_vc (n + 1) ct k i ((15, a, b, c, x, y) :: rem) ls (.inl v :: .inl u :: st) σ r0 σ0 = (mz_nx n ct k (i + 1) rem r0 σ0 ls (.inl (mz_shr u v) :: st) σ)) ∧
  (∀ {n : Nat} {ct : Nat → Bool} {k i a : Nat} {b : Int} {c x y : Nat} {rem : List mz_I} {ls : mz_Ls} {st : List mz_V} {σ : mz_S} {r0 : Option mz_V} {σ0 : mz_S} {u v : Int}, mz_vc (n + 1) ct k i ((16, a, b, c, x, y) :: rem) ls (.inl v :: .inl u :: st) σ r0 σ0 = (mz_nx n ct k (i + 1) rem r0 σ0 ls (.inl (mz_ushr u v) :: st) σ)) ∧
  (∀ {n : Nat} {ct : Nat → Bool} {k i a : Nat} {b : Int} {c x y : Nat} {rem : List mz_I} {ls : mz_Ls} {st : List mz_V} {σ : mz_S} {r0 : Option mz_V} {σ0 : mz_S} {u : Int}, mz_vc (n + 1) ct k i ((17, a, b, c, x, y) :: rem) ls (.inl u :: st) σ r0 σ0 = (mz_nx n ct k (i + 1) rem r0 σ0 ls (.inl (mz_i2b u) :: st) σ)) ∧
  (∀ {n : Nat} {ct : Nat → Bool} {k i a : Nat} {b : Int} {c x y : Nat} {rem : List mz_I} {ls : mz_Ls} {st : List mz_V} {σ : mz_S} {r0 : Option mz_V} {σ0 : mz_S} {v : mz_V}, mz_vc (n + 1) ct k i ((18, a, b, c, x, y) :: rem) ls (v :: st) σ r0 σ0 = (mz_nx n ct k (i + 1) rem r0 σ0 ls (v :: v :: st) σ)) ∧
  (∀ {n : Nat} {ct : Nat → Bool} {k i a : Nat} {b : Int} {c x y : Nat} {rem : List mz_I} {ls : mz_Ls} {st : List mz_V} {σ : mz_S} {r0 : Option mz_V} {σ0 : mz_S} {v : mz_V}, mz_vc (n + 1) ct k i ((19, a, b, c, x, y) :: rem) ls (v :: st) σ r0 σ0 = (mz_nx n ct k (i + 1) rem r0 σ0 ls st σ)) ∧
  (∀ {n : Nat} {ct : Nat → Bool} {k i a : Nat} {b : Int} {c x y : Nat} {rem : List mz_I} {ls : mz_Ls} {st : List mz_V} {σ : mz_S} {r0 : Option mz_V} {σ0 : mz_S} {u v : Int}, mz_vc (n + 1) ct k i ((20, a, b, c, x, y) :: rem) ls (.inl v :: .inl u :: st) σ r0 σ0 = (if u = v then mz_nx n ct k a ((mz_cd k).drop a) r0 σ0 ls st σ else mz_nx n ct k (i + 1) rem r0 σ0 ls st σ)) ∧
  (∀ {n : Nat} {ct : Nat → Bool} {k i a : Nat} {b : Int} {c x y : Nat} {rem : List mz_I} {ls : mz_Ls} {st : List mz_V} {σ : mz_S} {r0 : Option mz_V} {σ0 : mz_S} {u v : Int}, mz_vc (n + 1) ct k i ((21, a, b, c, x, y) :: rem) ls (.inl v :: .inl u :: st) σ r0 σ0 = (if u = v then mz_nx n ct k (i + 1) rem r0 σ0 ls st σ else mz_nx n ct k a ((mz_cd k).drop a) r0 σ0 ls st σ)) ∧
  (∀ {n : Nat} {ct : Nat → Bool} {k i a : Nat} {b : Int} {c x y : Nat} {rem : List mz_I} {ls : mz_Ls} {st : List mz_V} {σ : mz_S} {r0 : Option mz_V} {σ0 : mz_S} {u v : Int}, mz_vc (n + 1) ct k i ((22, a, b, c, x, y) :: rem) ls (.inl v :: .inl u :: st) σ r0 σ0 = (if u < v then mz_nx n ct k a ((mz_cd k).drop a) r0 σ0 ls st σ else mz_nx n ct k (i + 1) rem r0 σ0 ls st σ)) ∧
  (∀ {n : Nat} {ct : Nat → Bool} {k i a : Nat} {b : Int} {c x y : Nat} {rem : List mz_I} {ls : mz_Ls} {st : List mz_V} {σ : mz_S} {r0 : Option mz_V} {σ0 : mz_S} {u v : Int}, mz_vc (n + 1) ct k i ((23, a, b, c, x, y) :: rem) ls (.inl v :: .inl u :: st) σ r0 σ0 = (if u < v then mz_nx n ct k (i + 1) rem r0 σ0 ls st σ else mz_nx n ct k a ((mz_cd k).drop a) r0 σ0 ls st σ)) := by
  refine ⟨?_, ?_, ?_, ?_, ?_, ?_, ?_, ?_, ?_, ?_, ?_, ?_⟩ <;> intros <;> rfl
theorem vcS2 : (∀ {n : Nat} {ct : Nat → Bool} {k i a : Nat} {b : Int} {c x y : Nat} {rem : List mz_I} {ls : mz_Ls} {st : List mz_V} {σ : mz_S} {r0 : Option mz_V} {σ0 : mz_S} {u v : Int}, mz_vc (n + 1) ct k i ((24, a, b, c, x, y) :: rem) ls (.inl v :: .inl u :: st) σ r0 σ0 = (if u ≤ v then mz_nx n ct k (i + 1) rem r0 σ0 ls st σ else mz_nx n ct k a ((mz_cd k).drop a) r0 σ0 ls st σ)) ∧
  (∀ {n : Nat} {ct : Nat → Bool} {k i a : Nat} {b : Int} {c x y : Nat} {rem : List mz_I} {ls : mz_Ls} {st : List mz_V} {σ : mz_S} {r0 : Option mz_V} {σ0 : mz_S} {u v : Int}, mz_vc (n + 1) ct k i ((25, a, b, c, x, y) :: rem) ls (.inl v :: .inl u :: st) σ r0 σ0 = (if u ≤ v then mz_nx n ct k a ((mz_cd k).drop a) r0 σ0 ls st σ else mz_nx n ct k (i + 1) rem r0 σ0 ls st σ)) ∧
  (∀ {n : Nat} {ct : Nat → Bool} {k i a : Nat} {b : Int} {c x y : Nat} {rem : List mz_I} {ls : mz_Ls} {st : List mz_V} {σ : mz_S} {r0 : Option mz_V} {σ0 : mz_S} {u : Int}, mz_vc (n + 1) ct k i ((26, a, b, c, x, y) :: rem) ls (.inl u :: st) σ r0 σ0 = (if u = 0 then mz_nx n ct k a ((mz_cd k).drop a) r0 σ0 ls st σ else mz_nx n ct k (i + 1) rem r0 σ0 ls st σ)) ∧
  (∀ {n : Nat} {ct : Nat → Bool} {k i a : Nat} {b : Int} {c x y : Nat} {rem : List mz_I} {ls : mz_Ls} {st : List mz_V} {σ : mz_S} {r0 : Option mz_V} {σ0 : mz_S} {u : Int}, mz_vc (n + 1) ct k i ((27, a, b, c, x, y) :: rem) ls (.inl u :: st) σ r0 σ0 = (if u = 0 then mz_nx n ct k (i + 1) rem r0 σ0 ls st σ else mz_nx n ct k a ((mz_cd k).drop a) r0 σ0 ls st σ)) ∧
  (∀ {n : Nat} {ct : Nat → Bool} {k i a : Nat} {b : Int} {c x y : Nat} {rem : List mz_I} {ls : mz_Ls} {st : List mz_V} {σ : mz_S} {r0 : Option mz_V} {σ0 : mz_S} {u : Int}, mz_vc (n + 1) ct k i ((28, a, b, c, x, y) :: rem) ls (.inl u :: st) σ r0 σ0 = (if u < 0 then mz_nx n ct k a ((mz_cd k).drop a) r0 σ0 ls st σ else mz_nx n ct k (i + 1) rem r0 σ0 ls st σ)) ∧
  (∀ {n : Nat} {ct : Nat → Bool} {k i a : Nat} {b : Int} {c x y : Nat} {rem : List mz_I} {ls : mz_Ls} {st : List mz_V} {σ : mz_S} {r0 : Option mz_V} {σ0 : mz_S} {u : Int}, mz_vc (n + 1) ct k i ((29, a, b, c, x, y) :: rem) ls (.inl u :: st) σ r0 σ0 = (if u < 0 then mz_nx n ct k (i + 1) rem r0 σ0 ls st σ else mz_nx n ct k a ((mz_cd k).drop a) r0 σ0 ls st σ)) ∧
  (∀ {n : Nat} {ct : Nat → Bool} {k i a : Nat} {b : Int} {c x y : Nat} {rem : List mz_I} {ls : mz_Ls} {st : List mz_V} {σ : mz_S} {r0 : Option mz_V} {σ0 : mz_S} {u : Int}, mz_vc (n + 1) ct k i ((30, a, b, c, x, y) :: rem) ls (.inl u :: st) σ r0 σ0 = (if u ≤ 0 then mz_nx n ct k (i + 1) rem r0 σ0 ls st σ else mz_nx n ct k a ((mz_cd k).drop a) r0 σ0 ls st σ)) ∧
  (∀ {n : Nat} {ct : Nat → Bool} {k i a : Nat} {b : Int} {c x y : Nat} {rem : List mz_I} {ls : mz_Ls} {st : List mz_V} {σ : mz_S} {r0 : Option mz_V} {σ0 : mz_S} {u : Int}, mz_vc (n + 1) ct k i ((31, a, b, c, x, y) :: rem) ls (.inl u :: st) σ r0 σ0 = (if u ≤ 0 then mz_nx n ct k a ((mz_cd k).drop a) r0 σ0 ls st σ else mz_nx n ct k (i + 1) rem r0 σ0 ls st σ)) ∧
  (∀ {n : Nat} {ct : Nat → Bool} {k i a : Nat} {b : Int} {c x y : Nat} {rem : List mz_I} {ls : mz_Ls} {st : List mz_V} {σ : mz_S} {r0 : Option mz_V} {σ0 : mz_S} , mz_vc (n + 1) ct k i ((32, a, b, c, x, y) :: rem) ls st σ r0 σ0 = (mz_nx n ct k a ((mz_cd k).drop a) r0 σ0 ls st σ)) ∧
  (∀ {n : Nat} {ct : Nat → Bool} {k i a : Nat} {b : Int} {c x y : Nat} {rem : List mz_I} {ls : mz_Ls} {st : List mz_V} {σ : mz_S} {r0 : Option mz_V} {σ0 : mz_S} , mz_vc (n + 1) ct k i ((33, a, b, c, x, y) :: rem) ls (.inr none :: st) σ r0 σ0 = (mz_nx n ct k a ((mz_cd k).drop a) r0 σ0 ls st σ)) ∧
  (∀ {n : Nat} {ct : Nat → Bool} {k i a : Nat} {b : Int} {c x y : Nat} {rem : List mz_I} {ls : mz_Ls} {st : List mz_V} {σ : mz_S} {r0 : Option mz_V} {σ0 : mz_S} {t z o : Nat}, mz_vc (n + 1) ct k i ((33, a, b, c, x, y) :: rem) ls (.inr (some (t, z, o)) :: st) σ r0 σ0 = (t < 90 ∧ mz_nx n ct k (i + 1) rem r0 σ0 ls st σ)) ∧
  (∀ {n : Nat} {ct : Nat → Bool} {k i a : Nat} {b : Int} {c x y : Nat} {rem : List mz_I} {ls : mz_Ls} {st : List mz_V} {σ : mz_S} {r0 : Option mz_V} {σ0 : mz_S} , mz_vc (n + 1) ct k i ((34, a, b, c, x, y) :: rem) ls (.inr none :: st) σ r0 σ0 = (mz_nx n ct k (i + 1) rem r0 σ0 ls st σ)) := by
  refine ⟨?_, ?_, ?_, ?_, ?_, ?_, ?_, ?_, ?_, ?_, ?_, ?_⟩ <;> intros <;> rfl
theorem vcS3 : (∀ {n : Nat} {ct : Nat → Bool} {k i a : Nat} {b : Int} {c x y : Nat} {rem : List mz_I} {ls : mz_Ls} {st : List mz_V} {σ : mz_S} {r0 : Option mz_V} {σ0 : mz_S} {t z o : Nat}, mz_vc (n + 1) ct k i ((34, a, b, c, x, y) :: rem) ls (.inr (some (t, z, o)) :: st) σ r0 σ0 = (t < 90 ∧ mz_nx n ct k a ((mz_cd k).drop a) r0 σ0 ls st σ)) ∧
  (∀ {n : Nat} {ct : Nat → Bool} {k i a : Nat} {b : Int} {c x y : Nat} {rem : List mz_I} {ls : mz_Ls} {st : List mz_V} {σ : mz_S} {r0 : Option mz_V} {σ0 : mz_S} {v : Int}, mz_vc (n + 1) ct k i ((35, a, b, c, x, y) :: rem) ls (.inl v :: st) σ r0 σ0 = (mz_tsw v b (mz_tb a) c fun t => mz_nx n ct k t ((mz_cd k).drop t) r0 σ0 ls st σ)) ∧
  (∀ {n : Nat} {ct : Nat → Bool} {k i a : Nat} {b : Int} {c x y : Nat} {rem : List mz_I} {ls : mz_Ls} {st : List mz_V} {σ : mz_S} {r0 : Option mz_V} {σ0 : mz_S} {t z o : Nat}, mz_vc (n + 1) ct k i ((36, a, b, c, x, y) :: rem) ls (.inr (some (t, z, o)) :: st) σ r0 σ0 = (t = c ∧ mz_nx n ct k (i + 1) rem r0 σ0 ls (.inl (σ.2.2.2 o a) :: st) σ)) ∧
  (∀ {n : Nat} {ct : Nat → Bool} {k i a : Nat} {b : Int} {c x y : Nat} {rem : List mz_I} {ls : mz_Ls} {st : List mz_V} {σ : mz_S} {r0 : Option mz_V} {σ0 : mz_S} {t z o : Nat}, mz_vc (n + 1) ct k i ((37, a, b, c, x, y) :: rem) ls (.inr (some (t, z, o)) :: st) σ r0 σ0 = (t = c ∧ σ.2.2.1 o a = true ∧ (match mz_fr c a with | some (u, n9, f) => mz_nx n ct k (i + 1) rem r0 σ0 ls (.inr (some (u, n9, o + f)) :: st) σ | none => False))) ∧
  (∀ {n : Nat} {ct : Nat → Bool} {k i a : Nat} {b : Int} {c x y : Nat} {rem : List mz_I} {ls : mz_Ls} {st : List mz_V} {σ : mz_S} {r0 : Option mz_V} {σ0 : mz_S} {v : Int} {t z o : Nat}, mz_vc (n + 1) ct k i ((38, a, b, c, x, y) :: rem) ls (.inl v :: .inr (some (t, z, o)) :: st) σ r0 σ0 = (t = c ∧ mz_nx n ct k (i + 1) rem r0 σ0 ls st (σ.1, σ.2.1, σ.2.2.1, mz_up σ.2.2.2 o a v))) ∧
  (∀ {n : Nat} {ct : Nat → Bool} {k i a : Nat} {b : Int} {c x y : Nat} {rem : List mz_I} {ls : mz_Ls} {st : List mz_V} {σ : mz_S} {r0 : Option mz_V} {σ0 : mz_S} {u w q : Nat} {t z o : Nat}, mz_vc (n + 1) ct k i ((39, a, b, c, x, y) :: rem) ls (.inr (some (u, w, q)) :: .inr (some (t, z, o)) :: st) σ r0 σ0 = (t = c ∧ (match mz_fr c a with | some (u9, n9, f) => u = u9 ∧ w = n9 ∧ q = o + f | none => False) ∧ mz_nx n ct k (i + 1) rem r0 σ0 ls st (σ.1, σ.2.1, mz_iu σ.2.2.1 o a, σ.2.2.2))) ∧
  (∀ {n : Nat} {ct : Nat → Bool} {k i a : Nat} {b : Int} {c x y : Nat} {rem : List mz_I} {ls : mz_Ls} {st : List mz_V} {σ : mz_S} {r0 : Option mz_V} {σ0 : mz_S} {j : Int} {t z o : Nat}, mz_vc (n + 1) ct k i ((40, a, b, c, x, y) :: rem) ls (.inl j :: .inr (some (t, z, o)) :: st) σ r0 σ0 = (t = 100 ∧ (0 ≤ j ∧ j < z) ∧ mz_nx n ct k (i + 1) rem r0 σ0 ls (.inl (σ.2.2.2 o j.toNat) :: st) σ)) ∧
  (∀ {n : Nat} {ct : Nat → Bool} {k i a : Nat} {b : Int} {c x y : Nat} {rem : List mz_I} {ls : mz_Ls} {st : List mz_V} {σ : mz_S} {r0 : Option mz_V} {σ0 : mz_S} {v j : Int} {t z o : Nat}, mz_vc (n + 1) ct k i ((41, a, b, c, x, y) :: rem) ls (.inl v :: .inl j :: .inr (some (t, z, o)) :: st) σ r0 σ0 = (t = 100 ∧ (0 ≤ j ∧ j < z) ∧ mz_nx n ct k (i + 1) rem r0 σ0 ls st (σ.1, σ.2.1, σ.2.2.1, mz_up σ.2.2.2 o j.toNat v))) ∧
  (∀ {n : Nat} {ct : Nat → Bool} {k i a : Nat} {b : Int} {c x y : Nat} {rem : List mz_I} {ls : mz_Ls} {st : List mz_V} {σ : mz_S} {r0 : Option mz_V} {σ0 : mz_S} {j : Int} {t z o : Nat}, mz_vc (n + 1) ct k i ((42, a, b, c, x, y) :: rem) ls (.inl j :: .inr (some (t, z, o)) :: st) σ r0 σ0 = (t = 101 ∧ (0 ≤ j ∧ j < z) ∧ mz_nx n ct k (i + 1) rem r0 σ0 ls (.inl (σ.2.2.2 o j.toNat) :: st) σ)) ∧
  (∀ {n : Nat} {ct : Nat → Bool} {k i a : Nat} {b : Int} {c x y : Nat} {rem : List mz_I} {ls : mz_Ls} {st : List mz_V} {σ : mz_S} {r0 : Option mz_V} {σ0 : mz_S} {v j : Int} {t z o : Nat}, mz_vc (n + 1) ct k i ((43, a, b, c, x, y) :: rem) ls (.inl v :: .inl j :: .inr (some (t, z, o)) :: st) σ r0 σ0 = (t = 101 ∧ (0 ≤ j ∧ j < z) ∧ (v = 0 ∨ v = 1) ∧ mz_nx n ct k (i + 1) rem r0 σ0 ls st (σ.1, σ.2.1, σ.2.2.1, mz_up σ.2.2.2 o j.toNat v))) ∧
  (∀ {n : Nat} {ct : Nat → Bool} {k i a : Nat} {b : Int} {c x y : Nat} {rem : List mz_I} {ls : mz_Ls} {st : List mz_V} {σ : mz_S} {r0 : Option mz_V} {σ0 : mz_S} {j : Int} {t z o : Nat}, mz_vc (n + 1) ct k i ((44, a, b, c, x, y) :: rem) ls (.inl j :: .inr (some (t, z, o)) :: st) σ r0 σ0 = ((0 ≤ j ∧ j < z) ∧ (if t = 102 then mz_nx n ct k (i + 1) rem r0 σ0 ls (.inl (σ.2.2.2 o j.toNat) :: st) σ else t = 91 ∧ mz_nx n ct k (i + 1) rem r0 σ0 ls (.inl (mz_tc o j.toNat) :: st) σ))) ∧
  (∀ {n : Nat} {ct : Nat → Bool} {k i a : Nat} {b : Int} {c x y : Nat} {rem : List mz_I} {ls : mz_Ls} {st : List mz_V} {σ : mz_S} {r0 : Option mz_V} {σ0 : mz_S} {v j : Int} {t z o : Nat}, mz_vc (n + 1) ct k i ((45, a, b, c, x, y) :: rem) ls (.inl v :: .inl j :: .inr (some (t, z, o)) :: st) σ r0 σ0 = (t = 102 ∧ (0 ≤ j ∧ j < z) ∧ (-128 ≤ v ∧ v ≤ 127) ∧ mz_nx n ct k (i + 1) rem r0 σ0 ls st (σ.1, σ.2.1, σ.2.2.1, mz_up σ.2.2.2 o j.toNat v))) := by
  refine ⟨?_, ?_, ?_, ?_, ?_, ?_, ?_, ?_, ?_, ?_, ?_, ?_⟩ <;> intros <;> rfl
theorem vcS4 : (∀ {n : Nat} {ct : Nat → Bool} {k i a : Nat} {b : Int} {c x y : Nat} {rem : List mz_I} {ls : mz_Ls} {st : List mz_V} {σ : mz_S} {r0 : Option mz_V} {σ0 : mz_S} {j : Int} {t z o : Nat}, mz_vc (n + 1) ct k i ((46, a, b, c, x, y) :: rem) ls (.inl j :: .inr (some (t, z, o)) :: st) σ r0 σ0 = ((103 ≤ t ∧ t ≤ 105) ∧ (0 ≤ j ∧ j < z) ∧ σ.2.2.1 o j.toNat = true ∧ mz_nx n ct k (i + 1) rem r0 σ0 ls (.inr (some ((mz_ar t).1, 0, o + ((mz_ar t).2.1 + (mz_ar t).2.2 * j.toNat))) :: st) σ)) ∧
  (∀ {n : Nat} {ct : Nat → Bool} {k i a : Nat} {b : Int} {c x y : Nat} {rem : List mz_I} {ls : mz_Ls} {st : List mz_V} {σ : mz_S} {r0 : Option mz_V} {σ0 : mz_S} {u w q : Nat} {j : Int} {t z o : Nat}, mz_vc (n + 1) ct k i ((47, a, b, c, x, y) :: rem) ls (.inr (some (u, w, q)) :: .inl j :: .inr (some (t, z, o)) :: st) σ r0 σ0 = ((103 ≤ t ∧ t ≤ 105) ∧ (0 ≤ j ∧ j < z) ∧ (u = (mz_ar t).1 ∧ w = 0 ∧ q = o + ((mz_ar t).2.1 + (mz_ar t).2.2 * j.toNat)) ∧ mz_nx n ct k (i + 1) rem r0 σ0 ls st (σ.1, σ.2.1, mz_iu σ.2.2.1 o j.toNat, σ.2.2.2))) ∧
  (∀ {n : Nat} {ct : Nat → Bool} {k i a : Nat} {b : Int} {c x y : Nat} {rem : List mz_I} {ls : mz_Ls} {st : List mz_V} {σ : mz_S} {r0 : Option mz_V} {σ0 : mz_S} {t z o : Nat}, mz_vc (n + 1) ct k i ((48, a, b, c, x, y) :: rem) ls (.inr (some (t, z, o)) :: st) σ r0 σ0 = (((100 ≤ t ∧ t ≤ 105) ∨ t = 91) ∧ mz_nx n ct k (i + 1) rem r0 σ0 ls (.inl z :: st) σ)) ∧
  (∀ {n : Nat} {ct : Nat → Bool} {k i a : Nat} {b : Int} {c x y : Nat} {rem : List mz_I} {ls : mz_Ls} {st : List mz_V} {σ : mz_S} {r0 : Option mz_V} {σ0 : mz_S} , mz_vc (n + 1) ct k i ((49, a, b, c, x, y) :: rem) ls st σ r0 σ0 = (mz_pop c [] st fun as9 st9 => st9.length ≤ 8 ∧ ∃ r1 σ1, mz_cl a as9 σ r1 σ1 ∧ mz_nx n ct k (i + 1) rem r0 σ0 ls (r1.toList ++ st9) σ1)) ∧
  (∀ {n : Nat} {ct : Nat → Bool} {k i a : Nat} {b : Int} {c x y : Nat} {rem : List mz_I} {ls : mz_Ls} {st : List mz_V} {σ : mz_S} {r0 : Option mz_V} {σ0 : mz_S} , mz_vc (n + 1) ct k i ((52, a, b, c, x, y) :: rem) ls st σ r0 σ0 = (mz_pop c [] st fun as9 st9 => st9.length ≤ 8 ∧ ∃ r1 σ1, mz_cl a as9 σ r1 σ1 ∧ mz_nx n ct k (i + 1) rem r0 σ0 ls (r1.toList ++ st9) σ1)) ∧
  (∀ {n : Nat} {ct : Nat → Bool} {k i a : Nat} {b : Int} {c x y : Nat} {rem : List mz_I} {ls : mz_Ls} {st : List mz_V} {σ : mz_S} {r0 : Option mz_V} {σ0 : mz_S} , mz_vc (n + 1) ct k i ((50, a, b, c, x, y) :: rem) ls st σ r0 σ0 = (mz_pop c [] st fun as9 st9 => mz_rc b as9 ∧ st9.length ≤ 8 ∧ ∃ r1 σ1, mz_cl a as9 σ r1 σ1 ∧ mz_nx n ct k (i + 1) rem r0 σ0 ls (r1.toList ++ st9) σ1)) ∧
  (∀ {n : Nat} {ct : Nat → Bool} {k i a : Nat} {b : Int} {c x y : Nat} {rem : List mz_I} {ls : mz_Ls} {st : List mz_V} {σ : mz_S} {r0 : Option mz_V} {σ0 : mz_S} , mz_vc (n + 1) ct k i ((51, a, b, c, x, y) :: rem) ls st σ r0 σ0 = (mz_pop c [] st fun as9 st9 => mz_rc b as9 ∧ st9.length ≤ 8 ∧ ∃ r1 σ1, mz_cl a as9 σ r1 σ1 ∧ mz_nx n ct k (i + 1) rem r0 σ0 ls (r1.toList ++ st9) σ1)) ∧
  (∀ {n : Nat} {ct : Nat → Bool} {k i a : Nat} {b : Int} {c x y : Nat} {rem : List mz_I} {ls : mz_Ls} {st : List mz_V} {σ : mz_S} {r0 : Option mz_V} {σ0 : mz_S} , mz_vc (n + 1) ct k i ((54, a, b, c, x, y) :: rem) ls st σ r0 σ0 = (mz_pop c [] st fun as9 st9 => mz_rc b as9 ∧ st9.length ≤ 8 ∧ ∃ r1 σ1, mz_cl a as9 σ r1 σ1 ∧ mz_nx n ct k (i + 1) rem r0 σ0 ls (r1.toList ++ st9) σ1)) ∧
  (∀ {n : Nat} {ct : Nat → Bool} {k i a : Nat} {b : Int} {c x y : Nat} {rem : List mz_I} {ls : mz_Ls} {σ : mz_S} {r0 : Option mz_V} {σ0 : mz_S} {v : Int}, mz_vc (n + 1) ct k i ((55, a, b, c, x, y) :: rem) ls [.inl v] σ r0 σ0 = ((if a = 0 then True else if a = 1 then v = 0 ∨ v = 1 else if a = 2 then -128 ≤ v ∧ v ≤ 127 else 0 ≤ v ∧ v ≤ 65535) ∧ some (.inl v) = r0 ∧ σ = σ0)) ∧
  (∀ {n : Nat} {ct : Nat → Bool} {k i a : Nat} {b : Int} {c x y : Nat} {rem : List mz_I} {ls : mz_Ls} {σ : mz_S} {r0 : Option mz_V} {σ0 : mz_S} {u : Option (Nat × Nat × Nat)}, mz_vc (n + 1) ct k i ((56, a, b, c, x, y) :: rem) ls [.inr u] σ r0 σ0 = (some (.inr u) = r0 ∧ σ = σ0)) ∧
  (∀ {n : Nat} {ct : Nat → Bool} {k i a : Nat} {b : Int} {c x y : Nat} {rem : List mz_I} {ls : mz_Ls} {σ : mz_S} {r0 : Option mz_V} {σ0 : mz_S} , mz_vc (n + 1) ct k i ((57, a, b, c, x, y) :: rem) ls [] σ r0 σ0 = (none = r0 ∧ σ = σ0)) ∧
  (∀ {n : Nat} {ct : Nat → Bool} {k i a : Nat} {b : Int} {c x y : Nat} {rem : List mz_I} {ls : mz_Ls} {st : List mz_V} {σ : mz_S} {r0 : Option mz_V} {σ0 : mz_S} , mz_vc (n + 1) ct k i ((58, a, b, c, x, y) :: rem) ls st σ r0 σ0 = (mz_kd σ.1 = (a, 0) ∧ mz_nx n ct k (i + 1) rem r0 σ0 ls (.inr (some (a, 0, σ.1)) :: st) (σ.1 + 1, σ.2.1 + mz_nf a, mz_if σ.2.2.1 σ.1, mz_zr σ.2.2.2 σ.1))) := by
  refine ⟨?_, ?_, ?_, ?_, ?_, ?_, ?_, ?_, ?_, ?_, ?_, ?_⟩ <;> intros <;> rfl
theorem vcS5 : (∀ {n : Nat} {ct : Nat → Bool} {k i a : Nat} {b : Int} {c x y : Nat} {rem : List mz_I} {ls : mz_Ls} {st : List mz_V} {σ : mz_S} {r0 : Option mz_V} {σ0 : mz_S} {u : Int}, mz_vc (n + 1) ct k i ((59, a, b, c, x, y) :: rem) ls (.inl u :: st) σ r0 σ0 = ((0 ≤ u ∧ u ≤ 100000) ∧ mz_kd σ.1 = (100, u.toNat) ∧ mz_nx n ct k (i + 1) rem r0 σ0 ls (.inr (some (100, u.toNat, σ.1)) :: st) (σ.1 + 1, σ.2.1 + u.toNat, mz_if σ.2.2.1 σ.1, mz_zr σ.2.2.2 σ.1))) ∧
  (∀ {n : Nat} {ct : Nat → Bool} {k i a : Nat} {b : Int} {c x y : Nat} {rem : List mz_I} {ls : mz_Ls} {st : List mz_V} {σ : mz_S} {r0 : Option mz_V} {σ0 : mz_S} {u : Int}, mz_vc (n + 1) ct k i ((60, a, b, c, x, y) :: rem) ls (.inl u :: st) σ r0 σ0 = ((0 ≤ u ∧ u ≤ 100000) ∧ mz_kd σ.1 = (101, u.toNat) ∧ mz_nx n ct k (i + 1) rem r0 σ0 ls (.inr (some (101, u.toNat, σ.1)) :: st) (σ.1 + 1, σ.2.1 + u.toNat, mz_if σ.2.2.1 σ.1, mz_zr σ.2.2.2 σ.1))) ∧
  (∀ {n : Nat} {ct : Nat → Bool} {k i a : Nat} {b : Int} {c x y : Nat} {rem : List mz_I} {ls : mz_Ls} {st : List mz_V} {σ : mz_S} {r0 : Option mz_V} {σ0 : mz_S} {u : Int}, mz_vc (n + 1) ct k i ((61, a, b, c, x, y) :: rem) ls (.inl u :: st) σ r0 σ0 = ((0 ≤ u ∧ u ≤ 100000) ∧ mz_kd σ.1 = (102, u.toNat) ∧ mz_nx n ct k (i + 1) rem r0 σ0 ls (.inr (some (102, u.toNat, σ.1)) :: st) (σ.1 + 1, σ.2.1 + u.toNat, mz_if σ.2.2.1 σ.1, mz_zr σ.2.2.2 σ.1))) ∧
  (∀ {n : Nat} {ct : Nat → Bool} {k i a : Nat} {b : Int} {c x y : Nat} {rem : List mz_I} {ls : mz_Ls} {st : List mz_V} {σ : mz_S} {r0 : Option mz_V} {σ0 : mz_S} {u : Int}, mz_vc (n + 1) ct k i ((62, a, b, c, x, y) :: rem) ls (.inl u :: st) σ r0 σ0 = ((103 ≤ a ∧ a ≤ 105) ∧ (0 ≤ u ∧ u ≤ 100000) ∧ mz_kd σ.1 = (a, u.toNat) ∧ mz_nx n ct k (i + 1) rem r0 σ0 ls (.inr (some (a, u.toNat, σ.1)) :: st) (σ.1 + 1, σ.2.1 + u.toNat, mz_if σ.2.2.1 σ.1, mz_zr σ.2.2.2 σ.1))) ∧
  (∀ {n : Nat} {ct : Nat → Bool} {k i a : Nat} {b : Int} {c x y : Nat} {rem : List mz_I} {ls : mz_Ls} {st : List mz_V} {σ : mz_S} {r0 : Option mz_V} {σ0 : mz_S} {t z o : Nat}, mz_vc (n + 1) ct k i ((63, a, b, c, x, y) :: rem) ls (.inr (some (t, z, o)) :: st) σ r0 σ0 = (t < 10 ∧ st.length ≤ 8 ∧ mz_nx n ct k (i + 1) rem r0 σ0 ls st σ)) ∧
  (∀ {n : Nat} {ct : Nat → Bool} {k i a : Nat} {b : Int} {c x y : Nat} {rem : List mz_I} {ls : mz_Ls} {st : List mz_V} {σ : mz_S} {r0 : Option mz_V} {σ0 : mz_S} {z dp sp : Int} {t1 n1 o1 t0 n0 o0 : Nat}, mz_vc (n + 1) ct k i ((64, a, b, c, x, y) :: rem) ls (.inl z :: .inl dp :: .inr (some (t1, n1, o1)) :: .inl sp :: .inr (some (t0, n0, o0)) :: st) σ r0 σ0 = ((t0 = 100 ∧ t1 = 100 ∧ sp = 0 ∧ dp = 0) ∧ (0 ≤ z ∧ z ≤ n0 ∧ z ≤ n1) ∧ st.length ≤ 8 ∧ mz_nx n ct k (i + 1) rem r0 σ0 ls st (σ.1, σ.2.1, σ.2.2.1, mz_cp σ.2.2.2 o0 o1 z.toNat))) ∧
  (∀ {n : Nat} {ct : Nat → Bool} {k i a : Nat} {b : Int} {c x y : Nat} {rem : List mz_I} {ls : mz_Ls} {st : List mz_V} {σ : mz_S} {r0 : Option mz_V} {σ0 : mz_S} , mz_vc (n + 1) ct k i ((65, a, b, c, x, y) :: rem) ls st σ r0 σ0 = (mz_nx n ct k (i + 1) rem r0 σ0 ls (.inr (some (90, 0, a)) :: st) σ)) ∧
  (∀ {n : Nat} {ct : Nat → Bool} {k i a : Nat} {b : Int} {c x y : Nat} {rem : List mz_I} {ls : mz_Ls} {st : List mz_V} {σ : mz_S} {r0 : Option mz_V} {σ0 : mz_S} {t z o : Nat}, mz_vc (n + 1) ct k i ((66, a, b, c, x, y) :: rem) ls (.inr (some (t, z, o)) :: st) σ r0 σ0 = (t = 90 ∧ mz_nx n ct k (i + 1) rem r0 σ0 ls (.inr (some (91, mz_tl o, o)) :: st) σ)) ∧
  (∀ {n : Nat} {ct : Nat → Bool} {k i a : Nat} {b : Int} {c x y : Nat} {rem : List mz_I} {ls : mz_Ls} {st : List mz_V} {σ : mz_S} {r0 : Option mz_V} {σ0 : mz_S} {t z o : Nat}, mz_vc (n + 1) ct k i ((67, a, b, c, x, y) :: rem) ls (.inr (some (t, z, o)) :: st) σ r0 σ0 = (t = 90 ∧ mz_nx n ct k (i + 1) rem r0 σ0 ls (.inl 0 :: st) σ)) ∧
  (∀ {n : Nat} {ct : Nat → Bool} {k i a : Nat} {b : Int} {c x y : Nat} {rem : List mz_I} {ls : mz_Ls} {st : List mz_V} {σ : mz_S} {r0 : Option mz_V} {σ0 : mz_S} , mz_vc (n + 1) ct k i ((68, a, b, c, x, y) :: rem) ls st σ r0 σ0 = (mz_nx n ct k (i + 1) rem r0 σ0 ls (.inr none :: st) σ)) ∧
  (∀ {n : Nat} {ct : Nat → Bool} {k i a : Nat} {b : Int} {c x y : Nat} {rem : List mz_I} {ls : mz_Ls} {st : List mz_V} {σ : mz_S} {r0 : Option mz_V} {σ0 : mz_S} {u v : mz_V}, mz_vc (n + 1) ct k i ((69, a, b, c, x, y) :: rem) ls (v :: u :: st) σ r0 σ0 = (mz_nx n ct k (i + 1) rem r0 σ0 ls (v :: u :: v :: u :: st) σ)) ∧
  (∀ {n : Nat} {ct : Nat → Bool} {k i a : Nat} {b : Int} {c x y : Nat} {rem : List mz_I} {ls : mz_Ls} {st : List mz_V} {σ : mz_S} {r0 : Option mz_V} {σ0 : mz_S} , mz_vc (n + 1) ct k i ((72, a, b, c, x, y) :: rem) ls st σ r0 σ0 = (mz_nx n ct k (i + 1) rem r0 σ0 ls (.inl 1 :: st) σ)) := by
  refine ⟨?_, ?_, ?_, ?_, ?_, ?_, ?_, ?_, ?_, ?_, ?_, ?_⟩ <;> intros <;> rfl
theorem vcS6 : (∀ {n : Nat} {ct : Nat → Bool} {k i a : Nat} {b : Int} {c x y : Nat} {rem : List mz_I} {ls : mz_Ls} {st : List mz_V} {σ : mz_S} {r0 : Option mz_V} {σ0 : mz_S} , mz_vc (n + 1) ct k i ((73, a, b, c, x, y) :: rem) ls st σ r0 σ0 = (mz_nx n ct k (i + 1) rem r0 σ0 ls (.inr (some (92, 0, 0)) :: st) σ)) ∧
  (∀ {n : Nat} {ct : Nat → Bool} {k i a : Nat} {b : Int} {c x y : Nat} {rem : List mz_I} {ls : mz_Ls} {st : List mz_V} {σ : mz_S} {r0 : Option mz_V} {σ0 : mz_S} {u : Int}, mz_vc (n + 1) ct k i ((74, a, b, c, x, y) :: rem) ls (.inl u :: st) σ r0 σ0 = ((0 ≤ u ∧ u ≤ 65535) ∧ mz_nx n ct k (i + 1) rem r0 σ0 ls (.inl u :: st) σ)) ∧
  (∀ {n : Nat} {ct : Nat → Bool} {k i a : Nat} {b : Int} {c x y : Nat} {rem : List mz_I} {ls : mz_Ls} {st : List mz_V} {σ : mz_S} {r0 : Option mz_V} {σ0 : mz_S} {u v : Int}, mz_vc (n + 1) ct k i ((75, a, b, c, x, y) :: rem) ls (.inl v :: .inl u :: st) σ r0 σ0 = (st.length ≤ 8 ∧ mz_nx n ct k (i + 1) rem r0 σ0 ls (.inl (max u v) :: st) σ)) ∧
  (∀ {n : Nat} {ct : Nat → Bool} {k i a : Nat} {b : Int} {c x y : Nat} {rem : List mz_I} {ls : mz_Ls} {st : List mz_V} {σ : mz_S} {r0 : Option mz_V} {σ0 : mz_S} {u v : Int}, mz_vc (n + 1) ct k i ((76, a, b, c, x, y) :: rem) ls (.inl v :: .inl u :: st) σ r0 σ0 = (st.length ≤ 8 ∧ mz_nx n ct k (i + 1) rem r0 σ0 ls (.inl (min u v) :: st) σ)) := by
  refine ⟨?_, ?_, ?_, ?_⟩ <;> intros <;> rfl
theorem vc_n0 {ct : Nat → Bool} {k i : Nat} {rem : List mz_I} {ls : mz_Ls} {st : List mz_V} {σ : mz_S} {r0 : Option mz_V} {σ0 : mz_S} : mz_vc 0 ct k i rem ls st σ r0 σ0 = mz_ex k i ls st σ r0 σ0 := rfl
theorem vc_lk : (∀ {v : mz_V} {ls : mz_Ls} {K : mz_V → Prop}, mz_lk (some v :: ls) 0 K = K v) ∧ (∀ {v : Option mz_V} {ls : mz_Ls} {a : Nat} {K : mz_V → Prop}, mz_lk (v :: ls) (a + 1) K = mz_lk ls a K) := ⟨rfl, fun {v} _ _ _ => by cases v <;> rfl⟩
theorem vc_pop : (∀ {acc st : List mz_V} {K : List mz_V → List mz_V → Prop}, mz_pop 0 acc st K = K acc st) ∧ (∀ {n : Nat} {v : mz_V} {acc st : List mz_V} {K : List mz_V → List mz_V → Prop}, mz_pop (n + 1) acc (v :: st) K = mz_pop n (v :: acc) st K) := ⟨rfl, rfl⟩
theorem vc_rc {z o : Nat} {as : List mz_V} : mz_rc 0 (.inr (some (0, z, o)) :: as) = True ∧ mz_rc 1 (.inr (some (1, z, o)) :: as) = True ∧ mz_rc 2 (.inr (some (2, z, o)) :: as) = True ∧ mz_rc 3 (.inr (some (3, z, o)) :: as) = True ∧ mz_rc 4 (.inr (some (4, z, o)) :: as) = True ∧ mz_rc 5 (.inr (some (5, z, o)) :: as) = True ∧ mz_rc 6 (.inr (some (6, z, o)) :: as) = True ∧ mz_rc 7 (.inr (some (7, z, o)) :: as) = True ∧ mz_rc 8 (.inr (some (8, z, o)) :: as) = True ∧ mz_rc 9 (.inr (some (9, z, o)) :: as) = True ∧ mz_rc 90 (.inr (some (90, z, o)) :: as) = True := by refine ⟨?_, ?_, ?_, ?_, ?_, ?_, ?_, ?_, ?_, ?_, ?_⟩ <;> exact eq_true rfl
theorem vc_tsw : (∀ {v lo : Int} {d : Nat} {jp : Nat → Prop}, mz_tsw v lo [] d jp = jp d) ∧ (∀ {v lo : Int} {t : Nat} {ts : List Nat} {d : Nat} {jp : Nat → Prop}, mz_tsw v lo (t :: ts) d jp = if v = lo then jp t else mz_tsw v (lo + 1) ts d jp) := ⟨rfl, rfl⟩
theorem vc_fr : mz_fr 1 1 = some (100, 400, 1) ∧ mz_fr 1 2 = some (100, 400, 2) ∧ mz_fr 1 3 = some (100, 400, 3) ∧ mz_fr 1 4 = some (100, 400, 4) ∧ mz_fr 1 5 = some (100, 16, 5) ∧ mz_fr 1 6 = some (100, 10, 6) ∧ mz_fr 2 0 = some (100, 10, 1) ∧ mz_fr 2 1 = some (100, 10240, 2) ∧ mz_fr 3 0 = some (100, 6, 1) ∧ mz_fr 3 1 = some (100, 6, 2) ∧ mz_fr 3 2 = some (100, 2, 3) ∧ mz_fr 3 3 = some (100, 2, 4) ∧ mz_fr 3 4 = some (100, 24, 5) ∧ mz_fr 3 5 = some (100, 896, 6) ∧ mz_fr 3 6 = some (100, 6, 7) ∧ mz_fr 3 7 = some (100, 6, 8) ∧ mz_fr 3 8 = some (100, 6, 9) ∧ mz_fr 4 3 = some (100, 10, 1) ∧ mz_fr 4 4 = some (100, 10, 2) ∧ mz_fr 4 5 = some (100, 10, 3) ∧ mz_fr 4 6 = some (100, 100, 4) ∧ mz_fr 4 7 = some (100, 100, 5) ∧ mz_fr 4 8 = some (103, 4, 6) ∧ mz_fr 5 0 = some (4, 0, 1) ∧ mz_fr 5 1 = some (100, 600, 16) ∧ mz_fr 6 0 = some (4, 0, 1) ∧ mz_fr 6 1 = some (104, 16, 16) ∧ mz_fr 6 2 = some (1, 0, 17) ∧ mz_fr 7 0 = some (100, 24, 1) ∧ mz_fr 8 0 = some (5, 0, 1) ∧ mz_fr 8 1 = some (6, 0, 18) ∧ mz_fr 8 2 = some (105, 2, 58) ∧ mz_fr 8 3 = some (101, 2, 139) ∧ mz_fr 8 4 = some (3, 0, 140) ∧ mz_fr 8 5 = some (2, 0, 150) ∧ mz_fr 9 0 = some (100, 2430, 1) ∧ mz_fr 9 1 = some (100, 2430, 2) ∧ mz_fr 9 2 = some (100, 4860, 3) ∧ mz_fr 9 3 = some (101, 2, 4) ∧ mz_fr 9 5 = some (102, 600, 5) ∧ mz_fr 9 12 = some (100, 6, 6) ∧ mz_fr 9 13 = some (100, 6, 7) ∧ mz_fr 9 14 = some (100, 6, 8) ∧ mz_fr 9 15 = some (100, 6, 9) ∧ mz_fr 9 16 = some (100, 6, 10) ∧ mz_fr 9 17 = some (100, 10, 11) ∧ mz_fr 9 22 = some (100, 10240, 12) ∧ mz_fr 9 23 = some (100, 10, 13) := by refine ⟨?_, ?_, ?_, ?_, ?_, ?_, ?_, ?_, ?_, ?_, ?_, ?_, ?_, ?_, ?_, ?_, ?_, ?_, ?_, ?_, ?_, ?_, ?_, ?_, ?_, ?_, ?_, ?_, ?_, ?_, ?_, ?_, ?_, ?_, ?_, ?_, ?_, ?_, ?_, ?_, ?_, ?_, ?_, ?_, ?_, ?_, ?_, ?_⟩ <;> rfl
theorem vc_ar : mz_ar 103 = (7, 1, 2) ∧ mz_ar 104 = (0, 8, 1) ∧ mz_ar 105 = (6, 1, 41) := ⟨rfl, rfl, rfl⟩
theorem vc_tb : mz_tb 0 = [2, 4, 6, 8, 10, 12] ∧ mz_tb 1 = [2, 4, 2, 2, 2, 2, 2, 4, 2] ∧ mz_tb 2 = [7, 10, 13, 16, 19, 22] := by refine ⟨?_, ?_, ?_⟩ <;> rfl
abbrev mz_fu (m : mz_M) : mz_S := (167, 0, fun _ _ => true, m)
theorem cdS_0 : (mz_cd 0).drop 0 = bl_0_0 ∧ (mz_cd 0).drop 5 = bl_0_5 ∧ (mz_cd 0).drop 6 = bl_0_6 ∧ bl_0_0 = (72, 0, 0, 0, 38, 2220) :: (26, 5, 10, 0, 0, 0) :: (2, 0, 0, 0, 0, 0) :: (67, 0, 0, 0, 15, 8193) :: (32, 6, 4, 0, 0, 0) :: bl_0_5 ∧ bl_0_5 = (0, 0, 1, 0, 0, 0) :: bl_0_6 ∧ bl_0_6 = (55, 2, 0, 0, 0, 0) :: [] := by refine ⟨?_, ?_, ?_, ?_, ?_, ?_⟩ <;> rfl
theorem cdS_1 : (mz_cd 1).drop 0 = bl_1_0 ∧ (mz_cd 1).drop 7 = bl_1_7 ∧ (mz_cd 1).drop 8 = bl_1_8 ∧ bl_1_0 = (72, 0, 0, 0, 38, 2220) :: (26, 7, 14, 0, 0, 0) :: (2, 0, 0, 0, 0, 0) :: (67, 0, 0, 0, 15, 8193) :: (27, 7, 7, 0, 0, 0) :: (0, 0, 1, 0, 0, 0) :: (32, 8, 4, 0, 0, 0) :: bl_1_7 ∧ bl_1_7 = (0, 0, 0, 0, 0, 0) :: bl_1_8 ∧ bl_1_8 = (55, 1, 0, 0, 0, 0) :: [] := by refine ⟨?_, ?_, ?_, ?_, ?_, ?_⟩ <;> rfl
theorem cdS_2 : (mz_cd 2).drop 0 = bl_2_0 ∧ (mz_cd 2).drop 5 = bl_2_5 ∧ (mz_cd 2).drop 10 = bl_2_10 ∧ bl_2_0 = (1, 0, 0, 0, 0, 0) :: (28, 5, 8, 0, 0, 0) :: (1, 0, 0, 0, 0, 0) :: (1, 1, 0, 0, 0, 0) :: (22, 10, 10, 0, 0, 0) :: bl_2_5 ∧ bl_2_5 = (2, 2, 0, 0, 0, 0) :: (1, 0, 0, 0, 0, 0) :: (1, 1, 0, 0, 0, 0) :: (99, 0, 0, 0, 0, 0) :: (99, 0, 0, 0, 0, 0) :: bl_2_10 ∧ bl_2_10 = (1, 0, 0, 0, 0, 0) :: (55, 0, 0, 0, 0, 0) :: [] := by refine ⟨?_, ?_, ?_, ?_, ?_, ?_⟩ <;> rfl
theorem cdS_3 : (mz_cd 3).drop 0 = bl_3_0 ∧ bl_3_0 = (1, 0, 0, 0, 0, 0) :: (1, 0, 0, 0, 0, 0) :: (0, 0, 1, 0, 0, 0) :: (16, 0, 0, 0, 0, 0) :: (0, 4, 1431655765, 0, 265, 3148) :: (11, 0, 0, 0, 0, 0) :: (7, 0, 0, 0, 0, 0) :: (3, 0, 0, 0, 0, 0) :: (1, 0, 0, 0, 0, 0) :: (0, 4, 858993459, 0, 266, 3149) :: (11, 0, 0, 0, 0, 0) :: (1, 0, 0, 0, 0, 0) :: (0, 0, 2, 0, 0, 0) :: (16, 0, 0, 0, 0, 0) :: (0, 4, 858993459, 0, 266, 3149) :: (11, 0, 0, 0, 0, 0) :: (6, 0, 0, 0, 0, 0) :: (3, 0, 0, 0, 0, 0) :: (1, 0, 0, 0, 0, 0) :: (1, 0, 0, 0, 0, 0) :: (0, 0, 4, 0, 0, 0) :: (16, 0, 0, 0, 0, 0) :: (6, 0, 0, 0, 0, 0) :: (0, 4, 252645135, 0, 267, 3150) :: (11, 0, 0, 0, 0, 0) :: (3, 0, 0, 0, 0, 0) :: (1, 0, 0, 0, 0, 0) :: (1, 0, 0, 0, 0, 0) :: (0, 1, 8, 0, 0, 0) :: (16, 0, 0, 0, 0, 0) :: (6, 0, 0, 0, 0, 0) :: (3, 0, 0, 0, 0, 0) :: (1, 0, 0, 0, 0, 0) :: (1, 0, 0, 0, 0, 0) :: (0, 1, 16, 0, 0, 0) :: (16, 0, 0, 0, 0, 0) :: (6, 0, 0, 0, 0, 0) :: (3, 0, 0, 0, 0, 0) :: (1, 0, 0, 0, 0, 0) :: (0, 1, 63, 0, 0, 0) :: (11, 0, 0, 0, 0, 0) :: (55, 0, 0, 0, 0, 0) :: [] := by refine ⟨?_, ?_⟩ <;> rfl
theorem cdS_4 : (mz_cd 4).drop 0 = bl_4_0 ∧ (mz_cd 4).drop 5 = bl_4_5 ∧ (mz_cd 4).drop 14 = bl_4_14 ∧ bl_4_0 = (0, 0, 0, 0, 0, 0) :: (3, 2, 0, 0, 0, 0) :: (2, 0, 0, 0, 0, 0) :: (48, 0, 0, 0, 0, 0) :: (3, 3, 0, 0, 0, 0) :: bl_4_5 ∧ bl_4_5 = (1, 2, 0, 0, 0, 0) :: (1, 3, 0, 0, 0, 0) :: (23, 14, 13, 0, 0, 0) :: (2, 0, 0, 0, 0, 0) :: (1, 2, 0, 0, 0, 0) :: (1, 1, 0, 0, 0, 0) :: (41, 0, 0, 0, 0, 0) :: (5, 2, 1, 0, 0, 0) :: (32, 5, (-12), 0, 0, 0) :: bl_4_14 ∧ bl_4_14 = (57, 0, 0, 0, 0, 0) :: [] := by refine ⟨?_, ?_, ?_, ?_, ?_, ?_⟩ <;> rfl
theorem cdS_5 : (mz_cd 5).drop 0 = bl_5_0 ∧ (mz_cd 5).drop 12 = bl_5_12 ∧ (mz_cd 5).drop 13 = bl_5_13 ∧ bl_5_0 = (2, 0, 0, 0, 0, 0) :: (36, 1, 0, 0, 15, 1222) :: (0, 0, 2, 0, 0, 0) :: (21, 12, 19, 0, 0, 0) :: (2, 0, 0, 0, 0, 0) :: (36, 4, 0, 0, 24, 1232) :: (1, 1, 0, 0, 0, 0) :: (0, 2, 180, 0, 0, 0) :: (7, 0, 0, 0, 0, 0) :: (24, 12, 7, 0, 0, 0) :: (0, 0, 1, 0, 0, 0) :: (32, 13, 4, 0, 0, 0) :: bl_5_12 ∧ bl_5_12 = (0, 0, 0, 0, 0, 0) :: bl_5_13 ∧ bl_5_13 = (55, 1, 0, 0, 0, 0) :: [] := by refine ⟨?_, ?_, ?_, ?_, ?_, ?_⟩ <;> rfl
theorem cdS_6 : (mz_cd 6).drop 0 = bl_6_0 ∧ bl_6_0 = (2, 0, 0, 0, 0, 0) :: (0, 0, 0, 0, 0, 0) :: (38, 1, 0, 0, 15, 1222) :: (2, 0, 0, 0, 0, 0) :: (0, 0, 0, 0, 0, 0) :: (38, 2, 0, 0, 18, 1225) :: (2, 0, 0, 0, 0, 0) :: (0, 0, 0, 0, 0, 0) :: (38, 3, 0, 0, 21, 1229) :: (2, 0, 0, 0, 0, 0) :: (0, 0, 0, 0, 0, 0) :: (38, 4, 0, 0, 24, 1232) :: (2, 0, 0, 0, 0, 0) :: (0, 0, 0, 0, 0, 0) :: (38, 5, 0, 0, 27, 1236) :: (2, 0, 0, 0, 0, 0) :: (0, 0, 0, 0, 0, 0) :: (38, 6, 0, 0, 30, 1239) :: (2, 0, 0, 0, 0, 0) :: (0, 0, 0, 0, 0, 0) :: (38, 7, 0, 0, 33, 2002) :: (2, 0, 0, 0, 0, 0) :: (0, 0, 0, 0, 0, 0) :: (38, 8, 0, 0, 36, 2004) :: (2, 0, 0, 0, 0, 0) :: (0, 0, 0, 0, 0, 0) :: (38, 9, 0, 0, 39, 2006) :: (2, 0, 0, 0, 0, 0) :: (0, 0, 0, 0, 0, 0) :: (38, 10, 0, 0, 42, 2009) :: (57, 0, 0, 0, 0, 0) :: [] := by refine ⟨?_, ?_⟩ <;> rfl
theorem cdS_7 : (mz_cd 7).drop 0 = bl_7_0 ∧ bl_7_0 = (2, 0, 0, 0, 0, 0) :: (2, 1, 0, 0, 0, 0) :: (36, 1, 0, 0, 15, 1222) :: (38, 1, 0, 0, 15, 1222) :: (2, 0, 0, 0, 0, 0) :: (2, 1, 0, 0, 0, 0) :: (36, 2, 0, 0, 18, 1225) :: (38, 2, 0, 0, 18, 1225) :: (2, 0, 0, 0, 0, 0) :: (2, 1, 0, 0, 0, 0) :: (36, 3, 0, 0, 21, 1229) :: (38, 3, 0, 0, 21, 1229) :: (2, 0, 0, 0, 0, 0) :: (2, 1, 0, 0, 0, 0) :: (36, 4, 0, 0, 24, 1232) :: (38, 4, 0, 0, 24, 1232) :: (2, 0, 0, 0, 0, 0) :: (2, 1, 0, 0, 0, 0) :: (36, 5, 0, 0, 27, 1236) :: (38, 5, 0, 0, 27, 1236) :: (2, 0, 0, 0, 0, 0) :: (2, 1, 0, 0, 0, 0) :: (36, 6, 0, 0, 30, 1239) :: (38, 6, 0, 0, 30, 1239) :: (2, 0, 0, 0, 0, 0) :: (2, 1, 0, 0, 0, 0) :: (36, 7, 0, 0, 33, 2002) :: (38, 7, 0, 0, 33, 2002) :: (2, 0, 0, 0, 0, 0) :: (2, 1, 0, 0, 0, 0) :: (36, 8, 0, 0, 36, 2004) :: (38, 8, 0, 0, 36, 2004) :: (2, 0, 0, 0, 0, 0) :: (2, 1, 0, 0, 0, 0) :: (36, 9, 0, 0, 39, 2006) :: (38, 9, 0, 0, 39, 2006) :: (2, 0, 0, 0, 0, 0) :: (2, 1, 0, 0, 0, 0) :: (36, 10, 0, 0, 42, 2009) :: (38, 10, 0, 0, 42, 2009) :: (57, 0, 0, 0, 0, 0) :: [] := by refine ⟨?_, ?_⟩ <;> rfl
theorem cdS_8 : (mz_cd 8).drop 0 = bl_8_0 ∧ (mz_cd 8).drop 11 = bl_8_11 ∧ (mz_cd 8).drop 12 = bl_8_12 ∧ bl_8_0 = (2, 0, 0, 0, 0, 0) :: (36, 5, 0, 0, 27, 1236) :: (31, 11, 18, 0, 0, 0) :: (2, 0, 0, 0, 0, 0) :: (36, 7, 0, 0, 33, 2002) :: (1, 1, 0, 0, 0, 0) :: (0, 1, 120, 0, 0, 0) :: (7, 0, 0, 0, 0, 0) :: (25, 11, 7, 0, 0, 0) :: (0, 0, 1, 0, 0, 0) :: (32, 12, 4, 0, 0, 0) :: bl_8_11 ∧ bl_8_11 = (0, 0, 0, 0, 0, 0) :: bl_8_12 ∧ bl_8_12 = (55, 1, 0, 0, 0, 0) :: [] := by refine ⟨?_, ?_, ?_, ?_, ?_, ?_⟩ <;> rfl
theorem cdS_9 : (mz_cd 9).drop 0 = bl_9_0 ∧ (mz_cd 9).drop 10 = bl_9_10 ∧ (mz_cd 9).drop 11 = bl_9_11 ∧ bl_9_0 = (2, 0, 0, 0, 0, 0) :: (36, 1, 0, 0, 15, 1222) :: (1, 2, 0, 0, 0, 0) :: (21, 10, 15, 0, 0, 0) :: (2, 0, 0, 0, 0, 0) :: (36, 2, 0, 0, 18, 1225) :: (1, 1, 0, 0, 0, 0) :: (21, 10, 7, 0, 0, 0) :: (0, 0, 1, 0, 0, 0) :: (32, 11, 4, 0, 0, 0) :: bl_9_10 ∧ bl_9_10 = (0, 0, 0, 0, 0, 0) :: bl_9_11 ∧ bl_9_11 = (55, 1, 0, 0, 0, 0) :: [] := by refine ⟨?_, ?_, ?_, ?_, ?_, ?_⟩ <;> rfl
theorem cdS_10 : (mz_cd 10).drop 0 = bl_10_0 ∧ bl_10_0 = (2, 0, 0, 0, 0, 0) :: (36, 5, 0, 0, 27, 1236) :: (2, 0, 0, 0, 0, 0) :: (36, 6, 0, 0, 30, 1239) :: (7, 0, 0, 0, 0, 0) :: (55, 0, 0, 0, 0, 0) :: [] := by refine ⟨?_, ?_⟩ <;> rfl
theorem cdS_11 : (mz_cd 11).drop 0 = bl_11_0 ∧ (mz_cd 11).drop 8 = bl_11_8 ∧ (mz_cd 11).drop 9 = bl_11_9 ∧ bl_11_0 = (1, 1, 0, 0, 0, 0) :: (28, 8, 15, 0, 0, 0) :: (1, 1, 0, 0, 0, 0) :: (2, 0, 0, 0, 0, 0) :: (36, 0, 0, 1, 30, 1184) :: (23, 8, 7, 0, 0, 0) :: (0, 0, 1, 0, 0, 0) :: (32, 9, 4, 0, 0, 0) :: bl_11_8 ∧ bl_11_8 = (0, 0, 0, 0, 0, 0) :: bl_11_9 ∧ bl_11_9 = (55, 1, 0, 0, 0, 0) :: [] := by refine ⟨?_, ?_, ?_, ?_, ?_, ?_⟩ <;> rfl
theorem cdS_12 : (mz_cd 12).drop 0 = bl_12_0 ∧ (mz_cd 12).drop 6 = bl_12_6 ∧ (mz_cd 12).drop 7 = bl_12_7 ∧ bl_12_0 = (2, 0, 0, 0, 0, 0) :: (36, 0, 0, 1, 30, 1184) :: (0, 2, 340, 0, 0, 0) :: (22, 6, 7, 0, 0, 0) :: (0, 0, 1, 0, 0, 0) :: (32, 7, 4, 0, 0, 0) :: bl_12_6 ∧ bl_12_6 = (0, 0, 0, 0, 0, 0) :: bl_12_7 ∧ bl_12_7 = (55, 1, 0, 0, 0, 0) :: [] := by refine ⟨?_, ?_, ?_, ?_, ?_, ?_⟩ <;> rfl
theorem cdS_13 : (mz_cd 13).drop 0 = bl_13_0 ∧ bl_13_0 = (1, 0, 0, 0, 0, 0) :: (0, 1, 7, 0, 0, 0) :: (8, 0, 0, 0, 0, 0) :: (1, 1, 0, 0, 0, 0) :: (6, 0, 0, 0, 0, 0) :: (0, 0, 2, 0, 0, 0) :: (8, 0, 0, 0, 0, 0) :: (1, 2, 0, 0, 0, 0) :: (6, 0, 0, 0, 0, 0) :: (55, 0, 0, 0, 0, 0) :: [] := by refine ⟨?_, ?_⟩ <;> rfl
theorem cdS_14 : (mz_cd 14).drop 0 = bl_14_0 ∧ bl_14_0 = (1, 0, 0, 0, 0, 0) :: (0, 1, 6, 0, 0, 0) :: (8, 0, 0, 0, 0, 0) :: (1, 1, 0, 0, 0, 0) :: (6, 0, 0, 0, 0, 0) :: (0, 0, 2, 0, 0, 0) :: (8, 0, 0, 0, 0, 0) :: (1, 2, 0, 0, 0, 0) :: (6, 0, 0, 0, 0, 0) :: (55, 0, 0, 0, 0, 0) :: [] := by refine ⟨?_, ?_⟩ <;> rfl
theorem cdS_15 : (mz_cd 15).drop 0 = bl_15_0 ∧ (mz_cd 15).drop 8 = bl_15_8 ∧ (mz_cd 15).drop 9 = bl_15_9 ∧ bl_15_0 = (1, 1, 0, 0, 0, 0) :: (28, 8, 15, 0, 0, 0) :: (1, 1, 0, 0, 0, 0) :: (2, 0, 0, 0, 0, 0) :: (36, 0, 0, 4, 37, 1100) :: (23, 8, 7, 0, 0, 0) :: (0, 0, 1, 0, 0, 0) :: (32, 9, 4, 0, 0, 0) :: bl_15_8 ∧ bl_15_8 = (0, 0, 0, 0, 0, 0) :: bl_15_9 ∧ bl_15_9 = (55, 1, 0, 0, 0, 0) :: [] := by refine ⟨?_, ?_, ?_, ?_, ?_, ?_⟩ <;> rfl
theorem cdS_16 : (mz_cd 16).drop 0 = bl_16_0 ∧ (mz_cd 16).drop 12 = bl_16_12 ∧ (mz_cd 16).drop 13 = bl_16_13 ∧ bl_16_0 = (1, 1, 0, 0, 0, 0) :: (28, 12, 21, 0, 0, 0) :: (1, 1, 0, 0, 0, 0) :: (2, 0, 0, 0, 0, 0) :: (37, 8, 0, 4, 29, 1120) :: (48, 0, 0, 0, 0, 0) :: (23, 12, 12, 0, 0, 0) :: (2, 0, 0, 0, 0, 0) :: (37, 8, 0, 4, 29, 1120) :: (1, 1, 0, 0, 0, 0) :: (46, 0, 0, 0, 0, 0) :: (32, 13, 4, 0, 0, 0) :: bl_16_12 ∧ bl_16_12 = (68, 0, 0, 0, 0, 0) :: bl_16_13 ∧ bl_16_13 = (56, 0, 0, 0, 0, 0) :: [] := by refine ⟨?_, ?_, ?_, ?_, ?_, ?_⟩ <;> rfl
theorem cdS_17 : (mz_cd 17).drop 0 = bl_17_0 ∧ (mz_cd 17).drop 9 = bl_17_9 ∧ bl_17_0 = (2, 0, 0, 0, 0, 0) :: (36, 6, 0, 5, 36, 1148) :: (27, 9, 13, 0, 0, 0) :: (2, 0, 0, 0, 0, 0) :: (1, 1, 0, 0, 0, 0) :: (38, 6, 0, 5, 36, 1148) :: (2, 0, 0, 0, 0, 0) :: (1, 2, 0, 0, 0, 0) :: (38, 7, 0, 5, 39, 1150) :: bl_17_9 ∧ bl_17_9 = (57, 0, 0, 0, 0, 0) :: [] := by refine ⟨?_, ?_, ?_, ?_⟩ <;> rfl
theorem cdS_18 : (mz_cd 18).drop 0 = bl_18_0 ∧ (mz_cd 18).drop 6 = bl_18_6 ∧ (mz_cd 18).drop 7 = bl_18_7 ∧ bl_18_0 = (2, 0, 0, 0, 0, 0) :: (36, 2, 0, 5, 22, 1143) :: (0, 2, 600, 0, 0, 0) :: (22, 6, 7, 0, 0, 0) :: (0, 0, 1, 0, 0, 0) :: (32, 7, 4, 0, 0, 0) :: bl_18_6 ∧ bl_18_6 = (0, 0, 0, 0, 0, 0) :: bl_18_7 ∧ bl_18_7 = (55, 1, 0, 0, 0, 0) :: [] := by refine ⟨?_, ?_, ?_, ?_, ?_, ?_⟩ <;> rfl
theorem cdS_19 : (mz_cd 19).drop 0 = bl_19_0 ∧ (mz_cd 19).drop 8 = bl_19_8 ∧ (mz_cd 19).drop 9 = bl_19_9 ∧ bl_19_0 = (1, 0, 0, 0, 0, 0) :: (0, 1, 48, 0, 0, 0) :: (22, 8, 13, 0, 0, 0) :: (1, 0, 0, 0, 0, 0) :: (0, 1, 57, 0, 0, 0) :: (24, 8, 7, 0, 0, 0) :: (0, 0, 1, 0, 0, 0) :: (32, 9, 4, 0, 0, 0) :: bl_19_8 ∧ bl_19_8 = (0, 0, 0, 0, 0, 0) :: bl_19_9 ∧ bl_19_9 = (55, 1, 0, 0, 0, 0) :: [] := by refine ⟨?_, ?_, ?_, ?_, ?_, ?_⟩ <;> rfl
theorem cdS_20 : (mz_cd 20).drop 0 = bl_20_0 ∧ (mz_cd 20).drop 20 = bl_20_20 ∧ (mz_cd 20).drop 21 = bl_20_21 ∧ bl_20_0 = (2, 0, 0, 0, 0, 0) :: (36, 3, 0, 5, 33, 1144) :: (28, 20, 38, 0, 0, 0) :: (2, 0, 0, 0, 0, 0) :: (36, 3, 0, 5, 33, 1144) :: (2, 0, 0, 0, 0, 0) :: (36, 2, 0, 5, 22, 1143) :: (23, 20, 27, 0, 0, 0) :: (2, 0, 0, 0, 0, 0) :: (36, 3, 0, 5, 33, 1144) :: (2, 0, 0, 0, 0, 0) :: (37, 1, 0, 5, 18, 1142) :: (48, 0, 0, 0, 0, 0) :: (23, 20, 15, 0, 0, 0) :: (2, 0, 0, 0, 0, 0) :: (37, 1, 0, 5, 18, 1142) :: (2, 0, 0, 0, 0, 0) :: (36, 3, 0, 5, 33, 1144) :: (40, 0, 0, 0, 0, 0) :: (32, 21, 4, 0, 0, 0) :: bl_20_20 ∧ bl_20_20 = (0, 0, (-1), 0, 0, 0) :: bl_20_21 ∧ bl_20_21 = (55, 0, 0, 0, 0, 0) :: [] := by refine ⟨?_, ?_, ?_, ?_, ?_, ?_⟩ <;> rfl
theorem cdS_21 : (mz_cd 21).drop 0 = bl_21_0 ∧ (mz_cd 21).drop 2 = bl_21_2 ∧ (mz_cd 21).drop 4 = bl_21_4 ∧ (mz_cd 21).drop 6 = bl_21_6 ∧ (mz_cd 21).drop 8 = bl_21_8 ∧ (mz_cd 21).drop 10 = bl_21_10 ∧ (mz_cd 21).drop 12 = bl_21_12 ∧ (mz_cd 21).drop 14 = bl_21_14 ∧ bl_21_0 = (1, 0, 0, 0, 0, 0) :: (35, 0, 1, 14, 0, 0) :: bl_21_2 ∧ bl_21_2 = (65, 0, 0, 0, 155, 0) :: (56, 0, 0, 0, 0, 0) :: bl_21_4 ∧ bl_21_4 = (65, 1, 0, 0, 157, 0) :: (56, 0, 0, 0, 0, 0) :: bl_21_6 ∧ bl_21_6 = (65, 2, 0, 0, 159, 0) :: (56, 0, 0, 0, 0, 0) :: bl_21_8 ∧ bl_21_8 = (65, 3, 0, 0, 161, 0) :: (56, 0, 0, 0, 0, 0) :: bl_21_10 ∧ bl_21_10 = (65, 4, 0, 0, 163, 0) :: (56, 0, 0, 0, 0, 0) :: bl_21_12 ∧ bl_21_12 = (65, 5, 0, 0, 165, 0) :: (56, 0, 0, 0, 0, 0) :: bl_21_14 ∧ bl_21_14 = (65, 6, 0, 0, 166, 0) :: (56, 0, 0, 0, 0, 0) :: [] := by refine ⟨?_, ?_, ?_, ?_, ?_, ?_, ?_, ?_, ?_, ?_, ?_, ?_, ?_, ?_, ?_, ?_⟩ <;> rfl
theorem cdS_22 : (mz_cd 22).drop 0 = bl_22_0 ∧ (mz_cd 22).drop 12 = bl_22_12 ∧ (mz_cd 22).drop 13 = bl_22_13 ∧ bl_22_0 = (1, 1, 0, 0, 0, 0) :: (28, 12, 21, 0, 0, 0) :: (1, 1, 0, 0, 0, 0) :: (2, 0, 0, 0, 0, 0) :: (37, 1, 0, 6, 20, 2039) :: (48, 0, 0, 0, 0, 0) :: (23, 12, 12, 0, 0, 0) :: (2, 0, 0, 0, 0, 0) :: (37, 1, 0, 6, 20, 2039) :: (1, 1, 0, 0, 0, 0) :: (46, 0, 0, 0, 0, 0) :: (32, 13, 4, 0, 0, 0) :: bl_22_12 ∧ bl_22_12 = (68, 0, 0, 0, 0, 0) :: bl_22_13 ∧ bl_22_13 = (56, 0, 0, 0, 0, 0) :: [] := by refine ⟨?_, ?_, ?_, ?_, ?_, ?_⟩ <;> rfl
theorem cdS_23 : (mz_cd 23).drop 0 = bl_23_0 ∧ (mz_cd 23).drop 10 = bl_23_10 ∧ (mz_cd 23).drop 11 = bl_23_11 ∧ bl_23_0 = (1, 1, 0, 0, 0, 0) :: (28, 10, 15, 0, 0, 0) :: (1, 1, 0, 0, 0, 0) :: (2, 0, 0, 0, 0, 0) :: (48, 0, 0, 0, 0, 0) :: (23, 10, 9, 0, 0, 0) :: (2, 0, 0, 0, 0, 0) :: (1, 1, 0, 0, 0, 0) :: (40, 0, 0, 0, 0, 0) :: (32, 11, 4, 0, 0, 0) :: bl_23_10 ∧ bl_23_10 = (0, 0, 0, 0, 0, 0) :: bl_23_11 ∧ bl_23_11 = (55, 0, 0, 0, 0, 0) :: [] := by refine ⟨?_, ?_, ?_, ?_, ?_, ?_⟩ <;> rfl
theorem cdS_24 : (mz_cd 24).drop 0 = bl_24_0 ∧ (mz_cd 24).drop 8 = bl_24_8 ∧ (mz_cd 24).drop 9 = bl_24_9 ∧ bl_24_0 = (1, 0, 0, 0, 0, 0) :: (1, 1, 0, 0, 0, 0) :: (15, 0, 0, 0, 0, 0) :: (0, 0, 1, 0, 0, 0) :: (11, 0, 0, 0, 0, 0) :: (26, 8, 7, 0, 0, 0) :: (0, 0, 1, 0, 0, 0) :: (32, 9, 4, 0, 0, 0) :: bl_24_8 ∧ bl_24_8 = (0, 0, 0, 0, 0, 0) :: bl_24_9 ∧ bl_24_9 = (55, 1, 0, 0, 0, 0) :: [] := by refine ⟨?_, ?_, ?_, ?_, ?_, ?_⟩ <;> rfl
theorem cdS_25 : (mz_cd 25).drop 0 = bl_25_0 ∧ bl_25_0 = (1, 0, 0, 0, 0, 0) :: (0, 1, 59, 0, 0, 0) :: (6, 0, 0, 0, 0, 0) :: (0, 1, 60, 0, 0, 0) :: (9, 0, 0, 0, 0, 0) :: (55, 0, 0, 0, 0, 0) :: [] := by refine ⟨?_, ?_⟩ <;> rfl
theorem cdS_26 : (mz_cd 26).drop 0 = bl_26_0 ∧ (mz_cd 26).drop 2 = bl_26_2 ∧ (mz_cd 26).drop 4 = bl_26_4 ∧ bl_26_0 = (1, 0, 0, 0, 0, 0) :: (35, 1, 2, 4, 0, 0) :: bl_26_2 ∧ bl_26_2 = (0, 0, 1, 0, 0, 0) :: (55, 1, 0, 0, 0, 0) :: bl_26_4 ∧ bl_26_4 = (0, 0, 0, 0, 0, 0) :: (55, 1, 0, 0, 0, 0) :: [] := by refine ⟨?_, ?_, ?_, ?_, ?_, ?_⟩ <;> rfl
theorem cdS_27 : (mz_cd 27).drop 0 = bl_27_0 ∧ bl_27_0 = (2, 0, 0, 0, 0, 0) :: (37, 0, 0, 8, 10, 2137) :: (36, 6, 0, 5, 60, 1147) :: (55, 0, 0, 0, 0, 0) :: [] := by refine ⟨?_, ?_⟩ <;> rfl
theorem cdS_28 : (mz_cd 28).drop 0 = bl_28_0 ∧ bl_28_0 = (2, 0, 0, 0, 0, 0) :: (37, 1, 0, 8, 19, 2138) :: (37, 2, 0, 6, 107, 2042) :: (36, 0, 0, 1, 263, 1186) :: (55, 0, 0, 0, 0, 0) :: [] := by refine ⟨?_, ?_⟩ <;> rfl
theorem cdS_29 : (mz_cd 29).drop 0 = bl_29_0 ∧ bl_29_0 = (2, 0, 0, 0, 0, 0) :: (37, 1, 0, 8, 19, 2138) :: (36, 3, 0, 6, 88, 2045) :: (55, 0, 0, 0, 0, 0) :: [] := by refine ⟨?_, ?_⟩ <;> rfl
theorem cdS_30 : (mz_cd 30).drop 0 = bl_30_0 ∧ bl_30_0 = (2, 0, 0, 0, 0, 0) :: (37, 1, 0, 8, 19, 2138) :: (37, 0, 0, 6, 75, 2038) :: (36, 0, 0, 4, 76, 1102) :: (55, 0, 0, 0, 0, 0) :: [] := by refine ⟨?_, ?_⟩ <;> rfl
theorem cdS_31 : (mz_cd 31).drop 0 = bl_31_0 ∧ (mz_cd 31).drop 10 = bl_31_10 ∧ bl_31_0 = (1, 1, 0, 0, 0, 0) :: (28, 10, 13, 0, 0, 0) :: (1, 1, 0, 0, 0, 0) :: (2, 0, 0, 0, 0, 0) :: (48, 0, 0, 0, 0, 0) :: (23, 10, 7, 0, 0, 0) :: (2, 0, 0, 0, 0, 0) :: (1, 1, 0, 0, 0, 0) :: (1, 2, 0, 0, 0, 0) :: (41, 0, 0, 0, 0, 0) :: bl_31_10 ∧ bl_31_10 = (57, 0, 0, 0, 0, 0) :: [] := by refine ⟨?_, ?_, ?_, ?_⟩ <;> rfl
theorem cdS_32 : (mz_cd 32).drop 0 = bl_32_0 ∧ (mz_cd 32).drop 7 = bl_32_7 ∧ (mz_cd 32).drop 10 = bl_32_10 ∧ bl_32_0 = (2, 0, 0, 0, 0, 0) :: (37, 1, 0, 8, 19, 2138) :: (36, 4, 0, 6, 223, 2048) :: (0, 0, (-1), 0, 0, 0) :: (21, 7, 8, 0, 0, 0) :: (0, 1, (-3), 0, 0, 0) :: (32, 10, 10, 0, 0, 0) :: bl_32_7 ∧ bl_32_7 = (2, 0, 0, 0, 0, 0) :: (37, 1, 0, 8, 19, 2138) :: (36, 4, 0, 6, 223, 2048) :: bl_32_10 ∧ bl_32_10 = (55, 0, 0, 0, 0, 0) :: [] := by refine ⟨?_, ?_, ?_, ?_, ?_, ?_⟩ <;> rfl
theorem cdS_33 : (mz_cd 33).drop 0 = bl_33_0 ∧ (mz_cd 33).drop 8 = bl_33_8 ∧ (mz_cd 33).drop 9 = bl_33_9 ∧ bl_33_0 = (1, 0, 0, 0, 0, 0) :: (1, 1, 0, 0, 0, 0) :: (22, 8, 12, 0, 0, 0) :: (1, 0, 0, 0, 0, 0) :: (1, 2, 0, 0, 0, 0) :: (24, 8, 7, 0, 0, 0) :: (0, 0, 1, 0, 0, 0) :: (32, 9, 4, 0, 0, 0) :: bl_33_8 ∧ bl_33_8 = (0, 0, 0, 0, 0, 0) :: bl_33_9 ∧ bl_33_9 = (55, 1, 0, 0, 0, 0) :: [] := by refine ⟨?_, ?_, ?_, ?_, ?_, ?_⟩ <;> rfl
theorem cdS_34 : (mz_cd 34).drop 0 = bl_34_0 ∧ (mz_cd 34).drop 2 = bl_34_2 ∧ (mz_cd 34).drop 11 = bl_34_11 ∧ (mz_cd 34).drop 21 = bl_34_21 ∧ (mz_cd 34).drop 32 = bl_34_32 ∧ (mz_cd 34).drop 34 = bl_34_34 ∧ (mz_cd 34).drop 45 = bl_34_45 ∧ (mz_cd 34).drop 47 = bl_34_47 ∧ (mz_cd 34).drop 58 = bl_34_58 ∧ bl_34_0 = (0, 0, 0, 0, 0, 0) :: (3, 2, 0, 0, 0, 0) :: bl_34_2 ∧ bl_34_2 = (1, 2, 0, 0, 0, 0) :: (0, 2, 2430, 0, 0, 0) :: (23, 11, 13, 0, 0, 0) :: (2, 0, 0, 0, 0, 0) :: (1, 2, 0, 0, 0, 0) :: (0, 0, 0, 0, 0, 0) :: (41, 0, 0, 0, 0, 0) :: (5, 2, 1, 0, 0, 0) :: (32, 2, (-14), 0, 0, 0) :: bl_34_11 ∧ bl_34_11 = (2, 0, 0, 0, 0, 0) :: (0, 0, 0, 0, 0, 0) :: (1, 1, 0, 0, 0, 0) :: (41, 0, 0, 0, 0, 0) :: (2, 0, 0, 0, 0, 0) :: (0, 0, 1, 0, 0, 0) :: (0, 1, (-3), 0, 0, 0) :: (41, 0, 0, 0, 0, 0) :: (0, 0, 0, 0, 0, 0) :: (3, 2, 0, 0, 0, 0) :: bl_34_21 ∧ bl_34_21 = (1, 2, 0, 0, 0, 0) :: (0, 1, 10, 0, 0, 0) :: (23, 32, 17, 0, 0, 0) :: (2, 0, 0, 0, 0, 0) :: (0, 2, 213, 0, 0, 0) :: (1, 2, 0, 0, 0, 0) :: (6, 0, 0, 0, 0, 0) :: (0, 0, 2, 0, 0, 0) :: (41, 0, 0, 0, 0, 0) :: (5, 2, 1, 0, 0, 0) :: (32, 21, (-17), 0, 0, 0) :: bl_34_32 ∧ bl_34_32 = (0, 0, 0, 0, 0, 0) :: (3, 2, 0, 0, 0, 0) :: bl_34_34 ∧ bl_34_34 = (1, 2, 0, 0, 0, 0) :: (0, 0, 4, 0, 0, 0) :: (23, 45, 18, 0, 0, 0) :: (2, 0, 0, 0, 0, 0) :: (0, 2, 329, 0, 0, 0) :: (1, 2, 0, 0, 0, 0) :: (6, 0, 0, 0, 0, 0) :: (0, 1, 120, 0, 0, 0) :: (41, 0, 0, 0, 0, 0) :: (5, 2, 1, 0, 0, 0) :: (32, 34, (-17), 0, 0, 0) :: bl_34_45 ∧ bl_34_45 = (0, 0, 0, 0, 0, 0) :: (3, 2, 0, 0, 0, 0) :: bl_34_47 ∧ bl_34_47 = (1, 2, 0, 0, 0, 0) :: (0, 1, 100, 0, 0, 0) :: (23, 58, 16, 0, 0, 0) :: (2, 0, 0, 0, 0, 0) :: (0, 0, 3, 0, 0, 0) :: (1, 2, 0, 0, 0, 0) :: (6, 0, 0, 0, 0, 0) :: (0, 3, 1000000, 0, 63, 6109) :: (41, 0, 0, 0, 0, 0) :: (5, 2, 1, 0, 0, 0) :: (32, 47, (-16), 0, 0, 0) :: bl_34_58 ∧ bl_34_58 = (57, 0, 0, 0, 0, 0) :: [] := by refine ⟨?_, ?_, ?_, ?_, ?_, ?_, ?_, ?_, ?_, ?_, ?_, ?_, ?_, ?_, ?_, ?_, ?_, ?_⟩ <;> rfl
theorem cdS_35 : (mz_cd 35).drop 0 = bl_35_0 ∧ bl_35_0 = (2, 0, 0, 0, 0, 0) :: (37, 0, 0, 9, 9, 6114) :: (0, 2, 233, 0, 0, 0) :: (0, 1, 24, 0, 0, 0) :: (2, 0, 0, 0, 0, 0) :: (37, 0, 0, 9, 9, 6114) :: (0, 2, 203, 0, 0, 0) :: (1, 1, 0, 0, 0, 0) :: (6, 0, 0, 0, 0, 0) :: (40, 0, 0, 0, 0, 0) :: (8, 0, 0, 0, 0, 0) :: (6, 0, 0, 0, 0, 0) :: (1, 2, 0, 0, 0, 0) :: (0, 1, 60, 0, 0, 0) :: (9, 0, 0, 0, 0, 0) :: (0, 1, 24, 0, 0, 0) :: (10, 0, 0, 0, 0, 0) :: (6, 0, 0, 0, 0, 0) :: (40, 0, 0, 0, 0, 0) :: (55, 0, 0, 0, 0, 0) :: [] := by refine ⟨?_, ?_⟩ <;> rfl
theorem cdS_36 : (mz_cd 36).drop 0 = bl_36_0 ∧ (mz_cd 36).drop 2 = bl_36_2 ∧ (mz_cd 36).drop 21 = bl_36_21 ∧ bl_36_0 = (0, 0, 0, 0, 0, 0) :: (3, 4, 0, 0, 1, 0) :: bl_36_2 ∧ bl_36_2 = (1, 4, 0, 0, 1, 0) :: (0, 2, 2430, 0, 0, 0) :: (23, 21, 29, 0, 0, 0) :: (2, 2, 0, 0, 0, 0) :: (0, 2, 2430, 0, 0, 0) :: (1, 3, 0, 0, 0, 0) :: (8, 0, 0, 0, 0, 0) :: (1, 4, 0, 0, 1, 0) :: (6, 0, 0, 0, 0, 0) :: (2, 0, 0, 0, 0, 0) :: (0, 2, 2430, 0, 0, 0) :: (1, 1, 0, 0, 0, 0) :: (8, 0, 0, 0, 0, 0) :: (1, 4, 0, 0, 1, 0) :: (6, 0, 0, 0, 0, 0) :: (40, 0, 0, 0, 0, 0) :: (41, 0, 0, 0, 0, 0) :: (5, 4, 1, 0, 0, 0) :: (32, 2, (-31), 0, 0, 0) :: bl_36_21 ∧ bl_36_21 = (57, 0, 0, 0, 0, 0) :: [] := by refine ⟨?_, ?_, ?_, ?_, ?_, ?_⟩ <;> rfl
theorem cdS_37 : (mz_cd 37).drop 0 = bl_37_0 ∧ bl_37_0 = (2, 0, 0, 0, 0, 0) :: (37, 0, 0, 9, 9, 6114) :: (0, 2, 430, 0, 0, 0) :: (0, 0, 5, 0, 0, 0) :: (1, 1, 0, 0, 0, 0) :: (8, 0, 0, 0, 0, 0) :: (6, 0, 0, 0, 0, 0) :: (1, 2, 0, 0, 0, 0) :: (6, 0, 0, 0, 0, 0) :: (40, 0, 0, 0, 0, 0) :: (55, 0, 0, 0, 0, 0) :: [] := by refine ⟨?_, ?_⟩ <;> rfl
theorem cdS_38 : (mz_cd 38).drop 0 = bl_38_0 ∧ (mz_cd 38).drop 9 = bl_38_9 ∧ bl_38_0 = (2, 0, 0, 0, 0, 0) :: (36, 9, 0, 9, 87, 6123) :: (27, 9, 13, 0, 0, 0) :: (2, 0, 0, 0, 0, 0) :: (1, 1, 0, 0, 0, 0) :: (38, 9, 0, 9, 87, 6123) :: (2, 0, 0, 0, 0, 0) :: (1, 2, 0, 0, 0, 0) :: (38, 10, 0, 9, 90, 6124) :: bl_38_9 ∧ bl_38_9 = (57, 0, 0, 0, 0, 0) :: [] := by refine ⟨?_, ?_, ?_, ?_⟩ <;> rfl
theorem cdS_39 : (mz_cd 39).drop 0 = bl_39_0 ∧ (mz_cd 39).drop 13 = bl_39_13 ∧ (mz_cd 39).drop 14 = bl_39_14 ∧ bl_39_0 = (2, 0, 0, 0, 0, 0) :: (36, 7, 0, 9, 77, 6121) :: (2, 0, 0, 0, 0, 0) :: (36, 6, 0, 9, 74, 6120) :: (23, 13, 19, 0, 0, 0) :: (2, 0, 0, 0, 0, 0) :: (37, 5, 0, 9, 23, 6119) :: (2, 0, 0, 0, 0, 0) :: (36, 7, 0, 9, 77, 6121) :: (44, 0, 0, 0, 0, 0) :: (0, 2, 255, 0, 0, 0) :: (11, 0, 0, 0, 0, 0) :: (32, 14, 4, 0, 0, 0) :: bl_39_13 ∧ bl_39_13 = (0, 0, (-1), 0, 0, 0) :: bl_39_14 ∧ bl_39_14 = (55, 0, 0, 0, 0, 0) :: [] := by refine ⟨?_, ?_, ?_, ?_, ?_, ?_⟩ <;> rfl
theorem cdS_40 : (mz_cd 40).drop 0 = bl_40_0 ∧ (mz_cd 40).drop 8 = bl_40_8 ∧ (mz_cd 40).drop 9 = bl_40_9 ∧ bl_40_0 = (1, 0, 0, 0, 0, 0) :: (1, 1, 0, 0, 0, 0) :: (22, 8, 12, 0, 0, 0) :: (1, 0, 0, 0, 0, 0) :: (1, 2, 0, 0, 0, 0) :: (24, 8, 7, 0, 0, 0) :: (0, 0, 1, 0, 0, 0) :: (32, 9, 4, 0, 0, 0) :: bl_40_8 ∧ bl_40_8 = (0, 0, 0, 0, 0, 0) :: bl_40_9 ∧ bl_40_9 = (55, 1, 0, 0, 0, 0) :: [] := by refine ⟨?_, ?_, ?_, ?_, ?_, ?_⟩ <;> rfl
theorem cdS_41 : (mz_cd 41).drop 0 = bl_41_0 ∧ (mz_cd 41).drop 8 = bl_41_8 ∧ (mz_cd 41).drop 9 = bl_41_9 ∧ bl_41_0 = (2, 0, 0, 0, 0, 0) :: (37, 0, 0, 9, 9, 6114) :: (0, 2, 429, 0, 0, 0) :: (40, 0, 0, 0, 0, 0) :: (0, 2, 340, 0, 0, 0) :: (22, 8, 7, 0, 0, 0) :: (0, 0, 1, 0, 0, 0) :: (32, 9, 4, 0, 0, 0) :: bl_41_8 ∧ bl_41_8 = (0, 0, 0, 0, 0, 0) :: bl_41_9 ∧ bl_41_9 = (55, 1, 0, 0, 0, 0) :: [] := by refine ⟨?_, ?_, ?_, ?_, ?_, ?_⟩ <;> rfl
theorem cdS_42 : (mz_cd 42).drop 0 = bl_42_0 ∧ bl_42_0 = (2, 0, 0, 0, 0, 0) :: (0, 0, 0, 0, 0, 0) :: (38, 4, 0, 9, 59, 6118) :: (2, 0, 0, 0, 0, 0) :: (36, 11, 0, 9, 152, 6125) :: (55, 0, 0, 0, 0, 0) :: [] := by refine ⟨?_, ?_⟩ <;> rfl
theorem cdS_43 : (mz_cd 43).drop 0 = bl_43_0 ∧ bl_43_0 = (2, 0, 0, 0, 0, 0) :: (0, 0, 0, 0, 0, 0) :: (38, 4, 0, 9, 59, 6118) :: (2, 0, 0, 0, 0, 0) :: (37, 0, 0, 9, 9, 6114) :: (0, 2, 429, 0, 0, 0) :: (40, 0, 0, 0, 0, 0) :: (55, 0, 0, 0, 0, 0) :: [] := by refine ⟨?_, ?_⟩ <;> rfl
theorem cdS_44 : (mz_cd 44).drop 0 = bl_44_0 ∧ bl_44_0 = (0, 2, 430, 0, 0, 0) :: (0, 0, 5, 0, 0, 0) :: (2, 0, 0, 0, 0, 0) :: (37, 0, 0, 9, 9, 6114) :: (0, 2, 429, 0, 0, 0) :: (40, 0, 0, 0, 0, 0) :: (8, 0, 0, 0, 0, 0) :: (6, 0, 0, 0, 0, 0) :: (3, 4, 0, 0, 1, 0) :: (2, 0, 0, 0, 0, 0) :: (37, 0, 0, 9, 9, 6114) :: (1, 4, 0, 0, 1, 0) :: (0, 0, 0, 0, 0, 0) :: (6, 0, 0, 0, 0, 0) :: (2, 0, 0, 0, 0, 0) :: (37, 0, 0, 9, 9, 6114) :: (0, 0, 2, 0, 0, 0) :: (40, 0, 0, 0, 0, 0) :: (41, 0, 0, 0, 0, 0) :: (2, 0, 0, 0, 0, 0) :: (37, 0, 0, 9, 9, 6114) :: (1, 4, 0, 0, 1, 0) :: (0, 0, 1, 0, 0, 0) :: (6, 0, 0, 0, 0, 0) :: (1, 1, 0, 0, 0, 0) :: (41, 0, 0, 0, 0, 0) :: (2, 0, 0, 0, 0, 0) :: (37, 0, 0, 9, 9, 6114) :: (1, 4, 0, 0, 1, 0) :: (0, 0, 2, 0, 0, 0) :: (6, 0, 0, 0, 0, 0) :: (1, 2, 0, 0, 0, 0) :: (41, 0, 0, 0, 0, 0) :: (2, 0, 0, 0, 0, 0) :: (37, 0, 0, 9, 9, 6114) :: (1, 4, 0, 0, 1, 0) :: (0, 0, 3, 0, 0, 0) :: (6, 0, 0, 0, 0, 0) :: (1, 3, 0, 0, 0, 0) :: (41, 0, 0, 0, 0, 0) :: (2, 0, 0, 0, 0, 0) :: (37, 0, 0, 9, 9, 6114) :: (1, 4, 0, 0, 1, 0) :: (0, 0, 4, 0, 0, 0) :: (6, 0, 0, 0, 0, 0) :: (0, 0, 0, 0, 0, 0) :: (41, 0, 0, 0, 0, 0) :: (2, 0, 0, 0, 0, 0) :: (37, 0, 0, 9, 9, 6114) :: (0, 2, 429, 0, 0, 0) :: (69, 0, 0, 0, 0, 0) :: (40, 0, 0, 0, 0, 0) :: (0, 0, 1, 0, 0, 0) :: (6, 0, 0, 0, 0, 0) :: (41, 0, 0, 0, 0, 0) :: (57, 0, 0, 0, 0, 0) :: [] := by refine ⟨?_, ?_⟩ <;> rfl
theorem cdS_45 : (mz_cd 45).drop 0 = bl_45_0 ∧ bl_45_0 = (2, 0, 0, 0, 0, 0) :: (0, 0, 0, 0, 0, 0) :: (38, 4, 0, 9, 59, 6118) :: (2, 0, 0, 0, 0, 0) :: (37, 0, 0, 9, 9, 6114) :: (0, 0, 2, 0, 0, 0) :: (40, 0, 0, 0, 0, 0) :: (55, 0, 0, 0, 0, 0) :: [] := by refine ⟨?_, ?_⟩ <;> rfl
theorem cdS_46 : (mz_cd 46).drop 0 = bl_46_0 ∧ bl_46_0 = (2, 0, 0, 0, 0, 0) :: (37, 0, 0, 9, 9, 6114) :: (0, 2, 333, 0, 0, 0) :: (0, 1, 6, 0, 0, 0) :: (1, 1, 0, 0, 0, 0) :: (8, 0, 0, 0, 0, 0) :: (6, 0, 0, 0, 0, 0) :: (1, 2, 0, 0, 0, 0) :: (6, 0, 0, 0, 0, 0) :: (40, 0, 0, 0, 0, 0) :: (55, 0, 0, 0, 0, 0) :: [] := by refine ⟨?_, ?_⟩ <;> rfl
theorem cdS_47 : (mz_cd 47).drop 0 = bl_47_0 ∧ bl_47_0 = (2, 0, 0, 0, 0, 0) :: (0, 0, 0, 0, 0, 0) :: (38, 4, 0, 9, 59, 6118) :: (2, 0, 0, 0, 0, 0) :: (37, 0, 0, 9, 9, 6114) :: (0, 0, 0, 0, 0, 0) :: (40, 0, 0, 0, 0, 0) :: (55, 0, 0, 0, 0, 0) :: [] := by refine ⟨?_, ?_⟩ <;> rfl
theorem cdS_48 : (mz_cd 48).drop 0 = bl_48_0 ∧ bl_48_0 = (2, 0, 0, 0, 0, 0) :: (37, 0, 0, 9, 9, 6114) :: (0, 2, 333, 0, 0, 0) :: (0, 1, 6, 0, 0, 0) :: (1, 1, 0, 0, 0, 0) :: (8, 0, 0, 0, 0, 0) :: (6, 0, 0, 0, 0, 0) :: (1, 2, 0, 0, 0, 0) :: (6, 0, 0, 0, 0, 0) :: (1, 3, 0, 0, 0, 0) :: (41, 0, 0, 0, 0, 0) :: (57, 0, 0, 0, 0, 0) :: [] := by refine ⟨?_, ?_⟩ <;> rfl
theorem cdS_49 : (mz_cd 49).drop 0 = bl_49_0 ∧ bl_49_0 = (2, 0, 0, 0, 0, 0) :: (36, 4, 0, 9, 59, 6118) :: (55, 0, 0, 0, 0, 0) :: [] := by refine ⟨?_, ?_⟩ <;> rfl
theorem cdS_50 : (mz_cd 50).drop 0 = bl_50_0 ∧ bl_50_0 = (2, 0, 0, 0, 0, 0) :: (0, 0, 0, 0, 0, 0) :: (38, 4, 0, 9, 59, 6118) :: (2, 0, 0, 0, 0, 0) :: (37, 0, 0, 9, 9, 6114) :: (0, 0, 1, 0, 0, 0) :: (40, 0, 0, 0, 0, 0) :: (55, 0, 0, 0, 0, 0) :: [] := by refine ⟨?_, ?_⟩ <;> rfl
theorem cdS_51 : (mz_cd 51).drop 0 = bl_51_0 ∧ bl_51_0 = (2, 0, 0, 0, 0, 0) :: (37, 0, 0, 9, 9, 6114) :: (0, 1, 103, 0, 0, 0) :: (0, 1, 10, 0, 0, 0) :: (1, 1, 0, 0, 0, 0) :: (8, 0, 0, 0, 0, 0) :: (6, 0, 0, 0, 0, 0) :: (1, 2, 0, 0, 0, 0) :: (6, 0, 0, 0, 0, 0) :: (40, 0, 0, 0, 0, 0) :: (55, 0, 0, 0, 0, 0) :: [] := by refine ⟨?_, ?_⟩ <;> rfl
theorem cdS_52 : (mz_cd 52).drop 0 = bl_52_0 ∧ bl_52_0 = (1, 0, 0, 0, 0, 0) :: (1, 1, 0, 0, 0, 0) :: (73, 0, 0, 0, 1053, 2237) :: (49, 2, 99, 3, 1059, 2239) :: (19, 0, 0, 0, 0, 0) :: (57, 0, 0, 0, 0, 0) :: [] := by refine ⟨?_, ?_⟩ <;> rfl
theorem cdS_53 : (mz_cd 53).drop 0 = bl_53_0 ∧ bl_53_0 = (2, 0, 0, 0, 0, 0) :: (66, 0, 0, 0, 9, 8192) :: (48, 0, 0, 0, 0, 0) :: (2, 0, 0, 0, 0, 0) :: (50, 0, 90, 1, 335, 2216) :: (15, 0, 0, 0, 0, 0) :: (55, 0, 0, 0, 0, 0) :: [] := by refine ⟨?_, ?_⟩ <;> rfl
theorem cdS_54 : (mz_cd 54).drop 0 = bl_54_0 ∧ (mz_cd 54).drop 5 = bl_54_5 ∧ (mz_cd 54).drop 10 = bl_54_10 ∧ (mz_cd 54).drop 11 = bl_54_11 ∧ bl_54_0 = (1, 1, 0, 0, 0, 0) :: (0, 1, 30, 0, 0, 0) :: (24, 5, 9, 0, 0, 0) :: (0, 2, 1500, 0, 0, 0) :: (32, 11, 18, 0, 0, 0) :: bl_54_5 ∧ bl_54_5 = (1, 1, 0, 0, 0, 0) :: (0, 1, 120, 0, 0, 0) :: (24, 10, 9, 0, 0, 0) :: (0, 2, 3000, 0, 0, 0) :: (32, 11, 6, 0, 0, 0) :: bl_54_10 ∧ bl_54_10 = (0, 2, 6000, 0, 0, 0) :: bl_54_11 ∧ bl_54_11 = (3, 2, 0, 0, 0, 0) :: (1, 2, 0, 0, 0, 0) :: (0, 2, 500, 0, 0, 0) :: (0, 0, 5, 0, 0, 0) :: (2, 0, 0, 0, 0, 0) :: (50, 10, 0, 1, 49, 3233) :: (76, 0, 0, 0, 59, 3237) :: (8, 0, 0, 0, 0, 0) :: (6, 0, 0, 0, 0, 0) :: (55, 0, 0, 0, 0, 0) :: [] := by refine ⟨?_, ?_, ?_, ?_, ?_, ?_, ?_, ?_⟩ <;> rfl
theorem cdS_55 : (mz_cd 55).drop 0 = bl_55_0 ∧ bl_55_0 = (2, 0, 0, 0, 0, 0) :: (63, 0, 0, 0, 3, 1217) :: (2, 0, 0, 0, 0, 0) :: (1, 1, 0, 0, 0, 0) :: (38, 0, 0, 0, 9, 1218) :: (57, 0, 0, 0, 0, 0) :: [] := by refine ⟨?_, ?_⟩ <;> rfl
theorem cdS_56 : (mz_cd 56).drop 0 = bl_56_0 ∧ bl_56_0 = (0, 0, 0, 0, 0, 0) :: (2, 0, 0, 0, 0, 0) :: (36, 8, 0, 0, 36, 2004) :: (2, 0, 0, 0, 0, 0) :: (36, 9, 0, 0, 39, 2006) :: (6, 0, 0, 0, 0, 0) :: (2, 0, 0, 0, 0, 0) :: (36, 10, 0, 0, 42, 2009) :: (7, 0, 0, 0, 0, 0) :: (75, 0, 0, 0, 53, 4038) :: (55, 0, 0, 0, 0, 0) :: [] := by refine ⟨?_, ?_⟩ <;> rfl
theorem cdS_57 : (mz_cd 57).drop 0 = bl_57_0 ∧ (mz_cd 57).drop 8 = bl_57_8 ∧ (mz_cd 57).drop 9 = bl_57_9 ∧ bl_57_0 = (2, 0, 0, 0, 0, 0) :: (50, 10, 0, 1, 49, 3233) :: (27, 8, 14, 0, 0, 0) :: (2, 0, 0, 0, 0, 0) :: (36, 9, 0, 0, 39, 2006) :: (27, 8, 7, 0, 0, 0) :: (0, 0, 1, 0, 0, 0) :: (32, 9, 4, 0, 0, 0) :: bl_57_8 ∧ bl_57_8 = (0, 0, 0, 0, 0, 0) :: bl_57_9 ∧ bl_57_9 = (55, 1, 0, 0, 0, 0) :: [] := by refine ⟨?_, ?_, ?_, ?_, ?_, ?_⟩ <;> rfl
theorem cdS_58 : (mz_cd 58).drop 0 = bl_58_0 ∧ (mz_cd 58).drop 10 = bl_58_10 ∧ (mz_cd 58).drop 12 = bl_58_12 ∧ (mz_cd 58).drop 13 = bl_58_13 ∧ bl_58_0 = (2, 0, 0, 0, 0, 0) :: (1, 1, 0, 0, 0, 0) :: (0, 0, 1, 0, 0, 0) :: (50, 9, 0, 3, 45, 3141) :: (27, 10, 12, 0, 0, 0) :: (2, 0, 0, 0, 0, 0) :: (1, 1, 0, 0, 0, 0) :: (0, 0, 2, 0, 0, 0) :: (50, 9, 0, 3, 45, 3141) :: (26, 12, 7, 0, 0, 0) :: bl_58_10 ∧ bl_58_10 = (0, 0, 1, 0, 0, 0) :: (32, 13, 4, 0, 0, 0) :: bl_58_12 ∧ bl_58_12 = (0, 0, 0, 0, 0, 0) :: bl_58_13 ∧ bl_58_13 = (55, 1, 0, 0, 0, 0) :: [] := by refine ⟨?_, ?_, ?_, ?_, ?_, ?_, ?_, ?_⟩ <;> rfl
theorem cdS_59 : (mz_cd 59).drop 0 = bl_59_0 ∧ (mz_cd 59).drop 34 = bl_59_34 ∧ bl_59_0 = (2, 0, 0, 0, 0, 0) :: (36, 0, 0, 1, 30, 1184) :: (0, 2, 400, 0, 0, 0) :: (23, 34, 62, 0, 0, 0) :: (2, 0, 0, 0, 0, 0) :: (37, 1, 0, 1, 11, 1187) :: (2, 0, 0, 0, 0, 0) :: (36, 0, 0, 1, 30, 1184) :: (1, 1, 0, 0, 0, 0) :: (52, 31, 8, 3, 38, 14) :: (2, 0, 0, 0, 0, 0) :: (37, 2, 0, 1, 15, 1189) :: (2, 0, 0, 0, 0, 0) :: (36, 0, 0, 1, 30, 1184) :: (1, 2, 0, 0, 0, 0) :: (52, 31, 8, 3, 38, 14) :: (2, 0, 0, 0, 0, 0) :: (37, 3, 0, 1, 18, 1191) :: (2, 0, 0, 0, 0, 0) :: (36, 0, 0, 1, 30, 1184) :: (1, 3, 0, 0, 0, 0) :: (52, 31, 8, 3, 38, 14) :: (2, 0, 0, 0, 0, 0) :: (37, 4, 0, 1, 21, 1193) :: (2, 0, 0, 0, 0, 0) :: (36, 0, 0, 1, 30, 1184) :: (1, 4, 0, 0, 1, 0) :: (52, 31, 8, 3, 38, 14) :: (2, 0, 0, 0, 0, 0) :: (18, 0, 0, 0, 0, 0) :: (36, 0, 0, 1, 30, 1184) :: (0, 0, 1, 0, 0, 0) :: (6, 0, 0, 0, 0, 0) :: (38, 0, 0, 1, 30, 1184) :: bl_59_34 ∧ bl_59_34 = (57, 0, 0, 0, 0, 0) :: [] := by refine ⟨?_, ?_, ?_, ?_⟩ <;> rfl
theorem cdS_60 : (mz_cd 60).drop 0 = bl_60_0 ∧ bl_60_0 = (2, 0, 0, 0, 0, 0) :: (63, 0, 0, 0, 3, 1183) :: (2, 0, 0, 0, 0, 0) :: (0, 2, 400, 0, 0, 0) :: (59, 0, 0, 0, 0, 0) :: (39, 1, 0, 1, 11, 1187) :: (2, 0, 0, 0, 0, 0) :: (0, 2, 400, 0, 0, 0) :: (59, 0, 0, 0, 0, 0) :: (39, 2, 0, 1, 15, 1189) :: (2, 0, 0, 0, 0, 0) :: (0, 2, 400, 0, 0, 0) :: (59, 0, 0, 0, 0, 0) :: (39, 3, 0, 1, 18, 1191) :: (2, 0, 0, 0, 0, 0) :: (0, 2, 400, 0, 0, 0) :: (59, 0, 0, 0, 0, 0) :: (39, 4, 0, 1, 21, 1193) :: (2, 0, 0, 0, 0, 0) :: (0, 1, 16, 0, 0, 0) :: (59, 0, 0, 0, 0, 0) :: (39, 5, 0, 1, 24, 1196) :: (2, 0, 0, 0, 0, 0) :: (0, 1, 10, 0, 0, 0) :: (59, 0, 0, 0, 0, 0) :: (39, 6, 0, 1, 27, 1197) :: (57, 0, 0, 0, 0, 0) :: [] := by refine ⟨?_, ?_⟩ <;> rfl
theorem cdS_61 : (mz_cd 61).drop 0 = bl_61_0 ∧ (mz_cd 61).drop 16 = bl_61_16 ∧ (mz_cd 61).drop 17 = bl_61_17 ∧ bl_61_0 = (2, 0, 0, 0, 0, 0) :: (37, 2, 0, 1, 15, 1189) :: (1, 1, 0, 0, 0, 0) :: (52, 23, 8, 2, 42, 16) :: (1, 3, 0, 0, 0, 0) :: (21, 16, 23, 0, 0, 0) :: (2, 0, 0, 0, 0, 0) :: (37, 1, 0, 1, 11, 1187) :: (1, 1, 0, 0, 0, 0) :: (52, 23, 8, 2, 42, 16) :: (0, 2, 1440, 0, 0, 0) :: (9, 0, 0, 0, 0, 0) :: (1, 2, 0, 0, 0, 0) :: (21, 16, 7, 0, 0, 0) :: (0, 0, 1, 0, 0, 0) :: (32, 17, 4, 0, 0, 0) :: bl_61_16 ∧ bl_61_16 = (0, 0, 0, 0, 0, 0) :: bl_61_17 ∧ bl_61_17 = (55, 1, 0, 0, 0, 0) :: [] := by refine ⟨?_, ?_, ?_, ?_, ?_, ?_⟩ <;> rfl
theorem cdS_62 : (mz_cd 62).drop 0 = bl_62_0 ∧ (mz_cd 62).drop 4 = bl_62_4 ∧ (mz_cd 62).drop 25 = bl_62_25 ∧ (mz_cd 62).drop 26 = bl_62_26 ∧ (mz_cd 62).drop 28 = bl_62_28 ∧ bl_62_0 = (0, 0, 0, 0, 0, 0) :: (3, 3, 0, 0, 0, 0) :: (0, 0, 0, 0, 0, 0) :: (3, 4, 0, 0, 1, 0) :: bl_62_4 ∧ bl_62_4 = (1, 4, 0, 0, 1, 0) :: (2, 0, 0, 0, 0, 0) :: (36, 0, 0, 1, 30, 1184) :: (23, 28, 46, 0, 0, 0) :: (2, 0, 0, 0, 0, 0) :: (37, 2, 0, 1, 15, 1189) :: (1, 4, 0, 0, 1, 0) :: (52, 23, 8, 2, 42, 16) :: (0, 0, 4, 0, 0, 0) :: (21, 26, 27, 0, 0, 0) :: (2, 0, 0, 0, 0, 0) :: (37, 3, 0, 1, 18, 1191) :: (1, 4, 0, 0, 1, 0) :: (52, 23, 8, 2, 42, 16) :: (1, 1, 0, 0, 0, 0) :: (21, 26, 14, 0, 0, 0) :: (1, 3, 0, 0, 0, 0) :: (1, 2, 0, 0, 0, 0) :: (21, 25, 6, 0, 0, 0) :: (1, 4, 0, 0, 1, 0) :: (55, 0, 0, 0, 0, 0) :: bl_62_25 ∧ bl_62_25 = (5, 3, 1, 0, 0, 0) :: bl_62_26 ∧ bl_62_26 = (5, 4, 1, 0, 0, 0) :: (32, 4, (-49), 0, 0, 0) :: bl_62_28 ∧ bl_62_28 = (0, 0, (-1), 0, 0, 0) :: (55, 0, 0, 0, 0, 0) :: [] := by refine ⟨?_, ?_, ?_, ?_, ?_, ?_, ?_, ?_, ?_, ?_⟩ <;> rfl
theorem cdS_63 : (mz_cd 63).drop 0 = bl_63_0 ∧ bl_63_0 = (2, 0, 0, 0, 0, 0) :: (63, 0, 0, 0, 3, 2114) :: (2, 0, 0, 0, 0, 0) :: (0, 1, 10, 0, 0, 0) :: (59, 0, 0, 0, 0, 0) :: (39, 0, 0, 2, 9, 2115) :: (2, 0, 0, 0, 0, 0) :: (0, 2, 10240, 0, 0, 0) :: (59, 0, 0, 0, 0, 0) :: (39, 1, 0, 2, 15, 2116) :: (57, 0, 0, 0, 0, 0) :: [] := by refine ⟨?_, ?_⟩ <;> rfl
theorem cdS_64 : (mz_cd 64).drop 0 = bl_64_0 ∧ bl_64_0 = (2, 0, 0, 0, 0, 0) :: (37, 6, 0, 3, 30, 2073) :: (2, 0, 0, 0, 0, 0) :: (36, 11, 0, 3, 67, 2081) :: (2, 0, 0, 0, 0, 0) :: (37, 0, 0, 3, 11, 2067) :: (1, 2, 0, 0, 0, 0) :: (52, 23, 8, 2, 70, 19) :: (52, 31, 8, 3, 98, 18) :: (2, 0, 0, 0, 0, 0) :: (37, 7, 0, 3, 33, 2075) :: (2, 0, 0, 0, 0, 0) :: (36, 11, 0, 3, 67, 2081) :: (2, 0, 0, 0, 0, 0) :: (37, 2, 0, 3, 18, 2069) :: (1, 3, 0, 0, 0, 0) :: (52, 23, 8, 2, 70, 19) :: (52, 31, 8, 3, 98, 18) :: (2, 0, 0, 0, 0, 0) :: (37, 8, 0, 3, 36, 2077) :: (2, 0, 0, 0, 0, 0) :: (36, 11, 0, 3, 67, 2081) :: (2, 0, 0, 0, 0, 0) :: (37, 4, 0, 3, 24, 2071) :: (1, 1, 0, 0, 0, 0) :: (1, 2, 0, 0, 0, 0) :: (1, 3, 0, 0, 0, 0) :: (49, 14, 3, 3, 128, 4082) :: (52, 23, 8, 2, 70, 19) :: (52, 31, 8, 3, 98, 18) :: (2, 0, 0, 0, 0, 0) :: (18, 0, 0, 0, 0, 0) :: (36, 11, 0, 3, 67, 2081) :: (0, 0, 1, 0, 0, 0) :: (6, 0, 0, 0, 0, 0) :: (38, 11, 0, 3, 67, 2081) :: (57, 0, 0, 0, 0, 0) :: [] := by refine ⟨?_, ?_⟩ <;> rfl
theorem cdS_65 : (mz_cd 65).drop 0 = bl_65_0 ∧ (mz_cd 65).drop 10 = bl_65_10 ∧ (mz_cd 65).drop 32 = bl_65_32 ∧ (mz_cd 65).drop 34 = bl_65_34 ∧ (mz_cd 65).drop 35 = bl_65_35 ∧ (mz_cd 65).drop 44 = bl_65_44 ∧ (mz_cd 65).drop 46 = bl_65_46 ∧ bl_65_0 = (0, 0, 0, 0, 0, 0) :: (3, 4, 0, 0, 1, 0) :: (2, 3, 0, 0, 0, 0) :: (37, 1, 0, 6, 81, 2040) :: (4, 5, 0, 0, 1, 0) :: (2, 5, 0, 0, 1, 0) :: (48, 0, 0, 0, 0, 0) :: (3, 6, 0, 0, 1, 0) :: (0, 0, 0, 0, 0, 0) :: (3, 7, 0, 0, 1, 0) :: bl_65_10 ∧ bl_65_10 = (1, 7, 0, 0, 1, 0) :: (1, 6, 0, 0, 1, 0) :: (23, 46, 79, 0, 0, 0) :: (2, 5, 0, 0, 1, 0) :: (1, 7, 0, 0, 1, 0) :: (46, 0, 0, 0, 0, 0) :: (4, 8, 0, 0, 1, 0) :: (2, 8, 0, 0, 1, 0) :: (36, 4, 0, 0, 105, 1233) :: (2, 1, 0, 0, 0, 0) :: (36, 4, 0, 0, 105, 1233) :: (22, 32, 27, 0, 0, 0) :: (2, 8, 0, 0, 1, 0) :: (36, 4, 0, 0, 105, 1233) :: (2, 1, 0, 0, 0, 0) :: (36, 4, 0, 0, 105, 1233) :: (21, 34, 19, 0, 0, 0) :: (2, 8, 0, 0, 1, 0) :: (36, 0, 0, 0, 85, 1219) :: (2, 1, 0, 0, 0, 0) :: (36, 0, 0, 0, 85, 1219) :: (23, 34, 7, 0, 0, 0) :: bl_65_32 ∧ bl_65_32 = (0, 0, 1, 0, 0, 0) :: (32, 35, 4, 0, 0, 0) :: bl_65_34 ∧ bl_65_34 = (0, 0, 0, 0, 0, 0) :: bl_65_35 ∧ bl_65_35 = (3, 9, 0, 0, 1, 0) :: (1, 2, 0, 0, 0, 0) :: (2, 8, 0, 0, 1, 0) :: (36, 0, 0, 0, 85, 1219) :: (52, 24, 8, 2, 90, 17) :: (26, 44, 11, 0, 0, 0) :: (1, 9, 0, 0, 1, 0) :: (26, 44, 6, 0, 0, 0) :: (5, 4, 1, 0, 0, 0) :: bl_65_44 ∧ bl_65_44 = (5, 7, 1, 0, 0, 0) :: (32, 10, (-80), 0, 0, 0) :: bl_65_46 ∧ bl_65_46 = (1, 4, 0, 0, 1, 0) :: (55, 0, 0, 0, 0, 0) :: [] := by refine ⟨?_, ?_, ?_, ?_, ?_, ?_, ?_, ?_, ?_, ?_, ?_, ?_, ?_, ?_⟩ <;> rfl
theorem cdS_66 : (mz_cd 66).drop 0 = bl_66_0 ∧ bl_66_0 = (2, 0, 0, 0, 0, 0) :: (63, 0, 0, 0, 3, 2066) :: (2, 0, 0, 0, 0, 0) :: (0, 1, 6, 0, 0, 0) :: (59, 0, 0, 0, 0, 0) :: (39, 0, 0, 3, 11, 2067) :: (2, 0, 0, 0, 0, 0) :: (0, 1, 6, 0, 0, 0) :: (59, 0, 0, 0, 0, 0) :: (39, 1, 0, 3, 15, 2068) :: (2, 0, 0, 0, 0, 0) :: (0, 0, 2, 0, 0, 0) :: (59, 0, 0, 0, 0, 0) :: (39, 2, 0, 3, 18, 2069) :: (2, 0, 0, 0, 0, 0) :: (0, 0, 2, 0, 0, 0) :: (59, 0, 0, 0, 0, 0) :: (39, 3, 0, 3, 21, 2070) :: (2, 0, 0, 0, 0, 0) :: (0, 1, 24, 0, 0, 0) :: (59, 0, 0, 0, 0, 0) :: (39, 4, 0, 3, 24, 2071) :: (2, 0, 0, 0, 0, 0) :: (0, 2, 896, 0, 0, 0) :: (59, 0, 0, 0, 0, 0) :: (39, 5, 0, 3, 27, 2072) :: (2, 0, 0, 0, 0, 0) :: (0, 1, 6, 0, 0, 0) :: (59, 0, 0, 0, 0, 0) :: (39, 6, 0, 3, 30, 2073) :: (2, 0, 0, 0, 0, 0) :: (0, 1, 6, 0, 0, 0) :: (59, 0, 0, 0, 0, 0) :: (39, 7, 0, 3, 33, 2075) :: (2, 0, 0, 0, 0, 0) :: (0, 1, 6, 0, 0, 0) :: (59, 0, 0, 0, 0, 0) :: (39, 8, 0, 3, 36, 2077) :: (57, 0, 0, 0, 0, 0) :: [] := by refine ⟨?_, ?_⟩ <;> rfl
theorem cdS_67 : (mz_cd 67).drop 0 = bl_67_0 ∧ (mz_cd 67).drop 4 = bl_67_4 ∧ (mz_cd 67).drop 17 = bl_67_17 ∧ bl_67_0 = (0, 0, 0, 0, 0, 0) :: (3, 1, 0, 0, 0, 0) :: (0, 0, 0, 0, 0, 0) :: (3, 2, 0, 0, 0, 0) :: bl_67_4 ∧ bl_67_4 = (1, 2, 0, 0, 0, 0) :: (2, 0, 0, 0, 0, 0) :: (36, 11, 0, 3, 67, 2081) :: (23, 17, 20, 0, 0, 0) :: (1, 1, 0, 0, 0, 0) :: (2, 0, 0, 0, 0, 0) :: (37, 8, 0, 3, 36, 2077) :: (1, 2, 0, 0, 0, 0) :: (52, 23, 8, 2, 70, 19) :: (6, 0, 0, 0, 0, 0) :: (3, 1, 0, 0, 0, 0) :: (5, 2, 1, 0, 0, 0) :: (32, 4, (-22), 0, 0, 0) :: bl_67_17 ∧ bl_67_17 = (1, 1, 0, 0, 0, 0) :: (55, 0, 0, 0, 0, 0) :: [] := by refine ⟨?_, ?_, ?_, ?_, ?_, ?_⟩ <;> rfl
theorem cdS_68 : (mz_cd 68).drop 0 = bl_68_0 ∧ (mz_cd 68).drop 4 = bl_68_4 ∧ (mz_cd 68).drop 8 = bl_68_8 ∧ (mz_cd 68).drop 30 = bl_68_30 ∧ (mz_cd 68).drop 32 = bl_68_32 ∧ (mz_cd 68).drop 38 = bl_68_38 ∧ (mz_cd 68).drop 39 = bl_68_39 ∧ bl_68_0 = (1, 5, 0, 0, 1, 0) :: (27, 4, 7, 0, 0, 0) :: (1, 2, 0, 0, 0, 0) :: (32, 8, 9, 0, 0, 0) :: bl_68_4 ∧ bl_68_4 = (1, 1, 0, 0, 0, 0) :: (49, 3, 99, 1, 132, 4089) :: (1, 2, 0, 0, 0, 0) :: (7, 0, 0, 0, 0, 0) :: bl_68_8 ∧ bl_68_8 = (3, 6, 0, 0, 1, 0) :: (2, 0, 0, 0, 0, 0) :: (37, 4, 0, 3, 24, 2071) :: (1, 3, 0, 0, 0, 0) :: (1, 4, 0, 0, 1, 0) :: (1, 5, 0, 0, 1, 0) :: (49, 14, 3, 3, 128, 4082) :: (52, 23, 8, 2, 70, 19) :: (3, 7, 0, 0, 1, 0) :: (1, 1, 0, 0, 0, 0) :: (1, 4, 0, 0, 1, 0) :: (52, 24, 8, 2, 90, 17) :: (27, 30, 24, 0, 0, 0) :: (1, 6, 0, 0, 1, 0) :: (2, 0, 0, 0, 0, 0) :: (37, 3, 0, 3, 21, 2070) :: (1, 5, 0, 0, 1, 0) :: (52, 23, 8, 2, 70, 19) :: (23, 30, 10, 0, 0, 0) :: (1, 7, 0, 0, 1, 0) :: (0, 3, 1000000, 0, 152, 4101) :: (22, 32, 5, 0, 0, 0) :: bl_68_30 ∧ bl_68_30 = (0, 0, 0, 0, 0, 0) :: (55, 0, 0, 0, 0, 0) :: bl_68_32 ∧ bl_68_32 = (1, 5, 0, 0, 1, 0) :: (27, 38, 9, 0, 0, 0) :: (1, 2, 0, 0, 0, 0) :: (0, 0, 1, 0, 0, 0) :: (6, 0, 0, 0, 0, 0) :: (32, 39, 4, 0, 0, 0) :: bl_68_38 ∧ bl_68_38 = (1, 2, 0, 0, 0, 0) :: bl_68_39 ∧ bl_68_39 = (3, 8, 0, 0, 1, 0) :: (0, 3, 100000, 0, 153, 4102) :: (1, 7, 0, 0, 1, 0) :: (7, 0, 0, 0, 0, 0) :: (2, 0, 0, 0, 0, 0) :: (37, 5, 0, 3, 27, 2072) :: (1, 1, 0, 0, 0, 0) :: (0, 0, 1, 0, 0, 0) :: (1, 4, 0, 0, 1, 0) :: (14, 0, 0, 0, 0, 0) :: (12, 0, 0, 0, 0, 0) :: (1, 8, 0, 0, 1, 0) :: (1, 5, 0, 0, 1, 0) :: (49, 13, 3, 3, 137, 4090) :: (52, 23, 8, 2, 70, 19) :: (6, 0, 0, 0, 0, 0) :: (55, 0, 0, 0, 0, 0) :: [] := by refine ⟨?_, ?_, ?_, ?_, ?_, ?_, ?_, ?_, ?_, ?_, ?_, ?_, ?_, ?_⟩ <;> rfl
theorem cdS_69 : (mz_cd 69).drop 0 = bl_69_0 ∧ bl_69_0 = (1, 3, 0, 0, 0, 0) :: (2, 0, 0, 0, 0, 0) :: (37, 6, 0, 4, 21, 1118) :: (1, 1, 0, 0, 0, 0) :: (0, 1, 10, 0, 0, 0) :: (8, 0, 0, 0, 0, 0) :: (1, 2, 0, 0, 0, 0) :: (6, 0, 0, 0, 0, 0) :: (52, 23, 8, 2, 66, 4) :: (76, 0, 0, 0, 82, 3054) :: (3, 4, 0, 0, 1, 0) :: (2, 0, 0, 0, 0, 0) :: (37, 6, 0, 4, 21, 1118) :: (1, 1, 0, 0, 0, 0) :: (0, 1, 10, 0, 0, 0) :: (8, 0, 0, 0, 0, 0) :: (1, 2, 0, 0, 0, 0) :: (6, 0, 0, 0, 0, 0) :: (1, 4, 0, 0, 1, 0) :: (52, 31, 8, 3, 78, 3) :: (2, 0, 0, 0, 0, 0) :: (37, 6, 0, 4, 21, 1118) :: (1, 2, 0, 0, 0, 0) :: (0, 1, 10, 0, 0, 0) :: (8, 0, 0, 0, 0, 0) :: (1, 1, 0, 0, 0, 0) :: (6, 0, 0, 0, 0, 0) :: (1, 4, 0, 0, 1, 0) :: (52, 31, 8, 3, 78, 3) :: (57, 0, 0, 0, 0, 0) :: [] := by refine ⟨?_, ?_⟩ <;> rfl
theorem cdS_70 : (mz_cd 70).drop 0 = bl_70_0 ∧ (mz_cd 70).drop 7 = bl_70_7 ∧ (mz_cd 70).drop 8 = bl_70_8 ∧ bl_70_0 = (2, 0, 0, 0, 0, 0) :: (37, 5, 0, 4, 18, 1116) :: (1, 1, 0, 0, 0, 0) :: (52, 23, 8, 2, 66, 4) :: (31, 7, 7, 0, 0, 0) :: (0, 0, 1, 0, 0, 0) :: (32, 8, 4, 0, 0, 0) :: bl_70_7 ∧ bl_70_7 = (0, 0, 0, 0, 0, 0) :: bl_70_8 ∧ bl_70_8 = (55, 1, 0, 0, 0, 0) :: [] := by refine ⟨?_, ?_, ?_, ?_, ?_, ?_⟩ <;> rfl
theorem cdS_71 : (mz_cd 71).drop 0 = bl_71_0 ∧ bl_71_0 = (2, 0, 0, 0, 0, 0) :: (37, 7, 0, 4, 24, 1119) :: (1, 1, 0, 0, 0, 0) :: (0, 1, 10, 0, 0, 0) :: (8, 0, 0, 0, 0, 0) :: (1, 2, 0, 0, 0, 0) :: (6, 0, 0, 0, 0, 0) :: (52, 23, 8, 2, 66, 4) :: (55, 0, 0, 0, 0, 0) :: [] := by refine ⟨?_, ?_⟩ <;> rfl
theorem cdS_72 : (mz_cd 72).drop 0 = bl_72_0 ∧ (mz_cd 72).drop 14 = bl_72_14 ∧ (mz_cd 72).drop 15 = bl_72_15 ∧ bl_72_0 = (2, 0, 0, 0, 0, 0) :: (2, 0, 0, 0, 0, 0) :: (37, 3, 0, 4, 9, 1109) :: (1, 1, 0, 0, 0, 0) :: (52, 23, 8, 2, 66, 4) :: (50, 16, 4, 2, 70, 3183) :: (4, 2, 0, 0, 0, 0) :: (2, 2, 0, 0, 0, 0) :: (34, 14, 12, 0, 0, 0) :: (2, 0, 0, 0, 0, 0) :: (37, 8, 0, 4, 29, 1120) :: (0, 0, 0, 0, 0, 0) :: (46, 0, 0, 0, 0, 0) :: (32, 15, 4, 0, 0, 0) :: bl_72_14 ∧ bl_72_14 = (2, 2, 0, 0, 0, 0) :: bl_72_15 ∧ bl_72_15 = (56, 0, 0, 0, 0, 0) :: [] := by refine ⟨?_, ?_, ?_, ?_, ?_, ?_⟩ <;> rfl
theorem cdS_73 : (mz_cd 73).drop 0 = bl_73_0 ∧ bl_73_0 = (2, 0, 0, 0, 0, 0) :: (37, 1, 0, 5, 18, 1142) :: (2, 0, 0, 0, 0, 0) :: (36, 2, 0, 5, 22, 1143) :: (1, 1, 0, 0, 0, 0) :: (52, 31, 8, 3, 26, 8) :: (2, 0, 0, 0, 0, 0) :: (18, 0, 0, 0, 0, 0) :: (36, 2, 0, 5, 22, 1143) :: (0, 0, 1, 0, 0, 0) :: (6, 0, 0, 0, 0, 0) :: (38, 2, 0, 5, 22, 1143) :: (2, 0, 0, 0, 0, 0) :: (36, 2, 0, 5, 22, 1143) :: (55, 0, 0, 0, 0, 0) :: [] := by refine ⟨?_, ?_⟩ <;> rfl
theorem cdS_74 : (mz_cd 74).drop 0 = bl_74_0 ∧ (mz_cd 74).drop 11 = bl_74_11 ∧ (mz_cd 74).drop 16 = bl_74_16 ∧ bl_74_0 = (2, 0, 0, 0, 0, 0) :: (50, 20, 5, 1, 75, 2193) :: (0, 1, 59, 0, 0, 0) :: (21, 11, 16, 0, 0, 0) :: (2, 0, 0, 0, 0, 0) :: (18, 0, 0, 0, 0, 0) :: (36, 3, 0, 5, 33, 1144) :: (0, 0, 1, 0, 0, 0) :: (6, 0, 0, 0, 0, 0) :: (38, 3, 0, 5, 33, 1144) :: (32, 16, 12, 0, 0, 0) :: bl_74_11 ∧ bl_74_11 = (2, 0, 0, 0, 0, 0) :: (0, 0, 1, 0, 0, 0) :: (2, 0, 0, 0, 0, 0) :: (36, 3, 0, 5, 33, 1144) :: (50, 17, 5, 3, 64, 3021) :: bl_74_16 ∧ bl_74_16 = (57, 0, 0, 0, 0, 0) :: [] := by refine ⟨?_, ?_, ?_, ?_, ?_, ?_⟩ <;> rfl
theorem cdS_75 : (mz_cd 75).drop 0 = bl_75_0 ∧ (mz_cd 75).drop 16 = bl_75_16 ∧ bl_75_0 = (2, 0, 0, 0, 0, 0) :: (36, 3, 0, 5, 33, 1144) :: (2, 0, 0, 0, 0, 0) :: (36, 2, 0, 5, 22, 1143) :: (23, 16, 25, 0, 0, 0) :: (2, 0, 0, 0, 0, 0) :: (50, 20, 5, 1, 75, 2193) :: (0, 1, 32, 0, 0, 0) :: (21, 16, 16, 0, 0, 0) :: (2, 0, 0, 0, 0, 0) :: (18, 0, 0, 0, 0, 0) :: (36, 3, 0, 5, 33, 1144) :: (0, 0, 1, 0, 0, 0) :: (6, 0, 0, 0, 0, 0) :: (38, 3, 0, 5, 33, 1144) :: (32, 0, (-30), 0, 0, 0) :: bl_75_16 ∧ bl_75_16 = (57, 0, 0, 0, 0, 0) :: [] := by refine ⟨?_, ?_, ?_, ?_⟩ <;> rfl
theorem cdS_76 : (mz_cd 76).drop 0 = bl_76_0 ∧ (mz_cd 76).drop 10 = bl_76_10 ∧ (mz_cd 76).drop 33 = bl_76_33 ∧ (mz_cd 76).drop 35 = bl_76_35 ∧ bl_76_0 = (0, 0, 0, 0, 0, 0) :: (3, 3, 0, 0, 0, 0) :: (2, 0, 0, 0, 0, 0) :: (37, 1, 0, 6, 20, 2039) :: (4, 4, 0, 0, 1, 0) :: (2, 4, 0, 0, 1, 0) :: (48, 0, 0, 0, 0, 0) :: (3, 5, 0, 0, 1, 0) :: (0, 0, 0, 0, 0, 0) :: (3, 6, 0, 0, 1, 0) :: bl_76_10 ∧ bl_76_10 = (1, 6, 0, 0, 1, 0) :: (1, 5, 0, 0, 1, 0) :: (23, 35, 45, 0, 0, 0) :: (2, 4, 0, 0, 1, 0) :: (1, 6, 0, 0, 1, 0) :: (46, 0, 0, 0, 0, 0) :: (4, 7, 0, 0, 1, 0) :: (2, 7, 0, 0, 1, 0) :: (1, 1, 0, 0, 0, 0) :: (0, 0, 1, 0, 0, 0) :: (50, 9, 0, 3, 91, 3220) :: (26, 33, 22, 0, 0, 0) :: (2, 7, 0, 0, 1, 0) :: (36, 3, 0, 0, 101, 1231) :: (1, 2, 0, 0, 0, 0) :: (24, 33, 13, 0, 0, 0) :: (1, 3, 0, 0, 0, 0) :: (0, 0, 1, 0, 0, 0) :: (2, 7, 0, 0, 1, 0) :: (36, 0, 0, 0, 60, 1220) :: (14, 0, 0, 0, 0, 0) :: (12, 0, 0, 0, 0, 0) :: (3, 3, 0, 0, 0, 0) :: bl_76_33 ∧ bl_76_33 = (5, 6, 1, 0, 0, 0) :: (32, 10, (-46), 0, 0, 0) :: bl_76_35 ∧ bl_76_35 = (1, 3, 0, 0, 0, 0) :: (55, 0, 0, 0, 0, 0) :: [] := by refine ⟨?_, ?_, ?_, ?_, ?_, ?_, ?_, ?_⟩ <;> rfl
theorem cdS_77 : (mz_cd 77).drop 0 = bl_77_0 ∧ (mz_cd 77).drop 10 = bl_77_10 ∧ (mz_cd 77).drop 29 = bl_77_29 ∧ (mz_cd 77).drop 31 = bl_77_31 ∧ bl_77_0 = (0, 0, 0, 0, 0, 0) :: (3, 1, 0, 0, 0, 0) :: (2, 0, 0, 0, 0, 0) :: (37, 1, 0, 6, 20, 2039) :: (4, 2, 0, 0, 0, 0) :: (2, 2, 0, 0, 0, 0) :: (48, 0, 0, 0, 0, 0) :: (3, 3, 0, 0, 0, 0) :: (0, 0, 0, 0, 0, 0) :: (3, 4, 0, 0, 1, 0) :: bl_77_10 ∧ bl_77_10 = (1, 4, 0, 0, 1, 0) :: (1, 3, 0, 0, 0, 0) :: (23, 31, 37, 0, 0, 0) :: (2, 2, 0, 0, 0, 0) :: (1, 4, 0, 0, 1, 0) :: (46, 0, 0, 0, 0, 0) :: (4, 5, 0, 0, 1, 0) :: (2, 5, 0, 0, 1, 0) :: (2, 0, 0, 0, 0, 0) :: (36, 3, 0, 6, 48, 2043) :: (50, 5, 0, 2, 189, 4055) :: (26, 29, 13, 0, 0, 0) :: (1, 1, 0, 0, 0, 0) :: (0, 0, 1, 0, 0, 0) :: (2, 5, 0, 0, 1, 0) :: (36, 0, 0, 0, 60, 1220) :: (14, 0, 0, 0, 0, 0) :: (12, 0, 0, 0, 0, 0) :: (3, 1, 0, 0, 0, 0) :: bl_77_29 ∧ bl_77_29 = (5, 4, 1, 0, 0, 0) :: (32, 10, (-37), 0, 0, 0) :: bl_77_31 ∧ bl_77_31 = (1, 1, 0, 0, 0, 0) :: (55, 0, 0, 0, 0, 0) :: [] := by refine ⟨?_, ?_, ?_, ?_, ?_, ?_, ?_, ?_⟩ <;> rfl
theorem cdS_78 : (mz_cd 78).drop 0 = bl_78_0 ∧ (mz_cd 78).drop 14 = bl_78_14 ∧ (mz_cd 78).drop 27 = bl_78_27 ∧ (mz_cd 78).drop 29 = bl_78_29 ∧ bl_78_0 = (2, 0, 0, 0, 0, 0) :: (37, 0, 0, 6, 12, 2035) :: (37, 5, 0, 4, 88, 1117) :: (1, 1, 0, 0, 0, 0) :: (52, 23, 8, 2, 75, 13) :: (3, 2, 0, 0, 0, 0) :: (2, 0, 0, 0, 0, 0) :: (37, 1, 0, 6, 20, 2039) :: (4, 3, 0, 0, 0, 0) :: (2, 3, 0, 0, 0, 0) :: (48, 0, 0, 0, 0, 0) :: (3, 4, 0, 0, 1, 0) :: (0, 0, 0, 0, 0, 0) :: (3, 5, 0, 0, 1, 0) :: bl_78_14 ∧ bl_78_14 = (1, 5, 0, 0, 1, 0) :: (1, 4, 0, 0, 1, 0) :: (23, 29, 28, 0, 0, 0) :: (2, 3, 0, 0, 0, 0) :: (1, 5, 0, 0, 1, 0) :: (46, 0, 0, 0, 0, 0) :: (4, 6, 0, 0, 1, 0) :: (2, 6, 0, 0, 1, 0) :: (1, 1, 0, 0, 0, 0) :: (0, 0, 3, 0, 0, 0) :: (50, 9, 0, 3, 91, 3220) :: (26, 27, 6, 0, 0, 0) :: (5, 2, (-1), 0, 0, 0) :: bl_78_27 ∧ bl_78_27 = (5, 5, 1, 0, 0, 0) :: (32, 14, (-29), 0, 0, 0) :: bl_78_29 ∧ bl_78_29 = (1, 2, 0, 0, 0, 0) :: (55, 0, 0, 0, 0, 0) :: [] := by refine ⟨?_, ?_, ?_, ?_, ?_, ?_, ?_, ?_⟩ <;> rfl
theorem cdS_79 : (mz_cd 79).drop 0 = bl_79_0 ∧ (mz_cd 79).drop 10 = bl_79_10 ∧ (mz_cd 79).drop 33 = bl_79_33 ∧ (mz_cd 79).drop 35 = bl_79_35 ∧ bl_79_0 = (1, 1, 0, 0, 0, 0) :: (0, 2, 1440, 0, 0, 0) :: (10, 0, 0, 0, 0, 0) :: (3, 2, 0, 0, 0, 0) :: (0, 0, 0, 0, 0, 0) :: (3, 3, 0, 0, 0, 0) :: (0, 0, 0, 0, 0, 0) :: (3, 4, 0, 0, 1, 0) :: (0, 0, 0, 0, 0, 0) :: (3, 5, 0, 0, 1, 0) :: bl_79_10 ∧ bl_79_10 = (1, 5, 0, 0, 1, 0) :: (2, 0, 0, 0, 0, 0) :: (37, 0, 0, 7, 9, 1052) :: (48, 0, 0, 0, 0, 0) :: (23, 35, 43, 0, 0, 0) :: (2, 0, 0, 0, 0, 0) :: (37, 0, 0, 7, 9, 1052) :: (1, 5, 0, 0, 1, 0) :: (40, 0, 0, 0, 0, 0) :: (31, 33, 27, 0, 0, 0) :: (5, 3, 60, 0, 0, 0) :: (1, 4, 0, 0, 1, 0) :: (0, 0, 0, 0, 0, 0) :: (0, 1, 60, 0, 0, 0) :: (1, 2, 0, 0, 0, 0) :: (1, 5, 0, 0, 1, 0) :: (0, 1, 60, 0, 0, 0) :: (8, 0, 0, 0, 0, 0) :: (7, 0, 0, 0, 0, 0) :: (76, 0, 0, 0, 51, 3210) :: (75, 0, 0, 0, 56, 3211) :: (6, 0, 0, 0, 0, 0) :: (3, 4, 0, 0, 1, 0) :: bl_79_33 ∧ bl_79_33 = (5, 5, 1, 0, 0, 0) :: (32, 10, (-47), 0, 0, 0) :: bl_79_35 ∧ bl_79_35 = (1, 1, 0, 0, 0, 0) :: (0, 2, 1440, 0, 0, 0) :: (9, 0, 0, 0, 0, 0) :: (1, 3, 0, 0, 0, 0) :: (8, 0, 0, 0, 0, 0) :: (1, 4, 0, 0, 1, 0) :: (6, 0, 0, 0, 0, 0) :: (55, 0, 0, 0, 0, 0) :: [] := by refine ⟨?_, ?_, ?_, ?_, ?_, ?_, ?_, ?_⟩ <;> rfl
theorem cdS_80 : (mz_cd 80).drop 0 = bl_80_0 ∧ bl_80_0 = (2, 0, 0, 0, 0, 0) :: (37, 0, 0, 7, 9, 1052) :: (0, 0, 0, 0, 0, 0) :: (49, 4, 99, 2, 19, 1076) :: (2, 0, 0, 0, 0, 0) :: (0, 1, 120, 0, 0, 0) :: (38, 1, 0, 7, 15, 1054) :: (57, 0, 0, 0, 0, 0) :: [] := by refine ⟨?_, ?_⟩ <;> rfl
theorem cdS_81 : (mz_cd 81).drop 0 = bl_81_0 ∧ bl_81_0 = (2, 0, 0, 0, 0, 0) :: (63, 0, 0, 0, 3, 1051) :: (2, 0, 0, 0, 0, 0) :: (0, 1, 24, 0, 0, 0) :: (59, 0, 0, 0, 0, 0) :: (39, 0, 0, 7, 9, 1052) :: (2, 0, 0, 0, 0, 0) :: (0, 1, 120, 0, 0, 0) :: (38, 1, 0, 7, 15, 1054) :: (57, 0, 0, 0, 0, 0) :: [] := by refine ⟨?_, ?_⟩ <;> rfl
theorem cdS_82 : (mz_cd 82).drop 0 = bl_82_0 ∧ bl_82_0 = (2, 0, 0, 0, 0, 0) :: (37, 0, 0, 7, 9, 1052) :: (1, 1, 0, 0, 0, 0) :: (0, 1, 60, 0, 0, 0) :: (9, 0, 0, 0, 0, 0) :: (0, 1, 24, 0, 0, 0) :: (10, 0, 0, 0, 0, 0) :: (52, 23, 8, 2, 33, 15) :: (55, 0, 0, 0, 0, 0) :: [] := by refine ⟨?_, ?_⟩ <;> rfl
theorem cdS_83 : (mz_cd 83).drop 0 = bl_83_0 ∧ (mz_cd 83).drop 2 = bl_83_2 ∧ (mz_cd 83).drop 12 = bl_83_12 ∧ bl_83_0 = (1, 1, 0, 0, 0, 0) :: (3, 4, 0, 0, 1, 0) :: bl_83_2 ∧ bl_83_2 = (1, 4, 0, 0, 1, 0) :: (1, 2, 0, 0, 0, 0) :: (23, 12, 19, 0, 0, 0) :: (2, 0, 0, 0, 0, 0) :: (37, 0, 0, 7, 9, 1052) :: (1, 4, 0, 0, 1, 0) :: (1, 3, 0, 0, 0, 0) :: (52, 31, 8, 3, 29, 11) :: (5, 4, 1, 0, 0, 0) :: (32, 2, (-19), 0, 0, 0) :: bl_83_12 ∧ bl_83_12 = (57, 0, 0, 0, 0, 0) :: [] := by refine ⟨?_, ?_, ?_, ?_, ?_, ?_⟩ <;> rfl
theorem cdS_84 : (mz_cd 84).drop 0 = bl_84_0 ∧ (mz_cd 84).drop 9 = bl_84_9 ∧ (mz_cd 84).drop 16 = bl_84_16 ∧ (mz_cd 84).drop 17 = bl_84_17 ∧ bl_84_0 = (2, 0, 0, 0, 0, 0) :: (37, 1, 0, 8, 19, 2138) :: (1, 1, 0, 0, 0, 0) :: (50, 22, 6, 2, 91, 3120) :: (4, 2, 0, 0, 0, 0) :: (2, 2, 0, 0, 0, 0) :: (34, 9, 5, 0, 0, 0) :: (0, 0, (-1), 0, 0, 0) :: (55, 0, 0, 0, 0, 0) :: bl_84_9 ∧ bl_84_9 = (2, 2, 0, 0, 0, 0) :: (36, 1, 0, 0, 99, 1223) :: (0, 0, 2, 0, 0, 0) :: (21, 16, 10, 0, 0, 0) :: (2, 2, 0, 0, 0, 0) :: (36, 4, 0, 0, 257, 1235) :: (32, 17, 5, 0, 0, 0) :: bl_84_16 ∧ bl_84_16 = (0, 1, (-2), 0, 0, 0) :: bl_84_17 ∧ bl_84_17 = (55, 0, 0, 0, 0, 0) :: [] := by refine ⟨?_, ?_, ?_, ?_, ?_, ?_, ?_, ?_⟩ <;> rfl
theorem cdS_85 : (mz_cd 85).drop 0 = bl_85_0 ∧ bl_85_0 = (2, 0, 0, 0, 0, 0) :: (0, 0, 0, 0, 0, 0) :: (2, 1, 0, 0, 0, 0) :: (0, 0, 0, 0, 0, 0) :: (2, 0, 0, 0, 0, 0) :: (48, 0, 0, 0, 0, 0) :: (2, 1, 0, 0, 0, 0) :: (48, 0, 0, 0, 0, 0) :: (76, 0, 0, 0, 339, 1084) :: (64, 0, 0, 0, 342, 1087) :: (57, 0, 0, 0, 0, 0) :: [] := by refine ⟨?_, ?_⟩ <;> rfl
theorem cdS_86 : (mz_cd 86).drop 0 = bl_86_0 ∧ (mz_cd 86).drop 9 = bl_86_9 ∧ (mz_cd 86).drop 11 = bl_86_11 ∧ bl_86_0 = (2, 0, 0, 0, 0, 0) :: (37, 1, 0, 8, 19, 2138) :: (1, 1, 0, 0, 0, 0) :: (50, 22, 6, 2, 91, 3120) :: (4, 2, 0, 0, 0, 0) :: (2, 2, 0, 0, 0, 0) :: (34, 9, 7, 0, 0, 0) :: (0, 0, (-1), 0, 0, 0) :: (32, 11, 7, 0, 0, 0) :: bl_86_9 ∧ bl_86_9 = (2, 2, 0, 0, 0, 0) :: (36, 10, 0, 0, 251, 2011) :: bl_86_11 ∧ bl_86_11 = (55, 0, 0, 0, 0, 0) :: [] := by refine ⟨?_, ?_, ?_, ?_, ?_, ?_⟩ <;> rfl
theorem cdS_87 : (mz_cd 87).drop 0 = bl_87_0 ∧ (mz_cd 87).drop 9 = bl_87_9 ∧ (mz_cd 87).drop 11 = bl_87_11 ∧ bl_87_0 = (2, 0, 0, 0, 0, 0) :: (37, 1, 0, 8, 19, 2138) :: (1, 1, 0, 0, 0, 0) :: (50, 22, 6, 2, 91, 3120) :: (4, 2, 0, 0, 0, 0) :: (2, 2, 0, 0, 0, 0) :: (34, 9, 7, 0, 0, 0) :: (0, 0, (-1), 0, 0, 0) :: (32, 11, 7, 0, 0, 0) :: bl_87_9 ∧ bl_87_9 = (2, 2, 0, 0, 0, 0) :: (36, 9, 0, 0, 254, 2008) :: bl_87_11 ∧ bl_87_11 = (55, 0, 0, 0, 0, 0) :: [] := by refine ⟨?_, ?_, ?_, ?_, ?_, ?_⟩ <;> rfl
theorem cdS_88 : (mz_cd 88).drop 0 = bl_88_0 ∧ (mz_cd 88).drop 15 = bl_88_15 ∧ (mz_cd 88).drop 16 = bl_88_16 ∧ bl_88_0 = (2, 0, 0, 0, 0, 0) :: (37, 1, 0, 8, 19, 2138) :: (1, 1, 0, 0, 0, 0) :: (50, 22, 6, 2, 91, 3120) :: (4, 3, 0, 0, 0, 0) :: (2, 3, 0, 0, 0, 0) :: (33, 15, 19, 0, 0, 0) :: (1, 2, 0, 0, 0, 0) :: (28, 15, 15, 0, 0, 0) :: (1, 2, 0, 0, 0, 0) :: (2, 3, 0, 0, 0, 0) :: (36, 6, 0, 0, 248, 2001) :: (23, 15, 7, 0, 0, 0) :: (0, 0, 1, 0, 0, 0) :: (32, 16, 4, 0, 0, 0) :: bl_88_15 ∧ bl_88_15 = (0, 0, 0, 0, 0, 0) :: bl_88_16 ∧ bl_88_16 = (55, 1, 0, 0, 0, 0) :: [] := by refine ⟨?_, ?_, ?_, ?_, ?_, ?_⟩ <;> rfl
theorem cdS_89 : (mz_cd 89).drop 0 = bl_89_0 ∧ (mz_cd 89).drop 10 = bl_89_10 ∧ (mz_cd 89).drop 12 = bl_89_12 ∧ bl_89_0 = (2, 0, 0, 0, 0, 0) :: (37, 1, 0, 8, 19, 2138) :: (37, 0, 0, 6, 75, 2038) :: (1, 1, 0, 0, 0, 0) :: (50, 16, 4, 2, 185, 4125) :: (4, 2, 0, 0, 0, 0) :: (2, 2, 0, 0, 0, 0) :: (34, 10, 7, 0, 0, 0) :: (0, 0, (-1), 0, 0, 0) :: (32, 12, 7, 0, 0, 0) :: bl_89_10 ∧ bl_89_10 = (2, 2, 0, 0, 0, 0) :: (36, 1, 0, 7, 211, 1057) :: bl_89_12 ∧ bl_89_12 = (55, 0, 0, 0, 0, 0) :: [] := by refine ⟨?_, ?_, ?_, ?_, ?_, ?_⟩ <;> rfl
theorem cdS_90 : (mz_cd 90).drop 0 = bl_90_0 ∧ (mz_cd 90).drop 9 = bl_90_9 ∧ (mz_cd 90).drop 16 = bl_90_16 ∧ (mz_cd 90).drop 17 = bl_90_17 ∧ bl_90_0 = (2, 0, 0, 0, 0, 0) :: (37, 1, 0, 8, 19, 2138) :: (1, 1, 0, 0, 0, 0) :: (50, 22, 6, 2, 91, 3120) :: (4, 2, 0, 0, 0, 0) :: (2, 2, 0, 0, 0, 0) :: (34, 9, 5, 0, 0, 0) :: (0, 0, (-1), 0, 0, 0) :: (55, 0, 0, 0, 0, 0) :: bl_90_9 ∧ bl_90_9 = (2, 2, 0, 0, 0, 0) :: (36, 1, 0, 0, 99, 1223) :: (0, 0, 1, 0, 0, 0) :: (21, 16, 10, 0, 0, 0) :: (2, 2, 0, 0, 0, 0) :: (36, 3, 0, 0, 120, 1230) :: (32, 17, 5, 0, 0, 0) :: bl_90_16 ∧ bl_90_16 = (0, 1, (-2), 0, 0, 0) :: bl_90_17 ∧ bl_90_17 = (55, 0, 0, 0, 0, 0) :: [] := by refine ⟨?_, ?_, ?_, ?_, ?_, ?_, ?_, ?_⟩ <;> rfl
theorem cdS_91 : (mz_cd 91).drop 0 = bl_91_0 ∧ (mz_cd 91).drop 9 = bl_91_9 ∧ (mz_cd 91).drop 14 = bl_91_14 ∧ (mz_cd 91).drop 16 = bl_91_16 ∧ bl_91_0 = (2, 0, 0, 0, 0, 0) :: (37, 1, 0, 8, 19, 2138) :: (1, 1, 0, 0, 0, 0) :: (50, 22, 6, 2, 91, 3120) :: (4, 2, 0, 0, 0, 0) :: (2, 2, 0, 0, 0, 0) :: (34, 9, 5, 0, 0, 0) :: (0, 0, (-1), 0, 0, 0) :: (55, 0, 0, 0, 0, 0) :: bl_91_9 ∧ bl_91_9 = (2, 2, 0, 0, 0, 0) :: (36, 1, 0, 0, 99, 1223) :: (27, 14, 8, 0, 0, 0) :: (0, 1, (-2), 0, 0, 0) :: (32, 16, 7, 0, 0, 0) :: bl_91_14 ∧ bl_91_14 = (2, 2, 0, 0, 0, 0) :: (36, 2, 0, 0, 129, 1227) :: bl_91_16 ∧ bl_91_16 = (55, 0, 0, 0, 0, 0) :: [] := by refine ⟨?_, ?_, ?_, ?_, ?_, ?_, ?_, ?_⟩ <;> rfl
theorem cdS_92 : (mz_cd 92).drop 0 = bl_92_0 ∧ (mz_cd 92).drop 13 = bl_92_13 ∧ (mz_cd 92).drop 15 = bl_92_15 ∧ bl_92_0 = (2, 0, 0, 0, 0, 0) :: (37, 1, 0, 8, 19, 2138) :: (37, 0, 0, 6, 75, 2038) :: (1, 1, 0, 0, 0, 0) :: (50, 16, 4, 2, 185, 4125) :: (4, 3, 0, 0, 0, 0) :: (2, 3, 0, 0, 0, 0) :: (33, 13, 13, 0, 0, 0) :: (1, 2, 0, 0, 0, 0) :: (0, 0, 0, 0, 0, 0) :: (0, 1, 23, 0, 0, 0) :: (49, 33, 8, 3, 45, 2160) :: (27, 15, 5, 0, 0, 0) :: bl_92_13 ∧ bl_92_13 = (0, 0, (-1), 0, 0, 0) :: (55, 0, 0, 0, 0, 0) :: bl_92_15 ∧ bl_92_15 = (2, 3, 0, 0, 0, 0) :: (37, 0, 0, 7, 189, 1053) :: (1, 2, 0, 0, 0, 0) :: (49, 23, 8, 2, 166, 4116) :: (55, 0, 0, 0, 0, 0) :: [] := by refine ⟨?_, ?_, ?_, ?_, ?_, ?_⟩ <;> rfl
theorem cdS_93 : (mz_cd 93).drop 0 = bl_93_0 ∧ (mz_cd 93).drop 18 = bl_93_18 ∧ (mz_cd 93).drop 20 = bl_93_20 ∧ bl_93_0 = (2, 0, 0, 0, 0, 0) :: (37, 1, 0, 8, 19, 2138) :: (37, 0, 0, 6, 75, 2038) :: (1, 1, 0, 0, 0, 0) :: (50, 16, 4, 2, 185, 4125) :: (4, 4, 0, 0, 1, 0) :: (2, 4, 0, 0, 1, 0) :: (33, 18, 24, 0, 0, 0) :: (1, 2, 0, 0, 0, 0) :: (0, 0, 0, 0, 0, 0) :: (0, 1, 23, 0, 0, 0) :: (49, 33, 8, 3, 45, 2160) :: (26, 18, 14, 0, 0, 0) :: (1, 3, 0, 0, 0, 0) :: (0, 0, 0, 0, 0, 0) :: (0, 2, 999, 0, 0, 0) :: (49, 33, 8, 3, 45, 2160) :: (27, 20, 5, 0, 0, 0) :: bl_93_18 ∧ bl_93_18 = (0, 0, (-1), 0, 0, 0) :: (55, 0, 0, 0, 0, 0) :: bl_93_20 ∧ bl_93_20 = (2, 4, 0, 0, 1, 0) :: (37, 0, 0, 7, 189, 1053) :: (1, 2, 0, 0, 0, 0) :: (49, 23, 8, 2, 166, 4116) :: (3, 5, 0, 0, 1, 0) :: (2, 4, 0, 0, 1, 0) :: (37, 0, 0, 7, 189, 1053) :: (1, 2, 0, 0, 0, 0) :: (1, 3, 0, 0, 0, 0) :: (49, 31, 8, 3, 194, 4126) :: (1, 5, 0, 0, 1, 0) :: (55, 0, 0, 0, 0, 0) :: [] := by refine ⟨?_, ?_, ?_, ?_, ?_, ?_⟩ <;> rfl
theorem cdS_94 : (mz_cd 94).drop 0 = bl_94_0 ∧ (mz_cd 94).drop 9 = bl_94_9 ∧ (mz_cd 94).drop 11 = bl_94_11 ∧ bl_94_0 = (2, 0, 0, 0, 0, 0) :: (37, 1, 0, 8, 19, 2138) :: (1, 1, 0, 0, 0, 0) :: (50, 22, 6, 2, 91, 3120) :: (4, 2, 0, 0, 0, 0) :: (2, 2, 0, 0, 0, 0) :: (34, 9, 7, 0, 0, 0) :: (0, 0, (-1), 0, 0, 0) :: (32, 11, 7, 0, 0, 0) :: bl_94_9 ∧ bl_94_9 = (2, 2, 0, 0, 0, 0) :: (36, 1, 0, 0, 99, 1223) :: bl_94_11 ∧ bl_94_11 = (55, 0, 0, 0, 0, 0) :: [] := by refine ⟨?_, ?_, ?_, ?_, ?_, ?_⟩ <;> rfl
theorem cdS_95 : (mz_cd 95).drop 0 = bl_95_0 ∧ (mz_cd 95).drop 9 = bl_95_9 ∧ (mz_cd 95).drop 11 = bl_95_11 ∧ bl_95_0 = (2, 0, 0, 0, 0, 0) :: (37, 1, 0, 8, 19, 2138) :: (1, 1, 0, 0, 0, 0) :: (50, 22, 6, 2, 91, 3120) :: (4, 2, 0, 0, 0, 0) :: (2, 2, 0, 0, 0, 0) :: (34, 9, 7, 0, 0, 0) :: (0, 0, (-1), 0, 0, 0) :: (32, 11, 7, 0, 0, 0) :: bl_95_9 ∧ bl_95_9 = (2, 2, 0, 0, 0, 0) :: (36, 5, 0, 0, 226, 1238) :: bl_95_11 ∧ bl_95_11 = (55, 0, 0, 0, 0, 0) :: [] := by refine ⟨?_, ?_, ?_, ?_, ?_, ?_⟩ <;> rfl
theorem cdS_96 : (mz_cd 96).drop 0 = bl_96_0 ∧ (mz_cd 96).drop 13 = bl_96_13 ∧ (mz_cd 96).drop 14 = bl_96_14 ∧ bl_96_0 = (2, 0, 0, 0, 0, 0) :: (37, 1, 0, 8, 19, 2138) :: (37, 0, 0, 6, 75, 2038) :: (1, 1, 0, 0, 0, 0) :: (50, 15, 4, 2, 95, 3124) :: (26, 13, 20, 0, 0, 0) :: (2, 0, 0, 0, 0, 0) :: (37, 1, 0, 8, 19, 2138) :: (37, 0, 0, 6, 75, 2038) :: (37, 3, 0, 4, 208, 1112) :: (1, 1, 0, 0, 0, 0) :: (49, 23, 8, 2, 166, 4116) :: (32, 14, 4, 0, 0, 0) :: bl_96_13 ∧ bl_96_13 = (0, 0, (-1), 0, 0, 0) :: bl_96_14 ∧ bl_96_14 = (55, 0, 0, 0, 0, 0) :: [] := by refine ⟨?_, ?_, ?_, ?_, ?_, ?_⟩ <;> rfl
theorem cdS_97 : (mz_cd 97).drop 0 = bl_97_0 ∧ (mz_cd 97).drop 8 = bl_97_8 ∧ (mz_cd 97).drop 9 = bl_97_9 ∧ (mz_cd 97).drop 15 = bl_97_15 ∧ (mz_cd 97).drop 25 = bl_97_25 ∧ bl_97_0 = (2, 0, 0, 0, 0, 0) :: (1, 1, 0, 0, 0, 0) :: (0, 0, 0, 0, 0, 0) :: (0, 2, 1440, 0, 0, 0) :: (49, 40, 9, 3, 70, 6204) :: (26, 8, 7, 0, 0, 0) :: (0, 0, 0, 0, 0, 0) :: (32, 9, 4, 0, 0, 0) :: bl_97_8 ∧ bl_97_8 = (0, 0, 1, 0, 0, 0) :: bl_97_9 ∧ bl_97_9 = (38, 4, 0, 9, 59, 6118) :: (2, 0, 0, 0, 0, 0) :: (36, 4, 0, 9, 59, 6118) :: (31, 15, 5, 0, 0, 0) :: (0, 0, 0, 0, 0, 0) :: (55, 0, 0, 0, 0, 0) :: bl_97_15 ∧ bl_97_15 = (2, 0, 0, 0, 0, 0) :: (37, 0, 0, 9, 9, 6114) :: (0, 0, 2, 0, 0, 0) :: (40, 0, 0, 0, 0, 0) :: (1, 1, 0, 0, 0, 0) :: (6, 0, 0, 0, 0, 0) :: (0, 2, 10079, 0, 0, 0) :: (25, 25, 6, 0, 0, 0) :: (0, 1, (-4), 0, 0, 0) :: (55, 0, 0, 0, 0, 0) :: bl_97_25 ∧ bl_97_25 = (2, 0, 0, 0, 0, 0) :: (37, 0, 0, 9, 9, 6114) :: (0, 0, 2, 0, 0, 0) :: (69, 0, 0, 0, 0, 0) :: (40, 0, 0, 0, 0, 0) :: (1, 1, 0, 0, 0, 0) :: (6, 0, 0, 0, 0, 0) :: (41, 0, 0, 0, 0, 0) :: (2, 0, 0, 0, 0, 0) :: (37, 0, 0, 9, 9, 6114) :: (0, 0, 2, 0, 0, 0) :: (40, 0, 0, 0, 0, 0) :: (55, 0, 0, 0, 0, 0) :: [] := by refine ⟨?_, ?_, ?_, ?_, ?_, ?_, ?_, ?_, ?_, ?_⟩ <;> rfl
theorem cdS_98 : (mz_cd 98).drop 0 = bl_98_0 ∧ (mz_cd 98).drop 12 = bl_98_12 ∧ (mz_cd 98).drop 14 = bl_98_14 ∧ bl_98_0 = (2, 0, 0, 0, 0, 0) :: (0, 0, 0, 0, 0, 0) :: (38, 4, 0, 9, 59, 6118) :: (1, 1, 0, 0, 0, 0) :: (0, 0, 0, 0, 0, 0) :: (0, 2, 255, 0, 0, 0) :: (49, 40, 9, 3, 70, 6204) :: (26, 12, 13, 0, 0, 0) :: (2, 0, 0, 0, 0, 0) :: (36, 6, 0, 9, 74, 6120) :: (0, 2, 600, 0, 0, 0) :: (21, 14, 5, 0, 0, 0) :: bl_98_12 ∧ bl_98_12 = (0, 0, (-1), 0, 0, 0) :: (55, 0, 0, 0, 0, 0) :: bl_98_14 ∧ bl_98_14 = (2, 0, 0, 0, 0, 0) :: (37, 5, 0, 9, 23, 6119) :: (2, 0, 0, 0, 0, 0) :: (36, 6, 0, 9, 74, 6120) :: (1, 1, 0, 0, 0, 0) :: (17, 0, 0, 0, 0, 0) :: (45, 0, 0, 0, 0, 0) :: (2, 0, 0, 0, 0, 0) :: (18, 0, 0, 0, 0, 0) :: (36, 6, 0, 9, 74, 6120) :: (0, 0, 1, 0, 0, 0) :: (6, 0, 0, 0, 0, 0) :: (38, 6, 0, 9, 74, 6120) :: (2, 0, 0, 0, 0, 0) :: (36, 6, 0, 9, 74, 6120) :: (55, 0, 0, 0, 0, 0) :: [] := by refine ⟨?_, ?_, ?_, ?_, ?_, ?_⟩ <;> rfl
theorem cdS_99 : (mz_cd 99).drop 0 = bl_99_0 ∧ (mz_cd 99).drop 6 = bl_99_6 ∧ (mz_cd 99).drop 39 = bl_99_39 ∧ bl_99_0 = (1, 2, 0, 0, 0, 0) :: (3, 4, 0, 0, 1, 0) :: (0, 1, 60, 0, 0, 0) :: (1, 3, 0, 0, 0, 0) :: (8, 0, 0, 0, 0, 0) :: (3, 5, 0, 0, 1, 0) :: bl_99_6 ∧ bl_99_6 = (1, 4, 0, 0, 1, 0) :: (2, 0, 0, 0, 0, 0) :: (37, 0, 0, 9, 9, 6114) :: (0, 0, 2, 0, 0, 0) :: (40, 0, 0, 0, 0, 0) :: (2, 0, 0, 0, 0, 0) :: (37, 0, 0, 9, 9, 6114) :: (0, 2, 329, 0, 0, 0) :: (2, 0, 0, 0, 0, 0) :: (37, 0, 0, 9, 9, 6114) :: (0, 2, 203, 0, 0, 0) :: (1, 1, 0, 0, 0, 0) :: (6, 0, 0, 0, 0, 0) :: (40, 0, 0, 0, 0, 0) :: (6, 0, 0, 0, 0, 0) :: (40, 0, 0, 0, 0, 0) :: (6, 0, 0, 0, 0, 0) :: (23, 39, 33, 0, 0, 0) :: (2, 0, 0, 0, 0, 0) :: (1, 1, 0, 0, 0, 0) :: (1, 4, 0, 0, 1, 0) :: (50, 35, 9, 3, 192, 7087) :: (1, 5, 0, 0, 1, 0) :: (24, 39, 21, 0, 0, 0) :: (1, 5, 0, 0, 1, 0) :: (2, 0, 0, 0, 0, 0) :: (1, 1, 0, 0, 0, 0) :: (1, 4, 0, 0, 1, 0) :: (50, 35, 9, 3, 192, 7087) :: (7, 0, 0, 0, 0, 0) :: (3, 5, 0, 0, 1, 0) :: (5, 4, 1, 0, 0, 0) :: (32, 6, (-58), 0, 0, 0) :: bl_99_39 ∧ bl_99_39 = (1, 4, 0, 0, 1, 0) :: (55, 0, 0, 0, 0, 0) :: [] := by refine ⟨?_, ?_, ?_, ?_, ?_, ?_⟩ <;> rfl
theorem cdS_100 : (mz_cd 100).drop 0 = bl_100_0 ∧ (mz_cd 100).drop 10 = bl_100_10 ∧ (mz_cd 100).drop 16 = bl_100_16 ∧ (mz_cd 100).drop 26 = bl_100_26 ∧ (mz_cd 100).drop 55 = bl_100_55 ∧ (mz_cd 100).drop 56 = bl_100_56 ∧ (mz_cd 100).drop 60 = bl_100_60 ∧ (mz_cd 100).drop 67 = bl_100_67 ∧ (mz_cd 100).drop 69 = bl_100_69 ∧ bl_100_0 = (2, 0, 0, 0, 0, 0) :: (0, 0, 0, 0, 0, 0) :: (38, 4, 0, 9, 59, 6118) :: (1, 1, 0, 0, 0, 0) :: (0, 0, 0, 0, 0, 0) :: (0, 1, 6, 0, 0, 0) :: (49, 40, 9, 3, 70, 6204) :: (27, 10, 5, 0, 0, 0) :: (0, 0, (-1), 0, 0, 0) :: (55, 0, 0, 0, 0, 0) :: bl_100_10 ∧ bl_100_10 = (0, 1, (-3), 0, 0, 0) :: (3, 2, 0, 0, 0, 0) :: (0, 0, 0, 0, 0, 0) :: (3, 3, 0, 0, 0, 0) :: (0, 0, 0, 0, 0, 0) :: (3, 4, 0, 0, 1, 0) :: bl_100_16 ∧ bl_100_16 = (1, 4, 0, 0, 1, 0) :: (2, 0, 0, 0, 0, 0) :: (37, 0, 0, 9, 9, 6114) :: (0, 0, 0, 0, 0, 0) :: (40, 0, 0, 0, 0, 0) :: (23, 69, 94, 0, 0, 0) :: (0, 0, 0, 0, 0, 0) :: (3, 5, 0, 0, 1, 0) :: (0, 0, 0, 0, 0, 0) :: (3, 6, 0, 0, 1, 0) :: bl_100_26 ∧ bl_100_26 = (1, 6, 0, 0, 1, 0) :: (2, 0, 0, 0, 0, 0) :: (37, 0, 0, 9, 9, 6114) :: (0, 2, 429, 0, 0, 0) :: (40, 0, 0, 0, 0, 0) :: (23, 60, 57, 0, 0, 0) :: (1, 5, 0, 0, 1, 0) :: (2, 0, 0, 0, 0, 0) :: (1, 6, 0, 0, 1, 0) :: (0, 0, 1, 0, 0, 0) :: (50, 37, 9, 3, 158, 7111) :: (0, 0, 1, 0, 0, 0) :: (21, 55, 34, 0, 0, 0) :: (2, 0, 0, 0, 0, 0) :: (1, 6, 0, 0, 1, 0) :: (0, 0, 3, 0, 0, 0) :: (50, 37, 9, 3, 158, 7111) :: (1, 4, 0, 0, 1, 0) :: (21, 55, 22, 0, 0, 0) :: (2, 0, 0, 0, 0, 0) :: (1, 6, 0, 0, 1, 0) :: (0, 0, 0, 0, 0, 0) :: (50, 37, 9, 3, 158, 7111) :: (0, 2, 1440, 0, 0, 0) :: (9, 0, 0, 0, 0, 0) :: (1, 1, 0, 0, 0, 0) :: (21, 55, 7, 0, 0, 0) :: (0, 0, 1, 0, 0, 0) :: (32, 56, 4, 0, 0, 0) :: bl_100_55 ∧ bl_100_55 = (0, 0, 0, 0, 0, 0) :: bl_100_56 ∧ bl_100_56 = (6, 0, 0, 0, 0, 0) :: (3, 5, 0, 0, 1, 0) :: (5, 6, 1, 0, 0, 0) :: (32, 26, (-64), 0, 0, 0) :: bl_100_60 ∧ bl_100_60 = (1, 5, 0, 0, 1, 0) :: (1, 3, 0, 0, 0, 0) :: (25, 67, 9, 0, 0, 0) :: (1, 4, 0, 0, 1, 0) :: (3, 2, 0, 0, 0, 0) :: (1, 5, 0, 0, 1, 0) :: (3, 3, 0, 0, 0, 0) :: bl_100_67 ∧ bl_100_67 = (5, 4, 1, 0, 0, 0) :: (32, 16, (-99), 0, 0, 0) :: bl_100_69 ∧ bl_100_69 = (1, 2, 0, 0, 0, 0) :: (55, 0, 0, 0, 0, 0) :: [] := by refine ⟨?_, ?_, ?_, ?_, ?_, ?_, ?_, ?_, ?_, ?_, ?_, ?_, ?_, ?_, ?_, ?_, ?_, ?_⟩ <;> rfl
theorem cdS_101 : (mz_cd 101).drop 0 = bl_101_0 ∧ (mz_cd 101).drop 19 = bl_101_19 ∧ (mz_cd 101).drop 21 = bl_101_21 ∧ (mz_cd 101).drop 25 = bl_101_25 ∧ (mz_cd 101).drop 51 = bl_101_51 ∧ (mz_cd 101).drop 52 = bl_101_52 ∧ (mz_cd 101).drop 56 = bl_101_56 ∧ bl_101_0 = (2, 0, 0, 0, 0, 0) :: (0, 0, 0, 0, 0, 0) :: (38, 4, 0, 9, 59, 6118) :: (1, 1, 0, 0, 0, 0) :: (0, 0, 0, 0, 0, 0) :: (0, 1, 6, 0, 0, 0) :: (49, 40, 9, 3, 70, 6204) :: (26, 19, 24, 0, 0, 0) :: (1, 2, 0, 0, 0, 0) :: (0, 0, 2, 0, 0, 0) :: (20, 21, 21, 0, 0, 0) :: (1, 2, 0, 0, 0, 0) :: (0, 0, 4, 0, 0, 0) :: (0, 1, 8, 0, 0, 0) :: (49, 40, 9, 3, 70, 6204) :: (27, 21, 11, 0, 0, 0) :: (1, 2, 0, 0, 0, 0) :: (0, 1, 10, 0, 0, 0) :: (20, 21, 5, 0, 0, 0) :: bl_101_19 ∧ bl_101_19 = (0, 0, (-1), 0, 0, 0) :: (55, 0, 0, 0, 0, 0) :: bl_101_21 ∧ bl_101_21 = (0, 0, 0, 0, 0, 0) :: (3, 3, 0, 0, 0, 0) :: (0, 0, 0, 0, 0, 0) :: (3, 4, 0, 0, 1, 0) :: bl_101_25 ∧ bl_101_25 = (1, 4, 0, 0, 1, 0) :: (2, 0, 0, 0, 0, 0) :: (37, 0, 0, 9, 9, 6114) :: (0, 2, 429, 0, 0, 0) :: (40, 0, 0, 0, 0, 0) :: (23, 56, 49, 0, 0, 0) :: (1, 3, 0, 0, 0, 0) :: (2, 0, 0, 0, 0, 0) :: (1, 4, 0, 0, 1, 0) :: (0, 0, 1, 0, 0, 0) :: (50, 37, 9, 3, 158, 7111) :: (1, 2, 0, 0, 0, 0) :: (21, 51, 28, 0, 0, 0) :: (2, 0, 0, 0, 0, 0) :: (1, 4, 0, 0, 1, 0) :: (0, 0, 0, 0, 0, 0) :: (50, 37, 9, 3, 158, 7111) :: (0, 2, 1440, 0, 0, 0) :: (9, 0, 0, 0, 0, 0) :: (1, 1, 0, 0, 0, 0) :: (21, 51, 13, 0, 0, 0) :: (2, 0, 0, 0, 0, 0) :: (1, 4, 0, 0, 1, 0) :: (0, 0, 3, 0, 0, 0) :: (50, 37, 9, 3, 158, 7111) :: (32, 52, 4, 0, 0, 0) :: bl_101_51 ∧ bl_101_51 = (0, 0, 0, 0, 0, 0) :: bl_101_52 ∧ bl_101_52 = (6, 0, 0, 0, 0, 0) :: (3, 3, 0, 0, 0, 0) :: (5, 4, 1, 0, 0, 0) :: (32, 25, (-56), 0, 0, 0) :: bl_101_56 ∧ bl_101_56 = (1, 3, 0, 0, 0, 0) :: (55, 0, 0, 0, 0, 0) :: [] := by refine ⟨?_, ?_, ?_, ?_, ?_, ?_, ?_, ?_, ?_, ?_, ?_, ?_, ?_, ?_⟩ <;> rfl
theorem cdS_102 : (mz_cd 102).drop 0 = bl_102_0 ∧ (mz_cd 102).drop 17 = bl_102_17 ∧ (mz_cd 102).drop 18 = bl_102_18 ∧ (mz_cd 102).drop 21 = bl_102_21 ∧ (mz_cd 102).drop 52 = bl_102_52 ∧ (mz_cd 102).drop 54 = bl_102_54 ∧ bl_102_0 = (1, 2, 0, 0, 0, 0) :: (0, 0, 1, 0, 0, 0) :: (1, 3, 0, 0, 0, 0) :: (14, 0, 0, 0, 0, 0) :: (0, 0, (-1), 0, 0, 0) :: (13, 0, 0, 0, 0, 0) :: (11, 0, 0, 0, 0, 0) :: (3, 4, 0, 0, 1, 0) :: (1, 4, 0, 0, 1, 0) :: (27, 17, 14, 0, 0, 0) :: (2, 0, 0, 0, 0, 0) :: (1, 1, 0, 0, 0, 0) :: (1, 3, 0, 0, 0, 0) :: (50, 51, 9, 3, 249, 7168) :: (0, 0, 5, 0, 0, 0) :: (6, 0, 0, 0, 0, 0) :: (32, 18, 5, 0, 0, 0) :: bl_102_17 ∧ bl_102_17 = (0, 3, 1000000, 0, 63, 6109) :: bl_102_18 ∧ bl_102_18 = (3, 5, 0, 0, 1, 0) :: (0, 0, 0, 0, 0, 0) :: (3, 6, 0, 0, 1, 0) :: bl_102_21 ∧ bl_102_21 = (1, 6, 0, 0, 1, 0) :: (2, 0, 0, 0, 0, 0) :: (37, 0, 0, 9, 9, 6114) :: (0, 0, 0, 0, 0, 0) :: (40, 0, 0, 0, 0, 0) :: (23, 54, 50, 0, 0, 0) :: (1, 4, 0, 0, 1, 0) :: (1, 6, 0, 0, 1, 0) :: (15, 0, 0, 0, 0, 0) :: (0, 0, 1, 0, 0, 0) :: (11, 0, 0, 0, 0, 0) :: (0, 0, 1, 0, 0, 0) :: (21, 52, 33, 0, 0, 0) :: (1, 5, 0, 0, 1, 0) :: (2, 0, 0, 0, 0, 0) :: (37, 22, 0, 9, 45, 6136) :: (0, 1, 10, 0, 0, 0) :: (1, 4, 0, 0, 1, 0) :: (8, 0, 0, 0, 0, 0) :: (1, 6, 0, 0, 1, 0) :: (6, 0, 0, 0, 0, 0) :: (40, 0, 0, 0, 0, 0) :: (2, 0, 0, 0, 0, 0) :: (1, 6, 0, 0, 1, 0) :: (1, 3, 0, 0, 0, 0) :: (50, 51, 9, 3, 249, 7168) :: (6, 0, 0, 0, 0, 0) :: (0, 0, 5, 0, 0, 0) :: (6, 0, 0, 0, 0, 0) :: (76, 0, 0, 0, 64, 6113) :: (3, 5, 0, 0, 1, 0) :: bl_102_52 ∧ bl_102_52 = (5, 6, 1, 0, 0, 0) :: (32, 21, (-55), 0, 0, 0) :: bl_102_54 ∧ bl_102_54 = (1, 5, 0, 0, 1, 0) :: (0, 3, 1000000, 0, 63, 6109) :: (76, 0, 0, 0, 64, 6113) :: (55, 0, 0, 0, 0, 0) :: [] := by refine ⟨?_, ?_, ?_, ?_, ?_, ?_, ?_, ?_, ?_, ?_, ?_, ?_⟩ <;> rfl
theorem cdS_103 : (mz_cd 103).drop 0 = bl_103_0 ∧ (mz_cd 103).drop 2 = bl_103_2 ∧ (mz_cd 103).drop 7 = bl_103_7 ∧ (mz_cd 103).drop 23 = bl_103_23 ∧ (mz_cd 103).drop 32 = bl_103_32 ∧ (mz_cd 103).drop 35 = bl_103_35 ∧ (mz_cd 103).drop 37 = bl_103_37 ∧ (mz_cd 103).drop 39 = bl_103_39 ∧ (mz_cd 103).drop 44 = bl_103_44 ∧ (mz_cd 103).drop 49 = bl_103_49 ∧ (mz_cd 103).drop 94 = bl_103_94 ∧ (mz_cd 103).drop 96 = bl_103_96 ∧ (mz_cd 103).drop 98 = bl_103_98 ∧ bl_103_0 = (0, 0, 0, 0, 0, 0) :: (3, 1, 0, 0, 0, 0) :: bl_103_2 ∧ bl_103_2 = (1, 1, 0, 0, 0, 0) :: (0, 1, 10, 0, 0, 0) :: (23, 37, 53, 0, 0, 0) :: (0, 0, 0, 0, 0, 0) :: (3, 2, 0, 0, 0, 0) :: bl_103_7 ∧ bl_103_7 = (1, 2, 0, 0, 0, 0) :: (0, 1, 10, 0, 0, 0) :: (23, 35, 39, 0, 0, 0) :: (2, 0, 0, 0, 0, 0) :: (0, 1, 103, 0, 0, 0) :: (0, 1, 10, 0, 0, 0) :: (1, 1, 0, 0, 0, 0) :: (8, 0, 0, 0, 0, 0) :: (6, 0, 0, 0, 0, 0) :: (1, 2, 0, 0, 0, 0) :: (6, 0, 0, 0, 0, 0) :: (1, 1, 0, 0, 0, 0) :: (1, 2, 0, 0, 0, 0) :: (21, 23, 7, 0, 0, 0) :: (0, 0, 0, 0, 0, 0) :: (32, 32, 13, 0, 0, 0) :: bl_103_23 ∧ bl_103_23 = (2, 0, 0, 0, 0, 0) :: (0, 0, 3, 0, 0, 0) :: (0, 1, 10, 0, 0, 0) :: (1, 1, 0, 0, 0, 0) :: (8, 0, 0, 0, 0, 0) :: (6, 0, 0, 0, 0, 0) :: (1, 2, 0, 0, 0, 0) :: (6, 0, 0, 0, 0, 0) :: (40, 0, 0, 0, 0, 0) :: bl_103_32 ∧ bl_103_32 = (41, 0, 0, 0, 0, 0) :: (5, 2, 1, 0, 0, 0) :: (32, 7, (-39), 0, 0, 0) :: bl_103_35 ∧ bl_103_35 = (5, 1, 1, 0, 0, 0) :: (32, 2, (-53), 0, 0, 0) :: bl_103_37 ∧ bl_103_37 = (0, 0, 0, 0, 0, 0) :: (3, 1, 0, 0, 0, 0) :: bl_103_39 ∧ bl_103_39 = (1, 1, 0, 0, 0, 0) :: (0, 1, 10, 0, 0, 0) :: (23, 98, 89, 0, 0, 0) :: (0, 0, 0, 0, 0, 0) :: (3, 2, 0, 0, 0, 0) :: bl_103_44 ∧ bl_103_44 = (1, 2, 0, 0, 0, 0) :: (0, 1, 10, 0, 0, 0) :: (23, 96, 75, 0, 0, 0) :: (0, 0, 0, 0, 0, 0) :: (3, 3, 0, 0, 0, 0) :: bl_103_49 ∧ bl_103_49 = (1, 3, 0, 0, 0, 0) :: (0, 1, 10, 0, 0, 0) :: (23, 94, 61, 0, 0, 0) :: (2, 0, 0, 0, 0, 0) :: (0, 1, 103, 0, 0, 0) :: (0, 1, 10, 0, 0, 0) :: (1, 2, 0, 0, 0, 0) :: (8, 0, 0, 0, 0, 0) :: (6, 0, 0, 0, 0, 0) :: (1, 1, 0, 0, 0, 0) :: (6, 0, 0, 0, 0, 0) :: (40, 0, 0, 0, 0, 0) :: (2, 0, 0, 0, 0, 0) :: (0, 1, 103, 0, 0, 0) :: (0, 1, 10, 0, 0, 0) :: (1, 1, 0, 0, 0, 0) :: (8, 0, 0, 0, 0, 0) :: (6, 0, 0, 0, 0, 0) :: (1, 3, 0, 0, 0, 0) :: (6, 0, 0, 0, 0, 0) :: (40, 0, 0, 0, 0, 0) :: (6, 0, 0, 0, 0, 0) :: (3, 4, 0, 0, 1, 0) :: (2, 0, 0, 0, 0, 0) :: (0, 1, 103, 0, 0, 0) :: (0, 1, 10, 0, 0, 0) :: (1, 2, 0, 0, 0, 0) :: (8, 0, 0, 0, 0, 0) :: (6, 0, 0, 0, 0, 0) :: (1, 3, 0, 0, 0, 0) :: (6, 0, 0, 0, 0, 0) :: (2, 0, 0, 0, 0, 0) :: (0, 1, 103, 0, 0, 0) :: (0, 1, 10, 0, 0, 0) :: (1, 2, 0, 0, 0, 0) :: (8, 0, 0, 0, 0, 0) :: (6, 0, 0, 0, 0, 0) :: (1, 3, 0, 0, 0, 0) :: (6, 0, 0, 0, 0, 0) :: (40, 0, 0, 0, 0, 0) :: (1, 4, 0, 0, 1, 0) :: (76, 0, 0, 0, 64, 6113) :: (41, 0, 0, 0, 0, 0) :: (5, 3, 1, 0, 0, 0) :: (32, 49, (-61), 0, 0, 0) :: bl_103_94 ∧ bl_103_94 = (5, 2, 1, 0, 0, 0) :: (32, 44, (-75), 0, 0, 0) :: bl_103_96 ∧ bl_103_96 = (5, 1, 1, 0, 0, 0) :: (32, 39, (-89), 0, 0, 0) :: bl_103_98 ∧ bl_103_98 = (57, 0, 0, 0, 0, 0) :: [] := by refine ⟨?_, ?_, ?_, ?_, ?_, ?_, ?_, ?_, ?_, ?_, ?_, ?_, ?_, ?_, ?_, ?_, ?_, ?_, ?_, ?_, ?_, ?_, ?_, ?_, ?_, ?_⟩ <;> rfl
theorem cdS_104 : (mz_cd 104).drop 0 = bl_104_0 ∧ (mz_cd 104).drop 16 = bl_104_16 ∧ (mz_cd 104).drop 17 = bl_104_17 ∧ bl_104_0 = (2, 0, 0, 0, 0, 0) :: (1, 1, 0, 0, 0, 0) :: (0, 0, 0, 0, 0, 0) :: (50, 46, 9, 3, 161, 7054) :: (0, 0, 1, 0, 0, 0) :: (0, 0, 2, 0, 0, 0) :: (49, 40, 9, 3, 70, 6204) :: (26, 16, 17, 0, 0, 0) :: (2, 0, 0, 0, 0, 0) :: (1, 1, 0, 0, 0, 0) :: (0, 0, 1, 0, 0, 0) :: (50, 46, 9, 3, 161, 7054) :: (1, 2, 0, 0, 0, 0) :: (21, 16, 7, 0, 0, 0) :: (0, 0, 1, 0, 0, 0) :: (32, 17, 4, 0, 0, 0) :: bl_104_16 ∧ bl_104_16 = (0, 0, 0, 0, 0, 0) :: bl_104_17 ∧ bl_104_17 = (55, 1, 0, 0, 0, 0) :: [] := by refine ⟨?_, ?_, ?_, ?_, ?_, ?_⟩ <;> rfl
theorem cdS_105 : (mz_cd 105).drop 0 = bl_105_0 ∧ bl_105_0 = (1, 0, 0, 0, 0, 0) :: (0, 0, 0, 0, 0, 0) :: (0, 1, 15, 0, 0, 0) :: (49, 40, 9, 3, 70, 6204) :: (55, 1, 0, 0, 0, 0) :: [] := by refine ⟨?_, ?_⟩ <;> rfl
theorem cdS_106 : (mz_cd 106).drop 0 = bl_106_0 ∧ bl_106_0 = (1, 1, 0, 0, 0, 0) :: (0, 0, 0, 0, 0, 0) :: (2, 0, 0, 0, 0, 0) :: (37, 0, 0, 9, 9, 6114) :: (0, 0, 0, 0, 0, 0) :: (40, 0, 0, 0, 0, 0) :: (0, 0, 1, 0, 0, 0) :: (7, 0, 0, 0, 0, 0) :: (49, 40, 9, 3, 70, 6204) :: (55, 1, 0, 0, 0, 0) :: [] := by refine ⟨?_, ?_⟩ <;> rfl
theorem cdS_107 : (mz_cd 107).drop 0 = bl_107_0 ∧ (mz_cd 107).drop 19 = bl_107_19 ∧ (mz_cd 107).drop 20 = bl_107_20 ∧ bl_107_0 = (2, 0, 0, 0, 0, 0) :: (1, 1, 0, 0, 0, 0) :: (0, 0, 0, 0, 0, 0) :: (50, 46, 9, 3, 161, 7054) :: (0, 0, 2, 0, 0, 0) :: (21, 19, 26, 0, 0, 0) :: (2, 0, 0, 0, 0, 0) :: (37, 0, 0, 9, 9, 6114) :: (0, 0, 2, 0, 0, 0) :: (40, 0, 0, 0, 0, 0) :: (2, 0, 0, 0, 0, 0) :: (1, 1, 0, 0, 0, 0) :: (0, 0, 5, 0, 0, 0) :: (50, 46, 9, 3, 161, 7054) :: (0, 2, 180, 0, 0, 0) :: (6, 0, 0, 0, 0, 0) :: (22, 19, 7, 0, 0, 0) :: (0, 0, 1, 0, 0, 0) :: (32, 20, 4, 0, 0, 0) :: bl_107_19 ∧ bl_107_19 = (0, 0, 0, 0, 0, 0) :: bl_107_20 ∧ bl_107_20 = (55, 1, 0, 0, 0, 0) :: [] := by refine ⟨?_, ?_, ?_, ?_, ?_, ?_⟩ <;> rfl
theorem cdS_108 : (mz_cd 108).drop 0 = bl_108_0 ∧ bl_108_0 = (1, 0, 0, 0, 0, 0) :: (0, 0, 0, 0, 0, 0) :: (0, 0, 3, 0, 0, 0) :: (49, 40, 9, 3, 70, 6204) :: (55, 1, 0, 0, 0, 0) :: [] := by refine ⟨?_, ?_⟩ <;> rfl
theorem cdS_109 : (mz_cd 109).drop 0 = bl_109_0 ∧ (mz_cd 109).drop 11 = bl_109_11 ∧ bl_109_0 = (2, 0, 0, 0, 0, 0) :: (50, 39, 9, 1, 80, 6219) :: (0, 1, 32, 0, 0, 0) :: (21, 11, 16, 0, 0, 0) :: (2, 0, 0, 0, 0, 0) :: (18, 0, 0, 0, 0, 0) :: (36, 7, 0, 9, 77, 6121) :: (0, 0, 1, 0, 0, 0) :: (6, 0, 0, 0, 0, 0) :: (38, 7, 0, 9, 77, 6121) :: (32, 0, (-19), 0, 0, 0) :: bl_109_11 ∧ bl_109_11 = (2, 0, 0, 0, 0, 0) :: (2, 0, 0, 0, 0, 0) :: (36, 7, 0, 9, 77, 6121) :: (38, 8, 0, 9, 84, 6122) :: (2, 0, 0, 0, 0, 0) :: (50, 39, 9, 1, 80, 6219) :: (55, 0, 0, 0, 0, 0) :: [] := by refine ⟨?_, ?_, ?_, ?_⟩ <;> rfl
theorem cdS_110 : (mz_cd 110).drop 0 = bl_110_0 ∧ (mz_cd 110).drop 13 = bl_110_13 ∧ (mz_cd 110).drop 14 = bl_110_14 ∧ (mz_cd 110).drop 20 = bl_110_20 ∧ (mz_cd 110).drop 24 = bl_110_24 ∧ bl_110_0 = (2, 0, 0, 0, 0, 0) :: (1, 1, 0, 0, 0, 0) :: (0, 0, 0, 0, 0, 0) :: (2, 0, 0, 0, 0, 0) :: (37, 0, 0, 9, 9, 6114) :: (0, 2, 429, 0, 0, 0) :: (40, 0, 0, 0, 0, 0) :: (0, 0, 1, 0, 0, 0) :: (7, 0, 0, 0, 0, 0) :: (49, 40, 9, 3, 70, 6204) :: (26, 13, 7, 0, 0, 0) :: (0, 0, 0, 0, 0, 0) :: (32, 14, 4, 0, 0, 0) :: bl_110_13 ∧ bl_110_13 = (0, 0, 1, 0, 0, 0) :: bl_110_14 ∧ bl_110_14 = (38, 4, 0, 9, 59, 6118) :: (2, 0, 0, 0, 0, 0) :: (36, 4, 0, 9, 59, 6118) :: (31, 20, 7, 0, 0, 0) :: (0, 0, 0, 0, 0, 0) :: (32, 24, 9, 0, 0, 0) :: bl_110_20 ∧ bl_110_20 = (2, 0, 0, 0, 0, 0) :: (1, 1, 0, 0, 0, 0) :: (1, 2, 0, 0, 0, 0) :: (50, 37, 9, 3, 158, 7111) :: bl_110_24 ∧ bl_110_24 = (55, 0, 0, 0, 0, 0) :: [] := by refine ⟨?_, ?_, ?_, ?_, ?_, ?_, ?_, ?_, ?_, ?_⟩ <;> rfl
theorem cdS_111 : (mz_cd 111).drop 0 = bl_111_0 ∧ (mz_cd 111).drop 2 = bl_111_2 ∧ (mz_cd 111).drop 27 = bl_111_27 ∧ (mz_cd 111).drop 29 = bl_111_29 ∧ bl_111_0 = (0, 0, 0, 0, 0, 0) :: (3, 2, 0, 0, 0, 0) :: bl_111_2 ∧ bl_111_2 = (1, 2, 0, 0, 0, 0) :: (2, 0, 0, 0, 0, 0) :: (37, 0, 0, 9, 9, 6114) :: (0, 2, 429, 0, 0, 0) :: (40, 0, 0, 0, 0, 0) :: (23, 29, 40, 0, 0, 0) :: (2, 0, 0, 0, 0, 0) :: (1, 2, 0, 0, 0, 0) :: (0, 0, 1, 0, 0, 0) :: (50, 37, 9, 3, 158, 7111) :: (0, 0, 4, 0, 0, 0) :: (21, 27, 24, 0, 0, 0) :: (2, 0, 0, 0, 0, 0) :: (1, 2, 0, 0, 0, 0) :: (0, 0, 2, 0, 0, 0) :: (50, 37, 9, 3, 158, 7111) :: (1, 1, 0, 0, 0, 0) :: (21, 27, 14, 0, 0, 0) :: (2, 0, 0, 0, 0, 0) :: (1, 2, 0, 0, 0, 0) :: (0, 0, 4, 0, 0, 0) :: (50, 37, 9, 3, 158, 7111) :: (27, 27, 5, 0, 0, 0) :: (1, 2, 0, 0, 0, 0) :: (55, 0, 0, 0, 0, 0) :: bl_111_27 ∧ bl_111_27 = (5, 2, 1, 0, 0, 0) :: (32, 2, (-46), 0, 0, 0) :: bl_111_29 ∧ bl_111_29 = (0, 0, (-1), 0, 0, 0) :: (55, 0, 0, 0, 0, 0) :: [] := by refine ⟨?_, ?_, ?_, ?_, ?_, ?_, ?_, ?_⟩ <;> rfl
theorem cdS_112 : (mz_cd 112).drop 0 = bl_112_0 ∧ (mz_cd 112).drop 7 = bl_112_7 ∧ (mz_cd 112).drop 24 = bl_112_24 ∧ (mz_cd 112).drop 25 = bl_112_25 ∧ (mz_cd 112).drop 29 = bl_112_29 ∧ bl_112_0 = (0, 0, 0, 0, 0, 0) :: (3, 2, 0, 0, 0, 0) :: (2, 0, 0, 0, 0, 0) :: (1, 1, 0, 0, 0, 0) :: (0, 0, 2, 0, 0, 0) :: (50, 46, 9, 3, 161, 7054) :: (3, 3, 0, 0, 0, 0) :: bl_112_7 ∧ bl_112_7 = (1, 3, 0, 0, 0, 0) :: (2, 0, 0, 0, 0, 0) :: (37, 0, 0, 9, 9, 6114) :: (0, 0, 2, 0, 0, 0) :: (40, 0, 0, 0, 0, 0) :: (23, 29, 31, 0, 0, 0) :: (1, 2, 0, 0, 0, 0) :: (2, 0, 0, 0, 0, 0) :: (2, 0, 0, 0, 0, 0) :: (1, 1, 0, 0, 0, 0) :: (0, 0, 1, 0, 0, 0) :: (50, 46, 9, 3, 161, 7054) :: (1, 3, 0, 0, 0, 0) :: (50, 35, 9, 3, 192, 7087) :: (31, 24, 7, 0, 0, 0) :: (0, 0, 1, 0, 0, 0) :: (32, 25, 4, 0, 0, 0) :: bl_112_24 ∧ bl_112_24 = (0, 0, 0, 0, 0, 0) :: bl_112_25 ∧ bl_112_25 = (6, 0, 0, 0, 0, 0) :: (3, 2, 0, 0, 0, 0) :: (5, 3, 1, 0, 0, 0) :: (32, 7, (-35), 0, 0, 0) :: bl_112_29 ∧ bl_112_29 = (1, 2, 0, 0, 0, 0) :: (55, 0, 0, 0, 0, 0) :: [] := by refine ⟨?_, ?_, ?_, ?_, ?_, ?_, ?_, ?_, ?_, ?_⟩ <;> rfl
theorem cdS_113 : (mz_cd 113).drop 0 = bl_113_0 ∧ (mz_cd 113).drop 12 = bl_113_12 ∧ (mz_cd 113).drop 41 = bl_113_41 ∧ (mz_cd 113).drop 42 = bl_113_42 ∧ (mz_cd 113).drop 46 = bl_113_46 ∧ bl_113_0 = (2, 0, 0, 0, 0, 0) :: (1, 1, 0, 0, 0, 0) :: (0, 0, 4, 0, 0, 0) :: (50, 46, 9, 3, 161, 7054) :: (2, 0, 0, 0, 0, 0) :: (1, 1, 0, 0, 0, 0) :: (0, 0, 3, 0, 0, 0) :: (50, 46, 9, 3, 161, 7054) :: (7, 0, 0, 0, 0, 0) :: (3, 2, 0, 0, 0, 0) :: (0, 0, 0, 0, 0, 0) :: (3, 3, 0, 0, 0, 0) :: bl_113_12 ∧ bl_113_12 = (1, 3, 0, 0, 0, 0) :: (2, 0, 0, 0, 0, 0) :: (37, 0, 0, 9, 9, 6114) :: (0, 2, 429, 0, 0, 0) :: (40, 0, 0, 0, 0, 0) :: (23, 46, 51, 0, 0, 0) :: (1, 2, 0, 0, 0, 0) :: (2, 0, 0, 0, 0, 0) :: (1, 3, 0, 0, 0, 0) :: (0, 0, 1, 0, 0, 0) :: (50, 37, 9, 3, 158, 7111) :: (0, 0, 4, 0, 0, 0) :: (21, 41, 31, 0, 0, 0) :: (2, 0, 0, 0, 0, 0) :: (1, 3, 0, 0, 0, 0) :: (0, 0, 2, 0, 0, 0) :: (50, 37, 9, 3, 158, 7111) :: (1, 1, 0, 0, 0, 0) :: (21, 41, 21, 0, 0, 0) :: (2, 0, 0, 0, 0, 0) :: (1, 3, 0, 0, 0, 0) :: (0, 0, 4, 0, 0, 0) :: (50, 37, 9, 3, 158, 7111) :: (27, 41, 12, 0, 0, 0) :: (2, 0, 0, 0, 0, 0) :: (1, 3, 0, 0, 0, 0) :: (0, 0, 3, 0, 0, 0) :: (50, 37, 9, 3, 158, 7111) :: (32, 42, 4, 0, 0, 0) :: bl_113_41 ∧ bl_113_41 = (0, 0, 0, 0, 0, 0) :: bl_113_42 ∧ bl_113_42 = (6, 0, 0, 0, 0, 0) :: (3, 2, 0, 0, 0, 0) :: (5, 3, 1, 0, 0, 0) :: (32, 12, (-57), 0, 0, 0) :: bl_113_46 ∧ bl_113_46 = (0, 0, 0, 0, 0, 0) :: (1, 2, 0, 0, 0, 0) :: (75, 0, 0, 0, 164, 7082) :: (55, 0, 0, 0, 0, 0) :: [] := by refine ⟨?_, ?_, ?_, ?_, ?_, ?_, ?_, ?_, ?_, ?_⟩ <;> rfl
theorem cdS_114 : (mz_cd 114).drop 0 = bl_114_0 ∧ (mz_cd 114).drop 2 = bl_114_2 ∧ (mz_cd 114).drop 17 = bl_114_17 ∧ (mz_cd 114).drop 19 = bl_114_19 ∧ bl_114_0 = (1, 1, 0, 0, 0, 0) :: (3, 2, 0, 0, 0, 0) :: bl_114_2 ∧ bl_114_2 = (2, 0, 0, 0, 0, 0) :: (1, 2, 0, 0, 0, 0) :: (0, 0, 1, 0, 0, 0) :: (50, 37, 9, 3, 158, 7111) :: (0, 0, 1, 0, 0, 0) :: (21, 17, 18, 0, 0, 0) :: (2, 0, 0, 0, 0, 0) :: (1, 2, 0, 0, 0, 0) :: (0, 0, 2, 0, 0, 0) :: (50, 37, 9, 3, 158, 7111) :: (2, 0, 0, 0, 0, 0) :: (1, 1, 0, 0, 0, 0) :: (0, 0, 2, 0, 0, 0) :: (50, 37, 9, 3, 158, 7111) :: (20, 19, 9, 0, 0, 0) :: bl_114_17 ∧ bl_114_17 = (5, 2, (-1), 0, 0, 0) :: (32, 2, (-28), 0, 0, 0) :: bl_114_19 ∧ bl_114_19 = (2, 0, 0, 0, 0, 0) :: (1, 2, 0, 0, 0, 0) :: (0, 0, 3, 0, 0, 0) :: (50, 37, 9, 3, 158, 7111) :: (55, 0, 0, 0, 0, 0) :: [] := by refine ⟨?_, ?_, ?_, ?_, ?_, ?_, ?_, ?_⟩ <;> rfl
theorem cdS_115 : (mz_cd 115).drop 0 = bl_115_0 ∧ (mz_cd 115).drop 4 = bl_115_4 ∧ (mz_cd 115).drop 18 = bl_115_18 ∧ bl_115_0 = (0, 0, 0, 0, 0, 0) :: (3, 4, 0, 0, 1, 0) :: (1, 2, 0, 0, 0, 0) :: (3, 5, 0, 0, 1, 0) :: bl_115_4 ∧ bl_115_4 = (1, 5, 0, 0, 1, 0) :: (1, 2, 0, 0, 0, 0) :: (1, 3, 0, 0, 0, 0) :: (6, 0, 0, 0, 0, 0) :: (23, 18, 21, 0, 0, 0) :: (1, 4, 0, 0, 1, 0) :: (2, 0, 0, 0, 0, 0) :: (1, 1, 0, 0, 0, 0) :: (1, 5, 0, 0, 1, 0) :: (50, 35, 9, 3, 192, 7087) :: (6, 0, 0, 0, 0, 0) :: (3, 4, 0, 0, 1, 0) :: (5, 5, 1, 0, 0, 0) :: (32, 4, (-23), 0, 0, 0) :: bl_115_18 ∧ bl_115_18 = (1, 4, 0, 0, 1, 0) :: (0, 1, 59, 0, 0, 0) :: (6, 0, 0, 0, 0, 0) :: (0, 1, 60, 0, 0, 0) :: (9, 0, 0, 0, 0, 0) :: (55, 0, 0, 0, 0, 0) :: [] := by refine ⟨?_, ?_, ?_, ?_, ?_, ?_⟩ <;> rfl
theorem cdS_116 : (mz_cd 116).drop 0 = bl_116_0 ∧ (mz_cd 116).drop 28 = bl_116_28 ∧ (mz_cd 116).drop 47 = bl_116_47 ∧ bl_116_0 = (2, 0, 0, 0, 0, 0) :: (1, 1, 0, 0, 0, 0) :: (0, 0, 0, 0, 0, 0) :: (50, 46, 9, 3, 161, 7054) :: (0, 0, 2, 0, 0, 0) :: (21, 28, 38, 0, 0, 0) :: (2, 0, 0, 0, 0, 0) :: (1, 1, 0, 0, 0, 0) :: (0, 0, 0, 0, 0, 0) :: (0, 0, 1, 0, 0, 0) :: (50, 48, 9, 4, 185, 7070) :: (2, 0, 0, 0, 0, 0) :: (1, 1, 0, 0, 0, 0) :: (0, 0, 2, 0, 0, 0) :: (2, 0, 0, 0, 0, 0) :: (37, 0, 0, 9, 9, 6114) :: (0, 0, 2, 0, 0, 0) :: (40, 0, 0, 0, 0, 0) :: (50, 48, 9, 4, 185, 7070) :: (2, 0, 0, 0, 0, 0) :: (0, 1, 9, 0, 0, 0) :: (1, 1, 0, 0, 0, 0) :: (2, 0, 0, 0, 0, 0) :: (1, 1, 0, 0, 0, 0) :: (0, 0, 1, 0, 0, 0) :: (50, 46, 9, 3, 161, 7054) :: (50, 44, 9, 4, 189, 7074) :: (32, 47, 33, 0, 0, 0) :: bl_116_28 ∧ bl_116_28 = (2, 0, 0, 0, 0, 0) :: (1, 1, 0, 0, 0, 0) :: (0, 0, 0, 0, 0, 0) :: (50, 46, 9, 3, 161, 7054) :: (0, 0, 3, 0, 0, 0) :: (21, 47, 23, 0, 0, 0) :: (2, 0, 0, 0, 0, 0) :: (1, 1, 0, 0, 0, 0) :: (0, 0, 0, 0, 0, 0) :: (0, 0, 0, 0, 0, 0) :: (50, 48, 9, 4, 185, 7070) :: (2, 0, 0, 0, 0, 0) :: (0, 1, 9, 0, 0, 0) :: (1, 1, 0, 0, 0, 0) :: (2, 0, 0, 0, 0, 0) :: (1, 1, 0, 0, 0, 0) :: (0, 0, 1, 0, 0, 0) :: (50, 46, 9, 3, 161, 7054) :: (50, 44, 9, 4, 189, 7074) :: bl_116_47 ∧ bl_116_47 = (57, 0, 0, 0, 0, 0) :: [] := by refine ⟨?_, ?_, ?_, ?_, ?_, ?_⟩ <;> rfl
theorem cdS_117 : (mz_cd 117).drop 0 = bl_117_0 ∧ (mz_cd 117).drop 10 = bl_117_10 ∧ (mz_cd 117).drop 17 = bl_117_17 ∧ bl_117_0 = (2, 0, 0, 0, 0, 0) :: (0, 0, 0, 0, 0, 0) :: (38, 4, 0, 9, 59, 6118) :: (1, 1, 0, 0, 0, 0) :: (0, 0, 0, 0, 0, 0) :: (0, 0, 1, 0, 0, 0) :: (49, 40, 9, 3, 70, 6204) :: (27, 10, 5, 0, 0, 0) :: (0, 0, (-1), 0, 0, 0) :: (55, 0, 0, 0, 0, 0) :: bl_117_10 ∧ bl_117_10 = (2, 0, 0, 0, 0, 0) :: (37, 3, 0, 9, 19, 6117) :: (1, 1, 0, 0, 0, 0) :: (42, 0, 0, 0, 0, 0) :: (27, 17, 6, 0, 0, 0) :: (0, 1, (-3), 0, 0, 0) :: (55, 0, 0, 0, 0, 0) :: bl_117_17 ∧ bl_117_17 = (2, 0, 0, 0, 0, 0) :: (37, 2, 0, 9, 16, 6116) :: (1, 1, 0, 0, 0, 0) :: (2, 0, 0, 0, 0, 0) :: (37, 0, 0, 9, 9, 6114) :: (0, 0, 0, 0, 0, 0) :: (49, 36, 9, 4, 155, 7032) :: (2, 0, 0, 0, 0, 0) :: (37, 0, 0, 9, 9, 6114) :: (0, 0, 2, 0, 0, 0) :: (40, 0, 0, 0, 0, 0) :: (55, 0, 0, 0, 0, 0) :: [] := by refine ⟨?_, ?_, ?_, ?_, ?_, ?_⟩ <;> rfl
theorem cdS_118 : (mz_cd 118).drop 0 = bl_118_0 ∧ (mz_cd 118).drop 9 = bl_118_9 ∧ (mz_cd 118).drop 27 = bl_118_27 ∧ (mz_cd 118).drop 28 = bl_118_28 ∧ (mz_cd 118).drop 32 = bl_118_32 ∧ bl_118_0 = (2, 0, 0, 0, 0, 0) :: (37, 0, 0, 9, 9, 6114) :: (0, 2, 223, 0, 0, 0) :: (1, 1, 0, 0, 0, 0) :: (6, 0, 0, 0, 0, 0) :: (40, 0, 0, 0, 0, 0) :: (3, 2, 0, 0, 0, 0) :: (0, 0, 0, 0, 0, 0) :: (3, 3, 0, 0, 0, 0) :: bl_118_9 ∧ bl_118_9 = (1, 3, 0, 0, 0, 0) :: (0, 1, 16, 0, 0, 0) :: (23, 32, 37, 0, 0, 0) :: (1, 2, 0, 0, 0, 0) :: (2, 0, 0, 0, 0, 0) :: (1, 3, 0, 0, 0, 0) :: (0, 0, 0, 0, 0, 0) :: (50, 46, 9, 3, 161, 7054) :: (0, 0, 3, 0, 0, 0) :: (21, 27, 17, 0, 0, 0) :: (2, 0, 0, 0, 0, 0) :: (1, 3, 0, 0, 0, 0) :: (0, 0, 1, 0, 0, 0) :: (50, 46, 9, 3, 161, 7054) :: (1, 1, 0, 0, 0, 0) :: (21, 27, 7, 0, 0, 0) :: (0, 0, 1, 0, 0, 0) :: (32, 28, 4, 0, 0, 0) :: bl_118_27 ∧ bl_118_27 = (0, 0, 0, 0, 0, 0) :: bl_118_28 ∧ bl_118_28 = (7, 0, 0, 0, 0, 0) :: (3, 2, 0, 0, 0, 0) :: (5, 3, 1, 0, 0, 0) :: (32, 9, (-37), 0, 0, 0) :: bl_118_32 ∧ bl_118_32 = (1, 2, 0, 0, 0, 0) :: (55, 0, 0, 0, 0, 0) :: [] := by refine ⟨?_, ?_, ?_, ?_, ?_, ?_, ?_, ?_, ?_, ?_⟩ <;> rfl
theorem cdS_119 : (mz_cd 119).drop 0 = bl_119_0 ∧ (mz_cd 119).drop 10 = bl_119_10 ∧ bl_119_0 = (2, 0, 0, 0, 0, 0) :: (0, 0, 0, 0, 0, 0) :: (38, 4, 0, 9, 59, 6118) :: (1, 1, 0, 0, 0, 0) :: (0, 0, 0, 0, 0, 0) :: (0, 0, 1, 0, 0, 0) :: (49, 40, 9, 3, 70, 6204) :: (27, 10, 5, 0, 0, 0) :: (0, 0, (-1), 0, 0, 0) :: (55, 0, 0, 0, 0, 0) :: bl_119_10 ∧ bl_119_10 = (2, 0, 0, 0, 0, 0) :: (37, 0, 0, 9, 9, 6114) :: (0, 0, 0, 0, 0, 0) :: (2, 0, 0, 0, 0, 0) :: (37, 2, 0, 9, 16, 6116) :: (1, 1, 0, 0, 0, 0) :: (49, 36, 9, 4, 155, 7032) :: (2, 0, 0, 0, 0, 0) :: (37, 3, 0, 9, 19, 6117) :: (1, 1, 0, 0, 0, 0) :: (0, 0, 1, 0, 0, 0) :: (43, 0, 0, 0, 0, 0) :: (2, 0, 0, 0, 0, 0) :: (37, 0, 0, 9, 9, 6114) :: (0, 0, 2, 0, 0, 0) :: (40, 0, 0, 0, 0, 0) :: (55, 0, 0, 0, 0, 0) :: [] := by refine ⟨?_, ?_, ?_, ?_⟩ <;> rfl
theorem cdS_120 : (mz_cd 120).drop 0 = bl_120_0 ∧ (mz_cd 120).drop 4 = bl_120_4 ∧ (mz_cd 120).drop 25 = bl_120_25 ∧ (mz_cd 120).drop 29 = bl_120_29 ∧ (mz_cd 120).drop 30 = bl_120_30 ∧ (mz_cd 120).drop 32 = bl_120_32 ∧ bl_120_0 = (1, 2, 0, 0, 0, 0) :: (3, 3, 0, 0, 0, 0) :: (0, 0, 0, 0, 0, 0) :: (3, 4, 0, 0, 1, 0) :: bl_120_4 ∧ bl_120_4 = (1, 4, 0, 0, 1, 0) :: (2, 0, 0, 0, 0, 0) :: (37, 0, 0, 9, 9, 6114) :: (0, 2, 429, 0, 0, 0) :: (40, 0, 0, 0, 0, 0) :: (23, 32, 48, 0, 0, 0) :: (1, 3, 0, 0, 0, 0) :: (28, 32, 44, 0, 0, 0) :: (2, 0, 0, 0, 0, 0) :: (1, 4, 0, 0, 1, 0) :: (0, 0, 1, 0, 0, 0) :: (50, 37, 9, 3, 158, 7111) :: (0, 0, 4, 0, 0, 0) :: (21, 30, 27, 0, 0, 0) :: (2, 0, 0, 0, 0, 0) :: (1, 4, 0, 0, 1, 0) :: (0, 0, 2, 0, 0, 0) :: (50, 37, 9, 3, 158, 7111) :: (1, 1, 0, 0, 0, 0) :: (20, 25, 6, 0, 0, 0) :: (32, 30, 13, 0, 0, 0) :: bl_120_25 ∧ bl_120_25 = (1, 3, 0, 0, 0, 0) :: (27, 29, 6, 0, 0, 0) :: (1, 4, 0, 0, 1, 0) :: (55, 0, 0, 0, 0, 0) :: bl_120_29 ∧ bl_120_29 = (5, 3, (-1), 0, 0, 0) :: bl_120_30 ∧ bl_120_30 = (5, 4, 1, 0, 0, 0) :: (32, 4, (-55), 0, 0, 0) :: bl_120_32 ∧ bl_120_32 = (0, 0, (-1), 0, 0, 0) :: (55, 0, 0, 0, 0, 0) :: [] := by refine ⟨?_, ?_, ?_, ?_, ?_, ?_, ?_, ?_, ?_, ?_, ?_, ?_⟩ <;> rfl
theorem cdS_121 : (mz_cd 121).drop 0 = bl_121_0 ∧ (mz_cd 121).drop 4 = bl_121_4 ∧ (mz_cd 121).drop 25 = bl_121_25 ∧ (mz_cd 121).drop 26 = bl_121_26 ∧ (mz_cd 121).drop 30 = bl_121_30 ∧ bl_121_0 = (0, 0, 0, 0, 0, 0) :: (3, 2, 0, 0, 0, 0) :: (0, 0, 0, 0, 0, 0) :: (3, 3, 0, 0, 0, 0) :: bl_121_4 ∧ bl_121_4 = (1, 3, 0, 0, 0, 0) :: (2, 0, 0, 0, 0, 0) :: (37, 0, 0, 9, 9, 6114) :: (0, 2, 429, 0, 0, 0) :: (40, 0, 0, 0, 0, 0) :: (23, 30, 37, 0, 0, 0) :: (1, 2, 0, 0, 0, 0) :: (2, 0, 0, 0, 0, 0) :: (1, 3, 0, 0, 0, 0) :: (0, 0, 1, 0, 0, 0) :: (50, 37, 9, 3, 158, 7111) :: (0, 0, 4, 0, 0, 0) :: (21, 25, 17, 0, 0, 0) :: (2, 0, 0, 0, 0, 0) :: (1, 3, 0, 0, 0, 0) :: (0, 0, 2, 0, 0, 0) :: (50, 37, 9, 3, 158, 7111) :: (1, 1, 0, 0, 0, 0) :: (21, 25, 7, 0, 0, 0) :: (0, 0, 1, 0, 0, 0) :: (32, 26, 4, 0, 0, 0) :: bl_121_25 ∧ bl_121_25 = (0, 0, 0, 0, 0, 0) :: bl_121_26 ∧ bl_121_26 = (6, 0, 0, 0, 0, 0) :: (3, 2, 0, 0, 0, 0) :: (5, 3, 1, 0, 0, 0) :: (32, 4, (-43), 0, 0, 0) :: bl_121_30 ∧ bl_121_30 = (1, 2, 0, 0, 0, 0) :: (55, 0, 0, 0, 0, 0) :: [] := by refine ⟨?_, ?_, ?_, ?_, ?_, ?_, ?_, ?_, ?_, ?_⟩ <;> rfl
theorem cdS_122 : (mz_cd 122).drop 0 = bl_122_0 ∧ (mz_cd 122).drop 12 = bl_122_12 ∧ (mz_cd 122).drop 20 = bl_122_20 ∧ (mz_cd 122).drop 41 = bl_122_41 ∧ (mz_cd 122).drop 43 = bl_122_43 ∧ (mz_cd 122).drop 54 = bl_122_54 ∧ (mz_cd 122).drop 93 = bl_122_93 ∧ (mz_cd 122).drop 133 = bl_122_133 ∧ (mz_cd 122).drop 135 = bl_122_135 ∧ (mz_cd 122).drop 137 = bl_122_137 ∧ bl_122_0 = (1, 1, 0, 0, 0, 0) :: (2, 0, 0, 0, 0, 0) :: (36, 19, 0, 9, 240, 6133) :: (24, 12, 20, 0, 0, 0) :: (1, 1, 0, 0, 0, 0) :: (2, 0, 0, 0, 0, 0) :: (36, 19, 0, 9, 240, 6133) :: (21, 41, 66, 0, 0, 0) :: (1, 4, 0, 0, 1, 0) :: (2, 0, 0, 0, 0, 0) :: (36, 20, 0, 9, 243, 6134) :: (23, 41, 57, 0, 0, 0) :: bl_122_12 ∧ bl_122_12 = (2, 0, 0, 0, 0, 0) :: (1, 1, 0, 0, 0, 0) :: (38, 19, 0, 9, 240, 6133) :: (2, 0, 0, 0, 0, 0) :: (1, 4, 0, 0, 1, 0) :: (38, 20, 0, 9, 243, 6134) :: (0, 0, 0, 0, 0, 0) :: (3, 5, 0, 0, 1, 0) :: bl_122_20 ∧ bl_122_20 = (1, 5, 0, 0, 1, 0) :: (1, 1, 0, 0, 0, 0) :: (23, 41, 37, 0, 0, 0) :: (2, 0, 0, 0, 0, 0) :: (37, 15, 0, 9, 36, 6129) :: (1, 5, 0, 0, 1, 0) :: (2, 0, 0, 0, 0, 0) :: (37, 13, 0, 9, 30, 6127) :: (1, 5, 0, 0, 1, 0) :: (40, 0, 0, 0, 0, 0) :: (41, 0, 0, 0, 0, 0) :: (2, 0, 0, 0, 0, 0) :: (37, 16, 0, 9, 39, 6130) :: (1, 5, 0, 0, 1, 0) :: (2, 0, 0, 0, 0, 0) :: (37, 14, 0, 9, 33, 6128) :: (1, 5, 0, 0, 1, 0) :: (40, 0, 0, 0, 0, 0) :: (41, 0, 0, 0, 0, 0) :: (5, 5, 1, 0, 0, 0) :: (32, 20, (-37), 0, 0, 0) :: bl_122_41 ∧ bl_122_41 = (0, 0, 0, 0, 0, 0) :: (3, 5, 0, 0, 1, 0) :: bl_122_43 ∧ bl_122_43 = (1, 5, 0, 0, 1, 0) :: (2, 0, 0, 0, 0, 0) :: (36, 18, 0, 9, 231, 6132) :: (23, 137, 156, 0, 0, 0) :: (2, 0, 0, 0, 0, 0) :: (37, 12, 0, 9, 27, 6126) :: (1, 5, 0, 0, 1, 0) :: (40, 0, 0, 0, 0, 0) :: (3, 6, 0, 0, 1, 0) :: (0, 0, 0, 0, 0, 0) :: (3, 7, 0, 0, 1, 0) :: bl_122_54 ∧ bl_122_54 = (1, 7, 0, 0, 1, 0) :: (2, 0, 0, 0, 0, 0) :: (37, 0, 0, 9, 9, 6114) :: (0, 0, 0, 0, 0, 0) :: (40, 0, 0, 0, 0, 0) :: (23, 135, 127, 0, 0, 0) :: (1, 3, 0, 0, 0, 0) :: (1, 5, 0, 0, 1, 0) :: (15, 0, 0, 0, 0, 0) :: (0, 0, 1, 0, 0, 0) :: (11, 0, 0, 0, 0, 0) :: (27, 135, 118, 0, 0, 0) :: (2, 0, 0, 0, 0, 0) :: (1, 2, 0, 0, 0, 0) :: (2, 0, 0, 0, 0, 0) :: (1, 6, 0, 0, 1, 0) :: (0, 0, 1, 0, 0, 0) :: (50, 46, 9, 3, 161, 7054) :: (50, 51, 9, 3, 249, 7168) :: (0, 1, 10, 0, 0, 0) :: (6, 0, 0, 0, 0, 0) :: (2, 0, 0, 0, 0, 0) :: (2, 0, 0, 0, 0, 0) :: (1, 6, 0, 0, 1, 0) :: (0, 0, 1, 0, 0, 0) :: (50, 46, 9, 3, 161, 7054) :: (1, 7, 0, 0, 1, 0) :: (50, 51, 9, 3, 249, 7168) :: (6, 0, 0, 0, 0, 0) :: (3, 8, 0, 0, 1, 0) :: (2, 0, 0, 0, 0, 0) :: (37, 17, 0, 9, 42, 6131) :: (1, 7, 0, 0, 1, 0) :: (40, 0, 0, 0, 0, 0) :: (26, 133, 71, 0, 0, 0) :: (1, 8, 0, 0, 1, 0) :: (0, 3, 1000000, 0, 63, 6109) :: (22, 93, 6, 0, 0, 0) :: (32, 133, 61, 0, 0, 0) :: bl_122_93 ∧ bl_122_93 = (2, 0, 0, 0, 0, 0) :: (37, 17, 0, 9, 42, 6131) :: (1, 7, 0, 0, 1, 0) :: (69, 0, 0, 0, 0, 0) :: (40, 0, 0, 0, 0, 0) :: (0, 0, 1, 0, 0, 0) :: (7, 0, 0, 0, 0, 0) :: (41, 0, 0, 0, 0, 0) :: (2, 0, 0, 0, 0, 0) :: (37, 13, 0, 9, 30, 6127) :: (1, 1, 0, 0, 0, 0) :: (1, 6, 0, 0, 1, 0) :: (41, 0, 0, 0, 0, 0) :: (2, 0, 0, 0, 0, 0) :: (37, 14, 0, 9, 33, 6128) :: (1, 1, 0, 0, 0, 0) :: (1, 7, 0, 0, 1, 0) :: (41, 0, 0, 0, 0, 0) :: (2, 0, 0, 0, 0, 0) :: (1, 1, 0, 0, 0, 0) :: (0, 0, 1, 0, 0, 0) :: (6, 0, 0, 0, 0, 0) :: (1, 7, 0, 0, 1, 0) :: (1, 3, 0, 0, 0, 0) :: (0, 0, 1, 0, 0, 0) :: (1, 5, 0, 0, 1, 0) :: (14, 0, 0, 0, 0, 0) :: (12, 0, 0, 0, 0, 0) :: (1, 4, 0, 0, 1, 0) :: (1, 8, 0, 0, 1, 0) :: (6, 0, 0, 0, 0, 0) :: (99, 0, 0, 0, 0, 0) :: (2, 0, 0, 0, 0, 0) :: (37, 17, 0, 9, 42, 6131) :: (1, 7, 0, 0, 1, 0) :: (69, 0, 0, 0, 0, 0) :: (40, 0, 0, 0, 0, 0) :: (0, 0, 1, 0, 0, 0) :: (6, 0, 0, 0, 0, 0) :: (41, 0, 0, 0, 0, 0) :: bl_122_133 ∧ bl_122_133 = (5, 7, 1, 0, 0, 0) :: (32, 54, (-132), 0, 0, 0) :: bl_122_135 ∧ bl_122_135 = (5, 5, 1, 0, 0, 0) :: (32, 43, (-159), 0, 0, 0) :: bl_122_137 ∧ bl_122_137 = (57, 0, 0, 0, 0, 0) :: [] := by refine ⟨?_, ?_, ?_, ?_, ?_, ?_, ?_, ?_, ?_, ?_, ?_, ?_, ?_, ?_, ?_, ?_, ?_, ?_, ?_, ?_⟩ <;> rfl
theorem cdS_123 : (mz_cd 123).drop 0 = bl_123_0 ∧ (mz_cd 123).drop 4 = bl_123_4 ∧ (mz_cd 123).drop 30 = bl_123_30 ∧ (mz_cd 123).drop 31 = bl_123_31 ∧ (mz_cd 123).drop 35 = bl_123_35 ∧ bl_123_0 = (0, 0, 0, 0, 0, 0) :: (3, 2, 0, 0, 0, 0) :: (0, 0, 0, 0, 0, 0) :: (3, 3, 0, 0, 0, 0) :: bl_123_4 ∧ bl_123_4 = (1, 3, 0, 0, 0, 0) :: (2, 0, 0, 0, 0, 0) :: (37, 0, 0, 9, 9, 6114) :: (0, 2, 429, 0, 0, 0) :: (40, 0, 0, 0, 0, 0) :: (23, 35, 46, 0, 0, 0) :: (1, 2, 0, 0, 0, 0) :: (2, 0, 0, 0, 0, 0) :: (1, 3, 0, 0, 0, 0) :: (0, 0, 1, 0, 0, 0) :: (50, 37, 9, 3, 158, 7111) :: (0, 0, 4, 0, 0, 0) :: (21, 30, 26, 0, 0, 0) :: (2, 0, 0, 0, 0, 0) :: (1, 3, 0, 0, 0, 0) :: (0, 0, 2, 0, 0, 0) :: (50, 37, 9, 3, 158, 7111) :: (1, 1, 0, 0, 0, 0) :: (21, 30, 16, 0, 0, 0) :: (2, 0, 0, 0, 0, 0) :: (1, 3, 0, 0, 0, 0) :: (0, 0, 4, 0, 0, 0) :: (50, 37, 9, 3, 158, 7111) :: (27, 30, 7, 0, 0, 0) :: (0, 0, 1, 0, 0, 0) :: (32, 31, 4, 0, 0, 0) :: bl_123_30 ∧ bl_123_30 = (0, 0, 0, 0, 0, 0) :: bl_123_31 ∧ bl_123_31 = (6, 0, 0, 0, 0, 0) :: (3, 2, 0, 0, 0, 0) :: (5, 3, 1, 0, 0, 0) :: (32, 4, (-52), 0, 0, 0) :: bl_123_35 ∧ bl_123_35 = (1, 2, 0, 0, 0, 0) :: (55, 0, 0, 0, 0, 0) :: [] := by refine ⟨?_, ?_, ?_, ?_, ?_, ?_, ?_, ?_, ?_, ?_⟩ <;> rfl
theorem cdS_124 : (mz_cd 124).drop 0 = bl_124_0 ∧ bl_124_0 = (1, 1, 0, 0, 0, 0) :: (2, 0, 0, 0, 0, 0) :: (48, 0, 0, 0, 0, 0) :: (49, 52, 90, 2, 9, 2234) :: (2, 0, 0, 0, 0, 0) :: (1, 1, 0, 0, 0, 0) :: (44, 0, 0, 0, 0, 0) :: (0, 2, 255, 0, 0, 0) :: (11, 0, 0, 0, 0, 0) :: (74, 0, 0, 0, 0, 0) :: (55, 3, 0, 0, 0, 0) :: [] := by refine ⟨?_, ?_⟩ <;> rfl
theorem cdS_125 : (mz_cd 125).drop 0 = bl_125_0 ∧ bl_125_0 = (2, 0, 0, 0, 0, 0) :: (2, 1, 0, 0, 0, 0) :: (36, 0, 0, 1, 30, 1184) :: (38, 0, 0, 1, 30, 1184) :: (2, 1, 0, 0, 0, 0) :: (37, 1, 0, 1, 11, 1187) :: (2, 0, 0, 0, 0, 0) :: (37, 1, 0, 1, 11, 1187) :: (52, 85, 8, 2, 34, 20) :: (2, 1, 0, 0, 0, 0) :: (37, 2, 0, 1, 15, 1189) :: (2, 0, 0, 0, 0, 0) :: (37, 2, 0, 1, 15, 1189) :: (52, 85, 8, 2, 34, 20) :: (2, 1, 0, 0, 0, 0) :: (37, 3, 0, 1, 18, 1191) :: (2, 0, 0, 0, 0, 0) :: (37, 3, 0, 1, 18, 1191) :: (52, 85, 8, 2, 34, 20) :: (2, 1, 0, 0, 0, 0) :: (37, 4, 0, 1, 21, 1193) :: (2, 0, 0, 0, 0, 0) :: (37, 4, 0, 1, 21, 1193) :: (52, 85, 8, 2, 34, 20) :: (57, 0, 0, 0, 0, 0) :: [] := by refine ⟨?_, ?_⟩ <;> rfl
theorem cdS_126 : (mz_cd 126).drop 0 = bl_126_0 ∧ (mz_cd 126).drop 4 = bl_126_4 ∧ (mz_cd 126).drop 27 = bl_126_27 ∧ (mz_cd 126).drop 49 = bl_126_49 ∧ (mz_cd 126).drop 51 = bl_126_51 ∧ bl_126_0 = (0, 0, 0, 0, 0, 0) :: (3, 4, 0, 0, 1, 0) :: (0, 0, 0, 0, 0, 0) :: (3, 5, 0, 0, 1, 0) :: bl_126_4 ∧ bl_126_4 = (1, 5, 0, 0, 1, 0) :: (2, 0, 0, 0, 0, 0) :: (36, 0, 0, 1, 30, 1184) :: (23, 51, 96, 0, 0, 0) :: (2, 0, 0, 0, 0, 0) :: (37, 3, 0, 1, 18, 1191) :: (1, 5, 0, 0, 1, 0) :: (52, 23, 8, 2, 42, 16) :: (3, 6, 0, 0, 1, 0) :: (2, 0, 0, 0, 0, 0) :: (37, 2, 0, 1, 15, 1189) :: (1, 5, 0, 0, 1, 0) :: (52, 23, 8, 2, 42, 16) :: (0, 0, 1, 0, 0, 0) :: (21, 27, 21, 0, 0, 0) :: (2, 0, 0, 0, 0, 0) :: (37, 5, 0, 1, 24, 1196) :: (1, 6, 0, 0, 1, 0) :: (2, 0, 0, 0, 0, 0) :: (37, 4, 0, 1, 21, 1193) :: (1, 5, 0, 0, 1, 0) :: (52, 23, 8, 2, 42, 16) :: (52, 31, 8, 3, 38, 14) :: bl_126_27 ∧ bl_126_27 = (2, 0, 0, 0, 0, 0) :: (1, 5, 0, 0, 1, 0) :: (1, 2, 0, 0, 0, 0) :: (0, 0, 2, 0, 0, 0) :: (50, 61, 1, 4, 46, 5021) :: (26, 49, 37, 0, 0, 0) :: (2, 3, 0, 0, 0, 0) :: (37, 3, 0, 4, 50, 1110) :: (2, 0, 0, 0, 0, 0) :: (37, 5, 0, 1, 24, 1196) :: (1, 6, 0, 0, 1, 0) :: (52, 23, 8, 2, 42, 16) :: (52, 23, 8, 2, 42, 16) :: (1, 1, 0, 0, 0, 0) :: (21, 49, 17, 0, 0, 0) :: (1, 4, 0, 0, 1, 0) :: (2, 0, 0, 0, 0, 0) :: (37, 4, 0, 1, 21, 1193) :: (1, 5, 0, 0, 1, 0) :: (52, 23, 8, 2, 42, 16) :: (6, 0, 0, 0, 0, 0) :: (3, 4, 0, 0, 1, 0) :: bl_126_49 ∧ bl_126_49 = (5, 5, 1, 0, 0, 0) :: (32, 4, (-99), 0, 0, 0) :: bl_126_51 ∧ bl_126_51 = (1, 4, 0, 0, 1, 0) :: (55, 0, 0, 0, 0, 0) :: [] := by refine ⟨?_, ?_, ?_, ?_, ?_, ?_, ?_, ?_, ?_, ?_⟩ <;> rfl
theorem cdS_127 : (mz_cd 127).drop 0 = bl_127_0 ∧ (mz_cd 127).drop 6 = bl_127_6 ∧ (mz_cd 127).drop 31 = bl_127_31 ∧ (mz_cd 127).drop 33 = bl_127_33 ∧ (mz_cd 127).drop 39 = bl_127_39 ∧ (mz_cd 127).drop 57 = bl_127_57 ∧ (mz_cd 127).drop 59 = bl_127_59 ∧ bl_127_0 = (2, 0, 0, 0, 0, 0) :: (37, 6, 0, 1, 27, 1197) :: (0, 0, 0, 0, 0, 0) :: (49, 4, 99, 2, 55, 5109) :: (0, 0, 0, 0, 0, 0) :: (3, 2, 0, 0, 0, 0) :: bl_127_6 ∧ bl_127_6 = (1, 2, 0, 0, 0, 0) :: (2, 0, 0, 0, 0, 0) :: (36, 0, 0, 1, 30, 1184) :: (23, 33, 46, 0, 0, 0) :: (2, 0, 0, 0, 0, 0) :: (1, 2, 0, 0, 0, 0) :: (1, 1, 0, 0, 0, 0) :: (0, 0, 1, 0, 0, 0) :: (50, 61, 1, 4, 46, 5021) :: (26, 31, 30, 0, 0, 0) :: (2, 0, 0, 0, 0, 0) :: (37, 4, 0, 1, 21, 1193) :: (1, 2, 0, 0, 0, 0) :: (52, 23, 8, 2, 42, 16) :: (3, 3, 0, 0, 0, 0) :: (2, 0, 0, 0, 0, 0) :: (37, 6, 0, 1, 27, 1197) :: (1, 3, 0, 0, 0, 0) :: (2, 0, 0, 0, 0, 0) :: (37, 6, 0, 1, 27, 1197) :: (1, 3, 0, 0, 0, 0) :: (52, 23, 8, 2, 42, 16) :: (0, 0, 1, 0, 0, 0) :: (6, 0, 0, 0, 0, 0) :: (52, 31, 8, 3, 38, 14) :: bl_127_31 ∧ bl_127_31 = (5, 2, 1, 0, 0, 0) :: (32, 6, (-48), 0, 0, 0) :: bl_127_33 ∧ bl_127_33 = (0, 0, (-1), 0, 0, 0) :: (3, 2, 0, 0, 0, 0) :: (0, 0, 0, 0, 0, 0) :: (3, 3, 0, 0, 0, 0) :: (0, 0, 0, 0, 0, 0) :: (3, 4, 0, 0, 1, 0) :: bl_127_39 ∧ bl_127_39 = (1, 4, 0, 0, 1, 0) :: (2, 0, 0, 0, 0, 0) :: (37, 6, 0, 1, 27, 1197) :: (48, 0, 0, 0, 0, 0) :: (23, 59, 31, 0, 0, 0) :: (2, 0, 0, 0, 0, 0) :: (37, 6, 0, 1, 27, 1197) :: (1, 4, 0, 0, 1, 0) :: (40, 0, 0, 0, 0, 0) :: (1, 3, 0, 0, 0, 0) :: (25, 57, 14, 0, 0, 0) :: (2, 0, 0, 0, 0, 0) :: (37, 6, 0, 1, 27, 1197) :: (1, 4, 0, 0, 1, 0) :: (40, 0, 0, 0, 0, 0) :: (3, 3, 0, 0, 0, 0) :: (1, 4, 0, 0, 1, 0) :: (3, 2, 0, 0, 0, 0) :: bl_127_57 ∧ bl_127_57 = (5, 4, 1, 0, 0, 0) :: (32, 39, (-35), 0, 0, 0) :: bl_127_59 ∧ bl_127_59 = (1, 2, 0, 0, 0, 0) :: (55, 0, 0, 0, 0, 0) :: [] := by refine ⟨?_, ?_, ?_, ?_, ?_, ?_, ?_, ?_, ?_, ?_, ?_, ?_, ?_, ?_⟩ <;> rfl
theorem cdS_128 : (mz_cd 128).drop 0 = bl_128_0 ∧ (mz_cd 128).drop 4 = bl_128_4 ∧ (mz_cd 128).drop 21 = bl_128_21 ∧ (mz_cd 128).drop 23 = bl_128_23 ∧ bl_128_0 = (0, 0, 0, 0, 0, 0) :: (3, 3, 0, 0, 0, 0) :: (0, 0, 0, 0, 0, 0) :: (3, 4, 0, 0, 1, 0) :: bl_128_4 ∧ bl_128_4 = (1, 4, 0, 0, 1, 0) :: (2, 0, 0, 0, 0, 0) :: (36, 0, 0, 1, 30, 1184) :: (23, 23, 32, 0, 0, 0) :: (2, 0, 0, 0, 0, 0) :: (1, 4, 0, 0, 1, 0) :: (1, 1, 0, 0, 0, 0) :: (1, 2, 0, 0, 0, 0) :: (50, 61, 1, 4, 46, 5021) :: (26, 21, 15, 0, 0, 0) :: (1, 3, 0, 0, 0, 0) :: (2, 0, 0, 0, 0, 0) :: (37, 4, 0, 1, 21, 1193) :: (1, 4, 0, 0, 1, 0) :: (52, 23, 8, 2, 42, 16) :: (6, 0, 0, 0, 0, 0) :: (3, 3, 0, 0, 0, 0) :: bl_128_21 ∧ bl_128_21 = (5, 4, 1, 0, 0, 0) :: (32, 4, (-35), 0, 0, 0) :: bl_128_23 ∧ bl_128_23 = (1, 3, 0, 0, 0, 0) :: (55, 0, 0, 0, 0, 0) :: [] := by refine ⟨?_, ?_, ?_, ?_, ?_, ?_, ?_, ?_⟩ <;> rfl
theorem cdS_129 : (mz_cd 129).drop 0 = bl_129_0 ∧ (mz_cd 129).drop 16 = bl_129_16 ∧ (mz_cd 129).drop 17 = bl_129_17 ∧ (mz_cd 129).drop 20 = bl_129_20 ∧ (mz_cd 129).drop 44 = bl_129_44 ∧ (mz_cd 129).drop 46 = bl_129_46 ∧ bl_129_0 = (1, 1, 0, 0, 0, 0) :: (0, 0, 1, 0, 0, 0) :: (1, 2, 0, 0, 0, 0) :: (14, 0, 0, 0, 0, 0) :: (0, 0, (-1), 0, 0, 0) :: (13, 0, 0, 0, 0, 0) :: (11, 0, 0, 0, 0, 0) :: (3, 4, 0, 0, 1, 0) :: (1, 4, 0, 0, 1, 0) :: (27, 16, 15, 0, 0, 0) :: (2, 3, 0, 0, 0, 0) :: (2, 0, 0, 0, 0, 0) :: (36, 2, 0, 2, 18, 2117) :: (1, 2, 0, 0, 0, 0) :: (50, 71, 4, 3, 79, 5146) :: (32, 17, 5, 0, 0, 0) :: bl_129_16 ∧ bl_129_16 = (0, 3, 1000000, 0, 61, 5140) :: bl_129_17 ∧ bl_129_17 = (3, 5, 0, 0, 1, 0) :: (0, 0, 0, 0, 0, 0) :: (3, 6, 0, 0, 1, 0) :: bl_129_20 ∧ bl_129_20 = (1, 6, 0, 0, 1, 0) :: (2, 3, 0, 0, 0, 0) :: (36, 0, 0, 4, 41, 1101) :: (23, 46, 49, 0, 0, 0) :: (1, 4, 0, 0, 1, 0) :: (1, 6, 0, 0, 1, 0) :: (52, 24, 8, 2, 62, 23) :: (26, 44, 33, 0, 0, 0) :: (1, 5, 0, 0, 1, 0) :: (2, 0, 0, 0, 0, 0) :: (37, 1, 0, 2, 15, 2116) :: (1, 4, 0, 0, 1, 0) :: (0, 1, 10, 0, 0, 0) :: (8, 0, 0, 0, 0, 0) :: (1, 6, 0, 0, 1, 0) :: (6, 0, 0, 0, 0, 0) :: (52, 23, 8, 2, 75, 24) :: (2, 3, 0, 0, 0, 0) :: (1, 6, 0, 0, 1, 0) :: (1, 2, 0, 0, 0, 0) :: (50, 71, 4, 3, 79, 5146) :: (6, 0, 0, 0, 0, 0) :: (76, 0, 0, 0, 70, 5148) :: (3, 5, 0, 0, 1, 0) :: bl_129_44 ∧ bl_129_44 = (5, 6, 1, 0, 0, 0) :: (32, 20, (-52), 0, 0, 0) :: bl_129_46 ∧ bl_129_46 = (1, 5, 0, 0, 1, 0) :: (0, 0, 5, 0, 0, 0) :: (6, 0, 0, 0, 0, 0) :: (55, 0, 0, 0, 0, 0) :: [] := by refine ⟨?_, ?_, ?_, ?_, ?_, ?_, ?_, ?_, ?_, ?_, ?_, ?_⟩ <;> rfl
theorem cdS_130 : (mz_cd 130).drop 0 = bl_130_0 ∧ (mz_cd 130).drop 4 = bl_130_4 ∧ (mz_cd 130).drop 10 = bl_130_10 ∧ (mz_cd 130).drop 26 = bl_130_26 ∧ (mz_cd 130).drop 28 = bl_130_28 ∧ bl_130_0 = (0, 0, 0, 0, 0, 0) :: (3, 4, 0, 0, 1, 0) :: (0, 0, 0, 0, 0, 0) :: (3, 5, 0, 0, 1, 0) :: bl_130_4 ∧ bl_130_4 = (1, 5, 0, 0, 1, 0) :: (2, 0, 0, 0, 0, 0) :: (36, 9, 0, 3, 78, 2079) :: (23, 28, 45, 0, 0, 0) :: (0, 0, 0, 0, 0, 0) :: (3, 6, 0, 0, 1, 0) :: bl_130_10 ∧ bl_130_10 = (1, 6, 0, 0, 1, 0) :: (2, 0, 0, 0, 0, 0) :: (36, 10, 0, 3, 108, 2080) :: (23, 26, 27, 0, 0, 0) :: (1, 4, 0, 0, 1, 0) :: (2, 0, 0, 0, 0, 0) :: (1, 1, 0, 0, 0, 0) :: (1, 2, 0, 0, 0, 0) :: (1, 3, 0, 0, 0, 0) :: (1, 5, 0, 0, 1, 0) :: (1, 6, 0, 0, 1, 0) :: (50, 68, 3, 6, 143, 4097) :: (75, 0, 0, 0, 147, 4103) :: (3, 4, 0, 0, 1, 0) :: (5, 6, 1, 0, 0, 0) :: (32, 10, (-30), 0, 0, 0) :: bl_130_26 ∧ bl_130_26 = (5, 5, 1, 0, 0, 0) :: (32, 4, (-48), 0, 0, 0) :: bl_130_28 ∧ bl_130_28 = (1, 4, 0, 0, 1, 0) :: (55, 0, 0, 0, 0, 0) :: [] := by refine ⟨?_, ?_, ?_, ?_, ?_, ?_, ?_, ?_, ?_, ?_⟩ <;> rfl
theorem cdS_131 : (mz_cd 131).drop 0 = bl_131_0 ∧ (mz_cd 131).drop 14 = bl_131_14 ∧ (mz_cd 131).drop 53 = bl_131_53 ∧ (mz_cd 131).drop 55 = bl_131_55 ∧ bl_131_0 = (2, 1, 0, 0, 0, 0) :: (50, 77, 6, 1, 74, 4051) :: (3, 2, 0, 0, 0, 0) :: (2, 0, 0, 0, 0, 0) :: (0, 0, 0, 0, 0, 0) :: (38, 9, 0, 3, 78, 2079) :: (2, 1, 0, 0, 0, 0) :: (37, 1, 0, 6, 81, 2040) :: (4, 3, 0, 0, 0, 0) :: (2, 3, 0, 0, 0, 0) :: (48, 0, 0, 0, 0, 0) :: (3, 4, 0, 0, 1, 0) :: (0, 0, 0, 0, 0, 0) :: (3, 5, 0, 0, 1, 0) :: bl_131_14 ∧ bl_131_14 = (1, 5, 0, 0, 1, 0) :: (1, 4, 0, 0, 1, 0) :: (23, 55, 82, 0, 0, 0) :: (2, 3, 0, 0, 0, 0) :: (1, 5, 0, 0, 1, 0) :: (46, 0, 0, 0, 0, 0) :: (4, 6, 0, 0, 1, 0) :: (1, 2, 0, 0, 0, 0) :: (2, 6, 0, 0, 1, 0) :: (36, 0, 0, 0, 85, 1219) :: (52, 24, 8, 2, 90, 17) :: (26, 53, 58, 0, 0, 0) :: (2, 0, 0, 0, 0, 0) :: (2, 6, 0, 0, 1, 0) :: (1, 2, 0, 0, 0, 0) :: (2, 1, 0, 0, 0, 0) :: (50, 65, 3, 4, 94, 4062) :: (0, 1, 6, 0, 0, 0) :: (23, 53, 45, 0, 0, 0) :: (2, 0, 0, 0, 0, 0) :: (37, 0, 0, 3, 11, 2067) :: (2, 0, 0, 0, 0, 0) :: (36, 9, 0, 3, 78, 2079) :: (2, 6, 0, 0, 1, 0) :: (36, 0, 0, 0, 85, 1219) :: (52, 31, 8, 3, 98, 18) :: (2, 0, 0, 0, 0, 0) :: (37, 1, 0, 3, 15, 2068) :: (2, 0, 0, 0, 0, 0) :: (36, 9, 0, 3, 78, 2079) :: (2, 6, 0, 0, 1, 0) :: (36, 2, 0, 0, 102, 1226) :: (52, 31, 8, 3, 98, 18) :: (2, 0, 0, 0, 0, 0) :: (18, 0, 0, 0, 0, 0) :: (36, 9, 0, 3, 78, 2079) :: (0, 0, 1, 0, 0, 0) :: (6, 0, 0, 0, 0, 0) :: (38, 9, 0, 3, 78, 2079) :: bl_131_53 ∧ bl_131_53 = (5, 5, 1, 0, 0, 0) :: (32, 14, (-83), 0, 0, 0) :: bl_131_55 ∧ bl_131_55 = (57, 0, 0, 0, 0, 0) :: [] := by refine ⟨?_, ?_, ?_, ?_, ?_, ?_, ?_, ?_⟩ <;> rfl
theorem cdS_132 : (mz_cd 132).drop 0 = bl_132_0 ∧ (mz_cd 132).drop 5 = bl_132_5 ∧ (mz_cd 132).drop 39 = bl_132_39 ∧ (mz_cd 132).drop 41 = bl_132_41 ∧ bl_132_0 = (2, 0, 0, 0, 0, 0) :: (0, 0, 0, 0, 0, 0) :: (38, 10, 0, 3, 108, 2080) :: (0, 0, 0, 0, 0, 0) :: (3, 2, 0, 0, 0, 0) :: bl_132_5 ∧ bl_132_5 = (1, 2, 0, 0, 0, 0) :: (2, 1, 0, 0, 0, 0) :: (37, 0, 0, 6, 46, 2036) :: (36, 0, 0, 4, 111, 1103) :: (23, 41, 66, 0, 0, 0) :: (2, 1, 0, 0, 0, 0) :: (37, 0, 0, 6, 46, 2036) :: (1, 2, 0, 0, 0, 0) :: (50, 70, 4, 2, 116, 4071) :: (26, 39, 49, 0, 0, 0) :: (2, 0, 0, 0, 0, 0) :: (36, 10, 0, 3, 108, 2080) :: (0, 0, 2, 0, 0, 0) :: (23, 39, 41, 0, 0, 0) :: (2, 0, 0, 0, 0, 0) :: (37, 2, 0, 3, 18, 2069) :: (2, 0, 0, 0, 0, 0) :: (36, 10, 0, 3, 108, 2080) :: (1, 2, 0, 0, 0, 0) :: (52, 31, 8, 3, 98, 18) :: (2, 0, 0, 0, 0, 0) :: (37, 3, 0, 3, 21, 2070) :: (2, 0, 0, 0, 0, 0) :: (36, 10, 0, 3, 108, 2080) :: (2, 1, 0, 0, 0, 0) :: (1, 2, 0, 0, 0, 0) :: (50, 78, 6, 2, 120, 4072) :: (52, 31, 8, 3, 98, 18) :: (2, 0, 0, 0, 0, 0) :: (18, 0, 0, 0, 0, 0) :: (36, 10, 0, 3, 108, 2080) :: (0, 0, 1, 0, 0, 0) :: (6, 0, 0, 0, 0, 0) :: (38, 10, 0, 3, 108, 2080) :: bl_132_39 ∧ bl_132_39 = (5, 2, 1, 0, 0, 0) :: (32, 5, (-71), 0, 0, 0) :: bl_132_41 ∧ bl_132_41 = (57, 0, 0, 0, 0, 0) :: [] := by refine ⟨?_, ?_, ?_, ?_, ?_, ?_, ?_, ?_⟩ <;> rfl
theorem cdS_133 : (mz_cd 133).drop 0 = bl_133_0 ∧ (mz_cd 133).drop 2 = bl_133_2 ∧ (mz_cd 133).drop 8 = bl_133_8 ∧ (mz_cd 133).drop 14 = bl_133_14 ∧ (mz_cd 133).drop 51 = bl_133_51 ∧ (mz_cd 133).drop 53 = bl_133_53 ∧ (mz_cd 133).drop 55 = bl_133_55 ∧ bl_133_0 = (0, 0, 0, 0, 0, 0) :: (3, 2, 0, 0, 0, 0) :: bl_133_2 ∧ bl_133_2 = (1, 2, 0, 0, 0, 0) :: (2, 0, 0, 0, 0, 0) :: (36, 10, 0, 3, 108, 2080) :: (23, 55, 104, 0, 0, 0) :: (0, 0, 0, 0, 0, 0) :: (3, 3, 0, 0, 0, 0) :: bl_133_8 ∧ bl_133_8 = (1, 3, 0, 0, 0, 0) :: (2, 0, 0, 0, 0, 0) :: (36, 9, 0, 3, 78, 2079) :: (23, 53, 88, 0, 0, 0) :: (0, 0, 0, 0, 0, 0) :: (3, 4, 0, 0, 1, 0) :: bl_133_14 ∧ bl_133_14 = (1, 4, 0, 0, 1, 0) :: (2, 0, 0, 0, 0, 0) :: (36, 10, 0, 3, 108, 2080) :: (23, 51, 70, 0, 0, 0) :: (2, 0, 0, 0, 0, 0) :: (37, 1, 0, 3, 15, 2068) :: (1, 3, 0, 0, 0, 0) :: (52, 23, 8, 2, 70, 19) :: (3, 5, 0, 0, 1, 0) :: (2, 1, 0, 0, 0, 0) :: (2, 0, 0, 0, 0, 0) :: (37, 2, 0, 3, 18, 2069) :: (1, 2, 0, 0, 0, 0) :: (52, 23, 8, 2, 70, 19) :: (1, 5, 0, 0, 1, 0) :: (50, 71, 4, 3, 124, 4081) :: (2, 1, 0, 0, 0, 0) :: (1, 5, 0, 0, 1, 0) :: (2, 0, 0, 0, 0, 0) :: (37, 2, 0, 3, 18, 2069) :: (1, 4, 0, 0, 1, 0) :: (52, 23, 8, 2, 70, 19) :: (50, 71, 4, 3, 124, 4081) :: (6, 0, 0, 0, 0, 0) :: (3, 6, 0, 0, 1, 0) :: (2, 0, 0, 0, 0, 0) :: (37, 4, 0, 3, 24, 2071) :: (1, 2, 0, 0, 0, 0) :: (1, 3, 0, 0, 0, 0) :: (1, 4, 0, 0, 1, 0) :: (49, 14, 3, 3, 128, 4082) :: (1, 6, 0, 0, 1, 0) :: (0, 1, 10, 0, 0, 0) :: (6, 0, 0, 0, 0, 0) :: (52, 31, 8, 3, 98, 18) :: (5, 4, 1, 0, 0, 0) :: (32, 14, (-73), 0, 0, 0) :: bl_133_51 ∧ bl_133_51 = (5, 3, 1, 0, 0, 0) :: (32, 8, (-90), 0, 0, 0) :: bl_133_53 ∧ bl_133_53 = (5, 2, 1, 0, 0, 0) :: (32, 2, (-106), 0, 0, 0) :: bl_133_55 ∧ bl_133_55 = (57, 0, 0, 0, 0, 0) :: [] := by refine ⟨?_, ?_, ?_, ?_, ?_, ?_, ?_, ?_, ?_, ?_, ?_, ?_, ?_, ?_⟩ <;> rfl
theorem cdS_134 : (mz_cd 134).drop 0 = bl_134_0 ∧ (mz_cd 134).drop 7 = bl_134_7 ∧ (mz_cd 134).drop 21 = bl_134_21 ∧ (mz_cd 134).drop 23 = bl_134_23 ∧ (mz_cd 134).drop 28 = bl_134_28 ∧ (mz_cd 134).drop 33 = bl_134_33 ∧ (mz_cd 134).drop 61 = bl_134_61 ∧ (mz_cd 134).drop 63 = bl_134_63 ∧ (mz_cd 134).drop 65 = bl_134_65 ∧ (mz_cd 134).drop 67 = bl_134_67 ∧ bl_134_0 = (2, 0, 0, 0, 0, 0) :: (37, 6, 0, 4, 21, 1118) :: (2, 0, 0, 0, 0, 0) :: (37, 7, 0, 4, 24, 1119) :: (52, 85, 8, 2, 58, 2) :: (0, 0, 0, 0, 0, 0) :: (3, 1, 0, 0, 0, 0) :: bl_134_7 ∧ bl_134_7 = (1, 1, 0, 0, 0, 0) :: (0, 1, 10, 0, 0, 0) :: (23, 21, 23, 0, 0, 0) :: (2, 0, 0, 0, 0, 0) :: (37, 7, 0, 4, 24, 1119) :: (1, 1, 0, 0, 0, 0) :: (0, 1, 10, 0, 0, 0) :: (8, 0, 0, 0, 0, 0) :: (1, 1, 0, 0, 0, 0) :: (6, 0, 0, 0, 0, 0) :: (0, 0, 0, 0, 0, 0) :: (52, 31, 8, 3, 78, 3) :: (5, 1, 1, 0, 0, 0) :: (32, 7, (-23), 0, 0, 0) :: bl_134_21 ∧ bl_134_21 = (0, 0, 0, 0, 0, 0) :: (3, 1, 0, 0, 0, 0) :: bl_134_23 ∧ bl_134_23 = (1, 1, 0, 0, 0, 0) :: (0, 1, 10, 0, 0, 0) :: (23, 67, 78, 0, 0, 0) :: (0, 0, 0, 0, 0, 0) :: (3, 2, 0, 0, 0, 0) :: bl_134_28 ∧ bl_134_28 = (1, 2, 0, 0, 0, 0) :: (0, 1, 10, 0, 0, 0) :: (23, 65, 64, 0, 0, 0) :: (0, 0, 0, 0, 0, 0) :: (3, 3, 0, 0, 0, 0) :: bl_134_33 ∧ bl_134_33 = (1, 3, 0, 0, 0, 0) :: (0, 1, 10, 0, 0, 0) :: (23, 63, 50, 0, 0, 0) :: (2, 0, 0, 0, 0, 0) :: (1, 2, 0, 0, 0, 0) :: (1, 1, 0, 0, 0, 0) :: (50, 71, 4, 3, 88, 1093) :: (2, 0, 0, 0, 0, 0) :: (1, 1, 0, 0, 0, 0) :: (1, 3, 0, 0, 0, 0) :: (50, 71, 4, 3, 88, 1093) :: (6, 0, 0, 0, 0, 0) :: (3, 4, 0, 0, 1, 0) :: (1, 4, 0, 0, 1, 0) :: (2, 0, 0, 0, 0, 0) :: (1, 2, 0, 0, 0, 0) :: (1, 3, 0, 0, 0, 0) :: (50, 71, 4, 3, 88, 1093) :: (23, 61, 18, 0, 0, 0) :: (2, 0, 0, 0, 0, 0) :: (37, 7, 0, 4, 24, 1119) :: (1, 2, 0, 0, 0, 0) :: (0, 1, 10, 0, 0, 0) :: (8, 0, 0, 0, 0, 0) :: (1, 3, 0, 0, 0, 0) :: (6, 0, 0, 0, 0, 0) :: (1, 4, 0, 0, 1, 0) :: (52, 31, 8, 3, 78, 3) :: bl_134_61 ∧ bl_134_61 = (5, 3, 1, 0, 0, 0) :: (32, 33, (-50), 0, 0, 0) :: bl_134_63 ∧ bl_134_63 = (5, 2, 1, 0, 0, 0) :: (32, 28, (-64), 0, 0, 0) :: bl_134_65 ∧ bl_134_65 = (5, 1, 1, 0, 0, 0) :: (32, 23, (-78), 0, 0, 0) :: bl_134_67 ∧ bl_134_67 = (57, 0, 0, 0, 0, 0) :: [] := by refine ⟨?_, ?_, ?_, ?_, ?_, ?_, ?_, ?_, ?_, ?_, ?_, ?_, ?_, ?_, ?_, ?_, ?_, ?_, ?_, ?_⟩ <;> rfl
theorem cdS_135 : (mz_cd 135).drop 0 = bl_135_0 ∧ (mz_cd 135).drop 7 = bl_135_7 ∧ (mz_cd 135).drop 31 = bl_135_31 ∧ (mz_cd 135).drop 33 = bl_135_33 ∧ bl_135_0 = (2, 0, 0, 0, 0, 0) :: (1, 1, 0, 0, 0, 0) :: (1, 2, 0, 0, 0, 0) :: (50, 71, 4, 3, 88, 1093) :: (3, 3, 0, 0, 0, 0) :: (0, 0, 0, 0, 0, 0) :: (3, 4, 0, 0, 1, 0) :: bl_135_7 ∧ bl_135_7 = (1, 4, 0, 0, 1, 0) :: (2, 0, 0, 0, 0, 0) :: (36, 0, 0, 4, 37, 1100) :: (23, 33, 44, 0, 0, 0) :: (1, 3, 0, 0, 0, 0) :: (0, 3, 1000000, 0, 53, 1071) :: (23, 33, 38, 0, 0, 0) :: (2, 0, 0, 0, 0, 0) :: (37, 6, 0, 4, 21, 1118) :: (1, 1, 0, 0, 0, 0) :: (0, 1, 10, 0, 0, 0) :: (8, 0, 0, 0, 0, 0) :: (1, 4, 0, 0, 1, 0) :: (6, 0, 0, 0, 0, 0) :: (52, 23, 8, 2, 66, 4) :: (2, 0, 0, 0, 0, 0) :: (1, 4, 0, 0, 1, 0) :: (1, 2, 0, 0, 0, 0) :: (50, 71, 4, 3, 88, 1093) :: (6, 0, 0, 0, 0, 0) :: (1, 3, 0, 0, 0, 0) :: (21, 31, 6, 0, 0, 0) :: (1, 4, 0, 0, 1, 0) :: (55, 0, 0, 0, 0, 0) :: bl_135_31 ∧ bl_135_31 = (5, 4, 1, 0, 0, 0) :: (32, 7, (-47), 0, 0, 0) :: bl_135_33 ∧ bl_135_33 = (0, 0, (-1), 0, 0, 0) :: (55, 0, 0, 0, 0, 0) :: [] := by refine ⟨?_, ?_, ?_, ?_, ?_, ?_, ?_, ?_⟩ <;> rfl
theorem cdS_136 : (mz_cd 136).drop 0 = bl_136_0 ∧ (mz_cd 136).drop 17 = bl_136_17 ∧ bl_136_0 = (2, 0, 0, 0, 0, 0) :: (1, 1, 0, 0, 0, 0) :: (50, 70, 4, 2, 74, 3092) :: (27, 17, 26, 0, 0, 0) :: (2, 0, 0, 0, 0, 0) :: (18, 0, 0, 0, 0, 0) :: (36, 1, 0, 4, 41, 1105) :: (0, 0, 1, 0, 0, 0) :: (6, 0, 0, 0, 0, 0) :: (38, 1, 0, 4, 41, 1105) :: (2, 0, 0, 0, 0, 0) :: (36, 2, 0, 4, 44, 1107) :: (0, 0, (-1), 0, 0, 0) :: (21, 17, 8, 0, 0, 0) :: (2, 0, 0, 0, 0, 0) :: (1, 1, 0, 0, 0, 0) :: (38, 2, 0, 4, 44, 1107) :: bl_136_17 ∧ bl_136_17 = (2, 0, 0, 0, 0, 0) :: (37, 5, 0, 4, 18, 1116) :: (1, 1, 0, 0, 0, 0) :: (1, 2, 0, 0, 0, 0) :: (52, 31, 8, 3, 78, 3) :: (57, 0, 0, 0, 0, 0) :: [] := by refine ⟨?_, ?_, ?_, ?_⟩ <;> rfl
theorem cdS_137 : (mz_cd 137).drop 0 = bl_137_0 ∧ (mz_cd 137).drop 11 = bl_137_11 ∧ (mz_cd 137).drop 16 = bl_137_16 ∧ (mz_cd 137).drop 22 = bl_137_22 ∧ (mz_cd 137).drop 49 = bl_137_49 ∧ (mz_cd 137).drop 61 = bl_137_61 ∧ bl_137_0 = (2, 0, 0, 0, 0, 0) :: (50, 75, 5, 1, 45, 2189) :: (2, 0, 0, 0, 0, 0) :: (50, 20, 5, 1, 75, 2193) :: (49, 19, 5, 1, 134, 3029) :: (27, 11, 12, 0, 0, 0) :: (2, 0, 0, 0, 0, 0) :: (0, 0, 1, 0, 0, 0) :: (2, 0, 0, 0, 0, 0) :: (36, 3, 0, 5, 33, 1144) :: (50, 17, 5, 3, 64, 3021) :: bl_137_11 ∧ bl_137_11 = (2, 0, 0, 0, 0, 0) :: (36, 6, 0, 5, 36, 1148) :: (26, 16, 5, 0, 0, 0) :: (0, 0, (-1), 0, 0, 0) :: (55, 0, 0, 0, 0, 0) :: bl_137_16 ∧ bl_137_16 = (2, 0, 0, 0, 0, 0) :: (2, 0, 0, 0, 0, 0) :: (36, 3, 0, 5, 33, 1144) :: (38, 4, 0, 5, 99, 1145) :: (0, 0, 0, 0, 0, 0) :: (3, 3, 0, 0, 0, 0) :: bl_137_22 ∧ bl_137_22 = (2, 0, 0, 0, 0, 0) :: (36, 3, 0, 5, 33, 1144) :: (2, 0, 0, 0, 0, 0) :: (36, 2, 0, 5, 22, 1143) :: (23, 49, 44, 0, 0, 0) :: (2, 0, 0, 0, 0, 0) :: (50, 20, 5, 1, 75, 2193) :: (49, 19, 5, 1, 134, 3029) :: (26, 49, 34, 0, 0, 0) :: (0, 3, 1000000, 0, 137, 3032) :: (1, 3, 0, 0, 0, 0) :: (0, 1, 10, 0, 0, 0) :: (8, 0, 0, 0, 0, 0) :: (2, 0, 0, 0, 0, 0) :: (50, 20, 5, 1, 75, 2193) :: (6, 0, 0, 0, 0, 0) :: (0, 1, 48, 0, 0, 0) :: (7, 0, 0, 0, 0, 0) :: (76, 0, 0, 0, 138, 3033) :: (3, 3, 0, 0, 0, 0) :: (2, 0, 0, 0, 0, 0) :: (18, 0, 0, 0, 0, 0) :: (36, 3, 0, 5, 33, 1144) :: (0, 0, 1, 0, 0, 0) :: (6, 0, 0, 0, 0, 0) :: (38, 3, 0, 5, 33, 1144) :: (32, 22, (-49), 0, 0, 0) :: bl_137_49 ∧ bl_137_49 = (1, 3, 0, 0, 0, 0) :: (1, 1, 0, 0, 0, 0) :: (1, 2, 0, 0, 0, 0) :: (52, 33, 8, 3, 143, 9) :: (27, 61, 14, 0, 0, 0) :: (2, 0, 0, 0, 0, 0) :: (0, 0, 2, 0, 0, 0) :: (2, 0, 0, 0, 0, 0) :: (36, 4, 0, 5, 99, 1145) :: (50, 17, 5, 3, 64, 3021) :: (0, 0, (-1), 0, 0, 0) :: (55, 0, 0, 0, 0, 0) :: bl_137_61 ∧ bl_137_61 = (1, 3, 0, 0, 0, 0) :: (55, 0, 0, 0, 0, 0) :: [] := by refine ⟨?_, ?_, ?_, ?_, ?_, ?_, ?_, ?_, ?_, ?_, ?_, ?_⟩ <;> rfl
theorem cdS_138 : (mz_cd 138).drop 0 = bl_138_0 ∧ (mz_cd 138).drop 10 = bl_138_10 ∧ (mz_cd 138).drop 24 = bl_138_24 ∧ bl_138_0 = (0, 0, 0, 0, 0, 0) :: (3, 1, 0, 0, 0, 0) :: (2, 0, 0, 0, 0, 0) :: (37, 1, 0, 6, 20, 2039) :: (4, 2, 0, 0, 0, 0) :: (2, 2, 0, 0, 0, 0) :: (48, 0, 0, 0, 0, 0) :: (3, 3, 0, 0, 0, 0) :: (0, 0, 0, 0, 0, 0) :: (3, 4, 0, 0, 1, 0) :: bl_138_10 ∧ bl_138_10 = (1, 4, 0, 0, 1, 0) :: (1, 3, 0, 0, 0, 0) :: (23, 24, 23, 0, 0, 0) :: (2, 2, 0, 0, 0, 0) :: (1, 4, 0, 0, 1, 0) :: (46, 0, 0, 0, 0, 0) :: (4, 5, 0, 0, 1, 0) :: (1, 1, 0, 0, 0, 0) :: (2, 5, 0, 0, 1, 0) :: (50, 56, 0, 1, 186, 5033) :: (6, 0, 0, 0, 0, 0) :: (3, 1, 0, 0, 0, 0) :: (5, 4, 1, 0, 0, 0) :: (32, 10, (-23), 0, 0, 0) :: bl_138_24 ∧ bl_138_24 = (1, 1, 0, 0, 0, 0) :: (55, 0, 0, 0, 0, 0) :: [] := by refine ⟨?_, ?_, ?_, ?_, ?_, ?_⟩ <;> rfl
theorem cdS_139 : (mz_cd 139).drop 0 = bl_139_0 ∧ (mz_cd 139).drop 10 = bl_139_10 ∧ (mz_cd 139).drop 28 = bl_139_28 ∧ (mz_cd 139).drop 30 = bl_139_30 ∧ bl_139_0 = (0, 0, 0, 0, 0, 0) :: (3, 2, 0, 0, 0, 0) :: (2, 0, 0, 0, 0, 0) :: (37, 1, 0, 6, 20, 2039) :: (4, 3, 0, 0, 0, 0) :: (2, 3, 0, 0, 0, 0) :: (48, 0, 0, 0, 0, 0) :: (3, 4, 0, 0, 1, 0) :: (0, 0, 0, 0, 0, 0) :: (3, 5, 0, 0, 1, 0) :: bl_139_10 ∧ bl_139_10 = (1, 5, 0, 0, 1, 0) :: (1, 4, 0, 0, 1, 0) :: (23, 30, 34, 0, 0, 0) :: (2, 3, 0, 0, 0, 0) :: (1, 5, 0, 0, 1, 0) :: (46, 0, 0, 0, 0, 0) :: (4, 6, 0, 0, 1, 0) :: (2, 6, 0, 0, 1, 0) :: (1, 1, 0, 0, 0, 0) :: (50, 58, 0, 2, 67, 3137) :: (26, 28, 13, 0, 0, 0) :: (1, 2, 0, 0, 0, 0) :: (0, 0, 1, 0, 0, 0) :: (2, 6, 0, 0, 1, 0) :: (36, 0, 0, 0, 60, 1220) :: (14, 0, 0, 0, 0, 0) :: (12, 0, 0, 0, 0, 0) :: (3, 2, 0, 0, 0, 0) :: bl_139_28 ∧ bl_139_28 = (5, 5, 1, 0, 0, 0) :: (32, 10, (-35), 0, 0, 0) :: bl_139_30 ∧ bl_139_30 = (1, 2, 0, 0, 0, 0) :: (55, 0, 0, 0, 0, 0) :: [] := by refine ⟨?_, ?_, ?_, ?_, ?_, ?_, ?_, ?_⟩ <;> rfl
theorem cdS_140 : (mz_cd 140).drop 0 = bl_140_0 ∧ bl_140_0 = (2, 0, 0, 0, 0, 0) :: (37, 2, 0, 6, 27, 2041) :: (2, 0, 0, 0, 0, 0) :: (36, 3, 0, 6, 48, 2043) :: (1, 1, 0, 0, 0, 0) :: (2, 2, 0, 0, 0, 0) :: (36, 0, 0, 0, 60, 1220) :: (1, 3, 0, 0, 0, 0) :: (50, 59, 1, 5, 63, 3163) :: (57, 0, 0, 0, 0, 0) :: [] := by refine ⟨?_, ?_⟩ <;> rfl
theorem cdS_141 : (mz_cd 141).drop 0 = bl_141_0 ∧ (mz_cd 141).drop 11 = bl_141_11 ∧ (mz_cd 141).drop 12 = bl_141_12 ∧ bl_141_0 = (1, 1, 0, 0, 0, 0) :: (1, 2, 0, 0, 0, 0) :: (23, 11, 17, 0, 0, 0) :: (2, 0, 0, 0, 0, 0) :: (1, 2, 0, 0, 0, 0) :: (50, 79, 7, 2, 48, 3206) :: (2, 0, 0, 0, 0, 0) :: (1, 1, 0, 0, 0, 0) :: (50, 79, 7, 2, 48, 3206) :: (7, 0, 0, 0, 0, 0) :: (32, 12, 4, 0, 0, 0) :: bl_141_11 ∧ bl_141_11 = (0, 0, 0, 0, 0, 0) :: bl_141_12 ∧ bl_141_12 = (55, 0, 0, 0, 0, 0) :: [] := by refine ⟨?_, ?_, ?_, ?_, ?_, ?_⟩ <;> rfl
theorem cdS_142 : (mz_cd 142).drop 0 = bl_142_0 ∧ bl_142_0 = (2, 1, 0, 0, 0, 0) :: (37, 0, 0, 7, 9, 1052) :: (2, 0, 0, 0, 0, 0) :: (37, 0, 0, 7, 9, 1052) :: (52, 85, 8, 2, 25, 12) :: (2, 0, 0, 0, 0, 0) :: (2, 1, 0, 0, 0, 0) :: (36, 1, 0, 7, 15, 1054) :: (38, 1, 0, 7, 15, 1054) :: (57, 0, 0, 0, 0, 0) :: [] := by refine ⟨?_, ?_⟩ <;> rfl
theorem cdS_143 : (mz_cd 143).drop 0 = bl_143_0 ∧ (mz_cd 143).drop 4 = bl_143_4 ∧ (mz_cd 143).drop 17 = bl_143_17 ∧ bl_143_0 = (0, 0, 0, 0, 0, 0) :: (3, 3, 0, 0, 0, 0) :: (0, 0, 0, 0, 0, 0) :: (3, 4, 0, 0, 1, 0) :: bl_143_4 ∧ bl_143_4 = (1, 4, 0, 0, 1, 0) :: (1, 2, 0, 0, 0, 0) :: (23, 17, 20, 0, 0, 0) :: (1, 3, 0, 0, 0, 0) :: (2, 0, 0, 0, 0, 0) :: (1, 1, 0, 0, 0, 0) :: (1, 4, 0, 0, 1, 0) :: (6, 0, 0, 0, 0, 0) :: (50, 82, 7, 2, 37, 3188) :: (6, 0, 0, 0, 0, 0) :: (3, 3, 0, 0, 0, 0) :: (5, 4, 1, 0, 0, 0) :: (32, 4, (-20), 0, 0, 0) :: bl_143_17 ∧ bl_143_17 = (1, 3, 0, 0, 0, 0) :: (55, 0, 0, 0, 0, 0) :: [] := by refine ⟨?_, ?_, ?_, ?_, ?_, ?_⟩ <;> rfl
theorem cdS_144 : (mz_cd 144).drop 0 = bl_144_0 ∧ (mz_cd 144).drop 6 = bl_144_6 ∧ (mz_cd 144).drop 22 = bl_144_22 ∧ bl_144_0 = (1, 3, 0, 0, 0, 0) :: (0, 1, 60, 0, 0, 0) :: (8, 0, 0, 0, 0, 0) :: (3, 4, 0, 0, 1, 0) :: (1, 1, 0, 0, 0, 0) :: (3, 5, 0, 0, 1, 0) :: bl_144_6 ∧ bl_144_6 = (1, 5, 0, 0, 1, 0) :: (1, 2, 0, 0, 0, 0) :: (23, 22, 31, 0, 0, 0) :: (2, 0, 0, 0, 0, 0) :: (1, 5, 0, 0, 1, 0) :: (50, 82, 7, 2, 37, 3188) :: (1, 4, 0, 0, 1, 0) :: (24, 22, 20, 0, 0, 0) :: (1, 4, 0, 0, 1, 0) :: (2, 0, 0, 0, 0, 0) :: (1, 5, 0, 0, 1, 0) :: (50, 82, 7, 2, 37, 3188) :: (7, 0, 0, 0, 0, 0) :: (3, 4, 0, 0, 1, 0) :: (5, 5, 1, 0, 0, 0) :: (32, 6, (-31), 0, 0, 0) :: bl_144_22 ∧ bl_144_22 = (1, 5, 0, 0, 1, 0) :: (55, 0, 0, 0, 0, 0) :: [] := by refine ⟨?_, ?_, ?_, ?_, ?_, ?_⟩ <;> rfl
theorem cdS_145 : (mz_cd 145).drop 0 = bl_145_0 ∧ (mz_cd 145).drop 9 = bl_145_9 ∧ (mz_cd 145).drop 11 = bl_145_11 ∧ bl_145_0 = (1, 1, 0, 0, 0, 0) :: (0, 0, 0, 0, 0, 0) :: (0, 2, 255, 0, 0, 0) :: (49, 33, 8, 3, 45, 2160) :: (26, 9, 13, 0, 0, 0) :: (2, 0, 0, 0, 0, 0) :: (37, 0, 0, 8, 10, 2137) :: (50, 18, 5, 1, 49, 2163) :: (26, 11, 5, 0, 0, 0) :: bl_145_9 ∧ bl_145_9 = (0, 0, (-1), 0, 0, 0) :: (55, 0, 0, 0, 0, 0) :: bl_145_11 ∧ bl_145_11 = (2, 0, 0, 0, 0, 0) :: (37, 0, 0, 8, 10, 2137) :: (1, 1, 0, 0, 0, 0) :: (50, 73, 5, 2, 53, 2167) :: (55, 0, 0, 0, 0, 0) :: [] := by refine ⟨?_, ?_, ?_, ?_, ?_, ?_⟩ <;> rfl
theorem cdS_146 : (mz_cd 146).drop 0 = bl_146_0 ∧ (mz_cd 146).drop 12 = bl_146_12 ∧ (mz_cd 146).drop 14 = bl_146_14 ∧ (mz_cd 146).drop 26 = bl_146_26 ∧ (mz_cd 146).drop 27 = bl_146_27 ∧ bl_146_0 = (2, 0, 0, 0, 0, 0) :: (37, 1, 0, 8, 19, 2138) :: (37, 0, 0, 6, 75, 2038) :: (1, 1, 0, 0, 0, 0) :: (50, 15, 4, 2, 95, 3124) :: (26, 12, 17, 0, 0, 0) :: (2, 0, 0, 0, 0, 0) :: (37, 1, 0, 8, 19, 2138) :: (37, 0, 0, 6, 75, 2038) :: (1, 2, 0, 0, 0, 0) :: (50, 15, 4, 2, 95, 3124) :: (27, 14, 5, 0, 0, 0) :: bl_146_12 ∧ bl_146_12 = (0, 0, (-1), 0, 0, 0) :: (55, 0, 0, 0, 0, 0) :: bl_146_14 ∧ bl_146_14 = (2, 0, 0, 0, 0, 0) :: (37, 1, 0, 8, 19, 2138) :: (37, 0, 0, 6, 75, 2038) :: (1, 1, 0, 0, 0, 0) :: (1, 2, 0, 0, 0, 0) :: (50, 71, 4, 3, 201, 4160) :: (3, 3, 0, 0, 0, 0) :: (1, 3, 0, 0, 0, 0) :: (0, 3, 1000000, 0, 204, 4161) :: (22, 26, 8, 0, 0, 0) :: (0, 1, (-3), 0, 0, 0) :: (32, 27, 4, 0, 0, 0) :: bl_146_26 ∧ bl_146_26 = (1, 3, 0, 0, 0, 0) :: bl_146_27 ∧ bl_146_27 = (55, 0, 0, 0, 0, 0) :: [] := by refine ⟨?_, ?_, ?_, ?_, ?_, ?_, ?_, ?_, ?_, ?_⟩ <;> rfl
theorem cdS_147 : (mz_cd 147).drop 0 = bl_147_0 ∧ (mz_cd 147).drop 9 = bl_147_9 ∧ (mz_cd 147).drop 11 = bl_147_11 ∧ bl_147_0 = (2, 0, 0, 0, 0, 0) :: (37, 1, 0, 8, 19, 2138) :: (1, 1, 0, 0, 0, 0) :: (50, 22, 6, 2, 91, 3120) :: (4, 2, 0, 0, 0, 0) :: (2, 2, 0, 0, 0, 0) :: (34, 9, 7, 0, 0, 0) :: (0, 0, (-1), 0, 0, 0) :: (32, 11, 7, 0, 0, 0) :: bl_147_9 ∧ bl_147_9 = (2, 2, 0, 0, 0, 0) :: (50, 56, 0, 1, 154, 4034) :: bl_147_11 ∧ bl_147_11 = (55, 0, 0, 0, 0, 0) :: [] := by refine ⟨?_, ?_, ?_, ?_, ?_, ?_⟩ <;> rfl
theorem cdS_148 : (mz_cd 148).drop 0 = bl_148_0 ∧ (mz_cd 148).drop 11 = bl_148_11 ∧ (mz_cd 148).drop 13 = bl_148_13 ∧ bl_148_0 = (2, 0, 0, 0, 0, 0) :: (37, 1, 0, 8, 19, 2138) :: (37, 0, 0, 6, 75, 2038) :: (1, 1, 0, 0, 0, 0) :: (50, 15, 4, 2, 95, 3124) :: (26, 11, 14, 0, 0, 0) :: (1, 2, 0, 0, 0, 0) :: (0, 0, 0, 0, 0, 0) :: (0, 2, 600, 0, 0, 0) :: (49, 33, 8, 3, 45, 2160) :: (27, 13, 5, 0, 0, 0) :: bl_148_11 ∧ bl_148_11 = (0, 0, (-1), 0, 0, 0) :: (55, 0, 0, 0, 0, 0) :: bl_148_13 ∧ bl_148_13 = (2, 0, 0, 0, 0, 0) :: (37, 1, 0, 8, 19, 2138) :: (1, 1, 0, 0, 0, 0) :: (2, 0, 0, 0, 0, 0) :: (37, 1, 0, 8, 19, 2138) :: (36, 3, 0, 6, 88, 2045) :: (1, 2, 0, 0, 0, 0) :: (6, 0, 0, 0, 0, 0) :: (50, 76, 6, 3, 313, 5097) :: (55, 0, 0, 0, 0, 0) :: [] := by refine ⟨?_, ?_, ?_, ?_, ?_, ?_⟩ <;> rfl
theorem cdS_149 : (mz_cd 149).drop 0 = bl_149_0 ∧ (mz_cd 149).drop 8 = bl_149_8 ∧ (mz_cd 149).drop 19 = bl_149_19 ∧ (mz_cd 149).drop 20 = bl_149_20 ∧ bl_149_0 = (2, 0, 0, 0, 0, 0) :: (37, 1, 0, 8, 19, 2138) :: (37, 0, 0, 6, 75, 2038) :: (1, 1, 0, 0, 0, 0) :: (50, 15, 4, 2, 95, 3124) :: (27, 8, 5, 0, 0, 0) :: (0, 0, (-1), 0, 0, 0) :: (55, 0, 0, 0, 0, 0) :: bl_149_8 ∧ bl_149_8 = (2, 0, 0, 0, 0, 0) :: (37, 1, 0, 8, 19, 2138) :: (37, 0, 0, 6, 75, 2038) :: (1, 1, 0, 0, 0, 0) :: (50, 70, 4, 2, 217, 4195) :: (26, 19, 14, 0, 0, 0) :: (2, 0, 0, 0, 0, 0) :: (37, 1, 0, 8, 19, 2138) :: (1, 1, 0, 0, 0, 0) :: (50, 78, 6, 2, 220, 4196) :: (32, 20, 5, 0, 0, 0) :: bl_149_19 ∧ bl_149_19 = (0, 1, (-3), 0, 0, 0) :: bl_149_20 ∧ bl_149_20 = (55, 0, 0, 0, 0, 0) :: [] := by refine ⟨?_, ?_, ?_, ?_, ?_, ?_, ?_, ?_⟩ <;> rfl
theorem cdS_150 : (mz_cd 150).drop 0 = bl_150_0 ∧ bl_150_0 = (2, 0, 0, 0, 0, 0) :: (37, 1, 0, 8, 19, 2138) :: (50, 77, 6, 1, 260, 5005) :: (55, 0, 0, 0, 0, 0) :: [] := by refine ⟨?_, ?_⟩ <;> rfl
theorem cdS_151 : (mz_cd 151).drop 0 = bl_151_0 ∧ (mz_cd 151).drop 4 = bl_151_4 ∧ (mz_cd 151).drop 28 = bl_151_28 ∧ (mz_cd 151).drop 30 = bl_151_30 ∧ (mz_cd 151).drop 31 = bl_151_31 ∧ (mz_cd 151).drop 41 = bl_151_41 ∧ (mz_cd 151).drop 42 = bl_151_42 ∧ (mz_cd 151).drop 46 = bl_151_46 ∧ bl_151_0 = (0, 0, 0, 0, 0, 0) :: (3, 2, 0, 0, 0, 0) :: (0, 0, 0, 0, 0, 0) :: (3, 3, 0, 0, 0, 0) :: bl_151_4 ∧ bl_151_4 = (1, 3, 0, 0, 0, 0) :: (0, 1, 16, 0, 0, 0) :: (23, 46, 72, 0, 0, 0) :: (2, 0, 0, 0, 0, 0) :: (1, 3, 0, 0, 0, 0) :: (0, 0, 5, 0, 0, 0) :: (50, 46, 9, 3, 161, 7054) :: (2, 0, 0, 0, 0, 0) :: (1, 1, 0, 0, 0, 0) :: (0, 0, 5, 0, 0, 0) :: (50, 46, 9, 3, 161, 7054) :: (22, 28, 23, 0, 0, 0) :: (2, 0, 0, 0, 0, 0) :: (1, 3, 0, 0, 0, 0) :: (0, 0, 5, 0, 0, 0) :: (50, 46, 9, 3, 161, 7054) :: (2, 0, 0, 0, 0, 0) :: (1, 1, 0, 0, 0, 0) :: (0, 0, 5, 0, 0, 0) :: (50, 46, 9, 3, 161, 7054) :: (21, 30, 12, 0, 0, 0) :: (1, 3, 0, 0, 0, 0) :: (1, 1, 0, 0, 0, 0) :: (23, 30, 7, 0, 0, 0) :: bl_151_28 ∧ bl_151_28 = (0, 0, 1, 0, 0, 0) :: (32, 31, 4, 0, 0, 0) :: bl_151_30 ∧ bl_151_30 = (0, 0, 0, 0, 0, 0) :: bl_151_31 ∧ bl_151_31 = (3, 4, 0, 0, 1, 0) :: (1, 2, 0, 0, 0, 0) :: (2, 0, 0, 0, 0, 0) :: (1, 3, 0, 0, 0, 0) :: (50, 107, 9, 2, 228, 7152) :: (26, 41, 12, 0, 0, 0) :: (1, 4, 0, 0, 1, 0) :: (26, 41, 7, 0, 0, 0) :: (0, 0, 1, 0, 0, 0) :: (32, 42, 4, 0, 0, 0) :: bl_151_41 ∧ bl_151_41 = (0, 0, 0, 0, 0, 0) :: bl_151_42 ∧ bl_151_42 = (6, 0, 0, 0, 0, 0) :: (3, 2, 0, 0, 0, 0) :: (5, 3, 1, 0, 0, 0) :: (32, 4, (-72), 0, 0, 0) :: bl_151_46 ∧ bl_151_46 = (1, 2, 0, 0, 0, 0) :: (55, 0, 0, 0, 0, 0) :: [] := by refine ⟨?_, ?_, ?_, ?_, ?_, ?_, ?_, ?_, ?_, ?_, ?_, ?_, ?_, ?_, ?_, ?_⟩ <;> rfl
theorem cdS_152 : (mz_cd 152).drop 0 = bl_152_0 ∧ (mz_cd 152).drop 8 = bl_152_8 ∧ (mz_cd 152).drop 21 = bl_152_21 ∧ (mz_cd 152).drop 22 = bl_152_22 ∧ bl_152_0 = (2, 0, 0, 0, 0, 0) :: (0, 0, 0, 0, 0, 0) :: (38, 4, 0, 9, 59, 6118) :: (1, 1, 0, 0, 0, 0) :: (49, 105, 9, 1, 171, 7047) :: (27, 8, 7, 0, 0, 0) :: (0, 0, (-1), 0, 0, 0) :: (32, 22, 29, 0, 0, 0) :: bl_152_8 ∧ bl_152_8 = (2, 0, 0, 0, 0, 0) :: (1, 1, 0, 0, 0, 0) :: (0, 0, 0, 0, 0, 0) :: (50, 46, 9, 3, 161, 7054) :: (1, 3, 0, 0, 0, 0) :: (1, 4, 0, 0, 1, 0) :: (49, 40, 9, 3, 70, 6204) :: (26, 21, 12, 0, 0, 0) :: (2, 0, 0, 0, 0, 0) :: (1, 1, 0, 0, 0, 0) :: (1, 2, 0, 0, 0, 0) :: (50, 46, 9, 3, 161, 7054) :: (32, 22, 5, 0, 0, 0) :: bl_152_21 ∧ bl_152_21 = (0, 1, (-2), 0, 0, 0) :: bl_152_22 ∧ bl_152_22 = (55, 0, 0, 0, 0, 0) :: [] := by refine ⟨?_, ?_, ?_, ?_, ?_, ?_, ?_, ?_⟩ <;> rfl
theorem cdS_153 : (mz_cd 153).drop 0 = bl_153_0 ∧ (mz_cd 153).drop 9 = bl_153_9 ∧ (mz_cd 153).drop 13 = bl_153_13 ∧ (mz_cd 153).drop 26 = bl_153_26 ∧ (mz_cd 153).drop 27 = bl_153_27 ∧ (mz_cd 153).drop 31 = bl_153_31 ∧ bl_153_0 = (2, 0, 0, 0, 0, 0) :: (0, 0, 0, 0, 0, 0) :: (38, 4, 0, 9, 59, 6118) :: (2, 0, 0, 0, 0, 0) :: (1, 1, 0, 0, 0, 0) :: (50, 106, 9, 2, 175, 7050) :: (27, 9, 5, 0, 0, 0) :: (0, 0, (-1), 0, 0, 0) :: (55, 0, 0, 0, 0, 0) :: bl_153_9 ∧ bl_153_9 = (0, 0, 0, 0, 0, 0) :: (3, 2, 0, 0, 0, 0) :: (0, 0, 0, 0, 0, 0) :: (3, 3, 0, 0, 0, 0) :: bl_153_13 ∧ bl_153_13 = (1, 3, 0, 0, 0, 0) :: (0, 1, 16, 0, 0, 0) :: (23, 31, 28, 0, 0, 0) :: (1, 2, 0, 0, 0, 0) :: (2, 0, 0, 0, 0, 0) :: (1, 3, 0, 0, 0, 0) :: (1, 1, 0, 0, 0, 0) :: (50, 104, 9, 3, 167, 7062) :: (26, 26, 9, 0, 0, 0) :: (0, 0, 1, 0, 0, 0) :: (1, 3, 0, 0, 0, 0) :: (14, 0, 0, 0, 0, 0) :: (32, 27, 4, 0, 0, 0) :: bl_153_26 ∧ bl_153_26 = (0, 0, 0, 0, 0, 0) :: bl_153_27 ∧ bl_153_27 = (12, 0, 0, 0, 0, 0) :: (3, 2, 0, 0, 0, 0) :: (5, 3, 1, 0, 0, 0) :: (32, 13, (-28), 0, 0, 0) :: bl_153_31 ∧ bl_153_31 = (1, 2, 0, 0, 0, 0) :: (55, 0, 0, 0, 0, 0) :: [] := by refine ⟨?_, ?_, ?_, ?_, ?_, ?_, ?_, ?_, ?_, ?_, ?_, ?_⟩ <;> rfl
theorem cdS_154 : (mz_cd 154).drop 0 = bl_154_0 ∧ (mz_cd 154).drop 12 = bl_154_12 ∧ (mz_cd 154).drop 14 = bl_154_14 ∧ (mz_cd 154).drop 21 = bl_154_21 ∧ (mz_cd 154).drop 42 = bl_154_42 ∧ (mz_cd 154).drop 43 = bl_154_43 ∧ (mz_cd 154).drop 46 = bl_154_46 ∧ bl_154_0 = (2, 0, 0, 0, 0, 0) :: (0, 0, 0, 0, 0, 0) :: (38, 4, 0, 9, 59, 6118) :: (2, 0, 0, 0, 0, 0) :: (1, 1, 0, 0, 0, 0) :: (50, 106, 9, 2, 175, 7050) :: (26, 12, 14, 0, 0, 0) :: (1, 2, 0, 0, 0, 0) :: (0, 0, 1, 0, 0, 0) :: (0, 2, 600, 0, 0, 0) :: (49, 40, 9, 3, 70, 6204) :: (27, 14, 5, 0, 0, 0) :: bl_154_12 ∧ bl_154_12 = (0, 0, (-1), 0, 0, 0) :: (55, 0, 0, 0, 0, 0) :: bl_154_14 ∧ bl_154_14 = (2, 0, 0, 0, 0, 0) :: (37, 0, 0, 9, 9, 6114) :: (0, 0, 2, 0, 0, 0) :: (40, 0, 0, 0, 0, 0) :: (3, 3, 0, 0, 0, 0) :: (1, 3, 0, 0, 0, 0) :: (3, 4, 0, 0, 1, 0) :: bl_154_21 ∧ bl_154_21 = (1, 4, 0, 0, 1, 0) :: (2, 0, 0, 0, 0, 0) :: (37, 0, 0, 9, 9, 6114) :: (0, 0, 2, 0, 0, 0) :: (40, 0, 0, 0, 0, 0) :: (0, 2, 1440, 0, 0, 0) :: (6, 0, 0, 0, 0, 0) :: (23, 46, 34, 0, 0, 0) :: (2, 0, 0, 0, 0, 0) :: (1, 1, 0, 0, 0, 0) :: (1, 4, 0, 0, 1, 0) :: (1, 2, 0, 0, 0, 0) :: (50, 115, 9, 4, 268, 8091) :: (2, 0, 0, 0, 0, 0) :: (1, 1, 0, 0, 0, 0) :: (1, 3, 0, 0, 0, 0) :: (1, 2, 0, 0, 0, 0) :: (50, 115, 9, 4, 268, 8091) :: (23, 42, 8, 0, 0, 0) :: (1, 4, 0, 0, 1, 0) :: (32, 43, 4, 0, 0, 0) :: bl_154_42 ∧ bl_154_42 = (1, 3, 0, 0, 0, 0) :: bl_154_43 ∧ bl_154_43 = (3, 3, 0, 0, 0, 0) :: (5, 4, 1, 0, 0, 0) :: (32, 21, (-43), 0, 0, 0) :: bl_154_46 ∧ bl_154_46 = (1, 3, 0, 0, 0, 0) :: (55, 0, 0, 0, 0, 0) :: [] := by refine ⟨?_, ?_, ?_, ?_, ?_, ?_, ?_, ?_, ?_, ?_, ?_, ?_, ?_, ?_⟩ <;> rfl
theorem cdS_155 : (mz_cd 155).drop 0 = bl_155_0 ∧ (mz_cd 155).drop 11 = bl_155_11 ∧ (mz_cd 155).drop 13 = bl_155_13 ∧ (mz_cd 155).drop 24 = bl_155_24 ∧ (mz_cd 155).drop 25 = bl_155_25 ∧ bl_155_0 = (2, 0, 0, 0, 0, 0) :: (0, 0, 0, 0, 0, 0) :: (38, 4, 0, 9, 59, 6118) :: (2, 0, 0, 0, 0, 0) :: (1, 1, 0, 0, 0, 0) :: (50, 106, 9, 2, 175, 7050) :: (26, 11, 11, 0, 0, 0) :: (2, 0, 0, 0, 0, 0) :: (1, 2, 0, 0, 0, 0) :: (50, 106, 9, 2, 175, 7050) :: (27, 13, 5, 0, 0, 0) :: bl_155_11 ∧ bl_155_11 = (0, 0, (-1), 0, 0, 0) :: (55, 0, 0, 0, 0, 0) :: bl_155_13 ∧ bl_155_13 = (2, 0, 0, 0, 0, 0) :: (1, 1, 0, 0, 0, 0) :: (1, 2, 0, 0, 0, 0) :: (50, 51, 9, 3, 249, 7168) :: (0, 3, 1000000, 0, 63, 6109) :: (23, 24, 12, 0, 0, 0) :: (2, 0, 0, 0, 0, 0) :: (1, 1, 0, 0, 0, 0) :: (1, 2, 0, 0, 0, 0) :: (50, 51, 9, 3, 249, 7168) :: (32, 25, 5, 0, 0, 0) :: bl_155_24 ∧ bl_155_24 = (0, 1, (-3), 0, 0, 0) :: bl_155_25 ∧ bl_155_25 = (55, 0, 0, 0, 0, 0) :: [] := by refine ⟨?_, ?_, ?_, ?_, ?_, ?_, ?_, ?_, ?_, ?_⟩ <;> rfl
theorem cdS_156 : (mz_cd 156).drop 0 = bl_156_0 ∧ (mz_cd 156).drop 10 = bl_156_10 ∧ (mz_cd 156).drop 11 = bl_156_11 ∧ bl_156_0 = (2, 0, 0, 0, 0, 0) :: (0, 0, 0, 0, 0, 0) :: (38, 4, 0, 9, 59, 6118) :: (1, 1, 0, 0, 0, 0) :: (49, 105, 9, 1, 171, 7047) :: (26, 10, 11, 0, 0, 0) :: (2, 0, 0, 0, 0, 0) :: (1, 1, 0, 0, 0, 0) :: (50, 113, 9, 2, 225, 7140) :: (32, 11, 4, 0, 0, 0) :: bl_156_10 ∧ bl_156_10 = (0, 0, (-1), 0, 0, 0) :: bl_156_11 ∧ bl_156_11 = (55, 0, 0, 0, 0, 0) :: [] := by refine ⟨?_, ?_, ?_, ?_, ?_, ?_⟩ <;> rfl
theorem cdS_157 : (mz_cd 157).drop 0 = bl_157_0 ∧ (mz_cd 157).drop 8 = bl_157_8 ∧ (mz_cd 157).drop 36 = bl_157_36 ∧ (mz_cd 157).drop 38 = bl_157_38 ∧ (mz_cd 157).drop 43 = bl_157_43 ∧ (mz_cd 157).drop 48 = bl_157_48 ∧ (mz_cd 157).drop 49 = bl_157_49 ∧ bl_157_0 = (2, 0, 0, 0, 0, 0) :: (1, 1, 0, 0, 0, 0) :: (0, 0, 0, 0, 0, 0) :: (50, 46, 9, 3, 161, 7054) :: (0, 0, 1, 0, 0, 0) :: (20, 8, 5, 0, 0, 0) :: (0, 0, 0, 0, 0, 0) :: (55, 0, 0, 0, 0, 0) :: bl_157_8 ∧ bl_157_8 = (2, 0, 0, 0, 0, 0) :: (1, 1, 0, 0, 0, 0) :: (50, 112, 9, 2, 199, 7095) :: (3, 2, 0, 0, 0, 0) :: (2, 0, 0, 0, 0, 0) :: (1, 1, 0, 0, 0, 0) :: (2, 0, 0, 0, 0, 0) :: (1, 1, 0, 0, 0, 0) :: (50, 121, 9, 2, 202, 7107) :: (0, 0, 1, 0, 0, 0) :: (7, 0, 0, 0, 0, 0) :: (50, 120, 9, 3, 205, 7115) :: (3, 3, 0, 0, 0, 0) :: (1, 2, 0, 0, 0, 0) :: (26, 36, 25, 0, 0, 0) :: (1, 3, 0, 0, 0, 0) :: (28, 38, 23, 0, 0, 0) :: (2, 0, 0, 0, 0, 0) :: (1, 3, 0, 0, 0, 0) :: (0, 0, 0, 0, 0, 0) :: (50, 37, 9, 3, 158, 7111) :: (2, 0, 0, 0, 0, 0) :: (37, 0, 0, 9, 9, 6114) :: (0, 0, 2, 0, 0, 0) :: (40, 0, 0, 0, 0, 0) :: (0, 1, 120, 0, 0, 0) :: (7, 0, 0, 0, 0, 0) :: (25, 38, 5, 0, 0, 0) :: bl_157_36 ∧ bl_157_36 = (0, 0, 0, 0, 0, 0) :: (55, 0, 0, 0, 0, 0) :: bl_157_38 ∧ bl_157_38 = (1, 2, 0, 0, 0, 0) :: (0, 1, 30, 0, 0, 0) :: (24, 43, 9, 0, 0, 0) :: (0, 2, 1500, 0, 0, 0) :: (32, 49, 18, 0, 0, 0) :: bl_157_43 ∧ bl_157_43 = (1, 2, 0, 0, 0, 0) :: (0, 1, 120, 0, 0, 0) :: (24, 48, 9, 0, 0, 0) :: (0, 2, 3000, 0, 0, 0) :: (32, 49, 6, 0, 0, 0) :: bl_157_48 ∧ bl_157_48 = (0, 2, 6000, 0, 0, 0) :: bl_157_49 ∧ bl_157_49 = (0, 2, 500, 0, 0, 0) :: (0, 0, 5, 0, 0, 0) :: (2, 0, 0, 0, 0, 0) :: (1, 1, 0, 0, 0, 0) :: (50, 123, 9, 2, 208, 7119) :: (76, 0, 0, 0, 64, 6113) :: (8, 0, 0, 0, 0, 0) :: (6, 0, 0, 0, 0, 0) :: (55, 0, 0, 0, 0, 0) :: [] := by refine ⟨?_, ?_, ?_, ?_, ?_, ?_, ?_, ?_, ?_, ?_, ?_, ?_, ?_, ?_⟩ <;> rfl
theorem cdS_158 : (mz_cd 158).drop 0 = bl_158_0 ∧ (mz_cd 158).drop 9 = bl_158_9 ∧ (mz_cd 158).drop 20 = bl_158_20 ∧ (mz_cd 158).drop 21 = bl_158_21 ∧ (mz_cd 158).drop 25 = bl_158_25 ∧ bl_158_0 = (2, 0, 0, 0, 0, 0) :: (37, 0, 0, 9, 9, 6114) :: (0, 2, 213, 0, 0, 0) :: (1, 1, 0, 0, 0, 0) :: (6, 0, 0, 0, 0, 0) :: (40, 0, 0, 0, 0, 0) :: (3, 2, 0, 0, 0, 0) :: (0, 0, 0, 0, 0, 0) :: (3, 3, 0, 0, 0, 0) :: bl_158_9 ∧ bl_158_9 = (1, 3, 0, 0, 0, 0) :: (0, 1, 16, 0, 0, 0) :: (23, 25, 26, 0, 0, 0) :: (1, 2, 0, 0, 0, 0) :: (2, 0, 0, 0, 0, 0) :: (1, 3, 0, 0, 0, 0) :: (1, 1, 0, 0, 0, 0) :: (50, 104, 9, 3, 167, 7062) :: (26, 20, 7, 0, 0, 0) :: (0, 0, 1, 0, 0, 0) :: (32, 21, 4, 0, 0, 0) :: bl_158_20 ∧ bl_158_20 = (0, 0, 0, 0, 0, 0) :: bl_158_21 ∧ bl_158_21 = (7, 0, 0, 0, 0, 0) :: (3, 2, 0, 0, 0, 0) :: (5, 3, 1, 0, 0, 0) :: (32, 9, (-26), 0, 0, 0) :: bl_158_25 ∧ bl_158_25 = (1, 2, 0, 0, 0, 0) :: (55, 0, 0, 0, 0, 0) :: [] := by refine ⟨?_, ?_, ?_, ?_, ?_, ?_, ?_, ?_, ?_, ?_⟩ <;> rfl
theorem cdS_159 : (mz_cd 159).drop 0 = bl_159_0 ∧ bl_159_0 = (2, 0, 0, 0, 0, 0) :: (63, 0, 0, 0, 3, 6105) :: (2, 0, 0, 0, 0, 0) :: (0, 2, 2430, 0, 0, 0) :: (59, 0, 0, 0, 0, 0) :: (39, 0, 0, 9, 9, 6114) :: (2, 0, 0, 0, 0, 0) :: (0, 2, 2430, 0, 0, 0) :: (59, 0, 0, 0, 0, 0) :: (39, 1, 0, 9, 13, 6115) :: (2, 0, 0, 0, 0, 0) :: (0, 2, 4860, 0, 0, 0) :: (59, 0, 0, 0, 0, 0) :: (39, 2, 0, 9, 16, 6116) :: (2, 0, 0, 0, 0, 0) :: (0, 0, 2, 0, 0, 0) :: (60, 0, 0, 0, 0, 0) :: (39, 3, 0, 9, 19, 6117) :: (2, 0, 0, 0, 0, 0) :: (0, 2, 600, 0, 0, 0) :: (61, 0, 0, 0, 0, 0) :: (39, 5, 0, 9, 23, 6119) :: (2, 0, 0, 0, 0, 0) :: (0, 1, 6, 0, 0, 0) :: (59, 0, 0, 0, 0, 0) :: (39, 12, 0, 9, 27, 6126) :: (2, 0, 0, 0, 0, 0) :: (0, 1, 6, 0, 0, 0) :: (59, 0, 0, 0, 0, 0) :: (39, 13, 0, 9, 30, 6127) :: (2, 0, 0, 0, 0, 0) :: (0, 1, 6, 0, 0, 0) :: (59, 0, 0, 0, 0, 0) :: (39, 14, 0, 9, 33, 6128) :: (2, 0, 0, 0, 0, 0) :: (0, 1, 6, 0, 0, 0) :: (59, 0, 0, 0, 0, 0) :: (39, 15, 0, 9, 36, 6129) :: (2, 0, 0, 0, 0, 0) :: (0, 1, 6, 0, 0, 0) :: (59, 0, 0, 0, 0, 0) :: (39, 16, 0, 9, 39, 6130) :: (2, 0, 0, 0, 0, 0) :: (0, 1, 10, 0, 0, 0) :: (59, 0, 0, 0, 0, 0) :: (39, 17, 0, 9, 42, 6131) :: (2, 0, 0, 0, 0, 0) :: (0, 2, 10240, 0, 0, 0) :: (59, 0, 0, 0, 0, 0) :: (39, 22, 0, 9, 45, 6136) :: (2, 0, 0, 0, 0, 0) :: (0, 1, 10, 0, 0, 0) :: (59, 0, 0, 0, 0, 0) :: (39, 23, 0, 9, 48, 6137) :: (2, 0, 0, 0, 0, 0) :: (37, 0, 0, 9, 9, 6114) :: (0, 0, 1, 0, 0, 0) :: (49, 34, 9, 2, 51, 6106) :: (2, 0, 0, 0, 0, 0) :: (37, 0, 0, 9, 9, 6114) :: (49, 103, 9, 1, 55, 6110) :: (57, 0, 0, 0, 0, 0) :: [] := by refine ⟨?_, ?_⟩ <;> rfl
theorem cdS_160 : (mz_cd 160).drop 0 = bl_160_0 ∧ (mz_cd 160).drop 6 = bl_160_6 ∧ (mz_cd 160).drop 8 = bl_160_8 ∧ (mz_cd 160).drop 19 = bl_160_19 ∧ bl_160_0 = (2, 0, 0, 0, 0, 0) :: (36, 9, 0, 9, 87, 6123) :: (27, 6, 10, 0, 0, 0) :: (2, 0, 0, 0, 0, 0) :: (50, 109, 9, 1, 93, 6215) :: (29, 8, 5, 0, 0, 0) :: bl_160_6 ∧ bl_160_6 = (0, 0, 0, 0, 0, 0) :: (55, 1, 0, 0, 0, 0) :: bl_160_8 ∧ bl_160_8 = (2, 0, 0, 0, 0, 0) :: (50, 39, 9, 1, 80, 6219) :: (0, 1, 59, 0, 0, 0) :: (20, 19, 14, 0, 0, 0) :: (2, 0, 0, 0, 0, 0) :: (0, 0, 1, 0, 0, 0) :: (2, 0, 0, 0, 0, 0) :: (36, 7, 0, 9, 77, 6121) :: (50, 38, 9, 3, 104, 6230) :: (0, 0, 0, 0, 0, 0) :: (55, 1, 0, 0, 0, 0) :: bl_160_19 ∧ bl_160_19 = (2, 0, 0, 0, 0, 0) :: (18, 0, 0, 0, 0, 0) :: (36, 7, 0, 9, 77, 6121) :: (0, 0, 1, 0, 0, 0) :: (6, 0, 0, 0, 0, 0) :: (38, 7, 0, 9, 77, 6121) :: (0, 0, 1, 0, 0, 0) :: (55, 1, 0, 0, 0, 0) :: [] := by refine ⟨?_, ?_, ?_, ?_, ?_, ?_, ?_, ?_⟩ <;> rfl
theorem cdS_161 : (mz_cd 161).drop 0 = bl_161_0 ∧ (mz_cd 161).drop 8 = bl_161_8 ∧ (mz_cd 161).drop 16 = bl_161_16 ∧ (mz_cd 161).drop 21 = bl_161_21 ∧ bl_161_0 = (2, 0, 0, 0, 0, 0) :: (0, 0, 0, 0, 0, 0) :: (38, 4, 0, 9, 59, 6118) :: (1, 1, 0, 0, 0, 0) :: (49, 105, 9, 1, 171, 7047) :: (27, 8, 5, 0, 0, 0) :: (0, 0, (-1), 0, 0, 0) :: (55, 0, 0, 0, 0, 0) :: bl_161_8 ∧ bl_161_8 = (2, 0, 0, 0, 0, 0) :: (1, 1, 0, 0, 0, 0) :: (0, 0, 0, 0, 0, 0) :: (50, 46, 9, 3, 161, 7054) :: (0, 0, 1, 0, 0, 0) :: (20, 16, 6, 0, 0, 0) :: (0, 1, (-2), 0, 0, 0) :: (55, 0, 0, 0, 0, 0) :: bl_161_16 ∧ bl_161_16 = (2, 0, 0, 0, 0, 0) :: (50, 41, 9, 1, 182, 7066) :: (26, 21, 6, 0, 0, 0) :: (0, 1, (-4), 0, 0, 0) :: (55, 0, 0, 0, 0, 0) :: bl_161_21 ∧ bl_161_21 = (2, 0, 0, 0, 0, 0) :: (1, 1, 0, 0, 0, 0) :: (50, 112, 9, 2, 199, 7095) :: (3, 2, 0, 0, 0, 0) :: (2, 0, 0, 0, 0, 0) :: (1, 1, 0, 0, 0, 0) :: (0, 0, 0, 0, 0, 0) :: (0, 0, 0, 0, 0, 0) :: (50, 48, 9, 4, 185, 7070) :: (2, 0, 0, 0, 0, 0) :: (0, 0, 3, 0, 0, 0) :: (1, 1, 0, 0, 0, 0) :: (1, 2, 0, 0, 0, 0) :: (50, 44, 9, 4, 189, 7074) :: (1, 2, 0, 0, 0, 0) :: (55, 0, 0, 0, 0, 0) :: [] := by refine ⟨?_, ?_, ?_, ?_, ?_, ?_, ?_, ?_⟩ <;> rfl
theorem cdS_162 : (mz_cd 162).drop 0 = bl_162_0 ∧ bl_162_0 = (2, 0, 0, 0, 0, 0) :: (1, 1, 0, 0, 0, 0) :: (0, 0, 3, 0, 0, 0) :: (50, 110, 9, 3, 265, 8063) :: (55, 0, 0, 0, 0, 0) :: [] := by refine ⟨?_, ?_⟩ <;> rfl
theorem cdS_163 : (mz_cd 163).drop 0 = bl_163_0 ∧ bl_163_0 = (2, 0, 0, 0, 0, 0) :: (1, 1, 0, 0, 0, 0) :: (0, 0, 2, 0, 0, 0) :: (50, 110, 9, 3, 265, 8063) :: (55, 0, 0, 0, 0, 0) :: [] := by refine ⟨?_, ?_⟩ <;> rfl
theorem cdS_164 : (mz_cd 164).drop 0 = bl_164_0 ∧ bl_164_0 = (2, 0, 0, 0, 0, 0) :: (1, 1, 0, 0, 0, 0) :: (0, 0, 1, 0, 0, 0) :: (50, 110, 9, 3, 265, 8063) :: (55, 0, 0, 0, 0, 0) :: [] := by refine ⟨?_, ?_⟩ <;> rfl
theorem cdS_165 : (mz_cd 165).drop 0 = bl_165_0 ∧ bl_165_0 = (2, 0, 0, 0, 0, 0) :: (1, 1, 0, 0, 0, 0) :: (0, 0, 0, 0, 0, 0) :: (50, 110, 9, 3, 265, 8063) :: (55, 0, 0, 0, 0, 0) :: [] := by refine ⟨?_, ?_⟩ <;> rfl
theorem cdS_166 : (mz_cd 166).drop 0 = bl_166_0 ∧ (mz_cd 166).drop 13 = bl_166_13 ∧ (mz_cd 166).drop 14 = bl_166_14 ∧ bl_166_0 = (2, 0, 0, 0, 0, 0) :: (0, 0, 0, 0, 0, 0) :: (38, 4, 0, 9, 59, 6118) :: (1, 1, 0, 0, 0, 0) :: (49, 108, 9, 1, 255, 7176) :: (26, 13, 16, 0, 0, 0) :: (2, 0, 0, 0, 0, 0) :: (37, 0, 0, 9, 9, 6114) :: (0, 2, 329, 0, 0, 0) :: (1, 1, 0, 0, 0, 0) :: (6, 0, 0, 0, 0, 0) :: (40, 0, 0, 0, 0, 0) :: (32, 14, 4, 0, 0, 0) :: bl_166_13 ∧ bl_166_13 = (0, 0, (-1), 0, 0, 0) :: bl_166_14 ∧ bl_166_14 = (55, 0, 0, 0, 0, 0) :: [] := by refine ⟨?_, ?_, ?_, ?_, ?_, ?_⟩ <;> rfl
theorem cdS_167 : (mz_cd 167).drop 0 = bl_167_0 ∧ (mz_cd 167).drop 12 = bl_167_12 ∧ (mz_cd 167).drop 14 = bl_167_14 ∧ bl_167_0 = (2, 0, 0, 0, 0, 0) :: (0, 0, 0, 0, 0, 0) :: (38, 4, 0, 9, 59, 6118) :: (2, 0, 0, 0, 0, 0) :: (1, 1, 0, 0, 0, 0) :: (50, 106, 9, 2, 175, 7050) :: (26, 12, 14, 0, 0, 0) :: (1, 2, 0, 0, 0, 0) :: (0, 0, 0, 0, 0, 0) :: (0, 2, 9999, 0, 0, 0) :: (49, 40, 9, 3, 70, 6204) :: (27, 14, 5, 0, 0, 0) :: bl_167_12 ∧ bl_167_12 = (0, 0, (-1), 0, 0, 0) :: (55, 0, 0, 0, 0, 0) :: bl_167_14 ∧ bl_167_14 = (2, 0, 0, 0, 0, 0) :: (1, 1, 0, 0, 0, 0) :: (2, 0, 0, 0, 0, 0) :: (37, 0, 0, 9, 9, 6114) :: (0, 0, 2, 0, 0, 0) :: (40, 0, 0, 0, 0, 0) :: (1, 2, 0, 0, 0, 0) :: (50, 99, 9, 4, 195, 7083) :: (2, 0, 0, 0, 0, 0) :: (37, 0, 0, 9, 9, 6114) :: (0, 0, 2, 0, 0, 0) :: (40, 0, 0, 0, 0, 0) :: (7, 0, 0, 0, 0, 0) :: (55, 0, 0, 0, 0, 0) :: [] := by refine ⟨?_, ?_, ?_, ?_, ?_, ?_⟩ <;> rfl
theorem cdS_168 : (mz_cd 168).drop 0 = bl_168_0 ∧ (mz_cd 168).drop 14 = bl_168_14 ∧ (mz_cd 168).drop 16 = bl_168_16 ∧ (mz_cd 168).drop 18 = bl_168_18 ∧ (mz_cd 168).drop 52 = bl_168_52 ∧ (mz_cd 168).drop 54 = bl_168_54 ∧ bl_168_0 = (2, 0, 0, 0, 0, 0) :: (0, 0, 0, 0, 0, 0) :: (38, 4, 0, 9, 59, 6118) :: (2, 0, 0, 0, 0, 0) :: (1, 1, 0, 0, 0, 0) :: (50, 106, 9, 2, 175, 7050) :: (26, 14, 16, 0, 0, 0) :: (2, 0, 0, 0, 0, 0) :: (1, 2, 0, 0, 0, 0) :: (50, 106, 9, 2, 175, 7050) :: (26, 14, 8, 0, 0, 0) :: (1, 1, 0, 0, 0, 0) :: (1, 2, 0, 0, 0, 0) :: (21, 16, 5, 0, 0, 0) :: bl_168_14 ∧ bl_168_14 = (0, 0, (-1), 0, 0, 0) :: (55, 0, 0, 0, 0, 0) :: bl_168_16 ∧ bl_168_16 = (0, 0, 0, 0, 0, 0) :: (3, 3, 0, 0, 0, 0) :: bl_168_18 ∧ bl_168_18 = (1, 3, 0, 0, 0, 0) :: (2, 0, 0, 0, 0, 0) :: (37, 0, 0, 9, 9, 6114) :: (0, 0, 0, 0, 0, 0) :: (40, 0, 0, 0, 0, 0) :: (23, 54, 51, 0, 0, 0) :: (2, 0, 0, 0, 0, 0) :: (1, 1, 0, 0, 0, 0) :: (1, 2, 0, 0, 0, 0) :: (50, 51, 9, 3, 249, 7168) :: (0, 3, 1000000, 0, 63, 6109) :: (23, 54, 40, 0, 0, 0) :: (2, 0, 0, 0, 0, 0) :: (37, 0, 0, 9, 9, 6114) :: (0, 0, 3, 0, 0, 0) :: (0, 1, 10, 0, 0, 0) :: (1, 1, 0, 0, 0, 0) :: (8, 0, 0, 0, 0, 0) :: (6, 0, 0, 0, 0, 0) :: (1, 3, 0, 0, 0, 0) :: (6, 0, 0, 0, 0, 0) :: (40, 0, 0, 0, 0, 0) :: (2, 0, 0, 0, 0, 0) :: (1, 3, 0, 0, 0, 0) :: (1, 2, 0, 0, 0, 0) :: (50, 51, 9, 3, 249, 7168) :: (6, 0, 0, 0, 0, 0) :: (2, 0, 0, 0, 0, 0) :: (1, 1, 0, 0, 0, 0) :: (1, 2, 0, 0, 0, 0) :: (50, 51, 9, 3, 249, 7168) :: (21, 52, 5, 0, 0, 0) :: (1, 3, 0, 0, 0, 0) :: (55, 0, 0, 0, 0, 0) :: bl_168_52 ∧ bl_168_52 = (5, 3, 1, 0, 0, 0) :: (32, 18, (-55), 0, 0, 0) :: bl_168_54 ∧ bl_168_54 = (0, 1, (-3), 0, 0, 0) :: (55, 0, 0, 0, 0, 0) :: [] := by refine ⟨?_, ?_, ?_, ?_, ?_, ?_, ?_, ?_, ?_, ?_, ?_, ?_⟩ <;> rfl
theorem cdS_169 : (mz_cd 169).drop 0 = bl_169_0 ∧ (mz_cd 169).drop 5 = bl_169_5 ∧ (mz_cd 169).drop 18 = bl_169_18 ∧ (mz_cd 169).drop 20 = bl_169_20 ∧ (mz_cd 169).drop 44 = bl_169_44 ∧ (mz_cd 169).drop 56 = bl_169_56 ∧ bl_169_0 = (2, 0, 0, 0, 0, 0) :: (36, 9, 0, 9, 87, 6123) :: (26, 5, 5, 0, 0, 0) :: (1, 1, 0, 0, 0, 0) :: (55, 0, 0, 0, 0, 0) :: bl_169_5 ∧ bl_169_5 = (2, 0, 0, 0, 0, 0) :: (50, 109, 9, 1, 93, 6215) :: (0, 1, 48, 0, 0, 0) :: (0, 1, 57, 0, 0, 0) :: (49, 40, 9, 3, 70, 6204) :: (27, 18, 14, 0, 0, 0) :: (2, 0, 0, 0, 0, 0) :: (0, 0, 1, 0, 0, 0) :: (2, 0, 0, 0, 0, 0) :: (36, 7, 0, 9, 77, 6121) :: (50, 38, 9, 3, 104, 6230) :: (1, 1, 0, 0, 0, 0) :: (55, 0, 0, 0, 0, 0) :: bl_169_18 ∧ bl_169_18 = (0, 0, 0, 0, 0, 0) :: (3, 3, 0, 0, 0, 0) :: bl_169_20 ∧ bl_169_20 = (2, 0, 0, 0, 0, 0) :: (50, 39, 9, 1, 80, 6219) :: (0, 1, 48, 0, 0, 0) :: (0, 1, 57, 0, 0, 0) :: (49, 40, 9, 3, 70, 6204) :: (26, 44, 34, 0, 0, 0) :: (0, 3, 1000000, 0, 63, 6109) :: (0, 1, 10, 0, 0, 0) :: (1, 3, 0, 0, 0, 0) :: (8, 0, 0, 0, 0, 0) :: (2, 0, 0, 0, 0, 0) :: (50, 39, 9, 1, 80, 6219) :: (6, 0, 0, 0, 0, 0) :: (0, 1, 48, 0, 0, 0) :: (7, 0, 0, 0, 0, 0) :: (76, 0, 0, 0, 64, 6113) :: (3, 3, 0, 0, 0, 0) :: (2, 0, 0, 0, 0, 0) :: (18, 0, 0, 0, 0, 0) :: (36, 7, 0, 9, 77, 6121) :: (0, 0, 1, 0, 0, 0) :: (6, 0, 0, 0, 0, 0) :: (38, 7, 0, 9, 77, 6121) :: (32, 20, (-42), 0, 0, 0) :: bl_169_44 ∧ bl_169_44 = (1, 3, 0, 0, 0, 0) :: (1, 1, 0, 0, 0, 0) :: (1, 2, 0, 0, 0, 0) :: (49, 40, 9, 3, 70, 6204) :: (27, 56, 14, 0, 0, 0) :: (2, 0, 0, 0, 0, 0) :: (0, 0, 2, 0, 0, 0) :: (2, 0, 0, 0, 0, 0) :: (36, 8, 0, 9, 84, 6122) :: (50, 38, 9, 3, 104, 6230) :: (1, 1, 0, 0, 0, 0) :: (55, 0, 0, 0, 0, 0) :: bl_169_56 ∧ bl_169_56 = (1, 3, 0, 0, 0, 0) :: (55, 0, 0, 0, 0, 0) :: [] := by refine ⟨?_, ?_, ?_, ?_, ?_, ?_, ?_, ?_, ?_, ?_, ?_, ?_⟩ <;> rfl
theorem cdS_170 : (mz_cd 170).drop 0 = bl_170_0 ∧ (mz_cd 170).drop 10 = bl_170_10 ∧ (mz_cd 170).drop 11 = bl_170_11 ∧ (mz_cd 170).drop 17 = bl_170_17 ∧ (mz_cd 170).drop 18 = bl_170_18 ∧ (mz_cd 170).drop 23 = bl_170_23 ∧ (mz_cd 170).drop 27 = bl_170_27 ∧ bl_170_0 = (1, 1, 0, 0, 0, 0) :: (49, 105, 9, 1, 171, 7047) :: (26, 10, 16, 0, 0, 0) :: (1, 2, 0, 0, 0, 0) :: (28, 10, 12, 0, 0, 0) :: (2, 0, 0, 0, 0, 0) :: (1, 1, 0, 0, 0, 0) :: (1, 2, 0, 0, 0, 0) :: (50, 120, 9, 3, 205, 7115) :: (32, 11, 4, 0, 0, 0) :: bl_170_10 ∧ bl_170_10 = (0, 0, (-1), 0, 0, 0) :: bl_170_11 ∧ bl_170_11 = (3, 4, 0, 0, 1, 0) :: (2, 0, 0, 0, 0, 0) :: (1, 4, 0, 0, 1, 0) :: (29, 17, 7, 0, 0, 0) :: (0, 0, 1, 0, 0, 0) :: (32, 18, 4, 0, 0, 0) :: bl_170_17 ∧ bl_170_17 = (0, 0, 0, 0, 0, 0) :: bl_170_18 ∧ bl_170_18 = (38, 4, 0, 9, 59, 6118) :: (1, 4, 0, 0, 1, 0) :: (29, 23, 7, 0, 0, 0) :: (0, 0, 0, 0, 0, 0) :: (32, 27, 10, 0, 0, 0) :: bl_170_23 ∧ bl_170_23 = (2, 0, 0, 0, 0, 0) :: (1, 4, 0, 0, 1, 0) :: (1, 3, 0, 0, 0, 0) :: (50, 37, 9, 3, 158, 7111) :: bl_170_27 ∧ bl_170_27 = (55, 0, 0, 0, 0, 0) :: [] := by refine ⟨?_, ?_, ?_, ?_, ?_, ?_, ?_, ?_, ?_, ?_, ?_, ?_, ?_, ?_⟩ <;> rfl
theorem cdS_171 : (mz_cd 171).drop 0 = bl_171_0 ∧ (mz_cd 171).drop 7 = bl_171_7 ∧ (mz_cd 171).drop 18 = bl_171_18 ∧ bl_171_0 = (2, 0, 0, 0, 0, 0) :: (0, 0, 0, 0, 0, 0) :: (38, 4, 0, 9, 59, 6118) :: (0, 0, 0, 0, 0, 0) :: (3, 1, 0, 0, 0, 0) :: (0, 0, 0, 0, 0, 0) :: (3, 2, 0, 0, 0, 0) :: bl_171_7 ∧ bl_171_7 = (1, 2, 0, 0, 0, 0) :: (0, 1, 16, 0, 0, 0) :: (23, 18, 17, 0, 0, 0) :: (1, 1, 0, 0, 0, 0) :: (2, 0, 0, 0, 0, 0) :: (1, 2, 0, 0, 0, 0) :: (50, 113, 9, 2, 225, 7140) :: (6, 0, 0, 0, 0, 0) :: (3, 1, 0, 0, 0, 0) :: (5, 2, 1, 0, 0, 0) :: (32, 7, (-17), 0, 0, 0) :: bl_171_18 ∧ bl_171_18 = (1, 1, 0, 0, 0, 0) :: (55, 0, 0, 0, 0, 0) :: [] := by refine ⟨?_, ?_, ?_, ?_, ?_, ?_⟩ <;> rfl
theorem cdS_172 : (mz_cd 172).drop 0 = bl_172_0 ∧ (mz_cd 172).drop 12 = bl_172_12 ∧ (mz_cd 172).drop 14 = bl_172_14 ∧ (mz_cd 172).drop 18 = bl_172_18 ∧ (mz_cd 172).drop 35 = bl_172_35 ∧ (mz_cd 172).drop 36 = bl_172_36 ∧ (mz_cd 172).drop 55 = bl_172_55 ∧ (mz_cd 172).drop 56 = bl_172_56 ∧ (mz_cd 172).drop 60 = bl_172_60 ∧ bl_172_0 = (2, 0, 0, 0, 0, 0) :: (0, 0, 0, 0, 0, 0) :: (38, 4, 0, 9, 59, 6118) :: (2, 0, 0, 0, 0, 0) :: (1, 1, 0, 0, 0, 0) :: (50, 106, 9, 2, 175, 7050) :: (26, 12, 14, 0, 0, 0) :: (1, 2, 0, 0, 0, 0) :: (0, 0, 0, 0, 0, 0) :: (0, 2, 600, 0, 0, 0) :: (49, 40, 9, 3, 70, 6204) :: (27, 14, 5, 0, 0, 0) :: bl_172_12 ∧ bl_172_12 = (0, 0, (-1), 0, 0, 0) :: (55, 0, 0, 0, 0, 0) :: bl_172_14 ∧ bl_172_14 = (0, 0, 0, 0, 0, 0) :: (3, 3, 0, 0, 0, 0) :: (0, 0, 0, 0, 0, 0) :: (3, 4, 0, 0, 1, 0) :: bl_172_18 ∧ bl_172_18 = (1, 4, 0, 0, 1, 0) :: (0, 1, 16, 0, 0, 0) :: (23, 60, 72, 0, 0, 0) :: (2, 0, 0, 0, 0, 0) :: (1, 4, 0, 0, 1, 0) :: (0, 0, 0, 0, 0, 0) :: (50, 46, 9, 3, 161, 7054) :: (0, 0, 1, 0, 0, 0) :: (21, 35, 18, 0, 0, 0) :: (2, 0, 0, 0, 0, 0) :: (1, 4, 0, 0, 1, 0) :: (0, 0, 1, 0, 0, 0) :: (50, 46, 9, 3, 161, 7054) :: (1, 1, 0, 0, 0, 0) :: (21, 35, 7, 0, 0, 0) :: (0, 0, 1, 0, 0, 0) :: (32, 36, 4, 0, 0, 0) :: bl_172_35 ∧ bl_172_35 = (0, 0, 0, 0, 0, 0) :: bl_172_36 ∧ bl_172_36 = (3, 5, 0, 0, 1, 0) :: (1, 3, 0, 0, 0, 0) :: (1, 5, 0, 0, 1, 0) :: (26, 55, 28, 0, 0, 0) :: (2, 0, 0, 0, 0, 0) :: (1, 4, 0, 0, 1, 0) :: (0, 0, 2, 0, 0, 0) :: (50, 46, 9, 3, 161, 7054) :: (2, 0, 0, 0, 0, 0) :: (37, 0, 0, 9, 9, 6114) :: (0, 0, 2, 0, 0, 0) :: (40, 0, 0, 0, 0, 0) :: (1, 2, 0, 0, 0, 0) :: (6, 0, 0, 0, 0, 0) :: (24, 55, 10, 0, 0, 0) :: (0, 0, 1, 0, 0, 0) :: (1, 4, 0, 0, 1, 0) :: (14, 0, 0, 0, 0, 0) :: (32, 56, 4, 0, 0, 0) :: bl_172_55 ∧ bl_172_55 = (0, 0, 0, 0, 0, 0) :: bl_172_56 ∧ bl_172_56 = (12, 0, 0, 0, 0, 0) :: (3, 3, 0, 0, 0, 0) :: (5, 4, 1, 0, 0, 0) :: (32, 18, (-73), 0, 0, 0) :: bl_172_60 ∧ bl_172_60 = (1, 3, 0, 0, 0, 0) :: (55, 0, 0, 0, 0, 0) :: [] := by refine ⟨?_, ?_, ?_, ?_, ?_, ?_, ?_, ?_, ?_, ?_, ?_, ?_, ?_, ?_, ?_, ?_, ?_, ?_⟩ <;> rfl
theorem cdS_173 : (mz_cd 173).drop 0 = bl_173_0 ∧ (mz_cd 173).drop 11 = bl_173_11 ∧ (mz_cd 173).drop 13 = bl_173_13 ∧ (mz_cd 173).drop 21 = bl_173_21 ∧ (mz_cd 173).drop 45 = bl_173_45 ∧ (mz_cd 173).drop 50 = bl_173_50 ∧ bl_173_0 = (2, 0, 0, 0, 0, 0) :: (0, 0, 0, 0, 0, 0) :: (38, 4, 0, 9, 59, 6118) :: (1, 1, 0, 0, 0, 0) :: (49, 105, 9, 1, 171, 7047) :: (26, 11, 14, 0, 0, 0) :: (1, 2, 0, 0, 0, 0) :: (0, 0, 1, 0, 0, 0) :: (0, 2, 9999, 0, 0, 0) :: (49, 40, 9, 3, 70, 6204) :: (27, 13, 5, 0, 0, 0) :: bl_173_11 ∧ bl_173_11 = (0, 0, (-1), 0, 0, 0) :: (55, 0, 0, 0, 0, 0) :: bl_173_13 ∧ bl_173_13 = (2, 0, 0, 0, 0, 0) :: (1, 1, 0, 0, 0, 0) :: (0, 0, 0, 0, 0, 0) :: (50, 46, 9, 3, 161, 7054) :: (0, 0, 1, 0, 0, 0) :: (20, 21, 6, 0, 0, 0) :: (0, 1, (-2), 0, 0, 0) :: (55, 0, 0, 0, 0, 0) :: bl_173_21 ∧ bl_173_21 = (2, 0, 0, 0, 0, 0) :: (37, 0, 0, 9, 9, 6114) :: (0, 0, 2, 0, 0, 0) :: (40, 0, 0, 0, 0, 0) :: (2, 0, 0, 0, 0, 0) :: (1, 1, 0, 0, 0, 0) :: (0, 0, 2, 0, 0, 0) :: (50, 46, 9, 3, 161, 7054) :: (75, 0, 0, 0, 164, 7082) :: (3, 3, 0, 0, 0, 0) :: (2, 0, 0, 0, 0, 0) :: (2, 0, 0, 0, 0, 0) :: (1, 1, 0, 0, 0, 0) :: (0, 0, 1, 0, 0, 0) :: (50, 46, 9, 3, 161, 7054) :: (1, 3, 0, 0, 0, 0) :: (1, 2, 0, 0, 0, 0) :: (50, 99, 9, 4, 195, 7083) :: (3, 4, 0, 0, 1, 0) :: (1, 4, 0, 0, 1, 0) :: (1, 3, 0, 0, 0, 0) :: (21, 45, 6, 0, 0, 0) :: (0, 1, (-3), 0, 0, 0) :: (55, 0, 0, 0, 0, 0) :: bl_173_45 ∧ bl_173_45 = (2, 0, 0, 0, 0, 0) :: (50, 41, 9, 1, 182, 7066) :: (26, 50, 6, 0, 0, 0) :: (0, 1, (-4), 0, 0, 0) :: (55, 0, 0, 0, 0, 0) :: bl_173_50 ∧ bl_173_50 = (2, 0, 0, 0, 0, 0) :: (1, 1, 0, 0, 0, 0) :: (0, 0, 2, 0, 0, 0) :: (1, 4, 0, 0, 1, 0) :: (50, 48, 9, 4, 185, 7070) :: (2, 0, 0, 0, 0, 0) :: (0, 0, 2, 0, 0, 0) :: (1, 1, 0, 0, 0, 0) :: (1, 2, 0, 0, 0, 0) :: (50, 44, 9, 4, 189, 7074) :: (1, 4, 0, 0, 1, 0) :: (55, 0, 0, 0, 0, 0) :: [] := by refine ⟨?_, ?_, ?_, ?_, ?_, ?_, ?_, ?_, ?_, ?_, ?_, ?_⟩ <;> rfl
theorem cdS_174 : (mz_cd 174).drop 0 = bl_174_0 ∧ (mz_cd 174).drop 4 = bl_174_4 ∧ (mz_cd 174).drop 52 = bl_174_52 ∧ bl_174_0 = (2, 0, 0, 0, 0, 0) :: (1, 1, 0, 0, 0, 0) :: (50, 111, 9, 2, 214, 7128) :: (3, 2, 0, 0, 0, 0) :: bl_174_4 ∧ bl_174_4 = (1, 2, 0, 0, 0, 0) :: (28, 52, 74, 0, 0, 0) :: (2, 0, 0, 0, 0, 0) :: (1, 1, 0, 0, 0, 0) :: (0, 0, 3, 0, 0, 0) :: (50, 46, 9, 3, 161, 7054) :: (2, 0, 0, 0, 0, 0) :: (1, 2, 0, 0, 0, 0) :: (0, 0, 3, 0, 0, 0) :: (50, 37, 9, 3, 158, 7111) :: (22, 52, 59, 0, 0, 0) :: (2, 0, 0, 0, 0, 0) :: (1, 1, 0, 0, 0, 0) :: (0, 0, 3, 0, 0, 0) :: (2, 0, 0, 0, 0, 0) :: (1, 1, 0, 0, 0, 0) :: (0, 0, 3, 0, 0, 0) :: (50, 46, 9, 3, 161, 7054) :: (2, 0, 0, 0, 0, 0) :: (1, 2, 0, 0, 0, 0) :: (0, 0, 3, 0, 0, 0) :: (50, 37, 9, 3, 158, 7111) :: (7, 0, 0, 0, 0, 0) :: (50, 48, 9, 4, 185, 7070) :: (2, 0, 0, 0, 0, 0) :: (37, 0, 0, 9, 9, 6114) :: (0, 2, 430, 0, 0, 0) :: (0, 0, 5, 0, 0, 0) :: (1, 2, 0, 0, 0, 0) :: (8, 0, 0, 0, 0, 0) :: (6, 0, 0, 0, 0, 0) :: (0, 0, 4, 0, 0, 0) :: (6, 0, 0, 0, 0, 0) :: (0, 0, 1, 0, 0, 0) :: (41, 0, 0, 0, 0, 0) :: (2, 0, 0, 0, 0, 0) :: (0, 1, 7, 0, 0, 0) :: (1, 1, 0, 0, 0, 0) :: (2, 0, 0, 0, 0, 0) :: (1, 2, 0, 0, 0, 0) :: (0, 0, 3, 0, 0, 0) :: (50, 37, 9, 3, 158, 7111) :: (50, 44, 9, 4, 189, 7074) :: (2, 0, 0, 0, 0, 0) :: (1, 1, 0, 0, 0, 0) :: (50, 111, 9, 2, 214, 7128) :: (3, 2, 0, 0, 0, 0) :: (32, 4, (-72), 0, 0, 0) :: bl_174_52 ∧ bl_174_52 = (57, 0, 0, 0, 0, 0) :: [] := by refine ⟨?_, ?_, ?_, ?_, ?_, ?_⟩ <;> rfl
theorem cdS_175 : (mz_cd 175).drop 0 = bl_175_0 ∧ (mz_cd 175).drop 9 = bl_175_9 ∧ (mz_cd 175).drop 18 = bl_175_18 ∧ (mz_cd 175).drop 21 = bl_175_21 ∧ bl_175_0 = (2, 0, 0, 0, 0, 0) :: (0, 0, 0, 0, 0, 0) :: (38, 4, 0, 9, 59, 6118) :: (2, 0, 0, 0, 0, 0) :: (1, 1, 0, 0, 0, 0) :: (50, 106, 9, 2, 175, 7050) :: (27, 9, 7, 0, 0, 0) :: (0, 0, (-1), 0, 0, 0) :: (32, 21, 26, 0, 0, 0) :: bl_175_9 ∧ bl_175_9 = (2, 0, 0, 0, 0, 0) :: (37, 0, 0, 9, 9, 6114) :: (0, 2, 223, 0, 0, 0) :: (1, 1, 0, 0, 0, 0) :: (6, 0, 0, 0, 0, 0) :: (40, 0, 0, 0, 0, 0) :: (27, 18, 8, 0, 0, 0) :: (0, 1, (-3), 0, 0, 0) :: (32, 21, 8, 0, 0, 0) :: bl_175_18 ∧ bl_175_18 = (2, 0, 0, 0, 0, 0) :: (1, 1, 0, 0, 0, 0) :: (50, 118, 9, 2, 237, 7160) :: bl_175_21 ∧ bl_175_21 = (55, 0, 0, 0, 0, 0) :: [] := by refine ⟨?_, ?_, ?_, ?_, ?_, ?_, ?_, ?_⟩ <;> rfl
theorem cdS_176 : (mz_cd 176).drop 0 = bl_176_0 ∧ (mz_cd 176).drop 23 = bl_176_23 ∧ (mz_cd 176).drop 24 = bl_176_24 ∧ bl_176_0 = (2, 0, 0, 0, 0, 0) :: (0, 0, 0, 0, 0, 0) :: (38, 4, 0, 9, 59, 6118) :: (2, 0, 0, 0, 0, 0) :: (1, 1, 0, 0, 0, 0) :: (50, 106, 9, 2, 175, 7050) :: (26, 23, 35, 0, 0, 0) :: (1, 2, 0, 0, 0, 0) :: (0, 0, 0, 0, 0, 0) :: (0, 2, 10079, 0, 0, 0) :: (49, 40, 9, 3, 70, 6204) :: (26, 23, 24, 0, 0, 0) :: (1, 3, 0, 0, 0, 0) :: (0, 0, 0, 0, 0, 0) :: (0, 2, 1440, 0, 0, 0) :: (49, 40, 9, 3, 70, 6204) :: (26, 23, 13, 0, 0, 0) :: (2, 0, 0, 0, 0, 0) :: (1, 1, 0, 0, 0, 0) :: (1, 2, 0, 0, 0, 0) :: (1, 3, 0, 0, 0, 0) :: (50, 115, 9, 4, 268, 8091) :: (32, 24, 4, 0, 0, 0) :: bl_176_23 ∧ bl_176_23 = (0, 0, (-1), 0, 0, 0) :: bl_176_24 ∧ bl_176_24 = (55, 0, 0, 0, 0, 0) :: [] := by refine ⟨?_, ?_, ?_, ?_, ?_, ?_⟩ <;> rfl
theorem cdS_177 : (mz_cd 177).drop 0 = bl_177_0 ∧ (mz_cd 177).drop 22 = bl_177_22 ∧ (mz_cd 177).drop 23 = bl_177_23 ∧ bl_177_0 = (2, 0, 0, 0, 0, 0) :: (0, 0, 0, 0, 0, 0) :: (38, 4, 0, 9, 59, 6118) :: (1, 1, 0, 0, 0, 0) :: (49, 108, 9, 1, 255, 7176) :: (26, 22, 31, 0, 0, 0) :: (1, 2, 0, 0, 0, 0) :: (0, 0, 0, 0, 0, 0) :: (0, 1, 23, 0, 0, 0) :: (49, 40, 9, 3, 70, 6204) :: (26, 22, 21, 0, 0, 0) :: (2, 0, 0, 0, 0, 0) :: (37, 0, 0, 9, 9, 6114) :: (0, 2, 233, 0, 0, 0) :: (0, 1, 24, 0, 0, 0) :: (1, 1, 0, 0, 0, 0) :: (8, 0, 0, 0, 0, 0) :: (6, 0, 0, 0, 0, 0) :: (1, 2, 0, 0, 0, 0) :: (6, 0, 0, 0, 0, 0) :: (40, 0, 0, 0, 0, 0) :: (32, 23, 4, 0, 0, 0) :: bl_177_22 ∧ bl_177_22 = (0, 0, (-1), 0, 0, 0) :: bl_177_23 ∧ bl_177_23 = (55, 0, 0, 0, 0, 0) :: [] := by refine ⟨?_, ?_, ?_, ?_, ?_, ?_⟩ <;> rfl
theorem cdS_178 : (mz_cd 178).drop 0 = bl_178_0 ∧ (mz_cd 178).drop 3 = bl_178_3 ∧ (mz_cd 178).drop 16 = bl_178_16 ∧ bl_178_0 = (2, 0, 0, 0, 0, 0) :: (50, 109, 9, 1, 93, 6215) :: (19, 0, 0, 0, 0, 0) :: bl_178_3 ∧ bl_178_3 = (2, 0, 0, 0, 0, 0) :: (50, 39, 9, 1, 80, 6219) :: (0, 1, 97, 0, 0, 0) :: (0, 1, 122, 0, 0, 0) :: (49, 40, 9, 3, 70, 6204) :: (26, 16, 16, 0, 0, 0) :: (2, 0, 0, 0, 0, 0) :: (18, 0, 0, 0, 0, 0) :: (36, 7, 0, 9, 77, 6121) :: (0, 0, 1, 0, 0, 0) :: (6, 0, 0, 0, 0, 0) :: (38, 7, 0, 9, 77, 6121) :: (32, 3, (-24), 0, 0, 0) :: bl_178_16 ∧ bl_178_16 = (57, 0, 0, 0, 0, 0) :: [] := by refine ⟨?_, ?_, ?_, ?_, ?_, ?_⟩ <;> rfl
theorem cdS_179 : (mz_cd 179).drop 0 = bl_179_0 ∧ (mz_cd 179).drop 11 = bl_179_11 ∧ (mz_cd 179).drop 13 = bl_179_13 ∧ (mz_cd 179).drop 17 = bl_179_17 ∧ (mz_cd 179).drop 54 = bl_179_54 ∧ (mz_cd 179).drop 56 = bl_179_56 ∧ bl_179_0 = (2, 0, 0, 0, 0, 0) :: (0, 0, 0, 0, 0, 0) :: (38, 4, 0, 9, 59, 6118) :: (1, 1, 0, 0, 0, 0) :: (49, 108, 9, 1, 255, 7176) :: (26, 11, 13, 0, 0, 0) :: (1, 2, 0, 0, 0, 0) :: (0, 0, 0, 0, 0, 0) :: (0, 1, 6, 0, 0, 0) :: (49, 40, 9, 3, 70, 6204) :: (27, 13, 5, 0, 0, 0) :: bl_179_11 ∧ bl_179_11 = (0, 0, (-1), 0, 0, 0) :: (55, 0, 0, 0, 0, 0) :: bl_179_13 ∧ bl_179_13 = (0, 0, 0, 0, 0, 0) :: (3, 3, 0, 0, 0, 0) :: (0, 0, 0, 0, 0, 0) :: (3, 4, 0, 0, 1, 0) :: bl_179_17 ∧ bl_179_17 = (1, 4, 0, 0, 1, 0) :: (2, 0, 0, 0, 0, 0) :: (37, 0, 0, 9, 9, 6114) :: (0, 2, 429, 0, 0, 0) :: (40, 0, 0, 0, 0, 0) :: (23, 56, 64, 0, 0, 0) :: (2, 0, 0, 0, 0, 0) :: (1, 4, 0, 0, 1, 0) :: (0, 0, 1, 0, 0, 0) :: (50, 37, 9, 3, 158, 7111) :: (0, 0, 2, 0, 0, 0) :: (21, 54, 47, 0, 0, 0) :: (2, 0, 0, 0, 0, 0) :: (1, 4, 0, 0, 1, 0) :: (0, 0, 0, 0, 0, 0) :: (50, 37, 9, 3, 158, 7111) :: (0, 2, 1440, 0, 0, 0) :: (9, 0, 0, 0, 0, 0) :: (1, 2, 0, 0, 0, 0) :: (21, 54, 32, 0, 0, 0) :: (2, 0, 0, 0, 0, 0) :: (37, 0, 0, 9, 9, 6114) :: (0, 2, 203, 0, 0, 0) :: (2, 0, 0, 0, 0, 0) :: (1, 4, 0, 0, 1, 0) :: (50, 114, 9, 2, 277, 8119) :: (6, 0, 0, 0, 0, 0) :: (40, 0, 0, 0, 0, 0) :: (1, 1, 0, 0, 0, 0) :: (21, 54, 13, 0, 0, 0) :: (1, 3, 0, 0, 0, 0) :: (2, 0, 0, 0, 0, 0) :: (1, 4, 0, 0, 1, 0) :: (0, 0, 3, 0, 0, 0) :: (50, 37, 9, 3, 158, 7111) :: (6, 0, 0, 0, 0, 0) :: (3, 3, 0, 0, 0, 0) :: bl_179_54 ∧ bl_179_54 = (5, 4, 1, 0, 0, 0) :: (32, 17, (-71), 0, 0, 0) :: bl_179_56 ∧ bl_179_56 = (1, 3, 0, 0, 0, 0) :: (55, 0, 0, 0, 0, 0) :: [] := by refine ⟨?_, ?_, ?_, ?_, ?_, ?_, ?_, ?_, ?_, ?_, ?_, ?_⟩ <;> rfl
theorem cdS_180 : (mz_cd 180).drop 0 = bl_180_0 ∧ (mz_cd 180).drop 16 = bl_180_16 ∧ (mz_cd 180).drop 18 = bl_180_18 ∧ bl_180_0 = (2, 0, 0, 0, 0, 0) :: (0, 0, 0, 0, 0, 0) :: (38, 4, 0, 9, 59, 6118) :: (1, 1, 0, 0, 0, 0) :: (49, 108, 9, 1, 255, 7176) :: (26, 16, 24, 0, 0, 0) :: (1, 2, 0, 0, 0, 0) :: (0, 0, 0, 0, 0, 0) :: (0, 1, 23, 0, 0, 0) :: (49, 40, 9, 3, 70, 6204) :: (26, 16, 14, 0, 0, 0) :: (1, 3, 0, 0, 0, 0) :: (0, 0, 0, 0, 0, 0) :: (0, 2, 999, 0, 0, 0) :: (49, 40, 9, 3, 70, 6204) :: (27, 18, 5, 0, 0, 0) :: bl_180_16 ∧ bl_180_16 = (0, 0, (-1), 0, 0, 0) :: (55, 0, 0, 0, 0, 0) :: bl_180_18 ∧ bl_180_18 = (2, 0, 0, 0, 0, 0) :: (37, 0, 0, 9, 9, 6114) :: (0, 2, 233, 0, 0, 0) :: (0, 1, 24, 0, 0, 0) :: (1, 1, 0, 0, 0, 0) :: (8, 0, 0, 0, 0, 0) :: (6, 0, 0, 0, 0, 0) :: (1, 2, 0, 0, 0, 0) :: (6, 0, 0, 0, 0, 0) :: (40, 0, 0, 0, 0, 0) :: (3, 4, 0, 0, 1, 0) :: (2, 0, 0, 0, 0, 0) :: (37, 0, 0, 9, 9, 6114) :: (0, 2, 233, 0, 0, 0) :: (0, 1, 24, 0, 0, 0) :: (1, 1, 0, 0, 0, 0) :: (8, 0, 0, 0, 0, 0) :: (6, 0, 0, 0, 0, 0) :: (1, 2, 0, 0, 0, 0) :: (6, 0, 0, 0, 0, 0) :: (1, 3, 0, 0, 0, 0) :: (41, 0, 0, 0, 0, 0) :: (1, 4, 0, 0, 1, 0) :: (55, 0, 0, 0, 0, 0) :: [] := by refine ⟨?_, ?_, ?_, ?_, ?_, ?_⟩ <;> rfl
theorem cdS_181 : (mz_cd 181).drop 0 = bl_181_0 ∧ (mz_cd 181).drop 11 = bl_181_11 ∧ (mz_cd 181).drop 12 = bl_181_12 ∧ bl_181_0 = (2, 0, 0, 0, 0, 0) :: (0, 0, 0, 0, 0, 0) :: (38, 4, 0, 9, 59, 6118) :: (1, 1, 0, 0, 0, 0) :: (49, 105, 9, 1, 171, 7047) :: (26, 11, 12, 0, 0, 0) :: (2, 0, 0, 0, 0, 0) :: (1, 1, 0, 0, 0, 0) :: (0, 0, 0, 0, 0, 0) :: (50, 46, 9, 3, 161, 7054) :: (32, 12, 4, 0, 0, 0) :: bl_181_11 ∧ bl_181_11 = (0, 0, (-1), 0, 0, 0) :: bl_181_12 ∧ bl_181_12 = (55, 0, 0, 0, 0, 0) :: [] := by refine ⟨?_, ?_, ?_, ?_, ?_, ?_⟩ <;> rfl
theorem cdS_182 : (mz_cd 182).drop 0 = bl_182_0 ∧ (mz_cd 182).drop 10 = bl_182_10 ∧ (mz_cd 182).drop 11 = bl_182_11 ∧ bl_182_0 = (2, 0, 0, 0, 0, 0) :: (0, 0, 0, 0, 0, 0) :: (38, 4, 0, 9, 59, 6118) :: (1, 1, 0, 0, 0, 0) :: (49, 105, 9, 1, 171, 7047) :: (26, 10, 11, 0, 0, 0) :: (2, 0, 0, 0, 0, 0) :: (1, 1, 0, 0, 0, 0) :: (50, 121, 9, 2, 202, 7107) :: (32, 11, 4, 0, 0, 0) :: bl_182_10 ∧ bl_182_10 = (0, 0, (-1), 0, 0, 0) :: bl_182_11 ∧ bl_182_11 = (55, 0, 0, 0, 0, 0) :: [] := by refine ⟨?_, ?_, ?_, ?_, ?_, ?_⟩ <;> rfl
theorem cdS_183 : (mz_cd 183).drop 0 = bl_183_0 ∧ (mz_cd 183).drop 7 = bl_183_7 ∧ (mz_cd 183).drop 19 = bl_183_19 ∧ (mz_cd 183).drop 20 = bl_183_20 ∧ (mz_cd 183).drop 24 = bl_183_24 ∧ bl_183_0 = (2, 0, 0, 0, 0, 0) :: (0, 0, 0, 0, 0, 0) :: (38, 4, 0, 9, 59, 6118) :: (0, 0, 0, 0, 0, 0) :: (3, 1, 0, 0, 0, 0) :: (0, 0, 0, 0, 0, 0) :: (3, 2, 0, 0, 0, 0) :: bl_183_7 ∧ bl_183_7 = (1, 2, 0, 0, 0, 0) :: (0, 1, 16, 0, 0, 0) :: (23, 24, 27, 0, 0, 0) :: (1, 1, 0, 0, 0, 0) :: (2, 0, 0, 0, 0, 0) :: (1, 2, 0, 0, 0, 0) :: (50, 107, 9, 2, 228, 7152) :: (26, 19, 9, 0, 0, 0) :: (0, 0, 1, 0, 0, 0) :: (1, 2, 0, 0, 0, 0) :: (14, 0, 0, 0, 0, 0) :: (32, 20, 4, 0, 0, 0) :: bl_183_19 ∧ bl_183_19 = (0, 0, 0, 0, 0, 0) :: bl_183_20 ∧ bl_183_20 = (12, 0, 0, 0, 0, 0) :: (3, 1, 0, 0, 0, 0) :: (5, 2, 1, 0, 0, 0) :: (32, 7, (-27), 0, 0, 0) :: bl_183_24 ∧ bl_183_24 = (1, 1, 0, 0, 0, 0) :: (55, 0, 0, 0, 0, 0) :: [] := by refine ⟨?_, ?_, ?_, ?_, ?_, ?_, ?_, ?_, ?_, ?_⟩ <;> rfl
theorem cdS_184 : (mz_cd 184).drop 0 = bl_184_0 ∧ (mz_cd 184).drop 12 = bl_184_12 ∧ (mz_cd 184).drop 20 = bl_184_20 ∧ (mz_cd 184).drop 41 = bl_184_41 ∧ (mz_cd 184).drop 43 = bl_184_43 ∧ (mz_cd 184).drop 54 = bl_184_54 ∧ (mz_cd 184).drop 93 = bl_184_93 ∧ (mz_cd 184).drop 133 = bl_184_133 ∧ (mz_cd 184).drop 135 = bl_184_135 ∧ (mz_cd 184).drop 137 = bl_184_137 ∧ bl_184_0 = (1, 1, 0, 0, 0, 0) :: (2, 0, 0, 0, 0, 0) :: (36, 19, 0, 9, 240, 6133) :: (24, 12, 20, 0, 0, 0) :: (1, 1, 0, 0, 0, 0) :: (2, 0, 0, 0, 0, 0) :: (36, 19, 0, 9, 240, 6133) :: (21, 41, 66, 0, 0, 0) :: (1, 4, 0, 0, 1, 0) :: (2, 0, 0, 0, 0, 0) :: (36, 20, 0, 9, 243, 6134) :: (23, 41, 57, 0, 0, 0) :: bl_184_12 ∧ bl_184_12 = (2, 0, 0, 0, 0, 0) :: (1, 1, 0, 0, 0, 0) :: (38, 19, 0, 9, 240, 6133) :: (2, 0, 0, 0, 0, 0) :: (1, 4, 0, 0, 1, 0) :: (38, 20, 0, 9, 243, 6134) :: (0, 0, 0, 0, 0, 0) :: (3, 5, 0, 0, 1, 0) :: bl_184_20 ∧ bl_184_20 = (1, 5, 0, 0, 1, 0) :: (1, 1, 0, 0, 0, 0) :: (23, 41, 37, 0, 0, 0) :: (2, 0, 0, 0, 0, 0) :: (37, 15, 0, 9, 36, 6129) :: (1, 5, 0, 0, 1, 0) :: (2, 0, 0, 0, 0, 0) :: (37, 13, 0, 9, 30, 6127) :: (1, 5, 0, 0, 1, 0) :: (40, 0, 0, 0, 0, 0) :: (41, 0, 0, 0, 0, 0) :: (2, 0, 0, 0, 0, 0) :: (37, 16, 0, 9, 39, 6130) :: (1, 5, 0, 0, 1, 0) :: (2, 0, 0, 0, 0, 0) :: (37, 14, 0, 9, 33, 6128) :: (1, 5, 0, 0, 1, 0) :: (40, 0, 0, 0, 0, 0) :: (41, 0, 0, 0, 0, 0) :: (5, 5, 1, 0, 0, 0) :: (32, 20, (-37), 0, 0, 0) :: bl_184_41 ∧ bl_184_41 = (0, 0, 0, 0, 0, 0) :: (3, 5, 0, 0, 1, 0) :: bl_184_43 ∧ bl_184_43 = (1, 5, 0, 0, 1, 0) :: (2, 0, 0, 0, 0, 0) :: (36, 18, 0, 9, 231, 6132) :: (23, 137, 156, 0, 0, 0) :: (2, 0, 0, 0, 0, 0) :: (37, 12, 0, 9, 27, 6126) :: (1, 5, 0, 0, 1, 0) :: (40, 0, 0, 0, 0, 0) :: (3, 6, 0, 0, 1, 0) :: (0, 0, 0, 0, 0, 0) :: (3, 7, 0, 0, 1, 0) :: bl_184_54 ∧ bl_184_54 = (1, 7, 0, 0, 1, 0) :: (2, 0, 0, 0, 0, 0) :: (37, 0, 0, 9, 9, 6114) :: (0, 0, 0, 0, 0, 0) :: (40, 0, 0, 0, 0, 0) :: (23, 135, 127, 0, 0, 0) :: (1, 3, 0, 0, 0, 0) :: (1, 5, 0, 0, 1, 0) :: (15, 0, 0, 0, 0, 0) :: (0, 0, 1, 0, 0, 0) :: (11, 0, 0, 0, 0, 0) :: (27, 135, 118, 0, 0, 0) :: (2, 0, 0, 0, 0, 0) :: (1, 2, 0, 0, 0, 0) :: (2, 0, 0, 0, 0, 0) :: (1, 6, 0, 0, 1, 0) :: (0, 0, 1, 0, 0, 0) :: (50, 46, 9, 3, 161, 7054) :: (50, 51, 9, 3, 249, 7168) :: (0, 1, 10, 0, 0, 0) :: (6, 0, 0, 0, 0, 0) :: (2, 0, 0, 0, 0, 0) :: (2, 0, 0, 0, 0, 0) :: (1, 6, 0, 0, 1, 0) :: (0, 0, 1, 0, 0, 0) :: (50, 46, 9, 3, 161, 7054) :: (1, 7, 0, 0, 1, 0) :: (50, 51, 9, 3, 249, 7168) :: (6, 0, 0, 0, 0, 0) :: (3, 8, 0, 0, 1, 0) :: (2, 0, 0, 0, 0, 0) :: (37, 17, 0, 9, 42, 6131) :: (1, 7, 0, 0, 1, 0) :: (40, 0, 0, 0, 0, 0) :: (26, 133, 71, 0, 0, 0) :: (1, 8, 0, 0, 1, 0) :: (0, 3, 1000000, 0, 63, 6109) :: (22, 93, 6, 0, 0, 0) :: (32, 133, 61, 0, 0, 0) :: bl_184_93 ∧ bl_184_93 = (2, 0, 0, 0, 0, 0) :: (37, 17, 0, 9, 42, 6131) :: (1, 7, 0, 0, 1, 0) :: (69, 0, 0, 0, 0, 0) :: (40, 0, 0, 0, 0, 0) :: (0, 0, 1, 0, 0, 0) :: (7, 0, 0, 0, 0, 0) :: (41, 0, 0, 0, 0, 0) :: (2, 0, 0, 0, 0, 0) :: (37, 13, 0, 9, 30, 6127) :: (1, 1, 0, 0, 0, 0) :: (1, 6, 0, 0, 1, 0) :: (41, 0, 0, 0, 0, 0) :: (2, 0, 0, 0, 0, 0) :: (37, 14, 0, 9, 33, 6128) :: (1, 1, 0, 0, 0, 0) :: (1, 7, 0, 0, 1, 0) :: (41, 0, 0, 0, 0, 0) :: (2, 0, 0, 0, 0, 0) :: (1, 1, 0, 0, 0, 0) :: (0, 0, 1, 0, 0, 0) :: (6, 0, 0, 0, 0, 0) :: (1, 7, 0, 0, 1, 0) :: (1, 3, 0, 0, 0, 0) :: (0, 0, 1, 0, 0, 0) :: (1, 5, 0, 0, 1, 0) :: (14, 0, 0, 0, 0, 0) :: (12, 0, 0, 0, 0, 0) :: (1, 4, 0, 0, 1, 0) :: (1, 8, 0, 0, 1, 0) :: (6, 0, 0, 0, 0, 0) :: (50, 122, 9, 5, 246, 7164) :: (2, 0, 0, 0, 0, 0) :: (37, 17, 0, 9, 42, 6131) :: (1, 7, 0, 0, 1, 0) :: (69, 0, 0, 0, 0, 0) :: (40, 0, 0, 0, 0, 0) :: (0, 0, 1, 0, 0, 0) :: (6, 0, 0, 0, 0, 0) :: (41, 0, 0, 0, 0, 0) :: bl_184_133 ∧ bl_184_133 = (5, 7, 1, 0, 0, 0) :: (32, 54, (-132), 0, 0, 0) :: bl_184_135 ∧ bl_184_135 = (5, 5, 1, 0, 0, 0) :: (32, 43, (-159), 0, 0, 0) :: bl_184_137 ∧ bl_184_137 = (57, 0, 0, 0, 0, 0) :: [] := by refine ⟨?_, ?_, ?_, ?_, ?_, ?_, ?_, ?_, ?_, ?_, ?_, ?_, ?_, ?_, ?_, ?_, ?_, ?_, ?_, ?_⟩ <;> rfl
theorem cdS_185 : (mz_cd 185).drop 0 = bl_185_0 ∧ (mz_cd 185).drop 14 = bl_185_14 ∧ (mz_cd 185).drop 15 = bl_185_15 ∧ bl_185_0 = (2, 0, 0, 0, 0, 0) :: (0, 0, 0, 0, 0, 0) :: (38, 4, 0, 9, 59, 6118) :: (2, 0, 0, 0, 0, 0) :: (1, 1, 0, 0, 0, 0) :: (50, 106, 9, 2, 175, 7050) :: (26, 14, 16, 0, 0, 0) :: (2, 0, 0, 0, 0, 0) :: (37, 0, 0, 9, 9, 6114) :: (0, 2, 203, 0, 0, 0) :: (1, 1, 0, 0, 0, 0) :: (6, 0, 0, 0, 0, 0) :: (40, 0, 0, 0, 0, 0) :: (32, 15, 4, 0, 0, 0) :: bl_185_14 ∧ bl_185_14 = (0, 0, (-1), 0, 0, 0) :: bl_185_15 ∧ bl_185_15 = (55, 0, 0, 0, 0, 0) :: [] := by refine ⟨?_, ?_, ?_, ?_, ?_, ?_⟩ <;> rfl
theorem cdS_186 : (mz_cd 186).drop 0 = bl_186_0 ∧ (mz_cd 186).drop 8 = bl_186_8 ∧ bl_186_0 = (2, 0, 0, 0, 0, 0) :: (50, 1, 90, 1, 492, 2227) :: (26, 8, 12, 0, 0, 0) :: (2, 0, 0, 0, 0, 0) :: (66, 0, 0, 0, 9, 8192) :: (1, 1, 0, 0, 0, 0) :: (49, 124, 99, 2, 495, 2231) :: (55, 3, 0, 0, 0, 0) :: bl_186_8 ∧ bl_186_8 = (2, 0, 0, 0, 0, 0) :: (66, 0, 0, 0, 9, 8192) :: (1, 1, 0, 0, 0, 0) :: (99, 0, 0, 0, 0, 0) :: (55, 3, 0, 0, 0, 0) :: [] := by refine ⟨?_, ?_, ?_, ?_⟩ <;> rfl
theorem cdS_187 : (mz_cd 187).drop 0 = bl_187_0 ∧ (mz_cd 187).drop 6 = bl_187_6 ∧ (mz_cd 187).drop 40 = bl_187_40 ∧ (mz_cd 187).drop 42 = bl_187_42 ∧ (mz_cd 187).drop 54 = bl_187_54 ∧ (mz_cd 187).drop 56 = bl_187_56 ∧ (mz_cd 187).drop 57 = bl_187_57 ∧ (mz_cd 187).drop 72 = bl_187_72 ∧ bl_187_0 = (0, 0, 0, 0, 0, 0) :: (3, 4, 0, 0, 1, 0) :: (0, 3, 1000000, 0, 61, 5140) :: (3, 5, 0, 0, 1, 0) :: (0, 0, 0, 0, 0, 0) :: (3, 6, 0, 0, 1, 0) :: bl_187_6 ∧ bl_187_6 = (1, 6, 0, 0, 1, 0) :: (2, 2, 0, 0, 0, 0) :: (36, 0, 0, 4, 41, 1101) :: (23, 42, 67, 0, 0, 0) :: (1, 1, 0, 0, 0, 0) :: (1, 6, 0, 0, 1, 0) :: (52, 24, 8, 2, 62, 23) :: (26, 40, 52, 0, 0, 0) :: (2, 0, 0, 0, 0, 0) :: (1, 1, 0, 0, 0, 0) :: (1, 6, 0, 0, 1, 0) :: (2, 2, 0, 0, 0, 0) :: (50, 129, 2, 4, 66, 5142) :: (3, 7, 0, 0, 1, 0) :: (2, 0, 0, 0, 0, 0) :: (37, 1, 0, 2, 15, 2116) :: (1, 1, 0, 0, 0, 0) :: (0, 1, 10, 0, 0, 0) :: (8, 0, 0, 0, 0, 0) :: (1, 6, 0, 0, 1, 0) :: (6, 0, 0, 0, 0, 0) :: (1, 7, 0, 0, 1, 0) :: (52, 31, 8, 3, 57, 22) :: (1, 5, 0, 0, 1, 0) :: (1, 7, 0, 0, 1, 0) :: (76, 0, 0, 0, 70, 5148) :: (3, 5, 0, 0, 1, 0) :: (1, 4, 0, 0, 1, 0) :: (2, 0, 0, 0, 0, 0) :: (37, 0, 0, 2, 9, 2115) :: (1, 6, 0, 0, 1, 0) :: (52, 23, 8, 2, 75, 24) :: (6, 0, 0, 0, 0, 0) :: (3, 4, 0, 0, 1, 0) :: bl_187_40 ∧ bl_187_40 = (5, 6, 1, 0, 0, 0) :: (32, 6, (-70), 0, 0, 0) :: bl_187_42 ∧ bl_187_42 = (1, 4, 0, 0, 1, 0) :: (2, 0, 0, 0, 0, 0) :: (36, 3, 0, 2, 22, 2118) :: (24, 54, 21, 0, 0, 0) :: (1, 4, 0, 0, 1, 0) :: (2, 0, 0, 0, 0, 0) :: (36, 3, 0, 2, 22, 2118) :: (21, 56, 16, 0, 0, 0) :: (1, 5, 0, 0, 1, 0) :: (2, 0, 0, 0, 0, 0) :: (36, 4, 0, 2, 25, 2120) :: (23, 56, 7, 0, 0, 0) :: bl_187_54 ∧ bl_187_54 = (0, 0, 1, 0, 0, 0) :: (32, 57, 4, 0, 0, 0) :: bl_187_56 ∧ bl_187_56 = (0, 0, 0, 0, 0, 0) :: bl_187_57 ∧ bl_187_57 = (3, 6, 0, 0, 1, 0) :: (1, 5, 0, 0, 1, 0) :: (1, 3, 0, 0, 0, 0) :: (24, 72, 25, 0, 0, 0) :: (1, 6, 0, 0, 1, 0) :: (26, 72, 20, 0, 0, 0) :: (2, 0, 0, 0, 0, 0) :: (1, 4, 0, 0, 1, 0) :: (38, 3, 0, 2, 22, 2118) :: (2, 0, 0, 0, 0, 0) :: (1, 5, 0, 0, 1, 0) :: (38, 4, 0, 2, 25, 2120) :: (2, 0, 0, 0, 0, 0) :: (1, 1, 0, 0, 0, 0) :: (38, 5, 0, 2, 28, 2122) :: bl_187_72 ∧ bl_187_72 = (57, 0, 0, 0, 0, 0) :: [] := by refine ⟨?_, ?_, ?_, ?_, ?_, ?_, ?_, ?_, ?_, ?_, ?_, ?_, ?_, ?_, ?_, ?_⟩ <;> rfl
theorem cdS_188 : (mz_cd 188).drop 0 = bl_188_0 ∧ (mz_cd 188).drop 8 = bl_188_8 ∧ (mz_cd 188).drop 16 = bl_188_16 ∧ (mz_cd 188).drop 35 = bl_188_35 ∧ (mz_cd 188).drop 37 = bl_188_37 ∧ (mz_cd 188).drop 39 = bl_188_39 ∧ bl_188_0 = (2, 0, 0, 0, 0, 0) :: (1, 1, 0, 0, 0, 0) :: (1, 2, 0, 0, 0, 0) :: (1, 3, 0, 0, 0, 0) :: (50, 130, 3, 4, 140, 4093) :: (3, 4, 0, 0, 1, 0) :: (0, 0, 0, 0, 0, 0) :: (3, 5, 0, 0, 1, 0) :: bl_188_8 ∧ bl_188_8 = (1, 5, 0, 0, 1, 0) :: (2, 0, 0, 0, 0, 0) :: (36, 9, 0, 3, 78, 2079) :: (23, 39, 56, 0, 0, 0) :: (1, 4, 0, 0, 1, 0) :: (31, 39, 51, 0, 0, 0) :: (0, 0, 0, 0, 0, 0) :: (3, 6, 0, 0, 1, 0) :: bl_188_16 ∧ bl_188_16 = (1, 6, 0, 0, 1, 0) :: (2, 0, 0, 0, 0, 0) :: (36, 10, 0, 3, 108, 2080) :: (23, 37, 33, 0, 0, 0) :: (2, 0, 0, 0, 0, 0) :: (1, 1, 0, 0, 0, 0) :: (1, 2, 0, 0, 0, 0) :: (1, 3, 0, 0, 0, 0) :: (1, 5, 0, 0, 1, 0) :: (1, 6, 0, 0, 1, 0) :: (50, 68, 3, 6, 143, 4097) :: (1, 4, 0, 0, 1, 0) :: (21, 35, 11, 0, 0, 0) :: (1, 5, 0, 0, 1, 0) :: (0, 0, 2, 0, 0, 0) :: (8, 0, 0, 0, 0, 0) :: (1, 6, 0, 0, 1, 0) :: (6, 0, 0, 0, 0, 0) :: (55, 0, 0, 0, 0, 0) :: bl_188_35 ∧ bl_188_35 = (5, 6, 1, 0, 0, 0) :: (32, 16, (-36), 0, 0, 0) :: bl_188_37 ∧ bl_188_37 = (5, 5, 1, 0, 0, 0) :: (32, 8, (-59), 0, 0, 0) :: bl_188_39 ∧ bl_188_39 = (0, 0, (-1), 0, 0, 0) :: (55, 0, 0, 0, 0, 0) :: [] := by refine ⟨?_, ?_, ?_, ?_, ?_, ?_, ?_, ?_, ?_, ?_, ?_, ?_⟩ <;> rfl
theorem cdS_189 : (mz_cd 189).drop 0 = bl_189_0 ∧ (mz_cd 189).drop 7 = bl_189_7 ∧ (mz_cd 189).drop 11 = bl_189_11 ∧ (mz_cd 189).drop 17 = bl_189_17 ∧ (mz_cd 189).drop 35 = bl_189_35 ∧ (mz_cd 189).drop 37 = bl_189_37 ∧ (mz_cd 189).drop 39 = bl_189_39 ∧ bl_189_0 = (0, 0, 1, 0, 0, 0) :: (2, 0, 0, 0, 0, 0) :: (36, 9, 0, 3, 78, 2079) :: (14, 0, 0, 0, 0, 0) :: (0, 0, 1, 0, 0, 0) :: (7, 0, 0, 0, 0, 0) :: (3, 1, 0, 0, 0, 0) :: bl_189_7 ∧ bl_189_7 = (1, 1, 0, 0, 0, 0) :: (28, 39, 61, 0, 0, 0) :: (0, 0, 0, 0, 0, 0) :: (3, 2, 0, 0, 0, 0) :: bl_189_11 ∧ bl_189_11 = (1, 2, 0, 0, 0, 0) :: (1, 1, 0, 0, 0, 0) :: (49, 3, 99, 1, 132, 4089) :: (24, 37, 45, 0, 0, 0) :: (0, 0, 0, 0, 0, 0) :: (3, 3, 0, 0, 0, 0) :: bl_189_17 ∧ bl_189_17 = (1, 3, 0, 0, 0, 0) :: (2, 0, 0, 0, 0, 0) :: (36, 10, 0, 3, 108, 2080) :: (23, 35, 29, 0, 0, 0) :: (2, 0, 0, 0, 0, 0) :: (37, 5, 0, 3, 27, 2072) :: (1, 1, 0, 0, 0, 0) :: (1, 2, 0, 0, 0, 0) :: (1, 3, 0, 0, 0, 0) :: (49, 13, 3, 3, 137, 4090) :: (2, 0, 0, 0, 0, 0) :: (1, 1, 0, 0, 0, 0) :: (1, 2, 0, 0, 0, 0) :: (1, 3, 0, 0, 0, 0) :: (50, 130, 3, 4, 140, 4093) :: (52, 31, 8, 3, 98, 18) :: (5, 3, 1, 0, 0, 0) :: (32, 17, (-31), 0, 0, 0) :: bl_189_35 ∧ bl_189_35 = (5, 2, 1, 0, 0, 0) :: (32, 11, (-47), 0, 0, 0) :: bl_189_37 ∧ bl_189_37 = (5, 1, (-1), 0, 0, 0) :: (32, 7, (-59), 0, 0, 0) :: bl_189_39 ∧ bl_189_39 = (57, 0, 0, 0, 0, 0) :: [] := by refine ⟨?_, ?_, ?_, ?_, ?_, ?_, ?_, ?_, ?_, ?_, ?_, ?_, ?_, ?_⟩ <;> rfl
theorem cdS_190 : (mz_cd 190).drop 0 = bl_190_0 ∧ (mz_cd 190).drop 33 = bl_190_33 ∧ (mz_cd 190).drop 44 = bl_190_44 ∧ bl_190_0 = (2, 0, 0, 0, 0, 0) :: (0, 0, 1, 0, 0, 0) :: (38, 0, 0, 4, 37, 1100) :: (2, 0, 0, 0, 0, 0) :: (0, 0, 0, 0, 0, 0) :: (38, 1, 0, 4, 41, 1105) :: (2, 0, 0, 0, 0, 0) :: (0, 0, (-1), 0, 0, 0) :: (38, 2, 0, 4, 44, 1107) :: (2, 0, 0, 0, 0, 0) :: (37, 3, 0, 4, 9, 1109) :: (0, 0, 0, 0, 0, 0) :: (49, 4, 99, 2, 47, 1068) :: (2, 0, 0, 0, 0, 0) :: (37, 4, 0, 4, 15, 1113) :: (0, 0, 2, 0, 0, 0) :: (49, 4, 99, 2, 47, 1068) :: (2, 0, 0, 0, 0, 0) :: (37, 5, 0, 4, 18, 1116) :: (0, 0, 0, 0, 0, 0) :: (49, 4, 99, 2, 47, 1068) :: (2, 0, 0, 0, 0, 0) :: (37, 6, 0, 4, 21, 1118) :: (0, 3, 1000000, 0, 53, 1071) :: (49, 4, 99, 2, 47, 1068) :: (2, 0, 0, 0, 0, 0) :: (37, 8, 0, 4, 29, 1120) :: (4, 1, 0, 0, 0, 0) :: (2, 1, 0, 0, 0, 0) :: (48, 0, 0, 0, 0, 0) :: (3, 2, 0, 0, 0, 0) :: (0, 0, 0, 0, 0, 0) :: (3, 3, 0, 0, 0, 0) :: bl_190_33 ∧ bl_190_33 = (1, 3, 0, 0, 0, 0) :: (1, 2, 0, 0, 0, 0) :: (23, 44, 19, 0, 0, 0) :: (2, 1, 0, 0, 0, 0) :: (1, 3, 0, 0, 0, 0) :: (46, 0, 0, 0, 0, 0) :: (4, 4, 0, 0, 1, 0) :: (2, 4, 0, 0, 1, 0) :: (50, 80, 7, 1, 54, 1072) :: (5, 3, 1, 0, 0, 0) :: (32, 33, (-18), 0, 0, 0) :: bl_190_44 ∧ bl_190_44 = (2, 0, 0, 0, 0, 0) :: (50, 134, 4, 1, 55, 1077) :: (57, 0, 0, 0, 0, 0) :: [] := by refine ⟨?_, ?_, ?_, ?_, ?_, ?_⟩ <;> rfl
theorem cdS_191 : (mz_cd 191).drop 0 = bl_191_0 ∧ (mz_cd 191).drop 39 = bl_191_39 ∧ (mz_cd 191).drop 55 = bl_191_55 ∧ bl_191_0 = (2, 0, 0, 0, 0, 0) :: (2, 1, 0, 0, 0, 0) :: (36, 0, 0, 4, 37, 1100) :: (38, 0, 0, 4, 37, 1100) :: (2, 0, 0, 0, 0, 0) :: (2, 1, 0, 0, 0, 0) :: (36, 1, 0, 4, 41, 1105) :: (38, 1, 0, 4, 41, 1105) :: (2, 0, 0, 0, 0, 0) :: (2, 1, 0, 0, 0, 0) :: (36, 2, 0, 4, 44, 1107) :: (38, 2, 0, 4, 44, 1107) :: (2, 1, 0, 0, 0, 0) :: (37, 3, 0, 4, 9, 1109) :: (2, 0, 0, 0, 0, 0) :: (37, 3, 0, 4, 9, 1109) :: (52, 85, 8, 2, 58, 2) :: (2, 1, 0, 0, 0, 0) :: (37, 4, 0, 4, 15, 1113) :: (2, 0, 0, 0, 0, 0) :: (37, 4, 0, 4, 15, 1113) :: (52, 85, 8, 2, 58, 2) :: (2, 1, 0, 0, 0, 0) :: (37, 5, 0, 4, 18, 1116) :: (2, 0, 0, 0, 0, 0) :: (37, 5, 0, 4, 18, 1116) :: (52, 85, 8, 2, 58, 2) :: (2, 1, 0, 0, 0, 0) :: (37, 6, 0, 4, 21, 1118) :: (2, 0, 0, 0, 0, 0) :: (37, 6, 0, 4, 21, 1118) :: (52, 85, 8, 2, 58, 2) :: (2, 1, 0, 0, 0, 0) :: (37, 7, 0, 4, 24, 1119) :: (2, 0, 0, 0, 0, 0) :: (37, 7, 0, 4, 24, 1119) :: (52, 85, 8, 2, 58, 2) :: (0, 0, 0, 0, 0, 0) :: (3, 2, 0, 0, 0, 0) :: bl_191_39 ∧ bl_191_39 = (1, 2, 0, 0, 0, 0) :: (2, 0, 0, 0, 0, 0) :: (37, 8, 0, 4, 29, 1120) :: (48, 0, 0, 0, 0, 0) :: (23, 55, 24, 0, 0, 0) :: (2, 0, 0, 0, 0, 0) :: (37, 8, 0, 4, 29, 1120) :: (1, 2, 0, 0, 0, 0) :: (46, 0, 0, 0, 0, 0) :: (2, 1, 0, 0, 0, 0) :: (37, 8, 0, 4, 29, 1120) :: (1, 2, 0, 0, 0, 0) :: (46, 0, 0, 0, 0, 0) :: (50, 142, 7, 2, 62, 3102) :: (5, 2, 1, 0, 0, 0) :: (32, 39, (-27), 0, 0, 0) :: bl_191_55 ∧ bl_191_55 = (57, 0, 0, 0, 0, 0) :: [] := by refine ⟨?_, ?_, ?_, ?_, ?_, ?_⟩ <;> rfl
theorem cdS_192 : (mz_cd 192).drop 0 = bl_192_0 ∧ bl_192_0 = (2, 0, 0, 0, 0, 0) :: (0, 0, 0, 0, 0, 0) :: (2, 0, 0, 0, 0, 0) :: (37, 0, 0, 5, 12, 1140) :: (36, 0, 0, 4, 72, 1104) :: (0, 0, 1, 0, 0, 0) :: (7, 0, 0, 0, 0, 0) :: (50, 137, 5, 3, 68, 3025) :: (55, 0, 0, 0, 0, 0) :: [] := by refine ⟨?_, ?_⟩ <;> rfl
theorem cdS_193 : (mz_cd 193).drop 0 = bl_193_0 ∧ (mz_cd 193).drop 35 = bl_193_35 ∧ bl_193_0 = (2, 0, 0, 0, 0, 0) :: (37, 0, 0, 5, 12, 1140) :: (2, 0, 0, 0, 0, 0) :: (0, 0, 0, 0, 0, 0) :: (0, 0, 3, 0, 0, 0) :: (50, 137, 5, 3, 68, 3025) :: (50, 16, 4, 2, 109, 3063) :: (4, 1, 0, 0, 0, 0) :: (2, 0, 0, 0, 0, 0) :: (0, 0, 0, 0, 0, 0) :: (0, 1, 23, 0, 0, 0) :: (50, 137, 5, 3, 68, 3025) :: (3, 2, 0, 0, 0, 0) :: (2, 0, 0, 0, 0, 0) :: (1, 2, 0, 0, 0, 0) :: (0, 0, 1, 0, 0, 0) :: (6, 0, 0, 0, 0, 0) :: (0, 1, 24, 0, 0, 0) :: (50, 137, 5, 3, 68, 3025) :: (3, 3, 0, 0, 0, 0) :: (2, 0, 0, 0, 0, 0) :: (0, 0, 0, 0, 0, 0) :: (0, 2, 999, 0, 0, 0) :: (50, 137, 5, 3, 68, 3025) :: (3, 4, 0, 0, 1, 0) :: (2, 0, 0, 0, 0, 0) :: (36, 6, 0, 5, 36, 1148) :: (27, 35, 15, 0, 0, 0) :: (2, 1, 0, 0, 0, 0) :: (33, 35, 11, 0, 0, 0) :: (2, 1, 0, 0, 0, 0) :: (1, 2, 0, 0, 0, 0) :: (1, 3, 0, 0, 0, 0) :: (1, 4, 0, 0, 1, 0) :: (50, 83, 7, 4, 113, 3067) :: bl_193_35 ∧ bl_193_35 = (57, 0, 0, 0, 0, 0) :: [] := by refine ⟨?_, ?_, ?_, ?_⟩ <;> rfl
theorem cdS_194 : (mz_cd 194).drop 0 = bl_194_0 ∧ (mz_cd 194).drop 21 = bl_194_21 ∧ bl_194_0 = (2, 0, 0, 0, 0, 0) :: (37, 0, 0, 5, 12, 1140) :: (2, 0, 0, 0, 0, 0) :: (0, 0, 0, 0, 0, 0) :: (0, 0, 3, 0, 0, 0) :: (50, 137, 5, 3, 68, 3025) :: (50, 16, 4, 2, 109, 3063) :: (4, 1, 0, 0, 0, 0) :: (2, 0, 0, 0, 0, 0) :: (0, 1, 10, 0, 0, 0) :: (0, 2, 600, 0, 0, 0) :: (50, 137, 5, 3, 68, 3025) :: (3, 2, 0, 0, 0, 0) :: (2, 0, 0, 0, 0, 0) :: (36, 6, 0, 5, 36, 1148) :: (27, 21, 12, 0, 0, 0) :: (2, 1, 0, 0, 0, 0) :: (33, 21, 8, 0, 0, 0) :: (2, 1, 0, 0, 0, 0) :: (1, 2, 0, 0, 0, 0) :: (38, 1, 0, 7, 118, 1056) :: bl_194_21 ∧ bl_194_21 = (57, 0, 0, 0, 0, 0) :: [] := by refine ⟨?_, ?_, ?_, ?_⟩ <;> rfl
theorem cdS_195 : (mz_cd 195).drop 0 = bl_195_0 ∧ bl_195_0 = (2, 0, 0, 0, 0, 0) :: (37, 0, 0, 6, 12, 2035) :: (1, 1, 0, 0, 0, 0) :: (50, 72, 4, 2, 108, 3179) :: (4, 4, 0, 0, 1, 0) :: (2, 4, 0, 0, 1, 0) :: (1, 2, 0, 0, 0, 0) :: (2, 0, 0, 0, 0, 0) :: (36, 3, 0, 6, 48, 2043) :: (2, 4, 0, 0, 1, 0) :: (36, 1, 0, 7, 112, 1055) :: (6, 0, 0, 0, 0, 0) :: (1, 3, 0, 0, 0, 0) :: (50, 144, 7, 4, 117, 3184) :: (55, 0, 0, 0, 0, 0) :: [] := by refine ⟨?_, ?_⟩ <;> rfl
theorem cdS_196 : (mz_cd 196).drop 0 = bl_196_0 ∧ bl_196_0 = (2, 1, 0, 0, 0, 0) :: (0, 0, 3, 0, 0, 0) :: (38, 1, 0, 0, 95, 1224) :: (2, 1, 0, 0, 0, 0) :: (1, 2, 0, 0, 0, 0) :: (38, 2, 0, 0, 98, 1228) :: (2, 1, 0, 0, 0, 0) :: (18, 0, 0, 0, 0, 0) :: (36, 9, 0, 0, 158, 2007) :: (0, 2, 15000, 0, 0, 0) :: (6, 0, 0, 0, 0, 0) :: (38, 9, 0, 0, 158, 2007) :: (2, 0, 0, 0, 0, 0) :: (1, 2, 0, 0, 0, 0) :: (38, 4, 0, 6, 31, 2046) :: (2, 0, 0, 0, 0, 0) :: (0, 1, 10, 0, 0, 0) :: (2, 1, 0, 0, 0, 0) :: (0, 2, 15000, 0, 0, 0) :: (50, 140, 6, 4, 104, 3159) :: (57, 0, 0, 0, 0, 0) :: [] := by refine ⟨?_, ?_⟩ <;> rfl
theorem cdS_197 : (mz_cd 197).drop 0 = bl_197_0 ∧ bl_197_0 = (2, 0, 0, 0, 0, 0) :: (37, 0, 0, 6, 12, 2035) :: (2, 1, 0, 0, 0, 0) :: (36, 2, 0, 0, 98, 1228) :: (50, 72, 4, 2, 108, 3179) :: (2, 1, 0, 0, 0, 0) :: (36, 3, 0, 0, 101, 1231) :: (2, 0, 0, 0, 0, 0) :: (36, 3, 0, 6, 48, 2043) :: (50, 141, 7, 3, 121, 3202) :: (55, 0, 0, 0, 0, 0) :: [] := by refine ⟨?_, ?_⟩ <;> rfl
theorem cdS_198 : (mz_cd 198).drop 0 = bl_198_0 ∧ (mz_cd 198).drop 26 = bl_198_26 ∧ bl_198_0 = (2, 1, 0, 0, 0, 0) :: (36, 9, 0, 0, 158, 2007) :: (3, 2, 0, 0, 0, 0) :: (2, 1, 0, 0, 0, 0) :: (50, 10, 0, 1, 151, 4002) :: (27, 26, 38, 0, 0, 0) :: (1, 2, 0, 0, 0, 0) :: (31, 26, 34, 0, 0, 0) :: (2, 1, 0, 0, 0, 0) :: (36, 10, 0, 0, 161, 2010) :: (1, 2, 0, 0, 0, 0) :: (22, 26, 26, 0, 0, 0) :: (2, 1, 0, 0, 0, 0) :: (18, 0, 0, 0, 0, 0) :: (36, 10, 0, 0, 161, 2010) :: (1, 2, 0, 0, 0, 0) :: (7, 0, 0, 0, 0, 0) :: (38, 10, 0, 0, 161, 2010) :: (2, 1, 0, 0, 0, 0) :: (0, 0, 0, 0, 0, 0) :: (38, 9, 0, 0, 158, 2007) :: (2, 0, 0, 0, 0, 0) :: (0, 1, 8, 0, 0, 0) :: (2, 1, 0, 0, 0, 0) :: (1, 2, 0, 0, 0, 0) :: (50, 140, 6, 4, 104, 3159) :: bl_198_26 ∧ bl_198_26 = (57, 0, 0, 0, 0, 0) :: [] := by refine ⟨?_, ?_, ?_, ?_⟩ <;> rfl
theorem cdS_199 : (mz_cd 199).drop 0 = bl_199_0 ∧ (mz_cd 199).drop 2 = bl_199_2 ∧ (mz_cd 199).drop 27 = bl_199_27 ∧ (mz_cd 199).drop 28 = bl_199_28 ∧ (mz_cd 199).drop 54 = bl_199_54 ∧ (mz_cd 199).drop 55 = bl_199_55 ∧ bl_199_0 = (0, 0, 1, 0, 0, 0) :: (3, 2, 0, 0, 0, 0) :: bl_199_2 ∧ bl_199_2 = (1, 2, 0, 0, 0, 0) :: (26, 55, 99, 0, 0, 0) :: (2, 1, 0, 0, 0, 0) :: (36, 6, 0, 0, 177, 2000) :: (2, 1, 0, 0, 0, 0) :: (36, 5, 0, 0, 142, 1237) :: (23, 55, 88, 0, 0, 0) :: (2, 0, 0, 0, 0, 0) :: (37, 2, 0, 6, 27, 2041) :: (37, 4, 0, 1, 180, 1194) :: (2, 0, 0, 0, 0, 0) :: (37, 2, 0, 6, 27, 2041) :: (2, 1, 0, 0, 0, 0) :: (36, 0, 0, 0, 60, 1220) :: (2, 1, 0, 0, 0, 0) :: (36, 6, 0, 0, 177, 2000) :: (50, 62, 1, 3, 183, 4020) :: (52, 23, 8, 2, 75, 13) :: (3, 3, 0, 0, 0, 0) :: (2, 1, 0, 0, 0, 0) :: (36, 10, 0, 0, 161, 2010) :: (1, 3, 0, 0, 0, 0) :: (22, 27, 7, 0, 0, 0) :: (0, 0, 1, 0, 0, 0) :: (32, 28, 4, 0, 0, 0) :: bl_199_27 ∧ bl_199_27 = (0, 0, 0, 0, 0, 0) :: bl_199_28 ∧ bl_199_28 = (3, 2, 0, 0, 0, 0) :: (1, 2, 0, 0, 0, 0) :: (26, 54, 41, 0, 0, 0) :: (2, 1, 0, 0, 0, 0) :: (18, 0, 0, 0, 0, 0) :: (36, 10, 0, 0, 161, 2010) :: (1, 3, 0, 0, 0, 0) :: (7, 0, 0, 0, 0, 0) :: (38, 10, 0, 0, 161, 2010) :: (2, 1, 0, 0, 0, 0) :: (18, 0, 0, 0, 0, 0) :: (36, 8, 0, 0, 148, 2005) :: (1, 3, 0, 0, 0, 0) :: (7, 0, 0, 0, 0, 0) :: (38, 8, 0, 0, 148, 2005) :: (2, 1, 0, 0, 0, 0) :: (18, 0, 0, 0, 0, 0) :: (36, 6, 0, 0, 177, 2000) :: (0, 0, 1, 0, 0, 0) :: (6, 0, 0, 0, 0, 0) :: (38, 6, 0, 0, 177, 2000) :: (2, 0, 0, 0, 0, 0) :: (0, 1, 7, 0, 0, 0) :: (2, 1, 0, 0, 0, 0) :: (1, 3, 0, 0, 0, 0) :: (50, 140, 6, 4, 104, 3159) :: bl_199_54 ∧ bl_199_54 = (32, 2, (-97), 0, 0, 0) :: bl_199_55 ∧ bl_199_55 = (57, 0, 0, 0, 0, 0) :: [] := by refine ⟨?_, ?_, ?_, ?_, ?_, ?_, ?_, ?_, ?_, ?_, ?_, ?_⟩ <;> rfl
theorem cdS_200 : (mz_cd 200).drop 0 = bl_200_0 ∧ bl_200_0 = (2, 1, 0, 0, 0, 0) :: (0, 0, 1, 0, 0, 0) :: (38, 1, 0, 0, 95, 1224) :: (2, 1, 0, 0, 0, 0) :: (1, 2, 0, 0, 0, 0) :: (38, 2, 0, 0, 98, 1228) :: (2, 1, 0, 0, 0, 0) :: (2, 0, 0, 0, 0, 0) :: (36, 3, 0, 6, 48, 2043) :: (38, 3, 0, 0, 101, 1231) :: (2, 0, 0, 0, 0, 0) :: (0, 0, 1, 0, 0, 0) :: (2, 1, 0, 0, 0, 0) :: (1, 2, 0, 0, 0, 0) :: (50, 140, 6, 4, 104, 3159) :: (57, 0, 0, 0, 0, 0) :: [] := by refine ⟨?_, ?_⟩ <;> rfl
theorem cdS_201 : (mz_cd 201).drop 0 = bl_201_0 ∧ (mz_cd 201).drop 18 = bl_201_18 ∧ (mz_cd 201).drop 31 = bl_201_31 ∧ bl_201_0 = (2, 1, 0, 0, 0, 0) :: (36, 1, 0, 0, 95, 1224) :: (0, 0, 2, 0, 0, 0) :: (21, 18, 30, 0, 0, 0) :: (2, 1, 0, 0, 0, 0) :: (0, 0, 1, 0, 0, 0) :: (38, 1, 0, 0, 95, 1224) :: (2, 1, 0, 0, 0, 0) :: (2, 0, 0, 0, 0, 0) :: (36, 3, 0, 6, 48, 2043) :: (38, 3, 0, 0, 101, 1231) :: (2, 0, 0, 0, 0, 0) :: (0, 1, 9, 0, 0, 0) :: (2, 1, 0, 0, 0, 0) :: (2, 1, 0, 0, 0, 0) :: (36, 2, 0, 0, 98, 1228) :: (50, 140, 6, 4, 104, 3159) :: (32, 31, 27, 0, 0, 0) :: bl_201_18 ∧ bl_201_18 = (2, 1, 0, 0, 0, 0) :: (36, 1, 0, 0, 95, 1224) :: (0, 0, 3, 0, 0, 0) :: (21, 31, 19, 0, 0, 0) :: (2, 1, 0, 0, 0, 0) :: (0, 0, 0, 0, 0, 0) :: (38, 1, 0, 0, 95, 1224) :: (2, 0, 0, 0, 0, 0) :: (0, 1, 9, 0, 0, 0) :: (2, 1, 0, 0, 0, 0) :: (2, 1, 0, 0, 0, 0) :: (36, 2, 0, 0, 98, 1228) :: (50, 140, 6, 4, 104, 3159) :: bl_201_31 ∧ bl_201_31 = (57, 0, 0, 0, 0, 0) :: [] := by refine ⟨?_, ?_, ?_, ?_, ?_, ?_⟩ <;> rfl
theorem cdS_202 : (mz_cd 202).drop 0 = bl_202_0 ∧ bl_202_0 = (2, 0, 0, 0, 0, 0) :: (37, 0, 0, 6, 12, 2035) :: (37, 4, 0, 4, 71, 1114) :: (1, 1, 0, 0, 0, 0) :: (52, 23, 8, 2, 75, 13) :: (2, 0, 0, 0, 0, 0) :: (1, 1, 0, 0, 0, 0) :: (50, 139, 6, 2, 79, 3133) :: (49, 3, 99, 1, 83, 3145) :: (7, 0, 0, 0, 0, 0) :: (55, 0, 0, 0, 0, 0) :: [] := by refine ⟨?_, ?_⟩ <;> rfl
theorem cdS_203 : (mz_cd 203).drop 0 = bl_203_0 ∧ (mz_cd 203).drop 8 = bl_203_8 ∧ (mz_cd 203).drop 10 = bl_203_10 ∧ (mz_cd 203).drop 26 = bl_203_26 ∧ (mz_cd 203).drop 27 = bl_203_27 ∧ bl_203_0 = (2, 1, 0, 0, 0, 0) :: (36, 1, 0, 0, 95, 1224) :: (0, 0, 1, 0, 0, 0) :: (21, 8, 11, 0, 0, 0) :: (2, 1, 0, 0, 0, 0) :: (1, 2, 0, 0, 0, 0) :: (50, 8, 0, 2, 125, 3225) :: (26, 10, 5, 0, 0, 0) :: bl_203_8 ∧ bl_203_8 = (0, 0, 0, 0, 0, 0) :: (55, 0, 0, 0, 0, 0) :: bl_203_10 ∧ bl_203_10 = (2, 0, 0, 0, 0, 0) :: (37, 0, 0, 6, 12, 2035) :: (2, 1, 0, 0, 0, 0) :: (36, 2, 0, 0, 98, 1228) :: (50, 72, 4, 2, 108, 3179) :: (2, 1, 0, 0, 0, 0) :: (36, 3, 0, 0, 101, 1231) :: (1, 2, 0, 0, 0, 0) :: (50, 141, 7, 3, 121, 3202) :: (3, 3, 0, 0, 0, 0) :: (1, 3, 0, 0, 0, 0) :: (31, 26, 11, 0, 0, 0) :: (2, 1, 0, 0, 0, 0) :: (1, 3, 0, 0, 0, 0) :: (50, 54, 0, 2, 128, 3229) :: (32, 27, 4, 0, 0, 0) :: bl_203_26 ∧ bl_203_26 = (0, 0, 0, 0, 0, 0) :: bl_203_27 ∧ bl_203_27 = (55, 0, 0, 0, 0, 0) :: [] := by refine ⟨?_, ?_, ?_, ?_, ?_, ?_, ?_, ?_, ?_, ?_⟩ <;> rfl
theorem cdS_204 : (mz_cd 204).drop 0 = bl_204_0 ∧ (mz_cd 204).drop 43 = bl_204_43 ∧ bl_204_0 = (2, 1, 0, 0, 0, 0) :: (18, 0, 0, 0, 0, 0) :: (36, 5, 0, 0, 142, 1237) :: (0, 0, 1, 0, 0, 0) :: (6, 0, 0, 0, 0, 0) :: (38, 5, 0, 0, 142, 1237) :: (2, 1, 0, 0, 0, 0) :: (2, 0, 0, 0, 0, 0) :: (36, 3, 0, 6, 48, 2043) :: (38, 7, 0, 0, 145, 2003) :: (2, 1, 0, 0, 0, 0) :: (18, 0, 0, 0, 0, 0) :: (36, 8, 0, 0, 148, 2005) :: (1, 2, 0, 0, 0, 0) :: (6, 0, 0, 0, 0, 0) :: (38, 8, 0, 0, 148, 2005) :: (2, 0, 0, 0, 0, 0) :: (0, 0, 4, 0, 0, 0) :: (2, 1, 0, 0, 0, 0) :: (1, 2, 0, 0, 0, 0) :: (50, 140, 6, 4, 104, 3159) :: (2, 1, 0, 0, 0, 0) :: (50, 10, 0, 1, 151, 4002) :: (0, 0, 3, 0, 0, 0) :: (22, 43, 37, 0, 0, 0) :: (2, 1, 0, 0, 0, 0) :: (0, 0, 2, 0, 0, 0) :: (38, 1, 0, 0, 95, 1224) :: (2, 1, 0, 0, 0, 0) :: (2, 0, 0, 0, 0, 0) :: (36, 3, 0, 6, 48, 2043) :: (38, 4, 0, 0, 155, 1234) :: (2, 1, 0, 0, 0, 0) :: (18, 0, 0, 0, 0, 0) :: (36, 9, 0, 0, 158, 2007) :: (0, 2, 8000, 0, 0, 0) :: (6, 0, 0, 0, 0, 0) :: (38, 9, 0, 0, 158, 2007) :: (2, 0, 0, 0, 0, 0) :: (0, 0, 5, 0, 0, 0) :: (2, 1, 0, 0, 0, 0) :: (0, 2, 8000, 0, 0, 0) :: (50, 140, 6, 4, 104, 3159) :: bl_204_43 ∧ bl_204_43 = (57, 0, 0, 0, 0, 0) :: [] := by refine ⟨?_, ?_, ?_, ?_⟩ <;> rfl
theorem cdS_205 : (mz_cd 205).drop 0 = bl_205_0 ∧ (mz_cd 205).drop 14 = bl_205_14 ∧ (mz_cd 205).drop 44 = bl_205_44 ∧ (mz_cd 205).drop 46 = bl_205_46 ∧ bl_205_0 = (2, 0, 0, 0, 0, 0) :: (1, 1, 0, 0, 0, 0) :: (1, 2, 0, 0, 0, 0) :: (50, 143, 7, 3, 41, 5054) :: (3, 3, 0, 0, 0, 0) :: (1, 1, 0, 0, 0, 0) :: (3, 4, 0, 0, 1, 0) :: (1, 3, 0, 0, 0, 0) :: (52, 25, 8, 1, 45, 21) :: (3, 5, 0, 0, 1, 0) :: (1, 1, 0, 0, 0, 0) :: (0, 0, 1, 0, 0, 0) :: (6, 0, 0, 0, 0, 0) :: (3, 6, 0, 0, 1, 0) :: bl_205_14 ∧ bl_205_14 = (1, 6, 0, 0, 1, 0) :: (1, 1, 0, 0, 0, 0) :: (0, 2, 1440, 0, 0, 0) :: (6, 0, 0, 0, 0, 0) :: (23, 46, 50, 0, 0, 0) :: (1, 3, 0, 0, 0, 0) :: (2, 0, 0, 0, 0, 0) :: (1, 6, 0, 0, 1, 0) :: (0, 0, 1, 0, 0, 0) :: (7, 0, 0, 0, 0, 0) :: (1, 2, 0, 0, 0, 0) :: (6, 0, 0, 0, 0, 0) :: (50, 82, 7, 2, 37, 3188) :: (2, 0, 0, 0, 0, 0) :: (1, 6, 0, 0, 1, 0) :: (0, 0, 1, 0, 0, 0) :: (7, 0, 0, 0, 0, 0) :: (50, 82, 7, 2, 37, 3188) :: (7, 0, 0, 0, 0, 0) :: (6, 0, 0, 0, 0, 0) :: (3, 3, 0, 0, 0, 0) :: (1, 3, 0, 0, 0, 0) :: (52, 25, 8, 1, 45, 21) :: (1, 5, 0, 0, 1, 0) :: (23, 44, 13, 0, 0, 0) :: (1, 3, 0, 0, 0, 0) :: (52, 25, 8, 1, 45, 21) :: (3, 5, 0, 0, 1, 0) :: (1, 6, 0, 0, 1, 0) :: (3, 4, 0, 0, 1, 0) :: bl_205_44 ∧ bl_205_44 = (5, 6, 1, 0, 0, 0) :: (32, 14, (-54), 0, 0, 0) :: bl_205_46 ∧ bl_205_46 = (1, 4, 0, 0, 1, 0) :: (55, 0, 0, 0, 0, 0) :: [] := by refine ⟨?_, ?_, ?_, ?_, ?_, ?_, ?_, ?_⟩ <;> rfl
theorem cdS_206 : (mz_cd 206).drop 0 = bl_206_0 ∧ (mz_cd 206).drop 7 = bl_206_7 ∧ (mz_cd 206).drop 18 = bl_206_18 ∧ (mz_cd 206).drop 19 = bl_206_19 ∧ bl_206_0 = (1, 1, 0, 0, 0, 0) :: (0, 0, 0, 0, 0, 0) :: (0, 1, 6, 0, 0, 0) :: (49, 33, 8, 3, 45, 2160) :: (27, 7, 5, 0, 0, 0) :: (0, 0, (-1), 0, 0, 0) :: (55, 0, 0, 0, 0, 0) :: bl_206_7 ∧ bl_206_7 = (2, 0, 0, 0, 0, 0) :: (37, 1, 0, 8, 19, 2138) :: (37, 2, 0, 6, 107, 2042) :: (1, 1, 0, 0, 0, 0) :: (50, 127, 1, 2, 316, 5105) :: (3, 2, 0, 0, 0, 0) :: (1, 2, 0, 0, 0, 0) :: (0, 0, (-1), 0, 0, 0) :: (21, 18, 8, 0, 0, 0) :: (0, 1, (-3), 0, 0, 0) :: (32, 19, 4, 0, 0, 0) :: bl_206_18 ∧ bl_206_18 = (1, 2, 0, 0, 0, 0) :: bl_206_19 ∧ bl_206_19 = (55, 0, 0, 0, 0, 0) :: [] := by refine ⟨?_, ?_, ?_, ?_, ?_, ?_, ?_, ?_⟩ <;> rfl
theorem cdS_207 : (mz_cd 207).drop 0 = bl_207_0 ∧ (mz_cd 207).drop 11 = bl_207_11 ∧ (mz_cd 207).drop 12 = bl_207_12 ∧ bl_207_0 = (2, 0, 0, 0, 0, 0) :: (37, 1, 0, 8, 19, 2138) :: (37, 0, 0, 6, 75, 2038) :: (1, 1, 0, 0, 0, 0) :: (50, 15, 4, 2, 95, 3124) :: (26, 11, 14, 0, 0, 0) :: (2, 0, 0, 0, 0, 0) :: (37, 1, 0, 8, 19, 2138) :: (1, 1, 0, 0, 0, 0) :: (50, 139, 6, 2, 214, 4190) :: (32, 12, 4, 0, 0, 0) :: bl_207_11 ∧ bl_207_11 = (0, 0, (-1), 0, 0, 0) :: bl_207_12 ∧ bl_207_12 = (55, 0, 0, 0, 0, 0) :: [] := by refine ⟨?_, ?_, ?_, ?_, ?_, ?_⟩ <;> rfl
theorem cdS_208 : (mz_cd 208).drop 0 = bl_208_0 ∧ (mz_cd 208).drop 8 = bl_208_8 ∧ (mz_cd 208).drop 10 = bl_208_10 ∧ bl_208_0 = (1, 1, 0, 0, 0, 0) :: (0, 0, 0, 0, 0, 0) :: (0, 1, 6, 0, 0, 0) :: (49, 33, 8, 3, 45, 2160) :: (26, 8, 10, 0, 0, 0) :: (1, 2, 0, 0, 0, 0) :: (49, 26, 8, 1, 278, 5014) :: (27, 10, 5, 0, 0, 0) :: bl_208_8 ∧ bl_208_8 = (0, 0, (-1), 0, 0, 0) :: (55, 0, 0, 0, 0, 0) :: bl_208_10 ∧ bl_208_10 = (2, 0, 0, 0, 0, 0) :: (37, 1, 0, 8, 19, 2138) :: (37, 2, 0, 6, 107, 2042) :: (1, 1, 0, 0, 0, 0) :: (1, 2, 0, 0, 0, 0) :: (50, 128, 1, 3, 281, 5017) :: (55, 0, 0, 0, 0, 0) :: [] := by refine ⟨?_, ?_, ?_, ?_, ?_, ?_⟩ <;> rfl
theorem cdS_209 : (mz_cd 209).drop 0 = bl_209_0 ∧ (mz_cd 209).drop 15 = bl_209_15 ∧ (mz_cd 209).drop 17 = bl_209_17 ∧ (mz_cd 209).drop 29 = bl_209_29 ∧ (mz_cd 209).drop 30 = bl_209_30 ∧ bl_209_0 = (2, 0, 0, 0, 0, 0) :: (37, 1, 0, 8, 19, 2138) :: (37, 0, 0, 6, 75, 2038) :: (1, 1, 0, 0, 0, 0) :: (50, 15, 4, 2, 95, 3124) :: (26, 15, 22, 0, 0, 0) :: (2, 0, 0, 0, 0, 0) :: (37, 1, 0, 8, 19, 2138) :: (37, 0, 0, 6, 75, 2038) :: (1, 2, 0, 0, 0, 0) :: (50, 15, 4, 2, 95, 3124) :: (26, 15, 8, 0, 0, 0) :: (1, 1, 0, 0, 0, 0) :: (1, 2, 0, 0, 0, 0) :: (21, 17, 5, 0, 0, 0) :: bl_209_15 ∧ bl_209_15 = (0, 0, (-1), 0, 0, 0) :: (55, 0, 0, 0, 0, 0) :: bl_209_17 ∧ bl_209_17 = (2, 0, 0, 0, 0, 0) :: (37, 1, 0, 8, 19, 2138) :: (37, 0, 0, 6, 75, 2038) :: (1, 1, 0, 0, 0, 0) :: (1, 2, 0, 0, 0, 0) :: (50, 135, 4, 3, 205, 4166) :: (3, 3, 0, 0, 0, 0) :: (1, 3, 0, 0, 0, 0) :: (0, 0, (-1), 0, 0, 0) :: (21, 29, 8, 0, 0, 0) :: (0, 1, (-3), 0, 0, 0) :: (32, 30, 4, 0, 0, 0) :: bl_209_29 ∧ bl_209_29 = (1, 3, 0, 0, 0, 0) :: bl_209_30 ∧ bl_209_30 = (55, 0, 0, 0, 0, 0) :: [] := by refine ⟨?_, ?_, ?_, ?_, ?_, ?_, ?_, ?_, ?_, ?_⟩ <;> rfl
theorem cdS_210 : (mz_cd 210).drop 0 = bl_210_0 ∧ bl_210_0 = (2, 0, 0, 0, 0, 0) :: (37, 1, 0, 8, 19, 2138) :: (50, 138, 6, 1, 284, 5029) :: (55, 0, 0, 0, 0, 0) :: [] := by refine ⟨?_, ?_⟩ <;> rfl
theorem cdS_211 : (mz_cd 211).drop 0 = bl_211_0 ∧ (mz_cd 211).drop 16 = bl_211_16 ∧ (mz_cd 211).drop 18 = bl_211_18 ∧ bl_211_0 = (2, 0, 0, 0, 0, 0) :: (37, 1, 0, 8, 19, 2138) :: (37, 0, 0, 6, 75, 2038) :: (1, 1, 0, 0, 0, 0) :: (50, 15, 4, 2, 95, 3124) :: (26, 16, 25, 0, 0, 0) :: (1, 2, 0, 0, 0, 0) :: (0, 0, 0, 0, 0, 0) :: (0, 2, 10079, 0, 0, 0) :: (49, 33, 8, 3, 45, 2160) :: (26, 16, 14, 0, 0, 0) :: (1, 3, 0, 0, 0, 0) :: (0, 0, 0, 0, 0, 0) :: (0, 2, 1440, 0, 0, 0) :: (49, 33, 8, 3, 45, 2160) :: (27, 18, 5, 0, 0, 0) :: bl_211_16 ∧ bl_211_16 = (0, 0, (-1), 0, 0, 0) :: (55, 0, 0, 0, 0, 0) :: bl_211_18 ∧ bl_211_18 = (2, 0, 0, 0, 0, 0) :: (37, 1, 0, 8, 19, 2138) :: (37, 0, 0, 6, 75, 2038) :: (1, 1, 0, 0, 0, 0) :: (50, 72, 4, 2, 287, 5038) :: (1, 2, 0, 0, 0, 0) :: (1, 3, 0, 0, 0, 0) :: (50, 143, 7, 3, 290, 5039) :: (49, 25, 8, 1, 293, 5043) :: (55, 0, 0, 0, 0, 0) :: [] := by refine ⟨?_, ?_, ?_, ?_, ?_, ?_⟩ <;> rfl
theorem cdS_212 : (mz_cd 212).drop 0 = bl_212_0 ∧ (mz_cd 212).drop 10 = bl_212_10 ∧ (mz_cd 212).drop 12 = bl_212_12 ∧ bl_212_0 = (1, 1, 0, 0, 0, 0) :: (0, 0, 0, 0, 0, 0) :: (0, 0, 3, 0, 0, 0) :: (49, 33, 8, 3, 45, 2160) :: (26, 10, 13, 0, 0, 0) :: (1, 2, 0, 0, 0, 0) :: (0, 0, 0, 0, 0, 0) :: (0, 1, 6, 0, 0, 0) :: (49, 33, 8, 3, 45, 2160) :: (27, 12, 5, 0, 0, 0) :: bl_212_10 ∧ bl_212_10 = (0, 0, (-1), 0, 0, 0) :: (55, 0, 0, 0, 0, 0) :: bl_212_12 ∧ bl_212_12 = (2, 0, 0, 0, 0, 0) :: (37, 1, 0, 8, 19, 2138) :: (37, 2, 0, 6, 107, 2042) :: (1, 1, 0, 0, 0, 0) :: (1, 2, 0, 0, 0, 0) :: (2, 0, 0, 0, 0, 0) :: (37, 1, 0, 8, 19, 2138) :: (37, 0, 0, 6, 75, 2038) :: (50, 126, 1, 4, 309, 5089) :: (55, 0, 0, 0, 0, 0) :: [] := by refine ⟨?_, ?_, ?_, ?_, ?_, ?_⟩ <;> rfl
theorem cdS_213 : (mz_cd 213).drop 0 = bl_213_0 ∧ bl_213_0 = (2, 0, 0, 0, 0, 0) :: (1, 1, 0, 0, 0, 0) :: (0, 0, 5, 0, 0, 0) :: (0, 0, 2, 0, 0, 0) :: (0, 0, 2, 0, 0, 0) :: (50, 152, 9, 5, 258, 7239) :: (55, 0, 0, 0, 0, 0) :: [] := by refine ⟨?_, ?_⟩ <;> rfl
theorem cdS_214 : (mz_cd 214).drop 0 = bl_214_0 ∧ bl_214_0 = (2, 0, 0, 0, 0, 0) :: (1, 1, 0, 0, 0, 0) :: (0, 0, 3, 0, 0, 0) :: (0, 0, 0, 0, 0, 0) :: (0, 0, 3, 0, 0, 0) :: (50, 152, 9, 5, 258, 7239) :: (55, 0, 0, 0, 0, 0) :: [] := by refine ⟨?_, ?_⟩ <;> rfl
theorem cdS_215 : (mz_cd 215).drop 0 = bl_215_0 ∧ bl_215_0 = (2, 0, 0, 0, 0, 0) :: (1, 1, 0, 0, 0, 0) :: (0, 0, 4, 0, 0, 0) :: (0, 0, 0, 0, 0, 0) :: (0, 0, 3, 0, 0, 0) :: (50, 152, 9, 5, 258, 7239) :: (55, 0, 0, 0, 0, 0) :: [] := by refine ⟨?_, ?_⟩ <;> rfl
theorem cdS_216 : (mz_cd 216).drop 0 = bl_216_0 ∧ (mz_cd 216).drop 15 = bl_216_15 ∧ (mz_cd 216).drop 27 = bl_216_27 ∧ (mz_cd 216).drop 28 = bl_216_28 ∧ (mz_cd 216).drop 40 = bl_216_40 ∧ (mz_cd 216).drop 41 = bl_216_41 ∧ (mz_cd 216).drop 45 = bl_216_45 ∧ bl_216_0 = (2, 0, 0, 0, 0, 0) :: (37, 0, 0, 9, 9, 6114) :: (0, 0, 2, 0, 0, 0) :: (69, 0, 0, 0, 0, 0) :: (40, 0, 0, 0, 0, 0) :: (1, 2, 0, 0, 0, 0) :: (6, 0, 0, 0, 0, 0) :: (41, 0, 0, 0, 0, 0) :: (2, 0, 0, 0, 0, 0) :: (0, 0, 0, 0, 0, 0) :: (38, 21, 0, 9, 271, 6135) :: (0, 0, 0, 0, 0, 0) :: (3, 3, 0, 0, 0, 0) :: (0, 0, 0, 0, 0, 0) :: (3, 4, 0, 0, 1, 0) :: bl_216_15 ∧ bl_216_15 = (1, 4, 0, 0, 1, 0) :: (0, 1, 16, 0, 0, 0) :: (23, 45, 55, 0, 0, 0) :: (2, 0, 0, 0, 0, 0) :: (1, 4, 0, 0, 1, 0) :: (1, 1, 0, 0, 0, 0) :: (50, 104, 9, 3, 167, 7062) :: (26, 27, 12, 0, 0, 0) :: (2, 0, 0, 0, 0, 0) :: (1, 4, 0, 0, 1, 0) :: (50, 157, 9, 2, 211, 7103) :: (32, 28, 4, 0, 0, 0) :: bl_216_27 ∧ bl_216_27 = (0, 0, 0, 0, 0, 0) :: bl_216_28 ∧ bl_216_28 = (3, 5, 0, 0, 1, 0) :: (1, 3, 0, 0, 0, 0) :: (1, 5, 0, 0, 1, 0) :: (6, 0, 0, 0, 0, 0) :: (3, 3, 0, 0, 0, 0) :: (2, 0, 0, 0, 0, 0) :: (18, 0, 0, 0, 0, 0) :: (36, 21, 0, 9, 271, 6135) :: (1, 5, 0, 0, 1, 0) :: (31, 40, 7, 0, 0, 0) :: (0, 0, 1, 0, 0, 0) :: (32, 41, 4, 0, 0, 0) :: bl_216_40 ∧ bl_216_40 = (0, 0, 0, 0, 0, 0) :: bl_216_41 ∧ bl_216_41 = (6, 0, 0, 0, 0, 0) :: (38, 21, 0, 9, 271, 6135) :: (5, 4, 1, 0, 0, 0) :: (32, 15, (-56), 0, 0, 0) :: bl_216_45 ∧ bl_216_45 = (2, 0, 0, 0, 0, 0) :: (37, 0, 0, 9, 9, 6114) :: (0, 0, 2, 0, 0, 0) :: (69, 0, 0, 0, 0, 0) :: (40, 0, 0, 0, 0, 0) :: (1, 2, 0, 0, 0, 0) :: (7, 0, 0, 0, 0, 0) :: (41, 0, 0, 0, 0, 0) :: (1, 3, 0, 0, 0, 0) :: (55, 0, 0, 0, 0, 0) :: [] := by refine ⟨?_, ?_, ?_, ?_, ?_, ?_, ?_, ?_, ?_, ?_, ?_, ?_, ?_, ?_⟩ <;> rfl
theorem cdS_217 : (mz_cd 217).drop 0 = bl_217_0 ∧ (mz_cd 217).drop 11 = bl_217_11 ∧ (mz_cd 217).drop 12 = bl_217_12 ∧ bl_217_0 = (2, 0, 0, 0, 0, 0) :: (0, 0, 0, 0, 0, 0) :: (38, 4, 0, 9, 59, 6118) :: (2, 0, 0, 0, 0, 0) :: (1, 1, 0, 0, 0, 0) :: (50, 106, 9, 2, 175, 7050) :: (26, 11, 11, 0, 0, 0) :: (2, 0, 0, 0, 0, 0) :: (1, 1, 0, 0, 0, 0) :: (50, 158, 9, 2, 178, 7058) :: (32, 12, 4, 0, 0, 0) :: bl_217_11 ∧ bl_217_11 = (0, 0, (-1), 0, 0, 0) :: bl_217_12 ∧ bl_217_12 = (55, 0, 0, 0, 0, 0) :: [] := by refine ⟨?_, ?_, ?_, ?_, ?_, ?_⟩ <;> rfl
theorem cdS_218 : (mz_cd 218).drop 0 = bl_218_0 ∧ (mz_cd 218).drop 9 = bl_218_9 ∧ (mz_cd 218).drop 14 = bl_218_14 ∧ (mz_cd 218).drop 18 = bl_218_18 ∧ (mz_cd 218).drop 30 = bl_218_30 ∧ (mz_cd 218).drop 31 = bl_218_31 ∧ (mz_cd 218).drop 35 = bl_218_35 ∧ (mz_cd 218).drop 74 = bl_218_74 ∧ (mz_cd 218).drop 76 = bl_218_76 ∧ bl_218_0 = (2, 0, 0, 0, 0, 0) :: (0, 0, 0, 0, 0, 0) :: (38, 4, 0, 9, 59, 6118) :: (2, 0, 0, 0, 0, 0) :: (1, 1, 0, 0, 0, 0) :: (50, 106, 9, 2, 175, 7050) :: (27, 9, 5, 0, 0, 0) :: (0, 0, (-1), 0, 0, 0) :: (55, 0, 0, 0, 0, 0) :: bl_218_9 ∧ bl_218_9 = (2, 0, 0, 0, 0, 0) :: (50, 41, 9, 1, 182, 7066) :: (26, 14, 6, 0, 0, 0) :: (0, 1, (-4), 0, 0, 0) :: (55, 0, 0, 0, 0, 0) :: bl_218_14 ∧ bl_218_14 = (0, 0, 0, 0, 0, 0) :: (3, 2, 0, 0, 0, 0) :: (0, 0, 0, 0, 0, 0) :: (3, 3, 0, 0, 0, 0) :: bl_218_18 ∧ bl_218_18 = (1, 3, 0, 0, 0, 0) :: (0, 1, 16, 0, 0, 0) :: (23, 76, 101, 0, 0, 0) :: (2, 0, 0, 0, 0, 0) :: (1, 3, 0, 0, 0, 0) :: (1, 1, 0, 0, 0, 0) :: (50, 104, 9, 3, 167, 7062) :: (26, 30, 11, 0, 0, 0) :: (2, 0, 0, 0, 0, 0) :: (1, 3, 0, 0, 0, 0) :: (50, 157, 9, 2, 211, 7103) :: (32, 31, 4, 0, 0, 0) :: bl_218_30 ∧ bl_218_30 = (0, 0, 0, 0, 0, 0) :: bl_218_31 ∧ bl_218_31 = (3, 4, 0, 0, 1, 0) :: (1, 4, 0, 0, 1, 0) :: (27, 35, 6, 0, 0, 0) :: (32, 74, 67, 0, 0, 0) :: bl_218_35 ∧ bl_218_35 = (5, 2, 1, 0, 0, 0) :: (2, 0, 0, 0, 0, 0) :: (0, 0, 4, 0, 0, 0) :: (1, 3, 0, 0, 0, 0) :: (1, 4, 0, 0, 1, 0) :: (50, 44, 9, 4, 189, 7074) :: (2, 0, 0, 0, 0, 0) :: (1, 3, 0, 0, 0, 0) :: (50, 123, 9, 2, 208, 7119) :: (0, 0, 3, 0, 0, 0) :: (22, 74, 47, 0, 0, 0) :: (2, 0, 0, 0, 0, 0) :: (1, 3, 0, 0, 0, 0) :: (0, 0, 0, 0, 0, 0) :: (0, 0, 2, 0, 0, 0) :: (50, 48, 9, 4, 185, 7070) :: (2, 0, 0, 0, 0, 0) :: (1, 3, 0, 0, 0, 0) :: (0, 0, 5, 0, 0, 0) :: (2, 0, 0, 0, 0, 0) :: (37, 0, 0, 9, 9, 6114) :: (0, 0, 2, 0, 0, 0) :: (40, 0, 0, 0, 0, 0) :: (50, 48, 9, 4, 185, 7070) :: (2, 0, 0, 0, 0, 0) :: (1, 3, 0, 0, 0, 0) :: (0, 0, 4, 0, 0, 0) :: (2, 0, 0, 0, 0, 0) :: (1, 3, 0, 0, 0, 0) :: (0, 0, 4, 0, 0, 0) :: (50, 46, 9, 3, 161, 7054) :: (0, 2, 8000, 0, 0, 0) :: (6, 0, 0, 0, 0, 0) :: (50, 48, 9, 4, 185, 7070) :: (2, 0, 0, 0, 0, 0) :: (0, 0, 5, 0, 0, 0) :: (1, 3, 0, 0, 0, 0) :: (0, 2, 8000, 0, 0, 0) :: (50, 44, 9, 4, 189, 7074) :: bl_218_74 ∧ bl_218_74 = (5, 3, 1, 0, 0, 0) :: (32, 18, (-101), 0, 0, 0) :: bl_218_76 ∧ bl_218_76 = (1, 2, 0, 0, 0, 0) :: (55, 0, 0, 0, 0, 0) :: [] := by refine ⟨?_, ?_, ?_, ?_, ?_, ?_, ?_, ?_, ?_, ?_, ?_, ?_, ?_, ?_, ?_, ?_, ?_, ?_⟩ <;> rfl
theorem cdS_219 : (mz_cd 219).drop 0 = bl_219_0 ∧ (mz_cd 219).drop 9 = bl_219_9 ∧ (mz_cd 219).drop 10 = bl_219_10 ∧ bl_219_0 = (2, 0, 0, 0, 0, 0) :: (1, 1, 0, 0, 0, 0) :: (1, 2, 0, 0, 0, 0) :: (0, 0, 4, 0, 0, 0) :: (50, 170, 9, 4, 262, 8023) :: (0, 0, 1, 0, 0, 0) :: (21, 9, 7, 0, 0, 0) :: (0, 0, 1, 0, 0, 0) :: (32, 10, 4, 0, 0, 0) :: bl_219_9 ∧ bl_219_9 = (0, 0, 0, 0, 0, 0) :: bl_219_10 ∧ bl_219_10 = (3, 3, 0, 0, 0, 0) :: (2, 0, 0, 0, 0, 0) :: (0, 0, 0, 0, 0, 0) :: (38, 4, 0, 9, 59, 6118) :: (1, 3, 0, 0, 0, 0) :: (55, 1, 0, 0, 0, 0) :: [] := by refine ⟨?_, ?_, ?_, ?_, ?_, ?_⟩ <;> rfl
theorem cdS_220 : (mz_cd 220).drop 0 = bl_220_0 ∧ (mz_cd 220).drop 11 = bl_220_11 ∧ (mz_cd 220).drop 14 = bl_220_14 ∧ bl_220_0 = (2, 0, 0, 0, 0, 0) :: (1, 1, 0, 0, 0, 0) :: (0, 0, 2, 0, 0, 0) :: (0, 0, 1, 0, 0, 0) :: (0, 0, 1, 0, 0, 0) :: (50, 152, 9, 5, 258, 7239) :: (3, 2, 0, 0, 0, 0) :: (1, 2, 0, 0, 0, 0) :: (29, 11, 7, 0, 0, 0) :: (1, 2, 0, 0, 0, 0) :: (32, 14, 8, 0, 0, 0) :: bl_220_11 ∧ bl_220_11 = (2, 0, 0, 0, 0, 0) :: (1, 1, 0, 0, 0, 0) :: (50, 112, 9, 2, 199, 7095) :: bl_220_14 ∧ bl_220_14 = (55, 0, 0, 0, 0, 0) :: [] := by refine ⟨?_, ?_, ?_, ?_, ?_, ?_⟩ <;> rfl
theorem cdS_221 : (mz_cd 221).drop 0 = bl_221_0 ∧ bl_221_0 = (2, 0, 0, 0, 0, 0) :: (1, 1, 0, 0, 0, 0) :: (0, 0, 2, 0, 0, 0) :: (0, 0, 1, 0, 0, 0) :: (0, 0, 1, 0, 0, 0) :: (50, 152, 9, 5, 258, 7239) :: (55, 0, 0, 0, 0, 0) :: [] := by refine ⟨?_, ?_⟩ <;> rfl
theorem cdS_222 : (mz_cd 222).drop 0 = bl_222_0 ∧ (mz_cd 222).drop 10 = bl_222_10 ∧ (mz_cd 222).drop 12 = bl_222_12 ∧ (mz_cd 222).drop 19 = bl_222_19 ∧ (mz_cd 222).drop 25 = bl_222_25 ∧ (mz_cd 222).drop 30 = bl_222_30 ∧ bl_222_0 = (2, 0, 0, 0, 0, 0) :: (0, 0, 0, 0, 0, 0) :: (38, 4, 0, 9, 59, 6118) :: (1, 1, 0, 0, 0, 0) :: (49, 105, 9, 1, 171, 7047) :: (26, 10, 11, 0, 0, 0) :: (2, 0, 0, 0, 0, 0) :: (1, 2, 0, 0, 0, 0) :: (50, 106, 9, 2, 175, 7050) :: (27, 12, 5, 0, 0, 0) :: bl_222_10 ∧ bl_222_10 = (0, 0, (-1), 0, 0, 0) :: (55, 0, 0, 0, 0, 0) :: bl_222_12 ∧ bl_222_12 = (2, 0, 0, 0, 0, 0) :: (1, 1, 0, 0, 0, 0) :: (0, 0, 0, 0, 0, 0) :: (50, 46, 9, 3, 161, 7054) :: (26, 19, 6, 0, 0, 0) :: (0, 1, (-2), 0, 0, 0) :: (55, 0, 0, 0, 0, 0) :: bl_222_19 ∧ bl_222_19 = (2, 0, 0, 0, 0, 0) :: (1, 2, 0, 0, 0, 0) :: (50, 158, 9, 2, 178, 7058) :: (27, 25, 6, 0, 0, 0) :: (0, 1, (-3), 0, 0, 0) :: (55, 0, 0, 0, 0, 0) :: bl_222_25 ∧ bl_222_25 = (2, 0, 0, 0, 0, 0) :: (50, 41, 9, 1, 182, 7066) :: (26, 30, 6, 0, 0, 0) :: (0, 1, (-4), 0, 0, 0) :: (55, 0, 0, 0, 0, 0) :: bl_222_30 ∧ bl_222_30 = (2, 0, 0, 0, 0, 0) :: (1, 1, 0, 0, 0, 0) :: (0, 0, 0, 0, 0, 0) :: (0, 0, 1, 0, 0, 0) :: (50, 48, 9, 4, 185, 7070) :: (2, 0, 0, 0, 0, 0) :: (1, 1, 0, 0, 0, 0) :: (0, 0, 1, 0, 0, 0) :: (1, 2, 0, 0, 0, 0) :: (50, 48, 9, 4, 185, 7070) :: (2, 0, 0, 0, 0, 0) :: (1, 1, 0, 0, 0, 0) :: (0, 0, 2, 0, 0, 0) :: (2, 0, 0, 0, 0, 0) :: (37, 0, 0, 9, 9, 6114) :: (0, 0, 2, 0, 0, 0) :: (40, 0, 0, 0, 0, 0) :: (50, 48, 9, 4, 185, 7070) :: (2, 0, 0, 0, 0, 0) :: (0, 0, 1, 0, 0, 0) :: (1, 1, 0, 0, 0, 0) :: (1, 2, 0, 0, 0, 0) :: (50, 44, 9, 4, 189, 7074) :: (2, 0, 0, 0, 0, 0) :: (1, 2, 0, 0, 0, 0) :: (50, 158, 9, 2, 178, 7058) :: (55, 0, 0, 0, 0, 0) :: [] := by refine ⟨?_, ?_, ?_, ?_, ?_, ?_, ?_, ?_, ?_, ?_, ?_, ?_⟩ <;> rfl
theorem cdS_223 : (mz_cd 223).drop 0 = bl_223_0 ∧ (mz_cd 223).drop 11 = bl_223_11 ∧ (mz_cd 223).drop 13 = bl_223_13 ∧ (mz_cd 223).drop 24 = bl_223_24 ∧ (mz_cd 223).drop 29 = bl_223_29 ∧ (mz_cd 223).drop 84 = bl_223_84 ∧ (mz_cd 223).drop 92 = bl_223_92 ∧ bl_223_0 = (2, 0, 0, 0, 0, 0) :: (0, 0, 0, 0, 0, 0) :: (38, 4, 0, 9, 59, 6118) :: (1, 1, 0, 0, 0, 0) :: (49, 105, 9, 1, 171, 7047) :: (26, 11, 13, 0, 0, 0) :: (1, 2, 0, 0, 0, 0) :: (0, 0, 1, 0, 0, 0) :: (0, 3, 99999, 0, 217, 7127) :: (49, 40, 9, 3, 70, 6204) :: (27, 13, 5, 0, 0, 0) :: bl_223_11 ∧ bl_223_11 = (0, 0, (-1), 0, 0, 0) :: (55, 0, 0, 0, 0, 0) :: bl_223_13 ∧ bl_223_13 = (2, 0, 0, 0, 0, 0) :: (1, 1, 0, 0, 0, 0) :: (50, 111, 9, 2, 214, 7128) :: (29, 24, 15, 0, 0, 0) :: (2, 0, 0, 0, 0, 0) :: (1, 1, 0, 0, 0, 0) :: (0, 0, 4, 0, 0, 0) :: (50, 46, 9, 3, 161, 7054) :: (27, 24, 6, 0, 0, 0) :: (0, 1, (-3), 0, 0, 0) :: (55, 0, 0, 0, 0, 0) :: bl_223_24 ∧ bl_223_24 = (2, 0, 0, 0, 0, 0) :: (50, 41, 9, 1, 182, 7066) :: (26, 29, 6, 0, 0, 0) :: (0, 1, (-4), 0, 0, 0) :: (55, 0, 0, 0, 0, 0) :: bl_223_29 ∧ bl_223_29 = (2, 0, 0, 0, 0, 0) :: (1, 1, 0, 0, 0, 0) :: (0, 0, 3, 0, 0, 0) :: (2, 0, 0, 0, 0, 0) :: (1, 1, 0, 0, 0, 0) :: (0, 0, 3, 0, 0, 0) :: (50, 46, 9, 3, 161, 7054) :: (1, 2, 0, 0, 0, 0) :: (6, 0, 0, 0, 0, 0) :: (50, 48, 9, 4, 185, 7070) :: (2, 0, 0, 0, 0, 0) :: (0, 1, 6, 0, 0, 0) :: (1, 1, 0, 0, 0, 0) :: (1, 2, 0, 0, 0, 0) :: (50, 44, 9, 4, 189, 7074) :: (2, 0, 0, 0, 0, 0) :: (1, 1, 0, 0, 0, 0) :: (50, 174, 9, 2, 218, 7132) :: (2, 0, 0, 0, 0, 0) :: (1, 1, 0, 0, 0, 0) :: (50, 111, 9, 2, 214, 7128) :: (29, 92, 67, 0, 0, 0) :: (2, 0, 0, 0, 0, 0) :: (1, 1, 0, 0, 0, 0) :: (0, 0, 4, 0, 0, 0) :: (50, 46, 9, 3, 161, 7054) :: (3, 3, 0, 0, 0, 0) :: (1, 3, 0, 0, 0, 0) :: (31, 84, 42, 0, 0, 0) :: (2, 0, 0, 0, 0, 0) :: (1, 1, 0, 0, 0, 0) :: (0, 0, 3, 0, 0, 0) :: (50, 46, 9, 3, 161, 7054) :: (1, 3, 0, 0, 0, 0) :: (22, 84, 32, 0, 0, 0) :: (2, 0, 0, 0, 0, 0) :: (1, 1, 0, 0, 0, 0) :: (0, 0, 3, 0, 0, 0) :: (2, 0, 0, 0, 0, 0) :: (1, 1, 0, 0, 0, 0) :: (0, 0, 3, 0, 0, 0) :: (50, 46, 9, 3, 161, 7054) :: (1, 3, 0, 0, 0, 0) :: (7, 0, 0, 0, 0, 0) :: (50, 48, 9, 4, 185, 7070) :: (2, 0, 0, 0, 0, 0) :: (1, 1, 0, 0, 0, 0) :: (0, 0, 4, 0, 0, 0) :: (0, 0, 0, 0, 0, 0) :: (50, 48, 9, 4, 185, 7070) :: (2, 0, 0, 0, 0, 0) :: (0, 1, 8, 0, 0, 0) :: (1, 1, 0, 0, 0, 0) :: (1, 3, 0, 0, 0, 0) :: (50, 44, 9, 4, 189, 7074) :: bl_223_84 ∧ bl_223_84 = (2, 0, 0, 0, 0, 0) :: (1, 1, 0, 0, 0, 0) :: (0, 0, 4, 0, 0, 0) :: (50, 46, 9, 3, 161, 7054) :: (27, 92, 8, 0, 0, 0) :: (2, 0, 0, 0, 0, 0) :: (1, 1, 0, 0, 0, 0) :: (50, 116, 9, 2, 222, 7136) :: bl_223_92 ∧ bl_223_92 = (2, 0, 0, 0, 0, 0) :: (1, 1, 0, 0, 0, 0) :: (50, 113, 9, 2, 225, 7140) :: (55, 0, 0, 0, 0, 0) :: [] := by refine ⟨?_, ?_, ?_, ?_, ?_, ?_, ?_, ?_, ?_, ?_, ?_, ?_, ?_, ?_⟩ <;> rfl
theorem cdS_224 : (mz_cd 224).drop 0 = bl_224_0 ∧ bl_224_0 = (2, 0, 0, 0, 0, 0) :: (0, 0, 0, 0, 0, 0) :: (2, 0, 0, 0, 0, 0) :: (37, 1, 0, 9, 13, 6115) :: (0, 0, 0, 0, 0, 0) :: (40, 0, 0, 0, 0, 0) :: (0, 0, 1, 0, 0, 0) :: (7, 0, 0, 0, 0, 0) :: (50, 169, 9, 3, 108, 6234) :: (55, 0, 0, 0, 0, 0) :: [] := by refine ⟨?_, ?_⟩ <;> rfl
theorem cdS_225 : (mz_cd 225).drop 0 = bl_225_0 ∧ bl_225_0 = (2, 0, 0, 0, 0, 0) :: (1, 1, 0, 0, 0, 0) :: (0, 0, 1, 0, 0, 0) :: (0, 0, 1, 0, 0, 0) :: (0, 0, 3, 0, 0, 0) :: (50, 152, 9, 5, 258, 7239) :: (55, 0, 0, 0, 0, 0) :: [] := by refine ⟨?_, ?_⟩ <;> rfl
theorem cdS_226 : (mz_cd 226).drop 0 = bl_226_0 ∧ (mz_cd 226).drop 24 = bl_226_24 ∧ (mz_cd 226).drop 43 = bl_226_43 ∧ bl_226_0 = (2, 0, 0, 0, 0, 0) :: (0, 0, 0, 0, 0, 0) :: (0, 0, 3, 0, 0, 0) :: (50, 169, 9, 3, 108, 6234) :: (3, 1, 0, 0, 0, 0) :: (2, 0, 0, 0, 0, 0) :: (0, 0, 0, 0, 0, 0) :: (0, 1, 23, 0, 0, 0) :: (50, 169, 9, 3, 108, 6234) :: (3, 2, 0, 0, 0, 0) :: (2, 0, 0, 0, 0, 0) :: (1, 2, 0, 0, 0, 0) :: (0, 0, 1, 0, 0, 0) :: (6, 0, 0, 0, 0, 0) :: (0, 1, 24, 0, 0, 0) :: (50, 169, 9, 3, 108, 6234) :: (3, 3, 0, 0, 0, 0) :: (2, 0, 0, 0, 0, 0) :: (0, 0, 0, 0, 0, 0) :: (0, 2, 999, 0, 0, 0) :: (50, 169, 9, 3, 108, 6234) :: (3, 4, 0, 0, 1, 0) :: (1, 2, 0, 0, 0, 0) :: (3, 5, 0, 0, 1, 0) :: bl_226_24 ∧ bl_226_24 = (1, 5, 0, 0, 1, 0) :: (1, 3, 0, 0, 0, 0) :: (23, 43, 34, 0, 0, 0) :: (2, 0, 0, 0, 0, 0) :: (36, 9, 0, 9, 87, 6123) :: (27, 43, 27, 0, 0, 0) :: (2, 0, 0, 0, 0, 0) :: (37, 1, 0, 9, 13, 6115) :: (0, 2, 233, 0, 0, 0) :: (0, 1, 24, 0, 0, 0) :: (1, 1, 0, 0, 0, 0) :: (8, 0, 0, 0, 0, 0) :: (6, 0, 0, 0, 0, 0) :: (1, 5, 0, 0, 1, 0) :: (6, 0, 0, 0, 0, 0) :: (1, 4, 0, 0, 1, 0) :: (41, 0, 0, 0, 0, 0) :: (5, 5, 1, 0, 0, 0) :: (32, 24, (-34), 0, 0, 0) :: bl_226_43 ∧ bl_226_43 = (57, 0, 0, 0, 0, 0) :: [] := by refine ⟨?_, ?_, ?_, ?_, ?_, ?_⟩ <;> rfl
theorem cdS_227 : (mz_cd 227).drop 0 = bl_227_0 ∧ (mz_cd 227).drop 20 = bl_227_20 ∧ bl_227_0 = (2, 0, 0, 0, 0, 0) :: (0, 0, 0, 0, 0, 0) :: (1, 2, 0, 0, 0, 0) :: (50, 169, 9, 3, 108, 6234) :: (3, 5, 0, 0, 1, 0) :: (2, 0, 0, 0, 0, 0) :: (1, 3, 0, 0, 0, 0) :: (1, 4, 0, 0, 1, 0) :: (50, 169, 9, 3, 108, 6234) :: (3, 6, 0, 0, 1, 0) :: (2, 0, 0, 0, 0, 0) :: (36, 9, 0, 9, 87, 6123) :: (27, 20, 14, 0, 0, 0) :: (2, 0, 0, 0, 0, 0) :: (37, 1, 0, 9, 13, 6115) :: (1, 1, 0, 0, 0, 0) :: (1, 5, 0, 0, 1, 0) :: (6, 0, 0, 0, 0, 0) :: (1, 6, 0, 0, 1, 0) :: (41, 0, 0, 0, 0, 0) :: bl_227_20 ∧ bl_227_20 = (57, 0, 0, 0, 0, 0) :: [] := by refine ⟨?_, ?_, ?_, ?_⟩ <;> rfl
theorem cdS_228 : (mz_cd 228).drop 0 = bl_228_0 ∧ bl_228_0 = (2, 0, 0, 0, 0, 0) :: (1, 1, 0, 0, 0, 0) :: (1, 2, 0, 0, 0, 0) :: (0, 0, 3, 0, 0, 0) :: (50, 170, 9, 4, 262, 8023) :: (55, 0, 0, 0, 0, 0) :: [] := by refine ⟨?_, ?_⟩ <;> rfl
theorem cdS_229 : (mz_cd 229).drop 0 = bl_229_0 ∧ bl_229_0 = (2, 0, 0, 0, 0, 0) :: (1, 1, 0, 0, 0, 0) :: (1, 2, 0, 0, 0, 0) :: (0, 0, 0, 0, 0, 0) :: (50, 170, 9, 4, 262, 8023) :: (55, 0, 0, 0, 0, 0) :: [] := by refine ⟨?_, ?_⟩ <;> rfl
theorem cdS_230 : (mz_cd 230).drop 0 = bl_230_0 ∧ (mz_cd 230).drop 10 = bl_230_10 ∧ (mz_cd 230).drop 11 = bl_230_11 ∧ bl_230_0 = (2, 0, 0, 0, 0, 0) :: (0, 0, 0, 0, 0, 0) :: (38, 4, 0, 9, 59, 6118) :: (1, 1, 0, 0, 0, 0) :: (49, 105, 9, 1, 171, 7047) :: (26, 10, 11, 0, 0, 0) :: (2, 0, 0, 0, 0, 0) :: (1, 1, 0, 0, 0, 0) :: (50, 157, 9, 2, 211, 7103) :: (32, 11, 4, 0, 0, 0) :: bl_230_10 ∧ bl_230_10 = (0, 0, (-1), 0, 0, 0) :: bl_230_11 ∧ bl_230_11 = (55, 0, 0, 0, 0, 0) :: [] := by refine ⟨?_, ?_, ?_, ?_, ?_, ?_⟩ <;> rfl
theorem cdS_231 : (mz_cd 231).drop 0 = bl_231_0 ∧ (mz_cd 231).drop 12 = bl_231_12 ∧ (mz_cd 231).drop 20 = bl_231_20 ∧ (mz_cd 231).drop 41 = bl_231_41 ∧ (mz_cd 231).drop 43 = bl_231_43 ∧ (mz_cd 231).drop 54 = bl_231_54 ∧ (mz_cd 231).drop 93 = bl_231_93 ∧ (mz_cd 231).drop 133 = bl_231_133 ∧ (mz_cd 231).drop 135 = bl_231_135 ∧ (mz_cd 231).drop 137 = bl_231_137 ∧ bl_231_0 = (1, 1, 0, 0, 0, 0) :: (2, 0, 0, 0, 0, 0) :: (36, 19, 0, 9, 240, 6133) :: (24, 12, 20, 0, 0, 0) :: (1, 1, 0, 0, 0, 0) :: (2, 0, 0, 0, 0, 0) :: (36, 19, 0, 9, 240, 6133) :: (21, 41, 66, 0, 0, 0) :: (1, 4, 0, 0, 1, 0) :: (2, 0, 0, 0, 0, 0) :: (36, 20, 0, 9, 243, 6134) :: (23, 41, 57, 0, 0, 0) :: bl_231_12 ∧ bl_231_12 = (2, 0, 0, 0, 0, 0) :: (1, 1, 0, 0, 0, 0) :: (38, 19, 0, 9, 240, 6133) :: (2, 0, 0, 0, 0, 0) :: (1, 4, 0, 0, 1, 0) :: (38, 20, 0, 9, 243, 6134) :: (0, 0, 0, 0, 0, 0) :: (3, 5, 0, 0, 1, 0) :: bl_231_20 ∧ bl_231_20 = (1, 5, 0, 0, 1, 0) :: (1, 1, 0, 0, 0, 0) :: (23, 41, 37, 0, 0, 0) :: (2, 0, 0, 0, 0, 0) :: (37, 15, 0, 9, 36, 6129) :: (1, 5, 0, 0, 1, 0) :: (2, 0, 0, 0, 0, 0) :: (37, 13, 0, 9, 30, 6127) :: (1, 5, 0, 0, 1, 0) :: (40, 0, 0, 0, 0, 0) :: (41, 0, 0, 0, 0, 0) :: (2, 0, 0, 0, 0, 0) :: (37, 16, 0, 9, 39, 6130) :: (1, 5, 0, 0, 1, 0) :: (2, 0, 0, 0, 0, 0) :: (37, 14, 0, 9, 33, 6128) :: (1, 5, 0, 0, 1, 0) :: (40, 0, 0, 0, 0, 0) :: (41, 0, 0, 0, 0, 0) :: (5, 5, 1, 0, 0, 0) :: (32, 20, (-37), 0, 0, 0) :: bl_231_41 ∧ bl_231_41 = (0, 0, 0, 0, 0, 0) :: (3, 5, 0, 0, 1, 0) :: bl_231_43 ∧ bl_231_43 = (1, 5, 0, 0, 1, 0) :: (2, 0, 0, 0, 0, 0) :: (36, 18, 0, 9, 231, 6132) :: (23, 137, 156, 0, 0, 0) :: (2, 0, 0, 0, 0, 0) :: (37, 12, 0, 9, 27, 6126) :: (1, 5, 0, 0, 1, 0) :: (40, 0, 0, 0, 0, 0) :: (3, 6, 0, 0, 1, 0) :: (0, 0, 0, 0, 0, 0) :: (3, 7, 0, 0, 1, 0) :: bl_231_54 ∧ bl_231_54 = (1, 7, 0, 0, 1, 0) :: (2, 0, 0, 0, 0, 0) :: (37, 0, 0, 9, 9, 6114) :: (0, 0, 0, 0, 0, 0) :: (40, 0, 0, 0, 0, 0) :: (23, 135, 127, 0, 0, 0) :: (1, 3, 0, 0, 0, 0) :: (1, 5, 0, 0, 1, 0) :: (15, 0, 0, 0, 0, 0) :: (0, 0, 1, 0, 0, 0) :: (11, 0, 0, 0, 0, 0) :: (27, 135, 118, 0, 0, 0) :: (2, 0, 0, 0, 0, 0) :: (1, 2, 0, 0, 0, 0) :: (2, 0, 0, 0, 0, 0) :: (1, 6, 0, 0, 1, 0) :: (0, 0, 1, 0, 0, 0) :: (50, 46, 9, 3, 161, 7054) :: (50, 51, 9, 3, 249, 7168) :: (0, 1, 10, 0, 0, 0) :: (6, 0, 0, 0, 0, 0) :: (2, 0, 0, 0, 0, 0) :: (2, 0, 0, 0, 0, 0) :: (1, 6, 0, 0, 1, 0) :: (0, 0, 1, 0, 0, 0) :: (50, 46, 9, 3, 161, 7054) :: (1, 7, 0, 0, 1, 0) :: (50, 51, 9, 3, 249, 7168) :: (6, 0, 0, 0, 0, 0) :: (3, 8, 0, 0, 1, 0) :: (2, 0, 0, 0, 0, 0) :: (37, 17, 0, 9, 42, 6131) :: (1, 7, 0, 0, 1, 0) :: (40, 0, 0, 0, 0, 0) :: (26, 133, 71, 0, 0, 0) :: (1, 8, 0, 0, 1, 0) :: (0, 3, 1000000, 0, 63, 6109) :: (22, 93, 6, 0, 0, 0) :: (32, 133, 61, 0, 0, 0) :: bl_231_93 ∧ bl_231_93 = (2, 0, 0, 0, 0, 0) :: (37, 17, 0, 9, 42, 6131) :: (1, 7, 0, 0, 1, 0) :: (69, 0, 0, 0, 0, 0) :: (40, 0, 0, 0, 0, 0) :: (0, 0, 1, 0, 0, 0) :: (7, 0, 0, 0, 0, 0) :: (41, 0, 0, 0, 0, 0) :: (2, 0, 0, 0, 0, 0) :: (37, 13, 0, 9, 30, 6127) :: (1, 1, 0, 0, 0, 0) :: (1, 6, 0, 0, 1, 0) :: (41, 0, 0, 0, 0, 0) :: (2, 0, 0, 0, 0, 0) :: (37, 14, 0, 9, 33, 6128) :: (1, 1, 0, 0, 0, 0) :: (1, 7, 0, 0, 1, 0) :: (41, 0, 0, 0, 0, 0) :: (2, 0, 0, 0, 0, 0) :: (1, 1, 0, 0, 0, 0) :: (0, 0, 1, 0, 0, 0) :: (6, 0, 0, 0, 0, 0) :: (1, 7, 0, 0, 1, 0) :: (1, 3, 0, 0, 0, 0) :: (0, 0, 1, 0, 0, 0) :: (1, 5, 0, 0, 1, 0) :: (14, 0, 0, 0, 0, 0) :: (12, 0, 0, 0, 0, 0) :: (1, 4, 0, 0, 1, 0) :: (1, 8, 0, 0, 1, 0) :: (6, 0, 0, 0, 0, 0) :: (50, 184, 9, 5, 246, 7164) :: (2, 0, 0, 0, 0, 0) :: (37, 17, 0, 9, 42, 6131) :: (1, 7, 0, 0, 1, 0) :: (69, 0, 0, 0, 0, 0) :: (40, 0, 0, 0, 0, 0) :: (0, 0, 1, 0, 0, 0) :: (6, 0, 0, 0, 0, 0) :: (41, 0, 0, 0, 0, 0) :: bl_231_133 ∧ bl_231_133 = (5, 7, 1, 0, 0, 0) :: (32, 54, (-132), 0, 0, 0) :: bl_231_135 ∧ bl_231_135 = (5, 5, 1, 0, 0, 0) :: (32, 43, (-159), 0, 0, 0) :: bl_231_137 ∧ bl_231_137 = (57, 0, 0, 0, 0, 0) :: [] := by refine ⟨?_, ?_, ?_, ?_, ?_, ?_, ?_, ?_, ?_, ?_, ?_, ?_, ?_, ?_, ?_, ?_, ?_, ?_, ?_, ?_⟩ <;> rfl
theorem cdS_232 : (mz_cd 232).drop 0 = bl_232_0 ∧ (mz_cd 232).drop 4 = bl_232_4 ∧ (mz_cd 232).drop 17 = bl_232_17 ∧ (mz_cd 232).drop 18 = bl_232_18 ∧ (mz_cd 232).drop 22 = bl_232_22 ∧ bl_232_0 = (0, 0, 0, 0, 0, 0) :: (3, 2, 0, 0, 0, 0) :: (0, 0, 0, 0, 0, 0) :: (3, 3, 0, 0, 0, 0) :: bl_232_4 ∧ bl_232_4 = (1, 3, 0, 0, 0, 0) :: (0, 1, 16, 0, 0, 0) :: (23, 22, 30, 0, 0, 0) :: (1, 2, 0, 0, 0, 0) :: (2, 0, 0, 0, 0, 0) :: (1, 3, 0, 0, 0, 0) :: (1, 1, 0, 0, 0, 0) :: (50, 104, 9, 3, 167, 7062) :: (26, 17, 11, 0, 0, 0) :: (2, 0, 0, 0, 0, 0) :: (1, 3, 0, 0, 0, 0) :: (50, 157, 9, 2, 211, 7103) :: (32, 18, 4, 0, 0, 0) :: bl_232_17 ∧ bl_232_17 = (0, 0, 0, 0, 0, 0) :: bl_232_18 ∧ bl_232_18 = (6, 0, 0, 0, 0, 0) :: (3, 2, 0, 0, 0, 0) :: (5, 3, 1, 0, 0, 0) :: (32, 4, (-30), 0, 0, 0) :: bl_232_22 ∧ bl_232_22 = (1, 2, 0, 0, 0, 0) :: (55, 0, 0, 0, 0, 0) :: [] := by refine ⟨?_, ?_, ?_, ?_, ?_, ?_, ?_, ?_, ?_, ?_⟩ <;> rfl
theorem cdS_233 : (mz_cd 233).drop 0 = bl_233_0 ∧ (mz_cd 233).drop 19 = bl_233_19 ∧ (mz_cd 233).drop 20 = bl_233_20 ∧ (mz_cd 233).drop 29 = bl_233_29 ∧ (mz_cd 233).drop 60 = bl_233_60 ∧ (mz_cd 233).drop 61 = bl_233_61 ∧ (mz_cd 233).drop 73 = bl_233_73 ∧ bl_233_0 = (2, 0, 0, 0, 0, 0) :: (0, 0, 0, 0, 0, 0) :: (38, 11, 0, 3, 67, 2081) :: (0, 0, 0, 0, 0, 0) :: (3, 2, 0, 0, 0, 0) :: (0, 0, 0, 0, 0, 0) :: (3, 3, 0, 0, 0, 0) :: (2, 0, 0, 0, 0, 0) :: (36, 10, 0, 3, 108, 2080) :: (0, 0, 2, 0, 0, 0) :: (21, 19, 19, 0, 0, 0) :: (2, 0, 0, 0, 0, 0) :: (37, 2, 0, 3, 18, 2069) :: (0, 0, 1, 0, 0, 0) :: (52, 23, 8, 2, 70, 19) :: (1, 1, 0, 0, 0, 0) :: (21, 19, 7, 0, 0, 0) :: (0, 0, 1, 0, 0, 0) :: (32, 20, 4, 0, 0, 0) :: bl_233_19 ∧ bl_233_19 = (0, 0, 0, 0, 0, 0) :: bl_233_20 ∧ bl_233_20 = (3, 4, 0, 0, 1, 0) :: (2, 0, 0, 0, 0, 0) :: (1, 2, 0, 0, 0, 0) :: (1, 3, 0, 0, 0, 0) :: (1, 4, 0, 0, 1, 0) :: (50, 188, 3, 4, 154, 4108) :: (3, 5, 0, 0, 1, 0) :: (0, 0, 0, 0, 0, 0) :: (3, 6, 0, 0, 1, 0) :: bl_233_29 ∧ bl_233_29 = (1, 6, 0, 0, 1, 0) :: (2, 0, 0, 0, 0, 0) :: (36, 9, 0, 3, 78, 2079) :: (23, 73, 71, 0, 0, 0) :: (1, 5, 0, 0, 1, 0) :: (0, 0, (-1), 0, 0, 0) :: (20, 73, 65, 0, 0, 0) :: (1, 5, 0, 0, 1, 0) :: (0, 0, 2, 0, 0, 0) :: (9, 0, 0, 0, 0, 0) :: (3, 7, 0, 0, 1, 0) :: (1, 5, 0, 0, 1, 0) :: (0, 0, 2, 0, 0, 0) :: (10, 0, 0, 0, 0, 0) :: (3, 8, 0, 0, 1, 0) :: (2, 0, 0, 0, 0, 0) :: (1, 4, 0, 0, 1, 0) :: (1, 7, 0, 0, 1, 0) :: (1, 8, 0, 0, 1, 0) :: (50, 64, 3, 4, 157, 4112) :: (1, 2, 0, 0, 0, 0) :: (0, 0, 1, 0, 0, 0) :: (1, 7, 0, 0, 1, 0) :: (14, 0, 0, 0, 0, 0) :: (12, 0, 0, 0, 0, 0) :: (3, 2, 0, 0, 0, 0) :: (1, 3, 0, 0, 0, 0) :: (1, 8, 0, 0, 1, 0) :: (27, 60, 7, 0, 0, 0) :: (0, 0, 1, 0, 0, 0) :: (32, 61, 4, 0, 0, 0) :: bl_233_60 ∧ bl_233_60 = (0, 0, 0, 0, 0, 0) :: bl_233_61 ∧ bl_233_61 = (6, 0, 0, 0, 0, 0) :: (3, 3, 0, 0, 0, 0) :: (1, 8, 0, 0, 1, 0) :: (3, 4, 0, 0, 1, 0) :: (2, 0, 0, 0, 0, 0) :: (1, 2, 0, 0, 0, 0) :: (1, 3, 0, 0, 0, 0) :: (1, 4, 0, 0, 1, 0) :: (50, 188, 3, 4, 154, 4108) :: (3, 5, 0, 0, 1, 0) :: (5, 6, 1, 0, 0, 0) :: (32, 29, (-74), 0, 0, 0) :: bl_233_73 ∧ bl_233_73 = (57, 0, 0, 0, 0, 0) :: [] := by refine ⟨?_, ?_, ?_, ?_, ?_, ?_, ?_, ?_, ?_, ?_, ?_, ?_, ?_, ?_⟩ <;> rfl
theorem cdS_234 : (mz_cd 234).drop 0 = bl_234_0 ∧ (mz_cd 234).drop 28 = bl_234_28 ∧ (mz_cd 234).drop 42 = bl_234_42 ∧ bl_234_0 = (2, 0, 0, 0, 0, 0) :: (63, 0, 0, 0, 3, 1044) :: (2, 0, 0, 0, 0, 0) :: (0, 1, 10, 0, 0, 0) :: (59, 0, 0, 0, 0, 0) :: (39, 3, 0, 4, 9, 1109) :: (2, 0, 0, 0, 0, 0) :: (0, 1, 10, 0, 0, 0) :: (59, 0, 0, 0, 0, 0) :: (39, 4, 0, 4, 15, 1113) :: (2, 0, 0, 0, 0, 0) :: (0, 1, 10, 0, 0, 0) :: (59, 0, 0, 0, 0, 0) :: (39, 5, 0, 4, 18, 1116) :: (2, 0, 0, 0, 0, 0) :: (0, 1, 100, 0, 0, 0) :: (59, 0, 0, 0, 0, 0) :: (39, 6, 0, 4, 21, 1118) :: (2, 0, 0, 0, 0, 0) :: (0, 1, 100, 0, 0, 0) :: (59, 0, 0, 0, 0, 0) :: (39, 7, 0, 4, 24, 1119) :: (2, 0, 0, 0, 0, 0) :: (0, 0, 4, 0, 0, 0) :: (62, 103, 0, 0, 27, 1045) :: (39, 8, 0, 4, 29, 1120) :: (0, 0, 0, 0, 0, 0) :: (3, 1, 0, 0, 0, 0) :: bl_234_28 ∧ bl_234_28 = (1, 1, 0, 0, 0, 0) :: (2, 0, 0, 0, 0, 0) :: (37, 8, 0, 4, 29, 1120) :: (48, 0, 0, 0, 0, 0) :: (23, 42, 22, 0, 0, 0) :: (2, 0, 0, 0, 0, 0) :: (37, 8, 0, 4, 29, 1120) :: (1, 1, 0, 0, 0, 0) :: (58, 7, 0, 0, 27, 1045) :: (18, 0, 0, 0, 0, 0) :: (54, 81, 7, 1, 33, 1) :: (47, 0, 0, 0, 0, 0) :: (5, 1, 1, 0, 0, 0) :: (32, 28, (-25), 0, 0, 0) :: bl_234_42 ∧ bl_234_42 = (2, 0, 0, 0, 0, 0) :: (50, 190, 4, 1, 34, 1064) :: (57, 0, 0, 0, 0, 0) :: [] := by refine ⟨?_, ?_, ?_, ?_, ?_, ?_⟩ <;> rfl
theorem cdS_235 : (mz_cd 235).drop 0 = bl_235_0 ∧ (mz_cd 235).drop 10 = bl_235_10 ∧ (mz_cd 235).drop 12 = bl_235_12 ∧ (mz_cd 235).drop 29 = bl_235_29 ∧ (mz_cd 235).drop 31 = bl_235_31 ∧ bl_235_0 = (2, 0, 0, 0, 0, 0) :: (36, 3, 0, 5, 33, 1144) :: (2, 0, 0, 0, 0, 0) :: (36, 5, 0, 5, 61, 1146) :: (7, 0, 0, 0, 0, 0) :: (2, 1, 0, 0, 0, 0) :: (50, 53, 90, 1, 168, 2212) :: (20, 10, 5, 0, 0, 0) :: (0, 0, 0, 0, 0, 0) :: (55, 1, 0, 0, 0, 0) :: bl_235_10 ∧ bl_235_10 = (0, 0, 0, 0, 0, 0) :: (3, 2, 0, 0, 0, 0) :: bl_235_12 ∧ bl_235_12 = (1, 2, 0, 0, 0, 0) :: (2, 1, 0, 0, 0, 0) :: (50, 53, 90, 1, 168, 2212) :: (23, 31, 32, 0, 0, 0) :: (2, 0, 0, 0, 0, 0) :: (37, 1, 0, 5, 18, 1142) :: (2, 0, 0, 0, 0, 0) :: (36, 5, 0, 5, 61, 1146) :: (1, 2, 0, 0, 0, 0) :: (6, 0, 0, 0, 0, 0) :: (52, 23, 8, 2, 172, 10) :: (2, 1, 0, 0, 0, 0) :: (1, 2, 0, 0, 0, 0) :: (50, 186, 90, 2, 176, 2223) :: (20, 29, 5, 0, 0, 0) :: (0, 0, 0, 0, 0, 0) :: (55, 1, 0, 0, 0, 0) :: bl_235_29 ∧ bl_235_29 = (5, 2, 1, 0, 0, 0) :: (32, 12, (-34), 0, 0, 0) :: bl_235_31 ∧ bl_235_31 = (0, 0, 1, 0, 0, 0) :: (55, 1, 0, 0, 0, 0) :: [] := by refine ⟨?_, ?_, ?_, ?_, ?_, ?_, ?_, ?_, ?_, ?_⟩ <;> rfl
theorem cdS_236 : (mz_cd 236).drop 0 = bl_236_0 ∧ (mz_cd 236).drop 18 = bl_236_18 ∧ (mz_cd 236).drop 31 = bl_236_31 ∧ bl_236_0 = (2, 0, 0, 0, 0, 0) :: (50, 192, 5, 1, 96, 3046) :: (3, 1, 0, 0, 0, 0) :: (2, 0, 0, 0, 0, 0) :: (37, 0, 0, 5, 12, 1140) :: (1, 1, 0, 0, 0, 0) :: (50, 70, 4, 2, 124, 3084) :: (27, 18, 23, 0, 0, 0) :: (2, 0, 0, 0, 0, 0) :: (37, 0, 0, 5, 12, 1140) :: (36, 1, 0, 4, 128, 1106) :: (0, 0, 2, 0, 0, 0) :: (22, 18, 12, 0, 0, 0) :: (2, 0, 0, 0, 0, 0) :: (0, 0, 3, 0, 0, 0) :: (2, 0, 0, 0, 0, 0) :: (36, 4, 0, 5, 99, 1145) :: (50, 17, 5, 3, 64, 3021) :: bl_236_18 ∧ bl_236_18 = (2, 0, 0, 0, 0, 0) :: (0, 0, 1, 0, 0, 0) :: (0, 1, 6, 0, 0, 0) :: (50, 137, 5, 3, 68, 3025) :: (3, 2, 0, 0, 0, 0) :: (2, 0, 0, 0, 0, 0) :: (36, 6, 0, 5, 36, 1148) :: (27, 31, 12, 0, 0, 0) :: (2, 0, 0, 0, 0, 0) :: (37, 0, 0, 5, 12, 1140) :: (1, 1, 0, 0, 0, 0) :: (1, 2, 0, 0, 0, 0) :: (50, 136, 4, 3, 131, 3088) :: bl_236_31 ∧ bl_236_31 = (57, 0, 0, 0, 0, 0) :: [] := by refine ⟨?_, ?_, ?_, ?_, ?_, ?_⟩ <;> rfl
theorem cdS_237 : (mz_cd 237).drop 0 = bl_237_0 ∧ (mz_cd 237).drop 14 = bl_237_14 ∧ (mz_cd 237).drop 28 = bl_237_28 ∧ bl_237_0 = (2, 0, 0, 0, 0, 0) :: (50, 192, 5, 1, 96, 3046) :: (3, 1, 0, 0, 0, 0) :: (2, 0, 0, 0, 0, 0) :: (50, 192, 5, 1, 96, 3046) :: (3, 2, 0, 0, 0, 0) :: (1, 1, 0, 0, 0, 0) :: (1, 2, 0, 0, 0, 0) :: (21, 14, 12, 0, 0, 0) :: (2, 0, 0, 0, 0, 0) :: (0, 0, 3, 0, 0, 0) :: (2, 0, 0, 0, 0, 0) :: (36, 4, 0, 5, 99, 1145) :: (50, 17, 5, 3, 64, 3021) :: bl_237_14 ∧ bl_237_14 = (2, 0, 0, 0, 0, 0) :: (0, 0, 1, 0, 0, 0) :: (0, 1, 99, 0, 0, 0) :: (50, 137, 5, 3, 68, 3025) :: (3, 3, 0, 0, 0, 0) :: (2, 0, 0, 0, 0, 0) :: (36, 6, 0, 5, 36, 1148) :: (27, 28, 13, 0, 0, 0) :: (2, 0, 0, 0, 0, 0) :: (37, 0, 0, 5, 12, 1140) :: (1, 1, 0, 0, 0, 0) :: (1, 2, 0, 0, 0, 0) :: (1, 3, 0, 0, 0, 0) :: (50, 69, 4, 4, 102, 3050) :: bl_237_28 ∧ bl_237_28 = (57, 0, 0, 0, 0, 0) :: [] := by refine ⟨?_, ?_, ?_, ?_, ?_, ?_⟩ <;> rfl
theorem cdS_238 : (mz_cd 238).drop 0 = bl_238_0 ∧ (mz_cd 238).drop 17 = bl_238_17 ∧ bl_238_0 = (2, 0, 0, 0, 0, 0) :: (50, 192, 5, 1, 96, 3046) :: (3, 1, 0, 0, 0, 0) :: (2, 0, 0, 0, 0, 0) :: (0, 0, 0, 0, 0, 0) :: (0, 1, 8, 0, 0, 0) :: (50, 137, 5, 3, 68, 3025) :: (3, 2, 0, 0, 0, 0) :: (2, 0, 0, 0, 0, 0) :: (36, 6, 0, 5, 36, 1148) :: (27, 17, 15, 0, 0, 0) :: (2, 0, 0, 0, 0, 0) :: (37, 0, 0, 5, 12, 1140) :: (37, 4, 0, 4, 121, 1115) :: (1, 1, 0, 0, 0, 0) :: (1, 2, 0, 0, 0, 0) :: (52, 31, 8, 3, 26, 8) :: bl_238_17 ∧ bl_238_17 = (57, 0, 0, 0, 0, 0) :: [] := by refine ⟨?_, ?_, ?_, ?_⟩ <;> rfl
theorem cdS_239 : (mz_cd 239).drop 0 = bl_239_0 ∧ (mz_cd 239).drop 17 = bl_239_17 ∧ bl_239_0 = (2, 0, 0, 0, 0, 0) :: (50, 192, 5, 1, 96, 3046) :: (3, 1, 0, 0, 0, 0) :: (2, 0, 0, 0, 0, 0) :: (0, 0, 0, 0, 0, 0) :: (0, 0, 3, 0, 0, 0) :: (50, 137, 5, 3, 68, 3025) :: (3, 2, 0, 0, 0, 0) :: (2, 0, 0, 0, 0, 0) :: (36, 6, 0, 5, 36, 1148) :: (27, 17, 15, 0, 0, 0) :: (2, 0, 0, 0, 0, 0) :: (37, 0, 0, 5, 12, 1140) :: (37, 3, 0, 4, 106, 1111) :: (1, 1, 0, 0, 0, 0) :: (1, 2, 0, 0, 0, 0) :: (52, 31, 8, 3, 26, 8) :: bl_239_17 ∧ bl_239_17 = (57, 0, 0, 0, 0, 0) :: [] := by refine ⟨?_, ?_, ?_, ?_⟩ <;> rfl
theorem cdS_240 : (mz_cd 240).drop 0 = bl_240_0 ∧ (mz_cd 240).drop 12 = bl_240_12 ∧ (mz_cd 240).drop 23 = bl_240_23 ∧ bl_240_0 = (2, 0, 0, 0, 0, 0) :: (37, 0, 0, 6, 12, 2035) :: (2, 1, 0, 0, 0, 0) :: (50, 191, 4, 2, 38, 3098) :: (2, 0, 0, 0, 0, 0) :: (37, 1, 0, 6, 20, 2039) :: (4, 2, 0, 0, 0, 0) :: (2, 2, 0, 0, 0, 0) :: (48, 0, 0, 0, 0, 0) :: (3, 3, 0, 0, 0, 0) :: (0, 0, 0, 0, 0, 0) :: (3, 4, 0, 0, 1, 0) :: bl_240_12 ∧ bl_240_12 = (1, 4, 0, 0, 1, 0) :: (1, 3, 0, 0, 0, 0) :: (23, 23, 20, 0, 0, 0) :: (2, 2, 0, 0, 0, 0) :: (1, 4, 0, 0, 1, 0) :: (46, 0, 0, 0, 0, 0) :: (4, 5, 0, 0, 1, 0) :: (2, 5, 0, 0, 1, 0) :: (50, 6, 0, 1, 42, 3107) :: (5, 4, 1, 0, 0, 0) :: (32, 12, (-20), 0, 0, 0) :: bl_240_23 ∧ bl_240_23 = (2, 0, 0, 0, 0, 0) :: (37, 2, 0, 6, 27, 2041) :: (0, 0, 0, 0, 0, 0) :: (38, 0, 0, 1, 45, 1185) :: (2, 0, 0, 0, 0, 0) :: (0, 0, 0, 0, 0, 0) :: (38, 3, 0, 6, 48, 2043) :: (2, 0, 0, 0, 0, 0) :: (2, 0, 0, 0, 0, 0) :: (37, 0, 0, 6, 12, 2035) :: (36, 2, 0, 4, 51, 1108) :: (38, 4, 0, 6, 31, 2046) :: (57, 0, 0, 0, 0, 0) :: [] := by refine ⟨?_, ?_, ?_, ?_, ?_, ?_⟩ <;> rfl
theorem cdS_241 : (mz_cd 241).drop 0 = bl_241_0 ∧ (mz_cd 241).drop 7 = bl_241_7 ∧ (mz_cd 241).drop 23 = bl_241_23 ∧ bl_241_0 = (2, 0, 0, 0, 0, 0) :: (37, 0, 0, 6, 12, 2035) :: (2, 1, 0, 0, 0, 0) :: (37, 0, 0, 6, 12, 2035) :: (50, 191, 4, 2, 38, 3098) :: (0, 0, 0, 0, 0, 0) :: (3, 2, 0, 0, 0, 0) :: bl_241_7 ∧ bl_241_7 = (1, 2, 0, 0, 0, 0) :: (2, 0, 0, 0, 0, 0) :: (37, 1, 0, 6, 20, 2039) :: (48, 0, 0, 0, 0, 0) :: (23, 23, 24, 0, 0, 0) :: (2, 0, 0, 0, 0, 0) :: (37, 1, 0, 6, 20, 2039) :: (1, 2, 0, 0, 0, 0) :: (46, 0, 0, 0, 0, 0) :: (2, 1, 0, 0, 0, 0) :: (37, 1, 0, 6, 20, 2039) :: (1, 2, 0, 0, 0, 0) :: (46, 0, 0, 0, 0, 0) :: (50, 7, 0, 2, 54, 4135) :: (5, 2, 1, 0, 0, 0) :: (32, 7, (-27), 0, 0, 0) :: bl_241_23 ∧ bl_241_23 = (2, 0, 0, 0, 0, 0) :: (37, 2, 0, 6, 27, 2041) :: (2, 1, 0, 0, 0, 0) :: (37, 2, 0, 6, 27, 2041) :: (50, 125, 1, 2, 57, 4139) :: (2, 0, 0, 0, 0, 0) :: (2, 1, 0, 0, 0, 0) :: (36, 3, 0, 6, 48, 2043) :: (38, 3, 0, 6, 48, 2043) :: (2, 0, 0, 0, 0, 0) :: (2, 1, 0, 0, 0, 0) :: (36, 4, 0, 6, 31, 2046) :: (38, 4, 0, 6, 31, 2046) :: (57, 0, 0, 0, 0, 0) :: [] := by refine ⟨?_, ?_, ?_, ?_, ?_, ?_⟩ <;> rfl
theorem cdS_242 : (mz_cd 242).drop 0 = bl_242_0 ∧ (mz_cd 242).drop 10 = bl_242_10 ∧ (mz_cd 242).drop 28 = bl_242_28 ∧ (mz_cd 242).drop 30 = bl_242_30 ∧ bl_242_0 = (0, 0, 0, 0, 0, 0) :: (3, 3, 0, 0, 0, 0) :: (2, 0, 0, 0, 0, 0) :: (37, 1, 0, 6, 20, 2039) :: (4, 4, 0, 0, 1, 0) :: (2, 4, 0, 0, 1, 0) :: (48, 0, 0, 0, 0, 0) :: (3, 5, 0, 0, 1, 0) :: (0, 0, 0, 0, 0, 0) :: (3, 6, 0, 0, 1, 0) :: bl_242_10 ∧ bl_242_10 = (1, 6, 0, 0, 1, 0) :: (1, 5, 0, 0, 1, 0) :: (23, 30, 39, 0, 0, 0) :: (2, 4, 0, 0, 1, 0) :: (1, 6, 0, 0, 1, 0) :: (46, 0, 0, 0, 0, 0) :: (4, 7, 0, 0, 1, 0) :: (2, 7, 0, 0, 1, 0) :: (1, 1, 0, 0, 0, 0) :: (0, 0, 1, 0, 0, 0) :: (50, 9, 0, 3, 91, 3220) :: (26, 28, 16, 0, 0, 0) :: (2, 0, 0, 0, 0, 0) :: (2, 7, 0, 0, 1, 0) :: (1, 2, 0, 0, 0, 0) :: (50, 203, 6, 3, 131, 3221) :: (31, 28, 6, 0, 0, 0) :: (5, 3, 1, 0, 0, 0) :: bl_242_28 ∧ bl_242_28 = (5, 6, 1, 0, 0, 0) :: (32, 10, (-40), 0, 0, 0) :: bl_242_30 ∧ bl_242_30 = (1, 3, 0, 0, 0, 0) :: (55, 0, 0, 0, 0, 0) :: [] := by refine ⟨?_, ?_, ?_, ?_, ?_, ?_, ?_, ?_⟩ <;> rfl
theorem cdS_243 : (mz_cd 243).drop 0 = bl_243_0 ∧ (mz_cd 243).drop 23 = bl_243_23 ∧ bl_243_0 = (2, 1, 0, 0, 0, 0) :: (18, 0, 0, 0, 0, 0) :: (36, 10, 0, 0, 161, 2010) :: (1, 2, 0, 0, 0, 0) :: (6, 0, 0, 0, 0, 0) :: (38, 10, 0, 0, 161, 2010) :: (2, 0, 0, 0, 0, 0) :: (0, 1, 6, 0, 0, 0) :: (2, 1, 0, 0, 0, 0) :: (1, 2, 0, 0, 0, 0) :: (50, 140, 6, 4, 104, 3159) :: (2, 0, 0, 0, 0, 0) :: (2, 1, 0, 0, 0, 0) :: (50, 199, 6, 2, 164, 4016) :: (2, 0, 0, 0, 0, 0) :: (2, 1, 0, 0, 0, 0) :: (50, 198, 6, 2, 167, 4025) :: (2, 1, 0, 0, 0, 0) :: (50, 57, 0, 1, 170, 4029) :: (26, 23, 8, 0, 0, 0) :: (2, 0, 0, 0, 0, 0) :: (2, 1, 0, 0, 0, 0) :: (50, 201, 6, 2, 174, 4030) :: bl_243_23 ∧ bl_243_23 = (57, 0, 0, 0, 0, 0) :: [] := by refine ⟨?_, ?_, ?_, ?_⟩ <;> rfl
theorem cdS_244 : (mz_cd 244).drop 0 = bl_244_0 ∧ (mz_cd 244).drop 10 = bl_244_10 ∧ (mz_cd 244).drop 29 = bl_244_29 ∧ (mz_cd 244).drop 31 = bl_244_31 ∧ bl_244_0 = (0, 0, 0, 0, 0, 0) :: (3, 3, 0, 0, 0, 0) :: (2, 0, 0, 0, 0, 0) :: (37, 1, 0, 6, 20, 2039) :: (4, 4, 0, 0, 1, 0) :: (2, 4, 0, 0, 1, 0) :: (48, 0, 0, 0, 0, 0) :: (3, 5, 0, 0, 1, 0) :: (0, 0, 0, 0, 0, 0) :: (3, 6, 0, 0, 1, 0) :: bl_244_10 ∧ bl_244_10 = (1, 6, 0, 0, 1, 0) :: (1, 5, 0, 0, 1, 0) :: (23, 31, 36, 0, 0, 0) :: (2, 4, 0, 0, 1, 0) :: (1, 6, 0, 0, 1, 0) :: (46, 0, 0, 0, 0, 0) :: (4, 7, 0, 0, 1, 0) :: (2, 7, 0, 0, 1, 0) :: (1, 1, 0, 0, 0, 0) :: (0, 0, 1, 0, 0, 0) :: (50, 9, 0, 3, 91, 3220) :: (26, 29, 13, 0, 0, 0) :: (1, 3, 0, 0, 0, 0) :: (2, 0, 0, 0, 0, 0) :: (2, 7, 0, 0, 1, 0) :: (1, 2, 0, 0, 0, 0) :: (50, 203, 6, 3, 131, 3221) :: (6, 0, 0, 0, 0, 0) :: (3, 3, 0, 0, 0, 0) :: bl_244_29 ∧ bl_244_29 = (5, 6, 1, 0, 0, 0) :: (32, 10, (-37), 0, 0, 0) :: bl_244_31 ∧ bl_244_31 = (1, 3, 0, 0, 0, 0) :: (55, 0, 0, 0, 0, 0) :: [] := by refine ⟨?_, ?_, ?_, ?_, ?_, ?_, ?_, ?_⟩ <;> rfl
theorem cdS_245 : (mz_cd 245).drop 0 = bl_245_0 ∧ (mz_cd 245).drop 10 = bl_245_10 ∧ (mz_cd 245).drop 28 = bl_245_28 ∧ (mz_cd 245).drop 29 = bl_245_29 ∧ (mz_cd 245).drop 37 = bl_245_37 ∧ (mz_cd 245).drop 39 = bl_245_39 ∧ bl_245_0 = (0, 0, 0, 0, 0, 0) :: (3, 2, 0, 0, 0, 0) :: (2, 0, 0, 0, 0, 0) :: (37, 1, 0, 6, 20, 2039) :: (4, 3, 0, 0, 0, 0) :: (2, 3, 0, 0, 0, 0) :: (48, 0, 0, 0, 0, 0) :: (3, 4, 0, 0, 1, 0) :: (0, 0, 0, 0, 0, 0) :: (3, 5, 0, 0, 1, 0) :: bl_245_10 ∧ bl_245_10 = (1, 5, 0, 0, 1, 0) :: (1, 4, 0, 0, 1, 0) :: (23, 39, 57, 0, 0, 0) :: (2, 3, 0, 0, 0, 0) :: (1, 5, 0, 0, 1, 0) :: (46, 0, 0, 0, 0, 0) :: (4, 6, 0, 0, 1, 0) :: (2, 6, 0, 0, 1, 0) :: (1, 1, 0, 0, 0, 0) :: (0, 0, 1, 0, 0, 0) :: (50, 9, 0, 3, 91, 3220) :: (26, 28, 16, 0, 0, 0) :: (2, 0, 0, 0, 0, 0) :: (2, 6, 0, 0, 1, 0) :: (2, 0, 0, 0, 0, 0) :: (36, 3, 0, 6, 48, 2043) :: (50, 203, 6, 3, 131, 3221) :: (32, 29, 4, 0, 0, 0) :: bl_245_28 ∧ bl_245_28 = (0, 0, 0, 0, 0, 0) :: bl_245_29 ∧ bl_245_29 = (3, 7, 0, 0, 1, 0) :: (1, 7, 0, 0, 1, 0) :: (31, 37, 14, 0, 0, 0) :: (2, 0, 0, 0, 0, 0) :: (2, 6, 0, 0, 1, 0) :: (1, 7, 0, 0, 1, 0) :: (50, 204, 6, 3, 138, 3238) :: (5, 2, 1, 0, 0, 0) :: bl_245_37 ∧ bl_245_37 = (5, 5, 1, 0, 0, 0) :: (32, 10, (-58), 0, 0, 0) :: bl_245_39 ∧ bl_245_39 = (1, 2, 0, 0, 0, 0) :: (55, 0, 0, 0, 0, 0) :: [] := by refine ⟨?_, ?_, ?_, ?_, ?_, ?_, ?_, ?_, ?_, ?_, ?_, ?_⟩ <;> rfl
theorem cdS_246 : (mz_cd 246).drop 0 = bl_246_0 ∧ (mz_cd 246).drop 11 = bl_246_11 ∧ (mz_cd 246).drop 13 = bl_246_13 ∧ bl_246_0 = (2, 0, 0, 0, 0, 0) :: (37, 1, 0, 8, 19, 2138) :: (37, 0, 0, 6, 75, 2038) :: (1, 1, 0, 0, 0, 0) :: (50, 15, 4, 2, 95, 3124) :: (26, 11, 14, 0, 0, 0) :: (1, 2, 0, 0, 0, 0) :: (0, 0, 1, 0, 0, 0) :: (0, 2, 600, 0, 0, 0) :: (49, 33, 8, 3, 45, 2160) :: (27, 13, 5, 0, 0, 0) :: bl_246_11 ∧ bl_246_11 = (0, 0, (-1), 0, 0, 0) :: (55, 0, 0, 0, 0, 0) :: bl_246_13 ∧ bl_246_13 = (2, 0, 0, 0, 0, 0) :: (37, 1, 0, 8, 19, 2138) :: (37, 0, 0, 6, 75, 2038) :: (1, 1, 0, 0, 0, 0) :: (50, 72, 4, 2, 287, 5038) :: (2, 0, 0, 0, 0, 0) :: (37, 1, 0, 8, 19, 2138) :: (36, 3, 0, 6, 88, 2045) :: (1, 2, 0, 0, 0, 0) :: (50, 205, 7, 3, 296, 5050) :: (55, 0, 0, 0, 0, 0) :: [] := by refine ⟨?_, ?_, ?_, ?_, ?_, ?_⟩ <;> rfl
theorem cdS_247 : (mz_cd 247).drop 0 = bl_247_0 ∧ (mz_cd 247).drop 11 = bl_247_11 ∧ (mz_cd 247).drop 12 = bl_247_12 ∧ bl_247_0 = (2, 0, 0, 0, 0, 0) :: (37, 1, 0, 8, 19, 2138) :: (37, 0, 0, 6, 75, 2038) :: (1, 1, 0, 0, 0, 0) :: (50, 15, 4, 2, 95, 3124) :: (26, 11, 14, 0, 0, 0) :: (2, 0, 0, 0, 0, 0) :: (37, 1, 0, 8, 19, 2138) :: (1, 1, 0, 0, 0, 0) :: (50, 202, 6, 2, 104, 3128) :: (32, 12, 4, 0, 0, 0) :: bl_247_11 ∧ bl_247_11 = (0, 0, (-1), 0, 0, 0) :: bl_247_12 ∧ bl_247_12 = (55, 0, 0, 0, 0, 0) :: [] := by refine ⟨?_, ?_, ?_, ?_, ?_, ?_⟩ <;> rfl
theorem cdS_248 : (mz_cd 248).drop 0 = bl_248_0 ∧ (mz_cd 248).drop 9 = bl_248_9 ∧ (mz_cd 248).drop 15 = bl_248_15 ∧ (mz_cd 248).drop 22 = bl_248_22 ∧ bl_248_0 = (2, 0, 0, 0, 0, 0) :: (37, 1, 0, 8, 19, 2138) :: (1, 1, 0, 0, 0, 0) :: (50, 22, 6, 2, 91, 3120) :: (4, 2, 0, 0, 0, 0) :: (2, 2, 0, 0, 0, 0) :: (34, 9, 5, 0, 0, 0) :: (0, 0, (-1), 0, 0, 0) :: (55, 0, 0, 0, 0, 0) :: bl_248_9 ∧ bl_248_9 = (2, 2, 0, 0, 0, 0) :: (36, 1, 0, 0, 99, 1223) :: (0, 0, 1, 0, 0, 0) :: (20, 15, 6, 0, 0, 0) :: (0, 1, (-2), 0, 0, 0) :: (55, 0, 0, 0, 0, 0) :: bl_248_15 ∧ bl_248_15 = (2, 0, 0, 0, 0, 0) :: (37, 1, 0, 8, 19, 2138) :: (37, 2, 0, 6, 107, 2042) :: (50, 12, 1, 1, 111, 3151) :: (26, 22, 6, 0, 0, 0) :: (0, 1, (-4), 0, 0, 0) :: (55, 0, 0, 0, 0, 0) :: bl_248_22 ∧ bl_248_22 = (2, 0, 0, 0, 0, 0) :: (37, 1, 0, 8, 19, 2138) :: (2, 2, 0, 0, 0, 0) :: (50, 197, 6, 2, 140, 3198) :: (3, 3, 0, 0, 0, 0) :: (2, 2, 0, 0, 0, 0) :: (0, 0, 0, 0, 0, 0) :: (38, 1, 0, 0, 99, 1223) :: (2, 0, 0, 0, 0, 0) :: (37, 1, 0, 8, 19, 2138) :: (0, 0, 3, 0, 0, 0) :: (2, 2, 0, 0, 0, 0) :: (1, 3, 0, 0, 0, 0) :: (50, 140, 6, 4, 136, 3193) :: (1, 3, 0, 0, 0, 0) :: (55, 0, 0, 0, 0, 0) :: [] := by refine ⟨?_, ?_, ?_, ?_, ?_, ?_, ?_, ?_⟩ <;> rfl
theorem cdS_249 : (mz_cd 249).drop 0 = bl_249_0 ∧ (mz_cd 249).drop 11 = bl_249_11 ∧ (mz_cd 249).drop 13 = bl_249_13 ∧ bl_249_0 = (2, 0, 0, 0, 0, 0) :: (37, 1, 0, 8, 19, 2138) :: (37, 0, 0, 6, 75, 2038) :: (1, 1, 0, 0, 0, 0) :: (50, 15, 4, 2, 95, 3124) :: (26, 11, 14, 0, 0, 0) :: (1, 2, 0, 0, 0, 0) :: (0, 0, 0, 0, 0, 0) :: (0, 2, 9999, 0, 0, 0) :: (49, 33, 8, 3, 45, 2160) :: (27, 13, 5, 0, 0, 0) :: bl_249_11 ∧ bl_249_11 = (0, 0, (-1), 0, 0, 0) :: (55, 0, 0, 0, 0, 0) :: bl_249_13 ∧ bl_249_13 = (2, 0, 0, 0, 0, 0) :: (37, 1, 0, 8, 19, 2138) :: (1, 1, 0, 0, 0, 0) :: (2, 0, 0, 0, 0, 0) :: (37, 1, 0, 8, 19, 2138) :: (36, 3, 0, 6, 88, 2045) :: (1, 2, 0, 0, 0, 0) :: (50, 195, 6, 4, 132, 3175) :: (2, 0, 0, 0, 0, 0) :: (37, 1, 0, 8, 19, 2138) :: (36, 3, 0, 6, 88, 2045) :: (7, 0, 0, 0, 0, 0) :: (55, 0, 0, 0, 0, 0) :: [] := by refine ⟨?_, ?_, ?_, ?_, ?_, ?_⟩ <;> rfl
theorem cdS_250 : (mz_cd 250).drop 0 = bl_250_0 ∧ (mz_cd 250).drop 9 = bl_250_9 ∧ (mz_cd 250).drop 18 = bl_250_18 ∧ (mz_cd 250).drop 19 = bl_250_19 ∧ bl_250_0 = (2, 0, 0, 0, 0, 0) :: (37, 1, 0, 8, 19, 2138) :: (1, 1, 0, 0, 0, 0) :: (50, 22, 6, 2, 91, 3120) :: (4, 2, 0, 0, 0, 0) :: (2, 2, 0, 0, 0, 0) :: (34, 9, 5, 0, 0, 0) :: (0, 0, (-1), 0, 0, 0) :: (55, 0, 0, 0, 0, 0) :: bl_250_9 ∧ bl_250_9 = (2, 2, 0, 0, 0, 0) :: (36, 1, 0, 0, 99, 1223) :: (0, 0, 1, 0, 0, 0) :: (21, 18, 14, 0, 0, 0) :: (2, 0, 0, 0, 0, 0) :: (37, 1, 0, 8, 19, 2138) :: (2, 2, 0, 0, 0, 0) :: (50, 197, 6, 2, 140, 3198) :: (32, 19, 5, 0, 0, 0) :: bl_250_18 ∧ bl_250_18 = (0, 1, (-2), 0, 0, 0) :: bl_250_19 ∧ bl_250_19 = (55, 0, 0, 0, 0, 0) :: [] := by refine ⟨?_, ?_, ?_, ?_, ?_, ?_, ?_, ?_⟩ <;> rfl
theorem cdS_251 : (mz_cd 251).drop 0 = bl_251_0 ∧ (mz_cd 251).drop 13 = bl_251_13 ∧ (mz_cd 251).drop 15 = bl_251_15 ∧ (mz_cd 251).drop 20 = bl_251_20 ∧ (mz_cd 251).drop 27 = bl_251_27 ∧ (mz_cd 251).drop 34 = bl_251_34 ∧ bl_251_0 = (2, 0, 0, 0, 0, 0) :: (37, 1, 0, 8, 19, 2138) :: (1, 1, 0, 0, 0, 0) :: (50, 22, 6, 2, 91, 3120) :: (4, 3, 0, 0, 0, 0) :: (2, 3, 0, 0, 0, 0) :: (33, 13, 17, 0, 0, 0) :: (2, 0, 0, 0, 0, 0) :: (37, 1, 0, 8, 19, 2138) :: (37, 0, 0, 6, 75, 2038) :: (1, 2, 0, 0, 0, 0) :: (50, 15, 4, 2, 95, 3124) :: (27, 15, 5, 0, 0, 0) :: bl_251_13 ∧ bl_251_13 = (0, 0, (-1), 0, 0, 0) :: (55, 0, 0, 0, 0, 0) :: bl_251_15 ∧ bl_251_15 = (2, 3, 0, 0, 0, 0) :: (36, 1, 0, 0, 99, 1223) :: (26, 20, 6, 0, 0, 0) :: (0, 1, (-2), 0, 0, 0) :: (55, 0, 0, 0, 0, 0) :: bl_251_20 ∧ bl_251_20 = (2, 0, 0, 0, 0, 0) :: (37, 1, 0, 8, 19, 2138) :: (1, 2, 0, 0, 0, 0) :: (50, 202, 6, 2, 104, 3128) :: (30, 27, 6, 0, 0, 0) :: (0, 1, (-3), 0, 0, 0) :: (55, 0, 0, 0, 0, 0) :: bl_251_27 ∧ bl_251_27 = (2, 0, 0, 0, 0, 0) :: (37, 1, 0, 8, 19, 2138) :: (37, 2, 0, 6, 107, 2042) :: (50, 12, 1, 1, 111, 3151) :: (26, 34, 6, 0, 0, 0) :: (0, 1, (-4), 0, 0, 0) :: (55, 0, 0, 0, 0, 0) :: bl_251_34 ∧ bl_251_34 = (2, 0, 0, 0, 0, 0) :: (37, 1, 0, 8, 19, 2138) :: (2, 3, 0, 0, 0, 0) :: (1, 2, 0, 0, 0, 0) :: (50, 200, 6, 3, 116, 3155) :: (2, 0, 0, 0, 0, 0) :: (37, 1, 0, 8, 19, 2138) :: (1, 2, 0, 0, 0, 0) :: (50, 202, 6, 2, 104, 3128) :: (55, 0, 0, 0, 0, 0) :: [] := by refine ⟨?_, ?_, ?_, ?_, ?_, ?_, ?_, ?_, ?_, ?_, ?_, ?_⟩ <;> rfl
theorem cdS_252 : (mz_cd 252).drop 0 = bl_252_0 ∧ (mz_cd 252).drop 12 = bl_252_12 ∧ (mz_cd 252).drop 14 = bl_252_14 ∧ (mz_cd 252).drop 20 = bl_252_20 ∧ (mz_cd 252).drop 40 = bl_252_40 ∧ (mz_cd 252).drop 47 = bl_252_47 ∧ bl_252_0 = (2, 0, 0, 0, 0, 0) :: (37, 1, 0, 8, 19, 2138) :: (1, 1, 0, 0, 0, 0) :: (50, 22, 6, 2, 91, 3120) :: (4, 3, 0, 0, 0, 0) :: (2, 3, 0, 0, 0, 0) :: (33, 12, 14, 0, 0, 0) :: (1, 2, 0, 0, 0, 0) :: (0, 0, 1, 0, 0, 0) :: (0, 2, 9999, 0, 0, 0) :: (49, 33, 8, 3, 45, 2160) :: (27, 14, 5, 0, 0, 0) :: bl_252_12 ∧ bl_252_12 = (0, 0, (-1), 0, 0, 0) :: (55, 0, 0, 0, 0, 0) :: bl_252_14 ∧ bl_252_14 = (2, 3, 0, 0, 0, 0) :: (36, 1, 0, 0, 99, 1223) :: (0, 0, 1, 0, 0, 0) :: (20, 20, 6, 0, 0, 0) :: (0, 1, (-2), 0, 0, 0) :: (55, 0, 0, 0, 0, 0) :: bl_252_20 ∧ bl_252_20 = (2, 3, 0, 0, 0, 0) :: (36, 3, 0, 0, 120, 1230) :: (2, 0, 0, 0, 0, 0) :: (37, 1, 0, 8, 19, 2138) :: (36, 3, 0, 6, 88, 2045) :: (75, 0, 0, 0, 123, 3172) :: (3, 4, 0, 0, 1, 0) :: (2, 0, 0, 0, 0, 0) :: (37, 1, 0, 8, 19, 2138) :: (2, 3, 0, 0, 0, 0) :: (36, 2, 0, 0, 129, 1227) :: (1, 4, 0, 0, 1, 0) :: (1, 2, 0, 0, 0, 0) :: (50, 195, 6, 4, 132, 3175) :: (3, 5, 0, 0, 1, 0) :: (1, 5, 0, 0, 1, 0) :: (1, 4, 0, 0, 1, 0) :: (24, 40, 6, 0, 0, 0) :: (0, 1, (-3), 0, 0, 0) :: (55, 0, 0, 0, 0, 0) :: bl_252_40 ∧ bl_252_40 = (2, 0, 0, 0, 0, 0) :: (37, 1, 0, 8, 19, 2138) :: (37, 2, 0, 6, 107, 2042) :: (50, 12, 1, 1, 111, 3151) :: (26, 47, 6, 0, 0, 0) :: (0, 1, (-4), 0, 0, 0) :: (55, 0, 0, 0, 0, 0) :: bl_252_47 ∧ bl_252_47 = (2, 3, 0, 0, 0, 0) :: (1, 5, 0, 0, 1, 0) :: (38, 3, 0, 0, 120, 1230) :: (2, 0, 0, 0, 0, 0) :: (37, 1, 0, 8, 19, 2138) :: (0, 0, 2, 0, 0, 0) :: (2, 3, 0, 0, 0, 0) :: (1, 2, 0, 0, 0, 0) :: (50, 140, 6, 4, 136, 3193) :: (1, 5, 0, 0, 1, 0) :: (55, 0, 0, 0, 0, 0) :: [] := by refine ⟨?_, ?_, ?_, ?_, ?_, ?_, ?_, ?_, ?_, ?_, ?_, ?_⟩ <;> rfl
theorem cdS_253 : (mz_cd 253).drop 0 = bl_253_0 ∧ (mz_cd 253).drop 9 = bl_253_9 ∧ (mz_cd 253).drop 16 = bl_253_16 ∧ bl_253_0 = (2, 0, 0, 0, 0, 0) :: (37, 1, 0, 8, 19, 2138) :: (1, 1, 0, 0, 0, 0) :: (50, 22, 6, 2, 91, 3120) :: (4, 2, 0, 0, 0, 0) :: (2, 2, 0, 0, 0, 0) :: (34, 9, 7, 0, 0, 0) :: (0, 0, (-1), 0, 0, 0) :: (32, 16, 18, 0, 0, 0) :: bl_253_9 ∧ bl_253_9 = (2, 0, 0, 0, 0, 0) :: (37, 1, 0, 8, 19, 2138) :: (2, 2, 0, 0, 0, 0) :: (2, 0, 0, 0, 0, 0) :: (37, 1, 0, 8, 19, 2138) :: (36, 3, 0, 6, 88, 2045) :: (50, 203, 6, 3, 299, 5064) :: bl_253_16 ∧ bl_253_16 = (55, 0, 0, 0, 0, 0) :: [] := by refine ⟨?_, ?_, ?_, ?_, ?_, ?_⟩ <;> rfl
theorem cdS_254 : (mz_cd 254).drop 0 = bl_254_0 ∧ (mz_cd 254).drop 12 = bl_254_12 ∧ (mz_cd 254).drop 14 = bl_254_14 ∧ (mz_cd 254).drop 23 = bl_254_23 ∧ (mz_cd 254).drop 38 = bl_254_38 ∧ (mz_cd 254).drop 40 = bl_254_40 ∧ bl_254_0 = (2, 0, 0, 0, 0, 0) :: (0, 0, 0, 0, 0, 0) :: (38, 4, 0, 9, 59, 6118) :: (2, 0, 0, 0, 0, 0) :: (1, 1, 0, 0, 0, 0) :: (50, 106, 9, 2, 175, 7050) :: (26, 12, 13, 0, 0, 0) :: (1, 2, 0, 0, 0, 0) :: (0, 0, 0, 0, 0, 0) :: (0, 1, 120, 0, 0, 0) :: (49, 40, 9, 3, 70, 6204) :: (27, 14, 5, 0, 0, 0) :: bl_254_12 ∧ bl_254_12 = (0, 0, (-1), 0, 0, 0) :: (55, 0, 0, 0, 0, 0) :: bl_254_14 ∧ bl_254_14 = (0, 0, 0, 0, 0, 0) :: (3, 3, 0, 0, 0, 0) :: (2, 0, 0, 0, 0, 0) :: (1, 1, 0, 0, 0, 0) :: (0, 0, 0, 0, 0, 0) :: (50, 216, 9, 3, 274, 8107) :: (3, 4, 0, 0, 1, 0) :: (0, 0, 1, 0, 0, 0) :: (3, 5, 0, 0, 1, 0) :: bl_254_23 ∧ bl_254_23 = (1, 5, 0, 0, 1, 0) :: (1, 2, 0, 0, 0, 0) :: (24, 40, 32, 0, 0, 0) :: (2, 0, 0, 0, 0, 0) :: (1, 1, 0, 0, 0, 0) :: (1, 5, 0, 0, 1, 0) :: (50, 216, 9, 3, 274, 8107) :: (3, 6, 0, 0, 1, 0) :: (1, 6, 0, 0, 1, 0) :: (1, 4, 0, 0, 1, 0) :: (25, 38, 10, 0, 0, 0) :: (1, 5, 0, 0, 1, 0) :: (3, 3, 0, 0, 0, 0) :: (1, 6, 0, 0, 1, 0) :: (3, 4, 0, 0, 1, 0) :: bl_254_38 ∧ bl_254_38 = (5, 5, 1, 0, 0, 0) :: (32, 23, (-32), 0, 0, 0) :: bl_254_40 ∧ bl_254_40 = (1, 3, 0, 0, 0, 0) :: (55, 0, 0, 0, 0, 0) :: [] := by refine ⟨?_, ?_, ?_, ?_, ?_, ?_, ?_, ?_, ?_, ?_, ?_, ?_⟩ <;> rfl
theorem cdS_255 : (mz_cd 255).drop 0 = bl_255_0 ∧ (mz_cd 255).drop 10 = bl_255_10 ∧ (mz_cd 255).drop 11 = bl_255_11 ∧ (mz_cd 255).drop 14 = bl_255_14 ∧ (mz_cd 255).drop 33 = bl_255_33 ∧ (mz_cd 255).drop 34 = bl_255_34 ∧ (mz_cd 255).drop 37 = bl_255_37 ∧ bl_255_0 = (2, 0, 0, 0, 0, 0) :: (36, 7, 0, 9, 77, 6121) :: (2, 0, 0, 0, 0, 0) :: (36, 8, 0, 9, 84, 6122) :: (7, 0, 0, 0, 0, 0) :: (2, 1, 0, 0, 0, 0) :: (50, 53, 90, 1, 96, 6228) :: (21, 10, 7, 0, 0, 0) :: (0, 0, 1, 0, 0, 0) :: (32, 11, 4, 0, 0, 0) :: bl_255_10 ∧ bl_255_10 = (0, 0, 0, 0, 0, 0) :: bl_255_11 ∧ bl_255_11 = (3, 2, 0, 0, 0, 0) :: (0, 0, 0, 0, 0, 0) :: (3, 3, 0, 0, 0, 0) :: bl_255_14 ∧ bl_255_14 = (1, 2, 0, 0, 0, 0) :: (26, 37, 42, 0, 0, 0) :: (1, 3, 0, 0, 0, 0) :: (2, 1, 0, 0, 0, 0) :: (50, 53, 90, 1, 96, 6228) :: (23, 37, 34, 0, 0, 0) :: (2, 0, 0, 0, 0, 0) :: (37, 5, 0, 9, 23, 6119) :: (2, 0, 0, 0, 0, 0) :: (36, 8, 0, 9, 84, 6122) :: (1, 3, 0, 0, 0, 0) :: (6, 0, 0, 0, 0, 0) :: (44, 0, 0, 0, 0, 0) :: (2, 1, 0, 0, 0, 0) :: (1, 3, 0, 0, 0, 0) :: (50, 186, 90, 2, 100, 6229) :: (21, 33, 7, 0, 0, 0) :: (0, 0, 1, 0, 0, 0) :: (32, 34, 4, 0, 0, 0) :: bl_255_33 ∧ bl_255_33 = (0, 0, 0, 0, 0, 0) :: bl_255_34 ∧ bl_255_34 = (3, 2, 0, 0, 0, 0) :: (5, 3, 1, 0, 0, 0) :: (32, 14, (-40), 0, 0, 0) :: bl_255_37 ∧ bl_255_37 = (1, 2, 0, 0, 0, 0) :: (55, 1, 0, 0, 0, 0) :: [] := by refine ⟨?_, ?_, ?_, ?_, ?_, ?_, ?_, ?_, ?_, ?_, ?_, ?_, ?_, ?_⟩ <;> rfl
theorem cdS_256 : (mz_cd 256).drop 0 = bl_256_0 ∧ (mz_cd 256).drop 12 = bl_256_12 ∧ (mz_cd 256).drop 14 = bl_256_14 ∧ (mz_cd 256).drop 16 = bl_256_16 ∧ (mz_cd 256).drop 31 = bl_256_31 ∧ (mz_cd 256).drop 42 = bl_256_42 ∧ (mz_cd 256).drop 56 = bl_256_56 ∧ (mz_cd 256).drop 69 = bl_256_69 ∧ (mz_cd 256).drop 100 = bl_256_100 ∧ (mz_cd 256).drop 102 = bl_256_102 ∧ (mz_cd 256).drop 117 = bl_256_117 ∧ (mz_cd 256).drop 126 = bl_256_126 ∧ (mz_cd 256).drop 128 = bl_256_128 ∧ bl_256_0 = (2, 0, 0, 0, 0, 0) :: (0, 0, 0, 0, 0, 0) :: (38, 4, 0, 9, 59, 6118) :: (2, 0, 0, 0, 0, 0) :: (1, 1, 0, 0, 0, 0) :: (50, 106, 9, 2, 175, 7050) :: (26, 12, 14, 0, 0, 0) :: (1, 2, 0, 0, 0, 0) :: (0, 0, 0, 0, 0, 0) :: (0, 2, 600, 0, 0, 0) :: (49, 40, 9, 3, 70, 6204) :: (27, 14, 5, 0, 0, 0) :: bl_256_12 ∧ bl_256_12 = (0, 0, 0, 0, 0, 0) :: (55, 1, 0, 0, 0, 0) :: bl_256_14 ∧ bl_256_14 = (0, 0, 0, 0, 0, 0) :: (3, 3, 0, 0, 0, 0) :: bl_256_16 ∧ bl_256_16 = (1, 3, 0, 0, 0, 0) :: (2, 0, 0, 0, 0, 0) :: (37, 0, 0, 9, 9, 6114) :: (0, 0, 0, 0, 0, 0) :: (40, 0, 0, 0, 0, 0) :: (23, 31, 20, 0, 0, 0) :: (2, 0, 0, 0, 0, 0) :: (37, 23, 0, 9, 48, 6137) :: (1, 3, 0, 0, 0, 0) :: (2, 0, 0, 0, 0, 0) :: (1, 3, 0, 0, 0, 0) :: (50, 232, 9, 2, 284, 8159) :: (41, 0, 0, 0, 0, 0) :: (5, 3, 1, 0, 0, 0) :: (32, 16, (-24), 0, 0, 0) :: bl_256_31 ∧ bl_256_31 = (2, 0, 0, 0, 0, 0) :: (0, 0, 0, 0, 0, 0) :: (38, 24, 0, 9, 287, 6138) :: (2, 0, 0, 0, 0, 0) :: (0, 0, 0, 0, 0, 0) :: (38, 25, 0, 9, 290, 6139) :: (2, 0, 0, 0, 0, 0) :: (0, 0, 0, 0, 0, 0) :: (38, 26, 0, 9, 293, 6140) :: (0, 0, 1, 0, 0, 0) :: (3, 3, 0, 0, 0, 0) :: bl_256_42 ∧ bl_256_42 = (1, 3, 0, 0, 0, 0) :: (0, 0, 1, 0, 0, 0) :: (2, 0, 0, 0, 0, 0) :: (37, 0, 0, 9, 9, 6114) :: (0, 0, 0, 0, 0, 0) :: (40, 0, 0, 0, 0, 0) :: (14, 0, 0, 0, 0, 0) :: (23, 128, 149, 0, 0, 0) :: (0, 3, 1000000, 0, 63, 6109) :: (3, 4, 0, 0, 1, 0) :: (0, 0, 0, 0, 0, 0) :: (3, 5, 0, 0, 1, 0) :: (0, 0, 0, 0, 0, 0) :: (3, 6, 0, 0, 1, 0) :: bl_256_56 ∧ bl_256_56 = (1, 6, 0, 0, 1, 0) :: (2, 0, 0, 0, 0, 0) :: (37, 0, 0, 9, 9, 6114) :: (0, 0, 0, 0, 0, 0) :: (40, 0, 0, 0, 0, 0) :: (23, 102, 72, 0, 0, 0) :: (1, 3, 0, 0, 0, 0) :: (1, 6, 0, 0, 1, 0) :: (15, 0, 0, 0, 0, 0) :: (0, 0, 1, 0, 0, 0) :: (11, 0, 0, 0, 0, 0) :: (27, 69, 6, 0, 0, 0) :: (32, 100, 54, 0, 0, 0) :: bl_256_69 ∧ bl_256_69 = (2, 0, 0, 0, 0, 0) :: (37, 22, 0, 9, 45, 6136) :: (0, 1, 10, 0, 0, 0) :: (1, 3, 0, 0, 0, 0) :: (8, 0, 0, 0, 0, 0) :: (1, 6, 0, 0, 1, 0) :: (6, 0, 0, 0, 0, 0) :: (2, 0, 0, 0, 0, 0) :: (1, 1, 0, 0, 0, 0) :: (1, 3, 0, 0, 0, 0) :: (1, 6, 0, 0, 1, 0) :: (50, 102, 9, 4, 296, 8163) :: (41, 0, 0, 0, 0, 0) :: (1, 4, 0, 0, 1, 0) :: (2, 0, 0, 0, 0, 0) :: (37, 22, 0, 9, 45, 6136) :: (0, 1, 10, 0, 0, 0) :: (1, 3, 0, 0, 0, 0) :: (8, 0, 0, 0, 0, 0) :: (1, 6, 0, 0, 1, 0) :: (6, 0, 0, 0, 0, 0) :: (40, 0, 0, 0, 0, 0) :: (76, 0, 0, 0, 64, 6113) :: (3, 4, 0, 0, 1, 0) :: (1, 5, 0, 0, 1, 0) :: (2, 0, 0, 0, 0, 0) :: (37, 23, 0, 9, 48, 6137) :: (1, 6, 0, 0, 1, 0) :: (40, 0, 0, 0, 0, 0) :: (6, 0, 0, 0, 0, 0) :: (3, 5, 0, 0, 1, 0) :: bl_256_100 ∧ bl_256_100 = (5, 6, 1, 0, 0, 0) :: (32, 56, (-77), 0, 0, 0) :: bl_256_102 ∧ bl_256_102 = (1, 4, 0, 0, 1, 0) :: (1, 2, 0, 0, 0, 0) :: (24, 126, 47, 0, 0, 0) :: (1, 5, 0, 0, 1, 0) :: (2, 0, 0, 0, 0, 0) :: (36, 25, 0, 9, 290, 6139) :: (24, 117, 21, 0, 0, 0) :: (1, 5, 0, 0, 1, 0) :: (2, 0, 0, 0, 0, 0) :: (36, 25, 0, 9, 290, 6139) :: (21, 126, 29, 0, 0, 0) :: (1, 4, 0, 0, 1, 0) :: (2, 0, 0, 0, 0, 0) :: (36, 26, 0, 9, 293, 6140) :: (23, 126, 20, 0, 0, 0) :: bl_256_117 ∧ bl_256_117 = (2, 0, 0, 0, 0, 0) :: (1, 3, 0, 0, 0, 0) :: (38, 24, 0, 9, 287, 6138) :: (2, 0, 0, 0, 0, 0) :: (1, 5, 0, 0, 1, 0) :: (38, 25, 0, 9, 290, 6139) :: (2, 0, 0, 0, 0, 0) :: (1, 4, 0, 0, 1, 0) :: (38, 26, 0, 9, 293, 6140) :: bl_256_126 ∧ bl_256_126 = (5, 3, 1, 0, 0, 0) :: (32, 42, (-155), 0, 0, 0) :: bl_256_128 ∧ bl_256_128 = (0, 0, 1, 0, 0, 0) :: (55, 1, 0, 0, 0, 0) :: [] := by refine ⟨?_, ?_, ?_, ?_, ?_, ?_, ?_, ?_, ?_, ?_, ?_, ?_, ?_, ?_, ?_, ?_, ?_, ?_, ?_, ?_, ?_, ?_, ?_, ?_, ?_, ?_⟩ <;> rfl
theorem cdS_257 : (mz_cd 257).drop 0 = bl_257_0 ∧ (mz_cd 257).drop 7 = bl_257_7 ∧ (mz_cd 257).drop 23 = bl_257_23 ∧ (mz_cd 257).drop 24 = bl_257_24 ∧ (mz_cd 257).drop 28 = bl_257_28 ∧ (mz_cd 257).drop 36 = bl_257_36 ∧ (mz_cd 257).drop 61 = bl_257_61 ∧ (mz_cd 257).drop 65 = bl_257_65 ∧ (mz_cd 257).drop 66 = bl_257_66 ∧ bl_257_0 = (2, 0, 0, 0, 0, 0) :: (50, 224, 9, 1, 111, 7011) :: (3, 1, 0, 0, 0, 0) :: (0, 0, 0, 0, 0, 0) :: (3, 2, 0, 0, 0, 0) :: (0, 0, 0, 0, 0, 0) :: (3, 3, 0, 0, 0, 0) :: bl_257_7 ∧ bl_257_7 = (1, 3, 0, 0, 0, 0) :: (0, 1, 10, 0, 0, 0) :: (23, 28, 35, 0, 0, 0) :: (1, 2, 0, 0, 0, 0) :: (1, 3, 0, 0, 0, 0) :: (1, 1, 0, 0, 0, 0) :: (20, 23, 20, 0, 0, 0) :: (2, 0, 0, 0, 0, 0) :: (37, 1, 0, 9, 13, 6115) :: (0, 2, 223, 0, 0, 0) :: (1, 3, 0, 0, 0, 0) :: (6, 0, 0, 0, 0, 0) :: (40, 0, 0, 0, 0, 0) :: (31, 23, 7, 0, 0, 0) :: (0, 0, 1, 0, 0, 0) :: (32, 24, 4, 0, 0, 0) :: bl_257_23 ∧ bl_257_23 = (0, 0, 0, 0, 0, 0) :: bl_257_24 ∧ bl_257_24 = (6, 0, 0, 0, 0, 0) :: (3, 2, 0, 0, 0, 0) :: (5, 3, 1, 0, 0, 0) :: (32, 7, (-35), 0, 0, 0) :: bl_257_28 ∧ bl_257_28 = (1, 2, 0, 0, 0, 0) :: (0, 0, 2, 0, 0, 0) :: (21, 36, 12, 0, 0, 0) :: (2, 0, 0, 0, 0, 0) :: (0, 0, 3, 0, 0, 0) :: (2, 0, 0, 0, 0, 0) :: (36, 8, 0, 9, 84, 6122) :: (50, 38, 9, 3, 104, 6230) :: bl_257_36 ∧ bl_257_36 = (2, 0, 0, 0, 0, 0) :: (0, 0, 1, 0, 0, 0) :: (0, 1, 6, 0, 0, 0) :: (50, 169, 9, 3, 108, 6234) :: (3, 3, 0, 0, 0, 0) :: (2, 0, 0, 0, 0, 0) :: (36, 9, 0, 9, 87, 6123) :: (27, 66, 39, 0, 0, 0) :: (2, 0, 0, 0, 0, 0) :: (37, 1, 0, 9, 13, 6115) :: (0, 2, 223, 0, 0, 0) :: (1, 1, 0, 0, 0, 0) :: (6, 0, 0, 0, 0, 0) :: (1, 3, 0, 0, 0, 0) :: (41, 0, 0, 0, 0, 0) :: (2, 0, 0, 0, 0, 0) :: (37, 1, 0, 9, 13, 6115) :: (0, 0, 1, 0, 0, 0) :: (2, 0, 0, 0, 0, 0) :: (37, 1, 0, 9, 13, 6115) :: (0, 0, 1, 0, 0, 0) :: (40, 0, 0, 0, 0, 0) :: (29, 61, 7, 0, 0, 0) :: (1, 1, 0, 0, 0, 0) :: (32, 65, 9, 0, 0, 0) :: bl_257_61 ∧ bl_257_61 = (2, 0, 0, 0, 0, 0) :: (37, 1, 0, 9, 13, 6115) :: (0, 0, 1, 0, 0, 0) :: (40, 0, 0, 0, 0, 0) :: bl_257_65 ∧ bl_257_65 = (41, 0, 0, 0, 0, 0) :: bl_257_66 ∧ bl_257_66 = (57, 0, 0, 0, 0, 0) :: [] := by refine ⟨?_, ?_, ?_, ?_, ?_, ?_, ?_, ?_, ?_, ?_, ?_, ?_, ?_, ?_, ?_, ?_, ?_, ?_⟩ <;> rfl
theorem cdS_258 : (mz_cd 258).drop 0 = bl_258_0 ∧ (mz_cd 258).drop 14 = bl_258_14 ∧ (mz_cd 258).drop 57 = bl_258_57 ∧ bl_258_0 = (2, 0, 0, 0, 0, 0) :: (50, 224, 9, 1, 111, 7011) :: (3, 1, 0, 0, 0, 0) :: (2, 0, 0, 0, 0, 0) :: (50, 224, 9, 1, 111, 7011) :: (3, 2, 0, 0, 0, 0) :: (1, 1, 0, 0, 0, 0) :: (1, 2, 0, 0, 0, 0) :: (21, 14, 12, 0, 0, 0) :: (2, 0, 0, 0, 0, 0) :: (0, 0, 3, 0, 0, 0) :: (2, 0, 0, 0, 0, 0) :: (36, 8, 0, 9, 84, 6122) :: (50, 38, 9, 3, 104, 6230) :: bl_258_14 ∧ bl_258_14 = (2, 0, 0, 0, 0, 0) :: (0, 0, 1, 0, 0, 0) :: (0, 1, 99, 0, 0, 0) :: (50, 169, 9, 3, 108, 6234) :: (3, 3, 0, 0, 0, 0) :: (2, 0, 0, 0, 0, 0) :: (36, 9, 0, 9, 87, 6123) :: (27, 57, 52, 0, 0, 0) :: (2, 0, 0, 0, 0, 0) :: (37, 1, 0, 9, 13, 6115) :: (0, 0, 3, 0, 0, 0) :: (0, 1, 10, 0, 0, 0) :: (1, 1, 0, 0, 0, 0) :: (8, 0, 0, 0, 0, 0) :: (6, 0, 0, 0, 0, 0) :: (1, 2, 0, 0, 0, 0) :: (6, 0, 0, 0, 0, 0) :: (40, 0, 0, 0, 0, 0) :: (1, 3, 0, 0, 0, 0) :: (76, 0, 0, 0, 64, 6113) :: (3, 4, 0, 0, 1, 0) :: (2, 0, 0, 0, 0, 0) :: (37, 1, 0, 9, 13, 6115) :: (0, 0, 3, 0, 0, 0) :: (0, 1, 10, 0, 0, 0) :: (1, 1, 0, 0, 0, 0) :: (8, 0, 0, 0, 0, 0) :: (6, 0, 0, 0, 0, 0) :: (1, 2, 0, 0, 0, 0) :: (6, 0, 0, 0, 0, 0) :: (1, 4, 0, 0, 1, 0) :: (41, 0, 0, 0, 0, 0) :: (2, 0, 0, 0, 0, 0) :: (37, 1, 0, 9, 13, 6115) :: (0, 0, 3, 0, 0, 0) :: (0, 1, 10, 0, 0, 0) :: (1, 2, 0, 0, 0, 0) :: (8, 0, 0, 0, 0, 0) :: (6, 0, 0, 0, 0, 0) :: (1, 1, 0, 0, 0, 0) :: (6, 0, 0, 0, 0, 0) :: (1, 4, 0, 0, 1, 0) :: (41, 0, 0, 0, 0, 0) :: bl_258_57 ∧ bl_258_57 = (57, 0, 0, 0, 0, 0) :: [] := by refine ⟨?_, ?_, ?_, ?_, ?_, ?_⟩ <;> rfl
theorem cdS_259 : (mz_cd 259).drop 0 = bl_259_0 ∧ (mz_cd 259).drop 12 = bl_259_12 ∧ (mz_cd 259).drop 14 = bl_259_14 ∧ (mz_cd 259).drop 24 = bl_259_24 ∧ (mz_cd 259).drop 25 = bl_259_25 ∧ bl_259_0 = (2, 0, 0, 0, 0, 0) :: (0, 0, 0, 0, 0, 0) :: (38, 4, 0, 9, 59, 6118) :: (2, 0, 0, 0, 0, 0) :: (1, 1, 0, 0, 0, 0) :: (50, 106, 9, 2, 175, 7050) :: (26, 12, 14, 0, 0, 0) :: (1, 2, 0, 0, 0, 0) :: (0, 0, 0, 0, 0, 0) :: (0, 2, 600, 0, 0, 0) :: (49, 40, 9, 3, 70, 6204) :: (27, 14, 5, 0, 0, 0) :: bl_259_12 ∧ bl_259_12 = (0, 0, (-1), 0, 0, 0) :: (55, 0, 0, 0, 0, 0) :: bl_259_14 ∧ bl_259_14 = (2, 0, 0, 0, 0, 0) :: (1, 1, 0, 0, 0, 0) :: (1, 2, 0, 0, 0, 0) :: (50, 216, 9, 3, 274, 8107) :: (3, 3, 0, 0, 0, 0) :: (1, 3, 0, 0, 0, 0) :: (31, 24, 10, 0, 0, 0) :: (2, 0, 0, 0, 0, 0) :: (36, 21, 0, 9, 271, 6135) :: (32, 25, 4, 0, 0, 0) :: bl_259_24 ∧ bl_259_24 = (0, 0, 0, 0, 0, 0) :: bl_259_25 ∧ bl_259_25 = (55, 0, 0, 0, 0, 0) :: [] := by refine ⟨?_, ?_, ?_, ?_, ?_, ?_, ?_, ?_, ?_, ?_⟩ <;> rfl
theorem cdS_260 : (mz_cd 260).drop 0 = bl_260_0 ∧ (mz_cd 260).drop 12 = bl_260_12 ∧ (mz_cd 260).drop 20 = bl_260_20 ∧ (mz_cd 260).drop 41 = bl_260_41 ∧ (mz_cd 260).drop 43 = bl_260_43 ∧ (mz_cd 260).drop 54 = bl_260_54 ∧ (mz_cd 260).drop 93 = bl_260_93 ∧ (mz_cd 260).drop 133 = bl_260_133 ∧ (mz_cd 260).drop 135 = bl_260_135 ∧ (mz_cd 260).drop 137 = bl_260_137 ∧ bl_260_0 = (1, 1, 0, 0, 0, 0) :: (2, 0, 0, 0, 0, 0) :: (36, 19, 0, 9, 240, 6133) :: (24, 12, 20, 0, 0, 0) :: (1, 1, 0, 0, 0, 0) :: (2, 0, 0, 0, 0, 0) :: (36, 19, 0, 9, 240, 6133) :: (21, 41, 66, 0, 0, 0) :: (1, 4, 0, 0, 1, 0) :: (2, 0, 0, 0, 0, 0) :: (36, 20, 0, 9, 243, 6134) :: (23, 41, 57, 0, 0, 0) :: bl_260_12 ∧ bl_260_12 = (2, 0, 0, 0, 0, 0) :: (1, 1, 0, 0, 0, 0) :: (38, 19, 0, 9, 240, 6133) :: (2, 0, 0, 0, 0, 0) :: (1, 4, 0, 0, 1, 0) :: (38, 20, 0, 9, 243, 6134) :: (0, 0, 0, 0, 0, 0) :: (3, 5, 0, 0, 1, 0) :: bl_260_20 ∧ bl_260_20 = (1, 5, 0, 0, 1, 0) :: (1, 1, 0, 0, 0, 0) :: (23, 41, 37, 0, 0, 0) :: (2, 0, 0, 0, 0, 0) :: (37, 15, 0, 9, 36, 6129) :: (1, 5, 0, 0, 1, 0) :: (2, 0, 0, 0, 0, 0) :: (37, 13, 0, 9, 30, 6127) :: (1, 5, 0, 0, 1, 0) :: (40, 0, 0, 0, 0, 0) :: (41, 0, 0, 0, 0, 0) :: (2, 0, 0, 0, 0, 0) :: (37, 16, 0, 9, 39, 6130) :: (1, 5, 0, 0, 1, 0) :: (2, 0, 0, 0, 0, 0) :: (37, 14, 0, 9, 33, 6128) :: (1, 5, 0, 0, 1, 0) :: (40, 0, 0, 0, 0, 0) :: (41, 0, 0, 0, 0, 0) :: (5, 5, 1, 0, 0, 0) :: (32, 20, (-37), 0, 0, 0) :: bl_260_41 ∧ bl_260_41 = (0, 0, 0, 0, 0, 0) :: (3, 5, 0, 0, 1, 0) :: bl_260_43 ∧ bl_260_43 = (1, 5, 0, 0, 1, 0) :: (2, 0, 0, 0, 0, 0) :: (36, 18, 0, 9, 231, 6132) :: (23, 137, 156, 0, 0, 0) :: (2, 0, 0, 0, 0, 0) :: (37, 12, 0, 9, 27, 6126) :: (1, 5, 0, 0, 1, 0) :: (40, 0, 0, 0, 0, 0) :: (3, 6, 0, 0, 1, 0) :: (0, 0, 0, 0, 0, 0) :: (3, 7, 0, 0, 1, 0) :: bl_260_54 ∧ bl_260_54 = (1, 7, 0, 0, 1, 0) :: (2, 0, 0, 0, 0, 0) :: (37, 0, 0, 9, 9, 6114) :: (0, 0, 0, 0, 0, 0) :: (40, 0, 0, 0, 0, 0) :: (23, 135, 127, 0, 0, 0) :: (1, 3, 0, 0, 0, 0) :: (1, 5, 0, 0, 1, 0) :: (15, 0, 0, 0, 0, 0) :: (0, 0, 1, 0, 0, 0) :: (11, 0, 0, 0, 0, 0) :: (27, 135, 118, 0, 0, 0) :: (2, 0, 0, 0, 0, 0) :: (1, 2, 0, 0, 0, 0) :: (2, 0, 0, 0, 0, 0) :: (1, 6, 0, 0, 1, 0) :: (0, 0, 1, 0, 0, 0) :: (50, 46, 9, 3, 161, 7054) :: (50, 51, 9, 3, 249, 7168) :: (0, 1, 10, 0, 0, 0) :: (6, 0, 0, 0, 0, 0) :: (2, 0, 0, 0, 0, 0) :: (2, 0, 0, 0, 0, 0) :: (1, 6, 0, 0, 1, 0) :: (0, 0, 1, 0, 0, 0) :: (50, 46, 9, 3, 161, 7054) :: (1, 7, 0, 0, 1, 0) :: (50, 51, 9, 3, 249, 7168) :: (6, 0, 0, 0, 0, 0) :: (3, 8, 0, 0, 1, 0) :: (2, 0, 0, 0, 0, 0) :: (37, 17, 0, 9, 42, 6131) :: (1, 7, 0, 0, 1, 0) :: (40, 0, 0, 0, 0, 0) :: (26, 133, 71, 0, 0, 0) :: (1, 8, 0, 0, 1, 0) :: (0, 3, 1000000, 0, 63, 6109) :: (22, 93, 6, 0, 0, 0) :: (32, 133, 61, 0, 0, 0) :: bl_260_93 ∧ bl_260_93 = (2, 0, 0, 0, 0, 0) :: (37, 17, 0, 9, 42, 6131) :: (1, 7, 0, 0, 1, 0) :: (69, 0, 0, 0, 0, 0) :: (40, 0, 0, 0, 0, 0) :: (0, 0, 1, 0, 0, 0) :: (7, 0, 0, 0, 0, 0) :: (41, 0, 0, 0, 0, 0) :: (2, 0, 0, 0, 0, 0) :: (37, 13, 0, 9, 30, 6127) :: (1, 1, 0, 0, 0, 0) :: (1, 6, 0, 0, 1, 0) :: (41, 0, 0, 0, 0, 0) :: (2, 0, 0, 0, 0, 0) :: (37, 14, 0, 9, 33, 6128) :: (1, 1, 0, 0, 0, 0) :: (1, 7, 0, 0, 1, 0) :: (41, 0, 0, 0, 0, 0) :: (2, 0, 0, 0, 0, 0) :: (1, 1, 0, 0, 0, 0) :: (0, 0, 1, 0, 0, 0) :: (6, 0, 0, 0, 0, 0) :: (1, 7, 0, 0, 1, 0) :: (1, 3, 0, 0, 0, 0) :: (0, 0, 1, 0, 0, 0) :: (1, 5, 0, 0, 1, 0) :: (14, 0, 0, 0, 0, 0) :: (12, 0, 0, 0, 0, 0) :: (1, 4, 0, 0, 1, 0) :: (1, 8, 0, 0, 1, 0) :: (6, 0, 0, 0, 0, 0) :: (50, 231, 9, 5, 246, 7164) :: (2, 0, 0, 0, 0, 0) :: (37, 17, 0, 9, 42, 6131) :: (1, 7, 0, 0, 1, 0) :: (69, 0, 0, 0, 0, 0) :: (40, 0, 0, 0, 0, 0) :: (0, 0, 1, 0, 0, 0) :: (6, 0, 0, 0, 0, 0) :: (41, 0, 0, 0, 0, 0) :: bl_260_133 ∧ bl_260_133 = (5, 7, 1, 0, 0, 0) :: (32, 54, (-132), 0, 0, 0) :: bl_260_135 ∧ bl_260_135 = (5, 5, 1, 0, 0, 0) :: (32, 43, (-159), 0, 0, 0) :: bl_260_137 ∧ bl_260_137 = (57, 0, 0, 0, 0, 0) :: [] := by refine ⟨?_, ?_, ?_, ?_, ?_, ?_, ?_, ?_, ?_, ?_, ?_, ?_, ?_, ?_, ?_, ?_, ?_, ?_, ?_, ?_⟩ <;> rfl
theorem cdS_261 : (mz_cd 261).drop 0 = bl_261_0 ∧ (mz_cd 261).drop 4 = bl_261_4 ∧ (mz_cd 261).drop 28 = bl_261_28 ∧ (mz_cd 261).drop 30 = bl_261_30 ∧ bl_261_0 = (0, 0, 0, 0, 0, 0) :: (3, 2, 0, 0, 0, 0) :: (0, 0, 0, 0, 0, 0) :: (3, 3, 0, 0, 0, 0) :: bl_261_4 ∧ bl_261_4 = (1, 3, 0, 0, 0, 0) :: (2, 1, 0, 0, 0, 0) :: (37, 0, 0, 6, 35, 2037) :: (36, 0, 0, 4, 41, 1101) :: (23, 30, 41, 0, 0, 0) :: (2, 1, 0, 0, 0, 0) :: (1, 3, 0, 0, 0, 0) :: (2, 1, 0, 0, 0, 0) :: (36, 3, 0, 6, 50, 2044) :: (50, 244, 6, 3, 53, 5134) :: (3, 4, 0, 0, 1, 0) :: (2, 0, 0, 0, 0, 0) :: (37, 0, 0, 2, 9, 2115) :: (1, 3, 0, 0, 0, 0) :: (1, 4, 0, 0, 1, 0) :: (52, 31, 8, 3, 57, 22) :: (1, 4, 0, 0, 1, 0) :: (31, 28, 9, 0, 0, 0) :: (1, 2, 0, 0, 0, 0) :: (0, 0, 1, 0, 0, 0) :: (1, 3, 0, 0, 0, 0) :: (14, 0, 0, 0, 0, 0) :: (12, 0, 0, 0, 0, 0) :: (3, 2, 0, 0, 0, 0) :: bl_261_28 ∧ bl_261_28 = (5, 3, 1, 0, 0, 0) :: (32, 4, (-46), 0, 0, 0) :: bl_261_30 ∧ bl_261_30 = (1, 2, 0, 0, 0, 0) :: (55, 0, 0, 0, 0, 0) :: [] := by refine ⟨?_, ?_, ?_, ?_, ?_, ?_, ?_, ?_⟩ <;> rfl
theorem cdS_262 : (mz_cd 262).drop 0 = bl_262_0 ∧ bl_262_0 = (2, 0, 0, 0, 0, 0) :: (2, 1, 0, 0, 0, 0) :: (50, 131, 3, 2, 39, 4047) :: (2, 0, 0, 0, 0, 0) :: (2, 1, 0, 0, 0, 0) :: (50, 132, 3, 2, 43, 4067) :: (2, 0, 0, 0, 0, 0) :: (2, 1, 0, 0, 0, 0) :: (37, 0, 0, 6, 46, 2036) :: (50, 133, 3, 2, 52, 4076) :: (2, 0, 0, 0, 0, 0) :: (50, 189, 3, 1, 56, 4085) :: (2, 0, 0, 0, 0, 0) :: (2, 1, 0, 0, 0, 0) :: (36, 4, 0, 6, 59, 2047) :: (50, 233, 3, 2, 63, 4104) :: (57, 0, 0, 0, 0, 0) :: [] := by refine ⟨?_, ?_⟩ <;> rfl
theorem cdS_263 : (mz_cd 263).drop 0 = bl_263_0 ∧ bl_263_0 = (2, 0, 0, 0, 0, 0) :: (63, 0, 0, 0, 3, 1038) :: (2, 0, 0, 0, 0, 0) :: (58, 4, 0, 0, 9, 1039) :: (18, 0, 0, 0, 0, 0) :: (51, 234, 4, 1, 11, 1041) :: (39, 0, 0, 5, 12, 1140) :: (2, 0, 0, 0, 0, 0) :: (0, 2, 600, 0, 0, 0) :: (59, 0, 0, 0, 0, 0) :: (39, 1, 0, 5, 18, 1142) :: (57, 0, 0, 0, 0, 0) :: [] := by refine ⟨?_, ?_⟩ <;> rfl
theorem cdS_264 : (mz_cd 264).drop 0 = bl_264_0 ∧ (mz_cd 264).drop 6 = bl_264_6 ∧ (mz_cd 264).drop 24 = bl_264_24 ∧ (mz_cd 264).drop 26 = bl_264_26 ∧ (mz_cd 264).drop 36 = bl_264_36 ∧ (mz_cd 264).drop 38 = bl_264_38 ∧ bl_264_0 = (2, 0, 0, 0, 0, 0) :: (50, 75, 5, 1, 45, 2189) :: (2, 0, 0, 0, 0, 0) :: (2, 0, 0, 0, 0, 0) :: (36, 3, 0, 5, 33, 1144) :: (38, 5, 0, 5, 61, 1146) :: bl_264_6 ∧ bl_264_6 = (2, 0, 0, 0, 0, 0) :: (36, 3, 0, 5, 33, 1144) :: (2, 0, 0, 0, 0, 0) :: (36, 2, 0, 5, 22, 1143) :: (23, 24, 30, 0, 0, 0) :: (2, 0, 0, 0, 0, 0) :: (50, 20, 5, 1, 75, 2193) :: (0, 1, 97, 0, 0, 0) :: (0, 1, 122, 0, 0, 0) :: (52, 33, 8, 3, 143, 9) :: (26, 24, 16, 0, 0, 0) :: (2, 0, 0, 0, 0, 0) :: (18, 0, 0, 0, 0, 0) :: (36, 3, 0, 5, 33, 1144) :: (0, 0, 1, 0, 0, 0) :: (6, 0, 0, 0, 0, 0) :: (38, 3, 0, 5, 33, 1144) :: (32, 6, (-35), 0, 0, 0) :: bl_264_24 ∧ bl_264_24 = (0, 0, 1, 0, 0, 0) :: (3, 1, 0, 0, 0, 0) :: bl_264_26 ∧ bl_264_26 = (1, 1, 0, 0, 0, 0) :: (0, 1, 7, 0, 0, 0) :: (24, 38, 22, 0, 0, 0) :: (2, 0, 0, 0, 0, 0) :: (1, 1, 0, 0, 0, 0) :: (49, 21, 5, 1, 147, 2198) :: (50, 235, 5, 2, 151, 2208) :: (26, 36, 5, 0, 0, 0) :: (1, 1, 0, 0, 0, 0) :: (55, 0, 0, 0, 0, 0) :: bl_264_36 ∧ bl_264_36 = (5, 1, 1, 0, 0, 0) :: (32, 26, (-22), 0, 0, 0) :: bl_264_38 ∧ bl_264_38 = (0, 0, 0, 0, 0, 0) :: (55, 0, 0, 0, 0, 0) :: [] := by refine ⟨?_, ?_, ?_, ?_, ?_, ?_, ?_, ?_, ?_, ?_, ?_, ?_⟩ <;> rfl
theorem cdS_265 : (mz_cd 265).drop 0 = bl_265_0 ∧ (mz_cd 265).drop 6 = bl_265_6 ∧ (mz_cd 265).drop 24 = bl_265_24 ∧ (mz_cd 265).drop 26 = bl_265_26 ∧ bl_265_0 = (0, 0, 0, 0, 0, 0) :: (3, 3, 0, 0, 0, 0) :: (0, 0, 0, 0, 0, 0) :: (3, 4, 0, 0, 1, 0) :: (0, 0, 0, 0, 0, 0) :: (3, 5, 0, 0, 1, 0) :: bl_265_6 ∧ bl_265_6 = (1, 5, 0, 0, 1, 0) :: (1, 2, 0, 0, 0, 0) :: (24, 26, 37, 0, 0, 0) :: (2, 0, 0, 0, 0, 0) :: (1, 1, 0, 0, 0, 0) :: (2, 0, 0, 0, 0, 0) :: (36, 3, 0, 6, 48, 2043) :: (1, 5, 0, 0, 1, 0) :: (6, 0, 0, 0, 0, 0) :: (50, 244, 6, 3, 135, 5081) :: (3, 6, 0, 0, 1, 0) :: (1, 6, 0, 0, 1, 0) :: (1, 4, 0, 0, 1, 0) :: (25, 24, 10, 0, 0, 0) :: (1, 6, 0, 0, 1, 0) :: (3, 4, 0, 0, 1, 0) :: (1, 5, 0, 0, 1, 0) :: (3, 3, 0, 0, 0, 0) :: bl_265_24 ∧ bl_265_24 = (5, 5, 1, 0, 0, 0) :: (32, 6, (-37), 0, 0, 0) :: bl_265_26 ∧ bl_265_26 = (1, 3, 0, 0, 0, 0) :: (55, 0, 0, 0, 0, 0) :: [] := by refine ⟨?_, ?_, ?_, ?_, ?_, ?_, ?_, ?_⟩ <;> rfl
theorem cdS_266 : (mz_cd 266).drop 0 = bl_266_0 ∧ (mz_cd 266).drop 21 = bl_266_21 ∧ (mz_cd 266).drop 36 = bl_266_36 ∧ bl_266_0 = (2, 0, 0, 0, 0, 0) :: (63, 0, 0, 0, 3, 1173) :: (2, 0, 0, 0, 0, 0) :: (58, 4, 0, 0, 9, 1174) :: (18, 0, 0, 0, 0, 0) :: (51, 234, 4, 1, 11, 1175) :: (39, 0, 0, 6, 12, 2035) :: (2, 0, 0, 0, 0, 0) :: (0, 1, 16, 0, 0, 0) :: (62, 104, 0, 0, 18, 1176) :: (39, 1, 0, 6, 20, 2039) :: (2, 0, 0, 0, 0, 0) :: (58, 1, 0, 0, 24, 1178) :: (18, 0, 0, 0, 0, 0) :: (54, 60, 1, 1, 26, 5) :: (39, 2, 0, 6, 27, 2041) :: (2, 0, 0, 0, 0, 0) :: (0, 0, (-1), 0, 0, 0) :: (38, 4, 0, 6, 31, 2046) :: (0, 0, 0, 0, 0, 0) :: (3, 1, 0, 0, 0, 0) :: bl_266_21 ∧ bl_266_21 = (1, 1, 0, 0, 0, 0) :: (2, 0, 0, 0, 0, 0) :: (37, 1, 0, 6, 20, 2039) :: (48, 0, 0, 0, 0, 0) :: (23, 36, 23, 0, 0, 0) :: (2, 0, 0, 0, 0, 0) :: (37, 1, 0, 6, 20, 2039) :: (1, 1, 0, 0, 0, 0) :: (58, 0, 0, 0, 18, 1176) :: (18, 0, 0, 0, 0, 0) :: (1, 1, 0, 0, 0, 0) :: (51, 55, 0, 2, 35, 1214) :: (47, 0, 0, 0, 0, 0) :: (5, 1, 1, 0, 0, 0) :: (32, 21, (-26), 0, 0, 0) :: bl_266_36 ∧ bl_266_36 = (57, 0, 0, 0, 0, 0) :: [] := by refine ⟨?_, ?_, ?_, ?_, ?_, ?_⟩ <;> rfl
theorem cdS_267 : (mz_cd 267).drop 0 = bl_267_0 ∧ (mz_cd 267).drop 8 = bl_267_8 ∧ (mz_cd 267).drop 15 = bl_267_15 ∧ bl_267_0 = (2, 0, 0, 0, 0, 0) :: (37, 1, 0, 8, 19, 2138) :: (37, 0, 0, 6, 75, 2038) :: (1, 1, 0, 0, 0, 0) :: (50, 15, 4, 2, 95, 3124) :: (27, 8, 5, 0, 0, 0) :: (0, 0, (-1), 0, 0, 0) :: (55, 0, 0, 0, 0, 0) :: bl_267_8 ∧ bl_267_8 = (2, 0, 0, 0, 0, 0) :: (37, 1, 0, 8, 19, 2138) :: (37, 2, 0, 6, 107, 2042) :: (50, 12, 1, 1, 111, 3151) :: (26, 15, 6, 0, 0, 0) :: (0, 1, (-4), 0, 0, 0) :: (55, 0, 0, 0, 0, 0) :: bl_267_15 ∧ bl_267_15 = (2, 0, 0, 0, 0, 0) :: (37, 1, 0, 8, 19, 2138) :: (1, 1, 0, 0, 0, 0) :: (50, 245, 6, 2, 144, 3216) :: (55, 0, 0, 0, 0, 0) :: [] := by refine ⟨?_, ?_, ?_, ?_, ?_, ?_⟩ <;> rfl
theorem cdS_268 : (mz_cd 268).drop 0 = bl_268_0 ∧ (mz_cd 268).drop 12 = bl_268_12 ∧ (mz_cd 268).drop 14 = bl_268_14 ∧ (mz_cd 268).drop 19 = bl_268_19 ∧ (mz_cd 268).drop 26 = bl_268_26 ∧ bl_268_0 = (2, 0, 0, 0, 0, 0) :: (37, 1, 0, 8, 19, 2138) :: (1, 1, 0, 0, 0, 0) :: (50, 22, 6, 2, 91, 3120) :: (4, 3, 0, 0, 0, 0) :: (2, 3, 0, 0, 0, 0) :: (33, 12, 13, 0, 0, 0) :: (1, 2, 0, 0, 0, 0) :: (0, 0, 1, 0, 0, 0) :: (0, 3, 99999, 0, 147, 4007) :: (49, 33, 8, 3, 45, 2160) :: (27, 14, 5, 0, 0, 0) :: bl_268_12 ∧ bl_268_12 = (0, 0, (-1), 0, 0, 0) :: (55, 0, 0, 0, 0, 0) :: bl_268_14 ∧ bl_268_14 = (2, 3, 0, 0, 0, 0) :: (50, 57, 0, 1, 148, 4008) :: (26, 19, 6, 0, 0, 0) :: (0, 1, (-3), 0, 0, 0) :: (55, 0, 0, 0, 0, 0) :: bl_268_19 ∧ bl_268_19 = (2, 0, 0, 0, 0, 0) :: (37, 1, 0, 8, 19, 2138) :: (37, 2, 0, 6, 107, 2042) :: (50, 12, 1, 1, 111, 3151) :: (26, 26, 6, 0, 0, 0) :: (0, 1, (-4), 0, 0, 0) :: (55, 0, 0, 0, 0, 0) :: bl_268_26 ∧ bl_268_26 = (2, 0, 0, 0, 0, 0) :: (37, 1, 0, 8, 19, 2138) :: (2, 3, 0, 0, 0, 0) :: (1, 2, 0, 0, 0, 0) :: (50, 243, 6, 3, 151, 4012) :: (2, 3, 0, 0, 0, 0) :: (50, 56, 0, 1, 154, 4034) :: (55, 0, 0, 0, 0, 0) :: [] := by refine ⟨?_, ?_, ?_, ?_, ?_, ?_, ?_, ?_, ?_, ?_⟩ <;> rfl
theorem cdS_269 : (mz_cd 269).drop 0 = bl_269_0 ∧ (mz_cd 269).drop 7 = bl_269_7 ∧ (mz_cd 269).drop 14 = bl_269_14 ∧ bl_269_0 = (1, 1, 0, 0, 0, 0) :: (0, 0, 0, 0, 0, 0) :: (0, 0, 1, 0, 0, 0) :: (49, 33, 8, 3, 45, 2160) :: (27, 7, 5, 0, 0, 0) :: (0, 0, (-1), 0, 0, 0) :: (55, 0, 0, 0, 0, 0) :: bl_269_7 ∧ bl_269_7 = (2, 0, 0, 0, 0, 0) :: (37, 3, 0, 8, 27, 2140) :: (1, 1, 0, 0, 0, 0) :: (42, 0, 0, 0, 0, 0) :: (27, 14, 6, 0, 0, 0) :: (0, 1, (-3), 0, 0, 0) :: (55, 0, 0, 0, 0, 0) :: bl_269_14 ∧ bl_269_14 = (2, 0, 0, 0, 0, 0) :: (37, 1, 0, 8, 19, 2138) :: (2, 0, 0, 0, 0, 0) :: (37, 2, 0, 8, 23, 2139) :: (1, 1, 0, 0, 0, 0) :: (46, 0, 0, 0, 0, 0) :: (50, 241, 6, 2, 198, 4131) :: (2, 0, 0, 0, 0, 0) :: (37, 1, 0, 8, 19, 2138) :: (36, 3, 0, 6, 88, 2045) :: (55, 0, 0, 0, 0, 0) :: [] := by refine ⟨?_, ?_, ?_, ?_, ?_, ?_⟩ <;> rfl
theorem cdS_270 : (mz_cd 270).drop 0 = bl_270_0 ∧ (mz_cd 270).drop 7 = bl_270_7 ∧ bl_270_0 = (1, 1, 0, 0, 0, 0) :: (0, 0, 0, 0, 0, 0) :: (0, 0, 1, 0, 0, 0) :: (49, 33, 8, 3, 45, 2160) :: (27, 7, 5, 0, 0, 0) :: (0, 0, (-1), 0, 0, 0) :: (55, 0, 0, 0, 0, 0) :: bl_270_7 ∧ bl_270_7 = (2, 0, 0, 0, 0, 0) :: (37, 2, 0, 8, 23, 2139) :: (1, 1, 0, 0, 0, 0) :: (46, 0, 0, 0, 0, 0) :: (2, 0, 0, 0, 0, 0) :: (37, 1, 0, 8, 19, 2138) :: (50, 241, 6, 2, 198, 4131) :: (2, 0, 0, 0, 0, 0) :: (37, 3, 0, 8, 27, 2140) :: (1, 1, 0, 0, 0, 0) :: (0, 0, 1, 0, 0, 0) :: (43, 0, 0, 0, 0, 0) :: (2, 0, 0, 0, 0, 0) :: (37, 1, 0, 8, 19, 2138) :: (36, 3, 0, 6, 88, 2045) :: (55, 0, 0, 0, 0, 0) :: [] := by refine ⟨?_, ?_, ?_, ?_⟩ <;> rfl
theorem cdS_271 : (mz_cd 271).drop 0 = bl_271_0 ∧ (mz_cd 271).drop 11 = bl_271_11 ∧ (mz_cd 271).drop 13 = bl_271_13 ∧ bl_271_0 = (2, 0, 0, 0, 0, 0) :: (37, 1, 0, 8, 19, 2138) :: (37, 0, 0, 6, 75, 2038) :: (1, 1, 0, 0, 0, 0) :: (50, 15, 4, 2, 95, 3124) :: (26, 11, 14, 0, 0, 0) :: (1, 2, 0, 0, 0, 0) :: (0, 0, 0, 0, 0, 0) :: (0, 2, 600, 0, 0, 0) :: (49, 33, 8, 3, 45, 2160) :: (27, 13, 5, 0, 0, 0) :: bl_271_11 ∧ bl_271_11 = (0, 0, (-1), 0, 0, 0) :: (55, 0, 0, 0, 0, 0) :: bl_271_13 ∧ bl_271_13 = (2, 0, 0, 0, 0, 0) :: (37, 1, 0, 8, 19, 2138) :: (1, 1, 0, 0, 0, 0) :: (2, 0, 0, 0, 0, 0) :: (37, 1, 0, 8, 19, 2138) :: (36, 3, 0, 6, 88, 2045) :: (1, 2, 0, 0, 0, 0) :: (6, 0, 0, 0, 0, 0) :: (50, 242, 6, 3, 303, 5069) :: (55, 0, 0, 0, 0, 0) :: [] := by refine ⟨?_, ?_, ?_, ?_, ?_, ?_⟩ <;> rfl
theorem cdS_272 : (mz_cd 272).drop 0 = bl_272_0 ∧ (mz_cd 272).drop 8 = bl_272_8 ∧ (mz_cd 272).drop 9 = bl_272_9 ∧ bl_272_0 = (2, 0, 0, 0, 0, 0) :: (1, 1, 0, 0, 0, 0) :: (1, 2, 0, 0, 0, 0) :: (50, 256, 9, 3, 299, 8155) :: (26, 8, 10, 0, 0, 0) :: (2, 0, 0, 0, 0, 0) :: (36, 26, 0, 9, 293, 6140) :: (32, 9, 4, 0, 0, 0) :: bl_272_8 ∧ bl_272_8 = (0, 0, (-1), 0, 0, 0) :: bl_272_9 ∧ bl_272_9 = (55, 0, 0, 0, 0, 0) :: [] := by refine ⟨?_, ?_, ?_, ?_, ?_, ?_⟩ <;> rfl
theorem cdS_273 : (mz_cd 273).drop 0 = bl_273_0 ∧ (mz_cd 273).drop 8 = bl_273_8 ∧ (mz_cd 273).drop 9 = bl_273_9 ∧ bl_273_0 = (2, 0, 0, 0, 0, 0) :: (1, 1, 0, 0, 0, 0) :: (1, 2, 0, 0, 0, 0) :: (50, 256, 9, 3, 299, 8155) :: (26, 8, 10, 0, 0, 0) :: (2, 0, 0, 0, 0, 0) :: (36, 24, 0, 9, 287, 6138) :: (32, 9, 4, 0, 0, 0) :: bl_273_8 ∧ bl_273_8 = (0, 0, (-1), 0, 0, 0) :: bl_273_9 ∧ bl_273_9 = (55, 0, 0, 0, 0, 0) :: [] := by refine ⟨?_, ?_, ?_, ?_, ?_, ?_⟩ <;> rfl
theorem cdS_274 : (mz_cd 274).drop 0 = bl_274_0 ∧ (mz_cd 274).drop 8 = bl_274_8 ∧ (mz_cd 274).drop 9 = bl_274_9 ∧ bl_274_0 = (2, 0, 0, 0, 0, 0) :: (1, 1, 0, 0, 0, 0) :: (1, 2, 0, 0, 0, 0) :: (50, 256, 9, 3, 299, 8155) :: (26, 8, 10, 0, 0, 0) :: (2, 0, 0, 0, 0, 0) :: (36, 25, 0, 9, 290, 6139) :: (32, 9, 4, 0, 0, 0) :: bl_274_8 ∧ bl_274_8 = (0, 0, (-1), 0, 0, 0) :: bl_274_9 ∧ bl_274_9 = (55, 0, 0, 0, 0, 0) :: [] := by refine ⟨?_, ?_, ?_, ?_, ?_, ?_⟩ <;> rfl
theorem cdS_275 : (mz_cd 275).drop 0 = bl_275_0 ∧ (mz_cd 275).drop 9 = bl_275_9 ∧ (mz_cd 275).drop 25 = bl_275_25 ∧ (mz_cd 275).drop 32 = bl_275_32 ∧ (mz_cd 275).drop 43 = bl_275_43 ∧ (mz_cd 275).drop 59 = bl_275_59 ∧ (mz_cd 275).drop 66 = bl_275_66 ∧ (mz_cd 275).drop 71 = bl_275_71 ∧ bl_275_0 = (2, 0, 0, 0, 0, 0) :: (50, 178, 9, 1, 114, 6211) :: (2, 0, 0, 0, 0, 0) :: (65, 12, 0, 0, 117, 0) :: (50, 255, 9, 2, 119, 6224) :: (26, 9, 10, 0, 0, 0) :: (2, 0, 0, 0, 0, 0) :: (50, 258, 9, 1, 123, 7007) :: (32, 71, 128, 0, 0, 0) :: bl_275_9 ∧ bl_275_9 = (2, 0, 0, 0, 0, 0) :: (65, 13, 0, 0, 125, 0) :: (50, 255, 9, 2, 119, 6224) :: (26, 25, 23, 0, 0, 0) :: (2, 0, 0, 0, 0, 0) :: (0, 2, 203, 0, 0, 0) :: (2, 0, 0, 0, 0, 0) :: (37, 1, 0, 9, 13, 6115) :: (0, 0, 0, 0, 0, 0) :: (40, 0, 0, 0, 0, 0) :: (0, 0, 1, 0, 0, 0) :: (7, 0, 0, 0, 0, 0) :: (0, 0, 0, 0, 0, 0) :: (0, 0, 3, 0, 0, 0) :: (50, 227, 9, 5, 127, 7016) :: (32, 71, 99, 0, 0, 0) :: bl_275_25 ∧ bl_275_25 = (2, 0, 0, 0, 0, 0) :: (65, 14, 0, 0, 131, 0) :: (50, 255, 9, 2, 119, 6224) :: (26, 32, 10, 0, 0, 0) :: (2, 0, 0, 0, 0, 0) :: (50, 226, 9, 1, 133, 7021) :: (32, 71, 83, 0, 0, 0) :: bl_275_32 ∧ bl_275_32 = (2, 0, 0, 0, 0, 0) :: (65, 15, 0, 0, 135, 0) :: (50, 255, 9, 2, 119, 6224) :: (26, 43, 19, 0, 0, 0) :: (2, 0, 0, 0, 0, 0) :: (0, 2, 329, 0, 0, 0) :: (0, 0, 3, 0, 0, 0) :: (0, 1, 10, 0, 0, 0) :: (0, 2, 600, 0, 0, 0) :: (50, 227, 9, 5, 127, 7016) :: (32, 71, 58, 0, 0, 0) :: bl_275_43 ∧ bl_275_43 = (2, 0, 0, 0, 0, 0) :: (65, 16, 0, 0, 137, 0) :: (50, 255, 9, 2, 119, 6224) :: (26, 59, 24, 0, 0, 0) :: (2, 0, 0, 0, 0, 0) :: (0, 2, 213, 0, 0, 0) :: (2, 0, 0, 0, 0, 0) :: (37, 1, 0, 9, 13, 6115) :: (0, 0, 0, 0, 0, 0) :: (40, 0, 0, 0, 0, 0) :: (0, 0, 1, 0, 0, 0) :: (7, 0, 0, 0, 0, 0) :: (0, 0, 0, 0, 0, 0) :: (0, 1, 8, 0, 0, 0) :: (50, 227, 9, 5, 127, 7016) :: (32, 71, 28, 0, 0, 0) :: bl_275_59 ∧ bl_275_59 = (2, 0, 0, 0, 0, 0) :: (65, 17, 0, 0, 139, 0) :: (50, 255, 9, 2, 119, 6224) :: (26, 66, 10, 0, 0, 0) :: (2, 0, 0, 0, 0, 0) :: (50, 257, 9, 1, 141, 7028) :: (32, 71, 12, 0, 0, 0) :: bl_275_66 ∧ bl_275_66 = (2, 0, 0, 0, 0, 0) :: (0, 0, 1, 0, 0, 0) :: (2, 0, 0, 0, 0, 0) :: (36, 8, 0, 9, 84, 6122) :: (50, 38, 9, 3, 104, 6230) :: bl_275_71 ∧ bl_275_71 = (57, 0, 0, 0, 0, 0) :: [] := by refine ⟨?_, ?_, ?_, ?_, ?_, ?_, ?_, ?_, ?_, ?_, ?_, ?_, ?_, ?_, ?_, ?_⟩ <;> rfl
theorem cdS_276 : (mz_cd 276).drop 0 = bl_276_0 ∧ (mz_cd 276).drop 12 = bl_276_12 ∧ (mz_cd 276).drop 20 = bl_276_20 ∧ (mz_cd 276).drop 41 = bl_276_41 ∧ (mz_cd 276).drop 43 = bl_276_43 ∧ (mz_cd 276).drop 54 = bl_276_54 ∧ (mz_cd 276).drop 93 = bl_276_93 ∧ (mz_cd 276).drop 133 = bl_276_133 ∧ (mz_cd 276).drop 135 = bl_276_135 ∧ (mz_cd 276).drop 137 = bl_276_137 ∧ bl_276_0 = (1, 1, 0, 0, 0, 0) :: (2, 0, 0, 0, 0, 0) :: (36, 19, 0, 9, 240, 6133) :: (24, 12, 20, 0, 0, 0) :: (1, 1, 0, 0, 0, 0) :: (2, 0, 0, 0, 0, 0) :: (36, 19, 0, 9, 240, 6133) :: (21, 41, 66, 0, 0, 0) :: (1, 4, 0, 0, 1, 0) :: (2, 0, 0, 0, 0, 0) :: (36, 20, 0, 9, 243, 6134) :: (23, 41, 57, 0, 0, 0) :: bl_276_12 ∧ bl_276_12 = (2, 0, 0, 0, 0, 0) :: (1, 1, 0, 0, 0, 0) :: (38, 19, 0, 9, 240, 6133) :: (2, 0, 0, 0, 0, 0) :: (1, 4, 0, 0, 1, 0) :: (38, 20, 0, 9, 243, 6134) :: (0, 0, 0, 0, 0, 0) :: (3, 5, 0, 0, 1, 0) :: bl_276_20 ∧ bl_276_20 = (1, 5, 0, 0, 1, 0) :: (1, 1, 0, 0, 0, 0) :: (23, 41, 37, 0, 0, 0) :: (2, 0, 0, 0, 0, 0) :: (37, 15, 0, 9, 36, 6129) :: (1, 5, 0, 0, 1, 0) :: (2, 0, 0, 0, 0, 0) :: (37, 13, 0, 9, 30, 6127) :: (1, 5, 0, 0, 1, 0) :: (40, 0, 0, 0, 0, 0) :: (41, 0, 0, 0, 0, 0) :: (2, 0, 0, 0, 0, 0) :: (37, 16, 0, 9, 39, 6130) :: (1, 5, 0, 0, 1, 0) :: (2, 0, 0, 0, 0, 0) :: (37, 14, 0, 9, 33, 6128) :: (1, 5, 0, 0, 1, 0) :: (40, 0, 0, 0, 0, 0) :: (41, 0, 0, 0, 0, 0) :: (5, 5, 1, 0, 0, 0) :: (32, 20, (-37), 0, 0, 0) :: bl_276_41 ∧ bl_276_41 = (0, 0, 0, 0, 0, 0) :: (3, 5, 0, 0, 1, 0) :: bl_276_43 ∧ bl_276_43 = (1, 5, 0, 0, 1, 0) :: (2, 0, 0, 0, 0, 0) :: (36, 18, 0, 9, 231, 6132) :: (23, 137, 156, 0, 0, 0) :: (2, 0, 0, 0, 0, 0) :: (37, 12, 0, 9, 27, 6126) :: (1, 5, 0, 0, 1, 0) :: (40, 0, 0, 0, 0, 0) :: (3, 6, 0, 0, 1, 0) :: (0, 0, 0, 0, 0, 0) :: (3, 7, 0, 0, 1, 0) :: bl_276_54 ∧ bl_276_54 = (1, 7, 0, 0, 1, 0) :: (2, 0, 0, 0, 0, 0) :: (37, 0, 0, 9, 9, 6114) :: (0, 0, 0, 0, 0, 0) :: (40, 0, 0, 0, 0, 0) :: (23, 135, 127, 0, 0, 0) :: (1, 3, 0, 0, 0, 0) :: (1, 5, 0, 0, 1, 0) :: (15, 0, 0, 0, 0, 0) :: (0, 0, 1, 0, 0, 0) :: (11, 0, 0, 0, 0, 0) :: (27, 135, 118, 0, 0, 0) :: (2, 0, 0, 0, 0, 0) :: (1, 2, 0, 0, 0, 0) :: (2, 0, 0, 0, 0, 0) :: (1, 6, 0, 0, 1, 0) :: (0, 0, 1, 0, 0, 0) :: (50, 46, 9, 3, 161, 7054) :: (50, 51, 9, 3, 249, 7168) :: (0, 1, 10, 0, 0, 0) :: (6, 0, 0, 0, 0, 0) :: (2, 0, 0, 0, 0, 0) :: (2, 0, 0, 0, 0, 0) :: (1, 6, 0, 0, 1, 0) :: (0, 0, 1, 0, 0, 0) :: (50, 46, 9, 3, 161, 7054) :: (1, 7, 0, 0, 1, 0) :: (50, 51, 9, 3, 249, 7168) :: (6, 0, 0, 0, 0, 0) :: (3, 8, 0, 0, 1, 0) :: (2, 0, 0, 0, 0, 0) :: (37, 17, 0, 9, 42, 6131) :: (1, 7, 0, 0, 1, 0) :: (40, 0, 0, 0, 0, 0) :: (26, 133, 71, 0, 0, 0) :: (1, 8, 0, 0, 1, 0) :: (0, 3, 1000000, 0, 63, 6109) :: (22, 93, 6, 0, 0, 0) :: (32, 133, 61, 0, 0, 0) :: bl_276_93 ∧ bl_276_93 = (2, 0, 0, 0, 0, 0) :: (37, 17, 0, 9, 42, 6131) :: (1, 7, 0, 0, 1, 0) :: (69, 0, 0, 0, 0, 0) :: (40, 0, 0, 0, 0, 0) :: (0, 0, 1, 0, 0, 0) :: (7, 0, 0, 0, 0, 0) :: (41, 0, 0, 0, 0, 0) :: (2, 0, 0, 0, 0, 0) :: (37, 13, 0, 9, 30, 6127) :: (1, 1, 0, 0, 0, 0) :: (1, 6, 0, 0, 1, 0) :: (41, 0, 0, 0, 0, 0) :: (2, 0, 0, 0, 0, 0) :: (37, 14, 0, 9, 33, 6128) :: (1, 1, 0, 0, 0, 0) :: (1, 7, 0, 0, 1, 0) :: (41, 0, 0, 0, 0, 0) :: (2, 0, 0, 0, 0, 0) :: (1, 1, 0, 0, 0, 0) :: (0, 0, 1, 0, 0, 0) :: (6, 0, 0, 0, 0, 0) :: (1, 7, 0, 0, 1, 0) :: (1, 3, 0, 0, 0, 0) :: (0, 0, 1, 0, 0, 0) :: (1, 5, 0, 0, 1, 0) :: (14, 0, 0, 0, 0, 0) :: (12, 0, 0, 0, 0, 0) :: (1, 4, 0, 0, 1, 0) :: (1, 8, 0, 0, 1, 0) :: (6, 0, 0, 0, 0, 0) :: (50, 260, 9, 5, 246, 7164) :: (2, 0, 0, 0, 0, 0) :: (37, 17, 0, 9, 42, 6131) :: (1, 7, 0, 0, 1, 0) :: (69, 0, 0, 0, 0, 0) :: (40, 0, 0, 0, 0, 0) :: (0, 0, 1, 0, 0, 0) :: (6, 0, 0, 0, 0, 0) :: (41, 0, 0, 0, 0, 0) :: bl_276_133 ∧ bl_276_133 = (5, 7, 1, 0, 0, 0) :: (32, 54, (-132), 0, 0, 0) :: bl_276_135 ∧ bl_276_135 = (5, 5, 1, 0, 0, 0) :: (32, 43, (-159), 0, 0, 0) :: bl_276_137 ∧ bl_276_137 = (57, 0, 0, 0, 0, 0) :: [] := by refine ⟨?_, ?_, ?_, ?_, ?_, ?_, ?_, ?_, ?_, ?_, ?_, ?_, ?_, ?_, ?_, ?_, ?_, ?_, ?_, ?_⟩ <;> rfl
theorem cdS_277 : (mz_cd 277).drop 0 = bl_277_0 ∧ (mz_cd 277).drop 18 = bl_277_18 ∧ (mz_cd 277).drop 37 = bl_277_37 ∧ (mz_cd 277).drop 39 = bl_277_39 ∧ bl_277_0 = (2, 0, 0, 0, 0, 0) :: (1, 2, 0, 0, 0, 0) :: (38, 2, 0, 2, 18, 2117) :: (2, 0, 0, 0, 0, 0) :: (0, 0, 0, 0, 0, 0) :: (38, 3, 0, 2, 22, 2118) :: (2, 0, 0, 0, 0, 0) :: (0, 0, 0, 0, 0, 0) :: (38, 4, 0, 2, 25, 2120) :: (2, 0, 0, 0, 0, 0) :: (0, 0, 0, 0, 0, 0) :: (38, 5, 0, 2, 28, 2122) :: (2, 0, 0, 0, 0, 0) :: (2, 1, 0, 0, 0, 0) :: (50, 261, 2, 2, 31, 5130) :: (3, 4, 0, 0, 1, 0) :: (0, 0, 1, 0, 0, 0) :: (3, 5, 0, 0, 1, 0) :: bl_277_18 ∧ bl_277_18 = (1, 5, 0, 0, 1, 0) :: (0, 0, 1, 0, 0, 0) :: (2, 1, 0, 0, 0, 0) :: (37, 0, 0, 6, 35, 2037) :: (36, 0, 0, 4, 41, 1101) :: (14, 0, 0, 0, 0, 0) :: (23, 39, 30, 0, 0, 0) :: (1, 5, 0, 0, 1, 0) :: (1, 4, 0, 0, 1, 0) :: (0, 0, (-1), 0, 0, 0) :: (13, 0, 0, 0, 0, 0) :: (11, 0, 0, 0, 0, 0) :: (27, 37, 14, 0, 0, 0) :: (2, 0, 0, 0, 0, 0) :: (1, 5, 0, 0, 1, 0) :: (2, 1, 0, 0, 0, 0) :: (37, 0, 0, 6, 35, 2037) :: (1, 3, 0, 0, 0, 0) :: (50, 187, 2, 4, 46, 5136) :: bl_277_37 ∧ bl_277_37 = (5, 5, 1, 0, 0, 0) :: (32, 18, (-38), 0, 0, 0) :: bl_277_39 ∧ bl_277_39 = (57, 0, 0, 0, 0, 0) :: [] := by refine ⟨?_, ?_, ?_, ?_, ?_, ?_, ?_, ?_⟩ <;> rfl
theorem cdS_278 : (mz_cd 278).drop 0 = bl_278_0 ∧ (mz_cd 278).drop 9 = bl_278_9 ∧ (mz_cd 278).drop 21 = bl_278_21 ∧ bl_278_0 = (2, 0, 0, 0, 0, 0) :: (50, 264, 5, 1, 57, 2185) :: (0, 0, 1, 0, 0, 0) :: (20, 9, 12, 0, 0, 0) :: (2, 0, 0, 0, 0, 0) :: (0, 0, 1, 0, 0, 0) :: (2, 0, 0, 0, 0, 0) :: (36, 5, 0, 5, 61, 1146) :: (50, 17, 5, 3, 64, 3021) :: bl_278_9 ∧ bl_278_9 = (2, 0, 0, 0, 0, 0) :: (0, 0, 1, 0, 0, 0) :: (0, 1, 10, 0, 0, 0) :: (50, 137, 5, 3, 68, 3025) :: (3, 1, 0, 0, 0, 0) :: (2, 0, 0, 0, 0, 0) :: (36, 6, 0, 5, 36, 1148) :: (27, 21, 11, 0, 0, 0) :: (2, 0, 0, 0, 0, 0) :: (37, 0, 0, 5, 12, 1140) :: (1, 1, 0, 0, 0, 0) :: (38, 0, 0, 4, 72, 1104) :: bl_278_21 ∧ bl_278_21 = (57, 0, 0, 0, 0, 0) :: [] := by refine ⟨?_, ?_, ?_, ?_, ?_, ?_⟩ <;> rfl
theorem cdS_279 : (mz_cd 279).drop 0 = bl_279_0 ∧ (mz_cd 279).drop 4 = bl_279_4 ∧ (mz_cd 279).drop 7 = bl_279_7 ∧ (mz_cd 279).drop 10 = bl_279_10 ∧ (mz_cd 279).drop 13 = bl_279_13 ∧ (mz_cd 279).drop 16 = bl_279_16 ∧ (mz_cd 279).drop 19 = bl_279_19 ∧ (mz_cd 279).drop 22 = bl_279_22 ∧ (mz_cd 279).drop 25 = bl_279_25 ∧ (mz_cd 279).drop 30 = bl_279_30 ∧ bl_279_0 = (2, 0, 0, 0, 0, 0) :: (36, 6, 0, 5, 36, 1148) :: (26, 4, 4, 0, 0, 0) :: (57, 0, 0, 0, 0, 0) :: bl_279_4 ∧ bl_279_4 = (2, 0, 0, 0, 0, 0) :: (50, 264, 5, 1, 57, 2185) :: (35, 2, 2, 25, 0, 0) :: bl_279_7 ∧ bl_279_7 = (2, 0, 0, 0, 0, 0) :: (50, 237, 5, 1, 78, 3042) :: (32, 30, 47, 0, 0, 0) :: bl_279_10 ∧ bl_279_10 = (2, 0, 0, 0, 0, 0) :: (50, 239, 5, 1, 81, 3055) :: (32, 30, 40, 0, 0, 0) :: bl_279_13 ∧ bl_279_13 = (2, 0, 0, 0, 0, 0) :: (50, 193, 5, 1, 84, 3059) :: (32, 30, 33, 0, 0, 0) :: bl_279_16 ∧ bl_279_16 = (2, 0, 0, 0, 0, 0) :: (50, 194, 5, 1, 87, 3072) :: (32, 30, 26, 0, 0, 0) :: bl_279_19 ∧ bl_279_19 = (2, 0, 0, 0, 0, 0) :: (50, 238, 5, 1, 90, 3076) :: (32, 30, 19, 0, 0, 0) :: bl_279_22 ∧ bl_279_22 = (2, 0, 0, 0, 0, 0) :: (50, 236, 5, 1, 93, 3080) :: (32, 30, 12, 0, 0, 0) :: bl_279_25 ∧ bl_279_25 = (2, 0, 0, 0, 0, 0) :: (0, 0, 1, 0, 0, 0) :: (2, 0, 0, 0, 0, 0) :: (36, 5, 0, 5, 61, 1146) :: (50, 17, 5, 3, 64, 3021) :: bl_279_30 ∧ bl_279_30 = (57, 0, 0, 0, 0, 0) :: [] := by refine ⟨?_, ?_, ?_, ?_, ?_, ?_, ?_, ?_, ?_, ?_, ?_, ?_, ?_, ?_, ?_, ?_, ?_, ?_, ?_, ?_⟩ <;> rfl
theorem cdS_280 : (mz_cd 280).drop 0 = bl_280_0 ∧ (mz_cd 280).drop 11 = bl_280_11 ∧ (mz_cd 280).drop 13 = bl_280_13 ∧ bl_280_0 = (2, 0, 0, 0, 0, 0) :: (37, 1, 0, 8, 19, 2138) :: (37, 0, 0, 6, 75, 2038) :: (1, 1, 0, 0, 0, 0) :: (50, 15, 4, 2, 95, 3124) :: (26, 11, 13, 0, 0, 0) :: (1, 2, 0, 0, 0, 0) :: (0, 0, 0, 0, 0, 0) :: (0, 1, 120, 0, 0, 0) :: (49, 33, 8, 3, 45, 2160) :: (27, 13, 5, 0, 0, 0) :: bl_280_11 ∧ bl_280_11 = (0, 0, (-1), 0, 0, 0) :: (55, 0, 0, 0, 0, 0) :: bl_280_13 ∧ bl_280_13 = (2, 0, 0, 0, 0, 0) :: (37, 1, 0, 8, 19, 2138) :: (1, 1, 0, 0, 0, 0) :: (1, 2, 0, 0, 0, 0) :: (50, 265, 6, 3, 306, 5077) :: (55, 0, 0, 0, 0, 0) :: [] := by refine ⟨?_, ?_, ?_, ?_, ?_, ?_⟩ <;> rfl
theorem cdS_281 : (mz_cd 281).drop 0 = bl_281_0 ∧ (mz_cd 281).drop 18 = bl_281_18 ∧ (mz_cd 281).drop 32 = bl_281_32 ∧ bl_281_0 = (2, 0, 0, 0, 0, 0) :: (63, 0, 0, 0, 1, 1030) :: (2, 0, 0, 0, 0, 0) :: (58, 5, 0, 0, 7, 1033) :: (18, 0, 0, 0, 0, 0) :: (54, 263, 5, 1, 9, 0) :: (39, 0, 0, 8, 10, 2137) :: (2, 0, 0, 0, 0, 0) :: (58, 6, 0, 0, 16, 1168) :: (18, 0, 0, 0, 0, 0) :: (51, 266, 6, 1, 18, 1170) :: (39, 1, 0, 8, 19, 2138) :: (2, 0, 0, 0, 0, 0) :: (0, 0, 2, 0, 0, 0) :: (62, 105, 0, 0, 16, 1168) :: (39, 2, 0, 8, 23, 2139) :: (0, 0, 0, 0, 0, 0) :: (3, 1, 0, 0, 0, 0) :: bl_281_18 ∧ bl_281_18 = (1, 1, 0, 0, 0, 0) :: (2, 0, 0, 0, 0, 0) :: (37, 2, 0, 8, 23, 2139) :: (48, 0, 0, 0, 0, 0) :: (23, 32, 22, 0, 0, 0) :: (2, 0, 0, 0, 0, 0) :: (37, 2, 0, 8, 23, 2139) :: (1, 1, 0, 0, 0, 0) :: (58, 6, 0, 0, 16, 1168) :: (18, 0, 0, 0, 0, 0) :: (51, 266, 6, 1, 18, 1170) :: (47, 0, 0, 0, 0, 0) :: (5, 1, 1, 0, 0, 0) :: (32, 18, (-25), 0, 0, 0) :: bl_281_32 ∧ bl_281_32 = (2, 0, 0, 0, 0, 0) :: (0, 0, 2, 0, 0, 0) :: (60, 0, 0, 0, 0, 0) :: (39, 3, 0, 8, 27, 2140) :: (2, 0, 0, 0, 0, 0) :: (58, 3, 0, 0, 31, 2061) :: (18, 0, 0, 0, 0, 0) :: (54, 66, 3, 1, 33, 6) :: (39, 4, 0, 8, 34, 2141) :: (2, 0, 0, 0, 0, 0) :: (58, 2, 0, 0, 38, 2109) :: (18, 0, 0, 0, 0, 0) :: (54, 63, 2, 1, 40, 7) :: (39, 5, 0, 8, 41, 2142) :: (57, 0, 0, 0, 0, 0) :: [] := by refine ⟨?_, ?_, ?_, ?_, ?_, ?_⟩ <;> rfl
theorem cdS_282 : (mz_cd 282).drop 0 = bl_282_0 ∧ bl_282_0 = (2, 0, 0, 0, 0, 0) :: (37, 4, 0, 8, 34, 2141) :: (2, 0, 0, 0, 0, 0) :: (37, 1, 0, 8, 19, 2138) :: (50, 262, 3, 2, 158, 4043) :: (2, 0, 0, 0, 0, 0) :: (37, 4, 0, 8, 34, 2141) :: (36, 11, 0, 3, 170, 2082) :: (55, 0, 0, 0, 0, 0) :: [] := by refine ⟨?_, ?_⟩ <;> rfl
theorem cdS_283 : (mz_cd 283).drop 0 = bl_283_0 ∧ bl_283_0 = (2, 0, 0, 0, 0, 0) :: (37, 4, 0, 8, 34, 2141) :: (2, 0, 0, 0, 0, 0) :: (37, 1, 0, 8, 19, 2138) :: (50, 262, 3, 2, 158, 4043) :: (2, 0, 0, 0, 0, 0) :: (37, 4, 0, 8, 34, 2141) :: (50, 67, 3, 1, 319, 5118) :: (55, 0, 0, 0, 0, 0) :: [] := by refine ⟨?_, ?_⟩ <;> rfl
theorem cdS_284 : (mz_cd 284).drop 0 = bl_284_0 ∧ (mz_cd 284).drop 20 = bl_284_20 ∧ (mz_cd 284).drop 22 = bl_284_22 ∧ (mz_cd 284).drop 40 = bl_284_40 ∧ (mz_cd 284).drop 42 = bl_284_42 ∧ bl_284_0 = (2, 0, 0, 0, 0, 0) :: (37, 4, 0, 8, 34, 2141) :: (2, 0, 0, 0, 0, 0) :: (37, 1, 0, 8, 19, 2138) :: (50, 262, 3, 2, 158, 4043) :: (2, 0, 0, 0, 0, 0) :: (37, 1, 0, 8, 19, 2138) :: (2, 0, 0, 0, 0, 0) :: (37, 4, 0, 8, 34, 2141) :: (37, 6, 0, 3, 162, 2074) :: (0, 0, 0, 0, 0, 0) :: (49, 23, 8, 2, 166, 4116) :: (50, 22, 6, 2, 91, 3120) :: (4, 1, 0, 0, 0, 0) :: (2, 0, 0, 0, 0, 0) :: (37, 4, 0, 8, 34, 2141) :: (36, 11, 0, 3, 170, 2082) :: (26, 20, 7, 0, 0, 0) :: (2, 1, 0, 0, 0, 0) :: (34, 22, 6, 0, 0, 0) :: bl_284_20 ∧ bl_284_20 = (0, 1, (-3), 0, 0, 0) :: (55, 0, 0, 0, 0, 0) :: bl_284_22 ∧ bl_284_22 = (2, 0, 0, 0, 0, 0) :: (37, 1, 0, 8, 19, 2138) :: (36, 3, 0, 6, 88, 2045) :: (2, 0, 0, 0, 0, 0) :: (37, 4, 0, 8, 34, 2141) :: (37, 8, 0, 3, 173, 2078) :: (0, 0, 0, 0, 0, 0) :: (49, 23, 8, 2, 166, 4116) :: (6, 0, 0, 0, 0, 0) :: (3, 2, 0, 0, 0, 0) :: (2, 0, 0, 0, 0, 0) :: (37, 1, 0, 8, 19, 2138) :: (37, 2, 0, 6, 107, 2042) :: (50, 12, 1, 1, 111, 3151) :: (27, 40, 10, 0, 0, 0) :: (1, 2, 0, 0, 0, 0) :: (0, 2, 10079, 0, 0, 0) :: (25, 42, 6, 0, 0, 0) :: bl_284_40 ∧ bl_284_40 = (0, 1, (-4), 0, 0, 0) :: (55, 0, 0, 0, 0, 0) :: bl_284_42 ∧ bl_284_42 = (2, 0, 0, 0, 0, 0) :: (37, 1, 0, 8, 19, 2138) :: (1, 2, 0, 0, 0, 0) :: (38, 3, 0, 6, 88, 2045) :: (2, 0, 0, 0, 0, 0) :: (37, 1, 0, 8, 19, 2138) :: (2, 1, 0, 0, 0, 0) :: (2, 0, 0, 0, 0, 0) :: (37, 4, 0, 8, 34, 2141) :: (37, 7, 0, 3, 176, 2076) :: (0, 0, 0, 0, 0, 0) :: (49, 23, 8, 2, 166, 4116) :: (50, 196, 6, 3, 179, 4117) :: (2, 1, 0, 0, 0, 0) :: (36, 0, 0, 0, 182, 1221) :: (55, 0, 0, 0, 0, 0) :: [] := by refine ⟨?_, ?_, ?_, ?_, ?_, ?_, ?_, ?_, ?_, ?_⟩ <;> rfl
theorem cdS_285 : (mz_cd 285).drop 0 = bl_285_0 ∧ (mz_cd 285).drop 20 = bl_285_20 ∧ (mz_cd 285).drop 27 = bl_285_27 ∧ (mz_cd 285).drop 33 = bl_285_33 ∧ (mz_cd 285).drop 48 = bl_285_48 ∧ bl_285_0 = (2, 0, 0, 0, 0, 0) :: (0, 0, 0, 0, 0, 0) :: (38, 4, 0, 9, 59, 6118) :: (2, 0, 0, 0, 0, 0) :: (0, 0, 0, 0, 0, 0) :: (38, 7, 0, 9, 77, 6121) :: (2, 0, 0, 0, 0, 0) :: (0, 0, 0, 0, 0, 0) :: (38, 9, 0, 9, 87, 6123) :: (2, 0, 0, 0, 0, 0) :: (50, 178, 9, 1, 114, 6211) :: (2, 0, 0, 0, 0, 0) :: (65, 11, 0, 0, 143, 0) :: (50, 255, 9, 2, 119, 6224) :: (27, 20, 12, 0, 0, 0) :: (2, 0, 0, 0, 0, 0) :: (0, 0, 1, 0, 0, 0) :: (2, 0, 0, 0, 0, 0) :: (36, 8, 0, 9, 84, 6122) :: (50, 38, 9, 3, 104, 6230) :: bl_285_20 ∧ bl_285_20 = (2, 0, 0, 0, 0, 0) :: (37, 1, 0, 9, 13, 6115) :: (2, 0, 0, 0, 0, 0) :: (0, 0, 1, 0, 0, 0) :: (0, 1, 10, 0, 0, 0) :: (50, 169, 9, 3, 108, 6234) :: (49, 34, 9, 2, 51, 6106) :: bl_285_27 ∧ bl_285_27 = (2, 0, 0, 0, 0, 0) :: (50, 160, 9, 1, 145, 6238) :: (26, 33, 10, 0, 0, 0) :: (2, 0, 0, 0, 0, 0) :: (50, 275, 9, 1, 149, 7002) :: (32, 27, (-11), 0, 0, 0) :: bl_285_33 ∧ bl_285_33 = (2, 0, 0, 0, 0, 0) :: (0, 0, 0, 0, 0, 0) :: (38, 6, 0, 9, 74, 6120) :: (2, 0, 0, 0, 0, 0) :: (2, 0, 0, 0, 0, 0) :: (36, 9, 0, 9, 87, 6123) :: (38, 11, 0, 9, 152, 6125) :: (2, 0, 0, 0, 0, 0) :: (36, 9, 0, 9, 87, 6123) :: (26, 48, 11, 0, 0, 0) :: (0, 1, (-100), 0, 0, 0) :: (2, 0, 0, 0, 0, 0) :: (36, 10, 0, 9, 90, 6124) :: (7, 0, 0, 0, 0, 0) :: (55, 0, 0, 0, 0, 0) :: bl_285_48 ∧ bl_285_48 = (2, 0, 0, 0, 0, 0) :: (37, 1, 0, 9, 13, 6115) :: (49, 103, 9, 1, 55, 6110) :: (2, 0, 0, 0, 0, 0) :: (37, 1, 0, 9, 13, 6115) :: (0, 0, 0, 0, 0, 0) :: (2, 0, 0, 0, 0, 0) :: (37, 0, 0, 9, 9, 6114) :: (0, 0, 0, 0, 0, 0) :: (49, 36, 9, 4, 155, 7032) :: (2, 0, 0, 0, 0, 0) :: (37, 0, 0, 9, 9, 6114) :: (0, 0, 0, 0, 0, 0) :: (40, 0, 0, 0, 0, 0) :: (55, 0, 0, 0, 0, 0) :: [] := by refine ⟨?_, ?_, ?_, ?_, ?_, ?_, ?_, ?_, ?_, ?_⟩ <;> rfl
theorem cdS_286 : (mz_cd 286).drop 0 = bl_286_0 ∧ (mz_cd 286).drop 12 = bl_286_12 ∧ (mz_cd 286).drop 20 = bl_286_20 ∧ (mz_cd 286).drop 41 = bl_286_41 ∧ (mz_cd 286).drop 43 = bl_286_43 ∧ (mz_cd 286).drop 54 = bl_286_54 ∧ (mz_cd 286).drop 93 = bl_286_93 ∧ (mz_cd 286).drop 133 = bl_286_133 ∧ (mz_cd 286).drop 135 = bl_286_135 ∧ (mz_cd 286).drop 137 = bl_286_137 ∧ bl_286_0 = (1, 1, 0, 0, 0, 0) :: (2, 0, 0, 0, 0, 0) :: (36, 19, 0, 9, 240, 6133) :: (24, 12, 20, 0, 0, 0) :: (1, 1, 0, 0, 0, 0) :: (2, 0, 0, 0, 0, 0) :: (36, 19, 0, 9, 240, 6133) :: (21, 41, 66, 0, 0, 0) :: (1, 4, 0, 0, 1, 0) :: (2, 0, 0, 0, 0, 0) :: (36, 20, 0, 9, 243, 6134) :: (23, 41, 57, 0, 0, 0) :: bl_286_12 ∧ bl_286_12 = (2, 0, 0, 0, 0, 0) :: (1, 1, 0, 0, 0, 0) :: (38, 19, 0, 9, 240, 6133) :: (2, 0, 0, 0, 0, 0) :: (1, 4, 0, 0, 1, 0) :: (38, 20, 0, 9, 243, 6134) :: (0, 0, 0, 0, 0, 0) :: (3, 5, 0, 0, 1, 0) :: bl_286_20 ∧ bl_286_20 = (1, 5, 0, 0, 1, 0) :: (1, 1, 0, 0, 0, 0) :: (23, 41, 37, 0, 0, 0) :: (2, 0, 0, 0, 0, 0) :: (37, 15, 0, 9, 36, 6129) :: (1, 5, 0, 0, 1, 0) :: (2, 0, 0, 0, 0, 0) :: (37, 13, 0, 9, 30, 6127) :: (1, 5, 0, 0, 1, 0) :: (40, 0, 0, 0, 0, 0) :: (41, 0, 0, 0, 0, 0) :: (2, 0, 0, 0, 0, 0) :: (37, 16, 0, 9, 39, 6130) :: (1, 5, 0, 0, 1, 0) :: (2, 0, 0, 0, 0, 0) :: (37, 14, 0, 9, 33, 6128) :: (1, 5, 0, 0, 1, 0) :: (40, 0, 0, 0, 0, 0) :: (41, 0, 0, 0, 0, 0) :: (5, 5, 1, 0, 0, 0) :: (32, 20, (-37), 0, 0, 0) :: bl_286_41 ∧ bl_286_41 = (0, 0, 0, 0, 0, 0) :: (3, 5, 0, 0, 1, 0) :: bl_286_43 ∧ bl_286_43 = (1, 5, 0, 0, 1, 0) :: (2, 0, 0, 0, 0, 0) :: (36, 18, 0, 9, 231, 6132) :: (23, 137, 156, 0, 0, 0) :: (2, 0, 0, 0, 0, 0) :: (37, 12, 0, 9, 27, 6126) :: (1, 5, 0, 0, 1, 0) :: (40, 0, 0, 0, 0, 0) :: (3, 6, 0, 0, 1, 0) :: (0, 0, 0, 0, 0, 0) :: (3, 7, 0, 0, 1, 0) :: bl_286_54 ∧ bl_286_54 = (1, 7, 0, 0, 1, 0) :: (2, 0, 0, 0, 0, 0) :: (37, 0, 0, 9, 9, 6114) :: (0, 0, 0, 0, 0, 0) :: (40, 0, 0, 0, 0, 0) :: (23, 135, 127, 0, 0, 0) :: (1, 3, 0, 0, 0, 0) :: (1, 5, 0, 0, 1, 0) :: (15, 0, 0, 0, 0, 0) :: (0, 0, 1, 0, 0, 0) :: (11, 0, 0, 0, 0, 0) :: (27, 135, 118, 0, 0, 0) :: (2, 0, 0, 0, 0, 0) :: (1, 2, 0, 0, 0, 0) :: (2, 0, 0, 0, 0, 0) :: (1, 6, 0, 0, 1, 0) :: (0, 0, 1, 0, 0, 0) :: (50, 46, 9, 3, 161, 7054) :: (50, 51, 9, 3, 249, 7168) :: (0, 1, 10, 0, 0, 0) :: (6, 0, 0, 0, 0, 0) :: (2, 0, 0, 0, 0, 0) :: (2, 0, 0, 0, 0, 0) :: (1, 6, 0, 0, 1, 0) :: (0, 0, 1, 0, 0, 0) :: (50, 46, 9, 3, 161, 7054) :: (1, 7, 0, 0, 1, 0) :: (50, 51, 9, 3, 249, 7168) :: (6, 0, 0, 0, 0, 0) :: (3, 8, 0, 0, 1, 0) :: (2, 0, 0, 0, 0, 0) :: (37, 17, 0, 9, 42, 6131) :: (1, 7, 0, 0, 1, 0) :: (40, 0, 0, 0, 0, 0) :: (26, 133, 71, 0, 0, 0) :: (1, 8, 0, 0, 1, 0) :: (0, 3, 1000000, 0, 63, 6109) :: (22, 93, 6, 0, 0, 0) :: (32, 133, 61, 0, 0, 0) :: bl_286_93 ∧ bl_286_93 = (2, 0, 0, 0, 0, 0) :: (37, 17, 0, 9, 42, 6131) :: (1, 7, 0, 0, 1, 0) :: (69, 0, 0, 0, 0, 0) :: (40, 0, 0, 0, 0, 0) :: (0, 0, 1, 0, 0, 0) :: (7, 0, 0, 0, 0, 0) :: (41, 0, 0, 0, 0, 0) :: (2, 0, 0, 0, 0, 0) :: (37, 13, 0, 9, 30, 6127) :: (1, 1, 0, 0, 0, 0) :: (1, 6, 0, 0, 1, 0) :: (41, 0, 0, 0, 0, 0) :: (2, 0, 0, 0, 0, 0) :: (37, 14, 0, 9, 33, 6128) :: (1, 1, 0, 0, 0, 0) :: (1, 7, 0, 0, 1, 0) :: (41, 0, 0, 0, 0, 0) :: (2, 0, 0, 0, 0, 0) :: (1, 1, 0, 0, 0, 0) :: (0, 0, 1, 0, 0, 0) :: (6, 0, 0, 0, 0, 0) :: (1, 7, 0, 0, 1, 0) :: (1, 3, 0, 0, 0, 0) :: (0, 0, 1, 0, 0, 0) :: (1, 5, 0, 0, 1, 0) :: (14, 0, 0, 0, 0, 0) :: (12, 0, 0, 0, 0, 0) :: (1, 4, 0, 0, 1, 0) :: (1, 8, 0, 0, 1, 0) :: (6, 0, 0, 0, 0, 0) :: (50, 276, 9, 5, 246, 7164) :: (2, 0, 0, 0, 0, 0) :: (37, 17, 0, 9, 42, 6131) :: (1, 7, 0, 0, 1, 0) :: (69, 0, 0, 0, 0, 0) :: (40, 0, 0, 0, 0, 0) :: (0, 0, 1, 0, 0, 0) :: (6, 0, 0, 0, 0, 0) :: (41, 0, 0, 0, 0, 0) :: bl_286_133 ∧ bl_286_133 = (5, 7, 1, 0, 0, 0) :: (32, 54, (-132), 0, 0, 0) :: bl_286_135 ∧ bl_286_135 = (5, 5, 1, 0, 0, 0) :: (32, 43, (-159), 0, 0, 0) :: bl_286_137 ∧ bl_286_137 = (57, 0, 0, 0, 0, 0) :: [] := by refine ⟨?_, ?_, ?_, ?_, ?_, ?_, ?_, ?_, ?_, ?_, ?_, ?_, ?_, ?_, ?_, ?_, ?_, ?_, ?_, ?_⟩ <;> rfl
theorem cdS_287 : (mz_cd 287).drop 0 = bl_287_0 ∧ (mz_cd 287).drop 18 = bl_287_18 ∧ (mz_cd 287).drop 37 = bl_287_37 ∧ bl_287_0 = (2, 0, 0, 0, 0, 0) :: (37, 0, 0, 5, 12, 1140) :: (50, 190, 4, 1, 30, 2180) :: (2, 0, 0, 0, 0, 0) :: (0, 0, 0, 0, 0, 0) :: (38, 3, 0, 5, 33, 1144) :: (2, 0, 0, 0, 0, 0) :: (0, 0, 0, 0, 0, 0) :: (38, 6, 0, 5, 36, 1148) :: (2, 0, 0, 0, 0, 0) :: (0, 0, 0, 0, 0, 0) :: (38, 7, 0, 5, 39, 1150) :: (2, 0, 0, 0, 0, 0) :: (50, 278, 5, 1, 42, 2181) :: (2, 0, 0, 0, 0, 0) :: (50, 75, 5, 1, 45, 2189) :: (0, 0, 0, 0, 0, 0) :: (3, 1, 0, 0, 0, 0) :: bl_287_18 ∧ bl_287_18 = (1, 1, 0, 0, 0, 0) :: (0, 2, 600, 0, 0, 0) :: (23, 37, 39, 0, 0, 0) :: (2, 0, 0, 0, 0, 0) :: (36, 6, 0, 5, 36, 1148) :: (27, 37, 32, 0, 0, 0) :: (2, 0, 0, 0, 0, 0) :: (36, 3, 0, 5, 33, 1144) :: (2, 0, 0, 0, 0, 0) :: (36, 2, 0, 5, 22, 1143) :: (23, 37, 21, 0, 0, 0) :: (2, 0, 0, 0, 0, 0) :: (50, 74, 5, 1, 48, 3034) :: (2, 0, 0, 0, 0, 0) :: (50, 279, 5, 1, 51, 3038) :: (2, 0, 0, 0, 0, 0) :: (50, 75, 5, 1, 45, 2189) :: (5, 1, 1, 0, 0, 0) :: (32, 18, (-40), 0, 0, 0) :: bl_287_37 ∧ bl_287_37 = (2, 0, 0, 0, 0, 0) :: (37, 0, 0, 5, 12, 1140) :: (50, 134, 4, 1, 54, 3093) :: (2, 0, 0, 0, 0, 0) :: (0, 0, 0, 0, 0, 0) :: (38, 2, 0, 5, 22, 1143) :: (57, 0, 0, 0, 0, 0) :: [] := by refine ⟨?_, ?_, ?_, ?_, ?_, ?_⟩ <;> rfl
theorem cdS_288 : (mz_cd 288).drop 0 = bl_288_0 ∧ (mz_cd 288).drop 11 = bl_288_11 ∧ (mz_cd 288).drop 13 = bl_288_13 ∧ bl_288_0 = (2, 0, 0, 0, 0, 0) :: (37, 1, 0, 8, 19, 2138) :: (37, 0, 0, 6, 75, 2038) :: (1, 1, 0, 0, 0, 0) :: (50, 15, 4, 2, 95, 3124) :: (26, 11, 14, 0, 0, 0) :: (1, 2, 0, 0, 0, 0) :: (0, 0, 0, 0, 0, 0) :: (0, 2, 600, 0, 0, 0) :: (49, 33, 8, 3, 45, 2160) :: (27, 13, 5, 0, 0, 0) :: bl_288_11 ∧ bl_288_11 = (0, 0, (-1), 0, 0, 0) :: (55, 0, 0, 0, 0, 0) :: bl_288_13 ∧ bl_288_13 = (2, 0, 0, 0, 0, 0) :: (37, 5, 0, 8, 41, 2142) :: (2, 0, 0, 0, 0, 0) :: (37, 1, 0, 8, 19, 2138) :: (1, 1, 0, 0, 0, 0) :: (1, 2, 0, 0, 0, 0) :: (50, 277, 2, 4, 327, 5126) :: (2, 0, 0, 0, 0, 0) :: (37, 5, 0, 8, 41, 2142) :: (36, 4, 0, 2, 336, 2121) :: (55, 0, 0, 0, 0, 0) :: [] := by refine ⟨?_, ?_, ?_, ?_, ?_, ?_⟩ <;> rfl
theorem cdS_289 : (mz_cd 289).drop 0 = bl_289_0 ∧ (mz_cd 289).drop 11 = bl_289_11 ∧ (mz_cd 289).drop 13 = bl_289_13 ∧ bl_289_0 = (2, 0, 0, 0, 0, 0) :: (37, 1, 0, 8, 19, 2138) :: (37, 0, 0, 6, 75, 2038) :: (1, 1, 0, 0, 0, 0) :: (50, 15, 4, 2, 95, 3124) :: (26, 11, 14, 0, 0, 0) :: (1, 2, 0, 0, 0, 0) :: (0, 0, 0, 0, 0, 0) :: (0, 2, 600, 0, 0, 0) :: (49, 33, 8, 3, 45, 2160) :: (27, 13, 5, 0, 0, 0) :: bl_289_11 ∧ bl_289_11 = (0, 0, (-1), 0, 0, 0) :: (55, 0, 0, 0, 0, 0) :: bl_289_13 ∧ bl_289_13 = (2, 0, 0, 0, 0, 0) :: (37, 5, 0, 8, 41, 2142) :: (2, 0, 0, 0, 0, 0) :: (37, 1, 0, 8, 19, 2138) :: (1, 1, 0, 0, 0, 0) :: (1, 2, 0, 0, 0, 0) :: (50, 277, 2, 4, 327, 5126) :: (2, 0, 0, 0, 0, 0) :: (37, 5, 0, 8, 41, 2142) :: (36, 5, 0, 2, 333, 2123) :: (55, 0, 0, 0, 0, 0) :: [] := by refine ⟨?_, ?_, ?_, ?_, ?_, ?_⟩ <;> rfl
theorem cdS_290 : (mz_cd 290).drop 0 = bl_290_0 ∧ (mz_cd 290).drop 11 = bl_290_11 ∧ (mz_cd 290).drop 13 = bl_290_13 ∧ bl_290_0 = (2, 0, 0, 0, 0, 0) :: (37, 1, 0, 8, 19, 2138) :: (37, 0, 0, 6, 75, 2038) :: (1, 1, 0, 0, 0, 0) :: (50, 15, 4, 2, 95, 3124) :: (26, 11, 14, 0, 0, 0) :: (1, 2, 0, 0, 0, 0) :: (0, 0, 0, 0, 0, 0) :: (0, 2, 600, 0, 0, 0) :: (49, 33, 8, 3, 45, 2160) :: (27, 13, 5, 0, 0, 0) :: bl_290_11 ∧ bl_290_11 = (0, 0, (-1), 0, 0, 0) :: (55, 0, 0, 0, 0, 0) :: bl_290_13 ∧ bl_290_13 = (2, 0, 0, 0, 0, 0) :: (37, 5, 0, 8, 41, 2142) :: (2, 0, 0, 0, 0, 0) :: (37, 1, 0, 8, 19, 2138) :: (1, 1, 0, 0, 0, 0) :: (1, 2, 0, 0, 0, 0) :: (50, 277, 2, 4, 327, 5126) :: (2, 0, 0, 0, 0, 0) :: (37, 5, 0, 8, 41, 2142) :: (36, 3, 0, 2, 330, 2119) :: (55, 0, 0, 0, 0, 0) :: [] := by refine ⟨?_, ?_, ?_, ?_, ?_, ?_⟩ <;> rfl
theorem cdS_291 : (mz_cd 291).drop 0 = bl_291_0 ∧ (mz_cd 291).drop 12 = bl_291_12 ∧ (mz_cd 291).drop 20 = bl_291_20 ∧ (mz_cd 291).drop 41 = bl_291_41 ∧ (mz_cd 291).drop 43 = bl_291_43 ∧ (mz_cd 291).drop 54 = bl_291_54 ∧ (mz_cd 291).drop 93 = bl_291_93 ∧ (mz_cd 291).drop 133 = bl_291_133 ∧ (mz_cd 291).drop 135 = bl_291_135 ∧ (mz_cd 291).drop 137 = bl_291_137 ∧ bl_291_0 = (1, 1, 0, 0, 0, 0) :: (2, 0, 0, 0, 0, 0) :: (36, 19, 0, 9, 240, 6133) :: (24, 12, 20, 0, 0, 0) :: (1, 1, 0, 0, 0, 0) :: (2, 0, 0, 0, 0, 0) :: (36, 19, 0, 9, 240, 6133) :: (21, 41, 66, 0, 0, 0) :: (1, 4, 0, 0, 1, 0) :: (2, 0, 0, 0, 0, 0) :: (36, 20, 0, 9, 243, 6134) :: (23, 41, 57, 0, 0, 0) :: bl_291_12 ∧ bl_291_12 = (2, 0, 0, 0, 0, 0) :: (1, 1, 0, 0, 0, 0) :: (38, 19, 0, 9, 240, 6133) :: (2, 0, 0, 0, 0, 0) :: (1, 4, 0, 0, 1, 0) :: (38, 20, 0, 9, 243, 6134) :: (0, 0, 0, 0, 0, 0) :: (3, 5, 0, 0, 1, 0) :: bl_291_20 ∧ bl_291_20 = (1, 5, 0, 0, 1, 0) :: (1, 1, 0, 0, 0, 0) :: (23, 41, 37, 0, 0, 0) :: (2, 0, 0, 0, 0, 0) :: (37, 15, 0, 9, 36, 6129) :: (1, 5, 0, 0, 1, 0) :: (2, 0, 0, 0, 0, 0) :: (37, 13, 0, 9, 30, 6127) :: (1, 5, 0, 0, 1, 0) :: (40, 0, 0, 0, 0, 0) :: (41, 0, 0, 0, 0, 0) :: (2, 0, 0, 0, 0, 0) :: (37, 16, 0, 9, 39, 6130) :: (1, 5, 0, 0, 1, 0) :: (2, 0, 0, 0, 0, 0) :: (37, 14, 0, 9, 33, 6128) :: (1, 5, 0, 0, 1, 0) :: (40, 0, 0, 0, 0, 0) :: (41, 0, 0, 0, 0, 0) :: (5, 5, 1, 0, 0, 0) :: (32, 20, (-37), 0, 0, 0) :: bl_291_41 ∧ bl_291_41 = (0, 0, 0, 0, 0, 0) :: (3, 5, 0, 0, 1, 0) :: bl_291_43 ∧ bl_291_43 = (1, 5, 0, 0, 1, 0) :: (2, 0, 0, 0, 0, 0) :: (36, 18, 0, 9, 231, 6132) :: (23, 137, 156, 0, 0, 0) :: (2, 0, 0, 0, 0, 0) :: (37, 12, 0, 9, 27, 6126) :: (1, 5, 0, 0, 1, 0) :: (40, 0, 0, 0, 0, 0) :: (3, 6, 0, 0, 1, 0) :: (0, 0, 0, 0, 0, 0) :: (3, 7, 0, 0, 1, 0) :: bl_291_54 ∧ bl_291_54 = (1, 7, 0, 0, 1, 0) :: (2, 0, 0, 0, 0, 0) :: (37, 0, 0, 9, 9, 6114) :: (0, 0, 0, 0, 0, 0) :: (40, 0, 0, 0, 0, 0) :: (23, 135, 127, 0, 0, 0) :: (1, 3, 0, 0, 0, 0) :: (1, 5, 0, 0, 1, 0) :: (15, 0, 0, 0, 0, 0) :: (0, 0, 1, 0, 0, 0) :: (11, 0, 0, 0, 0, 0) :: (27, 135, 118, 0, 0, 0) :: (2, 0, 0, 0, 0, 0) :: (1, 2, 0, 0, 0, 0) :: (2, 0, 0, 0, 0, 0) :: (1, 6, 0, 0, 1, 0) :: (0, 0, 1, 0, 0, 0) :: (50, 46, 9, 3, 161, 7054) :: (50, 51, 9, 3, 249, 7168) :: (0, 1, 10, 0, 0, 0) :: (6, 0, 0, 0, 0, 0) :: (2, 0, 0, 0, 0, 0) :: (2, 0, 0, 0, 0, 0) :: (1, 6, 0, 0, 1, 0) :: (0, 0, 1, 0, 0, 0) :: (50, 46, 9, 3, 161, 7054) :: (1, 7, 0, 0, 1, 0) :: (50, 51, 9, 3, 249, 7168) :: (6, 0, 0, 0, 0, 0) :: (3, 8, 0, 0, 1, 0) :: (2, 0, 0, 0, 0, 0) :: (37, 17, 0, 9, 42, 6131) :: (1, 7, 0, 0, 1, 0) :: (40, 0, 0, 0, 0, 0) :: (26, 133, 71, 0, 0, 0) :: (1, 8, 0, 0, 1, 0) :: (0, 3, 1000000, 0, 63, 6109) :: (22, 93, 6, 0, 0, 0) :: (32, 133, 61, 0, 0, 0) :: bl_291_93 ∧ bl_291_93 = (2, 0, 0, 0, 0, 0) :: (37, 17, 0, 9, 42, 6131) :: (1, 7, 0, 0, 1, 0) :: (69, 0, 0, 0, 0, 0) :: (40, 0, 0, 0, 0, 0) :: (0, 0, 1, 0, 0, 0) :: (7, 0, 0, 0, 0, 0) :: (41, 0, 0, 0, 0, 0) :: (2, 0, 0, 0, 0, 0) :: (37, 13, 0, 9, 30, 6127) :: (1, 1, 0, 0, 0, 0) :: (1, 6, 0, 0, 1, 0) :: (41, 0, 0, 0, 0, 0) :: (2, 0, 0, 0, 0, 0) :: (37, 14, 0, 9, 33, 6128) :: (1, 1, 0, 0, 0, 0) :: (1, 7, 0, 0, 1, 0) :: (41, 0, 0, 0, 0, 0) :: (2, 0, 0, 0, 0, 0) :: (1, 1, 0, 0, 0, 0) :: (0, 0, 1, 0, 0, 0) :: (6, 0, 0, 0, 0, 0) :: (1, 7, 0, 0, 1, 0) :: (1, 3, 0, 0, 0, 0) :: (0, 0, 1, 0, 0, 0) :: (1, 5, 0, 0, 1, 0) :: (14, 0, 0, 0, 0, 0) :: (12, 0, 0, 0, 0, 0) :: (1, 4, 0, 0, 1, 0) :: (1, 8, 0, 0, 1, 0) :: (6, 0, 0, 0, 0, 0) :: (50, 286, 9, 5, 246, 7164) :: (2, 0, 0, 0, 0, 0) :: (37, 17, 0, 9, 42, 6131) :: (1, 7, 0, 0, 1, 0) :: (69, 0, 0, 0, 0, 0) :: (40, 0, 0, 0, 0, 0) :: (0, 0, 1, 0, 0, 0) :: (6, 0, 0, 0, 0, 0) :: (41, 0, 0, 0, 0, 0) :: bl_291_133 ∧ bl_291_133 = (5, 7, 1, 0, 0, 0) :: (32, 54, (-132), 0, 0, 0) :: bl_291_135 ∧ bl_291_135 = (5, 5, 1, 0, 0, 0) :: (32, 43, (-159), 0, 0, 0) :: bl_291_137 ∧ bl_291_137 = (57, 0, 0, 0, 0, 0) :: [] := by refine ⟨?_, ?_, ?_, ?_, ?_, ?_, ?_, ?_, ?_, ?_, ?_, ?_, ?_, ?_, ?_, ?_, ?_, ?_, ?_, ?_⟩ <;> rfl
theorem cdS_292 : (mz_cd 292).drop 0 = bl_292_0 ∧ (mz_cd 292).drop 13 = bl_292_13 ∧ bl_292_0 = (2, 0, 0, 0, 0, 0) :: (37, 0, 0, 8, 10, 2137) :: (50, 287, 5, 1, 57, 2176) :: (2, 0, 0, 0, 0, 0) :: (37, 0, 0, 8, 10, 2137) :: (36, 6, 0, 5, 60, 1147) :: (26, 13, 14, 0, 0, 0) :: (0, 1, (-100), 0, 0, 0) :: (2, 0, 0, 0, 0, 0) :: (37, 0, 0, 8, 10, 2137) :: (36, 7, 0, 5, 64, 1149) :: (7, 0, 0, 0, 0, 0) :: (55, 0, 0, 0, 0, 0) :: bl_292_13 ∧ bl_292_13 = (2, 0, 0, 0, 0, 0) :: (37, 1, 0, 8, 19, 2138) :: (2, 0, 0, 0, 0, 0) :: (37, 0, 0, 8, 10, 2137) :: (37, 0, 0, 5, 67, 1141) :: (50, 240, 6, 2, 71, 3094) :: (2, 0, 0, 0, 0, 0) :: (37, 1, 0, 8, 19, 2138) :: (37, 0, 0, 6, 75, 2038) :: (36, 0, 0, 4, 76, 1102) :: (55, 0, 0, 0, 0, 0) :: [] := by refine ⟨?_, ?_, ?_, ?_⟩ <;> rfl
theorem cdS_293 : (mz_cd 293).drop 0 = bl_293_0 ∧ (mz_cd 293).drop 5 = bl_293_5 ∧ (mz_cd 293).drop 29 = bl_293_29 ∧ (mz_cd 293).drop 31 = bl_293_31 ∧ (mz_cd 293).drop 33 = bl_293_33 ∧ (mz_cd 293).drop 50 = bl_293_50 ∧ (mz_cd 293).drop 51 = bl_293_51 ∧ (mz_cd 293).drop 54 = bl_293_54 ∧ (mz_cd 293).drop 74 = bl_293_74 ∧ bl_293_0 = (2, 0, 0, 0, 0, 0) :: (0, 0, 0, 0, 0, 0) :: (38, 18, 0, 9, 231, 6132) :: (0, 0, 0, 0, 0, 0) :: (3, 1, 0, 0, 0, 0) :: bl_293_5 ∧ bl_293_5 = (1, 1, 0, 0, 0, 0) :: (0, 1, 16, 0, 0, 0) :: (23, 31, 47, 0, 0, 0) :: (2, 0, 0, 0, 0, 0) :: (1, 1, 0, 0, 0, 0) :: (50, 107, 9, 2, 228, 7152) :: (26, 29, 33, 0, 0, 0) :: (2, 0, 0, 0, 0, 0) :: (1, 1, 0, 0, 0, 0) :: (50, 151, 9, 2, 234, 7156) :: (0, 1, 6, 0, 0, 0) :: (23, 29, 23, 0, 0, 0) :: (2, 0, 0, 0, 0, 0) :: (37, 12, 0, 9, 27, 6126) :: (2, 0, 0, 0, 0, 0) :: (36, 18, 0, 9, 231, 6132) :: (1, 1, 0, 0, 0, 0) :: (41, 0, 0, 0, 0, 0) :: (2, 0, 0, 0, 0, 0) :: (18, 0, 0, 0, 0, 0) :: (36, 18, 0, 9, 231, 6132) :: (0, 0, 1, 0, 0, 0) :: (6, 0, 0, 0, 0, 0) :: (38, 18, 0, 9, 231, 6132) :: bl_293_29 ∧ bl_293_29 = (5, 1, 1, 0, 0, 0) :: (32, 5, (-47), 0, 0, 0) :: bl_293_31 ∧ bl_293_31 = (0, 0, 0, 0, 0, 0) :: (3, 1, 0, 0, 0, 0) :: bl_293_33 ∧ bl_293_33 = (1, 1, 0, 0, 0, 0) :: (0, 1, 10, 0, 0, 0) :: (23, 54, 37, 0, 0, 0) :: (2, 0, 0, 0, 0, 0) :: (37, 17, 0, 9, 42, 6131) :: (1, 1, 0, 0, 0, 0) :: (2, 0, 0, 0, 0, 0) :: (37, 0, 0, 9, 9, 6114) :: (0, 2, 223, 0, 0, 0) :: (1, 1, 0, 0, 0, 0) :: (6, 0, 0, 0, 0, 0) :: (40, 0, 0, 0, 0, 0) :: (31, 50, 11, 0, 0, 0) :: (2, 0, 0, 0, 0, 0) :: (1, 1, 0, 0, 0, 0) :: (50, 118, 9, 2, 237, 7160) :: (32, 51, 4, 0, 0, 0) :: bl_293_50 ∧ bl_293_50 = (0, 0, 0, 0, 0, 0) :: bl_293_51 ∧ bl_293_51 = (41, 0, 0, 0, 0, 0) :: (5, 1, 1, 0, 0, 0) :: (32, 33, (-37), 0, 0, 0) :: bl_293_54 ∧ bl_293_54 = (2, 0, 0, 0, 0, 0) :: (0, 0, 0, 0, 0, 0) :: (38, 19, 0, 9, 240, 6133) :: (2, 0, 0, 0, 0, 0) :: (0, 0, 0, 0, 0, 0) :: (38, 20, 0, 9, 243, 6134) :: (2, 0, 0, 0, 0, 0) :: (37, 0, 0, 9, 9, 6114) :: (0, 0, 1, 0, 0, 0) :: (40, 0, 0, 0, 0, 0) :: (28, 74, 16, 0, 0, 0) :: (2, 0, 0, 0, 0, 0) :: (0, 0, 0, 0, 0, 0) :: (2, 0, 0, 0, 0, 0) :: (37, 0, 0, 9, 9, 6114) :: (0, 0, 1, 0, 0, 0) :: (40, 0, 0, 0, 0, 0) :: (0, 0, 0, 0, 0, 0) :: (0, 0, 0, 0, 0, 0) :: (50, 291, 9, 5, 246, 7164) :: bl_293_74 ∧ bl_293_74 = (57, 0, 0, 0, 0, 0) :: [] := by refine ⟨?_, ?_, ?_, ?_, ?_, ?_, ?_, ?_, ?_, ?_, ?_, ?_, ?_, ?_, ?_, ?_, ?_, ?_⟩ <;> rfl
theorem cdS_294 : (mz_cd 294).drop 0 = bl_294_0 ∧ (mz_cd 294).drop 13 = bl_294_13 ∧ (mz_cd 294).drop 14 = bl_294_14 ∧ (mz_cd 294).drop 20 = bl_294_20 ∧ (mz_cd 294).drop 23 = bl_294_23 ∧ bl_294_0 = (2, 0, 0, 0, 0, 0) :: (50, 293, 9, 1, 252, 7148) :: (2, 0, 0, 0, 0, 0) :: (1, 1, 0, 0, 0, 0) :: (0, 0, 0, 0, 0, 0) :: (2, 0, 0, 0, 0, 0) :: (36, 19, 0, 9, 240, 6133) :: (0, 0, 1, 0, 0, 0) :: (7, 0, 0, 0, 0, 0) :: (49, 40, 9, 3, 70, 6204) :: (26, 13, 7, 0, 0, 0) :: (0, 0, 0, 0, 0, 0) :: (32, 14, 4, 0, 0, 0) :: bl_294_13 ∧ bl_294_13 = (0, 0, 1, 0, 0, 0) :: bl_294_14 ∧ bl_294_14 = (38, 4, 0, 9, 59, 6118) :: (2, 0, 0, 0, 0, 0) :: (36, 4, 0, 9, 59, 6118) :: (31, 20, 7, 0, 0, 0) :: (0, 0, 0, 0, 0, 0) :: (32, 23, 6, 0, 0, 0) :: bl_294_20 ∧ bl_294_20 = (2, 2, 0, 0, 0, 0) :: (1, 1, 0, 0, 0, 0) :: (40, 0, 0, 0, 0, 0) :: bl_294_23 ∧ bl_294_23 = (55, 0, 0, 0, 0, 0) :: [] := by refine ⟨?_, ?_, ?_, ?_, ?_, ?_, ?_, ?_, ?_, ?_⟩ <;> rfl
theorem cdS_295 : (mz_cd 295).drop 0 = bl_295_0 ∧ bl_295_0 = (2, 0, 0, 0, 0, 0) :: (0, 0, 0, 0, 0, 0) :: (38, 4, 0, 9, 59, 6118) :: (2, 0, 0, 0, 0, 0) :: (50, 293, 9, 1, 252, 7148) :: (2, 0, 0, 0, 0, 0) :: (36, 19, 0, 9, 240, 6133) :: (55, 0, 0, 0, 0, 0) :: [] := by refine ⟨?_, ?_⟩ <;> rfl
theorem cdS_296 : (mz_cd 296).drop 0 = bl_296_0 ∧ bl_296_0 = (2, 0, 0, 0, 0, 0) :: (0, 0, 0, 0, 0, 0) :: (38, 4, 0, 9, 59, 6118) :: (2, 0, 0, 0, 0, 0) :: (50, 293, 9, 1, 252, 7148) :: (2, 0, 0, 0, 0, 0) :: (36, 20, 0, 9, 243, 6134) :: (55, 0, 0, 0, 0, 0) :: [] := by refine ⟨?_, ?_⟩ <;> rfl
theorem cdS_297 : (mz_cd 297).drop 0 = bl_297_0 ∧ (mz_cd 297).drop 10 = bl_297_10 ∧ (mz_cd 297).drop 50 = bl_297_50 ∧ (mz_cd 297).drop 52 = bl_297_52 ∧ bl_297_0 = (2, 0, 0, 0, 0, 0) :: (0, 0, 0, 0, 0, 0) :: (38, 4, 0, 9, 59, 6118) :: (2, 0, 0, 0, 0, 0) :: (50, 293, 9, 1, 252, 7148) :: (2, 0, 0, 0, 0, 0) :: (36, 19, 0, 9, 240, 6133) :: (27, 10, 6, 0, 0, 0) :: (0, 1, (-3), 0, 0, 0) :: (55, 0, 0, 0, 0, 0) :: bl_297_10 ∧ bl_297_10 = (2, 0, 0, 0, 0, 0) :: (37, 15, 0, 9, 36, 6129) :: (0, 0, 0, 0, 0, 0) :: (40, 0, 0, 0, 0, 0) :: (3, 1, 0, 0, 0, 0) :: (2, 0, 0, 0, 0, 0) :: (37, 0, 0, 9, 9, 6114) :: (0, 0, 2, 0, 0, 0) :: (40, 0, 0, 0, 0, 0) :: (2, 0, 0, 0, 0, 0) :: (2, 0, 0, 0, 0, 0) :: (37, 0, 0, 9, 9, 6114) :: (0, 0, 1, 0, 0, 0) :: (40, 0, 0, 0, 0, 0) :: (2, 0, 0, 0, 0, 0) :: (1, 1, 0, 0, 0, 0) :: (0, 0, 1, 0, 0, 0) :: (50, 46, 9, 3, 161, 7054) :: (50, 51, 9, 3, 249, 7168) :: (6, 0, 0, 0, 0, 0) :: (0, 1, 10, 0, 0, 0) :: (6, 0, 0, 0, 0, 0) :: (2, 0, 0, 0, 0, 0) :: (2, 0, 0, 0, 0, 0) :: (1, 1, 0, 0, 0, 0) :: (0, 0, 1, 0, 0, 0) :: (50, 46, 9, 3, 161, 7054) :: (2, 0, 0, 0, 0, 0) :: (37, 16, 0, 9, 39, 6130) :: (0, 0, 0, 0, 0, 0) :: (40, 0, 0, 0, 0, 0) :: (50, 51, 9, 3, 249, 7168) :: (6, 0, 0, 0, 0, 0) :: (3, 2, 0, 0, 0, 0) :: (2, 0, 0, 0, 0, 0) :: (50, 41, 9, 1, 182, 7066) :: (27, 50, 10, 0, 0, 0) :: (1, 2, 0, 0, 0, 0) :: (0, 2, 10079, 0, 0, 0) :: (25, 52, 6, 0, 0, 0) :: bl_297_50 ∧ bl_297_50 = (0, 1, (-4), 0, 0, 0) :: (55, 0, 0, 0, 0, 0) :: bl_297_52 ∧ bl_297_52 = (2, 0, 0, 0, 0, 0) :: (37, 0, 0, 9, 9, 6114) :: (0, 0, 2, 0, 0, 0) :: (1, 2, 0, 0, 0, 0) :: (41, 0, 0, 0, 0, 0) :: (2, 0, 0, 0, 0, 0) :: (37, 0, 0, 9, 9, 6114) :: (0, 0, 1, 0, 0, 0) :: (2, 0, 0, 0, 0, 0) :: (37, 16, 0, 9, 39, 6130) :: (0, 0, 0, 0, 0, 0) :: (40, 0, 0, 0, 0, 0) :: (41, 0, 0, 0, 0, 0) :: (2, 0, 0, 0, 0, 0) :: (1, 1, 0, 0, 0, 0) :: (0, 0, 0, 0, 0, 0) :: (0, 0, 3, 0, 0, 0) :: (50, 48, 9, 4, 185, 7070) :: (2, 0, 0, 0, 0, 0) :: (1, 1, 0, 0, 0, 0) :: (0, 0, 1, 0, 0, 0) :: (2, 0, 0, 0, 0, 0) :: (37, 16, 0, 9, 39, 6130) :: (0, 0, 0, 0, 0, 0) :: (40, 0, 0, 0, 0, 0) :: (50, 48, 9, 4, 185, 7070) :: (2, 0, 0, 0, 0, 0) :: (1, 1, 0, 0, 0, 0) :: (0, 0, 4, 0, 0, 0) :: (2, 0, 0, 0, 0, 0) :: (1, 1, 0, 0, 0, 0) :: (0, 0, 4, 0, 0, 0) :: (50, 46, 9, 3, 161, 7054) :: (0, 2, 15000, 0, 0, 0) :: (6, 0, 0, 0, 0, 0) :: (50, 48, 9, 4, 185, 7070) :: (2, 0, 0, 0, 0, 0) :: (0, 1, 10, 0, 0, 0) :: (1, 1, 0, 0, 0, 0) :: (0, 2, 15000, 0, 0, 0) :: (50, 44, 9, 4, 189, 7074) :: (1, 1, 0, 0, 0, 0) :: (55, 0, 0, 0, 0, 0) :: [] := by refine ⟨?_, ?_, ?_, ?_, ?_, ?_, ?_, ?_⟩ <;> rfl
theorem cdS_298 : (mz_cd 298).drop 0 = bl_298_0 ∧ bl_298_0 = (2, 0, 0, 0, 0, 0) :: (1, 1, 0, 0, 0, 0) :: (2, 0, 0, 0, 0, 0) :: (37, 15, 0, 9, 36, 6129) :: (50, 294, 9, 3, 280, 8143) :: (55, 0, 0, 0, 0, 0) :: [] := by refine ⟨?_, ?_⟩ <;> rfl
theorem cdS_299 : (mz_cd 299).drop 0 = bl_299_0 ∧ bl_299_0 = (2, 0, 0, 0, 0, 0) :: (1, 1, 0, 0, 0, 0) :: (2, 0, 0, 0, 0, 0) :: (37, 16, 0, 9, 39, 6130) :: (50, 294, 9, 3, 280, 8143) :: (55, 0, 0, 0, 0, 0) :: [] := by refine ⟨?_, ?_⟩ <;> rfl
end
section
/-! What the claim's own bytes and words say of each row of the small machine: a check that the kernel runs. -/
def mz_yL : List MethodName := [yJ0_coder_7d493, yJ0_isLatin1_aae02, yJ3_checkIndex_8e157, yJ6_bitCount_0f7a4, yJ7_fill_53178, yX0_canBeTowedAt, yX0_clear, yX0_copyFrom, yX0_hadTicketShortlyBefore, yX0_isAt, yX0_unpaidTickets, yX1_has, yX1_isFull, yX3_stateIndex, yX3_tripIndex, yX4_has, yX4_zoneOrNull, yX5_fail, yX5_isBufferFull, yX5_isDigit, yX5_nextByte, yX5_spelling, yX6_carOrNull, yX8_at, yX8_contains, yX8_fullCents, yX8_hasDaySums, yX8_loadError, yX8_logCount, yX8_now, yX8_placeCount, yX8_put, yX8_truck, yX8_within, yX9_begins, yX9_cents, yX9_copies, yX9_entry, yX9_fails, yX9_here, yX9_in, yX9_isFull, yX9_loadError, yX9_logCount, yX9_logs, yX9_now, yX9_of, yX9_placeCount, yX9_set, yX9_thrown, yX9_truck, yX9_way, yJ0_checkIndex_df160, yJ0_length_8abf5, yX0_fineFor, yX0_init, yX0_owed, yX0_owesNothing, yX0_takesSpaceAt, yX1_add, yX1_init, yX1_isOn, yX1_ticketEntry, yX2_init, yX3_addTrip, yX3_countClampedBefore, yX3_init, yX3_wholeLength, yX3_worthOver, yX4_addRoad, yX4_hasPound, yX4_way, yX4_zoneAt, yX5_append, yX5_readSemicolon, yX5_skipSpaces, yX6_carsPaidTo, yX6_carsToTow, yX6_poundRoom, yX7_chargedBefore, yX7_clear, yX7_init, yX7_rateAt, yX7_setRates, yX8_clampedSince, yX8_copyRow, yX8_credit, yX8_fees, yX8_isTicketPaid, yX8_longestStay, yX8_paidUntil, yX8_placeOf, yX8_rate, yX8_setRate, yX8_state, yX8_ticketCount, yX8_zone, yX9_advance, yX9_appendByte, yX9_bought, yX9_busiestPlace, yX9_daySum, yX9_ends, yX9_finds, yX9_isAt, yX9_isCar, yX9_isPlace, yX9_isTowable, yX9_isZone, yX9_next, yX9_ofLog, yX9_oldest, yX9_over, yX9_owes, yX9_placeAt, yX9_priceOf, yX9_releases, yX9_restoreSnapshot, yX9_roomOf, yX9_saveSnapshot, yX9_ticket, yX9_tickets, yX9_trips, yX9_unpaid, yJ1_charAt_3b067, yX1_copyFrom, yX1_meterSum, yX1_mostParks, yX1_sum, yX2_lengthEndingAt, yX3_bestWorth, yX3_chooseCandidates, yX3_choosePounds, yX3_measureTrips, yX4_findWays, yX4_firstStep, yX4_setPound, yX5_readNumber, yX6_allOwed, yX6_carsOnSpaces, yX6_note, yX7_chargedMinutes, yX7_copyFrom, yX7_cost, yX7_lastsUntil, yX8_appendByte, yX8_distance, yX8_due, yX8_paidSoon, yX8_poundFree, yX8_towable, yX9_ahead, yX9_asks, yX9_carsAt, yX9_cheapestStart, yX9_distance, yX9_due, yX9_fine, yX9_free, yX9_init, yX9_isMore, yX9_leave, yX9_logAmount, yX9_logCar, yX9_logKind, yX9_logMinute, yX9_longestStay, yX9_minutesFor, yX9_nextOnWay, yX9_number, yX9_ofTicket, yX9_owedInAll, yX9_paidSoon, yX9_pay, yX9_paysTickets, yX9_poundFree, yX9_price, yX9_rate_, yX9_reads, yX9_revenue, yX9_setRate, yX9_state, yX9_ticketCount, yX9_towable, yX9_trips, yX9_zone, yJ0_charAt_5068e, yX2_considerSet, yX3_smallestBestTrip, yX3_weighStates, yX4_clear, yX4_copyFrom, yX5_readPlace, yX5_readRate, yX5_readStay, yX6_boughtUntil, yX6_bringToPound, yX6_overtimeOf, yX6_payFees, yX6_payTickets, yX6_putCar, yX6_release, yX6_spacesLeft, yX6_ticketFor, yX6_writeTicket, yX7_cheapest, yX8_busiestPlace, yX8_carsAt, yX8_daySum, yX8_nextOnWay, yX8_owedInAll, yX8_price, yX8_revenue, yX9_clampedSince, yX9_credit, yX9_fees, yX9_finesAfter, yX9_freeSpaces, yX9_inspect, yX9_isTicketPaid, yX9_overtime, yX9_paidUntil, yX9_park, yX9_payFines, yX9_place, yX9_placeOf, yX9_rate, yX9_row, yX9_ticketAmount, yX9_ticketMinute, yX9_ticketNow, yX9_trips, yX9_valueOf, yX3_takeBestTrips, yX4_init, yX5_isWordRead, yX5_readPound, yX5_readRoad, yX5_readSpaces, yX5_readZone, yX6_begin, yX6_copyFrom, yX6_countTickets, yX6_takeMoney, yX6_ticketSum, yX6_writeTickets, yX8_cheapestStart, yX8_freeSpaces, yX8_leave, yX8_minutesFor, yX8_overtime, yX8_park, yX8_pay, yX8_ticketNow, yX9_bestInspection, yX9_isWord, yX9_patrols, yX9_pound, yX9_road, yX9_ticketsAfter, yX9_trips, yX2_findValues, yX3_plan, yX5_init, yX5_readWord, yX6_bestWait, yX6_init, yX8_inspect, yX8_payFines, yX8_restoreSnapshot, yX8_saveSnapshot, yX8_ticketsAfter, yX9_patrolMinutes, yX9_patrolSet, yX9_patrolValue, yX9_statement, yX9_trips, yX2_plan, yX5_readPlaces, yX5_readStatement, yX8_bestInspection, yX8_init, yX8_tourLength, yX8_tourMinutes, yX8_towNext, yX9_load, yX9_trips, yX5_readBuffer, yX8_patrolMinutes, yX8_patrolSet, yX8_patrolValue, yX9_trips, yX8_load, yX9_tours, yX9_ofTour, yX9_tourLength, yX9_tourMinutes, yX9_towNext, yX9_tourCar, yX9_tourPound]
def mz_y (k : Nat) : MethodName := mz_yL.getD k yX8_at
def mz_bL : List ByteArray := [cJ0_coder_7d493, cJ0_isLatin1_aae02, cJ3_checkIndex_8e157, cJ6_bitCount_0f7a4, cJ7_fill_53178, cX0_canBeTowedAt, cX0_clear, cX0_copyFrom, cX0_hadTicketShortlyBefore, cX0_isAt, cX0_unpaidTickets, cX1_has, cX1_isFull, cX3_stateIndex, cX3_tripIndex, cX4_has, cX4_zoneOrNull, cX5_fail, cX5_isBufferFull, cX5_isDigit, cX5_nextByte, cX5_spelling, cX6_carOrNull, cX8_at, cX8_contains, cX8_fullCents, cX8_hasDaySums, cX8_loadError, cX8_logCount, cX8_now, cX8_placeCount, cX8_put, cX8_truck, cX8_within, cX9_begins, cX9_cents, cX9_copies, cX9_entry, cX9_fails, cX9_here, cX9_in, cX9_isFull, cX9_loadError, cX9_logCount, cX9_logs, cX9_now, cX9_of, cX9_placeCount, cX9_set, cX9_thrown, cX9_truck, cX9_way, cJ0_checkIndex_df160, cJ0_length_8abf5, cX0_fineFor, cX0_init, cX0_owed, cX0_owesNothing, cX0_takesSpaceAt, cX1_add, cX1_init, cX1_isOn, cX1_ticketEntry, cX2_init, cX3_addTrip, cX3_countClampedBefore, cX3_init, cX3_wholeLength, cX3_worthOver, cX4_addRoad, cX4_hasPound, cX4_way, cX4_zoneAt, cX5_append, cX5_readSemicolon, cX5_skipSpaces, cX6_carsPaidTo, cX6_carsToTow, cX6_poundRoom, cX7_chargedBefore, cX7_clear, cX7_init, cX7_rateAt, cX7_setRates, cX8_clampedSince, cX8_copyRow, cX8_credit, cX8_fees, cX8_isTicketPaid, cX8_longestStay, cX8_paidUntil, cX8_placeOf, cX8_rate, cX8_setRate, cX8_state, cX8_ticketCount, cX8_zone, cX9_advance, cX9_appendByte, cX9_bought, cX9_busiestPlace, cX9_daySum, cX9_ends, cX9_finds, cX9_isAt, cX9_isCar, cX9_isPlace, cX9_isTowable, cX9_isZone, cX9_next, cX9_ofLog, cX9_oldest, cX9_over, cX9_owes, cX9_placeAt, cX9_priceOf, cX9_releases, cX9_restoreSnapshot, cX9_roomOf, cX9_saveSnapshot, cX9_ticket, cX9_tickets, cX9_trips, cX9_unpaid, cJ1_charAt_3b067, cX1_copyFrom, cX1_meterSum, cX1_mostParks, cX1_sum, cX2_lengthEndingAt, cX3_bestWorth, cX3_chooseCandidates, cX3_choosePounds, cX3_measureTrips, cX4_findWays, cX4_firstStep, cX4_setPound, cX5_readNumber, cX6_allOwed, cX6_carsOnSpaces, cX6_note, cX7_chargedMinutes, cX7_copyFrom, cX7_cost, cX7_lastsUntil, cX8_appendByte, cX8_distance, cX8_due, cX8_paidSoon, cX8_poundFree, cX8_towable, cX9_ahead, cX9_asks, cX9_carsAt, cX9_cheapestStart, cX9_distance, cX9_due, cX9_fine, cX9_free, cX9_init, cX9_isMore, cX9_leave, cX9_logAmount, cX9_logCar, cX9_logKind, cX9_logMinute, cX9_longestStay, cX9_minutesFor, cX9_nextOnWay, cX9_number, cX9_ofTicket, cX9_owedInAll, cX9_paidSoon, cX9_pay, cX9_paysTickets, cX9_poundFree, cX9_price, cX9_rate_, cX9_reads, cX9_revenue, cX9_setRate, cX9_state, cX9_ticketCount, cX9_towable, cX9_trips, cX9_zone, cJ0_charAt_5068e, cX2_considerSet, cX3_smallestBestTrip, cX3_weighStates, cX4_clear, cX4_copyFrom, cX5_readPlace, cX5_readRate, cX5_readStay, cX6_boughtUntil, cX6_bringToPound, cX6_overtimeOf, cX6_payFees, cX6_payTickets, cX6_putCar, cX6_release, cX6_spacesLeft, cX6_ticketFor, cX6_writeTicket, cX7_cheapest, cX8_busiestPlace, cX8_carsAt, cX8_daySum, cX8_nextOnWay, cX8_owedInAll, cX8_price, cX8_revenue, cX9_clampedSince, cX9_credit, cX9_fees, cX9_finesAfter, cX9_freeSpaces, cX9_inspect, cX9_isTicketPaid, cX9_overtime, cX9_paidUntil, cX9_park, cX9_payFines, cX9_place, cX9_placeOf, cX9_rate, cX9_row, cX9_ticketAmount, cX9_ticketMinute, cX9_ticketNow, cX9_trips, cX9_valueOf, cX3_takeBestTrips, cX4_init, cX5_isWordRead, cX5_readPound, cX5_readRoad, cX5_readSpaces, cX5_readZone, cX6_begin, cX6_copyFrom, cX6_countTickets, cX6_takeMoney, cX6_ticketSum, cX6_writeTickets, cX8_cheapestStart, cX8_freeSpaces, cX8_leave, cX8_minutesFor, cX8_overtime, cX8_park, cX8_pay, cX8_ticketNow, cX9_bestInspection, cX9_isWord, cX9_patrols, cX9_pound, cX9_road, cX9_ticketsAfter, cX9_trips, cX2_findValues, cX3_plan, cX5_init, cX5_readWord, cX6_bestWait, cX6_init, cX8_inspect, cX8_payFines, cX8_restoreSnapshot, cX8_saveSnapshot, cX8_ticketsAfter, cX9_patrolMinutes, cX9_patrolSet, cX9_patrolValue, cX9_statement, cX9_trips, cX2_plan, cX5_readPlaces, cX5_readStatement, cX8_bestInspection, cX8_init, cX8_tourLength, cX8_tourMinutes, cX8_towNext, cX9_load, cX9_trips, cX5_readBuffer, cX8_patrolMinutes, cX8_patrolSet, cX8_patrolValue, cX9_trips, cX8_load, cX9_tours, cX9_ofTour, cX9_tourLength, cX9_tourMinutes, cX9_towNext, cX9_tourCar, cX9_tourPound]
def mz_b (k : Nat) : ByteArray := mz_bL.getD k cX8_at
def mz_rL : List (Option FieldType) := [some (.byte), some (.boolean), some (.int), some (.int), none, some (.boolean), none, none, some (.boolean), some (.boolean), some (.int), some (.boolean), some (.boolean), some (.int), some (.int), some (.boolean), some (.object "ParkingEnforcement$Zone"), none, some (.boolean), some (.boolean), some (.int), some (.object "java/lang/String"), some (.object "ParkingEnforcement$Car"), some (.int), some (.boolean), some (.int), some (.boolean), some (.int), some (.int), some (.int), some (.int), none, some (.int), some (.boolean), none, some (.int), none, some (.int), none, some (.int), some (.boolean), some (.boolean), some (.int), some (.int), none, some (.int), some (.int), some (.int), none, some (.int), some (.int), some (.int), none, some (.int), some (.int), none, some (.int), some (.boolean), some (.boolean), none, none, some (.boolean), some (.int), none, none, some (.int), none, some (.int), some (.int), none, some (.boolean), some (.int), some (.object "ParkingEnforcement$Zone"), some (.int), none, none, some (.int), some (.int), some (.int), some (.int), none, none, some (.int), none, some (.int), none, some (.int), some (.int), some (.boolean), some (.int), some (.int), some (.int), some (.int), some (.int), some (.int), some (.int), some (.int), some (.int), some (.int), some (.int), some (.int), some (.int), some (.int), none, some (.boolean), some (.boolean), some (.boolean), some (.boolean), some (.boolean), some (.int), some (.int), some (.int), some (.int), some (.int), some (.int), some (.int), none, some (.int), some (.int), some (.int), some (.int), some (.int), none, some (.int), some (.char), none, some (.int), some (.int), some (.int), some (.int), some (.int), none, none, none, none, some (.int), none, some (.int), some (.int), some (.int), none, some (.int), none, some (.int), some (.int), some (.int), some (.int), some (.int), some (.int), some (.int), some (.int), some (.int), some (.int), some (.int), some (.int), some (.int), some (.int), some (.int), some (.int), none, some (.boolean), some (.int), some (.int), some (.int), some (.int), some (.int), some (.int), some (.int), some (.int), some (.int), some (.int), some (.int), some (.int), some (.int), none, some (.int), some (.int), some (.int), none, some (.int), some (.int), some (.int), some (.int), some (.int), none, some (.int), some (.char), none, some (.int), none, none, none, some (.int), none, none, some (.int), none, some (.int), none, none, none, none, some (.int), some (.int), none, some (.int), some (.int), some (.int), some (.int), some (.int), some (.int), some (.int), some (.int), some (.int), some (.int), some (.int), some (.int), some (.int), some (.int), some (.boolean), some (.int), some (.int), some (.int), some (.int), some (.int), some (.int), none, none, some (.int), some (.int), some (.int), none, some (.int), none, none, some (.boolean), none, none, none, none, none, none, some (.int), none, some (.int), some (.int), some (.int), some (.int), some (.int), some (.int), some (.int), some (.int), some (.int), some (.int), some (.int), some (.boolean), some (.boolean), none, none, some (.int), none, some (.int), none, none, some (.int), some (.int), none, some (.int), some (.int), some (.int), some (.int), some (.int), some (.int), some (.int), some (.int), none, none, none, none, none, some (.int), none, some (.int), some (.int), some (.int), some (.int), none, none, some (.int), some (.int), some (.int), none, some (.int), none, some (.int), some (.int), some (.int), some (.int), some (.int), some (.int)]
def mz_rt (k : Nat) : Option FieldType := mz_rL.getD k none
def mz_dL : List Nat := [1, 1, 1, 1, 1, 1, 1, 1, 1, 1, 1, 1, 1, 1, 1, 1, 1, 1, 1, 1, 1, 1, 1, 1, 1, 1, 1, 1, 1, 1, 1, 1, 1, 1, 1, 1, 1, 1, 1, 1, 1, 1, 1, 1, 1, 1, 1, 1, 1, 1, 1, 1, 2, 2, 2, 2, 2, 2, 2, 2, 2, 2, 2, 2, 2, 2, 2, 2, 2, 2, 2, 2, 2, 2, 2, 2, 2, 2, 2, 2, 2, 2, 2, 2, 2, 2, 2, 2, 2, 2, 2, 2, 2, 2, 2, 2, 2, 2, 2, 2, 2, 2, 2, 2, 2, 2, 2, 2, 2, 2, 2, 2, 2, 2, 2, 2, 2, 2, 2, 2, 2, 2, 2, 2, 3, 3, 3, 3, 3, 3, 3, 3, 3, 3, 3, 3, 3, 3, 3, 3, 3, 3, 3, 3, 3, 3, 3, 3, 3, 3, 3, 3, 3, 3, 3, 3, 3, 3, 3, 3, 3, 3, 3, 3, 3, 3, 3, 3, 3, 3, 3, 3, 3, 3, 3, 3, 3, 3, 3, 3, 3, 3, 3, 3, 3, 3, 4, 4, 4, 4, 4, 4, 4, 4, 4, 4, 4, 4, 4, 4, 4, 4, 4, 4, 4, 4, 4, 4, 4, 4, 4, 4, 4, 4, 4, 4, 4, 4, 4, 4, 4, 4, 4, 4, 4, 4, 4, 4, 4, 4, 4, 4, 4, 5, 5, 5, 5, 5, 5, 5, 5, 5, 5, 5, 5, 5, 5, 5, 5, 5, 5, 5, 5, 5, 5, 5, 5, 5, 5, 5, 5, 6, 6, 6, 6, 6, 6, 6, 6, 6, 6, 6, 6, 6, 6, 6, 6, 7, 7, 7, 7, 7, 7, 7, 7, 7, 7, 8, 8, 8, 8, 8, 9, 9, 10, 10, 10, 10, 11, 11]
def mz_dep (k : Nat) : Nat := mz_dL.getD k 0
def mz_nL : List Nat := [1, 1, 3, 1, 2, 2, 1, 2, 2, 3, 1, 2, 1, 3, 3, 2, 2, 3, 1, 1, 1, 1, 2, 2, 2, 1, 1, 1, 1, 1, 1, 3, 1, 3, 2, 3, 4, 3, 3, 1, 3, 1, 1, 1, 4, 1, 3, 1, 4, 1, 1, 3, 2, 1, 2, 2, 1, 1, 2, 5, 1, 4, 3, 1, 4, 4, 1, 1, 6, 4, 2, 3, 2, 2, 1, 1, 3, 1, 2, 2, 1, 1, 2, 4, 2, 2, 2, 2, 3, 2, 2, 2, 3, 4, 2, 2, 2, 2, 2, 4, 2, 3, 4, 1, 3, 1, 2, 2, 1, 1, 3, 2, 2, 2, 2, 4, 2, 2, 2, 2, 3, 2, 5, 2, 2, 2, 4, 2, 3, 4, 4, 2, 2, 2, 1, 3, 3, 3, 1, 2, 4, 3, 2, 3, 4, 2, 3, 2, 3, 2, 1, 2, 5, 2, 3, 3, 2, 2, 2, 1, 1, 2, 2, 2, 2, 2, 2, 3, 3, 3, 4, 1, 3, 3, 2, 2, 4, 3, 1, 3, 4, 2, 2, 1, 5, 2, 2, 4, 4, 1, 1, 2, 1, 1, 1, 4, 3, 2, 2, 2, 3, 2, 2, 3, 3, 3, 2, 2, 3, 3, 1, 4, 3, 2, 2, 2, 3, 2, 2, 3, 2, 2, 3, 3, 1, 2, 1, 5, 3, 3, 2, 5, 2, 2, 1, 2, 1, 1, 1, 1, 2, 2, 3, 3, 3, 2, 3, 2, 2, 3, 2, 3, 3, 2, 3, 2, 3, 1, 1, 3, 5, 2, 2, 1, 1, 3, 1, 2, 3, 2, 2, 3, 3, 3, 3, 1, 5, 4, 1, 1, 3, 1, 1, 1, 1, 1, 5, 1, 3, 3, 3, 5, 1, 1, 3, 1, 1, 1, 2, 2]
def mz_na (k : Nat) : Nat := mz_nL.getD k 0
set_option maxRecDepth 100000 in
def mz_pL : List (List Nat) := [[0, 3, 6, 7, 10, 13, 14, 15], [0, 3, 6, 7, 10, 13, 14, 17, 18, 19], [0, 1, 4, 5, 6, 9, 10, 11, 12, 15, 16, 17, 18], [0, 1, 2, 3, 4, 7, 8, 9, 10, 11, 14, 15, 16, 17, 18, 21, 22, 23, 24, 25, 26, 27, 28, 29, 32, 33, 34, 35, 36, 38, 39, 40, 41, 42, 43, 45, 46, 47, 48, 49, 51, 52, 53], [0, 1, 2, 3, 4, 5, 6, 7, 10, 11, 12, 13, 14, 17, 20, 21], [0, 1, 4, 5, 8, 9, 12, 13, 16, 17, 20, 21, 24, 25, 26], [0, 1, 2, 5, 6, 7, 10, 11, 12, 15, 16, 17, 20, 21, 22, 25, 26, 27, 30, 31, 32, 35, 36, 37, 40, 41, 42, 45, 46, 47, 50, 51], [0, 1, 2, 5, 8, 9, 10, 13, 16, 17, 18, 21, 24, 25, 26, 29, 32, 33, 34, 37, 40, 41, 42, 45, 48, 49, 50, 53, 56, 57, 58, 61, 64, 65, 66, 69, 72, 73, 74, 77, 80, 81], [0, 1, 4, 7, 8, 11, 12, 14, 15, 18, 19, 22, 23, 24], [0, 1, 4, 5, 8, 9, 12, 13, 16, 17, 20, 21, 22], [0, 1, 4, 5, 8, 9, 10], [0, 1, 4, 5, 6, 9, 12, 13, 16, 17, 18], [0, 1, 4, 7, 10, 11, 14, 15, 16], [0, 1, 3, 4, 5, 6, 7, 8, 9, 10, 11], [0, 1, 3, 4, 5, 6, 7, 8, 9, 10, 11], [0, 1, 4, 5, 6, 9, 12, 13, 16, 17, 18], [0, 1, 4, 5, 6, 9, 10, 13, 14, 17, 18, 19, 22, 23, 24], [0, 1, 4, 7, 8, 9, 12, 13, 14, 17, 18], [0, 1, 4, 7, 10, 11, 14, 15, 16], [0, 1, 3, 6, 7, 9, 12, 13, 16, 17, 18], [0, 1, 4, 7, 8, 11, 12, 15, 18, 19, 22, 23, 26, 27, 30, 31, 34, 35, 38, 39, 42, 43, 44], [0, 1, 40, 42, 43, 45, 46, 48, 49, 51, 52, 54, 55, 57, 58, 60, 61], [0, 1, 4, 5, 6, 9, 10, 13, 14, 17, 18, 19, 22, 23, 24], [0, 1, 4, 5, 6, 7, 10, 11, 12, 13, 16, 17, 18], [0, 1, 2, 3, 4, 5, 8, 9, 12, 13, 14], [0, 1, 3, 4, 6, 7, 8], [0, 1, 52, 53, 54, 55, 56], [0, 1, 4, 7, 8], [0, 1, 4, 7, 10, 11], [0, 1, 4, 7, 8], [0, 1, 4, 7, 10, 11], [0, 1, 4, 5, 6, 7, 10, 11, 12, 13, 14, 15], [0, 1, 4, 7, 8, 11, 13, 16, 17, 20, 23, 24], [0, 1, 2, 5, 6, 7, 10, 11, 14, 15, 16], [0, 1, 2, 3, 6, 9, 10, 11, 12, 13, 16, 19, 20, 21, 22, 23, 24, 25, 27, 28, 29, 30, 31, 33, 36, 37, 40, 41, 42, 43, 44, 47, 50, 51, 52, 53, 54, 57, 58, 61, 62, 63, 65, 66, 69, 72, 73, 74, 75, 77, 80, 81, 82, 83, 84, 86, 87, 90, 93, 94], [0, 1, 4, 7, 9, 10, 13, 16, 17, 18, 19, 20, 21, 22, 24, 25, 27, 28, 29, 30, 31], [0, 1, 3, 5, 8, 11, 12, 15, 16, 17, 19, 20, 21, 24, 25, 26, 28, 29, 30, 31, 34, 37, 38], [0, 1, 4, 7, 8, 9, 10, 11, 12, 13, 14, 15], [0, 1, 4, 7, 8, 9, 12, 13, 14, 17, 18], [0, 1, 4, 5, 8, 11, 12, 15, 16, 19, 20, 23, 24, 27, 28, 29], [0, 1, 2, 5, 6, 7, 10, 11, 14, 15, 16], [0, 1, 4, 7, 8, 11, 14, 15, 18, 19, 20], [0, 1, 2, 5, 6, 9, 10], [0, 1, 2, 5, 6, 9, 12, 13, 14], [0, 3, 4, 5, 8, 11, 12, 13, 14, 16, 17, 20, 22, 23, 24, 25, 28, 29, 30, 31, 32, 35, 37, 38, 39, 40, 41, 42, 45, 47, 48, 49, 50, 51, 52, 55, 57, 58, 59, 60, 61, 62, 65, 67, 68, 69, 70, 71, 72, 75, 78, 79, 80, 81, 82, 83, 84], [0, 1, 2, 5, 6, 9, 10, 11, 12], [0, 1, 4, 7, 9, 10, 11, 12, 13, 14, 15, 16], [0, 1, 2, 5, 6, 9, 10, 11, 12], [0, 1, 4, 7, 9, 10, 11, 12, 13, 14, 15, 16, 17], [0, 1, 4, 5], [0, 1, 2, 5, 6, 9, 10, 11, 12], [0, 1, 4, 6, 8, 9, 10, 11, 12, 13, 14, 15], [0, 1, 2, 5, 8, 9, 10], [0, 1, 4, 5, 6, 9, 10, 11], [0, 1, 3, 6, 9, 12, 13, 15, 18, 21, 24, 27, 28, 29, 32, 33, 34, 37, 40, 41, 42, 43], [0, 1, 4, 5, 6, 9, 10], [0, 1, 2, 5, 6, 9, 10, 11, 14, 15, 18, 19], [0, 1, 4, 7, 8, 11, 14, 15, 18, 19, 20], [0, 1, 2, 3, 6, 9, 10, 11, 12, 15, 18, 19, 22, 23, 24], [0, 1, 4, 7, 10, 11, 14, 15, 18, 19, 22, 23, 26, 27, 30, 31, 34, 35, 38, 39, 42, 43, 46, 47, 50, 51, 54, 56, 59, 60, 61, 64, 65, 66, 69, 70], [0, 1, 4, 5, 8, 10, 13, 14, 17, 19, 22, 23, 26, 28, 31, 32, 35, 37, 40, 41, 43, 45, 48, 49, 51, 53, 56, 57], [0, 1, 4, 5, 8, 9, 12, 13, 16, 17, 20, 23, 24, 25, 28, 29, 32, 33, 34], [0, 1, 2, 3, 5, 7, 8, 11, 14, 15, 18, 20, 23, 24, 27, 28, 31, 33, 36, 37, 40, 41, 42, 45, 47, 48, 51, 54, 57, 58, 59], [0, 1, 4, 5, 7, 9, 12, 13, 16, 18, 21, 22], [0, 1, 4, 5, 8, 9, 12, 13, 16, 19, 20, 23, 24, 27, 28, 31, 32, 35, 38, 39, 42, 43, 46, 47, 50, 51, 52, 53, 56, 59, 62, 63, 64, 67, 68, 69, 72, 73], [0, 1, 3, 4, 7, 9, 11, 12, 14, 15, 17, 19, 21, 24, 26, 28, 29, 31, 33, 36, 37, 40, 43, 45, 48, 49, 52, 55, 57, 60, 61, 64, 67, 68, 71, 72, 74, 75, 77, 80, 83, 86, 88, 91, 94, 97, 100, 102, 103], [0, 1, 4, 5, 7, 9, 12, 13, 15, 17, 20, 21, 22, 24, 27, 28, 29, 31, 34, 35, 37, 39, 42, 43, 46, 48, 51, 52, 54, 56, 59, 60, 62, 64, 67, 68, 70, 72, 75, 76], [0, 1, 2, 3, 4, 5, 6, 9, 12, 13, 14, 17, 18, 21, 22, 23, 26, 29, 30, 31], [0, 2, 5, 6, 9, 10, 13, 14, 15, 17, 18, 21, 22, 24, 26, 29, 32, 34, 35, 37, 40, 43, 45, 46, 49, 51, 54, 57, 59, 61, 64, 65, 66, 68, 71, 72, 73, 74, 77, 78, 80, 82, 84, 85, 86, 89, 90, 91, 93, 94, 95, 97, 99, 102, 105, 106, 107], [0, 1, 2, 5, 6, 8, 9, 10, 11, 14, 17, 19, 20, 23, 24, 26, 27, 28, 29, 31, 34, 35, 38, 39, 41, 42, 43, 44, 46, 49, 50], [0, 1, 4, 5, 8, 11, 12, 15, 16, 17], [0, 1, 4, 5, 7, 8, 9, 10, 13, 14], [0, 1, 2, 5, 6, 9, 12, 13, 14, 17, 18, 21, 22, 23, 26, 27, 28], [0, 1, 4, 5, 8, 9, 12, 13, 14, 17, 18, 19, 22, 23, 26, 27], [0, 1, 4, 6, 9, 10, 11, 14, 15, 16, 19, 22, 23, 24, 25, 28, 31, 32], [0, 1, 4, 5, 8, 11, 12, 15, 17, 20, 21, 22, 25, 26, 27, 30, 33, 34], [0, 1, 2, 3, 6, 8, 10, 11, 13, 14, 16, 18, 20, 23, 25, 27, 28, 30, 32, 33, 34, 37, 40, 42, 45, 46, 49, 50, 51, 53, 56, 57, 58, 59, 62, 65, 66, 67], [0, 1, 2, 3, 6, 7, 8, 9, 10, 11, 13, 15, 16, 19, 20, 22, 23, 25, 27, 28, 31, 34, 37, 38, 39, 41, 44, 45, 46, 47, 50, 53, 54, 55], [0, 1, 4, 7, 8, 11, 12, 13, 16, 17, 18, 19, 21, 22, 24, 26, 28, 31, 32, 34, 35, 37, 39, 40, 41, 44, 47, 50, 53, 56, 57, 58], [0, 1, 4, 5, 6, 7, 8, 9, 11, 12, 14, 16, 17, 20, 21, 24, 25, 28, 30, 31, 34, 37, 39, 40, 42, 43, 45, 47, 48, 49, 52, 55, 56, 58, 61, 64, 65, 68, 69, 70, 71, 73, 74, 75], [0, 1, 4, 5, 8, 9, 11, 14, 15], [0, 1, 4, 5, 7, 9, 12, 13, 15, 18, 19], [0, 1, 4, 5, 7, 8, 10, 11, 14, 15], [0, 1, 3, 5, 6, 9, 10, 13, 15, 16, 19, 22, 25, 26], [0, 1, 4, 5, 8, 9, 10, 13, 14, 15, 16, 19, 20, 23, 24, 27, 30, 32, 33], [0, 1, 2, 3, 4, 5, 6, 7, 8, 11, 14, 15], [0, 1, 4, 5, 8, 9, 10, 13, 14, 17, 18, 21, 22], [0, 1, 4, 5, 8, 9, 10, 13, 14, 17, 18, 21, 22], [0, 1, 4, 5, 8, 9, 10, 13, 14, 17, 18, 19, 22, 25, 26, 29, 30, 31], [0, 1, 4, 7, 8, 11, 12, 13, 16, 17, 20, 21, 24, 25], [0, 1, 4, 5, 8, 9, 10, 13, 14, 15, 16, 19, 20, 23, 24, 27, 30, 32, 33], [0, 1, 4, 5, 8, 9, 10, 13, 14, 15, 16, 19, 22, 24, 27, 28, 31, 32], [0, 1, 4, 7, 8, 11, 12, 13, 16, 17, 18, 20, 23, 26, 27, 28, 29, 32, 33, 36, 37], [0, 1, 4, 7, 8, 11, 13, 15, 18, 19, 20, 22, 25, 28, 29, 30, 33, 36, 39, 40, 41, 43, 46, 47, 50, 52, 54, 57, 58, 59, 62, 64, 65], [0, 1, 4, 5, 8, 9, 10, 13, 14, 17, 18, 21, 22], [0, 1, 4, 5, 8, 9, 10, 13, 14, 17, 18, 21, 22], [0, 1, 4, 7, 8, 11, 14, 15, 18, 21, 24, 25, 28, 31, 32, 33], [0, 1, 2, 3, 6, 9, 12, 13, 16, 17, 20, 21, 24, 27, 28, 29, 30, 33, 34, 35, 36, 37, 40, 43, 45, 46, 47, 50, 51, 52, 53, 54, 55, 56, 57, 60, 61, 62, 63], [0, 1, 2, 5, 6, 7, 10, 13, 16, 17, 20, 23, 26, 27, 28, 29, 32, 33, 36, 37, 38, 39, 40, 41, 44, 45, 46, 49, 50, 53, 54], [0, 1, 3, 5, 6, 7, 9, 11, 12, 15, 16, 17, 18, 21, 24, 25, 28, 31, 32, 33, 34, 35, 36, 37, 40, 41, 42, 44, 47, 49, 52, 54, 55, 56, 58, 61, 62, 64, 67, 70, 72, 73], [0, 1, 2, 5, 6, 7, 9, 12, 15, 16, 17, 19, 20, 21, 22, 23, 25, 27, 28, 31, 32, 33, 36, 37, 39, 40, 42, 44, 45, 48, 51, 52, 55, 57, 58, 60, 61, 64, 65, 68, 69, 71, 72, 75, 77, 80, 81, 83, 84, 87, 90, 91, 92, 95, 96, 99, 100, 101, 103, 106, 109, 111, 112, 115, 117, 118, 120, 121, 124, 127, 128, 129], [0, 1, 2, 5, 6, 7, 9, 12, 15, 16, 17, 20, 21, 22, 24, 27, 30, 31, 33, 36, 37, 38, 39, 40, 41, 43, 45, 46, 49, 52, 53, 56, 57, 58, 60, 61, 64, 65, 68, 69, 71, 72, 75, 78, 79, 80, 83, 84, 86, 87, 90, 93, 94, 95, 96, 99, 102, 103, 104], [0, 1, 2, 3, 4, 5, 6, 7, 9, 11, 14, 15, 16, 17, 20, 21, 22, 25, 27, 29, 30, 32, 34, 35, 38, 39, 40, 43, 45, 47, 48, 49, 50, 51, 54, 56, 57, 60, 62, 64, 65, 67, 68, 69, 70, 72, 73, 76, 77, 78, 79, 82, 84, 87, 90, 92, 94, 97, 98], [0, 1, 2, 3, 5, 8, 9, 10, 11, 13, 16, 17, 19, 21, 22, 23, 24, 25, 26, 27, 28, 31, 32, 35, 36, 37, 39, 40, 41, 42, 43, 44, 45, 46, 49, 52, 55, 58, 59, 60, 61, 63, 66, 67, 68, 69, 71, 74, 75, 76, 77, 79, 82, 83, 85, 87, 88, 89, 90, 91, 92, 93, 94, 96, 98, 99, 100, 101, 102, 103, 104, 105, 107, 108, 110, 112, 113, 114, 115, 116, 117, 118, 120, 122, 123, 124, 125, 126, 127, 128, 130, 133, 134, 137, 140, 143, 146, 149, 152, 153], [0, 1, 2, 3, 6, 7, 8, 11, 14, 15, 16, 17, 20, 21, 24, 25, 28, 29, 30], [0, 1, 2, 4, 7, 8], [0, 1, 2, 3, 6, 7, 8, 9, 10, 13, 14], [0, 1, 2, 3, 6, 7, 10, 11, 14, 15, 16, 17, 18, 19, 22, 25, 26, 29, 30, 33, 34, 35], [0, 1, 2, 3, 6, 7], [0, 1, 4, 6, 9, 10, 11, 14, 15, 16, 19, 22, 23, 24, 27, 30, 31, 34, 35], [0, 1, 2, 3, 4, 7, 10, 11, 12, 13, 16, 19, 20, 23, 24, 27, 28, 31, 34, 35, 38, 39, 40, 41, 44, 45], [0, 1, 2, 3, 4, 7, 10, 11, 14, 15, 16, 17, 20, 21, 24, 25, 26, 27, 30, 31, 34, 35, 36, 37, 40, 43, 44, 45, 48, 51, 52, 53], [0, 1, 2, 3, 4, 5, 8, 9, 10, 11, 14, 15, 16, 19, 20, 21, 22, 23, 24, 27, 28, 31, 34, 35, 38, 39, 40, 41, 44, 47, 48, 49], [0, 1, 2, 3, 6, 7, 8, 9, 12, 13, 14, 15, 16, 17, 18, 21, 24, 25, 28, 29, 30, 31, 32, 35, 36, 39, 40, 41, 42, 45, 46, 49, 50, 51, 52, 55, 58, 59, 60, 61, 64, 67, 68, 69, 70, 73, 76, 77, 78, 81, 82], [0, 1, 2, 3, 4, 5, 8, 9, 12, 13, 14, 15, 18, 19, 20, 21, 24, 27, 30, 33, 34, 35, 36, 39, 40], [0, 1, 3, 4, 6, 8, 9, 10, 11, 14, 16, 17, 18, 20, 23, 24, 26, 29, 32, 34, 36, 37, 39, 40, 41], [0, 1, 2, 3, 6, 7, 10, 11, 12, 13, 14, 17, 18, 19, 20, 21, 24, 25, 26, 29, 30, 32, 33, 34, 35, 36, 39, 42, 45, 46, 47, 48, 51, 52, 55, 56, 57, 58, 59, 62, 63, 65, 66, 67, 68, 69, 72, 75, 76], [0, 1, 2, 5, 6, 7, 8, 11, 14, 15, 16, 17, 20, 21, 22, 25, 27, 28, 29, 32, 33, 34, 37, 38, 41, 42, 45, 46, 47, 48], [0, 1, 4, 7, 8, 9, 10, 11, 12, 13, 14, 16, 19, 20, 21, 22, 23, 26, 27, 30, 31, 32, 33, 36, 37, 40, 41, 44, 45, 46, 47, 50, 53, 54, 55], [0, 1, 2, 5, 6, 7, 8, 11, 14, 15, 16, 17, 20, 21, 22, 25, 26, 29, 30, 33, 34, 35, 36, 37, 40, 41, 42, 43], [0, 1, 2, 3, 5, 7, 8, 11, 14, 15, 18, 19, 22, 23, 25, 26, 29, 30, 33, 34, 36, 37, 40, 41, 44, 47, 48, 51, 53, 54, 57, 60, 63, 64, 65], [0, 1, 2, 3, 4, 5, 6, 9, 12, 13, 16, 17, 18, 19, 20, 23, 24, 27, 28, 29, 30, 33, 34, 37, 38, 41, 42, 43, 44, 47, 50, 51, 52], [0, 1, 2, 5, 8, 9, 10, 13, 16, 18, 19, 22, 25, 26, 27, 30, 31, 33, 36, 37, 39, 41, 42, 45, 46, 49, 51, 52, 55, 57, 58, 59, 60, 63, 65, 66, 69, 71, 72, 73, 76, 79, 80, 82, 84, 85, 88, 91, 92, 95, 97, 98, 100, 101, 103, 105, 106, 109, 110, 111, 114, 115, 117, 118, 119, 120, 123, 124, 125, 126, 128, 129, 132, 135, 137, 138, 139, 140, 142, 143, 146, 148, 151, 152, 154, 155, 158, 160, 161, 164, 166, 168, 171, 174, 175, 178, 180, 181, 182, 183, 184, 185, 186, 189, 190, 192, 193, 194, 197, 198, 200, 201, 202, 203, 204, 205, 207, 208, 209, 211, 212, 213, 215, 217, 218, 221, 222, 225, 227, 228, 229, 230, 231, 232, 235, 238, 241, 244, 245], [0, 1, 2, 3, 4, 5, 6, 9, 12, 13, 16, 17, 18, 19, 20, 23, 24, 27, 28, 29, 30, 33, 34, 37, 38, 39, 40, 43, 46, 47, 50, 51, 52, 53, 56, 59, 60, 61], [0, 1, 2, 3, 6, 7, 8, 9, 12, 13, 14, 15], [0, 1, 2, 5, 8, 9, 12, 13, 16, 19, 20, 23, 24, 27, 30, 31, 34, 35, 38, 41, 42, 45, 46, 49, 52, 53], [0, 1, 3, 4, 6, 8, 9, 12, 15, 16, 19, 21, 24, 26, 27, 30, 32, 35, 36, 39, 40, 43, 45, 46, 49, 51, 54, 57, 58, 60, 61, 62, 65, 68, 69, 72, 73, 76, 78, 81, 84, 85, 88, 90, 91, 94, 96, 99, 100, 102, 105, 108, 110, 111], [0, 1, 4, 5, 8, 9, 10, 11, 12, 15, 18, 19, 20, 21, 22, 25, 28, 29, 32, 33, 36, 37, 38, 41, 42, 43, 46, 47, 50, 51, 52, 55, 58, 61, 62, 63, 64, 65, 66, 68, 70, 71, 74, 75, 78, 79, 82, 84, 85, 86, 89, 90, 93, 95, 96, 97, 99, 100, 103, 106, 107, 108], [0, 1, 2, 3, 5, 7, 8, 11, 14, 15, 17, 18, 19, 22, 25, 26, 27, 30, 32, 35, 36, 37, 40, 43, 44, 45], [0, 1, 2, 3, 4, 5, 6, 7, 9, 11, 14, 15, 16, 19, 20, 23, 26, 28, 30, 31, 33, 35, 36, 39, 42, 44, 46, 49, 52, 54, 55, 58, 60, 62, 63, 65, 66, 69, 70, 72, 73, 76, 77, 80, 82, 85, 88, 90, 91, 92, 93], [0, 1, 3, 4, 6, 8, 9, 12, 15, 16, 18, 20, 21, 24, 27, 29, 30, 31, 32, 33, 35, 37, 40, 43, 45, 48, 51, 54, 57, 59, 60], [0, 1, 4, 5, 6, 7, 10, 11, 14, 15, 16, 17, 19, 20, 22, 24, 26, 29, 30, 32, 33, 35, 36, 38, 41, 44, 47, 48, 50, 51, 52, 55, 57, 60, 61, 64, 65, 68, 70, 73, 76, 77, 80, 81, 84, 86, 89, 92, 93, 94, 97, 98, 99, 102, 105, 108, 109], [0, 1, 2, 5, 6, 7, 8, 9, 12, 15, 18, 19, 22, 23, 26, 29, 30, 33, 34, 37, 38, 41, 42, 45, 46, 49, 50, 53, 54, 57, 58, 59, 62, 65, 66, 67, 70, 71, 72, 75, 78, 81, 82], [0, 1, 2, 3, 4, 7, 10, 11, 12, 13, 14, 17, 20, 21, 23, 25, 26, 29, 32, 33, 36, 37, 40, 42, 43, 44, 47, 48, 51, 53, 56, 57, 59, 60, 63, 65, 68, 71, 72, 74, 75, 78, 79, 80, 82, 85, 87, 89, 90, 93, 96, 99, 102, 105, 108, 111, 112], [0, 1, 4, 5, 8, 11, 12, 13, 14, 16, 19, 20, 23, 24, 26, 27, 28, 29, 30, 33, 36, 39, 40, 41, 42, 44, 47, 48, 49, 50, 52, 55, 56, 57, 58, 60, 63, 64, 65, 66, 69, 70, 71, 72, 75, 76, 78, 80, 81, 82, 83, 86, 89, 90, 93, 94, 96, 97, 98, 99, 101, 104, 107, 110, 113, 116, 119, 122, 123], [0, 1, 2, 3, 6, 7, 8, 10, 12, 13, 16, 19, 20, 22, 25, 26, 29, 30, 32, 33, 35, 36, 39, 40, 42, 43, 46, 47, 48, 51, 53, 54, 57, 60, 61, 62], [0, 1, 2, 5, 8, 9, 10, 13, 14, 15, 18, 19, 22, 23, 26, 27, 28, 31, 32, 35, 36, 37, 40, 41], [0, 1, 4, 5, 8, 11, 14, 15, 16, 17, 20, 23, 24, 27, 30, 31, 32, 33, 34, 37, 40, 41, 42, 43, 46, 47, 50, 53, 54, 57, 60, 63, 65, 66, 68, 69, 70, 73, 74, 76, 77, 80, 81, 82, 83, 86, 87, 88, 91, 94, 95, 96, 97, 100, 103, 104, 105, 106, 109, 112, 113, 114, 115, 116], [0, 1, 2, 3, 6, 7, 8, 9, 10, 11, 13, 15, 16, 19, 20, 22, 23, 25, 26, 28, 31, 32, 33, 36, 39, 40, 41], [0, 1, 2, 3, 6, 7, 8, 9, 11, 12, 14, 16, 18, 21, 22, 24, 25, 27, 29, 30, 33, 36, 37, 38, 40, 43, 44, 45, 46, 49, 52, 53, 54], [0, 1, 4, 5, 8, 9, 10, 13, 14, 17, 18], [0, 1, 2, 5, 6, 7, 10, 11, 12, 15, 16, 19, 20, 21], [0, 1, 4, 5, 8, 11, 12, 13, 16, 19, 20], [0, 1, 2, 3, 5, 7, 8, 11, 12, 13, 14, 16, 17, 20, 21, 22, 25, 28, 29, 30], [0, 1, 3, 4, 6, 7, 9, 11, 12, 15, 16, 18, 21, 23, 26, 28, 29, 31, 34, 35, 37, 40, 43, 45, 46], [0, 1, 2, 5, 8, 11, 12, 15, 18, 21, 22, 23, 24, 27, 28, 31, 32], [0, 1, 4, 7, 8, 11, 14, 15, 18, 21, 22, 25, 28, 29, 30, 31, 34, 37, 38, 39, 42, 43, 44, 46, 49, 51, 54, 55, 56], [0, 1, 4, 5, 8, 9, 10, 13, 14, 17, 18, 21, 22], [0, 1, 4, 7, 8, 11, 14, 15, 16, 19, 22, 25, 26, 27, 28, 31, 32, 33, 36, 39, 40, 41, 44, 45], [0, 1, 4, 7, 8, 11, 14, 15, 16, 17, 20, 23, 24, 27, 30, 31, 34, 35, 38, 41, 43, 44], [0, 1, 4, 7, 8], [0, 1, 2, 3, 4, 5, 7, 10, 11, 12, 13, 16, 17, 18, 19, 22, 25, 26, 27, 28, 31, 32, 33, 34, 37, 40, 41, 42, 45, 46, 49, 50, 52, 53, 54, 55, 58, 61, 63, 66, 67, 70, 71, 72, 73, 76, 79, 80, 81], [0, 1, 2, 5, 6, 9, 12, 13, 16, 17, 18, 19, 22, 23, 25, 28, 31, 32, 33, 34, 37, 40, 42, 43], [0, 1, 2, 5, 6, 7, 10, 13, 14, 15, 16, 17, 18, 19, 20, 22, 25, 26, 27, 28, 29, 32, 35, 36, 37, 38, 41, 42, 43, 44, 47, 50, 51, 52], [0, 1, 2, 5, 6, 7, 10, 13, 14, 15, 18, 21, 24, 25, 26, 27, 30, 31, 32, 33, 34, 36, 38, 39, 42, 43, 44, 47, 48, 51, 52, 53, 55, 56, 59, 60, 61, 62, 63, 66, 69, 71, 74, 75, 76, 79, 82, 83, 84], [0, 1, 2, 5, 6, 7, 10, 13, 14, 15, 18, 21, 22, 23, 24, 25, 26, 29, 31, 34, 35, 36, 37, 40, 43, 45, 46], [0, 1, 2, 5, 6, 9, 12, 13, 14, 17, 20, 21, 22], [0, 1, 2, 3, 6, 7, 10, 11, 12, 13, 14, 17, 18, 19, 20, 21, 22, 25, 26, 27, 30, 31, 32, 35, 36, 39, 40, 41, 42, 45, 46, 49, 50, 51, 53, 54, 57, 58, 59, 60, 62, 65, 68, 71, 72, 74, 77, 80, 83, 86, 89, 90, 91, 92, 95, 98, 99, 100, 101], [0, 1, 4, 7, 8, 9, 10, 11, 12, 13, 14, 16, 19, 20, 21, 22, 23, 26, 29, 30, 33, 34, 35, 36, 39, 42, 43, 44], [0, 1, 4, 5, 8, 10, 13, 14, 17, 19, 22, 23, 26, 28, 31, 32, 33, 35, 38, 39, 42, 44, 47, 48, 50, 52, 55, 56, 58, 60, 63, 64, 66, 68, 71, 72, 74, 76, 79, 80, 82, 84, 87, 88, 90, 92, 95, 96, 99, 101, 104, 105, 107, 109, 112, 113, 116, 117, 120, 121, 124, 127, 128], [0, 1, 4, 7, 8, 11, 14, 15, 16, 17, 20, 22, 25, 26, 27, 28, 31, 34, 35, 36, 37, 38, 41, 42, 43, 46, 47, 48], [0, 1, 2, 5, 6, 9, 12, 13, 14, 15, 16, 17, 20, 21, 24, 26, 27, 28, 31, 34, 36, 37, 38, 39, 42, 43, 44, 45, 46, 47, 50, 51, 52, 53, 54, 57, 58, 59], [0, 1, 2, 3, 6, 7], [0, 1, 2, 3, 6, 7], [0, 1, 2, 3, 6, 7], [0, 1, 2, 3, 6, 7], [0, 1, 2, 5, 6, 9, 12, 13, 16, 19, 20, 21, 22, 25, 26, 27], [0, 1, 2, 5, 6, 7, 10, 13, 14, 15, 18, 21, 24, 25, 26, 27, 28, 29, 32, 33, 34, 35, 38, 39, 42, 43, 44, 45, 46], [0, 1, 2, 5, 6, 7, 10, 13, 14, 15, 18, 21, 22, 23, 26, 27, 28, 29, 30, 31, 32, 35, 36, 37, 40, 41, 42, 43, 46, 48, 51, 52, 55, 56, 58, 59, 60, 61, 62, 63, 64, 65, 66, 67, 70, 71, 72, 73, 74, 77, 80, 81, 82, 85, 88, 90, 91], [0, 1, 4, 7, 8, 9, 10, 13, 15, 17, 20, 23, 24, 25, 26, 29, 32, 33, 34, 35, 36, 37, 40, 42, 44, 47, 50, 52, 54, 55, 56, 57, 60, 61, 63, 64, 67, 68, 69, 70, 73, 74, 75, 78, 81, 82, 83, 84, 87, 90, 91, 92, 93, 96, 99, 100, 101, 102, 103], [0, 1, 4, 7, 8, 11, 12, 13, 14, 17, 20, 21, 23, 24, 26, 29, 30, 33, 34, 37, 39, 42, 43, 46, 47, 49, 50, 53, 54], [0, 1, 2, 5, 6, 7, 8, 9, 10, 12, 15, 16, 17, 18, 21, 22, 23, 26, 29, 30, 31], [0, 1, 2, 5, 6, 7, 10, 13, 14, 15, 18, 21, 24, 25, 26, 27, 28, 29, 31, 33, 35, 38, 39, 41, 42, 45, 46, 49, 50, 52, 53, 56, 57, 60, 61, 64, 65, 67, 68, 70, 73, 74, 76, 77, 80, 81, 84, 85, 86, 87, 88, 91, 92, 94, 95, 98, 99, 100, 101, 104, 107, 108, 109], [0, 1, 2, 5, 6, 9, 12, 13, 14, 17, 20, 23, 24, 25, 26, 27, 28, 31, 32, 35, 37, 38, 39, 42, 43, 44, 45, 46, 47, 50, 53, 54, 55, 56, 57, 58, 61, 62, 63, 66, 68, 70, 71, 74, 76, 77, 78, 81, 84, 86, 87, 88, 89, 90, 92, 95, 96, 97, 98, 99, 102, 104, 105], [0, 1, 2, 5, 6, 7, 10, 11, 12, 13, 16, 17, 18, 19, 22, 25, 26, 27, 28, 29, 30, 31, 34, 35, 36, 37, 40, 41, 44, 45, 48, 51, 52, 53, 54, 55, 56, 57, 58, 59, 60, 62, 63, 64, 65, 66, 69, 72, 73, 74, 77, 78, 81, 82], [0, 1, 2, 5, 6, 7, 10, 13, 14, 17, 18, 21, 24, 25, 26, 27, 30, 32, 35, 36, 37, 40, 41], [0, 1, 2, 5, 6, 7, 10, 13, 14, 15, 18, 21, 24, 25, 26, 29, 32, 35, 36, 37, 38, 39, 42, 45, 46, 47], [0, 1, 2, 5, 6, 9, 12, 13, 14, 16, 19, 22, 23, 26, 29, 31, 32, 33, 34, 35, 36, 37, 40, 41, 42], [0, 1, 4, 5, 6, 9, 11, 13, 16, 19, 20, 21, 24, 25, 26, 29, 32, 33], [0, 1, 2, 5, 6, 9, 12, 13, 14, 16, 19, 22, 23, 24, 25, 26, 27, 29, 31, 32, 35, 38, 39, 42, 43, 45, 46, 49, 50, 53, 54, 56, 57, 60, 63, 64, 65, 68, 69, 72, 75, 76, 78, 81, 82, 83, 84, 87, 88, 89, 91, 92, 95, 96, 97, 100, 103, 104, 105], [0, 1, 2, 5, 6, 9, 12, 13, 14, 16, 19, 22, 23, 24, 27, 30, 33, 34, 35, 36, 39, 42, 44, 45, 46, 47, 48, 49, 50, 52, 53, 56, 59, 61, 62, 63, 64, 65, 66, 67, 68, 70, 71], [0, 1, 2, 5, 6, 9, 12, 13, 14, 15, 18, 21, 22, 23], [0, 1, 2, 5, 6, 9, 12, 13, 14, 17, 20, 21, 22], [0, 1, 2, 5, 6, 7, 8, 9, 10, 12, 15, 16, 17, 18, 21, 24, 25, 26, 27, 30, 31, 32, 33, 36, 39, 40, 41], [0, 1, 2, 5, 8, 9, 10, 13, 16, 18, 19, 22, 25, 26, 27, 30, 31, 33, 36, 37, 39, 41, 42, 45, 46, 49, 51, 52, 55, 57, 58, 59, 60, 63, 65, 66, 69, 71, 72, 73, 76, 79, 80, 82, 84, 85, 88, 91, 92, 95, 97, 98, 100, 101, 103, 105, 106, 109, 110, 111, 114, 115, 117, 118, 119, 120, 123, 124, 125, 126, 128, 129, 132, 135, 137, 138, 139, 140, 142, 143, 146, 148, 151, 152, 154, 155, 158, 160, 161, 164, 166, 168, 171, 174, 175, 178, 180, 181, 182, 183, 184, 185, 186, 189, 190, 192, 193, 194, 197, 198, 200, 201, 202, 203, 204, 205, 207, 208, 209, 211, 212, 213, 215, 217, 218, 221, 222, 225, 227, 228, 229, 230, 231, 232, 235, 238, 241, 244, 245], [0, 1, 2, 5, 6, 7, 10, 13, 14, 17, 20, 21, 22, 23, 26, 27, 28], [0, 1, 4, 7, 8, 11, 12, 15, 16, 17, 20, 21, 24, 25], [0, 1, 3, 5, 7, 8, 10, 12, 13, 16, 19, 20, 22, 25, 28, 29, 30, 32, 33, 36, 38, 39, 42, 43, 45, 46, 48, 49, 51, 54, 56, 58, 61, 63, 65, 66, 69, 71, 74, 75, 77, 80, 83, 85, 86, 89, 92, 94, 95, 98, 101, 103, 104, 107, 110, 111, 114, 115, 117, 119, 120, 123, 125, 128, 129, 131, 134, 135, 137, 140, 141, 142, 145, 146], [0, 1, 2, 3, 4, 7, 9, 10, 12, 14, 15, 18, 21, 23, 26, 27, 29, 31, 32, 35, 38, 39, 40, 41, 42, 44, 46, 49, 51, 54, 56, 57, 58, 60, 61, 62, 65, 68, 71, 74, 75, 76], [0, 1, 2, 5, 6, 7, 8, 9, 10, 13, 14, 15, 16, 17, 20, 23, 24, 25, 26, 27, 30, 33, 34, 37, 38, 39, 40, 43, 44, 45, 46, 47, 50, 53, 56, 59, 62, 65, 68, 71, 72], [0, 1, 2, 5, 6, 7, 10, 11, 12, 15, 16, 19, 20, 23, 24, 27, 28, 31, 32, 35, 36, 39, 40, 43, 45, 48, 49, 52, 53, 54, 55, 56, 57, 58, 59, 60, 63, 64, 65, 66, 68, 70, 73, 76, 79, 80, 83, 84], [0, 1, 2, 5, 8, 9, 10, 13, 16, 17, 18, 21, 24, 25, 28, 29, 32, 35, 36, 39, 40, 43, 46, 47, 50, 51, 54, 57, 58, 61, 62, 65, 68, 69, 72, 73, 76, 79, 80, 81, 82, 83, 86, 87, 90, 91, 94, 95, 96, 97, 100, 101, 102, 105, 108, 111, 112], [0, 1, 2, 3, 6, 9, 10, 11, 14, 15], [0, 1, 4, 5, 6, 7, 10, 13, 14, 15, 16, 18, 21, 22, 23, 24, 25, 26, 28, 31, 32, 33, 34, 37, 40, 42, 43, 46, 49, 50, 53, 54, 55, 56, 58, 61, 62], [0, 1, 4, 5, 6, 7, 10, 13, 14, 15, 17, 20, 23, 24, 25, 28, 31, 32, 35, 36, 37, 40, 41], [0, 1, 4, 5, 8, 10, 12, 13, 14, 17, 19, 22, 23, 24, 27, 28], [0, 1, 2, 5, 6, 7, 10, 11, 12, 15, 18, 19, 22, 23, 24, 27, 28, 30, 31, 34, 37, 38], [0, 1, 4, 5, 8, 11, 12, 15, 16, 19, 22, 23], [0, 1, 4, 5, 6, 9, 12, 13, 16, 17, 20, 21, 24, 25, 26, 29, 30, 31, 34, 35, 36, 39, 40, 42, 43, 44, 47, 48], [0, 1, 2, 3, 6, 7, 10, 11, 14, 17, 18, 21, 24, 25, 28, 29, 32, 33, 36, 39, 42, 43, 44, 47, 48, 51, 52, 55, 56, 57, 58, 61, 62, 63, 66, 67, 68, 71, 72, 73, 76, 77, 78, 81, 82, 83, 86, 87, 88, 91, 92, 94, 95, 96, 99, 102, 103], [0, 1, 2, 5, 6, 7, 10, 11, 12, 15, 18, 19, 20, 21, 22, 25, 26], [0, 1, 4, 5, 8, 9, 10, 13, 14, 15, 18, 21, 22, 24, 25, 26, 29, 32, 35, 36, 39, 40, 43, 44, 45, 48, 49, 51, 52, 53, 56, 59, 60], [0, 1, 4, 7, 8, 11, 12, 13, 16, 19, 20, 21], [0, 1, 4, 5, 8, 9, 10, 13, 16, 17, 18, 19, 22, 23, 26, 29, 30, 33, 34, 37, 38, 39, 42, 43, 44, 47, 50, 51, 52], [0, 1, 2, 5, 6, 7, 10, 11, 12, 15, 18, 19, 20, 23, 24, 25, 28, 29, 30, 31, 32, 35, 36, 39, 40, 43, 44, 45, 48, 49, 50, 53, 56, 57, 58, 61, 64, 65, 68, 69, 70, 71, 74, 77, 78], [0, 1, 2, 3, 6, 7, 8, 10, 11, 14, 16, 17, 18, 19, 21, 23, 24, 27, 28, 31, 32, 33, 35, 36, 37, 38, 39, 42, 43, 45, 46, 47, 50, 51, 52, 53, 54, 57, 59, 62, 63, 66, 68, 70, 72, 75, 78, 80, 81], [0, 1, 2, 4, 7, 10, 11, 12, 13, 16, 19, 20, 23, 24, 25, 26, 29, 31, 34, 35, 36], [0, 1, 4, 7, 8, 11, 14, 15, 18, 19, 22, 25, 26, 27], [0, 1, 2, 4, 7, 10, 11, 14, 17, 18, 19, 20, 23, 26, 27, 28, 31, 32], [0, 1, 4, 7, 8, 11, 14, 15, 18, 21, 22, 25, 28, 29, 30, 33, 34, 35, 36, 39, 42, 43, 44, 47, 48, 49, 50, 53, 55, 58, 59, 60], [0, 1, 4, 7, 8], [0, 1, 4, 7, 8, 11, 14, 15, 16, 19, 22, 25, 26, 27, 30, 33, 36, 37, 38, 39, 42, 45, 46, 49, 50, 51, 54, 57, 58], [0, 1, 2, 3, 6, 9, 10, 11, 13, 16, 19, 20, 21, 22, 25, 28, 29, 30, 31, 34, 37, 40, 41], [0, 1, 2, 3, 4, 5, 8, 9], [0, 1, 2, 3, 4, 5, 8, 9], [0, 1, 2, 3, 4, 5, 8, 9], [0, 1, 4, 5, 6, 7, 8, 9, 10, 11, 12, 15, 16, 17, 18, 20, 22, 24, 27, 28, 30, 31, 34, 37, 38, 40, 43, 46, 47, 49, 50, 52, 53, 54, 55, 56, 59, 61, 64, 65, 68, 69, 70, 73, 76, 79, 80, 83, 84, 85, 86, 87, 88, 89, 90, 91], [0, 1, 2, 5, 6, 7, 10, 13, 14, 15, 18, 21, 22, 23], [0, 1, 2, 5, 6, 7, 10, 13, 14, 15, 16, 19, 22, 24, 25, 26, 27, 28, 29, 30, 32, 35, 36, 37, 38, 41, 44, 45, 46, 49, 52, 53, 55, 57, 60, 63, 66, 67, 68, 69, 71, 74, 75, 76, 79, 80, 83, 84, 85, 86, 87, 90, 91, 92, 93, 94, 97, 98, 99, 102, 103, 104, 105, 106, 107, 108, 111, 114, 115, 118, 119, 120, 121, 124, 127, 130, 133, 134, 135], [0, 1, 2, 3, 4, 7, 8, 11, 12, 15, 16, 17, 18, 19, 22, 23, 24], [0, 1, 2, 3, 4, 5, 8, 9, 10, 13, 14, 17, 18, 19, 22, 23], [0, 1, 2, 3, 4, 5, 8, 9], [0, 1, 2, 5, 6, 9, 12, 13, 14, 17, 20, 21, 22, 23, 24, 25, 28, 31, 33, 34, 35, 36, 39, 42, 44, 45, 46, 49, 52, 54, 55, 56, 57, 58, 59, 62, 63, 64, 65, 66, 69, 70, 71, 72, 73, 76, 77, 78, 81, 82, 83, 84, 85, 88, 89, 90, 93, 94], [0, 1, 2, 5, 6, 9, 12, 13, 14, 16, 19, 22, 23, 24, 25, 26, 29, 32, 33, 34, 35, 38, 41, 43, 44, 45, 48, 51, 53, 54, 55, 56, 57, 58, 59, 60, 63, 64, 65, 68, 69, 71, 72, 73, 76, 77, 78, 81, 82, 83, 86, 89, 90, 91, 92, 95, 96, 97, 100, 101, 102, 103, 106, 107, 110, 111, 112, 113, 114, 115, 116, 119, 120, 121, 124, 125, 126, 127, 128, 131, 132, 134, 135, 136, 139, 140, 141, 142, 145, 148, 149, 150, 153, 154, 155, 158, 159], [0, 1, 2, 3, 6, 7, 8, 9, 10, 13, 14], [0, 1, 2, 3, 4, 5, 8, 9], [0, 1, 2, 3, 6, 7, 8, 9, 11, 14, 15, 16, 17, 18, 19, 21, 24, 25, 26, 27, 30, 33, 35, 36, 38, 40, 41, 44, 45, 48, 51, 52, 55, 58, 60, 61, 62, 63, 65, 66, 68, 69, 72, 75, 76], [0, 1, 2, 3, 6, 8, 9, 10, 12, 15, 17, 18, 21, 24, 25, 28, 29, 31, 32, 34, 35, 36], [0, 1, 2, 3, 4, 7, 8], [0, 1, 2, 3, 4, 7, 8], [0, 1, 2, 5, 6, 9, 12, 13, 14, 17, 20, 21, 22], [0, 1, 2, 5, 8, 9, 10, 13, 16, 18, 19, 22, 25, 26, 27, 30, 31, 33, 36, 37, 39, 41, 42, 45, 46, 49, 51, 52, 55, 57, 58, 59, 60, 63, 65, 66, 69, 71, 72, 73, 76, 79, 80, 82, 84, 85, 88, 91, 92, 95, 97, 98, 100, 101, 103, 105, 106, 109, 110, 111, 114, 115, 117, 118, 119, 120, 123, 124, 125, 126, 128, 129, 132, 135, 137, 138, 139, 140, 142, 143, 146, 148, 151, 152, 154, 155, 158, 160, 161, 164, 166, 168, 171, 174, 175, 178, 180, 181, 182, 183, 184, 185, 186, 189, 190, 192, 193, 194, 197, 198, 200, 201, 202, 203, 204, 205, 207, 208, 209, 211, 212, 213, 215, 217, 218, 221, 222, 225, 227, 228, 229, 230, 231, 232, 235, 238, 241, 244, 245], [0, 1, 2, 3, 4, 5, 7, 10, 11, 12, 13, 14, 17, 20, 21, 22, 25, 28, 29, 30, 31, 34, 37, 38, 39], [0, 1, 2, 5, 6, 7, 8, 9, 10, 13, 14, 17, 18, 21, 22, 25, 26, 29, 30, 33, 34, 36, 37, 38, 39, 41, 44, 46, 47, 49, 51, 52, 55, 58, 60, 61, 64, 66, 67, 68, 70, 72, 73, 74, 76, 77, 79, 81, 83, 86, 87, 88, 90, 91, 92, 93, 94, 96, 99, 100, 103, 104, 105, 106, 108, 110, 111, 112, 113, 115, 118, 120, 123, 126, 127], [0, 1, 4, 5, 7, 9, 12, 13, 15, 17, 20, 21, 23, 25, 28, 29, 31, 33, 36, 37, 39, 41, 44, 45, 46, 49, 52, 53, 54, 55, 56, 59, 60, 63, 64, 67, 68, 71, 72, 75, 76, 79, 82, 83, 86, 87], [0, 1, 4, 5, 8, 9, 10, 13, 16, 17, 18, 19, 20, 21, 22, 25, 28, 29, 32, 33, 36, 37, 38, 41, 42, 43, 46, 49, 50, 51, 54, 57, 58, 59], [0, 1, 4, 5, 6, 9, 10, 13, 16, 17, 20, 23, 24, 27, 28, 29, 30, 33, 36, 37, 38, 40, 43, 44, 45, 48, 51, 52, 55, 56, 57, 60, 61], [0, 1, 4, 5, 6, 9, 10, 11, 12, 15, 16, 17, 18, 21, 24, 25, 26, 28, 31, 32, 33, 36, 39, 40, 43, 44, 45, 46, 49, 50], [0, 1, 4, 5, 6, 7, 9, 12, 13, 14, 17, 20, 21, 24, 27, 28, 29, 32, 33], [0, 1, 4, 5, 6, 7, 8, 11, 12, 13, 16, 19, 20, 23, 26, 27, 28, 31, 32], [0, 1, 4, 5, 8, 9, 12, 13, 14, 15, 16, 17, 19, 21, 22, 25, 26, 28, 29, 31, 33, 36, 39, 42, 43, 46, 47, 50, 51, 52, 55, 56, 57, 60, 63, 66, 67], [0, 1, 4, 5, 8, 11, 12, 13, 14, 15, 18, 19, 22, 23, 26, 27, 28, 29, 32, 33, 34, 37, 40, 43, 44, 47, 48, 51, 54, 55, 56, 59, 62, 63, 64, 67, 70, 71], [0, 1, 2, 3, 6, 8, 10, 11, 13, 14, 16, 18, 20, 23, 25, 27, 28, 30, 32, 33, 34, 37, 40, 41, 43, 44, 47, 50, 53, 56, 59, 60, 61], [0, 1, 2, 5, 6, 7, 10, 11, 13, 14, 15, 18, 19, 20, 23, 24, 25, 28, 29, 32, 35, 36, 37, 40, 41], [0, 1, 2, 3, 6, 8, 10, 11, 13, 14, 16, 18, 20, 23, 25, 27, 28, 30, 32, 33, 34, 37, 40, 41, 42, 44, 45, 48, 49, 50, 53, 56, 57, 58], [0, 1, 2, 3, 6, 7, 8, 9, 11, 12, 14, 16, 18, 21, 22, 24, 25, 27, 29, 30, 31, 34, 37, 38, 40, 41, 44, 47, 50, 51, 53, 55, 58, 59, 61, 63, 66, 69, 72, 75, 76, 77], [0, 1, 4, 7, 8, 11, 14, 15, 16, 19, 22, 25, 26, 27, 28, 31, 34, 35, 38, 39, 42, 45, 46, 49, 50], [0, 1, 4, 7, 8, 11, 14, 15, 18, 19, 22, 25, 26, 27], [0, 1, 4, 5, 8, 9, 10, 13, 14, 15, 16, 19, 20, 23, 25, 26, 27, 30, 33, 36, 39, 41, 42, 43, 46, 47, 50, 51, 52, 53, 56, 57, 60, 61, 62, 63, 66, 67, 68], [0, 1, 4, 7, 8, 11, 14, 15, 16, 19, 22, 25, 26, 27, 28, 31, 32, 33, 36, 39, 40, 43, 44, 47, 50, 51, 52], [0, 1, 4, 5, 8, 9, 10, 13, 14, 15, 16, 19, 20, 23, 24, 27, 28, 31, 34, 36, 37], [0, 1, 4, 5, 8, 9, 10, 13, 14, 17, 20, 21, 24, 27, 28, 29, 30, 33, 36, 38, 39, 40, 43, 44, 47, 50, 52, 53, 54, 57, 60, 63, 66, 68, 69, 70, 73, 74, 75, 78, 79, 82, 83, 86, 87], [0, 1, 4, 5, 8, 9, 10, 13, 14, 15, 18, 21, 24, 25, 26, 27, 30, 31, 34, 36, 37, 38, 41, 42, 45, 48, 51, 53, 54, 57, 58, 61, 63, 64, 67, 69, 71, 73, 76, 78, 79, 80, 83, 86, 89, 92, 94, 95, 96, 98, 101, 102, 105, 106, 107, 108, 111, 113, 114], [0, 1, 4, 5, 8, 9, 10, 13, 14, 17, 18, 21, 22, 23, 26, 29, 32, 33], [0, 1, 2, 5, 6, 7, 10, 13, 14, 15, 17, 20, 23, 24, 25, 26, 27, 28, 29, 30, 33, 35, 36, 38, 40, 41, 44, 45, 46, 48, 51, 53, 55, 57, 60, 62, 63, 65, 67, 70, 73, 74, 75], [0, 1, 4, 5, 8, 9, 10, 13, 16, 17, 20, 21, 22, 23, 24, 25, 28, 29, 30, 33, 36, 37, 40, 41, 44, 45, 46, 47, 48, 49, 52, 55, 56, 59, 60, 61, 64, 67, 68, 69], [0, 1, 2, 5, 6, 7, 10, 13, 14, 15, 18, 21, 24, 25, 26, 27, 28, 29, 30, 33, 34, 35, 38, 39, 42, 43, 44, 45, 48, 49, 52, 55, 56, 57, 60, 61, 62, 65, 66, 67, 70, 71, 72, 73, 74, 75, 78, 79, 80, 81, 84, 86, 88, 89, 91, 92, 94, 96, 97, 100, 101, 102, 105, 106, 108, 109, 110, 111, 114, 117, 118, 121, 123, 124, 125, 127, 128, 129, 130, 131, 133, 136, 137, 139, 140, 143, 145, 146, 147, 149, 150, 151, 154, 156, 158, 159, 162, 164, 165, 166, 168, 171, 174, 176, 177, 180, 182, 183, 186, 189, 191, 192, 195, 198, 200, 201, 204, 207, 208, 209, 212, 213, 215, 218, 219, 221, 224, 227, 230, 231, 232], [0, 1, 4, 5, 6, 7, 8, 9, 10, 12, 15, 16, 17, 18, 21, 22, 25, 28, 29, 30, 31, 34, 35, 38, 39, 40, 41, 44, 47, 48, 49, 52, 53, 54, 55, 58, 61, 62, 63, 65, 68, 69, 70, 73, 76, 77, 80, 83, 84, 85, 86, 87, 88, 91, 92, 93, 96, 97, 98, 101, 102, 105, 106, 109, 110, 111, 112, 113], [0, 1, 4, 5, 6, 9, 10, 11, 12, 15, 16, 17, 18, 21, 24, 25, 26, 28, 31, 32, 33, 36, 39, 40, 43, 44, 46, 47, 48, 49, 50, 51, 52, 53, 56, 58, 59, 62, 63, 65, 66, 67, 68, 69, 70, 72, 73, 74, 77, 78, 80, 81, 82, 83, 84, 85, 87, 88, 89], [0, 1, 2, 5, 6, 7, 10, 13, 14, 15, 18, 21, 24, 25, 26, 27, 28, 29, 32, 33, 34, 37, 38, 41, 44, 45, 46], [0, 1, 2, 5, 8, 9, 10, 13, 16, 18, 19, 22, 25, 26, 27, 30, 31, 33, 36, 37, 39, 41, 42, 45, 46, 49, 51, 52, 55, 57, 58, 59, 60, 63, 65, 66, 69, 71, 72, 73, 76, 79, 80, 82, 84, 85, 88, 91, 92, 95, 97, 98, 100, 101, 103, 105, 106, 109, 110, 111, 114, 115, 117, 118, 119, 120, 123, 124, 125, 126, 128, 129, 132, 135, 137, 138, 139, 140, 142, 143, 146, 148, 151, 152, 154, 155, 158, 160, 161, 164, 166, 168, 171, 174, 175, 178, 180, 181, 182, 183, 184, 185, 186, 189, 190, 192, 193, 194, 197, 198, 200, 201, 202, 203, 204, 205, 207, 208, 209, 211, 212, 213, 215, 217, 218, 221, 222, 225, 227, 228, 229, 230, 231, 232, 235, 238, 241, 244, 245], [0, 1, 2, 3, 4, 5, 6, 9, 12, 15, 16, 17, 18, 21, 24, 26, 27, 30, 31, 33, 36, 38, 41, 42, 43, 44, 45, 46, 47, 50, 53, 54, 55], [0, 1, 2, 5, 6, 7, 10, 11, 12, 15, 18, 19, 22, 23, 24, 27, 30, 31], [0, 1, 4, 5, 8, 9, 12, 15, 16, 19, 21, 24, 25], [0, 1, 4, 5, 6, 9, 12, 13, 16, 17, 20, 23, 24, 27, 29, 31, 34, 37, 38, 39, 42, 43, 44, 47, 50, 51, 52, 53, 55, 58, 59, 60, 63, 66, 69, 70, 71, 74, 77, 78, 79], [0, 1, 2, 3, 5, 6, 8, 10, 11, 14, 15, 16, 17, 20, 22, 23, 26, 28, 30, 32, 35, 37, 39, 41, 42, 45, 48, 49, 50], [0, 1, 4, 5, 8, 9, 12, 15, 16, 18, 21, 24, 25, 28, 29, 32, 35, 36, 37, 40, 41, 42, 43, 44, 47, 48, 51, 52, 55, 56, 59, 60, 61, 64, 65, 68, 71, 72], [0, 1, 4, 7, 8, 11, 14, 15, 16, 17, 20, 23, 26, 29, 31, 32, 33, 36, 37, 40, 41], [0, 1, 4, 5, 8, 9, 10, 13, 14, 15, 17, 20, 23, 24, 25, 26, 29, 32, 34, 35, 36, 39, 42, 45, 48, 50, 51, 52, 55, 56, 57, 60, 61, 64, 65], [0, 1, 2, 3, 6, 9, 10, 11, 12, 15, 16, 17, 20, 22, 23, 24, 27, 28, 31, 32, 33, 36, 37, 40, 43, 44], [0, 1, 2, 3, 6, 9, 10, 11, 12, 15, 16, 17, 18, 21, 24, 25, 28, 29, 30, 31, 32, 35, 38, 39], [0, 1, 4, 7, 8, 11, 14, 15, 16, 19, 22, 25, 26, 27, 28, 31, 32, 33, 36, 39, 40, 41, 44, 45], [0, 1, 2, 3, 6, 9, 10, 13, 16, 17, 18], [0, 1, 2, 3, 6, 9, 10, 13, 16, 17, 18], [0, 1, 2, 3, 6, 9, 10, 13, 16, 17, 18], [0, 1, 4, 5, 7, 10, 13, 14, 17, 20, 21, 23, 26, 29, 30, 33, 34, 37, 38, 39, 40, 41, 42, 43, 46, 49, 50, 52, 55, 58, 59, 62, 65, 66, 68, 71, 74, 75, 78, 79, 81, 84, 87, 90, 91, 93, 96, 99, 100, 103, 104, 107, 108, 109, 110, 111, 112, 114, 117, 120, 121, 123, 126, 129, 130, 133, 136, 137, 138, 139, 142, 145, 146], [0, 1, 2, 5, 8, 9, 10, 13, 16, 18, 19, 22, 25, 26, 27, 30, 31, 33, 36, 37, 39, 41, 42, 45, 46, 49, 51, 52, 55, 57, 58, 59, 60, 63, 65, 66, 69, 71, 72, 73, 76, 79, 80, 82, 84, 85, 88, 91, 92, 95, 97, 98, 100, 101, 103, 105, 106, 109, 110, 111, 114, 115, 117, 118, 119, 120, 123, 124, 125, 126, 128, 129, 132, 135, 137, 138, 139, 140, 142, 143, 146, 148, 151, 152, 154, 155, 158, 160, 161, 164, 166, 168, 171, 174, 175, 178, 180, 181, 182, 183, 184, 185, 186, 189, 190, 192, 193, 194, 197, 198, 200, 201, 202, 203, 204, 205, 207, 208, 209, 211, 212, 213, 215, 217, 218, 221, 222, 225, 227, 228, 229, 230, 231, 232, 235, 238, 241, 244, 245], [0, 1, 2, 5, 6, 7, 10, 11, 12, 15, 16, 17, 20, 21, 22, 25, 27, 28, 30, 32, 33, 34, 37, 40, 41, 44, 46, 48, 49, 50, 51, 54, 55, 57, 58, 61, 62, 65, 68, 71, 72], [0, 1, 4, 5, 8, 9, 10, 11, 14, 17, 18, 19, 21, 24, 25, 26, 29, 32, 33, 36, 37, 40, 41], [0, 1, 4, 7, 8, 9, 12, 52, 53, 56, 59, 60, 63, 66, 67, 70, 73, 74, 77, 80, 81, 84, 87, 88, 91, 94, 95, 96, 97, 100, 103, 104], [0, 1, 4, 7, 8, 11, 14, 15, 16, 18, 21, 24, 25, 26, 27, 30, 31, 32, 35, 36], [0, 1, 4, 5, 8, 9, 12, 15, 16, 19, 20, 23, 26, 27, 28, 31, 34, 35, 36, 37, 38, 41, 42, 45, 46, 49, 50, 53, 54, 57, 58, 61, 64, 65, 66, 68, 71, 72, 75, 76, 79, 82, 83, 86, 87, 90, 93, 94], [0, 1, 4, 5, 8, 11, 12, 15, 18, 19], [0, 1, 4, 5, 8, 11, 12, 15, 18, 19], [0, 1, 4, 5, 8, 11, 12, 15, 16, 19, 22, 23, 26, 29, 30, 31, 34, 37, 40, 41, 44, 46, 47, 48, 51, 54, 55, 58, 61, 62, 65, 66, 67, 68, 71, 74, 77, 80, 81, 84, 87, 89, 90, 91, 94, 95, 98, 99, 102, 103, 104, 107, 110, 111, 114, 117, 118, 121, 122], [0, 1, 2, 5, 6, 7, 10, 11, 12, 15, 16, 19, 20, 22, 25, 28, 29, 30, 31, 34, 37, 38, 41, 42, 43, 45, 48, 51, 52, 55, 58, 59, 62, 65, 66, 67, 70, 71, 72, 75, 78, 79, 82, 85, 87, 88, 91, 92, 93, 94, 97, 100, 101, 104, 105, 106, 109, 110, 113, 114, 117, 118, 119, 120], [0, 1, 2, 5, 8, 9, 10, 13, 16, 18, 19, 22, 25, 26, 27, 30, 31, 33, 36, 37, 39, 41, 42, 45, 46, 49, 51, 52, 55, 57, 58, 59, 60, 63, 65, 66, 69, 71, 72, 73, 76, 79, 80, 82, 84, 85, 88, 91, 92, 95, 97, 98, 100, 101, 103, 105, 106, 109, 110, 111, 114, 115, 117, 118, 119, 120, 123, 124, 125, 126, 128, 129, 132, 135, 137, 138, 139, 140, 142, 143, 146, 148, 151, 152, 154, 155, 158, 160, 161, 164, 166, 168, 171, 174, 175, 178, 180, 181, 182, 183, 184, 185, 186, 189, 190, 192, 193, 194, 197, 198, 200, 201, 202, 203, 204, 205, 207, 208, 209, 211, 212, 213, 215, 217, 218, 221, 222, 225, 227, 228, 229, 230, 231, 232, 235, 238, 241, 244, 245], [0, 1, 4, 7, 8, 9, 12, 13, 14, 17, 18, 19, 22, 23, 26, 27, 30, 31, 32, 33, 36, 39, 40, 43, 46, 47, 50, 51, 54, 57, 58, 61, 62, 65, 66, 69, 72, 75, 76, 79, 82, 83, 84, 87, 88], [0, 1, 4, 7, 8, 11, 14, 15, 16, 19, 22, 25, 26, 27, 28, 31, 32, 35, 36, 37, 40, 41, 44, 47, 48], [0, 1, 4, 7, 8, 11, 14, 15, 16, 19, 22, 25, 26, 27, 28, 31, 32, 35, 36, 37, 40, 41, 44, 47, 48], [0, 1, 4, 7, 8, 11, 14, 15, 16, 19, 22, 25, 26, 27, 28, 31, 32, 35, 36, 37, 40, 41, 44, 47, 48], [0, 1, 2, 5, 8, 9, 10, 13, 16, 18, 19, 22, 25, 26, 27, 30, 31, 33, 36, 37, 39, 41, 42, 45, 46, 49, 51, 52, 55, 57, 58, 59, 60, 63, 65, 66, 69, 71, 72, 73, 76, 79, 80, 82, 84, 85, 88, 91, 92, 95, 97, 98, 100, 101, 103, 105, 106, 109, 110, 111, 114, 115, 117, 118, 119, 120, 123, 124, 125, 126, 128, 129, 132, 135, 137, 138, 139, 140, 142, 143, 146, 148, 151, 152, 154, 155, 158, 160, 161, 164, 166, 168, 171, 174, 175, 178, 180, 181, 182, 183, 184, 185, 186, 189, 190, 192, 193, 194, 197, 198, 200, 201, 202, 203, 204, 205, 207, 208, 209, 211, 212, 213, 215, 217, 218, 221, 222, 225, 227, 228, 229, 230, 231, 232, 235, 238, 241, 244, 245], [0, 1, 4, 7, 8, 11, 14, 17, 19, 20, 23, 26, 27, 28, 29, 32, 33, 36, 39, 42, 43, 46, 49, 52, 53], [0, 1, 2, 5, 6, 7, 8, 10, 13, 14, 15, 18, 21, 22, 23, 26, 28, 31, 32, 35, 36, 39, 40, 41, 42, 43, 46, 47, 48, 51, 54, 57, 58, 59, 60, 62, 65, 66, 69, 70, 71, 74, 77, 78, 79, 80, 83, 84, 85, 88, 91, 92, 93, 96, 99, 100, 101, 104, 105, 106, 109, 110, 113, 114, 115, 118, 119, 120, 121, 124, 125, 126, 127, 128, 131, 132], [0, 1, 4, 5, 6, 7, 8, 11, 12, 13, 16, 19, 20, 23, 24, 27, 28, 31, 34, 35, 38, 39, 40, 41, 42], [0, 1, 2, 5, 6, 9, 10, 13, 14], [0, 1, 2, 5, 6, 9, 10, 13, 14], [0, 1, 2, 5, 6, 9, 10, 13, 16, 18, 19, 20, 23, 24, 25, 26, 27, 30, 31, 32, 33, 34, 37, 38, 39, 40, 41, 42, 45, 48, 49, 51, 52, 53, 54, 55, 56, 59, 60, 63, 64, 65, 68, 69, 70, 71, 74, 77, 78, 81, 84, 86, 87, 88, 91, 92, 93, 94, 95, 98, 99, 100, 103, 104, 105, 106, 107, 108, 109, 110, 113, 114, 115, 116, 117, 120, 121, 122, 125, 126, 127, 128, 129, 130, 131, 134, 137, 138, 141, 142, 144, 145, 148, 151, 152, 153], [0, 1, 2, 3, 6, 9, 10], [0, 1, 2, 3, 6, 9, 10]]
def mz_pc (k i : Nat) : Nat := (mz_pL.getD k []).getD i 0
def mz_wL : List (Nat × Nat × Nat × Nat) := [(2219, 2217, 2218, 1014), (2230, 2228, 2229, 1014), (3001, 3000, 0, 1016), (3147, 3146, 0, 1022), (1070, 1069, 0, 1005), (4058, 4056, 4057, 1010), (3110, 3108, 3109, 1010), (4138, 4136, 4137, 1010), (3228, 3226, 3227, 1010), (3144, 3142, 3143, 1010), (3236, 3234, 3235, 1010), (6008, 6006, 6007, 1009), (3154, 3152, 3153, 1009), (4092, 4091, 0, 1011), (4084, 4083, 0, 1011), (3127, 3125, 3126, 1003), (3066, 3064, 3065, 1003), (3024, 3023, 5, 1002), (2166, 2164, 2165, 1002), (3031, 3030, 0, 1002), (2196, 2195, 3, 1002), (2200, 2199, 0, 1002), (3123, 3121, 3122, 1008), (1099, 1098, 0, 1001), (4061, 4060, 0, 1001), (5045, 5044, 0, 1001), (5016, 5015, 0, 1001), (3115, 3113, 3114, 1001), (5009, 5007, 5008, 1001), (4151, 4149, 4150, 1001), (4155, 4153, 4154, 1001), (1092, 1091, 0, 1001), (4200, 4198, 4199, 1001), (2162, 2161, 0, 1001), (6108, 6107, 0, 1013), (7090, 7089, 60, 1013), (7034, 7033, 0, 1013), (7114, 7113, 64, 1013), (6233, 6232, 43, 1013), (6222, 6221, 41, 1013), (6206, 6205, 0, 1013), (7069, 7068, 56, 1013), (7038, 7036, 7037, 1013), (8058, 8056, 8057, 1013), (7077, 7076, 58, 1013), (7190, 7188, 7189, 1013), (7057, 7056, 53, 1013), (7194, 7192, 7193, 1013), (7073, 7072, 57, 1013), (6199, 6197, 6198, 1013), (7230, 7228, 7229, 1013), (7171, 7170, 76, 1013), (2236, 2235, 0, 1014), (2215, 2213, 2214, 1014), (3232, 3230, 3231, 1010), (1216, 1215, 0, 1010), (4037, 4035, 4036, 1010), (4011, 4009, 4010, 1010), (3140, 3138, 3139, 1010), (3166, 3164, 3165, 1009), (1182, 1181, 0, 1009), (5024, 5023, 31, 1009), (4023, 4021, 4022, 1009), (2113, 2112, 0, 1012), (4115, 4114, 30, 1011), (4065, 4064, 22, 1011), (2065, 2064, 0, 1011), (5121, 5119, 5120, 1011), (4100, 4099, 27, 1011), (3053, 3051, 3052, 1003), (3087, 3085, 3086, 1003), (1096, 1094, 1095, 1003), (3182, 3180, 3181, 1003), (2170, 2168, 2169, 1002), (3037, 3036, 7, 1002), (2192, 2191, 2, 1002), (5100, 5098, 5099, 1008), (4054, 4052, 4053, 1008), (4075, 4073, 4074, 1008), (3209, 3208, 16, 1004), (1075, 1073, 1074, 1004), (1050, 1049, 0, 1004), (3191, 3189, 3190, 1004), (3070, 3068, 3069, 1004), (5000, 4238, 4239, 1001), (1083, 1082, 0, 1001), (4232, 4230, 4231, 1001), (4236, 4234, 4235, 1001), (4224, 4222, 4223, 1001), (4181, 4179, 4180, 1001), (4212, 4210, 4211, 1001), (4208, 4206, 4207, 1001), (4177, 4175, 4176, 1001), (4124, 4122, 4123, 1001), (4204, 4202, 4203, 1001), (4220, 4218, 4219, 1001), (4173, 4171, 4172, 1001), (7042, 7040, 7041, 1013), (6203, 6201, 6202, 1013), (7086, 7085, 59, 1013), (8130, 8128, 8129, 1013), (8082, 8080, 8081, 1013), (8166, 8165, 86, 1013), (6112, 6111, 0, 1013), (7065, 7064, 55, 1013), (7049, 7048, 0, 1013), (7053, 7052, 52, 1013), (7155, 7154, 72, 1013), (7178, 7177, 0, 1013), (6218, 6217, 40, 1013), (8066, 8065, 79, 1013), (7131, 7130, 67, 1013), (7098, 7097, 61, 1013), (7143, 7142, 70, 1013), (8122, 8121, 82, 1013), (8094, 8093, 80, 1013), (7139, 7138, 69, 1013), (7186, 7184, 7185, 1013), (7163, 7162, 74, 1013), (7182, 7180, 7181, 1013), (7118, 7117, 65, 1013), (7110, 7109, 63, 1013), (7167, 7166, 75, 1013), (7122, 7121, 66, 1013), (2233, 2232, 0, 1015), (4142, 4140, 4141, 1009), (5092, 5090, 5091, 1009), (5108, 5106, 5107, 1009), (5020, 5018, 5019, 1009), (5145, 5144, 34, 1012), (4096, 4095, 26, 1011), (4050, 4049, 21, 1011), (4070, 4069, 23, 1011), (4079, 4078, 24, 1011), (1080, 1078, 1079, 1003), (4169, 4167, 4168, 1003), (3091, 3089, 3090, 1003), (3028, 3027, 6, 1002), (5032, 5030, 5031, 1008), (3136, 3134, 3135, 1008), (3162, 3160, 3161, 1008), (3205, 3203, 3204, 1004), (3105, 3103, 3104, 1004), (5042, 5040, 5041, 1004), (3187, 3185, 3186, 1004), (2159, 2157, 2158, 1001), (4159, 4157, 4158, 1001), (4228, 4226, 4227, 1001), (5096, 5094, 5095, 1001), (4194, 4192, 4193, 1001), (5004, 5002, 5003, 1001), (7159, 7158, 73, 1013), (8002, 8001, 77, 1013), (7222, 7220, 7221, 1013), (8098, 8096, 8097, 1013), (7198, 7196, 7197, 1013), (8038, 8036, 8037, 1013), (7106, 7105, 62, 1013), (7061, 7060, 54, 1013), (6104, 6103, 0, 1013), (7001, 7000, 45, 1013), (7094, 7092, 7093, 1013), (8078, 8076, 8077, 1013), (8074, 8072, 8073, 1013), (8070, 8068, 8069, 1013), (8062, 8060, 8061, 1013), (7214, 7212, 7213, 1013), (8102, 8100, 8101, 1013), (7202, 7200, 7201, 1013), (6237, 6236, 44, 1013), (8026, 8025, 78, 1013), (8086, 8084, 8085, 1013), (8126, 8124, 8125, 1013), (7081, 7079, 7080, 1013), (7135, 7134, 68, 1013), (7226, 7224, 7225, 1013), (8090, 8088, 8089, 1013), (7210, 7208, 7209, 1013), (6214, 6213, 39, 1013), (8118, 8116, 8117, 1013), (7175, 7173, 7174, 1013), (7234, 7232, 7233, 1013), (8018, 8016, 8017, 1013), (8050, 8048, 8049, 1013), (7167, 7166, 75, 1013), (7206, 7204, 7205, 1013), (2226, 2224, 2225, 1014), (5139, 5138, 33, 1012), (4111, 4110, 29, 1011), (4088, 4087, 25, 1011), (1067, 1065, 1066, 1003), (3101, 3099, 3100, 1003), (3049, 3048, 10, 1002), (3062, 3061, 12, 1002), (3075, 3074, 13, 1002), (3178, 3176, 3177, 1008), (4120, 4118, 4119, 1008), (3201, 3199, 3200, 1008), (4028, 4027, 19, 1008), (4019, 4018, 18, 1008), (3158, 3156, 3157, 1008), (4033, 4032, 20, 1008), (3131, 3129, 3130, 1008), (3224, 3222, 3223, 1008), (4001, 4000, 17, 1008), (5053, 5051, 5052, 1004), (5104, 5102, 5103, 1001), (4189, 4187, 4188, 1001), (5013, 5011, 5012, 1001), (4165, 4163, 4164, 1001), (5028, 5026, 5027, 1001), (5037, 5035, 5036, 1001), (5088, 5086, 5087, 1001), (8014, 8012, 8013, 1013), (8042, 8040, 8041, 1013), (8046, 8044, 8045, 1013), (8110, 8109, 81, 1013), (7218, 7216, 7217, 1013), (7102, 7100, 7101, 1013), (8034, 8032, 8033, 1013), (8010, 8008, 8009, 1013), (8006, 8004, 8005, 1013), (7046, 7044, 7045, 1013), (7126, 7124, 7125, 1013), (7014, 7013, 48, 1013), (7238, 7236, 7237, 1013), (7024, 7023, 50, 1013), (7019, 7018, 49, 1013), (8022, 8020, 8021, 1013), (8030, 8028, 8029, 1013), (8054, 8052, 8053, 1013), (7167, 7166, 75, 1013), (8162, 8161, 85, 1013), (4107, 4106, 28, 1011), (1043, 1042, 0, 1003), (2211, 2210, 4, 1002), (3083, 3082, 15, 1002), (3045, 3044, 9, 1002), (3079, 3078, 14, 1002), (3058, 3057, 11, 1002), (3097, 3095, 3096, 1008), (4134, 4132, 4133, 1008), (5072, 5070, 5071, 1008), (4015, 4013, 4014, 1008), (5084, 5082, 5083, 1008), (3219, 3217, 3218, 1008), (5049, 5047, 5048, 1001), (4185, 4183, 4184, 1001), (3197, 3195, 3196, 1001), (5059, 5057, 5058, 1001), (4216, 4214, 4215, 1001), (3119, 3117, 3118, 1001), (3171, 3169, 3170, 1001), (5063, 5061, 5062, 1001), (8114, 8112, 8113, 1013), (6227, 6226, 42, 1013), (8158, 8157, 84, 1013), (7031, 7030, 51, 1013), (7010, 7009, 47, 1013), (8106, 8104, 8105, 1013), (7167, 7166, 75, 1013), (5133, 5132, 32, 1012), (4046, 4044, 4045, 1011), (1037, 1036, 0, 1002), (2188, 2187, 1, 1002), (5080, 5078, 5079, 1008), (1172, 1171, 0, 1008), (3215, 3213, 3214, 1001), (4006, 4004, 4005, 1001), (4147, 4145, 4146, 1001), (4130, 4128, 4129, 1001), (5068, 5066, 5067, 1001), (8174, 8172, 8173, 1013), (8170, 8168, 8169, 1013), (8154, 8152, 8153, 1013), (7005, 7004, 46, 1013), (7167, 7166, 75, 1013), (5129, 5127, 5128, 1012), (2184, 2183, 0, 1002), (3041, 3040, 8, 1002), (5076, 5074, 5075, 1001), (1029, 1028, 0, 1001), (5113, 5111, 5112, 1001), (5117, 5115, 5116, 1001), (4042, 4040, 4041, 1001), (6210, 6208, 6209, 1013), (7167, 7166, 75, 1013), (2179, 2177, 2178, 1002), (5156, 5154, 5155, 1001), (5152, 5150, 5151, 1001), (5125, 5123, 5124, 1001), (7167, 7166, 75, 1013), (2175, 2173, 2174, 1001), (7151, 7150, 71, 1013), (8146, 8145, 83, 1013), (8134, 8132, 8133, 1013), (8138, 8136, 8137, 1013), (7147, 7145, 7146, 1013), (8142, 8140, 8141, 1013), (8150, 8148, 8149, 1013)]
def mz_wp (k : Nat) : Nat × Nat × Nat × Nat := mz_wL.getD k (0, 0, 0, 0)
def mz_gw : List Cond := lw_tbl.filter goodWord
def mz_nw : List Cond := [.methodLinkNest "ParkingEnforcement" 9 ⟨"ParkingEnforcement$TownReader", "<init>", "()V"⟩ "ParkingEnforcement", .methodLinkNest "ParkingEnforcement$Town" 33 ⟨"ParkingEnforcement$Zone", "<init>", "()V"⟩ "ParkingEnforcement", .methodLinkNest "ParkingEnforcement$Town" 58 ⟨"ParkingEnforcement", "copyRow", "([I[I)V"⟩ "ParkingEnforcement", .methodLinkNest "ParkingEnforcement$Town" 78 ⟨"ParkingEnforcement", "put", "([III)V"⟩ "ParkingEnforcement", .methodLinkNest "ParkingEnforcement$Town" 66 ⟨"ParkingEnforcement", "at", "([II)I"⟩ "ParkingEnforcement", .methodLinkNest "ParkingEnforcement$World" 26 ⟨"ParkingEnforcement$Log", "<init>", "()V"⟩ "ParkingEnforcement", .methodLinkNest "ParkingEnforcement" 33 ⟨"ParkingEnforcement$TourPlanner", "<init>", "()V"⟩ "ParkingEnforcement", .methodLinkNest "ParkingEnforcement" 40 ⟨"ParkingEnforcement$PatrolPlanner", "<init>", "()V"⟩ "ParkingEnforcement", .methodLinkNest "ParkingEnforcement$TownReader" 26 ⟨"ParkingEnforcement", "put", "([III)V"⟩ "ParkingEnforcement", .methodLinkNest "ParkingEnforcement$TownReader" 143 ⟨"ParkingEnforcement", "within", "(III)Z"⟩ "ParkingEnforcement", .methodLinkNest "ParkingEnforcement$TownReader" 172 ⟨"ParkingEnforcement", "at", "([II)I"⟩ "ParkingEnforcement", .methodLinkNest "ParkingEnforcement$Zone" 29 ⟨"ParkingEnforcement", "put", "([III)V"⟩ "ParkingEnforcement", .methodLinkNest "ParkingEnforcement$Zone" 25 ⟨"ParkingEnforcement", "copyRow", "([I[I)V"⟩ "ParkingEnforcement", .methodLinkNest "ParkingEnforcement$World" 75 ⟨"ParkingEnforcement", "at", "([II)I"⟩ "ParkingEnforcement", .methodLinkNest "ParkingEnforcement$Log" 38 ⟨"ParkingEnforcement", "put", "([III)V"⟩ "ParkingEnforcement", .methodLinkNest "ParkingEnforcement$Zone" 33 ⟨"ParkingEnforcement", "at", "([II)I"⟩ "ParkingEnforcement", .methodLinkNest "ParkingEnforcement$Log" 42 ⟨"ParkingEnforcement", "at", "([II)I"⟩ "ParkingEnforcement", .methodLinkNest "ParkingEnforcement$TourPlanner" 90 ⟨"ParkingEnforcement", "contains", "(II)Z"⟩ "ParkingEnforcement", .methodLinkNest "ParkingEnforcement$TourPlanner" 98 ⟨"ParkingEnforcement", "put", "([III)V"⟩ "ParkingEnforcement", .methodLinkNest "ParkingEnforcement$TourPlanner" 70 ⟨"ParkingEnforcement", "at", "([II)I"⟩ "ParkingEnforcement", .methodLinkNest "ParkingEnforcement$Log" 34 ⟨"ParkingEnforcement", "copyRow", "([I[I)V"⟩ "ParkingEnforcement", .methodLinkNest "ParkingEnforcement$Zone" 45 ⟨"ParkingEnforcement", "fullCents", "(I)I"⟩ "ParkingEnforcement", .methodLinkNest "ParkingEnforcement$PatrolPlanner" 57 ⟨"ParkingEnforcement", "put", "([III)V"⟩ "ParkingEnforcement", .methodLinkNest "ParkingEnforcement$PatrolPlanner" 62 ⟨"ParkingEnforcement", "contains", "(II)Z"⟩ "ParkingEnforcement", .methodLinkNest "ParkingEnforcement$PatrolPlanner" 75 ⟨"ParkingEnforcement", "at", "([II)I"⟩ "ParkingEnforcement"]
def mz_T (c : Nat) : u_T := match c with | 0 => TX0 | 1 => TX1 | 2 => TX2 | 3 => TX3 | 4 => TX4 | 5 => TX5 | 6 => TX6 | 7 => TX7 | 8 => TX8 | _ => TX9
def mz_ty (c : Nat) : Nat → FieldType := match c with | 0 => tyX0 | 1 => tyX1 | 2 => tyX2 | 3 => tyX3 | 4 => tyX4 | 5 => tyX5 | 6 => tyX6 | 7 => tyX7 | 8 => tyX8 | _ => tyX9
def mz_cn (c : Nat) : String := match c with | 0 => RX0 | 1 => RX1 | 2 => RX2 | 3 => RX3 | 4 => RX4 | 5 => RX5 | 6 => RX6 | 7 => RX7 | 8 => RX8 | 9 => RX9 | _ => "java/lang/String"
def mz_so : List (String × Nat × String) := [("ParkingEnforcement$TownReader", 155, "places"), ("ParkingEnforcement$TownReader", 157, "road"), ("ParkingEnforcement$TownReader", 159, "zone"), ("ParkingEnforcement$TownReader", 161, "rate"), ("ParkingEnforcement$TownReader", 163, "stay"), ("ParkingEnforcement$TownReader", 165, "spaces"), ("ParkingEnforcement$TownReader", 166, "pound"), ("ParkingEnforcement", 83, "minutes is out of range"), ("ParkingEnforcement", 245, "there is no such ticket"), ("ParkingEnforcement", 275, "there is no such log entry"), ("ParkingEnforcement", 325, "there is no such trip"), ("ParkingEnforcementModel", 143, "places"), ("ParkingEnforcementModel", 117, "road"), ("ParkingEnforcementModel", 125, "zone"), ("ParkingEnforcementModel", 131, "rate"), ("ParkingEnforcementModel", 135, "stay"), ("ParkingEnforcementModel", 137, "spaces"), ("ParkingEnforcementModel", 139, "pound")]
def mz_ck (j : Nat) : List Cond := match j with | 0 => k2_sels lw_privs | 1 => tables_1_1 | 2 => tables_1_2 | 3 => tables_1_3 | 4 => tables_1_4 | 5 => tables_1_5 | 6 => tables_1_6 | 7 => tables_1_7 | 8 => tables_1_8 | _ => []
theorem mz_ck_in {j : Nat} {w : Cond} (h : w ∈ mz_ck j) : w ∈ lw_tbl := by
  unfold lw_tbl tables_1
  simp only [List.mem_append]
  unfold mz_ck at h
  split at h <;> first | (simp only [h, true_or, or_true]; done) | (simp at h)
def mz_W (y : Nat) (w : Cond) : Bool := decide ((mz_ck (y / 1000))[y % 1000]? = some w) && goodWord w
def mz_N (y : Nat) (w : Cond) : Bool := decide (mz_nw[y]? = some w)
theorem mz_W_ok {y : Nat} {w : Cond} (h : mz_W y w = true) : w ∈ mz_gw := by
  unfold mz_W at h
  rw [Bool.and_eq_true, decide_eq_true_eq] at h
  exact List.mem_filter.mpr ⟨mz_ck_in (List.mem_of_getElem? h.1), h.2⟩
theorem mz_W_inj {y : Nat} {w w' : Cond} (h : mz_W y w = true) (h' : mz_W y w' = true) : w = w' := by
  unfold mz_W at h h'
  rw [Bool.and_eq_true, decide_eq_true_eq] at h h'
  exact Option.some.inj (h.1.symm.trans h'.1)
theorem mz_N_ok {y : Nat} {w : Cond} (h : mz_N y w = true) : w ∈ mz_nw := by
  unfold mz_N at h
  rw [decide_eq_true_eq] at h
  exact List.mem_of_getElem? h
def mz_isO (t : Option FieldType) : Bool := match t with | some (.object _) => true | _ => false
section Chk
variable (k i : Nat)
def mz_D (ins : Instr) (len : Nat) : Bool := decide (decode (mz_b k) (mz_pc k i) = .ok (ins, len)) && mz_pc k (i + 1) == mz_pc k i + len
def mz_J (ins : Instr) (off : Int) (a : Nat) : Bool := mz_D k i ins 3 && decide ((mz_pc k i : Int) + off = (mz_pc k a : Int))
def mz_ch0 (op a : Nat) (b : Int) (c x y : Nat) : Bool :=
  match op with
  | 0 => decide (-2147483648 ≤ b ∧ b ≤ 2147483647) && (match a with
    | 0 => mz_D k i (.iconst b) 1
    | 1 => mz_D k i (.bipush b) 2 && decide ((Int8.ofInt b).toInt32 = Int32.ofInt b)
    | 2 => mz_D k i (.sipush b) 3 && decide ((Int16.ofInt b).toInt32 = Int32.ofInt b)
    | 3 => mz_D k i (.ldc x) 2 && mz_W y (.constant (mz_y k).cls x (Int32.ofInt b))
    | _ => mz_D k i (.ldc_w x) 3 && mz_W y (.constant (mz_y k).cls x (Int32.ofInt b)))
  | 1 => if x = 0 then decide (a < 4) && mz_D k i (.iload_n (Fin.ofNat 4 a)) 1 else mz_D k i (.iload a) 2
  | 2 => if x = 0 then decide (a < 4) && mz_D k i (.aload_n (Fin.ofNat 4 a)) 1 else mz_D k i (.aload a) 2
  | 3 => decide (a < mz_L k) && (if x = 0 then decide (a < 4) && mz_D k i (.istore_n (Fin.ofNat 4 a)) 1 else mz_D k i (.istore a) 2)
  | 4 => decide (a < mz_L k) && (if x = 0 then decide (a < 4) && mz_D k i (.astore_n (Fin.ofNat 4 a)) 1 else mz_D k i (.astore a) 2)
  | 5 => decide (a < mz_L k) && mz_D k i (.iinc a b) 3
  | 6 => mz_D k i .iadd 1
  | 7 => mz_D k i .isub 1
  | 8 => mz_D k i .imul 1
  | 9 => mz_D k i .idiv 1
  | 10 => mz_D k i .irem 1
  | 11 => mz_D k i .iand 1
  | 12 => mz_D k i .ior 1
  | 13 => mz_D k i .ixor 1
  | 14 => mz_D k i .ishl 1
  | 15 => mz_D k i .ishr 1
  | 16 => mz_D k i .iushr 1
  | 17 => mz_D k i .i2b 1
  | 18 => mz_D k i .dup 1
  | 19 => mz_D k i .pop 1
  | 20 => mz_J k i (.if_icmp .eq b) b a
  | 21 => mz_J k i (.if_icmp .ne b) b a
  | 22 => mz_J k i (.if_icmp .lt b) b a
  | 23 => mz_J k i (.if_icmp .ge b) b a
  | 24 => mz_J k i (.if_icmp .gt b) b a
  | 25 => mz_J k i (.if_icmp .le b) b a
  | 26 => mz_J k i (.ifCond .eq b) b a
  | 27 => mz_J k i (.ifCond .ne b) b a
  | 28 => mz_J k i (.ifCond .lt b) b a
  | 29 => mz_J k i (.ifCond .ge b) b a
  | 30 => mz_J k i (.ifCond .gt b) b a
  | 31 => mz_J k i (.ifCond .le b) b a
  | 32 => mz_J k i (.goto b) b a
  | 33 => mz_J k i (.ifnull b) b a
  | 34 => mz_J k i (.ifnonnull b) b a
  | 35 => mz_D k i (.tableswitch ((mz_pc k c : Int) - mz_pc k i) b (b + (mz_tb a).length - 1) ((mz_tb a).map fun t => (mz_pc k t : Int) - mz_pc k i).toArray) (mz_pc k (i + 1) - mz_pc k i) && decide (-100 ≤ b ∧ b ≤ 100 ∧ (mz_tb a).length ≤ 100)
  | _ => false
def mz_call (a c : Nat) : Bool := decide (mz_dep a < mz_dep k) && decide (c = mz_na a) && decide (a < mz_cdL.length)
def mz_isI (c a : Nat) : Bool := decide (a < mz_nf c) && decide (c < 10) && decide (mz_ty c a = .int) && decide (mz_fr c a = none)
def mz_isR (c a : Nat) : Bool := decide (a < mz_nf c) && decide (c < 10) && (mz_fr c a).isSome
def mz_ch1 (op a : Nat) (b : Int) (c x y : Nat) : Bool :=
  let own := (mz_y k).cls
  let lk : Cond := .fieldLink own x (mz_T c a).1 (mz_T c a).2.1 (mz_T c a).2.2.1
  match op with
  | 36 => mz_D k i (.getfield x) 3 && mz_W y lk && mz_isI c a
  | 37 => mz_D k i (.getfield x) 3 && mz_W y lk && mz_isR c a
  | 38 => mz_D k i (.putfield x) 3 && mz_W y lk && mz_isI c a && (if (mz_T c a).2.2.2 then decide ((mz_y k).name = "<init>") && decide ((mz_T c a).1 = own) else true)
  | 39 => mz_D k i (.putfield x) 3 && mz_W y lk && mz_isR c a && (mz_T c a).2.2.2 && decide ((mz_y k).name = "<init>") && decide ((mz_T c a).1 = own)
  | 40 => mz_D k i .iaload 1
  | 41 => mz_D k i .iastore 1
  | 42 => mz_D k i .baload 1
  | 43 => mz_D k i .bastore 1
  | 44 => mz_D k i .baload 1
  | 45 => mz_D k i .bastore 1
  | 46 => mz_D k i .aaload 1
  | 47 => mz_D k i .aastore 1
  | 48 => mz_D k i .arraylength 1
  | 49 => mz_D k i (.invokestatic x) 3 && mz_W y (.methodLink own x (mz_y a)) && mz_call k a c && mz_W (mz_wp a).2.1 (.static (mz_y a))
  | 50 => mz_D k i (.invokevirtual x) 3 && mz_W y (.methodLink own x (mz_y a)) && mz_call k a c && mz_W (mz_wp a).2.1 (.instanceMethod (mz_y a)) && mz_W (mz_wp a).2.2.1 (.selects (mz_y a).cls (mz_y a) (mz_y a)) && decide (mz_cn b.toNat = (mz_y a).cls) && decide (0 ≤ b) && decide (b < 10 ∨ b = 90)
  | 51 => mz_D k i (.invokespecial x) 3 && mz_W y (.methodLink own x (mz_y a)) && mz_call k a c && mz_W (mz_wp a).2.1 (.instanceMethod (mz_y a)) && decide ((mz_y a).name = "<init>") && decide (mz_rt a = none) && decide (0 ≤ b) && decide (b < 10)
  | 52 => mz_D k i (.invokestatic x) 3 && mz_N y (.methodLinkNest own x (mz_y a) "ParkingEnforcement") && mz_call k a c && mz_W (mz_wp a).2.1 (.static (mz_y a))
  | 54 => mz_D k i (.invokespecial x) 3 && mz_N y (.methodLinkNest own x (mz_y a) "ParkingEnforcement") && mz_call k a c && mz_W (mz_wp a).2.1 (.instanceMethod (mz_y a)) && decide ((mz_y a).name = "<init>") && decide (mz_rt a = none) && decide (0 ≤ b) && decide (b < 10)
  | 55 => mz_D k i .ireturn 1 && (match a with | 0 => decide (mz_rt k = some .int) | 1 => decide (mz_rt k = some .boolean) | 2 => decide (mz_rt k = some .byte) | _ => decide (mz_rt k = some .char))
  | 56 => mz_D k i .areturn 1 && mz_isO (mz_rt k)
  | 57 => mz_D k i .return_ 1 && decide (mz_rt k = none)
  | 58 => mz_D k i (.new x) 3 && mz_W y (.classLink own x (mz_cn a)) && decide (a < 10)
  | 59 => mz_D k i (.newarray .int) 2
  | 60 => mz_D k i (.newarray .boolean) 2
  | 61 => mz_D k i (.newarray .byte) 2
  | 62 => mz_D k i (.anewarray x) 3 && mz_W y (.classLink own x (mz_cn (mz_ar a).1))
  | 63 => mz_D k i (.invokespecial x) 3 && mz_W y (.methodLink own x Lib.objectInit) && decide (1 ≤ mz_dep k)
  | 64 => mz_D k i (.invokestatic x) 3 && mz_W y (.methodLink own x arraycopyName) && decide (1 ≤ mz_dep k)
  | 65 => mz_D k i (.ldc x) 2 && decide (mz_so[a]?.map (fun q => (q.1, q.2.1)) = some (own, x))
  | 66 => mz_D k i (.getfield x) 3 && mz_W y (.fieldLink own x "java/lang/String" "value" "[B")
  | 67 => mz_D k i (.getfield x) 3 && mz_W y (.fieldLink own x "java/lang/String" "coder" "B")
  | 68 => mz_D k i .aconst_null 1
  | 69 => mz_D k i .dup2 1
  | 72 => mz_D k i (.getstatic x) 3 && mz_W y (.fieldLink own x "java/lang/String" "COMPACT_STRINGS" "Z")
  | 73 => mz_D k i (.getstatic x) 3 && mz_W y (.fieldLink own x "jdk/internal/util/Preconditions" "SIOOBE_FORMATTER" "Ljava/util/function/BiFunction;")
  | 74 => mz_D k i .i2c 1
  | 75 => mz_D k i (.invokestatic x) 3 && mz_W y (.methodLink own x Lib.Math.max.name) && decide (1 ≤ mz_dep k)
  | 76 => mz_D k i (.invokestatic x) 3 && mz_W y (.methodLink own x Lib.Math.min.name) && decide (1 ≤ mz_dep k)
  | 99 => true
  | _ => false
end Chk
def mz_chk (k i : Nat) (e : mz_I) : Bool := if e.1 < 36 then mz_ch0 k i e.1 e.2.1 e.2.2.1 e.2.2.2.1 e.2.2.2.2.1 e.2.2.2.2.2 else mz_ch1 k i e.1 e.2.1 e.2.2.1 e.2.2.2.1 e.2.2.2.2.1 e.2.2.2.2.2
def mz_all (k : Nat) : Nat → List mz_I → Bool
  | _, [] => true
  | i, e :: t => mz_chk k i e && mz_all k (i + 1) t
theorem mz_all_ok {k : Nat} : ∀ {l : List mz_I} {i : Nat}, mz_all k i l = true → ∀ (j : Nat) (e : mz_I), l[j]? = some e → mz_chk k (i + j) e = true := by
  intro l
  induction l with
  | nil => intro i _ j e h; simp at h
  | cons x t ih =>
    intro i h j e hj
    unfold mz_all at h
    rw [Bool.and_eq_true] at h
    cases j with
    | zero =>
      simp at hj
      subst hj
      exact h.1
    | succ j =>
      have := ih h.2 j e (by simpa using hj)
      rwa [show i + (j + 1) = i + 1 + j by omega]
/-- the method itself: its words, how many it takes -/
def mz_mok (k : Nat) : Bool :=
  let y := mz_y k
  plainName y.cls && decide (y.cls ≠ "java/lang/invoke/MethodHandle") && decide (y.cls ≠ "java/lang/invoke/VarHandle") && mz_W (mz_wp k).1 (.code y (mz_b k) (mz_L k) (mz_rt k)) && mz_W (mz_wp k).2.2.2 (.initialized y.cls)
    && decide (mz_L k ≤ 30) && decide (mz_na k ≤ mz_L k) && mz_pc k 0 == 0
    && ((mz_W (mz_wp k).2.1 (.static y) && decide ((parseMethodDescriptor y.desc).map (fun d => d.parameters.length) = some (mz_na k))) || (mz_W (mz_wp k).2.1 (.instanceMethod y) && decide (1 ≤ mz_na k) && decide ((parseMethodDescriptor y.desc).map (fun d => d.parameters.length) = some (mz_na k - 1))))
def mz_ok (k : Nat) : Bool := mz_mok k && mz_all k 0 (mz_cd k)
end
section
/-! The small machine's runs are the JVM's. -/
theorem mz_t {n : Int} (h : mz_w n) : (Int32.ofInt n).toInt = n := Int32.toInt_ofInt_of_le (by unfold mz_w at h; omega) (by unfold mz_w at h; omega)
theorem mz_eqI {u v : Int} (hu : mz_w u) (hv : mz_w v) : Int32.ofInt u = Int32.ofInt v ↔ u = v := by
  constructor
  · intro h
    have := congrArg Int32.toInt h
    rwa [mz_t hu, mz_t hv] at this
  · intro h; rw [h]
theorem mz_ltI {u v : Int} (hu : mz_w u) (hv : mz_w v) : Int32.ofInt u < Int32.ofInt v ↔ u < v := by
  rw [Int32.lt_iff_toInt_lt, mz_t hu, mz_t hv]
theorem mz_leI {u v : Int} (hu : mz_w u) (hv : mz_w v) : Int32.ofInt u ≤ Int32.ofInt v ↔ u ≤ v := by
  rw [Int32.le_iff_toInt_le, mz_t hu, mz_t hv]
theorem mz_w0 : mz_w 0 := by unfold mz_w; omega
theorem mz_wt (x : Int32) : mz_w x.toInt := by
  have h1 := x.le_toInt
  have h2 := x.toInt_lt
  unfold mz_w
  omega
theorem mz_inI {j : Int} {n : Nat} (hj : mz_w j) (h : 0 ≤ j ∧ j < n) : vp_in (Int32.ofInt j) n ∧ (Int32.ofInt j).toNatClampNeg = j.toNat := by
  have e : (Int32.ofInt j).toNatClampNeg = j.toNat := by
    show (Int32.ofInt j).toInt.toNat = _
    rw [mz_t hj]
  refine ⟨vp_in_iff.mpr ?_, e⟩
  rw [mz_t hj]
  omega
def mz_v (ad sK sV : Nat → Nat) (vF : Value) : mz_V → Value
  | .inl n => .int (Int32.ofInt n)
  | .inr none => .null
  | .inr (some (t, _, o)) => if t = 90 then .ref (sK o) else if t = 91 then .ref (sV o) else if t = 92 then vF else .ref (ad o)
def mz_fv (ad : Nat → Nat) (σ : mz_S) (t o k : Nat) : Value := match mz_fr t k with
  | some (_, _, f) => if σ.2.2.1 o k then .ref (ad (o + f)) else .null
  | none => .int (Int32.ofInt (σ.2.2.2 o k))
def mz_rw (ad : Nat → Nat) (σ : mz_S) (o k : Nat) : Option Nat := if k < (mz_kd o).2 ∧ σ.2.2.1 o k = true then some (ad (o + ((mz_ar (mz_kd o).1).2.1 + (mz_ar (mz_kd o).1).2.2 * k))) else none
def mz_en (ad : Nat → Nat) (cy : Nat → ClassId) (σ : mz_S) (o : Nat) : va_E :=
  if (mz_kd o).1 < 10 then .inr ((mz_kd o).1, (List.range (mz_nf (mz_kd o).1)).map (mz_fv ad σ (mz_kd o).1 o))
  else if (mz_kd o).1 < 103 then .inl (cy ((mz_kd o).1 - 100), (mz_kd o).2, .inl (fun k => Int32.ofInt (σ.2.2.2 o k)))
  else .inl (cy ((mz_kd o).1 - 100), (mz_kd o).2, .inr (.inr (.inr (.inr (mz_rw ad σ o)))))
def mz_ws (ad : Nat → Nat) (cy : Nat → ClassId) (σ : mz_S) : va_W := (List.range σ.1).map (fun o => (ad o, mz_en ad cy σ o))
def mz_tys (cy : Nat → ClassId) : List (ClassId × FieldType) := [(cy 0, .int), (cy 1, .boolean), (cy 2, .byte), (cy 3, .object RX7), (cy 4, .object RX0), (cy 5, .object RX6)]
def mz_wf (σ : mz_S) (v : mz_V) : Prop := match v with
  | .inl n => mz_w n
  | .inr none => True
  | .inr (some (t, n, o)) => if t = 90 then o < 18 else if t = 91 then o < 18 ∧ n = mz_tl o else if t = 92 then True else o < σ.1 ∧ mz_kd o = (t, n)
def mz_wS (σ : mz_S) : Prop := σ.1 ≤ 167 ∧ (∀ o k, mz_w (σ.2.2.2 o k)) ∧ (∀ o k, (mz_kd o).1 = 101 → σ.2.2.2 o k = 0 ∨ σ.2.2.2 o k = 1) ∧ (∀ o k, (mz_kd o).1 = 102 → -128 ≤ σ.2.2.2 o k ∧ σ.2.2.2 o k ≤ 127) ∧
  (∀ o, o < σ.1 → ∀ k t n f, k < mz_nf (mz_kd o).1 → mz_fr (mz_kd o).1 k = some (t, n, f) → σ.2.2.1 o k = true → o + f < σ.1 ∧ mz_kd (o + f) = (t, n)) ∧
  (∀ o, o < σ.1 → 103 ≤ (mz_kd o).1 → (mz_kd o).1 ≤ 105 → ∀ k, k < (mz_kd o).2 → σ.2.2.1 o k = true → o + ((mz_ar (mz_kd o).1).2.1 + (mz_ar (mz_kd o).1).2.2 * k) < σ.1 ∧ mz_kd (o + ((mz_ar (mz_kd o).1).2.1 + (mz_ar (mz_kd o).1).2.2 * k)) = ((mz_ar (mz_kd o).1).1, 0))
theorem mz_ws_len (ad : Nat → Nat) (cy : Nat → ClassId) (σ : mz_S) : (mz_ws ad cy σ).length = σ.1 := by simp [mz_ws]
theorem mz_ws_at (ad : Nat → Nat) (cy : Nat → ClassId) (σ : mz_S) {o : Nat} (h : o < σ.1) : (mz_ws ad cy σ)[o]? = some (ad o, mz_en ad cy σ o) := by
  simp [mz_ws, h]
theorem mz_ws_ext {ad ad' : Nat → Nat} {cy : Nat → ClassId} {σ σ' : mz_S} (hn : σ'.1 = σ.1) (ha : ∀ o, o < σ.1 → ad o = ad' o) (h : ∀ o, o < σ.1 → mz_en ad cy σ o = mz_en ad' cy σ' o) : mz_ws ad cy σ = mz_ws ad' cy σ' := by
  unfold mz_ws
  rw [hn]
  apply List.map_congr_left
  intro o ho
  have ho := List.mem_range.mp ho
  rw [ha o ho, h o ho]
theorem mz_ws_set {ad : Nat → Nat} {cy : Nat → ClassId} {σ σ' : mz_S} {o : Nat} {e : va_E} (hn : σ'.1 = σ.1) (ho : o < σ.1) (he : mz_en ad cy σ' o = e) (h : ∀ q, q < σ.1 → q ≠ o → mz_en ad cy σ' q = mz_en ad cy σ q) : (mz_ws ad cy σ).set o (ad o, e) = mz_ws ad cy σ' := by
  apply List.ext_getElem?
  intro j
  rw [List.getElem?_set]
  by_cases hj : j < σ.1
  · rw [mz_ws_at _ _ _ hj, mz_ws_at _ _ _ (by rw [hn]; exact hj)]
    by_cases hoj : o = j
    · subst hoj
      simp [mz_ws_len, ho, he]
    · rw [if_neg hoj, h j hj (Ne.symm hoj)]
  · have e1 : (mz_ws ad cy σ)[j]? = none := List.getElem?_eq_none (by rw [mz_ws_len]; omega)
    have e2 : (mz_ws ad cy σ')[j]? = none := List.getElem?_eq_none (by rw [mz_ws_len, hn]; omega)
    rw [e1, e2, if_neg (by omega)]
/-- what is held of a state apart from its cells -/
def mz_Cx (D : va_G) (cy : Nat → ClassId) (sK sV : Nat → Nat) (vF : Value) (β : Nat) (U : State) : Prop :=
  va_K D vwCl (mz_tys cy) U ∧ (∀ w ∈ mz_nw, va_Nw w U) ∧ (∀ (a : Nat) (q : String × Nat × String), mz_so[a]? = some q → vk_R q.1 q.2.1 q.2.2 (sK a) U) ∧
  vk_S 18 (mz_tx.map List.length) (mz_tx.map (fun l => l.map Int32.ofInt)) sK sV (fun q => β ≤ q) U U.heap ∧
  va_Z "java/lang/String" "COMPACT_STRINGS" "Z" (.int 1) (fun q => β ≤ q) U U.heap ∧ va_Z "jdk/internal/util/Preconditions" "SIOOBE_FORMATTER" "Ljava/util/function/BiFunction;" vF (fun q => β ≤ q) U U.heap ∧
  (vF = .null ∨ ∃ a, vF = .ref a) ∧ β ≤ U.heap.size ∧ va_AO RX7 U ∧ va_AO RX0 U ∧ va_AO RX6 U
theorem mz_Cx_go {D : va_G} {cy : Nat → ClassId} {sK sV : Nat → Nat} {vF : Value} {β : Nat} {s U : State} (h : mz_Cx D cy sK sV vF β s) (hW : s.WarmedH U.vm) (hz : s.heap.size ≤ U.heap.size) (hq : ∀ a : Nat, a < s.heap.size → ¬ β ≤ a → U.heap[a]? = s.heap[a]?) : mz_Cx D cy sK sV vF β U := by
  obtain ⟨h1, h2, h3, h4, h5, h6, h7, h8, h10, h11, h12⟩ := h
  refine ⟨va_K.moved hW.alike h1, ?_, fun a q ha => vk_R.warm hW (h3 a q ha), (vk_S.moved hW.alike h4).kept hq, (va_Z.moved hW.alike h5).kept hq, (va_Z.moved hW.alike h6).kept hq, h7, Nat.le_trans h8 hz, va_AO.moved hW.alike h10, va_AO.moved hW.alike h11, va_AO.moved hW.alike h12⟩
  intro w hw
  have h9 := h2 w hw
  simp only [mz_nw, List.mem_cons, List.not_mem_nil, or_false] at hw
  rcases hw with rfl | rfl | rfl | rfl | rfl | rfl | rfl | rfl | rfl | rfl | rfl | rfl | rfl | rfl | rfl | rfl | rfl | rfl | rfl | rfl | rfl | rfl | rfl | rfl | rfl <;> exact va_Nw.warmM hW h9
theorem mz_Cx_same {D : va_G} {cy : Nat → ClassId} {sK sV : Nat → Nat} {vF : Value} {β : Nat} {u U : State} (hv : u.vm = U.vm) (hh : U.heap = u.heap) (h : mz_Cx D cy sK sV vF β u) : mz_Cx D cy sK sV vF β U := by
  obtain ⟨h1, h2, h3, h4, h5, h6, h7, h8, h10, h11, h12⟩ := h
  have ha : u.vm.Alike U.vm := by rw [hv]; exact Vm.Alike.refl _
  refine ⟨va_K.moved ha h1, ?_, fun a q hq => vk_R.same hv.symm (h3 a q hq), by rw [hh]; exact vk_S.moved ha h4, by rw [hh]; exact va_Z.moved ha h5, by rw [hh]; exact va_Z.moved ha h6, h7, by rw [hh]; exact h8, va_AO.moved ha h10, va_AO.moved ha h11, va_AO.moved ha h12⟩
  intro w hw
  have h9 := h2 w hw
  simp only [mz_nw, List.mem_cons, List.not_mem_nil, or_false] at hw
  rcases hw with rfl | rfl | rfl | rfl | rfl | rfl | rfl | rfl | rfl | rfl | rfl | rfl | rfl | rfl | rfl | rfl | rfl | rfl | rfl | rfl | rfl | rfl | rfl | rfl | rfl <;> exact va_Nw.same rfl hv h9
def mz_lv (ad sK sV : Nat → Nat) (vF : Value) (ls : mz_Ls) : List (Nat × Value) := (List.range ls.length).filterMap (fun i => (ls[i]?.join).map (fun v => (i, mz_v ad sK sV vF v)))
theorem mz_lv_mem {ad sK sV : Nat → Nat} {vF : Value} {ls : mz_Ls} {q : Nat × Value} : q ∈ mz_lv ad sK sV vF ls ↔ ∃ v, ls[q.1]? = some (some v) ∧ q.2 = mz_v ad sK sV vF v := by
  unfold mz_lv
  rw [List.mem_filterMap]
  constructor
  · rintro ⟨i, hi, h⟩
    cases hl : ls[i]? with
    | none => rw [hl] at h; simp at h
    | some w =>
      rw [hl] at h
      cases w with
      | none => simp at h
      | some v =>
        simp at h
        subst h
        exact ⟨v, hl, rfl⟩
  · rintro ⟨v, h1, h2⟩
    refine ⟨q.1, List.mem_range.mpr (List.getElem?_eq_some_iff.mp h1).1, ?_⟩
    rw [h1]
    simp [← h2]
theorem mz_cat {vF : Value} (hF : vF = .null ∨ ∃ a, vF = .ref a) (ad sK sV : Nat → Nat) (v : mz_V) : (mz_v ad sK sV vF v).category = 1 := by
  unfold mz_v
  split
  · rfl
  · rfl
  · split
    · rfl
    · split
      · rfl
      · split
        · rcases hF with h | ⟨a, h⟩ <;> rw [h] <;> rfl
        · rfl
theorem mz_isr {vF : Value} (hF : vF = .null ∨ ∃ a, vF = .ref a) (ad sK sV : Nat → Nat) (r : Option (Nat × Nat × Nat)) : mz_v ad sK sV vF (.inr r) = .null ∨ ∃ a, mz_v ad sK sV vF (.inr r) = .ref a := by
  unfold mz_v
  split
  · rename_i h; cases h
  · exact Or.inl rfl
  · split
    · exact Or.inr ⟨_, rfl⟩
    · split
      · exact Or.inr ⟨_, rfl⟩
      · split
        · exact hF
        · exact Or.inr ⟨_, rfl⟩
theorem mz_lr_set {ad sK sV : Nat → Nat} {vF : Value} (hF : vF = .null ∨ ∃ a, vF = .ref a) {lsA : Array Slot} {nL a : Nat} {ls : mz_Ls} {v : mz_V} (h : lv_has lsA nL ((a, mz_v ad sK sV vF v) :: (mz_lv ad sK sV vF ls).filter (fun q => !(q.1 == a) && !(q.1 + 1 == a && q.2.category == 2)))) : lv_has lsA nL (mz_lv ad sK sV vF (ls.set a (some v))) := by
  refine ⟨h.1, h.2.1, fun q hq => h.2.2 q ?_⟩
  obtain ⟨w, h1, h2⟩ := mz_lv_mem.mp hq
  rw [List.getElem?_set] at h1
  by_cases ha : a = q.1
  · rw [if_pos ha] at h1
    split at h1
    · simp at h1
      subst h1
      rw [show q = (a, mz_v ad sK sV vF v) by rw [ha, ← h2]]
      exact List.mem_cons_self
    · simp at h1
  · rw [if_neg ha] at h1
    refine List.mem_cons_of_mem _ (List.mem_filter.mpr ⟨mz_lv_mem.mpr ⟨w, h1, h2⟩, ?_⟩)
    rw [h2, mz_cat hF]
    simp
    omega
theorem mz_v_ext {ad ad' sK sV : Nat → Nat} {vF : Value} {σ : mz_S} (h : ∀ o, o < σ.1 → ad' o = ad o) {v : mz_V} (hv : mz_wf σ v) : mz_v ad' sK sV vF v = mz_v ad sK sV vF v := by
  unfold mz_v
  split
  · rfl
  · rfl
  · rename_i t n o
    split
    · rfl
    · split
      · rfl
      · split
        · rfl
        · have : o < σ.1 := by
            simp only [mz_wf] at hv
            rename_i h1 h2 h3
            rw [if_neg h1, if_neg h2, if_neg h3] at hv
            exact hv.1
          rw [h o this]
theorem mz_wf_mono {σ σ' : mz_S} (h : σ.1 ≤ σ'.1) {v : mz_V} (hv : mz_wf σ v) : mz_wf σ' v := by
  unfold mz_wf at hv ⊢
  split
  · exact hv
  · trivial
  · simp only at hv
    split
    · rename_i h1; rw [if_pos h1] at hv; exact hv
    · rename_i h1; rw [if_neg h1] at hv
      split
      · rename_i h2; rw [if_pos h2] at hv; exact hv
      · rename_i h2; rw [if_neg h2] at hv
        split
        · trivial
        · rename_i h3; rw [if_neg h3] at hv; exact ⟨Nat.lt_of_lt_of_le hv.1 h, hv.2⟩
end
section
/-! One operation of the small machine, one of the JVM: the operations that touch no cell. -/
section Sn2
variable {p : Program} {l : Launch} {e : Env} {R : Room} {s : State} {m : MethodId} {args : Array Value} {below : List Frame} {meth : Method} {c : Code} {D : va_G} {cy : Nat → ClassId} {sK sV : Nat → Nat} {vF : Value} {β : Nat} {Q : State → Prop} {ade ad : Nat → Nat} {te se : Nat} {k : Nat} {σ : mz_S} {ls : mz_Ls} {st : List mz_V} {lsA : Array Slot} {H : Heap} {locs : List Loc}
def mz_F (p : Program) (R : Room) (s : State) (m : MethodId) (args : Array Value) (meth : Method) (c : Code) (D : va_G) (cy : Nat → ClassId) (sK sV : Nat → Nat) (vF : Value) (β : Nat) (k : Nat) : Prop :=
  p.tables.exec = Jvm.exec ∧ c.code = mz_b k ∧ meth.sig.returnType = mz_rt k ∧ c.maxLocals = mz_L k ∧ s.vm.findClass (mz_y k).cls = some m.cls ∧ meth.locks = false ∧ meth.name = (mz_y k).name ∧ (∀ w ∈ mz_gw, w.before args s = true) ∧ mz_Cx D cy sK sV vF β s ∧ mz_dep k ≤ R.frames ∧ 60 * mz_dep k ≤ R.locals
def mz_H (s : State) (D : va_G) (cy : Nat → ClassId) (sK sV : Nat → Nat) (vF : Value) (β : Nat) (k : Nat) (ad : Nat → Nat) (σ : mz_S) (ls : mz_Ls) (st : List mz_V) (lsA : Array Slot) (H : Heap) (locs : List Loc) : Prop :=
  va_P D vwCl (mz_ws ad cy σ) H ∧ va_D (fun q => β ≤ q) (mz_ws ad cy σ) ∧ va_S (fun q => β ≤ q) s.heap H locs ∧ mz_wS σ ∧ (∀ v ∈ st, mz_wf σ v) ∧ (∀ (a : Nat) (v : mz_V), ls[a]? = some (some v) → mz_wf σ v) ∧ lv_has lsA (mz_L k) (mz_lv ad sK sV vF ls) ∧ ls.length = mz_L k
def mz_K (p : Program) (l : Launch) (e : Env) (R : Room) (s : State) (m : MethodId) (args : Array Value) (below : List Frame) (meth : Method) (c : Code) (D : va_G) (cy : Nat → ClassId) (sK sV : Nat → Nat) (vF : Value) (β : Nat) (Q : State → Prop) (ade : Nat → Nat) (te se : Nat) (k i : Nat) (ls : mz_Ls) (st : List mz_V) (σ : mz_S) : Prop :=
  ∀ (ad : Nat → Nat) (lsA : Array Slot) (H : Heap) (locs : List Loc), (∀ o, o < te → ad o = ade o) → te ≤ σ.1 → se ≤ σ.2.1 → mz_H s D cy sK sV vF β k ad σ ls st lsA H locs →
    W p l e R s m args below meth c H locs (σ.1 - te) (σ.2.1 - se) Q (F0 m (mz_pc k i) lsA (st.map (mz_v ad sK sV vF)))
theorem mz_K_at {j : Nat} (hK : mz_K p l e R s m args below meth c D cy sK sV vF β Q ade te se k j ls st σ) {pc' : Nat} (hj : mz_pc k j = pc') (h1 : ∀ o, o < te → ad o = ade o) (h2 : te ≤ σ.1) (h3 : se ≤ σ.2.1) (hH : mz_H s D cy sK sV vF β k ad σ ls st lsA H locs) {stk : List Value} (hs : st.map (mz_v ad sK sV vF) = stk) :
    W p l e R s m args below meth c H locs (σ.1 - te) (σ.2.1 - se) Q (F0 m pc' lsA stk) := by
  subst hj; subst hs
  exact hK ad lsA H locs h1 h2 h3 hH
theorem mz_H_st {st' : List mz_V} (hH : mz_H s D cy sK sV vF β k ad σ ls st lsA H locs) (h : ∀ v ∈ st', mz_wf σ v) : mz_H s D cy sK sV vF β k ad σ ls st' lsA H locs :=
  ⟨hH.1, hH.2.1, hH.2.2.1, hH.2.2.2.1, h, hH.2.2.2.2.2⟩
theorem mz_H_wf (hH : mz_H s D cy sK sV vF β k ad σ ls st lsA H locs) {v : mz_V} (h : v ∈ st) : mz_wf σ v := hH.2.2.2.2.1 v h
theorem mz_H_tl {v : mz_V} (hH : mz_H s D cy sK sV vF β k ad σ ls (v :: st) lsA H locs) : mz_H s D cy sK sV vF β k ad σ ls st lsA H locs := mz_H_st hH fun w hw => mz_H_wf hH (List.mem_cons_of_mem _ hw)
theorem mz_H_cons {v : mz_V} (hH : mz_H s D cy sK sV vF β k ad σ ls st lsA H locs) (hv : mz_wf σ v) : mz_H s D cy sK sV vF β k ad σ ls (v :: st) lsA H locs := mz_H_st hH fun w hw => by
  rcases List.mem_cons.mp hw with rfl | hw
  · exact hv
  · exact mz_H_wf hH hw
theorem mz_H_hd {v : mz_V} (hH : mz_H s D cy sK sV vF β k ad σ ls (v :: st) lsA H locs) : mz_wf σ v := mz_H_wf hH List.mem_cons_self
theorem mz_H_ls {a : Nat} {v : mz_V} (hH : mz_H s D cy sK sV vF β k ad σ ls st lsA H locs) (h : ls[a]? = some (some v)) : mz_wf σ v := hH.2.2.2.2.2.1 a v h
theorem mz_H_at {a : Nat} {v : mz_V} (hH : mz_H s D cy sK sV vF β k ad σ ls st lsA H locs) (h : ls[a]? = some (some v)) : lsA[a]? = some (.val (mz_v ad sK sV vF v)) :=
  hH.2.2.2.2.2.2.1.2.2 (a, mz_v ad sK sV vF v) (mz_lv_mem.mpr ⟨v, h, rfl⟩)
theorem mz_H_set (hF : vF = .null ∨ ∃ a, vF = .ref a) {a : Nat} {v : mz_V} {lsB : Array Slot} (hH : mz_H s D cy sK sV vF β k ad σ ls st lsA H locs) (hv : mz_wf σ v)
    (h : lv_has lsB (mz_L k) ((a, mz_v ad sK sV vF v) :: (mz_lv ad sK sV vF ls).filter (fun q => !(q.1 == a) && !(q.1 + 1 == a && q.2.category == 2)))) : mz_H s D cy sK sV vF β k ad σ (ls.set a (some v)) st lsB H locs := by
  refine ⟨hH.1, hH.2.1, hH.2.2.1, hH.2.2.2.1, hH.2.2.2.2.1, ?_, mz_lr_set hF h, by rw [List.length_set]; exact hH.2.2.2.2.2.2.2⟩
  intro b w hw
  rw [List.getElem?_set] at hw
  split at hw
  · split at hw
    · simp at hw; subst hw; exact hv
    · simp at hw
  · exact mz_H_ls hH hw
theorem mz_D_ok {i : Nat} {ins : Instr} {len : Nat} (h : mz_D k i ins len = true) : decode (mz_b k) (mz_pc k i) = .ok (ins, len) ∧ mz_pc k (i + 1) = mz_pc k i + len := by
  unfold mz_D at h
  rw [Bool.and_eq_true, decide_eq_true_eq, beq_iff_eq] at h
  exact h
theorem mz_J_ok {i : Nat} {ins : Instr} {off : Int} {a : Nat} (h : mz_J k i ins off a = true) : decode (mz_b k) (mz_pc k i) = .ok (ins, 3) ∧ mz_pc k (i + 1) = mz_pc k i + 3 ∧ (mz_pc k i : Int) + off = (mz_pc k a : Int) := by
  unfold mz_J at h
  rw [Bool.and_eq_true, decide_eq_true_eq] at h
  obtain ⟨h1, h2⟩ := mz_D_ok h.1
  exact ⟨h1, h2, h.2⟩
theorem mz_v_i {n : Int} : mz_v ad sK sV vF (.inl n) = .int (Int32.ofInt n) := rfl
theorem mz_v_n : mz_v ad sK sV vF (.inr none) = .null := rfl
theorem mz_ad (x y : Int) : Int32.ofInt x + Int32.ofInt y = Int32.ofInt (x + y) := (Int32.ofInt_add ..).symm
theorem mz_sb (x y : Int) : Int32.ofInt x - Int32.ofInt y = Int32.ofInt (x - y) := (Int32.ofInt_sub ..).symm
theorem mz_ml (x y : Int) : Int32.ofInt x * Int32.ofInt y = Int32.ofInt (x * y) := (Int32.ofInt_mul ..).symm
theorem mz_dv {x y : Int} (hx : mz_w x) (hy : mz_w y) (h0 : 0 < y) (h1 : 0 ≤ x) : Int32.ofInt x / Int32.ofInt y = Int32.ofInt (x / y) := by
  unfold mz_w at hx hy
  rw [← Int.tdiv_eq_ediv_of_nonneg h1]
  refine (Int32.ofInt_tdiv ?_ ?_ ?_ ?_).symm <;> first | (show (-2147483648 : Int) ≤ _; omega) | (show _ ≤ (2147483647 : Int); omega) | (show _ < (2147483648 : Int); omega)
theorem mz_rm {x y : Int} (hx : mz_w x) (hy : mz_w y) (h0 : 0 < y) (h1 : 0 ≤ x) : Int32.ofInt x - Int32.ofInt x / Int32.ofInt y * Int32.ofInt y = Int32.ofInt (x % y) := by
  rw [mz_dv hx hy h0 h1, mz_ml, mz_sb, Int.emod_def, Int.mul_comm]
theorem mz_n0 {y : Int} (hy : mz_w y) (h : 0 < y) : ¬ Int32.ofInt y = 0 := by
  intro q
  have := (mz_eqI hy mz_w0).mp q
  omega
theorem mz_wdiv {x y : Int} (hx : mz_w x) (h0 : 0 < y) (h1 : 0 ≤ x) : mz_w (x / y) := by
  have h2 := Int.ediv_nonneg h1 (Int.le_of_lt h0)
  have h3 := Int.ediv_le_self y h1
  unfold mz_w at hx ⊢
  omega
theorem mz_wmod {x y : Int} (hy : mz_w y) (h0 : 0 < y) : mz_w (x % y) := by
  have h2 := Int.emod_nonneg x (by omega : y ≠ 0)
  have h3 := Int.emod_lt_of_pos x h0
  unfold mz_w at hy ⊢
  omega
end Sn2
end
section
/-! The operations that touch no cell, one by one. -/
section Sn3
variable {p : Program} {l : Launch} {e : Env} {R : Room} {s : State} {m : MethodId} {args : Array Value} {below : List Frame} {meth : Method} {c : Code} {D : va_G} {cy : Nat → ClassId} {sK sV : Nat → Nat} {vF : Value} {β : Nat} {Q : State → Prop} {ade : Nat → Nat} {te se : Nat} {k i a c9 x9 y9 : Nat} {b : Int} {σ : mz_S} {ls : mz_Ls} {st : List mz_V}
theorem mz_s0 (hF : mz_F p R s m args meth c D cy sK sV vF β k) (hc : mz_ch0 k i 0 a b c9 x9 y9 = true) (h : mz_st0 (fun ls st σ => mz_K p l e R s m args below meth c D cy sK sV vF β Q ade te se k (i + 1) ls st σ) (fun a ls st σ => mz_K p l e R s m args below meth c D cy sK sV vF β Q ade te se k a ls st σ) (0, a, b, c9, x9, y9) ls st σ) : mz_K p l e R s m args below meth c D cy sK sV vF β Q ade te se k i ls st σ := by
  obtain ⟨hx, hb, hr, hml, hown, hlk, hnm, hts, hCx, hfr, hlo⟩ := hF
  intro ad lsA H locs h1 h2 h3 hH
  have h : mz_K p l e R s m args below meth c D cy sK sV vF β Q ade te se k (i + 1) ls (.inl b :: st) σ := h
  simp only [mz_ch0, Bool.and_eq_true, decide_eq_true_eq] at hc
  obtain ⟨hw, hc⟩ := hc
  have hH2 := mz_H_cons hH (v := .inl b) hw
  match a, hc with
  | 0, hc =>
    obtain ⟨hd, hp⟩ := mz_D_ok hc
    exact lv_iconst hx hb hd rfl (mz_K_at h hp h1 h2 h3 hH2 rfl)
  | 1, hc =>
    simp only [Bool.and_eq_true, decide_eq_true_eq] at hc
    obtain ⟨hd, hp⟩ := mz_D_ok hc.1
    exact lv_bipush hx hb hd hc.2 (mz_K_at h hp h1 h2 h3 hH2 rfl)
  | 2, hc =>
    simp only [Bool.and_eq_true, decide_eq_true_eq] at hc
    obtain ⟨hd, hp⟩ := mz_D_ok hc.1
    exact lv_sipush hx hb hd hc.2 (mz_K_at h hp h1 h2 h3 hH2 rfl)
  | 3, hc =>
    simp only [Bool.and_eq_true] at hc
    obtain ⟨hd, hp⟩ := mz_D_ok hc.1
    exact lv_ldc hx hb hown (hts _ (mz_W_ok hc.2)) hd (mz_K_at h hp h1 h2 h3 hH2 rfl)
  | a + 4, hc =>
    simp only [Bool.and_eq_true] at hc
    obtain ⟨hd, hp⟩ := mz_D_ok hc.1
    exact lv_ldcw hx hb hown (hts _ (mz_W_ok hc.2)) hd (mz_K_at h hp h1 h2 h3 hH2 rfl)

theorem mz_s1 (hF : mz_F p R s m args meth c D cy sK sV vF β k) (hc : mz_ch0 k i 1 a b c9 x9 y9 = true) (h : mz_st0 (fun ls st σ => mz_K p l e R s m args below meth c D cy sK sV vF β Q ade te se k (i + 1) ls st σ) (fun a ls st σ => mz_K p l e R s m args below meth c D cy sK sV vF β Q ade te se k a ls st σ) (1, a, b, c9, x9, y9) ls st σ) : mz_K p l e R s m args below meth c D cy sK sV vF β Q ade te se k i ls st σ := by
  obtain ⟨hx, hb, hr, hml, hown, hlk, hnm, hts, hCx, hfr, hlo⟩ := hF
  intro ad lsA H locs h1 h2 h3 hH
  obtain ⟨v, hl, h⟩ := mz_lk_spec h
  rcases v with n | r
  case inr => exact False.elim h
  have h : mz_K p l e R s m args below meth c D cy sK sV vF β Q ade te se k (i + 1) ls (.inl n :: st) σ := h
  have hH2 := mz_H_cons hH (mz_H_ls hH hl)
  simp only [mz_ch0] at hc
  split at hc
  · simp only [Bool.and_eq_true, decide_eq_true_eq] at hc
    obtain ⟨hd, hp⟩ := mz_D_ok hc.2
    exact lv_iload_n hx hb hd (Nat.mod_eq_of_lt hc.1) (mz_H_at hH hl) (mz_K_at h hp h1 h2 h3 hH2 rfl)
  · obtain ⟨hd, hp⟩ := mz_D_ok hc
    exact lv_iload hx hb hd (mz_H_at hH hl) (mz_K_at h hp h1 h2 h3 hH2 rfl)

theorem mz_s2 (hF : mz_F p R s m args meth c D cy sK sV vF β k) (hc : mz_ch0 k i 2 a b c9 x9 y9 = true) (h : mz_st0 (fun ls st σ => mz_K p l e R s m args below meth c D cy sK sV vF β Q ade te se k (i + 1) ls st σ) (fun a ls st σ => mz_K p l e R s m args below meth c D cy sK sV vF β Q ade te se k a ls st σ) (2, a, b, c9, x9, y9) ls st σ) : mz_K p l e R s m args below meth c D cy sK sV vF β Q ade te se k i ls st σ := by
  obtain ⟨hx, hb, hr, hml, hown, hlk, hnm, hts, hCx, hfr, hlo⟩ := hF
  intro ad lsA H locs h1 h2 h3 hH
  obtain ⟨v, hl, h⟩ := mz_lk_spec h
  rcases v with n | r
  case inl => exact False.elim h
  have h : mz_K p l e R s m args below meth c D cy sK sV vF β Q ade te se k (i + 1) ls (.inr r :: st) σ := h
  have hH2 := mz_H_cons hH (mz_H_ls hH hl)
  have hat := mz_H_at hH hl
  simp only [mz_ch0] at hc
  rcases mz_isr hCx.2.2.2.2.2.2.1 ad sK sV r with hn | ⟨q, hn⟩
  · rw [hn] at hat
    split at hc
    · simp only [Bool.and_eq_true, decide_eq_true_eq] at hc
      obtain ⟨hd, hp⟩ := mz_D_ok hc.2
      exact lv_aload_nN hx hb hd (Nat.mod_eq_of_lt hc.1) hat (mz_K_at h hp h1 h2 h3 hH2 (by rw [List.map_cons, hn]))
    · obtain ⟨hd, hp⟩ := mz_D_ok hc
      exact lv_aloadN hx hb hd hat (mz_K_at h hp h1 h2 h3 hH2 (by rw [List.map_cons, hn]))
  · rw [hn] at hat
    split at hc
    · simp only [Bool.and_eq_true, decide_eq_true_eq] at hc
      obtain ⟨hd, hp⟩ := mz_D_ok hc.2
      exact lv_aload_n hx hb hd (Nat.mod_eq_of_lt hc.1) hat (mz_K_at h hp h1 h2 h3 hH2 (by rw [List.map_cons, hn]))
    · obtain ⟨hd, hp⟩ := mz_D_ok hc
      exact lv_aload hx hb hd hat (mz_K_at h hp h1 h2 h3 hH2 (by rw [List.map_cons, hn]))

theorem mz_s3 (hF : mz_F p R s m args meth c D cy sK sV vF β k) (hc : mz_ch0 k i 3 a b c9 x9 y9 = true) (h : mz_st0 (fun ls st σ => mz_K p l e R s m args below meth c D cy sK sV vF β Q ade te se k (i + 1) ls st σ) (fun a ls st σ => mz_K p l e R s m args below meth c D cy sK sV vF β Q ade te se k a ls st σ) (3, a, b, c9, x9, y9) ls st σ) : mz_K p l e R s m args below meth c D cy sK sV vF β Q ade te se k i ls st σ := by
  obtain ⟨hx, hb, hr, hml, hown, hlk, hnm, hts, hCx, hfr, hlo⟩ := hF
  intro ad lsA H locs h1 h2 h3 hH
  rcases st with _ | ⟨v, st⟩
  · exact False.elim h
  rcases v with n | r
  case inr => exact False.elim h
  have h : mz_K p l e R s m args below meth c D cy sK sV vF β Q ade te se k (i + 1) (ls.set a (some (.inl n))) st σ := h
  have hH2 := mz_H_tl hH
  simp only [mz_ch0, Bool.and_eq_true, decide_eq_true_eq] at hc
  obtain ⟨hL, hc⟩ := hc
  split at hc
  · simp only [Bool.and_eq_true, decide_eq_true_eq] at hc
    obtain ⟨hd, hp⟩ := mz_D_ok hc.2
    refine lv_istore_n (x := Int32.ofInt n) (lv' := _) hx hb hd (Nat.mod_eq_of_lt hc.1) hH.2.2.2.2.2.2.1 hL rfl (fun lsB hB => ?_)
    exact mz_K_at h hp h1 h2 h3 (mz_H_set hCx.2.2.2.2.2.2.1 hH2 (mz_H_hd hH) hB) rfl
  · obtain ⟨hd, hp⟩ := mz_D_ok hc
    refine lv_istore (x := Int32.ofInt n) (lv' := _) hx hb hd hH.2.2.2.2.2.2.1 hL rfl (fun lsB hB => ?_)
    exact mz_K_at h hp h1 h2 h3 (mz_H_set hCx.2.2.2.2.2.2.1 hH2 (mz_H_hd hH) hB) rfl

theorem mz_s4 (hF : mz_F p R s m args meth c D cy sK sV vF β k) (hc : mz_ch0 k i 4 a b c9 x9 y9 = true) (h : mz_st0 (fun ls st σ => mz_K p l e R s m args below meth c D cy sK sV vF β Q ade te se k (i + 1) ls st σ) (fun a ls st σ => mz_K p l e R s m args below meth c D cy sK sV vF β Q ade te se k a ls st σ) (4, a, b, c9, x9, y9) ls st σ) : mz_K p l e R s m args below meth c D cy sK sV vF β Q ade te se k i ls st σ := by
  obtain ⟨hx, hb, hr, hml, hown, hlk, hnm, hts, hCx, hfr, hlo⟩ := hF
  intro ad lsA H locs h1 h2 h3 hH
  rcases st with _ | ⟨v, st⟩
  · exact False.elim h
  rcases v with n | r
  case inl => exact False.elim h
  have h : mz_K p l e R s m args below meth c D cy sK sV vF β Q ade te se k (i + 1) (ls.set a (some (.inr r))) st σ := h
  have hH2 := mz_H_tl hH
  simp only [mz_ch0, Bool.and_eq_true, decide_eq_true_eq] at hc
  obtain ⟨hL, hc⟩ := hc
  rw [List.map_cons]
  rcases mz_isr hCx.2.2.2.2.2.2.1 ad sK sV r with hn | ⟨q, hn⟩
  · rw [hn]
    split at hc
    · simp only [Bool.and_eq_true, decide_eq_true_eq] at hc
      obtain ⟨hd, hp⟩ := mz_D_ok hc.2
      refine lv_astore_nN (lv' := _) hx hb hd (Nat.mod_eq_of_lt hc.1) hH.2.2.2.2.2.2.1 hL rfl (fun lsB hB => ?_)
      rw [← hn] at hB
      exact mz_K_at h hp h1 h2 h3 (mz_H_set hCx.2.2.2.2.2.2.1 hH2 (mz_H_hd hH) hB) rfl
    · obtain ⟨hd, hp⟩ := mz_D_ok hc
      refine lv_astoreN (lv' := _) hx hb hd hH.2.2.2.2.2.2.1 hL rfl (fun lsB hB => ?_)
      rw [← hn] at hB
      exact mz_K_at h hp h1 h2 h3 (mz_H_set hCx.2.2.2.2.2.2.1 hH2 (mz_H_hd hH) hB) rfl
  · rw [hn]
    split at hc
    · simp only [Bool.and_eq_true, decide_eq_true_eq] at hc
      obtain ⟨hd, hp⟩ := mz_D_ok hc.2
      refine lv_astore_n (x := q) (lv' := _) hx hb hd (Nat.mod_eq_of_lt hc.1) hH.2.2.2.2.2.2.1 hL rfl (fun lsB hB => ?_)
      rw [← hn] at hB
      exact mz_K_at h hp h1 h2 h3 (mz_H_set hCx.2.2.2.2.2.2.1 hH2 (mz_H_hd hH) hB) rfl
    · obtain ⟨hd, hp⟩ := mz_D_ok hc
      refine lv_astore (x := q) (lv' := _) hx hb hd hH.2.2.2.2.2.2.1 hL rfl (fun lsB hB => ?_)
      rw [← hn] at hB
      exact mz_K_at h hp h1 h2 h3 (mz_H_set hCx.2.2.2.2.2.2.1 hH2 (mz_H_hd hH) hB) rfl

theorem mz_s5 (hF : mz_F p R s m args meth c D cy sK sV vF β k) (hc : mz_ch0 k i 5 a b c9 x9 y9 = true) (h : mz_st0 (fun ls st σ => mz_K p l e R s m args below meth c D cy sK sV vF β Q ade te se k (i + 1) ls st σ) (fun a ls st σ => mz_K p l e R s m args below meth c D cy sK sV vF β Q ade te se k a ls st σ) (5, a, b, c9, x9, y9) ls st σ) : mz_K p l e R s m args below meth c D cy sK sV vF β Q ade te se k i ls st σ := by
  obtain ⟨hx, hb, hr, hml, hown, hlk, hnm, hts, hCx, hfr, hlo⟩ := hF
  intro ad lsA H locs h1 h2 h3 hH
  obtain ⟨v, hl, h⟩ := mz_lk_spec h
  rcases v with n | r
  case inr => exact False.elim h
  have h : mz_w (n + b) ∧ mz_K p l e R s m args below meth c D cy sK sV vF β Q ade te se k (i + 1) (ls.set a (some (.inl (n + b)))) st σ := h
  obtain ⟨hw, h⟩ := h
  simp only [mz_ch0, Bool.and_eq_true, decide_eq_true_eq] at hc
  obtain ⟨hL, hc⟩ := hc
  obtain ⟨hd, hp⟩ := mz_D_ok hc
  obtain ⟨j, hj⟩ := List.getElem?_of_mem (mz_lv_mem (ad := ad) (sK := sK) (sV := sV) (vF := vF) (q := (a, mz_v ad sK sV vF (.inl n))) |>.mpr ⟨.inl n, hl, rfl⟩)
  refine lv_iinc (v := Int32.ofInt (n + b)) (lv' := _) hx hb hd hH.2.2.2.2.2.2.1 hj (mz_ad n b) hL rfl (fun lsB hB => ?_)
  exact mz_K_at h hp h1 h2 h3 (mz_H_set (v := .inl (n + b)) hCx.2.2.2.2.2.2.1 hH hw hB) rfl

theorem mz_s6 (hF : mz_F p R s m args meth c D cy sK sV vF β k) (hc : mz_ch0 k i 6 a b c9 x9 y9 = true) (h : mz_st0 (fun ls st σ => mz_K p l e R s m args below meth c D cy sK sV vF β Q ade te se k (i + 1) ls st σ) (fun a ls st σ => mz_K p l e R s m args below meth c D cy sK sV vF β Q ade te se k a ls st σ) (6, a, b, c9, x9, y9) ls st σ) : mz_K p l e R s m args below meth c D cy sK sV vF β Q ade te se k i ls st σ := by
  obtain ⟨hx, hb, hr, hml, hown, hlk, hnm, hts, hCx, hfr, hlo⟩ := hF
  intro ad lsA H locs h1 h2 h3 hH
  rcases st with _ | ⟨v, st⟩
  · exact False.elim h
  rcases v with v | r
  case inr => exact False.elim h
  rcases st with _ | ⟨u, st⟩
  · exact False.elim h
  rcases u with u | r
  case inr => exact False.elim h
  have h : mz_w (u + v) ∧ mz_K p l e R s m args below meth c D cy sK sV vF β Q ade te se k (i + 1) ls (.inl (u + v) :: st) σ := h
  obtain ⟨hd, hp⟩ := mz_D_ok hc
  refine lv_iadd hx hb hd ?_
  rw [mz_ad]
  exact mz_K_at h.2 hp h1 h2 h3 (mz_H_cons (mz_H_tl (mz_H_tl hH)) h.1) rfl

theorem mz_s7 (hF : mz_F p R s m args meth c D cy sK sV vF β k) (hc : mz_ch0 k i 7 a b c9 x9 y9 = true) (h : mz_st0 (fun ls st σ => mz_K p l e R s m args below meth c D cy sK sV vF β Q ade te se k (i + 1) ls st σ) (fun a ls st σ => mz_K p l e R s m args below meth c D cy sK sV vF β Q ade te se k a ls st σ) (7, a, b, c9, x9, y9) ls st σ) : mz_K p l e R s m args below meth c D cy sK sV vF β Q ade te se k i ls st σ := by
  obtain ⟨hx, hb, hr, hml, hown, hlk, hnm, hts, hCx, hfr, hlo⟩ := hF
  intro ad lsA H locs h1 h2 h3 hH
  rcases st with _ | ⟨v, st⟩
  · exact False.elim h
  rcases v with v | r
  case inr => exact False.elim h
  rcases st with _ | ⟨u, st⟩
  · exact False.elim h
  rcases u with u | r
  case inr => exact False.elim h
  have h : mz_w (u - v) ∧ mz_K p l e R s m args below meth c D cy sK sV vF β Q ade te se k (i + 1) ls (.inl (u - v) :: st) σ := h
  obtain ⟨hd, hp⟩ := mz_D_ok hc
  refine lv_isub hx hb hd ?_
  rw [mz_sb]
  exact mz_K_at h.2 hp h1 h2 h3 (mz_H_cons (mz_H_tl (mz_H_tl hH)) h.1) rfl

theorem mz_s8 (hF : mz_F p R s m args meth c D cy sK sV vF β k) (hc : mz_ch0 k i 8 a b c9 x9 y9 = true) (h : mz_st0 (fun ls st σ => mz_K p l e R s m args below meth c D cy sK sV vF β Q ade te se k (i + 1) ls st σ) (fun a ls st σ => mz_K p l e R s m args below meth c D cy sK sV vF β Q ade te se k a ls st σ) (8, a, b, c9, x9, y9) ls st σ) : mz_K p l e R s m args below meth c D cy sK sV vF β Q ade te se k i ls st σ := by
  obtain ⟨hx, hb, hr, hml, hown, hlk, hnm, hts, hCx, hfr, hlo⟩ := hF
  intro ad lsA H locs h1 h2 h3 hH
  rcases st with _ | ⟨v, st⟩
  · exact False.elim h
  rcases v with v | r
  case inr => exact False.elim h
  rcases st with _ | ⟨u, st⟩
  · exact False.elim h
  rcases u with u | r
  case inr => exact False.elim h
  have h : mz_w (u * v) ∧ mz_K p l e R s m args below meth c D cy sK sV vF β Q ade te se k (i + 1) ls (.inl (u * v) :: st) σ := h
  obtain ⟨hd, hp⟩ := mz_D_ok hc
  refine lv_imul hx hb hd ?_
  rw [mz_ml]
  exact mz_K_at h.2 hp h1 h2 h3 (mz_H_cons (mz_H_tl (mz_H_tl hH)) h.1) rfl

theorem mz_s9 (hF : mz_F p R s m args meth c D cy sK sV vF β k) (hc : mz_ch0 k i 9 a b c9 x9 y9 = true) (h : mz_st0 (fun ls st σ => mz_K p l e R s m args below meth c D cy sK sV vF β Q ade te se k (i + 1) ls st σ) (fun a ls st σ => mz_K p l e R s m args below meth c D cy sK sV vF β Q ade te se k a ls st σ) (9, a, b, c9, x9, y9) ls st σ) : mz_K p l e R s m args below meth c D cy sK sV vF β Q ade te se k i ls st σ := by
  obtain ⟨hx, hb, hr, hml, hown, hlk, hnm, hts, hCx, hfr, hlo⟩ := hF
  intro ad lsA H locs h1 h2 h3 hH
  rcases st with _ | ⟨v, st⟩
  · exact False.elim h
  rcases v with v | r
  case inr => exact False.elim h
  rcases st with _ | ⟨u, st⟩
  · exact False.elim h
  rcases u with u | r
  case inr => exact False.elim h
  have h : (0 < v ∧ 0 ≤ u) ∧ mz_K p l e R s m args below meth c D cy sK sV vF β Q ade te se k (i + 1) ls (.inl (u / v) :: st) σ := h
  have wv : mz_w v := mz_H_hd hH
  have wu : mz_w u := mz_H_hd (mz_H_tl hH)
  obtain ⟨hd, hp⟩ := mz_D_ok hc
  refine lv_idiv hx hb hd (mz_n0 wv h.1.1) ?_
  rw [mz_dv wu wv h.1.1 h.1.2]
  exact mz_K_at h.2 hp h1 h2 h3 (mz_H_cons (mz_H_tl (mz_H_tl hH)) (mz_wdiv wu h.1.1 h.1.2)) rfl

theorem mz_s10 (hF : mz_F p R s m args meth c D cy sK sV vF β k) (hc : mz_ch0 k i 10 a b c9 x9 y9 = true) (h : mz_st0 (fun ls st σ => mz_K p l e R s m args below meth c D cy sK sV vF β Q ade te se k (i + 1) ls st σ) (fun a ls st σ => mz_K p l e R s m args below meth c D cy sK sV vF β Q ade te se k a ls st σ) (10, a, b, c9, x9, y9) ls st σ) : mz_K p l e R s m args below meth c D cy sK sV vF β Q ade te se k i ls st σ := by
  obtain ⟨hx, hb, hr, hml, hown, hlk, hnm, hts, hCx, hfr, hlo⟩ := hF
  intro ad lsA H locs h1 h2 h3 hH
  rcases st with _ | ⟨v, st⟩
  · exact False.elim h
  rcases v with v | r
  case inr => exact False.elim h
  rcases st with _ | ⟨u, st⟩
  · exact False.elim h
  rcases u with u | r
  case inr => exact False.elim h
  have h : (0 < v ∧ 0 ≤ u) ∧ mz_K p l e R s m args below meth c D cy sK sV vF β Q ade te se k (i + 1) ls (.inl (u % v) :: st) σ := h
  have wv : mz_w v := mz_H_hd hH
  have wu : mz_w u := mz_H_hd (mz_H_tl hH)
  obtain ⟨hd, hp⟩ := mz_D_ok hc
  refine lv_irem hx hb hd (mz_n0 wv h.1.1) ?_
  rw [mz_rm wu wv h.1.1 h.1.2]
  exact mz_K_at h.2 hp h1 h2 h3 (mz_H_cons (mz_H_tl (mz_H_tl hH)) (mz_wmod wv h.1.1)) rfl

theorem mz_s11 (hF : mz_F p R s m args meth c D cy sK sV vF β k) (hc : mz_ch0 k i 11 a b c9 x9 y9 = true) (h : mz_st0 (fun ls st σ => mz_K p l e R s m args below meth c D cy sK sV vF β Q ade te se k (i + 1) ls st σ) (fun a ls st σ => mz_K p l e R s m args below meth c D cy sK sV vF β Q ade te se k a ls st σ) (11, a, b, c9, x9, y9) ls st σ) : mz_K p l e R s m args below meth c D cy sK sV vF β Q ade te se k i ls st σ := by
  obtain ⟨hx, hb, hr, hml, hown, hlk, hnm, hts, hCx, hfr, hlo⟩ := hF
  intro ad lsA H locs h1 h2 h3 hH
  rcases st with _ | ⟨v, st⟩
  · exact False.elim h
  rcases v with v | r
  case inr => exact False.elim h
  rcases st with _ | ⟨u, st⟩
  · exact False.elim h
  rcases u with u | r
  case inr => exact False.elim h
  have h : mz_K p l e R s m args below meth c D cy sK sV vF β Q ade te se k (i + 1) ls (.inl (mz_and u v) :: st) σ := h
  obtain ⟨hd, hp⟩ := mz_D_ok hc
  refine lv_iand hx hb hd ?_
  exact mz_K_at h hp h1 h2 h3 (mz_H_cons (v := .inl (mz_and u v)) (mz_H_tl (mz_H_tl hH)) (mz_wt _)) (by rw [List.map_cons, mz_v_i, mz_and, Int32.ofInt_toInt])

theorem mz_s12 (hF : mz_F p R s m args meth c D cy sK sV vF β k) (hc : mz_ch0 k i 12 a b c9 x9 y9 = true) (h : mz_st0 (fun ls st σ => mz_K p l e R s m args below meth c D cy sK sV vF β Q ade te se k (i + 1) ls st σ) (fun a ls st σ => mz_K p l e R s m args below meth c D cy sK sV vF β Q ade te se k a ls st σ) (12, a, b, c9, x9, y9) ls st σ) : mz_K p l e R s m args below meth c D cy sK sV vF β Q ade te se k i ls st σ := by
  obtain ⟨hx, hb, hr, hml, hown, hlk, hnm, hts, hCx, hfr, hlo⟩ := hF
  intro ad lsA H locs h1 h2 h3 hH
  rcases st with _ | ⟨v, st⟩
  · exact False.elim h
  rcases v with v | r
  case inr => exact False.elim h
  rcases st with _ | ⟨u, st⟩
  · exact False.elim h
  rcases u with u | r
  case inr => exact False.elim h
  have h : mz_K p l e R s m args below meth c D cy sK sV vF β Q ade te se k (i + 1) ls (.inl (mz_or u v) :: st) σ := h
  obtain ⟨hd, hp⟩ := mz_D_ok hc
  refine lv_ior hx hb hd ?_
  exact mz_K_at h hp h1 h2 h3 (mz_H_cons (v := .inl (mz_or u v)) (mz_H_tl (mz_H_tl hH)) (mz_wt _)) (by rw [List.map_cons, mz_v_i, mz_or, Int32.ofInt_toInt])

theorem mz_s13 (hF : mz_F p R s m args meth c D cy sK sV vF β k) (hc : mz_ch0 k i 13 a b c9 x9 y9 = true) (h : mz_st0 (fun ls st σ => mz_K p l e R s m args below meth c D cy sK sV vF β Q ade te se k (i + 1) ls st σ) (fun a ls st σ => mz_K p l e R s m args below meth c D cy sK sV vF β Q ade te se k a ls st σ) (13, a, b, c9, x9, y9) ls st σ) : mz_K p l e R s m args below meth c D cy sK sV vF β Q ade te se k i ls st σ := by
  obtain ⟨hx, hb, hr, hml, hown, hlk, hnm, hts, hCx, hfr, hlo⟩ := hF
  intro ad lsA H locs h1 h2 h3 hH
  rcases st with _ | ⟨v, st⟩
  · exact False.elim h
  rcases v with v | r
  case inr => exact False.elim h
  rcases st with _ | ⟨u, st⟩
  · exact False.elim h
  rcases u with u | r
  case inr => exact False.elim h
  have h : mz_K p l e R s m args below meth c D cy sK sV vF β Q ade te se k (i + 1) ls (.inl (mz_xor u v) :: st) σ := h
  obtain ⟨hd, hp⟩ := mz_D_ok hc
  refine lv_ixor hx hb hd ?_
  exact mz_K_at h hp h1 h2 h3 (mz_H_cons (v := .inl (mz_xor u v)) (mz_H_tl (mz_H_tl hH)) (mz_wt _)) (by rw [List.map_cons, mz_v_i, mz_xor, Int32.ofInt_toInt])

theorem mz_s14 (hF : mz_F p R s m args meth c D cy sK sV vF β k) (hc : mz_ch0 k i 14 a b c9 x9 y9 = true) (h : mz_st0 (fun ls st σ => mz_K p l e R s m args below meth c D cy sK sV vF β Q ade te se k (i + 1) ls st σ) (fun a ls st σ => mz_K p l e R s m args below meth c D cy sK sV vF β Q ade te se k a ls st σ) (14, a, b, c9, x9, y9) ls st σ) : mz_K p l e R s m args below meth c D cy sK sV vF β Q ade te se k i ls st σ := by
  obtain ⟨hx, hb, hr, hml, hown, hlk, hnm, hts, hCx, hfr, hlo⟩ := hF
  intro ad lsA H locs h1 h2 h3 hH
  rcases st with _ | ⟨v, st⟩
  · exact False.elim h
  rcases v with v | r
  case inr => exact False.elim h
  rcases st with _ | ⟨u, st⟩
  · exact False.elim h
  rcases u with u | r
  case inr => exact False.elim h
  have h : mz_K p l e R s m args below meth c D cy sK sV vF β Q ade te se k (i + 1) ls (.inl (mz_shl u v) :: st) σ := h
  obtain ⟨hd, hp⟩ := mz_D_ok hc
  refine lv_ishl hx hb hd ?_
  exact mz_K_at h hp h1 h2 h3 (mz_H_cons (v := .inl (mz_shl u v)) (mz_H_tl (mz_H_tl hH)) (mz_wt _)) (by rw [List.map_cons, mz_v_i, mz_shl, Int32.ofInt_toInt])

theorem mz_s15 (hF : mz_F p R s m args meth c D cy sK sV vF β k) (hc : mz_ch0 k i 15 a b c9 x9 y9 = true) (h : mz_st0 (fun ls st σ => mz_K p l e R s m args below meth c D cy sK sV vF β Q ade te se k (i + 1) ls st σ) (fun a ls st σ => mz_K p l e R s m args below meth c D cy sK sV vF β Q ade te se k a ls st σ) (15, a, b, c9, x9, y9) ls st σ) : mz_K p l e R s m args below meth c D cy sK sV vF β Q ade te se k i ls st σ := by
  obtain ⟨hx, hb, hr, hml, hown, hlk, hnm, hts, hCx, hfr, hlo⟩ := hF
  intro ad lsA H locs h1 h2 h3 hH
  rcases st with _ | ⟨v, st⟩
  · exact False.elim h
  rcases v with v | r
  case inr => exact False.elim h
  rcases st with _ | ⟨u, st⟩
  · exact False.elim h
  rcases u with u | r
  case inr => exact False.elim h
  have h : mz_K p l e R s m args below meth c D cy sK sV vF β Q ade te se k (i + 1) ls (.inl (mz_shr u v) :: st) σ := h
  obtain ⟨hd, hp⟩ := mz_D_ok hc
  refine lv_ishr hx hb hd ?_
  exact mz_K_at h hp h1 h2 h3 (mz_H_cons (v := .inl (mz_shr u v)) (mz_H_tl (mz_H_tl hH)) (mz_wt _)) (by rw [List.map_cons, mz_v_i, mz_shr, Int32.ofInt_toInt])

theorem mz_s16 (hF : mz_F p R s m args meth c D cy sK sV vF β k) (hc : mz_ch0 k i 16 a b c9 x9 y9 = true) (h : mz_st0 (fun ls st σ => mz_K p l e R s m args below meth c D cy sK sV vF β Q ade te se k (i + 1) ls st σ) (fun a ls st σ => mz_K p l e R s m args below meth c D cy sK sV vF β Q ade te se k a ls st σ) (16, a, b, c9, x9, y9) ls st σ) : mz_K p l e R s m args below meth c D cy sK sV vF β Q ade te se k i ls st σ := by
  obtain ⟨hx, hb, hr, hml, hown, hlk, hnm, hts, hCx, hfr, hlo⟩ := hF
  intro ad lsA H locs h1 h2 h3 hH
  rcases st with _ | ⟨v, st⟩
  · exact False.elim h
  rcases v with v | r
  case inr => exact False.elim h
  rcases st with _ | ⟨u, st⟩
  · exact False.elim h
  rcases u with u | r
  case inr => exact False.elim h
  have h : mz_K p l e R s m args below meth c D cy sK sV vF β Q ade te se k (i + 1) ls (.inl (mz_ushr u v) :: st) σ := h
  obtain ⟨hd, hp⟩ := mz_D_ok hc
  refine lv_iushr hx hb hd rfl ?_
  exact mz_K_at h hp h1 h2 h3 (mz_H_cons (v := .inl (mz_ushr u v)) (mz_H_tl (mz_H_tl hH)) (mz_wt _)) (by rw [List.map_cons, mz_v_i, mz_ushr, Int32.ofInt_toInt])

theorem mz_s17 (hF : mz_F p R s m args meth c D cy sK sV vF β k) (hc : mz_ch0 k i 17 a b c9 x9 y9 = true) (h : mz_st0 (fun ls st σ => mz_K p l e R s m args below meth c D cy sK sV vF β Q ade te se k (i + 1) ls st σ) (fun a ls st σ => mz_K p l e R s m args below meth c D cy sK sV vF β Q ade te se k a ls st σ) (17, a, b, c9, x9, y9) ls st σ) : mz_K p l e R s m args below meth c D cy sK sV vF β Q ade te se k i ls st σ := by
  obtain ⟨hx, hb, hr, hml, hown, hlk, hnm, hts, hCx, hfr, hlo⟩ := hF
  intro ad lsA H locs h1 h2 h3 hH
  rcases st with _ | ⟨u, st⟩
  · exact False.elim h
  rcases u with u | r
  case inr => exact False.elim h
  have h : mz_K p l e R s m args below meth c D cy sK sV vF β Q ade te se k (i + 1) ls (.inl (mz_i2b u) :: st) σ := h
  obtain ⟨hd, hp⟩ := mz_D_ok hc
  refine lv_i2b hx hb hd rfl ?_
  exact mz_K_at h hp h1 h2 h3 (mz_H_cons (v := .inl (mz_i2b u)) (mz_H_tl hH) (mz_wt _)) (by rw [List.map_cons, mz_v_i, mz_i2b, Int32.ofInt_toInt])

theorem mz_s18 (hF : mz_F p R s m args meth c D cy sK sV vF β k) (hc : mz_ch0 k i 18 a b c9 x9 y9 = true) (h : mz_st0 (fun ls st σ => mz_K p l e R s m args below meth c D cy sK sV vF β Q ade te se k (i + 1) ls st σ) (fun a ls st σ => mz_K p l e R s m args below meth c D cy sK sV vF β Q ade te se k a ls st σ) (18, a, b, c9, x9, y9) ls st σ) : mz_K p l e R s m args below meth c D cy sK sV vF β Q ade te se k i ls st σ := by
  obtain ⟨hx, hb, hr, hml, hown, hlk, hnm, hts, hCx, hfr, hlo⟩ := hF
  intro ad lsA H locs h1 h2 h3 hH
  rcases st with _ | ⟨v, st⟩
  · exact False.elim h
  have h : mz_K p l e R s m args below meth c D cy sK sV vF β Q ade te se k (i + 1) ls (v :: v :: st) σ := h
  obtain ⟨hd, hp⟩ := mz_D_ok hc
  exact lv_dup hx hb hd (mz_cat hCx.2.2.2.2.2.2.1 ad sK sV v) (mz_K_at h hp h1 h2 h3 (mz_H_cons hH (mz_H_hd hH)) rfl)

theorem mz_s19 (hF : mz_F p R s m args meth c D cy sK sV vF β k) (hc : mz_ch0 k i 19 a b c9 x9 y9 = true) (h : mz_st0 (fun ls st σ => mz_K p l e R s m args below meth c D cy sK sV vF β Q ade te se k (i + 1) ls st σ) (fun a ls st σ => mz_K p l e R s m args below meth c D cy sK sV vF β Q ade te se k a ls st σ) (19, a, b, c9, x9, y9) ls st σ) : mz_K p l e R s m args below meth c D cy sK sV vF β Q ade te se k i ls st σ := by
  obtain ⟨hx, hb, hr, hml, hown, hlk, hnm, hts, hCx, hfr, hlo⟩ := hF
  intro ad lsA H locs h1 h2 h3 hH
  rcases st with _ | ⟨v, st⟩
  · exact False.elim h
  have h : mz_K p l e R s m args below meth c D cy sK sV vF β Q ade te se k (i + 1) ls st σ := h
  obtain ⟨hd, hp⟩ := mz_D_ok hc
  exact lv_pop hx hb hd (mz_cat hCx.2.2.2.2.2.2.1 ad sK sV v) (mz_K_at h hp h1 h2 h3 (mz_H_tl hH) rfl)

theorem mz_s20 (hF : mz_F p R s m args meth c D cy sK sV vF β k) (hc : mz_ch0 k i 20 a b c9 x9 y9 = true) (h : mz_st0 (fun ls st σ => mz_K p l e R s m args below meth c D cy sK sV vF β Q ade te se k (i + 1) ls st σ) (fun a ls st σ => mz_K p l e R s m args below meth c D cy sK sV vF β Q ade te se k a ls st σ) (20, a, b, c9, x9, y9) ls st σ) : mz_K p l e R s m args below meth c D cy sK sV vF β Q ade te se k i ls st σ := by
  obtain ⟨hx, hb, hr, hml, hown, hlk, hnm, hts, hCx, hfr, hlo⟩ := hF
  intro ad lsA H locs h1 h2 h3 hH
  rcases st with _ | ⟨v, st⟩
  · exact False.elim h
  rcases v with v | r
  case inr => exact False.elim h
  rcases st with _ | ⟨u, st⟩
  · exact False.elim h
  rcases u with u | r
  case inr => exact False.elim h
  have h : if u = v then mz_K p l e R s m args below meth c D cy sK sV vF β Q ade te se k a ls st σ else mz_K p l e R s m args below meth c D cy sK sV vF β Q ade te se k (i + 1) ls st σ := h
  have wv : mz_w v := mz_H_hd hH
  have wu : mz_w u := mz_H_hd (mz_H_tl hH)
  obtain ⟨hd, hp, ht⟩ := mz_J_ok hc
  refine lv_icmp_eq hx hb hd ht (fun q => ?_) (fun q => ?_)
  · rw [if_pos ((mz_eqI wu wv).mp q)] at h
    exact mz_K_at h rfl h1 h2 h3 (mz_H_tl (mz_H_tl hH)) rfl
  · rw [if_neg (fun r => q ((mz_eqI wu wv).mpr r))] at h
    exact mz_K_at h hp h1 h2 h3 (mz_H_tl (mz_H_tl hH)) rfl

theorem mz_s21 (hF : mz_F p R s m args meth c D cy sK sV vF β k) (hc : mz_ch0 k i 21 a b c9 x9 y9 = true) (h : mz_st0 (fun ls st σ => mz_K p l e R s m args below meth c D cy sK sV vF β Q ade te se k (i + 1) ls st σ) (fun a ls st σ => mz_K p l e R s m args below meth c D cy sK sV vF β Q ade te se k a ls st σ) (21, a, b, c9, x9, y9) ls st σ) : mz_K p l e R s m args below meth c D cy sK sV vF β Q ade te se k i ls st σ := by
  obtain ⟨hx, hb, hr, hml, hown, hlk, hnm, hts, hCx, hfr, hlo⟩ := hF
  intro ad lsA H locs h1 h2 h3 hH
  rcases st with _ | ⟨v, st⟩
  · exact False.elim h
  rcases v with v | r
  case inr => exact False.elim h
  rcases st with _ | ⟨u, st⟩
  · exact False.elim h
  rcases u with u | r
  case inr => exact False.elim h
  have h : if u = v then mz_K p l e R s m args below meth c D cy sK sV vF β Q ade te se k (i + 1) ls st σ else mz_K p l e R s m args below meth c D cy sK sV vF β Q ade te se k a ls st σ := h
  have wv : mz_w v := mz_H_hd hH
  have wu : mz_w u := mz_H_hd (mz_H_tl hH)
  obtain ⟨hd, hp, ht⟩ := mz_J_ok hc
  refine lv_icmp_ne hx hb hd ht (fun q => ?_) (fun q => ?_)
  · rw [if_neg (fun r => q ((mz_eqI wu wv).mpr r))] at h
    exact mz_K_at h rfl h1 h2 h3 (mz_H_tl (mz_H_tl hH)) rfl
  · rw [if_pos ((mz_eqI wu wv).mp (by first | exact q | exact Classical.byContradiction fun r => q r))] at h
    exact mz_K_at h hp h1 h2 h3 (mz_H_tl (mz_H_tl hH)) rfl

theorem mz_s22 (hF : mz_F p R s m args meth c D cy sK sV vF β k) (hc : mz_ch0 k i 22 a b c9 x9 y9 = true) (h : mz_st0 (fun ls st σ => mz_K p l e R s m args below meth c D cy sK sV vF β Q ade te se k (i + 1) ls st σ) (fun a ls st σ => mz_K p l e R s m args below meth c D cy sK sV vF β Q ade te se k a ls st σ) (22, a, b, c9, x9, y9) ls st σ) : mz_K p l e R s m args below meth c D cy sK sV vF β Q ade te se k i ls st σ := by
  obtain ⟨hx, hb, hr, hml, hown, hlk, hnm, hts, hCx, hfr, hlo⟩ := hF
  intro ad lsA H locs h1 h2 h3 hH
  rcases st with _ | ⟨v, st⟩
  · exact False.elim h
  rcases v with v | r
  case inr => exact False.elim h
  rcases st with _ | ⟨u, st⟩
  · exact False.elim h
  rcases u with u | r
  case inr => exact False.elim h
  have h : if u < v then mz_K p l e R s m args below meth c D cy sK sV vF β Q ade te se k a ls st σ else mz_K p l e R s m args below meth c D cy sK sV vF β Q ade te se k (i + 1) ls st σ := h
  have wv : mz_w v := mz_H_hd hH
  have wu : mz_w u := mz_H_hd (mz_H_tl hH)
  obtain ⟨hd, hp, ht⟩ := mz_J_ok hc
  refine lv_icmp_lt hx hb hd ht (fun q => ?_) (fun q => ?_)
  · rw [if_pos ((mz_ltI wu wv).mp q)] at h
    exact mz_K_at h rfl h1 h2 h3 (mz_H_tl (mz_H_tl hH)) rfl
  · rw [if_neg (fun r => q ((mz_ltI wu wv).mpr r))] at h
    exact mz_K_at h hp h1 h2 h3 (mz_H_tl (mz_H_tl hH)) rfl

theorem mz_s23 (hF : mz_F p R s m args meth c D cy sK sV vF β k) (hc : mz_ch0 k i 23 a b c9 x9 y9 = true) (h : mz_st0 (fun ls st σ => mz_K p l e R s m args below meth c D cy sK sV vF β Q ade te se k (i + 1) ls st σ) (fun a ls st σ => mz_K p l e R s m args below meth c D cy sK sV vF β Q ade te se k a ls st σ) (23, a, b, c9, x9, y9) ls st σ) : mz_K p l e R s m args below meth c D cy sK sV vF β Q ade te se k i ls st σ := by
  obtain ⟨hx, hb, hr, hml, hown, hlk, hnm, hts, hCx, hfr, hlo⟩ := hF
  intro ad lsA H locs h1 h2 h3 hH
  rcases st with _ | ⟨v, st⟩
  · exact False.elim h
  rcases v with v | r
  case inr => exact False.elim h
  rcases st with _ | ⟨u, st⟩
  · exact False.elim h
  rcases u with u | r
  case inr => exact False.elim h
  have h : if u < v then mz_K p l e R s m args below meth c D cy sK sV vF β Q ade te se k (i + 1) ls st σ else mz_K p l e R s m args below meth c D cy sK sV vF β Q ade te se k a ls st σ := h
  have wv : mz_w v := mz_H_hd hH
  have wu : mz_w u := mz_H_hd (mz_H_tl hH)
  obtain ⟨hd, hp, ht⟩ := mz_J_ok hc
  refine lv_icmp_ge hx hb hd ht (fun q => ?_) (fun q => ?_)
  · rw [if_neg (Int.not_lt.mpr ((mz_leI wv wu).mp q))] at h
    exact mz_K_at h rfl h1 h2 h3 (mz_H_tl (mz_H_tl hH)) rfl
  · rw [if_pos (Int.not_le.mp (fun r => q ((mz_leI wv wu).mpr r)))] at h
    exact mz_K_at h hp h1 h2 h3 (mz_H_tl (mz_H_tl hH)) rfl

theorem mz_s24 (hF : mz_F p R s m args meth c D cy sK sV vF β k) (hc : mz_ch0 k i 24 a b c9 x9 y9 = true) (h : mz_st0 (fun ls st σ => mz_K p l e R s m args below meth c D cy sK sV vF β Q ade te se k (i + 1) ls st σ) (fun a ls st σ => mz_K p l e R s m args below meth c D cy sK sV vF β Q ade te se k a ls st σ) (24, a, b, c9, x9, y9) ls st σ) : mz_K p l e R s m args below meth c D cy sK sV vF β Q ade te se k i ls st σ := by
  obtain ⟨hx, hb, hr, hml, hown, hlk, hnm, hts, hCx, hfr, hlo⟩ := hF
  intro ad lsA H locs h1 h2 h3 hH
  rcases st with _ | ⟨v, st⟩
  · exact False.elim h
  rcases v with v | r
  case inr => exact False.elim h
  rcases st with _ | ⟨u, st⟩
  · exact False.elim h
  rcases u with u | r
  case inr => exact False.elim h
  have h : if u ≤ v then mz_K p l e R s m args below meth c D cy sK sV vF β Q ade te se k (i + 1) ls st σ else mz_K p l e R s m args below meth c D cy sK sV vF β Q ade te se k a ls st σ := h
  have wv : mz_w v := mz_H_hd hH
  have wu : mz_w u := mz_H_hd (mz_H_tl hH)
  obtain ⟨hd, hp, ht⟩ := mz_J_ok hc
  refine lv_icmp_gt hx hb hd ht (fun q => ?_) (fun q => ?_)
  · rw [if_neg (Int.not_le.mpr ((mz_ltI wv wu).mp q))] at h
    exact mz_K_at h rfl h1 h2 h3 (mz_H_tl (mz_H_tl hH)) rfl
  · rw [if_pos (Int.not_lt.mp (fun r => q ((mz_ltI wv wu).mpr r)))] at h
    exact mz_K_at h hp h1 h2 h3 (mz_H_tl (mz_H_tl hH)) rfl

theorem mz_s25 (hF : mz_F p R s m args meth c D cy sK sV vF β k) (hc : mz_ch0 k i 25 a b c9 x9 y9 = true) (h : mz_st0 (fun ls st σ => mz_K p l e R s m args below meth c D cy sK sV vF β Q ade te se k (i + 1) ls st σ) (fun a ls st σ => mz_K p l e R s m args below meth c D cy sK sV vF β Q ade te se k a ls st σ) (25, a, b, c9, x9, y9) ls st σ) : mz_K p l e R s m args below meth c D cy sK sV vF β Q ade te se k i ls st σ := by
  obtain ⟨hx, hb, hr, hml, hown, hlk, hnm, hts, hCx, hfr, hlo⟩ := hF
  intro ad lsA H locs h1 h2 h3 hH
  rcases st with _ | ⟨v, st⟩
  · exact False.elim h
  rcases v with v | r
  case inr => exact False.elim h
  rcases st with _ | ⟨u, st⟩
  · exact False.elim h
  rcases u with u | r
  case inr => exact False.elim h
  have h : if u ≤ v then mz_K p l e R s m args below meth c D cy sK sV vF β Q ade te se k a ls st σ else mz_K p l e R s m args below meth c D cy sK sV vF β Q ade te se k (i + 1) ls st σ := h
  have wv : mz_w v := mz_H_hd hH
  have wu : mz_w u := mz_H_hd (mz_H_tl hH)
  obtain ⟨hd, hp, ht⟩ := mz_J_ok hc
  refine lv_icmp_le hx hb hd ht (fun q => ?_) (fun q => ?_)
  · rw [if_pos ((mz_leI wu wv).mp q)] at h
    exact mz_K_at h rfl h1 h2 h3 (mz_H_tl (mz_H_tl hH)) rfl
  · rw [if_neg (fun r => q ((mz_leI wu wv).mpr r))] at h
    exact mz_K_at h hp h1 h2 h3 (mz_H_tl (mz_H_tl hH)) rfl

theorem mz_s26 (hF : mz_F p R s m args meth c D cy sK sV vF β k) (hc : mz_ch0 k i 26 a b c9 x9 y9 = true) (h : mz_st0 (fun ls st σ => mz_K p l e R s m args below meth c D cy sK sV vF β Q ade te se k (i + 1) ls st σ) (fun a ls st σ => mz_K p l e R s m args below meth c D cy sK sV vF β Q ade te se k a ls st σ) (26, a, b, c9, x9, y9) ls st σ) : mz_K p l e R s m args below meth c D cy sK sV vF β Q ade te se k i ls st σ := by
  obtain ⟨hx, hb, hr, hml, hown, hlk, hnm, hts, hCx, hfr, hlo⟩ := hF
  intro ad lsA H locs h1 h2 h3 hH
  rcases st with _ | ⟨u, st⟩
  · exact False.elim h
  rcases u with u | r
  case inr => exact False.elim h
  have h : if u = 0 then mz_K p l e R s m args below meth c D cy sK sV vF β Q ade te se k a ls st σ else mz_K p l e R s m args below meth c D cy sK sV vF β Q ade te se k (i + 1) ls st σ := h
  have wu : mz_w u := mz_H_hd hH
  obtain ⟨hd, hp, ht⟩ := mz_J_ok hc
  refine lv_if_eq hx hb hd ht (fun q => ?_) (fun q => ?_)
  · rw [if_pos ((mz_eqI wu mz_w0).mp q)] at h
    exact mz_K_at h rfl h1 h2 h3 (mz_H_tl hH) rfl
  · rw [if_neg (fun r => q ((mz_eqI wu mz_w0).mpr r))] at h
    exact mz_K_at h hp h1 h2 h3 (mz_H_tl hH) rfl

theorem mz_s27 (hF : mz_F p R s m args meth c D cy sK sV vF β k) (hc : mz_ch0 k i 27 a b c9 x9 y9 = true) (h : mz_st0 (fun ls st σ => mz_K p l e R s m args below meth c D cy sK sV vF β Q ade te se k (i + 1) ls st σ) (fun a ls st σ => mz_K p l e R s m args below meth c D cy sK sV vF β Q ade te se k a ls st σ) (27, a, b, c9, x9, y9) ls st σ) : mz_K p l e R s m args below meth c D cy sK sV vF β Q ade te se k i ls st σ := by
  obtain ⟨hx, hb, hr, hml, hown, hlk, hnm, hts, hCx, hfr, hlo⟩ := hF
  intro ad lsA H locs h1 h2 h3 hH
  rcases st with _ | ⟨u, st⟩
  · exact False.elim h
  rcases u with u | r
  case inr => exact False.elim h
  have h : if u = 0 then mz_K p l e R s m args below meth c D cy sK sV vF β Q ade te se k (i + 1) ls st σ else mz_K p l e R s m args below meth c D cy sK sV vF β Q ade te se k a ls st σ := h
  have wu : mz_w u := mz_H_hd hH
  obtain ⟨hd, hp, ht⟩ := mz_J_ok hc
  refine lv_if_ne hx hb hd ht (fun q => ?_) (fun q => ?_)
  · rw [if_neg (fun r => q ((mz_eqI wu mz_w0).mpr r))] at h
    exact mz_K_at h rfl h1 h2 h3 (mz_H_tl hH) rfl
  · rw [if_pos ((mz_eqI wu mz_w0).mp (by first | exact q | exact Classical.byContradiction fun r => q r))] at h
    exact mz_K_at h hp h1 h2 h3 (mz_H_tl hH) rfl

theorem mz_s28 (hF : mz_F p R s m args meth c D cy sK sV vF β k) (hc : mz_ch0 k i 28 a b c9 x9 y9 = true) (h : mz_st0 (fun ls st σ => mz_K p l e R s m args below meth c D cy sK sV vF β Q ade te se k (i + 1) ls st σ) (fun a ls st σ => mz_K p l e R s m args below meth c D cy sK sV vF β Q ade te se k a ls st σ) (28, a, b, c9, x9, y9) ls st σ) : mz_K p l e R s m args below meth c D cy sK sV vF β Q ade te se k i ls st σ := by
  obtain ⟨hx, hb, hr, hml, hown, hlk, hnm, hts, hCx, hfr, hlo⟩ := hF
  intro ad lsA H locs h1 h2 h3 hH
  rcases st with _ | ⟨u, st⟩
  · exact False.elim h
  rcases u with u | r
  case inr => exact False.elim h
  have h : if u < 0 then mz_K p l e R s m args below meth c D cy sK sV vF β Q ade te se k a ls st σ else mz_K p l e R s m args below meth c D cy sK sV vF β Q ade te se k (i + 1) ls st σ := h
  have wu : mz_w u := mz_H_hd hH
  obtain ⟨hd, hp, ht⟩ := mz_J_ok hc
  refine lv_if_lt hx hb hd ht (fun q => ?_) (fun q => ?_)
  · rw [if_pos ((mz_ltI wu mz_w0).mp q)] at h
    exact mz_K_at h rfl h1 h2 h3 (mz_H_tl hH) rfl
  · rw [if_neg (fun r => q ((mz_ltI wu mz_w0).mpr r))] at h
    exact mz_K_at h hp h1 h2 h3 (mz_H_tl hH) rfl

theorem mz_s29 (hF : mz_F p R s m args meth c D cy sK sV vF β k) (hc : mz_ch0 k i 29 a b c9 x9 y9 = true) (h : mz_st0 (fun ls st σ => mz_K p l e R s m args below meth c D cy sK sV vF β Q ade te se k (i + 1) ls st σ) (fun a ls st σ => mz_K p l e R s m args below meth c D cy sK sV vF β Q ade te se k a ls st σ) (29, a, b, c9, x9, y9) ls st σ) : mz_K p l e R s m args below meth c D cy sK sV vF β Q ade te se k i ls st σ := by
  obtain ⟨hx, hb, hr, hml, hown, hlk, hnm, hts, hCx, hfr, hlo⟩ := hF
  intro ad lsA H locs h1 h2 h3 hH
  rcases st with _ | ⟨u, st⟩
  · exact False.elim h
  rcases u with u | r
  case inr => exact False.elim h
  have h : if u < 0 then mz_K p l e R s m args below meth c D cy sK sV vF β Q ade te se k (i + 1) ls st σ else mz_K p l e R s m args below meth c D cy sK sV vF β Q ade te se k a ls st σ := h
  have wu : mz_w u := mz_H_hd hH
  obtain ⟨hd, hp, ht⟩ := mz_J_ok hc
  refine lv_if_ge hx hb hd ht (fun q => ?_) (fun q => ?_)
  · rw [if_neg (Int.not_lt.mpr ((mz_leI mz_w0 wu).mp q))] at h
    exact mz_K_at h rfl h1 h2 h3 (mz_H_tl hH) rfl
  · rw [if_pos (Int.not_le.mp (fun r => q ((mz_leI mz_w0 wu).mpr r)))] at h
    exact mz_K_at h hp h1 h2 h3 (mz_H_tl hH) rfl

theorem mz_s30 (hF : mz_F p R s m args meth c D cy sK sV vF β k) (hc : mz_ch0 k i 30 a b c9 x9 y9 = true) (h : mz_st0 (fun ls st σ => mz_K p l e R s m args below meth c D cy sK sV vF β Q ade te se k (i + 1) ls st σ) (fun a ls st σ => mz_K p l e R s m args below meth c D cy sK sV vF β Q ade te se k a ls st σ) (30, a, b, c9, x9, y9) ls st σ) : mz_K p l e R s m args below meth c D cy sK sV vF β Q ade te se k i ls st σ := by
  obtain ⟨hx, hb, hr, hml, hown, hlk, hnm, hts, hCx, hfr, hlo⟩ := hF
  intro ad lsA H locs h1 h2 h3 hH
  rcases st with _ | ⟨u, st⟩
  · exact False.elim h
  rcases u with u | r
  case inr => exact False.elim h
  have h : if u ≤ 0 then mz_K p l e R s m args below meth c D cy sK sV vF β Q ade te se k (i + 1) ls st σ else mz_K p l e R s m args below meth c D cy sK sV vF β Q ade te se k a ls st σ := h
  have wu : mz_w u := mz_H_hd hH
  obtain ⟨hd, hp, ht⟩ := mz_J_ok hc
  refine lv_if_gt hx hb hd ht (fun q => ?_) (fun q => ?_)
  · rw [if_neg (Int.not_le.mpr ((mz_ltI mz_w0 wu).mp q))] at h
    exact mz_K_at h rfl h1 h2 h3 (mz_H_tl hH) rfl
  · rw [if_pos (Int.not_lt.mp (fun r => q ((mz_ltI mz_w0 wu).mpr r)))] at h
    exact mz_K_at h hp h1 h2 h3 (mz_H_tl hH) rfl

theorem mz_s31 (hF : mz_F p R s m args meth c D cy sK sV vF β k) (hc : mz_ch0 k i 31 a b c9 x9 y9 = true) (h : mz_st0 (fun ls st σ => mz_K p l e R s m args below meth c D cy sK sV vF β Q ade te se k (i + 1) ls st σ) (fun a ls st σ => mz_K p l e R s m args below meth c D cy sK sV vF β Q ade te se k a ls st σ) (31, a, b, c9, x9, y9) ls st σ) : mz_K p l e R s m args below meth c D cy sK sV vF β Q ade te se k i ls st σ := by
  obtain ⟨hx, hb, hr, hml, hown, hlk, hnm, hts, hCx, hfr, hlo⟩ := hF
  intro ad lsA H locs h1 h2 h3 hH
  rcases st with _ | ⟨u, st⟩
  · exact False.elim h
  rcases u with u | r
  case inr => exact False.elim h
  have h : if u ≤ 0 then mz_K p l e R s m args below meth c D cy sK sV vF β Q ade te se k a ls st σ else mz_K p l e R s m args below meth c D cy sK sV vF β Q ade te se k (i + 1) ls st σ := h
  have wu : mz_w u := mz_H_hd hH
  obtain ⟨hd, hp, ht⟩ := mz_J_ok hc
  refine lv_if_le hx hb hd ht (fun q => ?_) (fun q => ?_)
  · rw [if_pos ((mz_leI wu mz_w0).mp q)] at h
    exact mz_K_at h rfl h1 h2 h3 (mz_H_tl hH) rfl
  · rw [if_neg (fun r => q ((mz_leI wu mz_w0).mpr r))] at h
    exact mz_K_at h hp h1 h2 h3 (mz_H_tl hH) rfl

theorem mz_s32 (hF : mz_F p R s m args meth c D cy sK sV vF β k) (hc : mz_ch0 k i 32 a b c9 x9 y9 = true) (h : mz_st0 (fun ls st σ => mz_K p l e R s m args below meth c D cy sK sV vF β Q ade te se k (i + 1) ls st σ) (fun a ls st σ => mz_K p l e R s m args below meth c D cy sK sV vF β Q ade te se k a ls st σ) (32, a, b, c9, x9, y9) ls st σ) : mz_K p l e R s m args below meth c D cy sK sV vF β Q ade te se k i ls st σ := by
  obtain ⟨hx, hb, hr, hml, hown, hlk, hnm, hts, hCx, hfr, hlo⟩ := hF
  intro ad lsA H locs h1 h2 h3 hH
  have h : mz_K p l e R s m args below meth c D cy sK sV vF β Q ade te se k a ls st σ := h
  obtain ⟨hd, hp, ht⟩ := mz_J_ok hc
  exact lv_goto hx hb hd ht (mz_K_at h rfl h1 h2 h3 hH rfl)

theorem mz_s33 (hF : mz_F p R s m args meth c D cy sK sV vF β k) (hc : mz_ch0 k i 33 a b c9 x9 y9 = true) (h : mz_st0 (fun ls st σ => mz_K p l e R s m args below meth c D cy sK sV vF β Q ade te se k (i + 1) ls st σ) (fun a ls st σ => mz_K p l e R s m args below meth c D cy sK sV vF β Q ade te se k a ls st σ) (33, a, b, c9, x9, y9) ls st σ) : mz_K p l e R s m args below meth c D cy sK sV vF β Q ade te se k i ls st σ := by
  obtain ⟨hx, hb, hr, hml, hown, hlk, hnm, hts, hCx, hfr, hlo⟩ := hF
  intro ad lsA H locs h1 h2 h3 hH
  rcases st with _ | ⟨v, st⟩
  · exact False.elim h
  rcases v with u | r
  case inl => exact False.elim h
  obtain ⟨hd, hp, ht⟩ := mz_J_ok hc
  rcases r with _ | r
  · have h : mz_K p l e R s m args below meth c D cy sK sV vF β Q ade te se k a ls st σ := h
    exact lv_ifnullN hx hb hd ht (mz_K_at h rfl h1 h2 h3 (mz_H_tl hH) rfl)
  · obtain ⟨t, z, o⟩ := r
    have h : t < 90 ∧ mz_K p l e R s m args below meth c D cy sK sV vF β Q ade te se k (i + 1) ls st σ := h
    have hn : mz_v ad sK sV vF (.inr (some (t, z, o))) = .ref (ad o) := by
      have := h.1
      simp only [mz_v]
      rw [if_neg (by omega), if_neg (by omega), if_neg (by omega)]
    rw [List.map_cons, hn]
    exact lv_ifnull hx hb hd (mz_K_at h.2 hp h1 h2 h3 (mz_H_tl hH) rfl)

theorem mz_s34 (hF : mz_F p R s m args meth c D cy sK sV vF β k) (hc : mz_ch0 k i 34 a b c9 x9 y9 = true) (h : mz_st0 (fun ls st σ => mz_K p l e R s m args below meth c D cy sK sV vF β Q ade te se k (i + 1) ls st σ) (fun a ls st σ => mz_K p l e R s m args below meth c D cy sK sV vF β Q ade te se k a ls st σ) (34, a, b, c9, x9, y9) ls st σ) : mz_K p l e R s m args below meth c D cy sK sV vF β Q ade te se k i ls st σ := by
  obtain ⟨hx, hb, hr, hml, hown, hlk, hnm, hts, hCx, hfr, hlo⟩ := hF
  intro ad lsA H locs h1 h2 h3 hH
  rcases st with _ | ⟨v, st⟩
  · exact False.elim h
  rcases v with u | r
  case inl => exact False.elim h
  obtain ⟨hd, hp, ht⟩ := mz_J_ok hc
  rcases r with _ | r
  · have h : mz_K p l e R s m args below meth c D cy sK sV vF β Q ade te se k (i + 1) ls st σ := h
    exact lv_ifnonnullN hx hb hd (mz_K_at h hp h1 h2 h3 (mz_H_tl hH) rfl)
  · obtain ⟨t, z, o⟩ := r
    have h : t < 90 ∧ mz_K p l e R s m args below meth c D cy sK sV vF β Q ade te se k a ls st σ := h
    have hn : mz_v ad sK sV vF (.inr (some (t, z, o))) = .ref (ad o) := by
      have := h.1
      simp only [mz_v]
      rw [if_neg (by omega), if_neg (by omega), if_neg (by omega)]
    rw [List.map_cons, hn]
    exact lv_ifnonnull hx hb hd ht (mz_K_at h.2 rfl h1 h2 h3 (mz_H_tl hH) rfl)

theorem mz_tsw_spec {v : Int} {jp : Nat → Prop} : ∀ {ts : List Nat} {lo : Int} {d : Nat}, mz_tsw v lo ts d jp → (∃ j t, v = lo + (j : Nat) ∧ ts[j]? = some t ∧ jp t) ∨ ((v < lo ∨ lo + ts.length ≤ v) ∧ jp d) := by
  intro ts
  induction ts with
  | nil => intro lo d h; exact Or.inr ⟨by simp; omega, h⟩
  | cons t ts ih =>
    intro lo d h
    unfold mz_tsw at h
    split at h
    · rename_i hv
      exact Or.inl ⟨0, t, by simp [hv], rfl, h⟩
    · rename_i hv
      rcases ih h with ⟨j, t', h1, h2, h3⟩ | ⟨h1, h2⟩
      · exact Or.inl ⟨j + 1, t', by rw [h1]; simp; omega, by simpa using h2, h3⟩
      · exact Or.inr ⟨by simp only [List.length_cons]; omega, h2⟩

theorem mz_s35 (hF : mz_F p R s m args meth c D cy sK sV vF β k) (hc : mz_ch0 k i 35 a b c9 x9 y9 = true) (h : mz_st0 (fun ls st σ => mz_K p l e R s m args below meth c D cy sK sV vF β Q ade te se k (i + 1) ls st σ) (fun a ls st σ => mz_K p l e R s m args below meth c D cy sK sV vF β Q ade te se k a ls st σ) (35, a, b, c9, x9, y9) ls st σ) : mz_K p l e R s m args below meth c D cy sK sV vF β Q ade te se k i ls st σ := by
  obtain ⟨hx, hb, hr, hml, hown, hlk, hnm, hts, hCx, hfr, hlo⟩ := hF
  intro ad lsA H locs h1 h2 h3 hH
  rcases st with _ | ⟨u, st⟩
  · exact False.elim h
  rcases u with u | r
  case inr => exact False.elim h
  have h : mz_tsw u b (mz_tb a) c9 (fun t => mz_K p l e R s m args below meth c D cy sK sV vF β Q ade te se k t ls st σ) := h
  have wu : mz_w u := mz_H_hd hH
  simp only [mz_ch0, Bool.and_eq_true, decide_eq_true_eq] at hc
  obtain ⟨hd, hp⟩ := mz_D_ok hc.1
  obtain ⟨hb1, hb2, hb3⟩ := hc.2
  have eu : (Int32.ofInt u).toInt = u := mz_t wu
  rcases mz_tsw_spec h with ⟨j, t, q1, q2, q3⟩ | ⟨q1, q2⟩
  · have hj : j < (mz_tb a).length := (List.getElem?_eq_some_iff.mp q2).1
    have e1 : (u - b).toNat = j := by omega
    refine lv_tableIn (off := (mz_pc k t : Int) - mz_pc k i) (tgt := mz_pc k t) hx hb hd (by rw [eu]; omega) (by rw [eu]; omega) ?_ (by omega) (mz_K_at q3 rfl h1 h2 h3 (mz_H_tl hH) rfl)
    rw [eu, e1]
    simp [q2]
  · exact lv_tableOut (tgt := mz_pc k c9) hx hb hd (by rw [eu]; omega) (by omega) (mz_K_at q2 rfl h1 h2 h3 (mz_H_tl hH) rfl)

theorem mz_sA {op : Nat} (hF : mz_F p R s m args meth c D cy sK sV vF β k) (hc : mz_ch0 k i op a b c9 x9 y9 = true) (h : mz_st0 (fun ls st σ => mz_K p l e R s m args below meth c D cy sK sV vF β Q ade te se k (i + 1) ls st σ) (fun a ls st σ => mz_K p l e R s m args below meth c D cy sK sV vF β Q ade te se k a ls st σ) (op, a, b, c9, x9, y9) ls st σ) : mz_K p l e R s m args below meth c D cy sK sV vF β Q ade te se k i ls st σ := by
  match op, hc, h with
  | 0, hc, h => exact mz_s0 hF hc h
  | 1, hc, h => exact mz_s1 hF hc h
  | 2, hc, h => exact mz_s2 hF hc h
  | 3, hc, h => exact mz_s3 hF hc h
  | 4, hc, h => exact mz_s4 hF hc h
  | 5, hc, h => exact mz_s5 hF hc h
  | 6, hc, h => exact mz_s6 hF hc h
  | 7, hc, h => exact mz_s7 hF hc h
  | 8, hc, h => exact mz_s8 hF hc h
  | 9, hc, h => exact mz_s9 hF hc h
  | 10, hc, h => exact mz_s10 hF hc h
  | 11, hc, h => exact mz_s11 hF hc h
  | 12, hc, h => exact mz_s12 hF hc h
  | 13, hc, h => exact mz_s13 hF hc h
  | 14, hc, h => exact mz_s14 hF hc h
  | 15, hc, h => exact mz_s15 hF hc h
  | 16, hc, h => exact mz_s16 hF hc h
  | 17, hc, h => exact mz_s17 hF hc h
  | 18, hc, h => exact mz_s18 hF hc h
  | 19, hc, h => exact mz_s19 hF hc h
  | 20, hc, h => exact mz_s20 hF hc h
  | 21, hc, h => exact mz_s21 hF hc h
  | 22, hc, h => exact mz_s22 hF hc h
  | 23, hc, h => exact mz_s23 hF hc h
  | 24, hc, h => exact mz_s24 hF hc h
  | 25, hc, h => exact mz_s25 hF hc h
  | 26, hc, h => exact mz_s26 hF hc h
  | 27, hc, h => exact mz_s27 hF hc h
  | 28, hc, h => exact mz_s28 hF hc h
  | 29, hc, h => exact mz_s29 hF hc h
  | 30, hc, h => exact mz_s30 hF hc h
  | 31, hc, h => exact mz_s31 hF hc h
  | 32, hc, h => exact mz_s32 hF hc h
  | 33, hc, h => exact mz_s33 hF hc h
  | 34, hc, h => exact mz_s34 hF hc h
  | 35, hc, h => exact mz_s35 hF hc h
  | op + 36, hc, h => exact absurd hc (by simp [mz_ch0])

end Sn3
end
section
/-! Facts of the ten classes, for each by its number. -/
theorem mz_cl_at : ∀ c, c < 10 → vwCl[c]? = some (mz_cn c, mz_T c, mz_nf c) := by
  intro c hc
  match c, hc with
  | 0, _ => rfl
  | 1, _ => rfl
  | 2, _ => rfl
  | 3, _ => rfl
  | 4, _ => rfl
  | 5, _ => rfl
  | 6, _ => rfl
  | 7, _ => rfl
  | 8, _ => rfl
  | 9, _ => rfl
  | c + 10, hc => exact absurd hc (by omega)
def mz_lp : List (List Nat) := [[2012, 2014, 2016, 2018, 2020, 2022, 2024, 2026, 2028, 2030, 2032], [1198, 1200, 1202, 1204, 1206, 1208, 1210], [2124, 2126, 2128, 2130, 2132, 2134], [2083, 2085, 2087, 2089, 2091, 2093, 2095, 2097, 2099, 2101, 2103, 2105], [1121, 1123, 1125, 1127, 1129, 1131, 1133, 1135, 1137], [1151, 1153, 1155, 1157, 1159, 1161, 1163, 1165], [2049, 2051, 2053, 2055, 2057], [1058, 1060], [2143, 2145, 2147, 2149, 2151, 2153], [6141, 6143, 6145, 6147, 6149, 6151, 6153, 6155, 6157, 6159, 6161, 6163, 6165, 6167, 6169, 6171, 6173, 6175, 6177, 6179, 6181, 6183, 6185, 6187, 6189, 6191, 6193]]
def mz_ip : List (Nat × Nat) := [(1213, 1010), (1179, 1009), (2110, 1012), (2062, 1011), (1040, 1003), (1034, 1002), (1169, 1008), (1047, 1004), (1026, 1001), (6101, 1013)]
theorem mz_hinB : ((List.range 10).all fun c => (List.range (mz_nf c)).all fun k => mz_W ((mz_lp.getD c []).getD k 0) (u_lay (mz_cn c) (mz_T c) k)) = true := by decide +kernel
theorem mz_hin {c : Nat} (hc : c < 10) : ∀ w ∈ u_ws (mz_cn c) (mz_T c) (mz_nf c), w ∈ mz_gw := by
  intro w hw
  obtain ⟨k, hk, rfl⟩ := List.mem_map.mp hw
  exact mz_W_ok (List.all_eq_true.mp (List.all_eq_true.mp mz_hinB c (List.mem_range.mpr hc)) k hk)
theorem mz_insB : ((List.range 10).all fun c => mz_W (mz_ip.getD c (0, 0)).1 (.instantiable (mz_cn c) (mz_nf c)) && mz_W (mz_ip.getD c (0, 0)).2 (.initialized (mz_cn c))) = true := by decide +kernel
theorem mz_ins {c : Nat} (hc : c < 10) : Cond.instantiable (mz_cn c) (mz_nf c) ∈ mz_gw ∧ Cond.initialized (mz_cn c) ∈ mz_gw := by
  have := List.all_eq_true.mp mz_insB c (List.mem_range.mpr hc)
  rw [Bool.and_eq_true] at this
  exact ⟨mz_W_ok this.1, mz_W_ok this.2⟩
theorem mz_hty {c : Nat} (hc : c < 10) : ∀ k, k < mz_nf c → parseFieldDescriptor (mz_T c k).2.2.1 = some (mz_ty c k) := by
  match c, hc with
  | 0, _ => exact tyX0_ok
  | 1, _ => exact tyX1_ok
  | 2, _ => exact tyX2_ok
  | 3, _ => exact tyX3_ok
  | 4, _ => exact tyX4_ok
  | 5, _ => exact tyX5_ok
  | 6, _ => exact tyX6_ok
  | 7, _ => exact tyX7_ok
  | 8, _ => exact tyX8_ok
  | 9, _ => exact tyX9_ok
  | c + 10, hc => exact absurd hc (by omega)
theorem mz_hnm {c : Nat} (hc : c < 10) : ∀ a, a < mz_nf c → ∀ b, b < mz_nf c → a ≠ b → (mz_T c a).2.1 ≠ (mz_T c b).2.1 := by
  match c, hc with
  | 0, _ => exact nmX0
  | 1, _ => exact nmX1
  | 2, _ => exact nmX2
  | 3, _ => exact nmX3
  | 4, _ => exact nmX4
  | 5, _ => exact nmX5
  | 6, _ => exact nmX6
  | 7, _ => exact nmX7
  | 8, _ => exact nmX8
  | 9, _ => exact nmX9
  | c + 10, hc => exact absurd hc (by omega)
def mz_isRT (t : FieldType) : Bool := match t with | .object _ => true | .array _ => true | _ => false
theorem mz_tyB : ((List.range 10).all fun c => (List.range (mz_nf c)).all fun k => if (mz_fr c k).isSome then mz_isRT (mz_ty c k) else decide (mz_ty c k = .int)) = true := by decide +kernel
theorem mz_tyR {c k : Nat} (hc : c < 10) (hk : k < mz_nf c) (h : (mz_fr c k).isSome = true) : (∃ n, mz_ty c k = .object n) ∨ ∃ t, mz_ty c k = .array t := by
  have := List.all_eq_true.mp (List.all_eq_true.mp mz_tyB c (List.mem_range.mpr hc)) k (List.mem_range.mpr hk)
  rw [if_pos h] at this
  unfold mz_isRT at this
  split at this
  · exact Or.inl ⟨_, by assumption⟩
  · exact Or.inr ⟨_, by assumption⟩
  · simp at this
theorem mz_tyI {c k : Nat} (hc : c < 10) (hk : k < mz_nf c) (h : mz_fr c k = none) : mz_ty c k = .int := by
  have := List.all_eq_true.mp (List.all_eq_true.mp mz_tyB c (List.mem_range.mpr hc)) k (List.mem_range.mpr hk)
  rw [h] at this
  simpa using this
theorem mz_kdB : (mz_kdL.all fun q => decide (q.1 < 10 ∨ 100 ≤ q.1 ∧ q.1 ≤ 105) && decide (q.2 < 20000)) = true := by decide +kernel
theorem mz_kd_len : mz_kdL.length = 167 := by decide +kernel
theorem mz_kd_ok {o : Nat} (h : o < 167) : ((mz_kd o).1 < 10 ∨ 100 ≤ (mz_kd o).1 ∧ (mz_kd o).1 ≤ 105) ∧ (mz_kd o).2 < 20000 := by
  have h1 : mz_kd o ∈ mz_kdL := by
    unfold mz_kd
    rw [List.getD_eq_getElem?_getD, List.getElem?_eq_getElem (by rw [mz_kd_len]; exact h)]
    exact List.getElem_mem _
  have := List.all_eq_true.mp mz_kdB _ h1
  rw [Bool.and_eq_true, decide_eq_true_eq, decide_eq_true_eq] at this
  exact this
section Cls
variable {σ : mz_S} {ad sK sV : Nat → Nat} {vF : Value} {cy : Nat → ClassId}
theorem mz_wf_o {t n o : Nat} (h : mz_wf σ (.inr (some (t, n, o)))) (ht : t < 90 ∨ 93 ≤ t) : o < σ.1 ∧ mz_kd o = (t, n) := by
  simp only [mz_wf] at h
  rwa [if_neg (by omega), if_neg (by omega), if_neg (by omega)] at h
theorem mz_v_o {t n o : Nat} (ht : t < 90 ∨ 93 ≤ t) : mz_v ad sK sV vF (.inr (some (t, n, o))) = .ref (ad o) := by
  simp only [mz_v]
  rw [if_neg (by omega), if_neg (by omega), if_neg (by omega)]
theorem mz_of_wf {o : Nat} (h : o < σ.1) (hS : σ.1 ≤ 167) {t n : Nat} (hk : mz_kd o = (t, n)) : mz_wf σ (.inr (some (t, n, o))) := by
  have := (mz_kd_ok (Nat.lt_of_lt_of_le h hS)).1
  rw [hk] at this
  simp only at this
  simp only [mz_wf]
  rw [if_neg (by omega), if_neg (by omega), if_neg (by omega)]
  exact ⟨h, hk⟩
theorem mz_en_o {o t n : Nat} (hk : mz_kd o = (t, n)) (ht : t < 10) : mz_en ad cy σ o = .inr (t, (List.range (mz_nf t)).map (mz_fv ad σ t o)) := by
  unfold mz_en
  rw [hk]
  simp [ht]
theorem mz_en_a {o t n : Nat} (hk : mz_kd o = (t, n)) (ht : 100 ≤ t ∧ t < 103) : mz_en ad cy σ o = .inl (cy (t - 100), n, .inl (fun k => Int32.ofInt (σ.2.2.2 o k))) := by
  unfold mz_en
  rw [hk]
  simp only
  rw [if_neg (by omega), if_pos (by omega)]
theorem mz_en_r {o t n : Nat} (hk : mz_kd o = (t, n)) (ht : 103 ≤ t) : mz_en ad cy σ o = .inl (cy (t - 100), n, .inr (.inr (.inr (.inr (mz_rw ad σ o))))) := by
  unfold mz_en
  rw [hk]
  simp only
  rw [if_neg (by omega), if_neg (by omega)]
/-- a cell of which nothing has changed -/
theorem mz_en_eq {σ' : mz_S} {ad' : Nat → Nat} {o : Nat} (hm : ∀ k, σ'.2.2.2 o k = σ.2.2.2 o k) (hi : ∀ k, σ'.2.2.1 o k = σ.2.2.1 o k) (ha : ∀ q, ad' q = ad q) : mz_en ad' cy σ' o = mz_en ad cy σ o := by
  have e : ad' = ad := funext ha
  subst e
  have e1 : mz_fv ad' σ' (mz_kd o).1 o = mz_fv ad' σ (mz_kd o).1 o := by
    funext k
    unfold mz_fv
    rw [hm, hi]
  have e2 : mz_rw ad' σ' o = mz_rw ad' σ o := by
    funext k
    unfold mz_rw
    rw [hi]
  unfold mz_en
  rw [e1, e2]
  simp only [hm]
end Cls
end
section
/-! The operations that read or write cells, one by one. -/
section Sn4
variable {p : Program} {l : Launch} {e : Env} {R : Room} {s : State} {m : MethodId} {args : Array Value} {below : List Frame} {meth : Method} {c : Code} {D : va_G} {cy : Nat → ClassId} {sK sV : Nat → Nat} {vF : Value} {β : Nat} {Q : State → Prop} {ade : Nat → Nat} {te se : Nat} {k i a c9 x9 y9 : Nat} {b : Int} {σ σ0 : mz_S} {ls : mz_Ls} {st : List mz_V} {call : Nat → List mz_V → mz_S → (Option mz_V → mz_S → Prop) → Prop} {rt : Option mz_V → mz_S → Prop}
theorem mz_H_mem {s : State} {ad : Nat → Nat} {σ' : mz_S} {lsA : Array Slot} {H H1 : Heap} {locs locs1 : List Loc} (hH : mz_H s D cy sK sV vF β k ad σ ls st lsA H locs) (e : σ'.1 = σ.1) (hP : va_P D vwCl (mz_ws ad cy σ') H1) (hD : va_D (fun q => β ≤ q) (mz_ws ad cy σ')) (hS : va_S (fun q => β ≤ q) s.heap H1 locs1) (hw : mz_wS σ') : mz_H s D cy sK sV vF β k ad σ' ls st lsA H1 locs1 :=
  ⟨hP, hD, hS, hw, fun v hv => mz_wf_mono (by rw [e]; exact Nat.le_refl _) (mz_H_wf hH hv), fun a v hv => mz_wf_mono (by rw [e]; exact Nat.le_refl _) (mz_H_ls hH hv), hH.2.2.2.2.2.2.1, hH.2.2.2.2.2.2.2⟩
theorem mz_wS_up {o a : Nat} {v : Int} (h : mz_wS σ) (hv : mz_w v) (h1 : (mz_kd o).1 = 101 → v = 0 ∨ v = 1) (h2 : (mz_kd o).1 = 102 → -128 ≤ v ∧ v ≤ 127) : mz_wS (σ.1, σ.2.1, σ.2.2.1, mz_up σ.2.2.2 o a v) := by
  obtain ⟨q1, q2, q3, q4, q5, q6⟩ := h
  refine ⟨q1, fun o' k' => ?_, fun o' k' hk => ?_, fun o' k' hk => ?_, q5, q6⟩
  · show mz_w (mz_up σ.2.2.2 o a v o' k')
    unfold mz_up
    split
    · exact hv
    · exact q2 _ _
  · show mz_up σ.2.2.2 o a v o' k' = 0 ∨ mz_up σ.2.2.2 o a v o' k' = 1
    unfold mz_up
    split
    · rename_i hh; rw [hh.1] at hk; exact h1 hk
    · exact q3 _ _ hk
  · show -128 ≤ mz_up σ.2.2.2 o a v o' k' ∧ mz_up σ.2.2.2 o a v o' k' ≤ 127
    unfold mz_up
    split
    · rename_i hh; rw [hh.1] at hk; exact h2 hk
    · exact q4 _ _ hk
theorem mz_up_ne {M : mz_M} {o a q j : Nat} {v : Int} (h : q ≠ o) : mz_up M o a v q j = M q j := by
  unfold mz_up
  rw [if_neg (fun hh => h hh.1)]
theorem mz_iu_ne {M : Nat → Nat → Bool} {o a q j : Nat} (h : q ≠ o) : mz_iu M o a q j = M q j := by
  unfold mz_iu
  rw [if_neg (fun hh => h hh.1)]

theorem mz_s36 (hF : mz_F p R s m args meth c D cy sK sV vF β k) (hc : mz_ch1 k i 36 a b c9 x9 y9 = true) (h : mz_st1 (fun ls st σ => mz_gr σ σ0 ∧ mz_K p l e R s m args below meth c D cy sK sV vF β Q ade te se k (i + 1) ls st σ) call rt (36, a, b, c9, x9, y9) ls st σ) : mz_K p l e R s m args below meth c D cy sK sV vF β Q ade te se k i ls st σ := by
  obtain ⟨hx, hb, hr, hml, hown, hlk, hnm, hts, hCx, hfr, hlo⟩ := hF
  intro ad lsA H locs h1 h2 h3 hH
  have hA : ∀ q : Nat, s.heap.size ≤ q → (fun q : Nat => β ≤ q) q := fun q hq => Nat.le_trans hCx.2.2.2.2.2.2.2.1 hq
  have hS := hH.2.2.2.1
  rcases st with _ | ⟨v0, st⟩
  · exact False.elim h
  rcases v0 with w0 | _ | ⟨tv, zv, ov⟩
  case inl => exact False.elim h
  case inr.none => exact False.elim h
  have h : tv = c9 ∧ (mz_gr σ σ0 ∧ mz_K p l e R s m args below meth c D cy sK sV vF β Q ade te se k (i + 1) ls (.inl (σ.2.2.2 ov a) :: st) σ) := h
  obtain ⟨rfl, hg, h⟩ := h
  simp only [mz_ch1, mz_isI, Bool.and_eq_true, decide_eq_true_eq] at hc
  obtain ⟨⟨hc, hw⟩, ⟨⟨ha, ht⟩, hty⟩, hf⟩ := hc
  obtain ⟨hd, hp⟩ := mz_D_ok hc
  have ho := mz_wf_o (mz_H_hd hH) (Or.inl (by omega))
  have he : (mz_ws ad cy σ)[ov]? = some (ad ov, .inr (tv, (List.range (mz_nf tv)).map (mz_fv ad σ tv ov))) := by rw [mz_ws_at _ _ _ ho.1, mz_en_o ho.2 ht]
  rw [List.map_cons, mz_v_o (Or.inl (by omega))]
  exact va_get hx hb hts (mz_hin ht) hown hCx.1 hH.1 ov he (mz_cl_at tv ht) a ha (ref := (mz_T tv a).1) (hts _ (mz_W_ok hw)) (fun _ q => q) (v := .int (Int32.ofInt (σ.2.2.2 ov a))) (by simp [ha, mz_fv, hf]) hd (mz_K_at h hp h1 h2 h3 (mz_H_cons (mz_H_tl hH) (hS.2.1 _ _)) rfl)

theorem mz_s37 (hF : mz_F p R s m args meth c D cy sK sV vF β k) (hc : mz_ch1 k i 37 a b c9 x9 y9 = true) (h : mz_st1 (fun ls st σ => mz_gr σ σ0 ∧ mz_K p l e R s m args below meth c D cy sK sV vF β Q ade te se k (i + 1) ls st σ) call rt (37, a, b, c9, x9, y9) ls st σ) : mz_K p l e R s m args below meth c D cy sK sV vF β Q ade te se k i ls st σ := by
  obtain ⟨hx, hb, hr, hml, hown, hlk, hnm, hts, hCx, hfr, hlo⟩ := hF
  intro ad lsA H locs h1 h2 h3 hH
  have hA : ∀ q : Nat, s.heap.size ≤ q → (fun q : Nat => β ≤ q) q := fun q hq => Nat.le_trans hCx.2.2.2.2.2.2.2.1 hq
  have hS := hH.2.2.2.1
  rcases st with _ | ⟨v0, st⟩
  · exact False.elim h
  rcases v0 with w0 | _ | ⟨tv, zv, ov⟩
  case inl => exact False.elim h
  case inr.none => exact False.elim h
  simp only [mz_ch1, mz_isR, Bool.and_eq_true, decide_eq_true_eq] at hc
  obtain ⟨⟨hc, hw⟩, ⟨ha, ht⟩, hf⟩ := hc
  have h : tv = c9 ∧ σ.2.2.1 ov a = true ∧ (match mz_fr c9 a with | some (u, n, f) => (mz_gr σ σ0 ∧ mz_K p l e R s m args below meth c D cy sK sV vF β Q ade te se k (i + 1) ls (.inr (some (u, n, ov + f)) :: st) σ) | none => False) := h
  obtain ⟨rfl, hi, h⟩ := h
  cases hf2 : mz_fr tv a with
  | none => rw [hf2] at hf; simp at hf
  | some q =>
  obtain ⟨u, n, f⟩ := q
  rw [hf2] at h
  have h : (mz_gr σ σ0 ∧ mz_K p l e R s m args below meth c D cy sK sV vF β Q ade te se k (i + 1) ls (.inr (some (u, n, ov + f)) :: st) σ) := h
  obtain ⟨hg, h⟩ := h
  obtain ⟨hd, hp⟩ := mz_D_ok hc
  have ho := mz_wf_o (mz_H_hd hH) (Or.inl (by omega))
  have he : (mz_ws ad cy σ)[ov]? = some (ad ov, .inr (tv, (List.range (mz_nf tv)).map (mz_fv ad σ tv ov))) := by rw [mz_ws_at _ _ _ ho.1, mz_en_o ho.2 ht]
  rw [List.map_cons, mz_v_o (Or.inl (by omega))]
  have hn := hS.2.2.2.2.1 ov ho.1 a u n f (by rw [ho.2]; exact ha) (by rw [ho.2]; exact hf2) hi
  have hk := (mz_kd_ok (Nat.lt_of_lt_of_le hn.1 hS.1)).1
  rw [hn.2] at hk
  simp only at hk
  exact va_get hx hb hts (mz_hin ht) hown hCx.1 hH.1 ov he (mz_cl_at tv ht) a ha (ref := (mz_T tv a).1) (hts _ (mz_W_ok hw)) (fun _ q => q) (v := .ref (ad (ov + f))) (by simp [ha, mz_fv, hf2, hi]) hd (mz_K_at h hp h1 h2 h3 (mz_H_cons (mz_H_tl hH) (mz_of_wf hn.1 hS.1 hn.2)) (by rw [List.map_cons, mz_v_o (by omega)]))

theorem mz_fs_up {ad : Nat → Nat} {t o a : Nat} {v : Int} (hf : mz_fr t a = none) (ha : a < mz_nf t) : ((List.range (mz_nf t)).map (mz_fv ad σ t o)).set a (.int (Int32.ofInt v)) = (List.range (mz_nf t)).map (mz_fv ad (σ.1, σ.2.1, σ.2.2.1, mz_up σ.2.2.2 o a v) t o) := by
  apply List.ext_getElem?
  intro j
  rw [List.getElem?_set]
  by_cases hj : j < mz_nf t
  · by_cases haj : a = j
    · subst haj
      simp [ha, mz_fv, hf, mz_up]
    · rw [if_neg haj]
      simp only [List.getElem?_map, List.getElem?_range hj, Option.map_some]
      congr 1
      unfold mz_fv
      simp only [mz_up, true_and, Ne.symm haj, if_false]
  · rw [if_neg (by omega)]
    simp [hj]

theorem mz_s38 (hF : mz_F p R s m args meth c D cy sK sV vF β k) (hc : mz_ch1 k i 38 a b c9 x9 y9 = true) (h : mz_st1 (fun ls st σ => mz_gr σ σ0 ∧ mz_K p l e R s m args below meth c D cy sK sV vF β Q ade te se k (i + 1) ls st σ) call rt (38, a, b, c9, x9, y9) ls st σ) : mz_K p l e R s m args below meth c D cy sK sV vF β Q ade te se k i ls st σ := by
  obtain ⟨hx, hb, hr, hml, hown, hlk, hnm, hts, hCx, hfr, hlo⟩ := hF
  intro ad lsA H locs h1 h2 h3 hH
  have hA : ∀ q : Nat, s.heap.size ≤ q → (fun q : Nat => β ≤ q) q := fun q hq => Nat.le_trans hCx.2.2.2.2.2.2.2.1 hq
  have hS := hH.2.2.2.1
  rcases st with _ | ⟨u0, st⟩
  · exact False.elim h
  rcases u0 with u | w0
  case inr => exact False.elim h
  rcases st with _ | ⟨v0, st⟩
  · exact False.elim h
  rcases v0 with w0 | _ | ⟨tv, zv, ov⟩
  case inl => exact False.elim h
  case inr.none => exact False.elim h
  have h : tv = c9 ∧ (mz_gr (σ.1, σ.2.1, σ.2.2.1, mz_up σ.2.2.2 ov a u) σ0 ∧ mz_K p l e R s m args below meth c D cy sK sV vF β Q ade te se k (i + 1) ls st (σ.1, σ.2.1, σ.2.2.1, mz_up σ.2.2.2 ov a u)) := h
  obtain ⟨rfl, hg, h⟩ := h
  simp only [mz_ch1, mz_isI, Bool.and_eq_true, decide_eq_true_eq] at hc
  obtain ⟨⟨⟨hc, hw⟩, ⟨⟨ha, ht⟩, hty⟩, hf⟩, hfin⟩ := hc
  obtain ⟨hd, hp⟩ := mz_D_ok hc
  have ho := mz_wf_o (mz_H_hd (mz_H_tl hH)) (Or.inl (by omega))
  have he : (mz_ws ad cy σ)[ov]? = some (ad ov, .inr (tv, (List.range (mz_nf tv)).map (mz_fv ad σ tv ov))) := by rw [mz_ws_at _ _ _ ho.1, mz_en_o ho.2 ht]
  rw [List.map_cons, List.map_cons, mz_v_o (Or.inl (by omega)), mz_v_i]
  have hdt : parseFieldDescriptor (mz_T tv a).2.2.1 = some .int := by rw [mz_hty ht a ha, hty]
  have hl : a < ((List.range (mz_nf tv)).map (mz_fv ad σ tv ov)).length := by simpa using ha
  have hset : (mz_ws ad cy σ).set ov (ad ov, .inr (tv, ((List.range (mz_nf tv)).map (mz_fv ad σ tv ov)).set a (.int (Int32.ofInt u)))) = mz_ws ad cy (σ.1, σ.2.1, σ.2.2.1, mz_up σ.2.2.2 ov a u) := by
    refine mz_ws_set (σ' := (σ.1, σ.2.1, σ.2.2.1, mz_up σ.2.2.2 ov a u)) rfl ho.1 ?_ (fun q _ hq => mz_en_eq (fun j => mz_up_ne hq) (fun _ => rfl) (fun _ => rfl))
    rw [mz_en_o ho.2 ht, mz_fs_up hf ha]
  have hwS := mz_wS_up (o := ov) (a := a) hS (mz_H_hd hH) (fun q => by rw [ho.2] at q; simp only at q; omega) (fun q => by rw [ho.2] at q; simp only at q; omega)
  have fin : ∀ (H1 : Heap) (locs1 : List Loc), va_P D vwCl ((mz_ws ad cy σ).set ov (ad ov, .inr (tv, ((List.range (mz_nf tv)).map (mz_fv ad σ tv ov)).set a (.int (Int32.ofInt u))))) H1 → va_D (fun q => β ≤ q) ((mz_ws ad cy σ).set ov (ad ov, .inr (tv, ((List.range (mz_nf tv)).map (mz_fv ad σ tv ov)).set a (.int (Int32.ofInt u))))) → va_S (fun q => β ≤ q) s.heap H1 locs1 → W p l e R s m args below meth c H1 locs1 (σ.1 - te) (σ.2.1 - se) Q (F0 m (mz_pc k i + 3) lsA (st.map (mz_v ad sK sV vF))) := by
    intro H1 locs1 q1 q2 q3
    rw [hset] at q1 q2
    exact mz_K_at h hp h1 h2 h3 (mz_H_mem (mz_H_tl (mz_H_tl hH)) rfl q1 q2 q3 hwS) rfl
  split at hfin
  · rename_i hfl
    simp only [Bool.and_eq_true, decide_eq_true_eq] at hfin
    exact va_putF hx hb hts (mz_hin ht) (mz_ty tv) (mz_hty ht) (mz_hnm ht) hown hCx.1 hH.1 hH.2.1 hH.2.2.1 ov he (mz_cl_at tv ht) a ha (ref := (mz_T tv a).1) (hts _ (mz_W_ok hw)) (fun _ q => q) hfl (by rw [hnm]; exact hfin.1) hfin.2 hdt rfl rfl hl hd fin
  · rename_i hfl
    exact va_put hx hb hts (mz_hin ht) (mz_ty tv) (mz_hty ht) (mz_hnm ht) hown hCx.1 hH.1 hH.2.1 hH.2.2.1 ov he (mz_cl_at tv ht) a ha (ref := (mz_T tv a).1) (hts _ (mz_W_ok hw)) (fun _ q => q) (by simpa using hfl) hdt rfl rfl hl hd fin

theorem mz_wS_iu {o a : Nat} (h : mz_wS σ) (h1 : ∀ u n f, mz_fr (mz_kd o).1 a = some (u, n, f) → o + f < σ.1 ∧ mz_kd (o + f) = (u, n)) (h2 : 103 ≤ (mz_kd o).1 → (mz_kd o).1 ≤ 105 → o + ((mz_ar (mz_kd o).1).2.1 + (mz_ar (mz_kd o).1).2.2 * a) < σ.1 ∧ mz_kd (o + ((mz_ar (mz_kd o).1).2.1 + (mz_ar (mz_kd o).1).2.2 * a)) = ((mz_ar (mz_kd o).1).1, 0)) : mz_wS (σ.1, σ.2.1, mz_iu σ.2.2.1 o a, σ.2.2.2) := by
  obtain ⟨q1, q2, q3, q4, q5, q6⟩ := h
  refine ⟨q1, q2, q3, q4, fun o' ho k' t n f hk hf hi => ?_, fun o' ho ht1 ht2 k' hk hi => ?_⟩
  · by_cases hh : o' = o ∧ k' = a
    · obtain ⟨rfl, rfl⟩ := hh
      exact h1 t n f hf
    · refine q5 o' ho k' t n f hk hf ?_
      have hi : mz_iu σ.2.2.1 o a o' k' = true := hi
      unfold mz_iu at hi
      rwa [if_neg hh] at hi
  · by_cases hh : o' = o ∧ k' = a
    · obtain ⟨rfl, rfl⟩ := hh
      exact h2 ht1 ht2
    · refine q6 o' ho ht1 ht2 k' hk ?_
      have hi : mz_iu σ.2.2.1 o a o' k' = true := hi
      unfold mz_iu at hi
      rwa [if_neg hh] at hi
theorem mz_fs_iu {ad : Nat → Nat} {t o a u n f : Nat} (hf : mz_fr t a = some (u, n, f)) (ha : a < mz_nf t) : ((List.range (mz_nf t)).map (mz_fv ad σ t o)).set a (.ref (ad (o + f))) = (List.range (mz_nf t)).map (mz_fv ad (σ.1, σ.2.1, mz_iu σ.2.2.1 o a, σ.2.2.2) t o) := by
  apply List.ext_getElem?
  intro j
  rw [List.getElem?_set]
  by_cases hj : j < mz_nf t
  · by_cases haj : a = j
    · subst haj
      simp [ha, mz_fv, hf, mz_iu]
    · rw [if_neg haj]
      simp only [List.getElem?_map, List.getElem?_range hj, Option.map_some]
      congr 1
      unfold mz_fv
      simp only [mz_iu, true_and, Ne.symm haj, if_false]
  · rw [if_neg (by omega)]
    simp [hj]

theorem mz_s39 (hF : mz_F p R s m args meth c D cy sK sV vF β k) (hc : mz_ch1 k i 39 a b c9 x9 y9 = true) (h : mz_st1 (fun ls st σ => mz_gr σ σ0 ∧ mz_K p l e R s m args below meth c D cy sK sV vF β Q ade te se k (i + 1) ls st σ) call rt (39, a, b, c9, x9, y9) ls st σ) : mz_K p l e R s m args below meth c D cy sK sV vF β Q ade te se k i ls st σ := by
  obtain ⟨hx, hb, hr, hml, hown, hlk, hnm, hts, hCx, hfr, hlo⟩ := hF
  intro ad lsA H locs h1 h2 h3 hH
  have hA : ∀ q : Nat, s.heap.size ≤ q → (fun q : Nat => β ≤ q) q := fun q hq => Nat.le_trans hCx.2.2.2.2.2.2.2.1 hq
  have hS := hH.2.2.2.1
  rcases st with _ | ⟨u0, st⟩
  · exact False.elim h
  rcases u0 with w0 | _ | ⟨tu, zu, ou⟩
  case inl => exact False.elim h
  case inr.none => exact False.elim h
  rcases st with _ | ⟨v0, st⟩
  · exact False.elim h
  rcases v0 with w0 | _ | ⟨tv, zv, ov⟩
  case inl => exact False.elim h
  case inr.none => exact False.elim h
  simp only [mz_ch1, mz_isR, Bool.and_eq_true, decide_eq_true_eq] at hc
  obtain ⟨⟨⟨⟨⟨hc, hw⟩, ⟨ha, ht⟩, hf⟩, hfl⟩, hin⟩, hdc⟩ := hc
  have h : tv = c9 ∧ (match mz_fr c9 a with | some (u', n', f) => tu = u' ∧ zu = n' ∧ ou = ov + f | none => False) ∧ (mz_gr (σ.1, σ.2.1, mz_iu σ.2.2.1 ov a, σ.2.2.2) σ0 ∧ mz_K p l e R s m args below meth c D cy sK sV vF β Q ade te se k (i + 1) ls st (σ.1, σ.2.1, mz_iu σ.2.2.1 ov a, σ.2.2.2)) := h
  obtain ⟨rfl, hm, hg, hN⟩ := h
  cases hf2 : mz_fr tv a with
  | none => rw [hf2] at hf; simp at hf
  | some q =>
  obtain ⟨u, n, f⟩ := q
  rw [hf2] at hm
  have hm : tu = u ∧ zu = n ∧ ou = ov + f := hm
  obtain ⟨rfl, rfl, rfl⟩ := hm
  obtain ⟨hd, hp⟩ := mz_D_ok hc
  have ho := mz_wf_o (mz_H_hd (mz_H_tl hH)) (Or.inl (by omega))
  have he : (mz_ws ad cy σ)[ov]? = some (ad ov, .inr (tv, (List.range (mz_nf tv)).map (mz_fv ad σ tv ov))) := by rw [mz_ws_at _ _ _ ho.1, mz_en_o ho.2 ht]
  have hf3 : (mz_fr tv a).isSome = true := by rw [hf2]; rfl
  have hfk : ∀ c k, (mz_fr c k).isSome = true → c < 10 → k < mz_nf c → ∀ q, mz_fr c k = some q → q.1 < 10 ∨ 100 ≤ q.1 := by
    have hB : ((List.range 10).all fun c => (List.range (mz_nf c)).all fun k => match mz_fr c k with | some q => decide (q.1 < 10 ∨ 100 ≤ q.1) | none => true) = true := by decide +kernel
    intro c k _ hc hk q hq
    have := List.all_eq_true.mp (List.all_eq_true.mp hB c (List.mem_range.mpr hc)) k (List.mem_range.mpr hk)
    rw [hq] at this
    simpa using this
  have hu := hfk tv a hf3 ht ha _ hf2
  simp only at hu
  rw [List.map_cons, List.map_cons, mz_v_o (t := tu) (by omega), mz_v_o (t := tv) (Or.inl (by omega))]
  have hou := mz_wf_o (mz_H_hd hH) (by omega)
  have hset : (mz_ws ad cy σ).set ov (ad ov, .inr (tv, ((List.range (mz_nf tv)).map (mz_fv ad σ tv ov)).set a (.ref (ad (ov + f))))) = mz_ws ad cy (σ.1, σ.2.1, mz_iu σ.2.2.1 ov a, σ.2.2.2) := by
    refine mz_ws_set (σ' := (σ.1, σ.2.1, mz_iu σ.2.2.1 ov a, σ.2.2.2)) rfl ho.1 ?_ (fun q _ hq => mz_en_eq (fun _ => rfl) (fun j => mz_iu_ne hq) (fun _ => rfl))
    rw [mz_en_o ho.2 ht, mz_fs_iu hf2 ha]
  have hwS := mz_wS_iu (o := ov) (a := a) hS (fun u n f' q => by rw [ho.2] at q; simp only at q; rw [hf2] at q; cases q; exact hou) (fun q => by rw [ho.2] at q; simp only at q; omega)
  have hl : a < ((List.range (mz_nf tv)).map (mz_fv ad σ tv ov)).length := by simpa using ha
  have hty : narrow (mz_ty tv a) (.ref (ad (ov + f))) = .ref (ad (ov + f)) ∧ fits (mz_ty tv a) (.ref (ad (ov + f))) = true := by
    rcases mz_tyR ht ha hf3 with ⟨n, hn⟩ | ⟨n, hn⟩ <;> rw [hn] <;> exact ⟨rfl, rfl⟩
  refine va_putF hx hb hts (mz_hin ht) (mz_ty tv) (mz_hty ht) (mz_hnm ht) hown hCx.1 hH.1 hH.2.1 hH.2.2.1 ov he (mz_cl_at tv ht) a ha (ref := (mz_T tv a).1) (hts _ (mz_W_ok hw)) (fun _ q => q) hfl (by rw [hnm]; exact hin) hdc (mz_hty ht a ha) hty.1 hty.2 hl hd (fun H1 locs1 q1 q2 q3 => ?_)
  rw [hset] at q1 q2
  exact mz_K_at hN hp h1 h2 h3 (mz_H_mem (mz_H_tl (mz_H_tl hH)) rfl q1 q2 q3 hwS) rfl

theorem mz_s40 (hF : mz_F p R s m args meth c D cy sK sV vF β k) (hc : mz_ch1 k i 40 a b c9 x9 y9 = true) (h : mz_st1 (fun ls st σ => mz_gr σ σ0 ∧ mz_K p l e R s m args below meth c D cy sK sV vF β Q ade te se k (i + 1) ls st σ) call rt (40, a, b, c9, x9, y9) ls st σ) : mz_K p l e R s m args below meth c D cy sK sV vF β Q ade te se k i ls st σ := by
  obtain ⟨hx, hb, hr, hml, hown, hlk, hnm, hts, hCx, hfr, hlo⟩ := hF
  intro ad lsA H locs h1 h2 h3 hH
  have hA : ∀ q : Nat, s.heap.size ≤ q → (fun q : Nat => β ≤ q) q := fun q hq => Nat.le_trans hCx.2.2.2.2.2.2.2.1 hq
  have hS := hH.2.2.2.1
  rcases st with _ | ⟨j0, st⟩
  · exact False.elim h
  rcases j0 with j | w0
  case inr => exact False.elim h
  rcases st with _ | ⟨v0, st⟩
  · exact False.elim h
  rcases v0 with w0 | _ | ⟨tv, zv, ov⟩
  case inl => exact False.elim h
  case inr.none => exact False.elim h
  have h : tv = 100 ∧ (0 ≤ j ∧ j < zv) ∧ (mz_gr σ σ0 ∧ mz_K p l e R s m args below meth c D cy sK sV vF β Q ade te se k (i + 1) ls (.inl (σ.2.2.2 ov j.toNat) :: st) σ) := h
  obtain ⟨rfl, hj, hg, h⟩ := h
  simp only [mz_ch1] at hc
  obtain ⟨hd, hp⟩ := mz_D_ok hc
  have ho := mz_wf_o (mz_H_hd (mz_H_tl hH)) (Or.inr (by omega))
  have he : (mz_ws ad cy σ)[ov]? = some (ad ov, .inl (cy 0, zv, .inl (fun k => Int32.ofInt (σ.2.2.2 ov k)))) := by rw [mz_ws_at _ _ _ ho.1, mz_en_a ho.2 (by omega)]
  rw [List.map_cons, List.map_cons, mz_v_o (Or.inr (by omega)), mz_v_i]
  obtain ⟨hin, hjn⟩ := mz_inI (mz_H_hd hH) hj
  exact va_iald hx hb hCx.1 hH.1 ov 0 he rfl hin hd (mz_K_at h hp h1 h2 h3 (mz_H_cons (mz_H_tl (mz_H_tl hH)) (hS.2.1 _ _)) (by rw [List.map_cons, mz_v_i, hjn]))

theorem mz_s42 (hF : mz_F p R s m args meth c D cy sK sV vF β k) (hc : mz_ch1 k i 42 a b c9 x9 y9 = true) (h : mz_st1 (fun ls st σ => mz_gr σ σ0 ∧ mz_K p l e R s m args below meth c D cy sK sV vF β Q ade te se k (i + 1) ls st σ) call rt (42, a, b, c9, x9, y9) ls st σ) : mz_K p l e R s m args below meth c D cy sK sV vF β Q ade te se k i ls st σ := by
  obtain ⟨hx, hb, hr, hml, hown, hlk, hnm, hts, hCx, hfr, hlo⟩ := hF
  intro ad lsA H locs h1 h2 h3 hH
  have hA : ∀ q : Nat, s.heap.size ≤ q → (fun q : Nat => β ≤ q) q := fun q hq => Nat.le_trans hCx.2.2.2.2.2.2.2.1 hq
  have hS := hH.2.2.2.1
  rcases st with _ | ⟨j0, st⟩
  · exact False.elim h
  rcases j0 with j | w0
  case inr => exact False.elim h
  rcases st with _ | ⟨v0, st⟩
  · exact False.elim h
  rcases v0 with w0 | _ | ⟨tv, zv, ov⟩
  case inl => exact False.elim h
  case inr.none => exact False.elim h
  have h : tv = 101 ∧ (0 ≤ j ∧ j < zv) ∧ (mz_gr σ σ0 ∧ mz_K p l e R s m args below meth c D cy sK sV vF β Q ade te se k (i + 1) ls (.inl (σ.2.2.2 ov j.toNat) :: st) σ) := h
  obtain ⟨rfl, hj, hg, h⟩ := h
  simp only [mz_ch1] at hc
  obtain ⟨hd, hp⟩ := mz_D_ok hc
  have ho := mz_wf_o (mz_H_hd (mz_H_tl hH)) (Or.inr (by omega))
  have he : (mz_ws ad cy σ)[ov]? = some (ad ov, .inl (cy 1, zv, .inl (fun k => Int32.ofInt (σ.2.2.2 ov k)))) := by rw [mz_ws_at _ _ _ ho.1, mz_en_a ho.2 (by omega)]
  rw [List.map_cons, List.map_cons, mz_v_o (Or.inr (by omega)), mz_v_i]
  obtain ⟨hin, hjn⟩ := mz_inI (mz_H_hd hH) hj
  exact va_zald hx hb hCx.1 hH.1 ov 1 he rfl hin hd (mz_K_at h hp h1 h2 h3 (mz_H_cons (mz_H_tl (mz_H_tl hH)) (hS.2.1 _ _)) (by rw [List.map_cons, mz_v_i, hjn]))

theorem mz_s41 (hF : mz_F p R s m args meth c D cy sK sV vF β k) (hc : mz_ch1 k i 41 a b c9 x9 y9 = true) (h : mz_st1 (fun ls st σ => mz_gr σ σ0 ∧ mz_K p l e R s m args below meth c D cy sK sV vF β Q ade te se k (i + 1) ls st σ) call rt (41, a, b, c9, x9, y9) ls st σ) : mz_K p l e R s m args below meth c D cy sK sV vF β Q ade te se k i ls st σ := by
  obtain ⟨hx, hb, hr, hml, hown, hlk, hnm, hts, hCx, hfr, hlo⟩ := hF
  intro ad lsA H locs h1 h2 h3 hH
  have hA : ∀ q : Nat, s.heap.size ≤ q → (fun q : Nat => β ≤ q) q := fun q hq => Nat.le_trans hCx.2.2.2.2.2.2.2.1 hq
  have hS := hH.2.2.2.1
  rcases st with _ | ⟨u0, st⟩
  · exact False.elim h
  rcases u0 with u | w0
  case inr => exact False.elim h
  rcases st with _ | ⟨j0, st⟩
  · exact False.elim h
  rcases j0 with j | w0
  case inr => exact False.elim h
  rcases st with _ | ⟨v0, st⟩
  · exact False.elim h
  rcases v0 with w0 | _ | ⟨tv, zv, ov⟩
  case inl => exact False.elim h
  case inr.none => exact False.elim h
  have h : tv = 100 ∧ (0 ≤ j ∧ j < zv) ∧ (mz_gr (σ.1, σ.2.1, σ.2.2.1, mz_up σ.2.2.2 ov j.toNat u) σ0 ∧ mz_K p l e R s m args below meth c D cy sK sV vF β Q ade te se k (i + 1) ls st (σ.1, σ.2.1, σ.2.2.1, mz_up σ.2.2.2 ov j.toNat u)) := h
  obtain ⟨rfl, hj, hg, h⟩ := h
  simp only [mz_ch1] at hc
  obtain ⟨hd, hp⟩ := mz_D_ok hc
  have ho := mz_wf_o (mz_H_hd (mz_H_tl (mz_H_tl hH))) (Or.inr (by omega))
  have he : (mz_ws ad cy σ)[ov]? = some (ad ov, .inl (cy 0, zv, .inl (fun k => Int32.ofInt (σ.2.2.2 ov k)))) := by rw [mz_ws_at _ _ _ ho.1, mz_en_a ho.2 (by omega)]
  rw [List.map_cons, List.map_cons, List.map_cons, mz_v_o (Or.inr (by omega)), mz_v_i, mz_v_i]
  obtain ⟨hin, hjn⟩ := mz_inI (mz_H_hd (mz_H_tl hH)) hj
  have hval : Int32.ofInt u = Int32.ofInt u := rfl
  refine va_iast hx hb hCx.1 hH.1 hH.2.1 hH.2.2.1 ov 0 he rfl hin hd (fun H1 locs1 q1 q2 q3 => ?_)
  have hset : (mz_ws ad cy σ).set ov (ad ov, .inl (cy 0, zv, .inl (upd (fun k => Int32.ofInt (σ.2.2.2 ov k)) (Int32.ofInt j).toNatClampNeg (Int32.ofInt u)))) = mz_ws ad cy (σ.1, σ.2.1, σ.2.2.1, mz_up σ.2.2.2 ov j.toNat u) := by
    refine mz_ws_set (σ' := (σ.1, σ.2.1, σ.2.2.1, mz_up σ.2.2.2 ov j.toNat u)) rfl ho.1 ?_ (fun q _ hq => mz_en_eq (fun j => mz_up_ne hq) (fun _ => rfl) (fun _ => rfl))
    rw [mz_en_a ho.2 (by omega), hval, hjn]
    congr 4
    funext q
    unfold mz_up upd
    by_cases hq : q = j.toNat <;> simp [hq]
  rw [hset] at q1 q2
  exact mz_K_at h hp h1 h2 h3 (mz_H_mem (mz_H_tl (mz_H_tl (mz_H_tl hH))) rfl q1 q2 q3 (mz_wS_up hS (mz_H_hd hH) (fun q => by rw [ho.2] at q; simp at q) (fun q => by rw [ho.2] at q; simp at q))) rfl

theorem mz_s43 (hF : mz_F p R s m args meth c D cy sK sV vF β k) (hc : mz_ch1 k i 43 a b c9 x9 y9 = true) (h : mz_st1 (fun ls st σ => mz_gr σ σ0 ∧ mz_K p l e R s m args below meth c D cy sK sV vF β Q ade te se k (i + 1) ls st σ) call rt (43, a, b, c9, x9, y9) ls st σ) : mz_K p l e R s m args below meth c D cy sK sV vF β Q ade te se k i ls st σ := by
  obtain ⟨hx, hb, hr, hml, hown, hlk, hnm, hts, hCx, hfr, hlo⟩ := hF
  intro ad lsA H locs h1 h2 h3 hH
  have hA : ∀ q : Nat, s.heap.size ≤ q → (fun q : Nat => β ≤ q) q := fun q hq => Nat.le_trans hCx.2.2.2.2.2.2.2.1 hq
  have hS := hH.2.2.2.1
  rcases st with _ | ⟨u0, st⟩
  · exact False.elim h
  rcases u0 with u | w0
  case inr => exact False.elim h
  rcases st with _ | ⟨j0, st⟩
  · exact False.elim h
  rcases j0 with j | w0
  case inr => exact False.elim h
  rcases st with _ | ⟨v0, st⟩
  · exact False.elim h
  rcases v0 with w0 | _ | ⟨tv, zv, ov⟩
  case inl => exact False.elim h
  case inr.none => exact False.elim h
  have h : tv = 101 ∧ (0 ≤ j ∧ j < zv) ∧ (u = 0 ∨ u = 1) ∧ (mz_gr (σ.1, σ.2.1, σ.2.2.1, mz_up σ.2.2.2 ov j.toNat u) σ0 ∧ mz_K p l e R s m args below meth c D cy sK sV vF β Q ade te se k (i + 1) ls st (σ.1, σ.2.1, σ.2.2.1, mz_up σ.2.2.2 ov j.toNat u)) := h
  obtain ⟨rfl, hj, hu, hg, h⟩ := h
  simp only [mz_ch1] at hc
  obtain ⟨hd, hp⟩ := mz_D_ok hc
  have ho := mz_wf_o (mz_H_hd (mz_H_tl (mz_H_tl hH))) (Or.inr (by omega))
  have he : (mz_ws ad cy σ)[ov]? = some (ad ov, .inl (cy 1, zv, .inl (fun k => Int32.ofInt (σ.2.2.2 ov k)))) := by rw [mz_ws_at _ _ _ ho.1, mz_en_a ho.2 (by omega)]
  rw [List.map_cons, List.map_cons, List.map_cons, mz_v_o (Or.inr (by omega)), mz_v_i, mz_v_i]
  obtain ⟨hin, hjn⟩ := mz_inI (mz_H_hd (mz_H_tl hH)) hj
  have hval : vp_nar .boolean (Int32.ofInt u) = Int32.ofInt u := by rcases hu with rfl | rfl <;> decide
  refine va_zast hx hb hCx.1 hH.1 hH.2.1 hH.2.2.1 ov 1 he rfl hin hd (fun H1 locs1 q1 q2 q3 => ?_)
  have hset : (mz_ws ad cy σ).set ov (ad ov, .inl (cy 1, zv, .inl (upd (fun k => Int32.ofInt (σ.2.2.2 ov k)) (Int32.ofInt j).toNatClampNeg (vp_nar .boolean (Int32.ofInt u))))) = mz_ws ad cy (σ.1, σ.2.1, σ.2.2.1, mz_up σ.2.2.2 ov j.toNat u) := by
    refine mz_ws_set (σ' := (σ.1, σ.2.1, σ.2.2.1, mz_up σ.2.2.2 ov j.toNat u)) rfl ho.1 ?_ (fun q _ hq => mz_en_eq (fun j => mz_up_ne hq) (fun _ => rfl) (fun _ => rfl))
    rw [mz_en_a ho.2 (by omega), hval, hjn]
    congr 4
    funext q
    unfold mz_up upd
    by_cases hq : q = j.toNat <;> simp [hq]
  rw [hset] at q1 q2
  exact mz_K_at h hp h1 h2 h3 (mz_H_mem (mz_H_tl (mz_H_tl (mz_H_tl hH))) rfl q1 q2 q3 (mz_wS_up hS (mz_H_hd hH) (fun _ => hu) (fun q => by rw [ho.2] at q; simp at q))) rfl

theorem mz_nb {u : Int} (hu : -128 ≤ u ∧ u ≤ 127) : vp_nar .byte (Int32.ofInt u) = Int32.ofInt u := by
  rw [vp_nar_byte]
  have hB : ∀ n : Fin 256, (Int32.ofInt ((n.val : Int) - 128)).toInt8.toInt32 = Int32.ofInt ((n.val : Int) - 128) := by decide +kernel
  have := hB ⟨(u + 128).toNat, by omega⟩
  rwa [show (((u + 128).toNat : Nat) : Int) - 128 = u by omega] at this

theorem mz_s45 (hF : mz_F p R s m args meth c D cy sK sV vF β k) (hc : mz_ch1 k i 45 a b c9 x9 y9 = true) (h : mz_st1 (fun ls st σ => mz_gr σ σ0 ∧ mz_K p l e R s m args below meth c D cy sK sV vF β Q ade te se k (i + 1) ls st σ) call rt (45, a, b, c9, x9, y9) ls st σ) : mz_K p l e R s m args below meth c D cy sK sV vF β Q ade te se k i ls st σ := by
  obtain ⟨hx, hb, hr, hml, hown, hlk, hnm, hts, hCx, hfr, hlo⟩ := hF
  intro ad lsA H locs h1 h2 h3 hH
  have hA : ∀ q : Nat, s.heap.size ≤ q → (fun q : Nat => β ≤ q) q := fun q hq => Nat.le_trans hCx.2.2.2.2.2.2.2.1 hq
  have hS := hH.2.2.2.1
  rcases st with _ | ⟨u0, st⟩
  · exact False.elim h
  rcases u0 with u | w0
  case inr => exact False.elim h
  rcases st with _ | ⟨j0, st⟩
  · exact False.elim h
  rcases j0 with j | w0
  case inr => exact False.elim h
  rcases st with _ | ⟨v0, st⟩
  · exact False.elim h
  rcases v0 with w0 | _ | ⟨tv, zv, ov⟩
  case inl => exact False.elim h
  case inr.none => exact False.elim h
  have h : tv = 102 ∧ (0 ≤ j ∧ j < zv) ∧ (-128 ≤ u ∧ u ≤ 127) ∧ (mz_gr (σ.1, σ.2.1, σ.2.2.1, mz_up σ.2.2.2 ov j.toNat u) σ0 ∧ mz_K p l e R s m args below meth c D cy sK sV vF β Q ade te se k (i + 1) ls st (σ.1, σ.2.1, σ.2.2.1, mz_up σ.2.2.2 ov j.toNat u)) := h
  obtain ⟨rfl, hj, hu, hg, h⟩ := h
  simp only [mz_ch1] at hc
  obtain ⟨hd, hp⟩ := mz_D_ok hc
  have ho := mz_wf_o (mz_H_hd (mz_H_tl (mz_H_tl hH))) (Or.inr (by omega))
  have he : (mz_ws ad cy σ)[ov]? = some (ad ov, .inl (cy 2, zv, .inl (fun k => Int32.ofInt (σ.2.2.2 ov k)))) := by rw [mz_ws_at _ _ _ ho.1, mz_en_a ho.2 (by omega)]
  rw [List.map_cons, List.map_cons, List.map_cons, mz_v_o (Or.inr (by omega)), mz_v_i, mz_v_i]
  obtain ⟨hin, hjn⟩ := mz_inI (mz_H_hd (mz_H_tl hH)) hj
  have hval : vp_nar .byte (Int32.ofInt u) = Int32.ofInt u := mz_nb hu
  refine va_bast hx hb hCx.1 hH.1 hH.2.1 hH.2.2.1 ov 2 he rfl hin hd (fun H1 locs1 q1 q2 q3 => ?_)
  have hset : (mz_ws ad cy σ).set ov (ad ov, .inl (cy 2, zv, .inl (upd (fun k => Int32.ofInt (σ.2.2.2 ov k)) (Int32.ofInt j).toNatClampNeg (vp_nar .byte (Int32.ofInt u))))) = mz_ws ad cy (σ.1, σ.2.1, σ.2.2.1, mz_up σ.2.2.2 ov j.toNat u) := by
    refine mz_ws_set (σ' := (σ.1, σ.2.1, σ.2.2.1, mz_up σ.2.2.2 ov j.toNat u)) rfl ho.1 ?_ (fun q _ hq => mz_en_eq (fun j => mz_up_ne hq) (fun _ => rfl) (fun _ => rfl))
    rw [mz_en_a ho.2 (by omega), hval, hjn]
    congr 4
    funext q
    unfold mz_up upd
    by_cases hq : q = j.toNat <;> simp [hq]
  rw [hset] at q1 q2
  exact mz_K_at h hp h1 h2 h3 (mz_H_mem (mz_H_tl (mz_H_tl (mz_H_tl hH))) rfl q1 q2 q3 (mz_wS_up hS (mz_H_hd hH) (fun q => by rw [ho.2] at q; simp at q) (fun _ => hu))) rfl

end Sn4
end
section
/-! What is made, what is copied, texts, the library. -/
section Sn5
variable {p : Program} {l : Launch} {e : Env} {R : Room} {s : State} {m : MethodId} {args : Array Value} {below : List Frame} {meth : Method} {c : Code} {D : va_G} {cy : Nat → ClassId} {sK sV : Nat → Nat} {vF : Value} {β : Nat} {Q : State → Prop} {ade : Nat → Nat} {te se : Nat} {k i a c9 x9 y9 : Nat} {b : Int} {σ σ0 : mz_S} {ls : mz_Ls} {st : List mz_V} {call : Nat → List mz_V → mz_S → (Option mz_V → mz_S → Prop) → Prop} {rt : Option mz_V → mz_S → Prop}
theorem mz_wd0 : Cond.arrayClass .int ∈ mz_gw := mz_W_ok (y := 1063) (by decide +kernel)
theorem mz_wd1 : Cond.arrayClass .boolean ∈ mz_gw := mz_W_ok (y := 2108) (by decide +kernel)
theorem mz_wd2 : Cond.arrayClass .byte ∈ mz_gw := mz_W_ok (y := 3111) (by decide +kernel)
theorem mz_wd3 : Cond.instanceMethod Lib.objectInit ∈ mz_gw := mz_W_ok (y := 1031) (by decide +kernel)
theorem mz_wd4 : Cond.code Lib.objectInit ⟨#[0xb1]⟩ 1 none ∈ mz_gw := mz_W_ok (y := 1032) (by decide +kernel)
theorem mz_wd5 : Cond.native arraycopyName ∈ mz_gw := mz_W_ok (y := 1089) (by decide +kernel)
theorem mz_wd6 : Cond.static arraycopyName ∈ mz_gw := mz_W_ok (y := 1088) (by decide +kernel)
theorem mz_wd7 : Cond.initialized "java/lang/System" ∈ mz_gw := mz_W_ok (y := 1007) (by decide +kernel)
theorem mz_wd8 : Cond.static Lib.Math.max.name ∈ mz_gw := mz_W_ok (y := 3173) (by decide +kernel)
theorem mz_wd9 : Cond.code Lib.Math.max.name Lib.Math.max.code 2 (some .int) ∈ mz_gw := mz_W_ok (y := 3174) (by decide +kernel)
theorem mz_wd10 : Cond.static Lib.Math.min.name ∈ mz_gw := mz_W_ok (y := 1085) (by decide +kernel)
theorem mz_wd11 : Cond.code Lib.Math.min.name Lib.Math.min.code 2 (some .int) ∈ mz_gw := mz_W_ok (y := 1086) (by decide +kernel)
theorem mz_wd12 : Cond.initialized "java/lang/Math" ∈ mz_gw := mz_W_ok (y := 1006) (by decide +kernel)
theorem mz_nn (n : Nat) : Int32.ofNat n = Int32.ofInt (n : Int) := by first | rfl | exact (Int32.ofInt_eq_ofNat ..).symm | simp
theorem mz_so_len : mz_so.length = 18 := by decide +kernel
theorem mz_tx_len : mz_tx.length = 18 := by decide +kernel
theorem mz_tl_at {a : Nat} (h : a < 18) : (mz_tx.map List.length).getD a 0 = mz_tl a := by
  have h : a < mz_tx.length := by rw [mz_tx_len]; exact h
  unfold mz_tl
  simp [List.getD_eq_getElem?_getD, h]
theorem mz_tc_at {a j : Nat} (h : a < 18) (hj : j < mz_tl a) : ((mz_tx.map (fun l => l.map Int32.ofInt)).getD a []).getD j 0 = Int32.ofInt (mz_tc a j) := by
  have h : a < mz_tx.length := by rw [mz_tx_len]; exact h
  unfold mz_tl at hj
  unfold mz_tc
  simp only [List.getD_eq_getElem?_getD, List.getElem?_map, List.getElem?_eq_getElem h, Option.map_some, Option.getD_some] at hj ⊢
  simp [List.getElem?_eq_getElem hj]
theorem mz_tcB : (mz_tx.all fun l => l.all fun x => decide (0 ≤ x ∧ x < 128)) = true := by decide +kernel
theorem mz_tc_w (a j : Nat) : mz_w (mz_tc a j) := by
  unfold mz_tc
  by_cases h : a < mz_tx.length
  · have h1 := List.all_eq_true.mp mz_tcB _ (List.getElem_mem h)
    simp only [List.getD_eq_getElem?_getD, List.getElem?_eq_getElem h, Option.getD_some]
    by_cases hj : j < (mz_tx[a]).length
    · have h2 := List.all_eq_true.mp h1 _ (List.getElem_mem hj)
      rw [decide_eq_true_eq] at h2
      simp only [List.getElem?_eq_getElem hj, Option.getD_some]
      unfold mz_w
      omega
    · simp only [List.getElem?_eq_none (Nat.not_lt.mp hj), Option.getD_none]
      exact mz_w0
  · simp only [List.getD_eq_getElem?_getD, List.getElem?_eq_none (Nat.not_lt.mp h), Option.getD_none]
    exact mz_w0
theorem mz_tys_at {cy : Nat → ClassId} {t : Nat} (h : 103 ≤ t ∧ t ≤ 105) : (mz_tys cy)[t - 100]? = some (cy (t - 100), .object (mz_cn (mz_ar t).1)) := by
  rcases (show t = 103 ∨ t = 104 ∨ t = 105 by omega) with rfl | rfl | rfl <;> rfl
theorem mz_ar_lt {t : Nat} (h : 103 ≤ t ∧ t ≤ 105) : (mz_ar t).1 < 10 := by
  rcases (show t = 103 ∨ t = 104 ∨ t = 105 by omega) with rfl | rfl | rfl <;> decide

theorem mz_s44 (hF : mz_F p R s m args meth c D cy sK sV vF β k) (hc : mz_ch1 k i 44 a b c9 x9 y9 = true) (h : mz_st1 (fun ls st σ => mz_gr σ σ0 ∧ mz_K p l e R s m args below meth c D cy sK sV vF β Q ade te se k (i + 1) ls st σ) call rt (44, a, b, c9, x9, y9) ls st σ) : mz_K p l e R s m args below meth c D cy sK sV vF β Q ade te se k i ls st σ := by
  obtain ⟨hx, hb, hr, hml, hown, hlk, hnm, hts, hCx, hfr, hlo⟩ := hF
  intro ad lsA H locs h1 h2 h3 hH
  have hA : ∀ q : Nat, s.heap.size ≤ q → (fun q : Nat => β ≤ q) q := fun q hq => Nat.le_trans hCx.2.2.2.2.2.2.2.1 hq
  have hS := hH.2.2.2.1
  rcases st with _ | ⟨j0, st⟩
  · exact False.elim h
  rcases j0 with j | w0
  case inr => exact False.elim h
  rcases st with _ | ⟨v0, st⟩
  · exact False.elim h
  rcases v0 with w0 | _ | ⟨tv, zv, ov⟩
  case inl => exact False.elim h
  case inr.none => exact False.elim h
  have h : (0 ≤ j ∧ j < zv) ∧ (if tv = 102 then (mz_gr σ σ0 ∧ mz_K p l e R s m args below meth c D cy sK sV vF β Q ade te se k (i + 1) ls (.inl (σ.2.2.2 ov j.toNat) :: st) σ) else tv = 91 ∧ (mz_gr σ σ0 ∧ mz_K p l e R s m args below meth c D cy sK sV vF β Q ade te se k (i + 1) ls (.inl (mz_tc ov j.toNat) :: st) σ)) := h
  obtain ⟨hj, h⟩ := h
  simp only [mz_ch1] at hc
  obtain ⟨hd, hp⟩ := mz_D_ok hc
  obtain ⟨hin, hjn⟩ := mz_inI (mz_H_hd hH) hj
  split at h
  · rename_i htv
    obtain ⟨hg, hN⟩ := h
    subst htv
    have ho := mz_wf_o (mz_H_hd (mz_H_tl hH)) (Or.inr (by omega))
    have he : (mz_ws ad cy σ)[ov]? = some (ad ov, .inl (cy 2, zv, .inl (fun k => Int32.ofInt (σ.2.2.2 ov k)))) := by rw [mz_ws_at _ _ _ ho.1, mz_en_a ho.2 (by omega)]
    rw [List.map_cons, List.map_cons, mz_v_o (Or.inr (by omega)), mz_v_i]
    exact va_bald hx hb hCx.1 hH.1 ov 2 he rfl hin hd (mz_K_at hN hp h1 h2 h3 (mz_H_cons (mz_H_tl (mz_H_tl hH)) (hS.2.1 _ _)) (by rw [List.map_cons, mz_v_i, hjn]))
  · obtain ⟨rfl, hg, h⟩ := h
    have hv : ov < 18 ∧ zv = mz_tl ov := mz_H_hd (mz_H_tl hH)
    have hT := (hCx.2.2.2.1.1 ov hv.1).2.2.2
    rw [mz_tl_at hv.1, ← hv.2] at hT
    refine va_tb (t := sV ov) hx hb hT hH.2.2.1 hin (v := .int (Int32.ofInt (mz_tc ov j.toNat))) ?_ hd (mz_K_at h hp h1 h2 h3 (mz_H_cons (mz_H_tl (mz_H_tl hH)) (mz_tc_w _ _)) rfl)
    rw [hjn, mz_tc_at hv.1 (by omega)]

theorem mz_s46 (hF : mz_F p R s m args meth c D cy sK sV vF β k) (hc : mz_ch1 k i 46 a b c9 x9 y9 = true) (h : mz_st1 (fun ls st σ => mz_gr σ σ0 ∧ mz_K p l e R s m args below meth c D cy sK sV vF β Q ade te se k (i + 1) ls st σ) call rt (46, a, b, c9, x9, y9) ls st σ) : mz_K p l e R s m args below meth c D cy sK sV vF β Q ade te se k i ls st σ := by
  obtain ⟨hx, hb, hr, hml, hown, hlk, hnm, hts, hCx, hfr, hlo⟩ := hF
  intro ad lsA H locs h1 h2 h3 hH
  have hA : ∀ q : Nat, s.heap.size ≤ q → (fun q : Nat => β ≤ q) q := fun q hq => Nat.le_trans hCx.2.2.2.2.2.2.2.1 hq
  have hS := hH.2.2.2.1
  rcases st with _ | ⟨j0, st⟩
  · exact False.elim h
  rcases j0 with j | w0
  case inr => exact False.elim h
  rcases st with _ | ⟨v0, st⟩
  · exact False.elim h
  rcases v0 with w0 | _ | ⟨tv, zv, ov⟩
  case inl => exact False.elim h
  case inr.none => exact False.elim h
  have h : (103 ≤ tv ∧ tv ≤ 105) ∧ (0 ≤ j ∧ j < zv) ∧ σ.2.2.1 ov j.toNat = true ∧ (mz_gr σ σ0 ∧ mz_K p l e R s m args below meth c D cy sK sV vF β Q ade te se k (i + 1) ls (.inr (some ((mz_ar tv).1, 0, ov + ((mz_ar tv).2.1 + (mz_ar tv).2.2 * j.toNat))) :: st) σ) := h
  obtain ⟨ht, hj, hi, hg, h⟩ := h
  simp only [mz_ch1] at hc
  obtain ⟨hd, hp⟩ := mz_D_ok hc
  obtain ⟨hin, hjn⟩ := mz_inI (mz_H_hd hH) hj
  have ho := mz_wf_o (mz_H_hd (mz_H_tl hH)) (Or.inr (by omega))
  have he : (mz_ws ad cy σ)[ov]? = some (ad ov, .inl (cy (tv - 100), zv, .inr (.inr (.inr (.inr (mz_rw ad σ ov)))))) := by rw [mz_ws_at _ _ _ ho.1, mz_en_r ho.2 ht.1]
  rw [List.map_cons, List.map_cons, mz_v_o (Or.inr (by omega)), mz_v_i]
  have hn := hS.2.2.2.2.2 ov ho.1 (by rw [ho.2]; exact ht.1) (by rw [ho.2]; exact ht.2) j.toNat (by rw [ho.2]; show j.toNat < zv; omega) hi
  rw [ho.2] at hn
  have hrw : mz_rw ad σ ov j.toNat = some (ad (ov + ((mz_ar tv).2.1 + (mz_ar tv).2.2 * j.toNat))) := by
    unfold mz_rw
    rw [ho.2, if_pos ⟨by show j.toNat < zv; omega, hi⟩]
  refine va_aldq hx hb hCx.1 hH.1 ov (tv - 100) he (mz_tys_at ht) hin hd (mz_K_at h hp h1 h2 h3 (mz_H_cons (mz_H_tl (mz_H_tl hH)) (mz_of_wf hn.1 hS.1 hn.2)) ?_)
  rw [List.map_cons, hjn, hrw, mz_v_o (Or.inl (by have := mz_ar_lt ht; omega))]
  rfl

theorem mz_s47 (hF : mz_F p R s m args meth c D cy sK sV vF β k) (hc : mz_ch1 k i 47 a b c9 x9 y9 = true) (h : mz_st1 (fun ls st σ => mz_gr σ σ0 ∧ mz_K p l e R s m args below meth c D cy sK sV vF β Q ade te se k (i + 1) ls st σ) call rt (47, a, b, c9, x9, y9) ls st σ) : mz_K p l e R s m args below meth c D cy sK sV vF β Q ade te se k i ls st σ := by
  obtain ⟨hx, hb, hr, hml, hown, hlk, hnm, hts, hCx, hfr, hlo⟩ := hF
  intro ad lsA H locs h1 h2 h3 hH
  have hA : ∀ q : Nat, s.heap.size ≤ q → (fun q : Nat => β ≤ q) q := fun q hq => Nat.le_trans hCx.2.2.2.2.2.2.2.1 hq
  have hS := hH.2.2.2.1
  rcases st with _ | ⟨u0, st⟩
  · exact False.elim h
  rcases u0 with w0 | _ | ⟨tu, zu, ou⟩
  case inl => exact False.elim h
  case inr.none => exact False.elim h
  rcases st with _ | ⟨j0, st⟩
  · exact False.elim h
  rcases j0 with j | w0
  case inr => exact False.elim h
  rcases st with _ | ⟨v0, st⟩
  · exact False.elim h
  rcases v0 with w0 | _ | ⟨tv, zv, ov⟩
  case inl => exact False.elim h
  case inr.none => exact False.elim h
  have h : (103 ≤ tv ∧ tv ≤ 105) ∧ (0 ≤ j ∧ j < zv) ∧ (tu = (mz_ar tv).1 ∧ zu = 0 ∧ ou = ov + ((mz_ar tv).2.1 + (mz_ar tv).2.2 * j.toNat)) ∧ (mz_gr (σ.1, σ.2.1, mz_iu σ.2.2.1 ov j.toNat, σ.2.2.2) σ0 ∧ mz_K p l e R s m args below meth c D cy sK sV vF β Q ade te se k (i + 1) ls st (σ.1, σ.2.1, mz_iu σ.2.2.1 ov j.toNat, σ.2.2.2)) := h
  obtain ⟨ht, hj, ⟨htu, hzu, hou⟩, hg, h⟩ := h
  simp only [mz_ch1] at hc
  obtain ⟨hd, hp⟩ := mz_D_ok hc
  obtain ⟨hin, hjn⟩ := mz_inI (mz_H_hd (mz_H_tl hH)) hj
  have htl := mz_ar_lt ht
  have ho := mz_wf_o (mz_H_hd (mz_H_tl (mz_H_tl hH))) (Or.inr (by omega))
  have hou2 := mz_wf_o (mz_H_hd hH) (Or.inl (by omega))
  have he : (mz_ws ad cy σ)[ov]? = some (ad ov, .inl (cy (tv - 100), zv, .inr (.inr (.inr (.inr (mz_rw ad σ ov)))))) := by rw [mz_ws_at _ _ _ ho.1, mz_en_r ho.2 ht.1]
  have he2 : (mz_ws ad cy σ)[ou]? = some (ad ou, .inr (tu, (List.range (mz_nf tu)).map (mz_fv ad σ tu ou))) := by rw [mz_ws_at _ _ _ hou2.1, mz_en_o hou2.2 (by omega)]
  rw [List.map_cons, List.map_cons, List.map_cons, mz_v_o (t := tu) (Or.inl (by omega)), mz_v_o (t := tv) (Or.inr (by omega)), mz_v_i]
  refine va_astq hx hb hCx.1 hH.1 hH.2.1 hH.2.2.1 ov (tv - 100) ou tu (r := (mz_cn tu, mz_T tu, mz_nf tu)) he (by rw [htu]; exact mz_tys_at ht) he2 (mz_cl_at tu (by omega)) hin hd (fun H1 locs1 q1 q2 q3 => ?_)
  have hset : (mz_ws ad cy σ).set ov (ad ov, .inl (cy (tv - 100), zv, .inr (.inr (.inr (.inr (va_up (mz_rw ad σ ov) (Int32.ofInt j).toNatClampNeg (some (ad ou)))))))) = mz_ws ad cy (σ.1, σ.2.1, mz_iu σ.2.2.1 ov j.toNat, σ.2.2.2) := by
    refine mz_ws_set (σ' := (σ.1, σ.2.1, mz_iu σ.2.2.1 ov j.toNat, σ.2.2.2)) rfl ho.1 ?_ (fun q _ hq => mz_en_eq (fun _ => rfl) (fun j => mz_iu_ne hq) (fun _ => rfl))
    rw [mz_en_r ho.2 ht.1, hjn]
    congr 7
    funext q
    unfold va_up mz_rw mz_iu
    rw [ho.2]
    by_cases hq : q = j.toNat
    · subst hq
      simp only [and_self, if_true]
      rw [if_pos (by simp; omega), hou]
    · simp only [true_and, hq, if_false]
  rw [hset] at q1 q2
  refine mz_K_at h hp h1 h2 h3 (mz_H_mem (mz_H_tl (mz_H_tl (mz_H_tl hH))) rfl q1 q2 q3 (mz_wS_iu hS (fun u n f q => ?_) (fun _ _ => ?_))) rfl
  · have hB : ∀ t, 103 ≤ t ∧ t ≤ 105 → ∀ a, a < 100 → mz_fr t a = none := by
      intro t ht a ha
      have hC : ((List.range 3).all fun t => (List.range 100).all fun a => (mz_fr (103 + t) a).isNone) = true := by decide +kernel
      have := List.all_eq_true.mp (List.all_eq_true.mp hC (t - 103) (List.mem_range.mpr (by omega))) a (List.mem_range.mpr ha)
      rw [show 103 + (t - 103) = t by omega] at this
      simpa using this
    have hz : zv < 100 := by
      have hC : (mz_kdL.all fun q => decide (103 ≤ q.1 → q.2 < 100)) = true := by decide +kernel
      have h1 : mz_kd ov ∈ mz_kdL := by
        unfold mz_kd
        rw [List.getD_eq_getElem?_getD, List.getElem?_eq_getElem (by rw [mz_kd_len]; exact Nat.lt_of_lt_of_le ho.1 hS.1)]
        exact List.getElem_mem _
      have := List.all_eq_true.mp hC _ h1
      rw [ho.2, decide_eq_true_eq] at this
      exact this ht.1
    rw [ho.2] at q
    rw [hB tv ht j.toNat (by omega)] at q
    cases q
  · rw [ho.2]
    show ov + ((mz_ar tv).2.1 + (mz_ar tv).2.2 * j.toNat) < σ.1 ∧ mz_kd (ov + ((mz_ar tv).2.1 + (mz_ar tv).2.2 * j.toNat)) = ((mz_ar tv).1, 0)
    rw [← hou, ← htu, ← hzu]
    exact hou2

theorem mz_s48 (hF : mz_F p R s m args meth c D cy sK sV vF β k) (hc : mz_ch1 k i 48 a b c9 x9 y9 = true) (h : mz_st1 (fun ls st σ => mz_gr σ σ0 ∧ mz_K p l e R s m args below meth c D cy sK sV vF β Q ade te se k (i + 1) ls st σ) call rt (48, a, b, c9, x9, y9) ls st σ) : mz_K p l e R s m args below meth c D cy sK sV vF β Q ade te se k i ls st σ := by
  obtain ⟨hx, hb, hr, hml, hown, hlk, hnm, hts, hCx, hfr, hlo⟩ := hF
  intro ad lsA H locs h1 h2 h3 hH
  have hA : ∀ q : Nat, s.heap.size ≤ q → (fun q : Nat => β ≤ q) q := fun q hq => Nat.le_trans hCx.2.2.2.2.2.2.2.1 hq
  have hS := hH.2.2.2.1
  rcases st with _ | ⟨v0, st⟩
  · exact False.elim h
  rcases v0 with w0 | _ | ⟨tv, zv, ov⟩
  case inl => exact False.elim h
  case inr.none => exact False.elim h
  have h : ((100 ≤ tv ∧ tv ≤ 105) ∨ tv = 91) ∧ (mz_gr σ σ0 ∧ mz_K p l e R s m args below meth c D cy sK sV vF β Q ade te se k (i + 1) ls (.inl zv :: st) σ) := h
  obtain ⟨ht, hg, hN⟩ := h
  simp only [mz_ch1] at hc
  obtain ⟨hd, hp⟩ := mz_D_ok hc
  rcases ht with ht | rfl
  · have ho := mz_wf_o (mz_H_hd hH) (Or.inr (by omega))
    have hz := (mz_kd_ok (Nat.lt_of_lt_of_le ho.1 hS.1)).2
    rw [ho.2] at hz
    have hz : zv < 20000 := hz
    have he : ∃ x, (mz_ws ad cy σ)[ov]? = some (ad ov, .inl (cy (tv - 100), (zv, x))) := by
      rw [mz_ws_at _ _ _ ho.1]
      by_cases h3 : tv < 103
      · exact ⟨_, by rw [mz_en_a ho.2 ⟨ht.1, h3⟩]⟩
      · exact ⟨_, by rw [mz_en_r ho.2 (Nat.not_lt.mp h3)]⟩
    obtain ⟨x, he⟩ := he
    have hty : ∃ ty, (mz_tys cy)[tv - 100]? = some (cy (tv - 100), ty) := by
      rcases (show tv = 100 ∨ tv = 101 ∨ tv = 102 ∨ tv = 103 ∨ tv = 104 ∨ tv = 105 by omega) with rfl | rfl | rfl | rfl | rfl | rfl <;> exact ⟨_, rfl⟩
    obtain ⟨ty, hty⟩ := hty
    rw [List.map_cons, mz_v_o (Or.inr (by omega))]
    exact va_alen hx hb hCx.1 hH.1 ov (tv - 100) he hty (mz_nn zv) hd (mz_K_at hN hp h1 h2 h3 (mz_H_cons (mz_H_tl hH) (show mz_w zv by unfold mz_w; omega)) rfl)
  · have hv : ov < 18 ∧ zv = mz_tl ov := mz_H_hd hH
    have hT := (hCx.2.2.2.1.1 ov hv.1).2.2.2
    rw [mz_tl_at hv.1, ← hv.2] at hT
    have hw : mz_w (zv : Int) := by
      rw [hv.2]
      have hB : ∀ a, a < 18 → mz_tl a < 1000 := by decide +kernel
      have := hB ov hv.1
      unfold mz_w
      omega
    exact va_tlen (t := sV ov) hx hb hT hH.2.2.1 (mz_nn zv) hd (mz_K_at hN hp h1 h2 h3 (mz_H_cons (mz_H_tl hH) hw) rfl)

theorem mz_kd_lt {o : Nat} (h : (mz_kd o).1 ≠ 999) : o < 167 := by
  by_cases ho : o < 167
  · exact ho
  · exfalso
    apply h
    unfold mz_kd
    rw [List.getD_eq_getElem?_getD, List.getElem?_eq_none (by rw [mz_kd_len]; omega)]
    rfl
def mz_nw9 (σ : mz_S) (n : Nat) : mz_S := (σ.1 + 1, σ.2.1 + n, mz_if σ.2.2.1 σ.1, mz_zr σ.2.2.2 σ.1)
def mz_an (ad : Nat → Nat) (σ : mz_S) (q : Nat) : Nat → Nat := fun o => if o = σ.1 then q else ad o
theorem mz_an_lt {ad : Nat → Nat} {q o : Nat} (h : o < σ.1) : mz_an ad σ q o = ad o := by
  unfold mz_an
  rw [if_neg (by omega)]
theorem mz_wS_new {n : Nat} (h : mz_wS σ) (hk : (mz_kd σ.1).1 ≠ 999) : mz_wS (mz_nw9 σ n) := by
  have hlt := mz_kd_lt hk
  obtain ⟨q1, q2, q3, q4, q5, q6⟩ := h
  refine ⟨hlt, fun o k => ?_, fun o k hh => ?_, fun o k hh => ?_, fun o ho k t n' f hk2 hf hi => ?_, fun o ho ht1 ht2 k hk2 hi => ?_⟩
  · show mz_w (mz_zr σ.2.2.2 σ.1 o k)
    unfold mz_zr
    split
    · exact mz_w0
    · exact q2 _ _
  · show mz_zr σ.2.2.2 σ.1 o k = 0 ∨ mz_zr σ.2.2.2 σ.1 o k = 1
    unfold mz_zr
    split
    · exact Or.inl rfl
    · exact q3 _ _ hh
  · show -128 ≤ mz_zr σ.2.2.2 σ.1 o k ∧ mz_zr σ.2.2.2 σ.1 o k ≤ 127
    unfold mz_zr
    split
    · omega
    · exact q4 _ _ hh
  · have hi : mz_if σ.2.2.1 σ.1 o k = true := hi
    unfold mz_if at hi
    have ho : o < σ.1 + 1 := ho
    split at hi
    · simp at hi
    · obtain ⟨a1, a2⟩ := q5 o (by omega) k t n' f hk2 hf hi
      exact ⟨Nat.lt_succ_of_lt a1, a2⟩
  · have hi : mz_if σ.2.2.1 σ.1 o k = true := hi
    unfold mz_if at hi
    have ho : o < σ.1 + 1 := ho
    split at hi
    · simp at hi
    · obtain ⟨a1, a2⟩ := q6 o (by omega) ht1 ht2 k hk2 hi
      exact ⟨Nat.lt_succ_of_lt a1, a2⟩
theorem mz_en_new {ad : Nat → Nat} {q n o : Nat} (h : mz_wS σ) (ho : o < σ.1) : mz_en (mz_an ad σ q) cy (mz_nw9 σ n) o = mz_en ad cy σ o := by
  have hne : o ≠ σ.1 := by omega
  have em : ∀ k, (mz_nw9 σ n).2.2.2 o k = σ.2.2.2 o k := fun k => by show mz_zr σ.2.2.2 σ.1 o k = _; unfold mz_zr; rw [if_neg hne]
  have ei : ∀ k, (mz_nw9 σ n).2.2.1 o k = σ.2.2.1 o k := fun k => by show mz_if σ.2.2.1 σ.1 o k = _; unfold mz_if; rw [if_neg hne]
  unfold mz_en
  by_cases h1 : (mz_kd o).1 < 10
  · rw [if_pos h1, if_pos h1]
    congr 2
    apply List.map_congr_left
    intro k hk
    have hk := List.mem_range.mp hk
    unfold mz_fv
    rw [ei, em]
    cases hf : mz_fr (mz_kd o).1 k with
    | none => rfl
    | some x =>
      obtain ⟨t, n', f⟩ := x
      simp only
      by_cases hi : σ.2.2.1 o k = true
      · rw [if_pos hi, if_pos hi, mz_an_lt (h.2.2.2.2.1 o ho k t n' f hk hf hi).1]
      · rw [if_neg hi, if_neg hi]
  · rw [if_neg h1, if_neg h1]
    by_cases h2 : (mz_kd o).1 < 103
    · rw [if_pos h2, if_pos h2]
      simp only [em]
    · rw [if_neg h2, if_neg h2]
      congr 7
      funext k
      unfold mz_rw
      rw [ei]
      by_cases hi : k < (mz_kd o).2 ∧ σ.2.2.1 o k = true
      · have hk := (mz_kd_ok (Nat.lt_of_lt_of_le ho h.1)).1
        rw [if_pos hi, if_pos hi, mz_an_lt (h.2.2.2.2.2 o ho (by omega) (by omega) k hi.1 hi.2).1]
      · rw [if_neg hi, if_neg hi]
theorem mz_ws_new {ad : Nat → Nat} {q n : Nat} {e : va_E} (h : mz_wS σ) (he : mz_en (mz_an ad σ q) cy (mz_nw9 σ n) σ.1 = e) : mz_ws ad cy σ ++ [(q, e)] = mz_ws (mz_an ad σ q) cy (mz_nw9 σ n) := by
  unfold mz_ws
  show _ = (List.range (σ.1 + 1)).map _
  rw [List.range_succ, List.map_append]
  congr 1
  · apply List.map_congr_left
    intro o ho
    have ho := List.mem_range.mp ho
    rw [mz_en_new h ho, mz_an_lt ho]
  · rw [List.map_singleton, he]
    unfold mz_an
    rw [if_pos rfl]
theorem mz_H_new {s : State} {ad : Nat → Nat} {lsA : Array Slot} {H H1 : Heap} {locs locs1 : List Loc} {q n : Nat} (hH : mz_H s D cy sK sV vF β k ad σ ls st lsA H locs) (hk : (mz_kd σ.1).1 ≠ 999) (hP : va_P D vwCl (mz_ws (mz_an ad σ q) cy (mz_nw9 σ n)) H1) (hD : va_D (fun q => β ≤ q) (mz_ws (mz_an ad σ q) cy (mz_nw9 σ n))) (hS : va_S (fun q => β ≤ q) s.heap H1 locs1) :
    mz_H s D cy sK sV vF β k (mz_an ad σ q) (mz_nw9 σ n) ls st lsA H1 locs1 := by
  refine ⟨hP, hD, hS, mz_wS_new hH.2.2.2.1 hk, fun v hv => mz_wf_mono (Nat.le_succ _) (mz_H_wf hH hv), fun a v hv => mz_wf_mono (Nat.le_succ _) (mz_H_ls hH hv), ?_, hH.2.2.2.2.2.2.2⟩
  have h7 := hH.2.2.2.2.2.2.1
  refine ⟨h7.1, h7.2.1, fun z hz => ?_⟩
  obtain ⟨v, e1, e2⟩ := mz_lv_mem.mp hz
  rw [mz_v_ext (fun o ho => mz_an_lt ho) (mz_H_ls hH e1)] at e2
  exact h7.2.2 z (mz_lv_mem.mpr ⟨v, e1, e2⟩)
theorem mz_st_new {ad : Nat → Nat} {q : Nat} {s : State} {lsA : Array Slot} {H : Heap} {locs : List Loc} (hH : mz_H s D cy sK sV vF β k ad σ ls st lsA H locs) : st.map (mz_v (mz_an ad σ q) sK sV vF) = st.map (mz_v ad sK sV vF) :=
  List.map_congr_left fun v hv => mz_v_ext (fun o ho => mz_an_lt ho) (mz_H_wf hH hv)

theorem mz_s58 (hR : R.cells = σ0.1 - te ∧ R.slots = σ0.2.1 - se) (hF : mz_F p R s m args meth c D cy sK sV vF β k) (hc : mz_ch1 k i 58 a b c9 x9 y9 = true) (h : mz_st1 (fun ls st σ => mz_gr σ σ0 ∧ mz_K p l e R s m args below meth c D cy sK sV vF β Q ade te se k (i + 1) ls st σ) call rt (58, a, b, c9, x9, y9) ls st σ) : mz_K p l e R s m args below meth c D cy sK sV vF β Q ade te se k i ls st σ := by
  obtain ⟨hx, hb, hr, hml, hown, hlk, hnm, hts, hCx, hfr, hlo⟩ := hF
  intro ad lsA H locs h1 h2 h3 hH
  have hA : ∀ q : Nat, s.heap.size ≤ q → (fun q : Nat => β ≤ q) q := fun q hq => Nat.le_trans hCx.2.2.2.2.2.2.2.1 hq
  have hS := hH.2.2.2.1
  have h : mz_kd σ.1 = (a, 0) ∧ (mz_gr (mz_nw9 σ (mz_nf a)) σ0 ∧ mz_K p l e R s m args below meth c D cy sK sV vF β Q ade te se k (i + 1) ls (.inr (some (a, 0, σ.1)) :: st) (mz_nw9 σ (mz_nf a))) := h
  obtain ⟨hkd, hg, h⟩ := h
  simp only [mz_ch1, Bool.and_eq_true, decide_eq_true_eq] at hc
  obtain ⟨⟨hc, hw⟩, ha⟩ := hc
  obtain ⟨hd, hp⟩ := mz_D_ok hc
  have hw9 : mz_wf (mz_nw9 σ (mz_nf a)) (.inr (some (a, 0, σ.1))) := mz_of_wf (Nat.lt_succ_self _) (mz_wS_new (n := (mz_nf a)) hS (by rw [hkd]; show a ≠ 999; omega)).1 hkd
  have hc9 : ∀ q, (.inr (some (a, 0, σ.1)) :: st).map (mz_v (mz_an ad σ q) sK sV vF) = .ref q :: st.map (mz_v ad sK sV vF) := fun q => by
    rw [List.map_cons, mz_st_new hH, mz_v_o (by omega)]
    unfold mz_an
    rw [if_pos rfl]
  have hg1 : σ.1 + 1 ≤ σ0.1 := hg.1
  have hg2 : σ.2.1 + (mz_nf a) ≤ σ0.2.1 := hg.2
  have ec : σ.1 - te + 1 = (mz_nw9 σ (mz_nf a)).1 - te := by show _ = σ.1 + 1 - te; omega
  have es : σ.2.1 - se + (mz_nf a) = (mz_nw9 σ (mz_nf a)).2.1 - se := by show _ = σ.2.1 + (mz_nf a) - se; omega
  refine va_new hx hb hts (mz_hin ha) (mz_ty a) (mz_hty ha) hown (hts _ (mz_W_ok hw)) (hts _ (mz_ins ha).1) (hts _ (mz_ins ha).2) hCx.1 hH.1 hH.2.1 hH.2.2.1 hA (mz_cl_at a ha) (fs := (List.range (mz_nf a)).map (fun j => defaultValue (mz_ty a j))) (fun j hj => by simp [vp_V, List.getD_eq_getElem?_getD, hj]) (by rw [hR.1]; omega) (by rw [hR.2]; omega) hd (fun q H1 q1 q2 q3 => ?_)
  have hset : mz_ws ad cy σ ++ [(q, .inr (a, (List.range (mz_nf a)).map (fun j => defaultValue (mz_ty a j))))] = mz_ws (mz_an ad σ q) cy (mz_nw9 σ (mz_nf a)) := by
    refine mz_ws_new hS ?_
    rw [mz_en_o hkd ha]
    congr 2
    apply List.map_congr_left
    intro j hj
    have hj := List.mem_range.mp hj
    unfold mz_fv
    show (match mz_fr a j with | some (_, _, f) => if mz_if σ.2.2.1 σ.1 σ.1 j = true then _ else _ | none => Value.int (Int32.ofInt (mz_zr σ.2.2.2 σ.1 σ.1 j))) = _
    unfold mz_if mz_zr
    cases hf : mz_fr a j with
    | none => simp only [if_true]; rw [mz_tyI ha hj hf]; rfl
    | some x =>
      obtain ⟨t, n', f⟩ := x
      simp only [if_true]
      rcases mz_tyR ha hj (by rw [hf]; rfl) with ⟨n, hn⟩ | ⟨n, hn⟩ <;> rw [hn] <;> rfl
  rw [hset] at q1 q2
  rw [ec, es]
  exact mz_K_at h hp (fun o ho => by rw [mz_an_lt (Nat.lt_of_lt_of_le ho h2)]; exact h1 o ho) (Nat.le_succ_of_le h2) (Nat.le_trans h3 (Nat.le_add_right _ _)) (mz_H_cons (mz_H_new hH (by rw [hkd]; show a ≠ 999; omega) q1 q2 q3) hw9) (hc9 q)

theorem mz_s59 (hR : R.cells = σ0.1 - te ∧ R.slots = σ0.2.1 - se) (hF : mz_F p R s m args meth c D cy sK sV vF β k) (hc : mz_ch1 k i 59 a b c9 x9 y9 = true) (h : mz_st1 (fun ls st σ => mz_gr σ σ0 ∧ mz_K p l e R s m args below meth c D cy sK sV vF β Q ade te se k (i + 1) ls st σ) call rt (59, a, b, c9, x9, y9) ls st σ) : mz_K p l e R s m args below meth c D cy sK sV vF β Q ade te se k i ls st σ := by
  obtain ⟨hx, hb, hr, hml, hown, hlk, hnm, hts, hCx, hfr, hlo⟩ := hF
  intro ad lsA H locs h1 h2 h3 hH
  have hA : ∀ q : Nat, s.heap.size ≤ q → (fun q : Nat => β ≤ q) q := fun q hq => Nat.le_trans hCx.2.2.2.2.2.2.2.1 hq
  have hS := hH.2.2.2.1
  rcases st with _ | ⟨u0, st⟩
  · exact False.elim h
  rcases u0 with u | w0
  case inr => exact False.elim h
  have h : (0 ≤ u ∧ u ≤ 100000) ∧ mz_kd σ.1 = (100, u.toNat) ∧ (mz_gr (mz_nw9 σ u.toNat) σ0 ∧ mz_K p l e R s m args below meth c D cy sK sV vF β Q ade te se k (i + 1) ls (.inr (some (100, u.toNat, σ.1)) :: st) (mz_nw9 σ u.toNat)) := h
  obtain ⟨hu, hkd, hg, h⟩ := h
  simp only [mz_ch1] at hc
  have hH9 := hH
  have hH := mz_H_tl hH
  obtain ⟨hd, hp⟩ := mz_D_ok hc
  have hw9 : mz_wf (mz_nw9 σ u.toNat) (.inr (some (100, u.toNat, σ.1))) := mz_of_wf (Nat.lt_succ_self _) (mz_wS_new (n := u.toNat) hS (by rw [hkd]; show 100 ≠ 999; omega)).1 hkd
  have hc9 : ∀ q, (.inr (some (100, u.toNat, σ.1)) :: st).map (mz_v (mz_an ad σ q) sK sV vF) = .ref q :: st.map (mz_v ad sK sV vF) := fun q => by
    rw [List.map_cons, mz_st_new hH, mz_v_o (by omega)]
    unfold mz_an
    rw [if_pos rfl]
  have hg1 : σ.1 + 1 ≤ σ0.1 := hg.1
  have hg2 : σ.2.1 + u.toNat ≤ σ0.2.1 := hg.2
  have ec : σ.1 - te + 1 = (mz_nw9 σ u.toNat).1 - te := by show _ = σ.1 + 1 - te; omega
  have es : σ.2.1 - se + u.toNat = (mz_nw9 σ u.toNat).2.1 - se := by show _ = σ.2.1 + u.toNat - se; omega
  rw [List.map_cons, mz_v_i]
  have eu : (Int32.ofInt u).toInt = u := mz_t (mz_H_hd hH9)
  refine va_newa (atype := .int) (ty := .int) hx hb (hts _ mz_wd0) rfl hCx.1 hH.1 hH.2.1 hH.2.2.1 hA (N' := u.toNat) (a0 := (u.toNat, .inl (fun _ => 0))) (fun cA => by rw [vp_cell_i]; rfl) (by rw [Int32.lt_iff_toInt_lt, eu]; show ¬ u < 0; omega) (by show (Int32.ofInt u).toInt.toNat = _; rw [eu]) (by show u.toNat * _ ≤ _; simp [componentBytes]; omega) (by rw [hR.1]; omega) (by rw [hR.2]; omega) hd (fun q cA H1 q0 q1 q2 q3 => ?_)
  have hcA : cA = cy 0 := by
    have e1 := (q0.2 6 (cA, .int) rfl).2
    have e2 := (hCx.1.2 0 (cy 0, .int) rfl).2
    exact Option.some.inj (e1.symm.trans e2)
  subst hcA
  have hset : mz_ws ad cy σ ++ [(q, .inl (cy 0, (u.toNat, .inl (fun _ => 0))))] = mz_ws (mz_an ad σ q) cy (mz_nw9 σ u.toNat) := by
    refine mz_ws_new hS ?_
    rw [mz_en_a hkd (by omega)]
    congr 4
    funext j
    show Int32.ofInt (mz_zr σ.2.2.2 σ.1 σ.1 j) = 0
    unfold mz_zr
    rw [if_pos rfl]
    rfl
  rw [hset] at q1 q2
  rw [ec, es]
  exact mz_K_at h hp (fun o ho => by rw [mz_an_lt (Nat.lt_of_lt_of_le ho h2)]; exact h1 o ho) (Nat.le_succ_of_le h2) (Nat.le_trans h3 (Nat.le_add_right _ _)) (mz_H_cons (mz_H_new hH (by rw [hkd]; simp) q1 q2 q3) hw9) (hc9 q)

theorem mz_s60 (hR : R.cells = σ0.1 - te ∧ R.slots = σ0.2.1 - se) (hF : mz_F p R s m args meth c D cy sK sV vF β k) (hc : mz_ch1 k i 60 a b c9 x9 y9 = true) (h : mz_st1 (fun ls st σ => mz_gr σ σ0 ∧ mz_K p l e R s m args below meth c D cy sK sV vF β Q ade te se k (i + 1) ls st σ) call rt (60, a, b, c9, x9, y9) ls st σ) : mz_K p l e R s m args below meth c D cy sK sV vF β Q ade te se k i ls st σ := by
  obtain ⟨hx, hb, hr, hml, hown, hlk, hnm, hts, hCx, hfr, hlo⟩ := hF
  intro ad lsA H locs h1 h2 h3 hH
  have hA : ∀ q : Nat, s.heap.size ≤ q → (fun q : Nat => β ≤ q) q := fun q hq => Nat.le_trans hCx.2.2.2.2.2.2.2.1 hq
  have hS := hH.2.2.2.1
  rcases st with _ | ⟨u0, st⟩
  · exact False.elim h
  rcases u0 with u | w0
  case inr => exact False.elim h
  have h : (0 ≤ u ∧ u ≤ 100000) ∧ mz_kd σ.1 = (101, u.toNat) ∧ (mz_gr (mz_nw9 σ u.toNat) σ0 ∧ mz_K p l e R s m args below meth c D cy sK sV vF β Q ade te se k (i + 1) ls (.inr (some (101, u.toNat, σ.1)) :: st) (mz_nw9 σ u.toNat)) := h
  obtain ⟨hu, hkd, hg, h⟩ := h
  simp only [mz_ch1] at hc
  have hH9 := hH
  have hH := mz_H_tl hH
  obtain ⟨hd, hp⟩ := mz_D_ok hc
  have hw9 : mz_wf (mz_nw9 σ u.toNat) (.inr (some (101, u.toNat, σ.1))) := mz_of_wf (Nat.lt_succ_self _) (mz_wS_new (n := u.toNat) hS (by rw [hkd]; show 101 ≠ 999; omega)).1 hkd
  have hc9 : ∀ q, (.inr (some (101, u.toNat, σ.1)) :: st).map (mz_v (mz_an ad σ q) sK sV vF) = .ref q :: st.map (mz_v ad sK sV vF) := fun q => by
    rw [List.map_cons, mz_st_new hH, mz_v_o (by omega)]
    unfold mz_an
    rw [if_pos rfl]
  have hg1 : σ.1 + 1 ≤ σ0.1 := hg.1
  have hg2 : σ.2.1 + u.toNat ≤ σ0.2.1 := hg.2
  have ec : σ.1 - te + 1 = (mz_nw9 σ u.toNat).1 - te := by show _ = σ.1 + 1 - te; omega
  have es : σ.2.1 - se + u.toNat = (mz_nw9 σ u.toNat).2.1 - se := by show _ = σ.2.1 + u.toNat - se; omega
  rw [List.map_cons, mz_v_i]
  have eu : (Int32.ofInt u).toInt = u := mz_t (mz_H_hd hH9)
  refine va_newa (atype := .boolean) (ty := .boolean) hx hb (hts _ mz_wd1) rfl hCx.1 hH.1 hH.2.1 hH.2.2.1 hA (N' := u.toNat) (a0 := (u.toNat, .inl (fun _ => 0))) (fun cA => by rw [vp_cell_i]; rfl) (by rw [Int32.lt_iff_toInt_lt, eu]; show ¬ u < 0; omega) (by show (Int32.ofInt u).toInt.toNat = _; rw [eu]) (by show u.toNat * _ ≤ _; simp [componentBytes]; omega) (by rw [hR.1]; omega) (by rw [hR.2]; omega) hd (fun q cA H1 q0 q1 q2 q3 => ?_)
  have hcA : cA = cy 1 := by
    have e1 := (q0.2 6 (cA, .boolean) rfl).2
    have e2 := (hCx.1.2 1 (cy 1, .boolean) rfl).2
    exact Option.some.inj (e1.symm.trans e2)
  subst hcA
  have hset : mz_ws ad cy σ ++ [(q, .inl (cy 1, (u.toNat, .inl (fun _ => 0))))] = mz_ws (mz_an ad σ q) cy (mz_nw9 σ u.toNat) := by
    refine mz_ws_new hS ?_
    rw [mz_en_a hkd (by omega)]
    congr 4
    funext j
    show Int32.ofInt (mz_zr σ.2.2.2 σ.1 σ.1 j) = 0
    unfold mz_zr
    rw [if_pos rfl]
    rfl
  rw [hset] at q1 q2
  rw [ec, es]
  exact mz_K_at h hp (fun o ho => by rw [mz_an_lt (Nat.lt_of_lt_of_le ho h2)]; exact h1 o ho) (Nat.le_succ_of_le h2) (Nat.le_trans h3 (Nat.le_add_right _ _)) (mz_H_cons (mz_H_new hH (by rw [hkd]; simp) q1 q2 q3) hw9) (hc9 q)

theorem mz_s61 (hR : R.cells = σ0.1 - te ∧ R.slots = σ0.2.1 - se) (hF : mz_F p R s m args meth c D cy sK sV vF β k) (hc : mz_ch1 k i 61 a b c9 x9 y9 = true) (h : mz_st1 (fun ls st σ => mz_gr σ σ0 ∧ mz_K p l e R s m args below meth c D cy sK sV vF β Q ade te se k (i + 1) ls st σ) call rt (61, a, b, c9, x9, y9) ls st σ) : mz_K p l e R s m args below meth c D cy sK sV vF β Q ade te se k i ls st σ := by
  obtain ⟨hx, hb, hr, hml, hown, hlk, hnm, hts, hCx, hfr, hlo⟩ := hF
  intro ad lsA H locs h1 h2 h3 hH
  have hA : ∀ q : Nat, s.heap.size ≤ q → (fun q : Nat => β ≤ q) q := fun q hq => Nat.le_trans hCx.2.2.2.2.2.2.2.1 hq
  have hS := hH.2.2.2.1
  rcases st with _ | ⟨u0, st⟩
  · exact False.elim h
  rcases u0 with u | w0
  case inr => exact False.elim h
  have h : (0 ≤ u ∧ u ≤ 100000) ∧ mz_kd σ.1 = (102, u.toNat) ∧ (mz_gr (mz_nw9 σ u.toNat) σ0 ∧ mz_K p l e R s m args below meth c D cy sK sV vF β Q ade te se k (i + 1) ls (.inr (some (102, u.toNat, σ.1)) :: st) (mz_nw9 σ u.toNat)) := h
  obtain ⟨hu, hkd, hg, h⟩ := h
  simp only [mz_ch1] at hc
  have hH9 := hH
  have hH := mz_H_tl hH
  obtain ⟨hd, hp⟩ := mz_D_ok hc
  have hw9 : mz_wf (mz_nw9 σ u.toNat) (.inr (some (102, u.toNat, σ.1))) := mz_of_wf (Nat.lt_succ_self _) (mz_wS_new (n := u.toNat) hS (by rw [hkd]; show 102 ≠ 999; omega)).1 hkd
  have hc9 : ∀ q, (.inr (some (102, u.toNat, σ.1)) :: st).map (mz_v (mz_an ad σ q) sK sV vF) = .ref q :: st.map (mz_v ad sK sV vF) := fun q => by
    rw [List.map_cons, mz_st_new hH, mz_v_o (by omega)]
    unfold mz_an
    rw [if_pos rfl]
  have hg1 : σ.1 + 1 ≤ σ0.1 := hg.1
  have hg2 : σ.2.1 + u.toNat ≤ σ0.2.1 := hg.2
  have ec : σ.1 - te + 1 = (mz_nw9 σ u.toNat).1 - te := by show _ = σ.1 + 1 - te; omega
  have es : σ.2.1 - se + u.toNat = (mz_nw9 σ u.toNat).2.1 - se := by show _ = σ.2.1 + u.toNat - se; omega
  rw [List.map_cons, mz_v_i]
  have eu : (Int32.ofInt u).toInt = u := mz_t (mz_H_hd hH9)
  refine va_newa (atype := .byte) (ty := .byte) hx hb (hts _ mz_wd2) rfl hCx.1 hH.1 hH.2.1 hH.2.2.1 hA (N' := u.toNat) (a0 := (u.toNat, .inl (fun _ => 0))) (fun cA => by rw [vp_cell_i]; rfl) (by rw [Int32.lt_iff_toInt_lt, eu]; show ¬ u < 0; omega) (by show (Int32.ofInt u).toInt.toNat = _; rw [eu]) (by show u.toNat * _ ≤ _; simp [componentBytes]; omega) (by rw [hR.1]; omega) (by rw [hR.2]; omega) hd (fun q cA H1 q0 q1 q2 q3 => ?_)
  have hcA : cA = cy 2 := by
    have e1 := (q0.2 6 (cA, .byte) rfl).2
    have e2 := (hCx.1.2 2 (cy 2, .byte) rfl).2
    exact Option.some.inj (e1.symm.trans e2)
  subst hcA
  have hset : mz_ws ad cy σ ++ [(q, .inl (cy 2, (u.toNat, .inl (fun _ => 0))))] = mz_ws (mz_an ad σ q) cy (mz_nw9 σ u.toNat) := by
    refine mz_ws_new hS ?_
    rw [mz_en_a hkd (by omega)]
    congr 4
    funext j
    show Int32.ofInt (mz_zr σ.2.2.2 σ.1 σ.1 j) = 0
    unfold mz_zr
    rw [if_pos rfl]
    rfl
  rw [hset] at q1 q2
  rw [ec, es]
  exact mz_K_at h hp (fun o ho => by rw [mz_an_lt (Nat.lt_of_lt_of_le ho h2)]; exact h1 o ho) (Nat.le_succ_of_le h2) (Nat.le_trans h3 (Nat.le_add_right _ _)) (mz_H_cons (mz_H_new hH (by rw [hkd]; simp) q1 q2 q3) hw9) (hc9 q)

theorem mz_s62 (hR : R.cells = σ0.1 - te ∧ R.slots = σ0.2.1 - se) (hF : mz_F p R s m args meth c D cy sK sV vF β k) (hc : mz_ch1 k i 62 a b c9 x9 y9 = true) (h : mz_st1 (fun ls st σ => mz_gr σ σ0 ∧ mz_K p l e R s m args below meth c D cy sK sV vF β Q ade te se k (i + 1) ls st σ) call rt (62, a, b, c9, x9, y9) ls st σ) : mz_K p l e R s m args below meth c D cy sK sV vF β Q ade te se k i ls st σ := by
  obtain ⟨hx, hb, hr, hml, hown, hlk, hnm, hts, hCx, hfr, hlo⟩ := hF
  intro ad lsA H locs h1 h2 h3 hH
  have hA : ∀ q : Nat, s.heap.size ≤ q → (fun q : Nat => β ≤ q) q := fun q hq => Nat.le_trans hCx.2.2.2.2.2.2.2.1 hq
  have hS := hH.2.2.2.1
  rcases st with _ | ⟨u0, st⟩
  · exact False.elim h
  rcases u0 with u | w0
  case inr => exact False.elim h
  have h : (103 ≤ a ∧ a ≤ 105) ∧ (0 ≤ u ∧ u ≤ 100000) ∧ mz_kd σ.1 = (a, u.toNat) ∧ (mz_gr (mz_nw9 σ u.toNat) σ0 ∧ mz_K p l e R s m args below meth c D cy sK sV vF β Q ade te se k (i + 1) ls (.inr (some (a, u.toNat, σ.1)) :: st) (mz_nw9 σ u.toNat)) := h
  obtain ⟨ha, hu, hkd, hg, h⟩ := h
  simp only [mz_ch1, Bool.and_eq_true] at hc
  obtain ⟨hc, hw⟩ := hc
  have hH9 := hH
  have hH := mz_H_tl hH
  obtain ⟨hd, hp⟩ := mz_D_ok hc
  have hw9 : mz_wf (mz_nw9 σ u.toNat) (.inr (some (a, u.toNat, σ.1))) := mz_of_wf (Nat.lt_succ_self _) (mz_wS_new (n := u.toNat) hS (by rw [hkd]; show a ≠ 999; omega)).1 hkd
  have hc9 : ∀ q, (.inr (some (a, u.toNat, σ.1)) :: st).map (mz_v (mz_an ad σ q) sK sV vF) = .ref q :: st.map (mz_v ad sK sV vF) := fun q => by
    rw [List.map_cons, mz_st_new hH, mz_v_o (by omega)]
    unfold mz_an
    rw [if_pos rfl]
  have hg1 : σ.1 + 1 ≤ σ0.1 := hg.1
  have hg2 : σ.2.1 + u.toNat ≤ σ0.2.1 := hg.2
  have ec : σ.1 - te + 1 = (mz_nw9 σ u.toNat).1 - te := by show _ = σ.1 + 1 - te; omega
  have es : σ.2.1 - se + u.toNat = (mz_nw9 σ u.toNat).2.1 - se := by show _ = σ.2.1 + u.toNat - se; omega
  rw [List.map_cons, mz_v_i]
  have eu : (Int32.ofInt u).toInt = u := mz_t (mz_H_hd hH9)
  have hAO : va_AO (mz_cn (mz_ar a).1) s := by
    rcases (show a = 103 ∨ a = 104 ∨ a = 105 by omega) with rfl | rfl | rfl
    · exact hCx.2.2.2.2.2.2.2.2.1
    · exact hCx.2.2.2.2.2.2.2.2.2.1
    · exact hCx.2.2.2.2.2.2.2.2.2.2
  refine va_newq hx hb hown (hts _ (mz_W_ok hw)) hAO hCx.1 hH.1 hH.2.1 hH.2.2.1 hA (N' := u.toNat) (by rw [Int32.lt_iff_toInt_lt, eu]; show ¬ u < 0; omega) (by show (Int32.ofInt u).toInt.toNat = _; rw [eu]) (by omega) (by rw [hR.1]; omega) (by rw [hR.2]; omega) hd (fun q cA H1 q0 q1 q2 q3 => ?_)
  have hcA : cA = cy (a - 100) := by
    obtain ⟨kA, comp, -, -, -, e1⟩ := (q0.2 6 (cA, .object (mz_cn (mz_ar a).1)) rfl).2
    obtain ⟨kA', comp', -, -, -, e2⟩ := (hCx.1.2 (a - 100) (cy (a - 100), .object (mz_cn (mz_ar a).1)) (mz_tys_at ha)).2
    exact Option.some.inj (e1.symm.trans e2)
  subst hcA
  have hset : mz_ws ad cy σ ++ [(q, .inl (cy (a - 100), u.toNat, .inr (.inr (.inr (.inr (fun _ => none))))))] = mz_ws (mz_an ad σ q) cy (mz_nw9 σ u.toNat) := by
    refine mz_ws_new hS ?_
    rw [mz_en_r hkd ha.1]
    congr 7
    funext j
    unfold mz_rw
    rw [if_neg]
    rintro ⟨-, q⟩
    have q : mz_if σ.2.2.1 σ.1 σ.1 j = true := q
    unfold mz_if at q
    rw [if_pos rfl] at q
    cases q
  rw [hset] at q1 q2
  rw [ec, es]
  exact mz_K_at h hp (fun o ho => by rw [mz_an_lt (Nat.lt_of_lt_of_le ho h2)]; exact h1 o ho) (Nat.le_succ_of_le h2) (Nat.le_trans h3 (Nat.le_add_right _ _)) (mz_H_cons (mz_H_new hH (by rw [hkd]; show a ≠ 999; omega) q1 q2 q3) hw9) (hc9 q)

end Sn5
end
section
section Sn6
variable {p : Program} {l : Launch} {e : Env} {R : Room} {s : State} {m : MethodId} {args : Array Value} {below : List Frame} {meth : Method} {c : Code} {D : va_G} {cy : Nat → ClassId} {sK sV : Nat → Nat} {vF : Value} {β : Nat} {Q : State → Prop} {ade : Nat → Nat} {te se : Nat} {k i a c9 x9 y9 : Nat} {b : Int} {σ σ0 : mz_S} {ls : mz_Ls} {st : List mz_V} {call : Nat → List mz_V → mz_S → (Option mz_V → mz_S → Prop) → Prop} {rt : Option mz_V → mz_S → Prop}
theorem mz_cats (hF : vF = .null ∨ ∃ a, vF = .ref a) (ad : Nat → Nat) : ((st.map (mz_v ad sK sV vF)).map fun v => v.category).sum = st.length := by
  induction st with
  | nil => rfl
  | cons v st ih =>
    rw [List.map_cons, List.map_cons, List.sum_cons, ih, mz_cat hF, List.length_cons]
    omega

theorem mz_s63 (hR : R.cells = σ0.1 - te ∧ R.slots = σ0.2.1 - se) (hF : mz_F p R s m args meth c D cy sK sV vF β k) (hc : mz_ch1 k i 63 a b c9 x9 y9 = true) (h : mz_st1 (fun ls st σ => mz_gr σ σ0 ∧ mz_K p l e R s m args below meth c D cy sK sV vF β Q ade te se k (i + 1) ls st σ) call rt (63, a, b, c9, x9, y9) ls st σ) : mz_K p l e R s m args below meth c D cy sK sV vF β Q ade te se k i ls st σ := by
  obtain ⟨hx, hb, hr, hml, hown, hlk, hnm, hts, hCx, hfr, hlo⟩ := hF
  intro ad lsA H locs h1 h2 h3 hH
  have hA : ∀ q : Nat, s.heap.size ≤ q → (fun q : Nat => β ≤ q) q := fun q hq => Nat.le_trans hCx.2.2.2.2.2.2.2.1 hq
  have hS := hH.2.2.2.1
  rcases st with _ | ⟨v0, st⟩
  · exact False.elim h
  rcases v0 with w0 | _ | ⟨tv, zv, ov⟩
  case inl => exact False.elim h
  case inr.none => exact False.elim h
  have h : tv < 10 ∧ st.length ≤ 8 ∧ (mz_gr σ σ0 ∧ mz_K p l e R s m args below meth c D cy sK sV vF β Q ade te se k (i + 1) ls st σ) := h
  obtain ⟨ht, hlen, hg, h⟩ := h
  simp only [mz_ch1, Bool.and_eq_true, decide_eq_true_eq] at hc
  obtain ⟨⟨hc, hw⟩, h1d⟩ := hc
  obtain ⟨hd, hp⟩ := mz_D_ok hc
  rw [List.map_cons, mz_v_o (Or.inl (by omega))]
  exact W.objInit hx hb hown (hts _ (mz_W_ok hw)) (hts _ mz_wd3) (hts _ mz_wd4) rfl (by rw [hml]; exact hH.2.2.2.2.2.2.1.1) rfl hd (by omega) (by rw [mz_cats hCx.2.2.2.2.2.2.1]; show 2 * 0 + st.length + 12 ≤ R.locals; omega) (mz_K_at h hp h1 h2 h3 (mz_H_tl hH) rfl)

theorem mz_wS_cp {o0 o1 n : Nat} (h : mz_wS σ) (hk : (mz_kd o1).1 = 100) : mz_wS (σ.1, σ.2.1, σ.2.2.1, mz_cp σ.2.2.2 o0 o1 n) := by
  obtain ⟨q1, q2, q3, q4, q5, q6⟩ := h
  refine ⟨q1, fun o k => ?_, fun o k hh => ?_, fun o k hh => ?_, q5, q6⟩
  · show mz_w (mz_cp σ.2.2.2 o0 o1 n o k)
    unfold mz_cp
    split <;> exact q2 _ _
  · show mz_cp σ.2.2.2 o0 o1 n o k = 0 ∨ mz_cp σ.2.2.2 o0 o1 n o k = 1
    unfold mz_cp
    split
    · rename_i hq; rw [hq.1, hk] at hh; cases hh
    · exact q3 _ _ hh
  · show -128 ≤ mz_cp σ.2.2.2 o0 o1 n o k ∧ mz_cp σ.2.2.2 o0 o1 n o k ≤ 127
    unfold mz_cp
    split
    · rename_i hq; rw [hq.1, hk] at hh; cases hh
    · exact q4 _ _ hh

theorem mz_s64 (hR : R.cells = σ0.1 - te ∧ R.slots = σ0.2.1 - se) (hF : mz_F p R s m args meth c D cy sK sV vF β k) (hc : mz_ch1 k i 64 a b c9 x9 y9 = true) (h : mz_st1 (fun ls st σ => mz_gr σ σ0 ∧ mz_K p l e R s m args below meth c D cy sK sV vF β Q ade te se k (i + 1) ls st σ) call rt (64, a, b, c9, x9, y9) ls st σ) : mz_K p l e R s m args below meth c D cy sK sV vF β Q ade te se k i ls st σ := by
  obtain ⟨hx, hb, hr, hml, hown, hlk, hnm, hts, hCx, hfr, hlo⟩ := hF
  intro ad lsA H locs h1 h2 h3 hH
  have hA : ∀ q : Nat, s.heap.size ≤ q → (fun q : Nat => β ≤ q) q := fun q hq => Nat.le_trans hCx.2.2.2.2.2.2.2.1 hq
  have hS := hH.2.2.2.1
  rcases st with _ | ⟨u0, st⟩
  · exact False.elim h
  rcases u0 with u | w0
  case inr => exact False.elim h
  rcases st with _ | ⟨dp0, st⟩
  · exact False.elim h
  rcases dp0 with dp | w0
  case inr => exact False.elim h
  rcases st with _ | ⟨v0, st⟩
  · exact False.elim h
  rcases v0 with w0 | _ | ⟨tv, zv, ov⟩
  case inl => exact False.elim h
  case inr.none => exact False.elim h
  rcases st with _ | ⟨sp0, st⟩
  · exact False.elim h
  rcases sp0 with sp | w0
  case inr => exact False.elim h
  rcases st with _ | ⟨w0, st⟩
  · exact False.elim h
  rcases w0 with w0 | _ | ⟨tw, zw, ow⟩
  case inl => exact False.elim h
  case inr.none => exact False.elim h
  have h : (tw = 100 ∧ tv = 100 ∧ sp = 0 ∧ dp = 0) ∧ (0 ≤ u ∧ u ≤ zw ∧ u ≤ zv) ∧ st.length ≤ 8 ∧ (mz_gr (σ.1, σ.2.1, σ.2.2.1, mz_cp σ.2.2.2 ow ov u.toNat) σ0 ∧ mz_K p l e R s m args below meth c D cy sK sV vF β Q ade te se k (i + 1) ls st (σ.1, σ.2.1, σ.2.2.1, mz_cp σ.2.2.2 ow ov u.toNat)) := h
  obtain ⟨⟨htw, htv, rfl, rfl⟩, ⟨hu0, hu1, hu2⟩, hlen, hg, hN⟩ := h
  subst htw
  subst htv
  simp only [mz_ch1, Bool.and_eq_true, decide_eq_true_eq] at hc
  obtain ⟨⟨hc, hw⟩, h1d⟩ := hc
  obtain ⟨hd, hp⟩ := mz_D_ok hc
  have hu := mz_wf_o (mz_H_hd (mz_H_tl (mz_H_tl hH))) (Or.inr (by omega))
  have hw2 := mz_wf_o (mz_H_hd (mz_H_tl (mz_H_tl (mz_H_tl (mz_H_tl hH))))) (Or.inr (by omega))
  have he1 : (mz_ws ad cy σ)[ov]? = some (ad ov, .inl (cy 0, zv, .inl (fun k => Int32.ofInt (σ.2.2.2 ov k)))) := by rw [mz_ws_at _ _ _ hu.1, mz_en_a hu.2 (by omega)]
  have he0 : (mz_ws ad cy σ)[ow]? = some (ad ow, .inl (cy 0, zw, .inl (fun k => Int32.ofInt (σ.2.2.2 ow k)))) := by rw [mz_ws_at _ _ _ hw2.1, mz_en_a hw2.2 (by omega)]
  have eu : (Int32.ofInt u).toInt = u := mz_t (mz_H_hd hH)
  have e0 : (Int32.ofInt 0).toNatClampNeg = 0 := by decide
  have eun : (Int32.ofInt u).toNatClampNeg = u.toNat := by show (Int32.ofInt u).toInt.toNat = _; rw [eu]
  have hnf : nativeFrameWords "java/lang/System" "arraycopy" 5 ≤ 20 := by decide +kernel
  rw [List.map_cons, List.map_cons, List.map_cons, List.map_cons, List.map_cons, mz_v_o (Or.inr (by omega)), mz_v_o (Or.inr (by omega)), mz_v_i, mz_v_i]
  refine va_copyi hx hb (by rw [hml]; exact hH.2.2.2.2.2.2.1.1.symm) hown (hts _ (mz_W_ok hw)) (hts _ mz_wd5) (hts _ mz_wd6) (hts _ mz_wd7) hCx.1 hH.1 hH.2.1 hH.2.2.1 ow ov 0 0 he0 he1 rfl rfl rfl (sp := Int32.ofInt 0) (dp := Int32.ofInt 0) (n := Int32.ofInt u) (by decide) (by decide) (by rw [Int32.lt_iff_toInt_lt, eu]; show ¬ u < 0; omega) (by rw [e0, eun]; omega) (by rw [e0, eun]; omega) (fun _ _ => rfl) (by omega) (by rw [mz_cats hCx.2.2.2.2.2.2.1]; omega) hd (fun H1 locs1 q1 q2 q3 => ?_)
  have hset : (mz_ws ad cy σ).set ov (ad ov, .inl (cy 0, zv, .inl (va_cpy (fun k => Int32.ofInt (σ.2.2.2 ow k)) (fun k => Int32.ofInt (σ.2.2.2 ov k)) (Int32.ofInt 0).toNatClampNeg (Int32.ofInt 0).toNatClampNeg (Int32.ofInt u).toNatClampNeg))) = mz_ws ad cy (σ.1, σ.2.1, σ.2.2.1, mz_cp σ.2.2.2 ow ov u.toNat) := by
    refine mz_ws_set (σ' := (σ.1, σ.2.1, σ.2.2.1, mz_cp σ.2.2.2 ow ov u.toNat)) rfl hu.1 ?_ (fun q _ hq => mz_en_eq (fun j => by show mz_cp σ.2.2.2 ow ov u.toNat q j = _; unfold mz_cp; rw [if_neg (fun hh => hq hh.1)]) (fun _ => rfl) (fun _ => rfl))
    rw [mz_en_a hu.2 (by omega), e0, eun]
    congr 4
    funext q
    unfold va_cpy
    show Int32.ofInt (mz_cp σ.2.2.2 ow ov u.toNat ov q) = _
    unfold mz_cp
    by_cases hq : q < u.toNat
    · rw [if_pos ⟨rfl, hq⟩, if_pos ⟨Nat.zero_le _, by omega⟩]
      simp
    · rw [if_neg (fun hh => hq hh.2), if_neg (by omega)]
  rw [hset] at q1 q2
  exact mz_K_at hN hp h1 h2 h3 (mz_H_mem (mz_H_tl (mz_H_tl (mz_H_tl (mz_H_tl (mz_H_tl hH))))) rfl q1 q2 q3 (mz_wS_cp hS (by rw [hu.2]))) rfl

theorem mz_s65 (hF : mz_F p R s m args meth c D cy sK sV vF β k) (hc : mz_ch1 k i 65 a b c9 x9 y9 = true) (h : mz_st1 (fun ls st σ => mz_gr σ σ0 ∧ mz_K p l e R s m args below meth c D cy sK sV vF β Q ade te se k (i + 1) ls st σ) call rt (65, a, b, c9, x9, y9) ls st σ) : mz_K p l e R s m args below meth c D cy sK sV vF β Q ade te se k i ls st σ := by
  obtain ⟨hx, hb, hr, hml, hown, hlk, hnm, hts, hCx, hfr, hlo⟩ := hF
  intro ad lsA H locs h1 h2 h3 hH
  have hA : ∀ q : Nat, s.heap.size ≤ q → (fun q : Nat => β ≤ q) q := fun q hq => Nat.le_trans hCx.2.2.2.2.2.2.2.1 hq
  have hS := hH.2.2.2.1
  have h : (mz_gr σ σ0 ∧ mz_K p l e R s m args below meth c D cy sK sV vF β Q ade te se k (i + 1) ls (.inr (some (90, 0, a)) :: st) σ) := h
  obtain ⟨hg, hN⟩ := h
  simp only [mz_ch1, Bool.and_eq_true, decide_eq_true_eq] at hc
  obtain ⟨hc, hq⟩ := hc
  obtain ⟨hd, hp⟩ := mz_D_ok hc
  cases hs : mz_so[a]? with
  | none => rw [hs] at hq; simp at hq
  | some q =>
    rw [hs] at hq
    obtain ⟨q1, q2, q3⟩ := q
    simp at hq
    obtain ⟨rfl, rfl⟩ := hq
    have hk := hCx.2.2.1 a _ hs
    have ha : a < 18 := by have := (List.getElem?_eq_some_iff.mp hs).1; rwa [mz_so_len] at this
    exact va_ldcS hx hb hown hk hd (mz_K_at hN hp h1 h2 h3 (mz_H_cons hH (show mz_wf σ (.inr (some (90, 0, a))) from ha)) rfl)

theorem mz_s66 (hF : mz_F p R s m args meth c D cy sK sV vF β k) (hc : mz_ch1 k i 66 a b c9 x9 y9 = true) (h : mz_st1 (fun ls st σ => mz_gr σ σ0 ∧ mz_K p l e R s m args below meth c D cy sK sV vF β Q ade te se k (i + 1) ls st σ) call rt (66, a, b, c9, x9, y9) ls st σ) : mz_K p l e R s m args below meth c D cy sK sV vF β Q ade te se k i ls st σ := by
  obtain ⟨hx, hb, hr, hml, hown, hlk, hnm, hts, hCx, hfr, hlo⟩ := hF
  intro ad lsA H locs h1 h2 h3 hH
  have hA : ∀ q : Nat, s.heap.size ≤ q → (fun q : Nat => β ≤ q) q := fun q hq => Nat.le_trans hCx.2.2.2.2.2.2.2.1 hq
  have hS := hH.2.2.2.1
  rcases st with _ | ⟨v0, st⟩
  · exact False.elim h
  rcases v0 with w0 | _ | ⟨tv, zv, ov⟩
  case inl => exact False.elim h
  case inr.none => exact False.elim h
  have h : tv = 90 ∧ (mz_gr σ σ0 ∧ mz_K p l e R s m args below meth c D cy sK sV vF β Q ade te se k (i + 1) ls (.inr (some (91, mz_tl ov, ov)) :: st) σ) := h
  obtain ⟨ht, hg, hN⟩ := h
  subst ht
  simp only [mz_ch1, Bool.and_eq_true] at hc
  obtain ⟨hc, hw⟩ := hc
  obtain ⟨hd, hp⟩ := mz_D_ok hc
  have hv : ov < 18 := mz_H_hd hH
  exact vk_getf hx hb (hCx.2.2.2.1.1 ov hv).2.2.1 hH.2.2.1 hown (hts _ (mz_W_ok hw)) (fun _ q => q) hd (mz_K_at hN hp h1 h2 h3 (mz_H_cons (mz_H_tl hH) (show mz_wf σ (.inr (some (91, mz_tl ov, ov))) from ⟨hv, rfl⟩)) rfl)

theorem mz_s67 (hF : mz_F p R s m args meth c D cy sK sV vF β k) (hc : mz_ch1 k i 67 a b c9 x9 y9 = true) (h : mz_st1 (fun ls st σ => mz_gr σ σ0 ∧ mz_K p l e R s m args below meth c D cy sK sV vF β Q ade te se k (i + 1) ls st σ) call rt (67, a, b, c9, x9, y9) ls st σ) : mz_K p l e R s m args below meth c D cy sK sV vF β Q ade te se k i ls st σ := by
  obtain ⟨hx, hb, hr, hml, hown, hlk, hnm, hts, hCx, hfr, hlo⟩ := hF
  intro ad lsA H locs h1 h2 h3 hH
  have hA : ∀ q : Nat, s.heap.size ≤ q → (fun q : Nat => β ≤ q) q := fun q hq => Nat.le_trans hCx.2.2.2.2.2.2.2.1 hq
  have hS := hH.2.2.2.1
  rcases st with _ | ⟨v0, st⟩
  · exact False.elim h
  rcases v0 with w0 | _ | ⟨tv, zv, ov⟩
  case inl => exact False.elim h
  case inr.none => exact False.elim h
  have h : tv = 90 ∧ (mz_gr σ σ0 ∧ mz_K p l e R s m args below meth c D cy sK sV vF β Q ade te se k (i + 1) ls (.inl 0 :: st) σ) := h
  obtain ⟨ht, hg, hN⟩ := h
  subst ht
  simp only [mz_ch1, Bool.and_eq_true] at hc
  obtain ⟨hc, hw⟩ := hc
  obtain ⟨hd, hp⟩ := mz_D_ok hc
  have hv : ov < 18 := mz_H_hd hH
  exact vk_getf hx hb (hCx.2.2.2.1.1 ov hv).2.1 hH.2.2.1 hown (hts _ (mz_W_ok hw)) (fun _ q => q) hd (mz_K_at hN hp h1 h2 h3 (mz_H_cons (v := .inl 0) (mz_H_tl hH) mz_w0) rfl)

theorem mz_s68 (hF : mz_F p R s m args meth c D cy sK sV vF β k) (hc : mz_ch1 k i 68 a b c9 x9 y9 = true) (h : mz_st1 (fun ls st σ => mz_gr σ σ0 ∧ mz_K p l e R s m args below meth c D cy sK sV vF β Q ade te se k (i + 1) ls st σ) call rt (68, a, b, c9, x9, y9) ls st σ) : mz_K p l e R s m args below meth c D cy sK sV vF β Q ade te se k i ls st σ := by
  obtain ⟨hx, hb, hr, hml, hown, hlk, hnm, hts, hCx, hfr, hlo⟩ := hF
  intro ad lsA H locs h1 h2 h3 hH
  have hA : ∀ q : Nat, s.heap.size ≤ q → (fun q : Nat => β ≤ q) q := fun q hq => Nat.le_trans hCx.2.2.2.2.2.2.2.1 hq
  have hS := hH.2.2.2.1
  have h : (mz_gr σ σ0 ∧ mz_K p l e R s m args below meth c D cy sK sV vF β Q ade te se k (i + 1) ls (.inr none :: st) σ) := h
  obtain ⟨hg, h⟩ := h
  simp only [mz_ch1] at hc
  obtain ⟨hd, hp⟩ := mz_D_ok hc
  exact lv_null hx hb hd (mz_K_at h hp h1 h2 h3 (mz_H_cons (v := .inr none) hH trivial) rfl)

theorem mz_s69 (hF : mz_F p R s m args meth c D cy sK sV vF β k) (hc : mz_ch1 k i 69 a b c9 x9 y9 = true) (h : mz_st1 (fun ls st σ => mz_gr σ σ0 ∧ mz_K p l e R s m args below meth c D cy sK sV vF β Q ade te se k (i + 1) ls st σ) call rt (69, a, b, c9, x9, y9) ls st σ) : mz_K p l e R s m args below meth c D cy sK sV vF β Q ade te se k i ls st σ := by
  obtain ⟨hx, hb, hr, hml, hown, hlk, hnm, hts, hCx, hfr, hlo⟩ := hF
  intro ad lsA H locs h1 h2 h3 hH
  have hA : ∀ q : Nat, s.heap.size ≤ q → (fun q : Nat => β ≤ q) q := fun q hq => Nat.le_trans hCx.2.2.2.2.2.2.2.1 hq
  have hS := hH.2.2.2.1
  rcases st with _ | ⟨v0, st⟩
  · exact False.elim h
  rcases st with _ | ⟨u0, st⟩
  · exact False.elim h
  have h : (mz_gr σ σ0 ∧ mz_K p l e R s m args below meth c D cy sK sV vF β Q ade te se k (i + 1) ls (v0 :: u0 :: v0 :: u0 :: st) σ) := h
  obtain ⟨hg, h⟩ := h
  simp only [mz_ch1] at hc
  obtain ⟨hd, hp⟩ := mz_D_ok hc
  exact lv_dup2_11 hx hb hd (mz_cat hCx.2.2.2.2.2.2.1 ad sK sV _) (mz_cat hCx.2.2.2.2.2.2.1 ad sK sV _) (mz_K_at h hp h1 h2 h3 (mz_H_cons (mz_H_cons hH (mz_H_hd (mz_H_tl hH))) (mz_H_hd hH)) rfl)

theorem mz_s72 (hF : mz_F p R s m args meth c D cy sK sV vF β k) (hc : mz_ch1 k i 72 a b c9 x9 y9 = true) (h : mz_st1 (fun ls st σ => mz_gr σ σ0 ∧ mz_K p l e R s m args below meth c D cy sK sV vF β Q ade te se k (i + 1) ls st σ) call rt (72, a, b, c9, x9, y9) ls st σ) : mz_K p l e R s m args below meth c D cy sK sV vF β Q ade te se k i ls st σ := by
  obtain ⟨hx, hb, hr, hml, hown, hlk, hnm, hts, hCx, hfr, hlo⟩ := hF
  intro ad lsA H locs h1 h2 h3 hH
  have hA : ∀ q : Nat, s.heap.size ≤ q → (fun q : Nat => β ≤ q) q := fun q hq => Nat.le_trans hCx.2.2.2.2.2.2.2.1 hq
  have hS := hH.2.2.2.1
  have h : (mz_gr σ σ0 ∧ mz_K p l e R s m args below meth c D cy sK sV vF β Q ade te se k (i + 1) ls (.inl 1 :: st) σ) := h
  obtain ⟨hg, h⟩ := h
  simp only [mz_ch1, Bool.and_eq_true] at hc
  obtain ⟨hc, hw⟩ := hc
  obtain ⟨hd, hp⟩ := mz_D_ok hc
  exact va_gets hx hb hCx.2.2.2.2.1 hH.2.2.1 hown (hts _ (mz_W_ok hw)) (fun _ q => q) hd (mz_K_at h hp h1 h2 h3 (mz_H_cons (v := .inl 1) hH (show mz_w 1 by unfold mz_w; omega)) rfl)

theorem mz_s73 (hF : mz_F p R s m args meth c D cy sK sV vF β k) (hc : mz_ch1 k i 73 a b c9 x9 y9 = true) (h : mz_st1 (fun ls st σ => mz_gr σ σ0 ∧ mz_K p l e R s m args below meth c D cy sK sV vF β Q ade te se k (i + 1) ls st σ) call rt (73, a, b, c9, x9, y9) ls st σ) : mz_K p l e R s m args below meth c D cy sK sV vF β Q ade te se k i ls st σ := by
  obtain ⟨hx, hb, hr, hml, hown, hlk, hnm, hts, hCx, hfr, hlo⟩ := hF
  intro ad lsA H locs h1 h2 h3 hH
  have hA : ∀ q : Nat, s.heap.size ≤ q → (fun q : Nat => β ≤ q) q := fun q hq => Nat.le_trans hCx.2.2.2.2.2.2.2.1 hq
  have hS := hH.2.2.2.1
  have h : (mz_gr σ σ0 ∧ mz_K p l e R s m args below meth c D cy sK sV vF β Q ade te se k (i + 1) ls (.inr (some (92, 0, 0)) :: st) σ) := h
  obtain ⟨hg, h⟩ := h
  simp only [mz_ch1, Bool.and_eq_true] at hc
  obtain ⟨hc, hw⟩ := hc
  obtain ⟨hd, hp⟩ := mz_D_ok hc
  exact va_gets hx hb hCx.2.2.2.2.2.1 hH.2.2.1 hown (hts _ (mz_W_ok hw)) (fun _ q => q) hd (mz_K_at h hp h1 h2 h3 (mz_H_cons (v := .inr (some (92, 0, 0))) hH trivial) rfl)

theorem mz_i2c {u : Int} (h : 0 ≤ u ∧ u ≤ 65535) : ((Int32.ofInt u).toUInt32 % 65536).toInt32 = Int32.ofInt u := by
  have e : Int32.ofInt u = nI u.toNat := by
    rw [show nI u.toNat = Int32.ofNat u.toNat from rfl, mz_nn]
    congr 1
    omega
  rw [e, pk_char, pk_tn (by omega), Nat.mod_eq_of_lt (by omega)]

theorem mz_s74 (hF : mz_F p R s m args meth c D cy sK sV vF β k) (hc : mz_ch1 k i 74 a b c9 x9 y9 = true) (h : mz_st1 (fun ls st σ => mz_gr σ σ0 ∧ mz_K p l e R s m args below meth c D cy sK sV vF β Q ade te se k (i + 1) ls st σ) call rt (74, a, b, c9, x9, y9) ls st σ) : mz_K p l e R s m args below meth c D cy sK sV vF β Q ade te se k i ls st σ := by
  obtain ⟨hx, hb, hr, hml, hown, hlk, hnm, hts, hCx, hfr, hlo⟩ := hF
  intro ad lsA H locs h1 h2 h3 hH
  have hA : ∀ q : Nat, s.heap.size ≤ q → (fun q : Nat => β ≤ q) q := fun q hq => Nat.le_trans hCx.2.2.2.2.2.2.2.1 hq
  have hS := hH.2.2.2.1
  rcases st with _ | ⟨u0, st⟩
  · exact False.elim h
  rcases u0 with u | w0
  case inr => exact False.elim h
  have h : (0 ≤ u ∧ u ≤ 65535) ∧ (mz_gr σ σ0 ∧ mz_K p l e R s m args below meth c D cy sK sV vF β Q ade te se k (i + 1) ls (.inl u :: st) σ) := h
  obtain ⟨hu, hg, h⟩ := h
  simp only [mz_ch1] at hc
  obtain ⟨hd, hp⟩ := mz_D_ok hc
  exact lv_i2c hx hb hd (mz_i2c hu) (mz_K_at h hp h1 h2 h3 hH rfl)

theorem mz_s75 (hR : R.cells = σ0.1 - te ∧ R.slots = σ0.2.1 - se) (hF : mz_F p R s m args meth c D cy sK sV vF β k) (hc : mz_ch1 k i 75 a b c9 x9 y9 = true) (h : mz_st1 (fun ls st σ => mz_gr σ σ0 ∧ mz_K p l e R s m args below meth c D cy sK sV vF β Q ade te se k (i + 1) ls st σ) call rt (75, a, b, c9, x9, y9) ls st σ) : mz_K p l e R s m args below meth c D cy sK sV vF β Q ade te se k i ls st σ := by
  obtain ⟨hx, hb, hr, hml, hown, hlk, hnm, hts, hCx, hfr, hlo⟩ := hF
  intro ad lsA H locs h1 h2 h3 hH
  have hA : ∀ q : Nat, s.heap.size ≤ q → (fun q : Nat => β ≤ q) q := fun q hq => Nat.le_trans hCx.2.2.2.2.2.2.2.1 hq
  have hS := hH.2.2.2.1
  rcases st with _ | ⟨v0, st⟩
  · exact False.elim h
  rcases v0 with v | w0
  case inr => exact False.elim h
  rcases st with _ | ⟨u0, st⟩
  · exact False.elim h
  rcases u0 with u | w0
  case inr => exact False.elim h
  have h : st.length ≤ 8 ∧ (mz_gr σ σ0 ∧ mz_K p l e R s m args below meth c D cy sK sV vF β Q ade te se k (i + 1) ls (.inl (max u v) :: st) σ) := h
  obtain ⟨hlen, hg, h⟩ := h
  simp only [mz_ch1, Bool.and_eq_true, decide_eq_true_eq] at hc
  obtain ⟨⟨hc, hw⟩, h1d⟩ := hc
  obtain ⟨hd, hp⟩ := mz_D_ok hc
  have wv : mz_w v := mz_H_hd hH
  have wu : mz_w u := mz_H_hd (mz_H_tl hH)
  have hg1 := hg.1
  have hg2 := hg.2
  rw [List.map_cons, List.map_cons, mz_v_i, mz_v_i]
  refine va_mmax hx hb (by rw [hml]; exact hH.2.2.2.2.2.2.1.1.symm) hown (hts _ (mz_W_ok hw)) (hts _ mz_wd8) (hts _ mz_wd12) (hts _ mz_wd9) (by omega) (by rw [mz_cats hCx.2.2.2.2.2.2.1]; omega) (by rw [hR.1]; omega) (by rw [hR.2]; omega) hd (mz_K_at h hp h1 h2 h3 (mz_H_cons (v := .inl (max u v)) (mz_H_tl (mz_H_tl hH)) (show mz_w (max u v) by unfold mz_w at wu wv ⊢; omega)) ?_)
  rw [List.map_cons, mz_v_i]
  congr 2
  by_cases hq : u < v
  · rw [if_pos ((mz_ltI wu wv).mpr hq)]
    congr 1
    omega
  · rw [if_neg (fun r => hq ((mz_ltI wu wv).mp r))]
    congr 1
    omega

theorem mz_s76 (hR : R.cells = σ0.1 - te ∧ R.slots = σ0.2.1 - se) (hF : mz_F p R s m args meth c D cy sK sV vF β k) (hc : mz_ch1 k i 76 a b c9 x9 y9 = true) (h : mz_st1 (fun ls st σ => mz_gr σ σ0 ∧ mz_K p l e R s m args below meth c D cy sK sV vF β Q ade te se k (i + 1) ls st σ) call rt (76, a, b, c9, x9, y9) ls st σ) : mz_K p l e R s m args below meth c D cy sK sV vF β Q ade te se k i ls st σ := by
  obtain ⟨hx, hb, hr, hml, hown, hlk, hnm, hts, hCx, hfr, hlo⟩ := hF
  intro ad lsA H locs h1 h2 h3 hH
  have hA : ∀ q : Nat, s.heap.size ≤ q → (fun q : Nat => β ≤ q) q := fun q hq => Nat.le_trans hCx.2.2.2.2.2.2.2.1 hq
  have hS := hH.2.2.2.1
  rcases st with _ | ⟨v0, st⟩
  · exact False.elim h
  rcases v0 with v | w0
  case inr => exact False.elim h
  rcases st with _ | ⟨u0, st⟩
  · exact False.elim h
  rcases u0 with u | w0
  case inr => exact False.elim h
  have h : st.length ≤ 8 ∧ (mz_gr σ σ0 ∧ mz_K p l e R s m args below meth c D cy sK sV vF β Q ade te se k (i + 1) ls (.inl (min u v) :: st) σ) := h
  obtain ⟨hlen, hg, h⟩ := h
  simp only [mz_ch1, Bool.and_eq_true, decide_eq_true_eq] at hc
  obtain ⟨⟨hc, hw⟩, h1d⟩ := hc
  obtain ⟨hd, hp⟩ := mz_D_ok hc
  have wv : mz_w v := mz_H_hd hH
  have wu : mz_w u := mz_H_hd (mz_H_tl hH)
  have hg1 := hg.1
  have hg2 := hg.2
  rw [List.map_cons, List.map_cons, mz_v_i, mz_v_i]
  refine va_mmin hx hb (by rw [hml]; exact hH.2.2.2.2.2.2.1.1.symm) hown (hts _ (mz_W_ok hw)) (hts _ mz_wd10) (hts _ mz_wd12) (hts _ mz_wd11) (by omega) (by rw [mz_cats hCx.2.2.2.2.2.2.1]; omega) (by rw [hR.1]; omega) (by rw [hR.2]; omega) hd (mz_K_at h hp h1 h2 h3 (mz_H_cons (v := .inl (min u v)) (mz_H_tl (mz_H_tl hH)) (show mz_w (min u v) by unfold mz_w at wu wv ⊢; omega)) ?_)
  rw [List.map_cons, mz_v_i]
  congr 2
  by_cases hq : v < u
  · rw [if_pos ((mz_ltI wv wu).mpr hq)]
    congr 1
    omega
  · rw [if_neg (fun r => hq ((mz_ltI wv wu).mp r))]
    congr 1
    omega

end Sn6
end
section
theorem mz_cdL_len : mz_cdL.length = 300 := by decide +kernel
section Sn7
variable {p : Program} {l : Launch} {e : Env} {R : Room} {s : State} {m : MethodId} {args : Array Value} {below : List Frame} {meth : Method} {c : Code} {D : va_G} {cy : Nat → ClassId} {sK sV : Nat → Nat} {vF : Value} {β : Nat} {Q : State → Prop} {ade : Nat → Nat} {te se : Nat} {k i a c9 x9 y9 : Nat} {b : Int} {σ σ0 : mz_S} {ls : mz_Ls} {st : List mz_V} {call : Nat → List mz_V → mz_S → (Option mz_V → mz_S → Prop) → Prop} {rt : Option mz_V → mz_S → Prop}
def mz_Q (D : va_G) (cy : Nat → ClassId) (sK sV : Nat → Nat) (vF : Value) (β : Nat) (ade : Nat → Nat) (te : Nat) (r0 : Option mz_V) (σ0 : mz_S) : Array Value → State → Outcome → State → Prop := fun _ st o t =>
  ∃ ad : Nat → Nat, (∀ q, q < te → ad q = ade q) ∧ o = .returned (r0.map (mz_v ad sK sV vF)) ∧ va_P D vwCl (mz_ws ad cy σ0) t.heap ∧ va_D (fun q => β ≤ q) (mz_ws ad cy σ0) ∧ va_F (fun q => β ≤ q) st t ∧ mz_wS σ0 ∧ ∀ v, r0 = some v → mz_wf σ0 v
def mz_Pc (D : va_G) (cy : Nat → ClassId) (sK sV : Nat → Nat) (vF : Value) (β : Nat) (ad : Nat → Nat) (σ : mz_S) (as : List mz_V) : Array Value → State → Prop := va_Pc (as.map (mz_v ad sK sV vF)) (fun U => va_P D vwCl (mz_ws ad cy σ) U.heap ∧ va_D (fun q => β ≤ q) (mz_ws ad cy σ) ∧ mz_Cx D cy sK sV vF β U)
def mz_wsk (k : Nat) : List Cond := .code (mz_y k) (mz_b k) (mz_L k) (mz_rt k) :: mz_gw
def mz_rm9 (k : Nat) (σ σ1 : mz_S) : Room := { frames := mz_dep k, cells := σ1.1 - σ.1, slots := σ1.2.1 - σ.2.1, locals := 60 * mz_dep k }
def mz_Met (l : Launch) (D : va_G) (cy : Nat → ClassId) (sK sV : Nat → Nat) (vF : Value) (β : Nat) (k : Nat) (ad : Nat → Nat) (as : List mz_V) (σ : mz_S) (r1 : Option mz_V) (σ1 : mz_S) : Prop :=
  Met l (mz_y k) (mz_wsk k) (mz_rm9 k σ σ1) (mz_Pc D cy sK sV vF β ad σ as) (mz_Q D cy sK sV vF β ad σ.1 r1 σ1) (σ1.1 - σ.1) (σ1.2.1 - σ.2.1) (fun q => β ≤ q)
theorem mz_blind {ad : Nat → Nat} {as : List mz_V} : FrameBlind (mz_Pc D cy sK sV vF β ad σ as) := fun _ U _ _ q => ⟨q.1, q.2.1, q.2.2.1, mz_Cx_same (u := U) rfl rfl q.2.2.2⟩
theorem mz_goodk (hk : mz_W (mz_wp k).1 (.code (mz_y k) (mz_b k) (mz_L k) (mz_rt k)) = true) : GoodIn mz_gw (mz_wsk k) := by
  intro w hw
  have hm : w ∈ mz_gw := by
    rcases List.mem_cons.mp hw with rfl | hw
    · exact mz_W_ok hk
    · exact hw
  exact ⟨hm, good_of_word (List.mem_filter.mp hm).2⟩
/-- behind a call -/
theorem mz_after {ad : Nat → Nat} {σ1 : mz_S} {r1 : Option mz_V} {lsA : Array Slot} {H : Heap} {locs : List Loc} {stk : List Value} {aa : Array Value} {pc : Nat} (hH : mz_H s D cy sK sV vF β k ad σ ls st lsA H locs) (h1 : ∀ o, o < te → ad o = ade o) (h2 : te ≤ σ.1) (h3 : se ≤ σ.2.1) (hg : mz_gr σ σ1)
    (hr : va_Run p l e R s m args below meth c H locs (σ.1 - te) (σ.2.1 - se) (σ1.1 - σ.1) (σ1.2.1 - σ.2.1) (F0 m pc lsA stk) (st.map (mz_v ad sK sV vF)) (mz_Q D cy sK sV vF β ad σ.1 r1 σ1 aa) (fun q => β ≤ q))
    (hK : mz_K p l e R s m args below meth c D cy sK sV vF β Q ade te se k (i + 1) ls (r1.toList ++ st) σ1) (hp : mz_pc k (i + 1) = pc + 3) :
    W p l e R s m args below meth c H locs (σ.1 - te) (σ.2.1 - se) Q (F0 m pc lsA stk) := by
  intro T hT X
  obtain ⟨v, st₀, t, T', L, e0, X', hL, eh, -, ⟨ad', ha, hv, hP', hD', hFr, hwS', hwf'⟩, hgo⟩ := hr T hT X
  have hv : v = r1.map (mz_v ad' sK sV vF) := Outcome.returned.inj hv
  obtain ⟨q1, q2, q3, q4, q5, q6, q7, q8⟩ := hH
  have hH' : mz_H s D cy sK sV vF β k ad' σ1 ls (r1.toList ++ st) lsA t.heap (locs ++ L) := by
    refine ⟨hP', hD', ⟨?_, fun q a1 a2 => ?_, fun z hz => ?_⟩, hwS', fun w hw => ?_, fun a w hw => mz_wf_mono hg.1 (q6 a w hw), ⟨q7.1, q7.2.1, fun z hz => ?_⟩, q8⟩
    · exact Nat.le_trans q3.1 (by rw [← e0]; exact hFr.1)
    · rw [hFr.2 q (by rw [e0]; exact Nat.lt_of_lt_of_le a1 q3.1) a2, e0]
      exact q3.2.1 q a1 a2
    · rcases List.mem_append.mp hz with hz | hz
      · exact q3.2.2 z hz
      · exact hL z hz
    · rcases List.mem_append.mp hw with hw | hw
      · exact hwf' w (by cases r1 with | none => simp at hw | some x => simp at hw; rw [hw])
      · exact mz_wf_mono hg.1 (q5 w hw)
    · obtain ⟨w, e1, e2⟩ := mz_lv_mem.mp hz
      rw [mz_v_ext ha (q6 _ _ e1)] at e2
      exact q7.2.2 z (mz_lv_mem.mpr ⟨w, e1, e2⟩)
  have hw := hK ad' lsA t.heap (locs ++ L) (fun o ho => by rw [ha o (Nat.lt_of_lt_of_le ho h2)]; exact h1 o ho) (Nat.le_trans h2 hg.1) (Nat.le_trans h3 hg.2) hH'
  have ec : σ.1 - te + (σ1.1 - σ.1) = σ1.1 - te := by have := hg.1; omega
  have es : σ.2.1 - se + (σ1.2.1 - σ.2.1) = σ1.2.1 - se := by have := hg.2; omega
  rw [ec, es] at X'
  obtain ⟨t2, a1, b1⟩ := hw T' eh X'
  refine ⟨t2, hgo t2 ?_, b1⟩
  have estk : (r1.toList ++ st).map (mz_v ad' sK sV vF) = v.toList ++ st.map (mz_v ad sK sV vF) := by
    rw [List.map_append, hv]
    congr 1
    · cases r1 <;> rfl
    · exact List.map_congr_left fun w hw => mz_v_ext ha (q5 w hw)
  rw [hp, estk] at a1
  exact a1
theorem mz_mok_ok (h : mz_ok k = true) : plainName (mz_y k).cls = true ∧ (mz_y k).cls ≠ "java/lang/invoke/MethodHandle" ∧ (mz_y k).cls ≠ "java/lang/invoke/VarHandle" ∧ mz_W (mz_wp k).1 (.code (mz_y k) (mz_b k) (mz_L k) (mz_rt k)) = true ∧ mz_W (mz_wp k).2.2.2 (.initialized (mz_y k).cls) = true ∧ mz_L k ≤ 30 ∧ mz_na k ≤ mz_L k ∧ mz_pc k 0 = 0 ∧
    ((mz_W (mz_wp k).2.1 (.static (mz_y k)) = true ∧ (parseMethodDescriptor (mz_y k).desc).map (fun d => d.parameters.length) = some (mz_na k)) ∨ ((mz_W (mz_wp k).2.1 (.instanceMethod (mz_y k)) = true ∧ 1 ≤ mz_na k) ∧ (parseMethodDescriptor (mz_y k).desc).map (fun d => d.parameters.length) = some (mz_na k - 1))) ∧ mz_all k 0 (mz_cd k) = true := by
  simp only [mz_ok, mz_mok, Bool.and_eq_true, Bool.or_eq_true, decide_eq_true_eq, beq_iff_eq] at h
  obtain ⟨⟨⟨⟨⟨⟨⟨⟨⟨a1, a2⟩, a3⟩, a4⟩, a5⟩, a6⟩, a7⟩, a8⟩, a9⟩, a10⟩ := h
  exact ⟨a1, a2, a3, a4, a5, a6, a7, a8, a9, a10⟩

theorem mz_done {r0 : Option mz_V} {ad : Nat → Nat} {lsA : Array Slot} {H : Heap} {locs : List Loc} (hH : mz_H s D cy sK sV vF β k ad σ0 ls st lsA H locs) (h1 : ∀ o, o < te → ad o = ade o) (hw : ∀ v, r0 = some v → mz_wf σ0 v) {t : State} (ht : t.heap = H) : mz_Q D cy sK sV vF β ade te r0 σ0 args s (.returned (r0.map (mz_v ad sK sV vF))) t :=
  ⟨ad, h1, rfl, by rw [ht]; exact hH.1, hH.2.1, hH.2.2.1.F ht, hH.2.2.2.1, hw⟩
theorem mz_sR {op : Nat} {r0 : Option mz_V} {nx : mz_Ls → List mz_V → mz_S → Prop} (hop : op = 55 ∨ op = 56 ∨ op = 57) (hF : mz_F p R s m args meth c D cy sK sV vF β k) (hc : mz_ch1 k i op a b c9 x9 y9 = true) (h : mz_st1 nx call (fun r σ => r = r0 ∧ σ = σ0) (op, a, b, c9, x9, y9) ls st σ) :
    mz_K p l e R s m args below meth c D cy sK sV vF β (MQ below (mz_Q D cy sK sV vF β ade te r0 σ0) args s (σ0.1 - te) (σ0.2.1 - se) (fun q => β ≤ q)) ade te se k i ls st σ := by
  obtain ⟨hx, hb, hr, hml, hown, hlk, hnm, hts, hCx, hfr, hlo⟩ := hF
  intro ad lsA H locs h1 h2 h3 hH
  rcases hop with rfl | rfl | rfl
  · rcases st with _ | ⟨v, st⟩
    · exact False.elim h
    rcases v with v | r
    case inr => rcases st with _ | ⟨_, _⟩ <;> exact False.elim h
    rcases st with _ | ⟨_, _⟩
    case cons => exact False.elim h
    have h : (if a = 0 then True else if a = 1 then v = 0 ∨ v = 1 else if a = 2 then -128 ≤ v ∧ v ≤ 127 else 0 ≤ v ∧ v ≤ 65535) ∧ some (.inl v) = r0 ∧ σ = σ0 := h
    obtain ⟨hv, rfl, rfl⟩ := h
    simp only [mz_ch1, Bool.and_eq_true] at hc
    obtain ⟨hc, ht⟩ := hc
    obtain ⟨hd, hp⟩ := mz_D_ok hc
    have hdone : ∀ t : State, t.heap = H → s.WarmedH t.vm → mz_Q D cy sK sV vF β ade te (some (.inl v)) σ args s (.returned (some (.int (Int32.ofInt v)))) t := fun t ht _ => mz_done (r0 := some (.inl v)) hH h1 (fun w hw => by cases hw; exact mz_H_hd hH) ht
    have hnB : -128 ≤ v ∧ v ≤ 127 → narrow .byte (.int (Int32.ofInt v)) = .int (Int32.ofInt v) := fun hv => by
      have := mz_nb hv
      rw [vp_nar_byte] at this
      show Value.int _ = _
      rw [this]
    have hnC : 0 ≤ v ∧ v ≤ 65535 → narrow .char (.int (Int32.ofInt v)) = .int (Int32.ofInt v) := fun hv => by
      have e : Int32.ofInt v = nI v.toNat := by
        rw [show nI v.toNat = Int32.ofNat v.toNat from rfl, mz_nn]
        congr 1
        omega
      rw [e]
      exact (pk_charN (by omega)).1
    match a, ht, hv with
    | 0, ht, hv => exact W.iret (hlocks := hlk) hx hb (by rw [hr]; simpa using ht) hdone hH.2.2.1.2.2 hd
    | 1, ht, hv => exact W.zret (hlocks := hlk) hx hb (by rw [hr]; simpa using ht) (by have hv : v = 0 ∨ v = 1 := hv; rcases hv with rfl | rfl <;> decide) hdone hH.2.2.1.2.2 hd
    | 2, ht, hv => exact W.zret (ty := .byte) (hlocks := hlk) hx hb (by rw [hr]; simpa using ht) (hnB hv) hdone hH.2.2.1.2.2 hd
    | a + 3, ht, hv => exact W.zret (ty := .char) (hlocks := hlk) hx hb (by rw [hr]; simpa using ht) (hnC hv) hdone hH.2.2.1.2.2 hd
  · rcases st with _ | ⟨v, st⟩
    · exact False.elim h
    rcases v with v | r
    case inl => rcases st with _ | ⟨_, _⟩ <;> exact False.elim h
    rcases st with _ | ⟨_, _⟩
    case cons => exact False.elim h
    have h : some (.inr r) = r0 ∧ σ = σ0 := h
    obtain ⟨rfl, rfl⟩ := h
    simp only [mz_ch1, Bool.and_eq_true] at hc
    obtain ⟨hc, ht⟩ := hc
    obtain ⟨hd, hp⟩ := mz_D_ok hc
    have hrt : ∃ n, mz_rt k = some (.object n) := by
      unfold mz_isO at ht
      split at ht
      · exact ⟨_, by assumption⟩
      · cases ht
    obtain ⟨n, hrt⟩ := hrt
    exact W.aret (hlocks := hlk) (v := mz_v ad sK sV vF (.inr r)) hx hb (by rw [hr]; exact hrt) (Or.inl ⟨n, rfl⟩) (mz_isr hCx.2.2.2.2.2.2.1 ad sK sV r) (fun t ht _ => mz_done (r0 := some (.inr r)) hH h1 (fun w hw => by cases hw; exact mz_H_hd hH) ht) hH.2.2.1.2.2 hd
  · rcases st with _ | ⟨v, st⟩
    case cons => exact False.elim h
    have h : none = r0 ∧ σ = σ0 := h
    obtain ⟨rfl, rfl⟩ := h
    simp only [mz_ch1, Bool.and_eq_true, decide_eq_true_eq] at hc
    obtain ⟨hc, ht⟩ := hc
    obtain ⟨hd, hp⟩ := mz_D_ok hc
    exact W.vret (hlocks := hlk) hx hb (by rw [hr]; exact ht) (fun t ht _ => mz_done (r0 := none) hH h1 (fun w hw => by cases hw) ht) hH.2.2.1.2.2 hd

theorem mz_s49 (hR : R.cells = σ0.1 - te ∧ R.slots = σ0.2.1 - se) (hok : ∀ k, k < 300 → mz_ok k = true) (hF : mz_F p R s m args meth c D cy sK sV vF β k) (hc : mz_ch1 k i 49 a b c9 x9 y9 = true) (h : mz_st1 (fun ls st σ => mz_gr σ σ0 ∧ mz_K p l e R s m args below meth c D cy sK sV vF β Q ade te se k (i + 1) ls st σ) (fun k9 as σ9 K => ∃ (r1 : Option mz_V) (σ1 : mz_S), mz_gr σ9 σ1 ∧ (mz_wS σ9 → (∀ v ∈ as, mz_wf σ9 v) → as.length = mz_na k9 → ∀ ad, mz_Met l D cy sK sV vF β k9 ad as σ9 r1 σ1) ∧ K r1 σ1) rt (49, a, b, c9, x9, y9) ls st σ) : mz_K p l e R s m args below meth c D cy sK sV vF β Q ade te se k i ls st σ := by
  have hF9 := hF
  obtain ⟨hx, hb, hr, hml, hown, hlk, hnm, hts, hCx, hfr, hlo⟩ := hF
  intro ad lsA H locs h1 h2 h3 hH
  have hS := hH.2.2.2.1
  obtain ⟨as, rest, est, hlen, hN0⟩ := mz_pop_spec h
  rw [List.append_nil] at hN0
  subst est
  have h : rest.length ≤ 8 ∧ ∃ (r1 : Option mz_V) (σ1 : mz_S), mz_gr σ σ1 ∧ (mz_wS σ → (∀ v ∈ as, mz_wf σ v) → as.length = mz_na a → ∀ ad, mz_Met l D cy sK sV vF β a ad as σ r1 σ1) ∧ (mz_gr σ1 σ0 ∧ mz_K p l e R s m args below meth c D cy sK sV vF β Q ade te se k (i + 1) ls (r1.toList ++ rest) σ1) := hN0
  obtain ⟨hl8, r1, σ1, hgq, hM, hgK, hN⟩ := h
  simp only [mz_ch1, mz_call, Bool.and_eq_true, decide_eq_true_eq] at hc
  obtain ⟨⟨⟨hc, hw⟩, hac⟩, hst⟩ := hc
  obtain ⟨hd, hp⟩ := mz_D_ok hc
  have hka : a < 300 := by rw [← mz_cdL_len]; exact hac.2
  obtain ⟨m1, m2, m3, m4, m5, m6, m7, m8, m9, m10⟩ := mz_mok_ok (hok a hka)
  have hgr := hgq.1
  have hgr2 := hgq.2
  have hn : as.length = mz_na a := by rw [hlen]; exact hac.1.2
  have hdp : mz_dep a < mz_dep k := hac.1.1
  have hMet := hM hS (fun v hv => mz_H_wf hH (List.mem_append_left _ (List.mem_reverse.mpr hv))) hn ad
  have hH2 : mz_H s D cy sK sV vF β k ad σ ls rest lsA H locs := mz_H_st hH fun v hv => mz_H_wf hH (List.mem_append_right _ hv)
  have hPre : ∀ U : State, U.heap = H → s.WarmedH U.vm → mz_Pc D cy sK sV vF β ad σ as (as.map (mz_v ad sK sV vF)).toArray U := fun U hU hW => ⟨rfl, by rw [hU]; exact hH.1, hH.2.1, mz_Cx_go hCx hW (by rw [hU]; exact hH.2.2.1.1) (fun q a1 a2 => by rw [hU]; exact hH.2.2.1.2.1 q a1 a2)⟩
  have hRm : (mz_rm9 a σ σ1).frames + 1 ≤ R.frames ∧ 8 + (mz_L a + 11) + (mz_rm9 a σ σ1).locals ≤ R.locals := ⟨by show mz_dep a + 1 ≤ _; omega, by show 8 + (mz_L a + 11) + 60 * mz_dep a ≤ _; omega⟩
  have hcs : σ.1 - te + (σ1.1 - σ.1) ≤ R.cells ∧ σ.2.1 - se + (σ1.2.1 - σ.2.1) ≤ R.slots := ⟨by rw [hR.1]; have := hgK.1; omega, by rw [hR.2]; have := hgK.2; omega⟩
  have hcat : 2 * (F0 m (mz_pc k i) lsA ((as.reverse ++ rest).map (mz_v ad sK sV vF))).monitorRoom + ((rest.map (mz_v ad sK sV vF)).map fun v => v.category).sum ≤ 8 := by
    rw [mz_cats hCx.2.2.2.2.2.2.1]
    show 2 * 0 + rest.length ≤ 8
    omega
  have hsz : (F0 m (mz_pc k i) lsA ((as.reverse ++ rest).map (mz_v ad sK sV vF))).locals.size = mz_L k := hH.2.2.2.2.2.2.1.1
  have hpar : (parseMethodDescriptor (mz_y a).desc).map (fun d => d.parameters.length) = some as.length := by
    rcases m9 with ⟨-, q⟩ | ⟨q1, q2⟩
    · rw [q, hn]
    · exact absurd (mz_W_inj hst q1.1) (by intro h; cases h)
  have hcw := callB_of (R := R) (s := s) (args := args) (index := x9) (own := (mz_y k).cls) (rm := mz_rm9 a σ σ1) (mc := σ1.1 - σ.1) (ms := σ1.2.1 - σ.2.1) as.length hts (mz_goodk m4) rfl rfl rfl (hts _ (mz_W_ok m5)) (hts _ (mz_W_ok hw)) ⟨m2, m3, hpar⟩ hRm
  exact mz_after hH2 h1 h2 h3 hgq (va_runS (rest := rest.map (mz_v ad sK sV vF)) ⟨hx, hb, hml, hown, hts⟩ hMet ⟨hcw, hts _ (mz_W_ok hst)⟩ ⟨mz_blind, hPre⟩ rfl (by rw [List.length_map]) hsz (by simp) hcat hd hcs) hN hp

theorem mz_s52 (hR : R.cells = σ0.1 - te ∧ R.slots = σ0.2.1 - se) (hok : ∀ k, k < 300 → mz_ok k = true) (hF : mz_F p R s m args meth c D cy sK sV vF β k) (hc : mz_ch1 k i 52 a b c9 x9 y9 = true) (h : mz_st1 (fun ls st σ => mz_gr σ σ0 ∧ mz_K p l e R s m args below meth c D cy sK sV vF β Q ade te se k (i + 1) ls st σ) (fun k9 as σ9 K => ∃ (r1 : Option mz_V) (σ1 : mz_S), mz_gr σ9 σ1 ∧ (mz_wS σ9 → (∀ v ∈ as, mz_wf σ9 v) → as.length = mz_na k9 → ∀ ad, mz_Met l D cy sK sV vF β k9 ad as σ9 r1 σ1) ∧ K r1 σ1) rt (52, a, b, c9, x9, y9) ls st σ) : mz_K p l e R s m args below meth c D cy sK sV vF β Q ade te se k i ls st σ := by
  have hF9 := hF
  obtain ⟨hx, hb, hr, hml, hown, hlk, hnm, hts, hCx, hfr, hlo⟩ := hF
  intro ad lsA H locs h1 h2 h3 hH
  have hS := hH.2.2.2.1
  obtain ⟨as, rest, est, hlen, hN0⟩ := mz_pop_spec h
  rw [List.append_nil] at hN0
  subst est
  have h : rest.length ≤ 8 ∧ ∃ (r1 : Option mz_V) (σ1 : mz_S), mz_gr σ σ1 ∧ (mz_wS σ → (∀ v ∈ as, mz_wf σ v) → as.length = mz_na a → ∀ ad, mz_Met l D cy sK sV vF β a ad as σ r1 σ1) ∧ (mz_gr σ1 σ0 ∧ mz_K p l e R s m args below meth c D cy sK sV vF β Q ade te se k (i + 1) ls (r1.toList ++ rest) σ1) := hN0
  obtain ⟨hl8, r1, σ1, hgq, hM, hgK, hN⟩ := h
  simp only [mz_ch1, mz_call, Bool.and_eq_true, decide_eq_true_eq] at hc
  obtain ⟨⟨⟨hc, hw⟩, hac⟩, hst⟩ := hc
  obtain ⟨hd, hp⟩ := mz_D_ok hc
  have hka : a < 300 := by rw [← mz_cdL_len]; exact hac.2
  obtain ⟨m1, m2, m3, m4, m5, m6, m7, m8, m9, m10⟩ := mz_mok_ok (hok a hka)
  have hgr := hgq.1
  have hgr2 := hgq.2
  have hn : as.length = mz_na a := by rw [hlen]; exact hac.1.2
  have hdp : mz_dep a < mz_dep k := hac.1.1
  have hMet := hM hS (fun v hv => mz_H_wf hH (List.mem_append_left _ (List.mem_reverse.mpr hv))) hn ad
  have hH2 : mz_H s D cy sK sV vF β k ad σ ls rest lsA H locs := mz_H_st hH fun v hv => mz_H_wf hH (List.mem_append_right _ hv)
  have hPre : ∀ U : State, U.heap = H → s.WarmedH U.vm → mz_Pc D cy sK sV vF β ad σ as (as.map (mz_v ad sK sV vF)).toArray U := fun U hU hW => ⟨rfl, by rw [hU]; exact hH.1, hH.2.1, mz_Cx_go hCx hW (by rw [hU]; exact hH.2.2.1.1) (fun q a1 a2 => by rw [hU]; exact hH.2.2.1.2.1 q a1 a2)⟩
  have hRm : (mz_rm9 a σ σ1).frames + 1 ≤ R.frames ∧ 8 + (mz_L a + 11) + (mz_rm9 a σ σ1).locals ≤ R.locals := ⟨by show mz_dep a + 1 ≤ _; omega, by show 8 + (mz_L a + 11) + 60 * mz_dep a ≤ _; omega⟩
  have hcs : σ.1 - te + (σ1.1 - σ.1) ≤ R.cells ∧ σ.2.1 - se + (σ1.2.1 - σ.2.1) ≤ R.slots := ⟨by rw [hR.1]; have := hgK.1; omega, by rw [hR.2]; have := hgK.2; omega⟩
  have hcat : 2 * (F0 m (mz_pc k i) lsA ((as.reverse ++ rest).map (mz_v ad sK sV vF))).monitorRoom + ((rest.map (mz_v ad sK sV vF)).map fun v => v.category).sum ≤ 8 := by
    rw [mz_cats hCx.2.2.2.2.2.2.1]
    show 2 * 0 + rest.length ≤ 8
    omega
  have hsz : (F0 m (mz_pc k i) lsA ((as.reverse ++ rest).map (mz_v ad sK sV vF))).locals.size = mz_L k := hH.2.2.2.2.2.2.1.1
  have hpar : (parseMethodDescriptor (mz_y a).desc).map (fun d => d.parameters.length) = some as.length := by
    rcases m9 with ⟨-, q⟩ | ⟨q1, q2⟩
    · rw [q, hn]
    · exact absurd (mz_W_inj hst q1.1) (by intro h; cases h)
  have hcw := va_cnB (R := R) (s := s) (args := args) (index := x9) (own := (mz_y k).cls) (host := "ParkingEnforcement") (rm := mz_rm9 a σ σ1) (mc := σ1.1 - σ.1) (ms := σ1.2.1 - σ.2.1) as.length hts (mz_goodk m4) rfl rfl rfl (hCx.2.1 _ (mz_N_ok hw)) (hts _ (mz_W_ok m5)) ⟨m2, m3, hpar⟩ hRm
  exact mz_after hH2 h1 h2 h3 hgq (va_runSN (rest := rest.map (mz_v ad sK sV vF)) ⟨hx, hb, hml, hown, hts⟩ hMet ⟨hcw, hts _ (mz_W_ok hst), trivial⟩ ⟨mz_blind, hPre⟩ rfl (by rw [List.length_map]) hsz (by simp) hcat hd hcs) hN hp

theorem mz_s50 (hR : R.cells = σ0.1 - te ∧ R.slots = σ0.2.1 - se) (hok : ∀ k, k < 300 → mz_ok k = true) (hF : mz_F p R s m args meth c D cy sK sV vF β k) (hc : mz_ch1 k i 50 a b c9 x9 y9 = true) (h : mz_st1 (fun ls st σ => mz_gr σ σ0 ∧ mz_K p l e R s m args below meth c D cy sK sV vF β Q ade te se k (i + 1) ls st σ) (fun k9 as σ9 K => ∃ (r1 : Option mz_V) (σ1 : mz_S), mz_gr σ9 σ1 ∧ (mz_wS σ9 → (∀ v ∈ as, mz_wf σ9 v) → as.length = mz_na k9 → ∀ ad, mz_Met l D cy sK sV vF β k9 ad as σ9 r1 σ1) ∧ K r1 σ1) rt (50, a, b, c9, x9, y9) ls st σ) : mz_K p l e R s m args below meth c D cy sK sV vF β Q ade te se k i ls st σ := by
  have hF9 := hF
  obtain ⟨hx, hb, hr, hml, hown, hlk, hnm, hts, hCx, hfr, hlo⟩ := hF
  intro ad lsA H locs h1 h2 h3 hH
  have hS := hH.2.2.2.1
  obtain ⟨as, rest, est, hlen, hN0⟩ := mz_pop_spec h
  rw [List.append_nil] at hN0
  subst est
  have h : mz_rc b as ∧ rest.length ≤ 8 ∧ ∃ (r1 : Option mz_V) (σ1 : mz_S), mz_gr σ σ1 ∧ (mz_wS σ → (∀ v ∈ as, mz_wf σ v) → as.length = mz_na a → ∀ ad, mz_Met l D cy sK sV vF β a ad as σ r1 σ1) ∧ (mz_gr σ1 σ0 ∧ mz_K p l e R s m args below meth c D cy sK sV vF β Q ade te se k (i + 1) ls (r1.toList ++ rest) σ1) := hN0
  obtain ⟨hrc, hl8, r1, σ1, hgq, hM, hgK, hN⟩ := h
  simp only [mz_ch1, mz_call, Bool.and_eq_true, decide_eq_true_eq] at hc
  obtain ⟨⟨⟨⟨⟨⟨⟨hc, hw⟩, hac⟩, hst⟩, hsel⟩, hcn⟩, hb0⟩, hb1⟩ := hc
  obtain ⟨hd, hp⟩ := mz_D_ok hc
  have hka : a < 300 := by rw [← mz_cdL_len]; exact hac.2
  obtain ⟨m1, m2, m3, m4, m5, m6, m7, m8, m9, m10⟩ := mz_mok_ok (hok a hka)
  have hgr := hgq.1
  have hgr2 := hgq.2
  have hn : as.length = mz_na a := by rw [hlen]; exact hac.1.2
  have hdp : mz_dep a < mz_dep k := hac.1.1
  have hMet := hM hS (fun v hv => mz_H_wf hH (List.mem_append_left _ (List.mem_reverse.mpr hv))) hn ad
  have hH2 : mz_H s D cy sK sV vF β k ad σ ls rest lsA H locs := mz_H_st hH fun v hv => mz_H_wf hH (List.mem_append_right _ hv)
  have hPre : ∀ U : State, U.heap = H → s.WarmedH U.vm → mz_Pc D cy sK sV vF β ad σ as (as.map (mz_v ad sK sV vF)).toArray U := fun U hU hW => ⟨rfl, by rw [hU]; exact hH.1, hH.2.1, mz_Cx_go hCx hW (by rw [hU]; exact hH.2.2.1.1) (fun q a1 a2 => by rw [hU]; exact hH.2.2.1.2.1 q a1 a2)⟩
  have hRm : (mz_rm9 a σ σ1).frames + 1 ≤ R.frames ∧ 8 + (mz_L a + 11) + (mz_rm9 a σ σ1).locals ≤ R.locals := ⟨by show mz_dep a + 1 ≤ _; omega, by show 8 + (mz_L a + 11) + 60 * mz_dep a ≤ _; omega⟩
  have hcs : σ.1 - te + (σ1.1 - σ.1) ≤ R.cells ∧ σ.2.1 - se + (σ1.2.1 - σ.2.1) ≤ R.slots := ⟨by rw [hR.1]; have := hgK.1; omega, by rw [hR.2]; have := hgK.2; omega⟩
  have hcat : 2 * (F0 m (mz_pc k i) lsA ((as.reverse ++ rest).map (mz_v ad sK sV vF))).monitorRoom + ((rest.map (mz_v ad sK sV vF)).map fun v => v.category).sum ≤ 8 := by
    rw [mz_cats hCx.2.2.2.2.2.2.1]
    show 2 * 0 + rest.length ≤ 8
    omega
  have hsz : (F0 m (mz_pc k i) lsA ((as.reverse ++ rest).map (mz_v ad sK sV vF))).locals.size = mz_L k := hH.2.2.2.2.2.2.1.1
  rcases as with _ | ⟨v0, as⟩
  · exact False.elim hrc
  rcases v0 with v0 | _ | ⟨t0, z0, o0⟩
  case inl => exact False.elim hrc
  case inr.none => exact False.elim hrc
  have hrc : (t0 : Int) = b := hrc
  have hpar : (parseMethodDescriptor (mz_y a).desc).map (fun d => d.parameters.length) = some as.length := by
    rcases m9 with ⟨q, -⟩ | ⟨q1, q2⟩
    · exact absurd (mz_W_inj q hst) (by intro h; cases h)
    · rw [q2]
      have q1 := q1.2
      have hn : as.length + 1 = mz_na a := hn
      congr 1
      omega
  have hv0 : mz_wf σ (.inr (some (t0, z0, o0))) := mz_H_wf hH (List.mem_append_left _ (List.mem_reverse.mpr List.mem_cons_self))
  have ht0 : t0 = b.toNat := by omega
  have hrec : ∃ q, mz_v ad sK sV vF (.inr (some (t0, z0, o0))) = .ref q ∧ ∃ cellB : Cell, H[q]? = some cellB ∧ cellB.vm.isStatics = false ∧ s.vm.findClass (mz_y a).cls = some cellB.cls := by
    rw [← hcn, ← ht0]
    rcases hb1 with hb1 | hb1
    · have ho := mz_wf_o hv0 (Or.inl (by omega))
      refine ⟨ad o0, mz_v_o (Or.inl (by omega)), ?_⟩
      exact va_recv (q := (mz_cn t0, mz_T t0, mz_nf t0)) hCx.1 hH.1 (mz_cl_at t0 (by omega)) (q0 := o0) (by rw [mz_ws_at _ _ _ ho.1, mz_en_o ho.2 (by omega)])
    · obtain rfl : t0 = 90 := by omega
      have hv : o0 < 18 := hv0
      exact ⟨sK o0, rfl, vk_recv hCx.2.2.2.1 hv hH.2.2.1⟩
  obtain ⟨q0, hq0, hrec⟩ := hrec
  have hcw := callB_of (R := R) (s := s) (args := args) (index := x9) (own := (mz_y k).cls) (rm := mz_rm9 a σ σ1) (mc := σ1.1 - σ.1) (ms := σ1.2.1 - σ.2.1) as.length hts (mz_goodk m4) rfl rfl rfl (hts _ (mz_W_ok m5)) (hts _ (mz_W_ok hw)) ⟨m2, m3, hpar⟩ hRm
  rw [List.map_cons, hq0] at hPre
  exact mz_after hH2 h1 h2 h3 hgq (va_runV (C := (mz_y a).cls) (b := q0) (As := as.map (mz_v ad sK sV vF)) (rest := rest.map (mz_v ad sK sV vF)) ⟨hx, hb, hml, hown, hts⟩ hMet ⟨hcw, hts _ (mz_W_ok hst), hts _ (mz_W_ok hsel)⟩ ⟨mz_blind, hrec, hPre⟩ rfl (by rw [List.length_map]) hsz (by simp [hq0]) hcat hd hcs) hN hp

theorem mz_s51 (hR : R.cells = σ0.1 - te ∧ R.slots = σ0.2.1 - se) (hok : ∀ k, k < 300 → mz_ok k = true) (hF : mz_F p R s m args meth c D cy sK sV vF β k) (hc : mz_ch1 k i 51 a b c9 x9 y9 = true) (h : mz_st1 (fun ls st σ => mz_gr σ σ0 ∧ mz_K p l e R s m args below meth c D cy sK sV vF β Q ade te se k (i + 1) ls st σ) (fun k9 as σ9 K => ∃ (r1 : Option mz_V) (σ1 : mz_S), mz_gr σ9 σ1 ∧ (mz_wS σ9 → (∀ v ∈ as, mz_wf σ9 v) → as.length = mz_na k9 → ∀ ad, mz_Met l D cy sK sV vF β k9 ad as σ9 r1 σ1) ∧ K r1 σ1) rt (51, a, b, c9, x9, y9) ls st σ) : mz_K p l e R s m args below meth c D cy sK sV vF β Q ade te se k i ls st σ := by
  have hF9 := hF
  obtain ⟨hx, hb, hr, hml, hown, hlk, hnm, hts, hCx, hfr, hlo⟩ := hF
  intro ad lsA H locs h1 h2 h3 hH
  have hS := hH.2.2.2.1
  obtain ⟨as, rest, est, hlen, hN0⟩ := mz_pop_spec h
  rw [List.append_nil] at hN0
  subst est
  have h : mz_rc b as ∧ rest.length ≤ 8 ∧ ∃ (r1 : Option mz_V) (σ1 : mz_S), mz_gr σ σ1 ∧ (mz_wS σ → (∀ v ∈ as, mz_wf σ v) → as.length = mz_na a → ∀ ad, mz_Met l D cy sK sV vF β a ad as σ r1 σ1) ∧ (mz_gr σ1 σ0 ∧ mz_K p l e R s m args below meth c D cy sK sV vF β Q ade te se k (i + 1) ls (r1.toList ++ rest) σ1) := hN0
  obtain ⟨hrc, hl8, r1, σ1, hgq, hM, hgK, hN⟩ := h
  simp only [mz_ch1, mz_call, Bool.and_eq_true, decide_eq_true_eq] at hc
  obtain ⟨⟨⟨⟨⟨⟨⟨hc, hw⟩, hac⟩, hst⟩, hini⟩, hrt⟩, hb0⟩, hb1⟩ := hc
  obtain ⟨hd, hp⟩ := mz_D_ok hc
  have hka : a < 300 := by rw [← mz_cdL_len]; exact hac.2
  obtain ⟨m1, m2, m3, m4, m5, m6, m7, m8, m9, m10⟩ := mz_mok_ok (hok a hka)
  have hgr := hgq.1
  have hgr2 := hgq.2
  have hn : as.length = mz_na a := by rw [hlen]; exact hac.1.2
  have hdp : mz_dep a < mz_dep k := hac.1.1
  have hMet := hM hS (fun v hv => mz_H_wf hH (List.mem_append_left _ (List.mem_reverse.mpr hv))) hn ad
  have hH2 : mz_H s D cy sK sV vF β k ad σ ls rest lsA H locs := mz_H_st hH fun v hv => mz_H_wf hH (List.mem_append_right _ hv)
  have hPre : ∀ U : State, U.heap = H → s.WarmedH U.vm → mz_Pc D cy sK sV vF β ad σ as (as.map (mz_v ad sK sV vF)).toArray U := fun U hU hW => ⟨rfl, by rw [hU]; exact hH.1, hH.2.1, mz_Cx_go hCx hW (by rw [hU]; exact hH.2.2.1.1) (fun q a1 a2 => by rw [hU]; exact hH.2.2.1.2.1 q a1 a2)⟩
  have hRm : (mz_rm9 a σ σ1).frames + 1 ≤ R.frames ∧ 8 + (mz_L a + 11) + (mz_rm9 a σ σ1).locals ≤ R.locals := ⟨by show mz_dep a + 1 ≤ _; omega, by show 8 + (mz_L a + 11) + 60 * mz_dep a ≤ _; omega⟩
  have hcs : σ.1 - te + (σ1.1 - σ.1) ≤ R.cells ∧ σ.2.1 - se + (σ1.2.1 - σ.2.1) ≤ R.slots := ⟨by rw [hR.1]; have := hgK.1; omega, by rw [hR.2]; have := hgK.2; omega⟩
  have hcat : 2 * (F0 m (mz_pc k i) lsA ((as.reverse ++ rest).map (mz_v ad sK sV vF))).monitorRoom + ((rest.map (mz_v ad sK sV vF)).map fun v => v.category).sum ≤ 8 := by
    rw [mz_cats hCx.2.2.2.2.2.2.1]
    show 2 * 0 + rest.length ≤ 8
    omega
  have hsz : (F0 m (mz_pc k i) lsA ((as.reverse ++ rest).map (mz_v ad sK sV vF))).locals.size = mz_L k := hH.2.2.2.2.2.2.1.1
  rcases as with _ | ⟨v0, as⟩
  · exact False.elim hrc
  rcases v0 with v0 | _ | ⟨t0, z0, o0⟩
  case inl => exact False.elim hrc
  case inr.none => exact False.elim hrc
  have hrc : (t0 : Int) = b := hrc
  have hpar : (parseMethodDescriptor (mz_y a).desc).map (fun d => d.parameters.length) = some as.length := by
    rcases m9 with ⟨q, -⟩ | ⟨q1, q2⟩
    · exact absurd (mz_W_inj q hst) (by intro h; cases h)
    · rw [q2]
      have q1 := q1.2
      have hn : as.length + 1 = mz_na a := hn
      congr 1
      omega
  have hq0 : mz_v ad sK sV vF (.inr (some (t0, z0, o0))) = .ref (ad o0) := mz_v_o (Or.inl (by omega))
  rw [List.map_cons, hq0] at hPre
  rw [hrt] at m4
  have hMet := hMet
  unfold mz_Met mz_wsk at hMet
  rw [hrt] at hMet
  have hgd := mz_goodk (k := a) (by rw [hrt]; exact m4)
  unfold mz_wsk at hgd
  rw [hrt] at hgd
  have hcw := callB_of (R := R) (s := s) (args := args) (index := x9) (own := (mz_y k).cls) (rm := mz_rm9 a σ σ1) (mc := σ1.1 - σ.1) (ms := σ1.2.1 - σ.2.1) as.length hts hgd rfl rfl rfl (hts _ (mz_W_ok m5)) (hts _ (mz_W_ok hw)) ⟨m2, m3, hpar⟩ hRm
  exact mz_after hH2 h1 h2 h3 hgq (va_runI (b := ad o0) (As := as.map (mz_v ad sK sV vF)) (rest := rest.map (mz_v ad sK sV vF)) ⟨hx, hb, hml, hown, hts⟩ hMet ⟨hcw, hini, hts _ (mz_W_ok hst)⟩ ⟨mz_blind, hPre⟩ rfl (by rw [List.length_map]) hsz (by simp [hq0]) hcat hd hcs) hN hp

theorem mz_s54 (hR : R.cells = σ0.1 - te ∧ R.slots = σ0.2.1 - se) (hok : ∀ k, k < 300 → mz_ok k = true) (hF : mz_F p R s m args meth c D cy sK sV vF β k) (hc : mz_ch1 k i 54 a b c9 x9 y9 = true) (h : mz_st1 (fun ls st σ => mz_gr σ σ0 ∧ mz_K p l e R s m args below meth c D cy sK sV vF β Q ade te se k (i + 1) ls st σ) (fun k9 as σ9 K => ∃ (r1 : Option mz_V) (σ1 : mz_S), mz_gr σ9 σ1 ∧ (mz_wS σ9 → (∀ v ∈ as, mz_wf σ9 v) → as.length = mz_na k9 → ∀ ad, mz_Met l D cy sK sV vF β k9 ad as σ9 r1 σ1) ∧ K r1 σ1) rt (54, a, b, c9, x9, y9) ls st σ) : mz_K p l e R s m args below meth c D cy sK sV vF β Q ade te se k i ls st σ := by
  have hF9 := hF
  obtain ⟨hx, hb, hr, hml, hown, hlk, hnm, hts, hCx, hfr, hlo⟩ := hF
  intro ad lsA H locs h1 h2 h3 hH
  have hS := hH.2.2.2.1
  obtain ⟨as, rest, est, hlen, hN0⟩ := mz_pop_spec h
  rw [List.append_nil] at hN0
  subst est
  have h : mz_rc b as ∧ rest.length ≤ 8 ∧ ∃ (r1 : Option mz_V) (σ1 : mz_S), mz_gr σ σ1 ∧ (mz_wS σ → (∀ v ∈ as, mz_wf σ v) → as.length = mz_na a → ∀ ad, mz_Met l D cy sK sV vF β a ad as σ r1 σ1) ∧ (mz_gr σ1 σ0 ∧ mz_K p l e R s m args below meth c D cy sK sV vF β Q ade te se k (i + 1) ls (r1.toList ++ rest) σ1) := hN0
  obtain ⟨hrc, hl8, r1, σ1, hgq, hM, hgK, hN⟩ := h
  simp only [mz_ch1, mz_call, Bool.and_eq_true, decide_eq_true_eq] at hc
  obtain ⟨⟨⟨⟨⟨⟨⟨hc, hw⟩, hac⟩, hst⟩, hini⟩, hrt⟩, hb0⟩, hb1⟩ := hc
  obtain ⟨hd, hp⟩ := mz_D_ok hc
  have hka : a < 300 := by rw [← mz_cdL_len]; exact hac.2
  obtain ⟨m1, m2, m3, m4, m5, m6, m7, m8, m9, m10⟩ := mz_mok_ok (hok a hka)
  have hgr := hgq.1
  have hgr2 := hgq.2
  have hn : as.length = mz_na a := by rw [hlen]; exact hac.1.2
  have hdp : mz_dep a < mz_dep k := hac.1.1
  have hMet := hM hS (fun v hv => mz_H_wf hH (List.mem_append_left _ (List.mem_reverse.mpr hv))) hn ad
  have hH2 : mz_H s D cy sK sV vF β k ad σ ls rest lsA H locs := mz_H_st hH fun v hv => mz_H_wf hH (List.mem_append_right _ hv)
  have hPre : ∀ U : State, U.heap = H → s.WarmedH U.vm → mz_Pc D cy sK sV vF β ad σ as (as.map (mz_v ad sK sV vF)).toArray U := fun U hU hW => ⟨rfl, by rw [hU]; exact hH.1, hH.2.1, mz_Cx_go hCx hW (by rw [hU]; exact hH.2.2.1.1) (fun q a1 a2 => by rw [hU]; exact hH.2.2.1.2.1 q a1 a2)⟩
  have hRm : (mz_rm9 a σ σ1).frames + 1 ≤ R.frames ∧ 8 + (mz_L a + 11) + (mz_rm9 a σ σ1).locals ≤ R.locals := ⟨by show mz_dep a + 1 ≤ _; omega, by show 8 + (mz_L a + 11) + 60 * mz_dep a ≤ _; omega⟩
  have hcs : σ.1 - te + (σ1.1 - σ.1) ≤ R.cells ∧ σ.2.1 - se + (σ1.2.1 - σ.2.1) ≤ R.slots := ⟨by rw [hR.1]; have := hgK.1; omega, by rw [hR.2]; have := hgK.2; omega⟩
  have hcat : 2 * (F0 m (mz_pc k i) lsA ((as.reverse ++ rest).map (mz_v ad sK sV vF))).monitorRoom + ((rest.map (mz_v ad sK sV vF)).map fun v => v.category).sum ≤ 8 := by
    rw [mz_cats hCx.2.2.2.2.2.2.1]
    show 2 * 0 + rest.length ≤ 8
    omega
  have hsz : (F0 m (mz_pc k i) lsA ((as.reverse ++ rest).map (mz_v ad sK sV vF))).locals.size = mz_L k := hH.2.2.2.2.2.2.1.1
  rcases as with _ | ⟨v0, as⟩
  · exact False.elim hrc
  rcases v0 with v0 | _ | ⟨t0, z0, o0⟩
  case inl => exact False.elim hrc
  case inr.none => exact False.elim hrc
  have hrc : (t0 : Int) = b := hrc
  have hpar : (parseMethodDescriptor (mz_y a).desc).map (fun d => d.parameters.length) = some as.length := by
    rcases m9 with ⟨q, -⟩ | ⟨q1, q2⟩
    · exact absurd (mz_W_inj q hst) (by intro h; cases h)
    · rw [q2]
      have q1 := q1.2
      have hn : as.length + 1 = mz_na a := hn
      congr 1
      omega
  have hq0 : mz_v ad sK sV vF (.inr (some (t0, z0, o0))) = .ref (ad o0) := mz_v_o (Or.inl (by omega))
  rw [List.map_cons, hq0] at hPre
  rw [hrt] at m4
  have hMet := hMet
  unfold mz_Met mz_wsk at hMet
  rw [hrt] at hMet
  have hgd := mz_goodk (k := a) (by rw [hrt]; exact m4)
  unfold mz_wsk at hgd
  rw [hrt] at hgd
  have hcw := va_cnB (R := R) (s := s) (args := args) (index := x9) (own := (mz_y k).cls) (host := "ParkingEnforcement") (rm := mz_rm9 a σ σ1) (mc := σ1.1 - σ.1) (ms := σ1.2.1 - σ.2.1) as.length hts hgd rfl rfl rfl (hCx.2.1 _ (mz_N_ok hw)) (hts _ (mz_W_ok m5)) ⟨m2, m3, hpar⟩ hRm
  exact mz_after hH2 h1 h2 h3 hgq (va_runIN (b := ad o0) (As := as.map (mz_v ad sK sV vF)) (rest := rest.map (mz_v ad sK sV vF)) ⟨hx, hb, hml, hown, hts⟩ hMet ⟨hcw, hini, hts _ (mz_W_ok hst)⟩ ⟨mz_blind, hPre⟩ rfl (by rw [List.length_map]) hsz (by simp [hq0]) hcat hd hcs) hN hp

end Sn7
end
section
theorem mz_ch1_op {k i op a : Nat} {b : Int} {c x y : Nat} (h : mz_ch1 k i op a b c x y = true) : op = 36 ∨ op = 37 ∨ op = 38 ∨ op = 39 ∨ op = 40 ∨ op = 41 ∨ op = 42 ∨ op = 43 ∨ op = 44 ∨ op = 45 ∨ op = 46 ∨ op = 47 ∨ op = 48 ∨ op = 49 ∨ op = 50 ∨ op = 51 ∨ op = 52 ∨ op = 54 ∨ op = 55 ∨ op = 56 ∨ op = 57 ∨ op = 58 ∨ op = 59 ∨ op = 60 ∨ op = 61 ∨ op = 62 ∨ op = 63 ∨ op = 64 ∨ op = 65 ∨ op = 66 ∨ op = 67 ∨ op = 68 ∨ op = 69 ∨ op = 72 ∨ op = 73 ∨ op = 74 ∨ op = 75 ∨ op = 76 ∨ op = 99 := by
  unfold mz_ch1 at h
  simp only at h
  split at h <;> first | (cases h; done) | simp
theorem mz_sl_len {vs : List Value} (h : ∀ v ∈ vs, v.category = 1) : (lg_sl vs).length = vs.length := by
  induction vs with
  | nil => rfl
  | cons v vs ih =>
    have h1 : v.category = 1 := h v List.mem_cons_self
    have e : lg_sl (v :: vs) = [.val v] ++ lg_sl vs := by simp [lg_sl, h1]
    rw [e, List.length_append, ih (fun w hw => h w (List.mem_cons_of_mem _ hw))]
    simp
    omega
theorem mz_args_mem {vs : List Value} (h : ∀ v ∈ vs, v.category = 1) : ∀ {i j : Nat} {v : Value}, vs[j]? = some v → (i + j, v) ∈ lv_args i vs := by
  induction vs with
  | nil => intro i j v hj; simp at hj
  | cons w vs ih =>
    intro i j v hj
    have h1 : w.category = 1 := h w List.mem_cons_self
    unfold lv_args
    rw [if_neg (by rw [h1]; decide)]
    cases j with
    | zero =>
      simp at hj
      subst hj
      exact List.mem_cons_self
    | succ j =>
      have := ih (fun w hw => h w (List.mem_cons_of_mem _ hw)) (i := i + 1) (j := j) (v := v) (by simpa using hj)
      rw [show i + 1 + j = i + (j + 1) by omega] at this
      exact List.mem_cons_of_mem _ this
theorem mz_ent_at {k j : Nat} {as : List mz_V} {v : mz_V} (h : (mz_ent k as)[j]? = some (some v)) : as[j]? = some v := by
  unfold mz_ent at h
  by_cases hj : j < as.length
  · rw [List.getElem?_append_left (by simpa using hj)] at h
    rw [List.getElem?_map] at h
    cases ha : as[j]? with
    | none => rw [ha] at h; simp at h
    | some w => rw [ha] at h; simp at h; rw [h]
  · rw [List.getElem?_append_right (by simpa using hj)] at h
    have := List.mem_of_getElem? h
    simp at this
section Sn8
variable {l : Launch}
theorem mz_met_of {n : Nat} (hok : ∀ k, k < 300 → mz_ok k = true)
    (IH : ∀ (k : Nat), k < 300 → ∀ (i : Nat) (ls : mz_Ls) (st : List mz_V) (σ : mz_S) (r0 : Option mz_V) (σ0 : mz_S), mz_run n k i ls st σ r0 σ0 → ∀ {p : Program} {e : Env} {R : Room} {s : State} {m : MethodId} {args : Array Value} {below : List Frame} {meth : Method} {c : Code} {D : va_G} {cy : Nat → ClassId} {sK sV : Nat → Nat} {vF : Value} {β : Nat} {ade : Nat → Nat} {te se : Nat}, mz_F p R s m args meth c D cy sK sV vF β k → (R.cells = σ0.1 - te ∧ R.slots = σ0.2.1 - se) →
      mz_K p l e R s m args below meth c D cy sK sV vF β (MQ below (mz_Q D cy sK sV vF β ade te r0 σ0) args s (σ0.1 - te) (σ0.2.1 - se) (fun q => β ≤ q)) ade te se k i ls st σ)
    {D : va_G} {cy : Nat → ClassId} {sK sV : Nat → Nat} {vF : Value} {β : Nat} {k : Nat} (hk : k < 300) {as : List mz_V} {σ σ1 : mz_S} {r1 : Option mz_V} (h : mz_run n k 0 (mz_ent k as) [] σ r1 σ1) (hS : mz_wS σ) (hw : ∀ v ∈ as, mz_wf σ v) (hn : as.length = mz_na k) (ad : Nat → Nat) : mz_Met l D cy sK sV vF β k ad as σ r1 σ1 := by
  obtain ⟨m1, m2, m3, m4, m5, m6, m7, m8, m9, m10⟩ := mz_mok_ok (hok k hk)
  unfold mz_Met
  refine Met.ofW (cc := mz_b k) (maxL := mz_L k) (ret := mz_rt k) m1 rfl ?_
  intro p e s m args below meth c s₁ B hml hv
  obtain ⟨rfl, hP, hD, hCx⟩ := hv
  have hts0 := atoms_spec (ws := mz_wsk k) B.pre
  have hF : mz_F p (headSpec (mz_wsk k) (mz_rm9 k σ σ1)).room s m (as.map (mz_v ad sK sV vF)).toArray meth c D cy sK sV vF β k :=
    ⟨B.exec, B.bytes, B.returns, hml, findClass_of_methodNamed B.named, B.notSynchronized, (name_of_methodNamed B.named B.method).1, fun w hw => hts0 w (List.mem_cons_of_mem _ hw), hCx, Nat.le_refl _, Nat.le_refl _⟩
  have hK := IH k hk 0 (mz_ent k as) [] σ r1 σ1 h (e := e) (below := below) (ade := ad) (te := σ.1) (se := σ.2.1) hF ⟨rfl, rfl⟩
  have hcat : ∀ v ∈ as.map (mz_v ad sK sV vF), v.category = 1 := fun v hv => by
    obtain ⟨w, -, rfl⟩ := List.mem_map.mp hv
    exact mz_cat hCx.2.2.2.2.2.2.1 ad sK sV w
  have hl := lv_entry (as.map (mz_v ad sK sV vF)) (n := mz_L k) (by rw [mz_sl_len hcat, List.length_map, hn]; exact m7)
  rw [lg_entry_eq]
  generalize (lg_sl (as.map (mz_v ad sK sV vF)) ++ List.replicate (mz_L k - (lg_sl (as.map (mz_v ad sK sV vF))).length) Slot.unset).toArray = lsA at hl ⊢
  have hH : mz_H s D cy sK sV vF β k ad σ (mz_ent k as) [] lsA s.heap [] := by
    refine ⟨hP, hD, va_S.rf, hS, fun v hv => (by cases hv), fun a v hv => hw v (List.mem_of_getElem? (mz_ent_at hv)), ⟨hl.1, hl.2.1, fun q hq => ?_⟩, ?_⟩
    · obtain ⟨v, e1, e2⟩ := mz_lv_mem.mp hq
      refine hl.2.2 q ?_
      have := mz_args_mem hcat (i := 0) (j := q.1) (v := q.2) (by rw [List.getElem?_map, mz_ent_at e1, e2]; rfl)
      rwa [Nat.zero_add] at this
    · unfold mz_ent
      rw [List.length_append, List.length_map, List.length_replicate, hn]
      omega
  have hw2 := hK ad lsA s.heap [] (fun _ _ => rfl) (Nat.le_refl _) (Nat.le_refl _) hH
  rw [Nat.sub_self, Nat.sub_self, m8] at hw2
  exact hw2
theorem mz_snd (hok : ∀ k, k < 300 → mz_ok k = true) : ∀ (n k : Nat), k < 300 → ∀ (i : Nat) (ls : mz_Ls) (st : List mz_V) (σ : mz_S) (r0 : Option mz_V) (σ0 : mz_S), mz_run n k i ls st σ r0 σ0 → ∀ {p : Program} {e : Env} {R : Room} {s : State} {m : MethodId} {args : Array Value} {below : List Frame} {meth : Method} {c : Code} {D : va_G} {cy : Nat → ClassId} {sK sV : Nat → Nat} {vF : Value} {β : Nat} {ade : Nat → Nat} {te se : Nat}, mz_F p R s m args meth c D cy sK sV vF β k → (R.cells = σ0.1 - te ∧ R.slots = σ0.2.1 - se) →
      mz_K p l e R s m args below meth c D cy sK sV vF β (MQ below (mz_Q D cy sK sV vF β ade te r0 σ0) args s (σ0.1 - te) (σ0.2.1 - se) (fun q => β ≤ q)) ade te se k i ls st σ := by
  intro n
  induction n with
  | zero => intro k hk i ls st σ r0 σ0 h; exact h.elim
  | succ n IH =>
    intro k hk i ls st σ r0 σ0 h p e R s m args below meth c D cy sK sV vF β ade te se hF hR
    unfold mz_run at h
    split at h
    · exact h.elim
    · rename_i e' he
      obtain ⟨m1, m2, m3, m4, m5, m6, m7, m8, m9, m10⟩ := mz_mok_ok (hok k hk)
      have hchk := mz_all_ok m10 i e' he
      rw [Nat.zero_add] at hchk
      obtain ⟨op, a, b, c9, x9, y9⟩ := e'
      unfold mz_stp at h
      unfold mz_chk at hchk
      by_cases hop : op < 36
      · rw [if_pos hop] at h
        have h : mz_st0 (fun ls st σ => mz_run n k (i + 1) ls st σ r0 σ0) (fun a ls st σ => mz_run n k a ls st σ r0 σ0) (op, a, b, c9, x9, y9) ls st σ := h
        rw [if_pos hop] at hchk
        refine mz_sA (op := op) hF hchk ?_
        rcases mz_one0 (call := fun _ _ _ _ => False) (rt := fun _ _ => False) h with ⟨ls, st, σ, h1, hg, h2⟩ | ⟨a, ls, st, σ, h1, hg, h2⟩ | ⟨k', as, ls, st, σ, h1, hg, h2⟩ | ⟨r, σ, h1, hg, h2⟩
        · exact h2 _ _ (fun _ _ _ _ => False) (fun _ _ => False) (IH k hk _ _ _ _ _ _ h1 hF hR)
        · exact h2 _ _ (fun _ _ _ _ => False) (fun _ _ => False) (IH k hk _ _ _ _ _ _ h1 hF hR)
        · exact h1.elim
        · exact h1.elim
      · rw [if_neg hop] at h
        have h : mz_st1 (fun ls st σ => mz_run n k (i + 1) ls st σ r0 σ0) (fun k' as σ K => ∃ r1 σ1, mz_run n k' 0 (mz_ent k' as) [] σ r1 σ1 ∧ K r1 σ1) (fun r σ => r = r0 ∧ σ = σ0) (op, a, b, c9, x9, y9) ls st σ := h
        rw [if_neg hop] at hchk
        have hka : ∀ k', mz_call k k' c9 = true → k' < 300 := fun k' h => by
          simp only [mz_call, Bool.and_eq_true, decide_eq_true_eq] at h
          rw [← mz_cdL_len]
          exact h.2
        have h' : mz_st1 (fun ls st σ => mz_gr σ σ0 ∧ mz_K p l e R s m args below meth c D cy sK sV vF β (MQ below (mz_Q D cy sK sV vF β ade te r0 σ0) args s (σ0.1 - te) (σ0.2.1 - se) (fun q => β ≤ q)) ade te se k (i + 1) ls st σ) (fun k9 as σ9 K => ∃ (r1 : Option mz_V) (σ1 : mz_S), mz_gr σ9 σ1 ∧ (mz_wS σ9 → (∀ v ∈ as, mz_wf σ9 v) → as.length = mz_na k9 → ∀ ad, mz_Met l D cy sK sV vF β k9 ad as σ9 r1 σ1) ∧ K r1 σ1) (fun r σ => r = r0 ∧ σ = σ0) (op, a, b, c9, x9, y9) ls st σ := by
          rcases mz_one1 (jp := fun _ _ _ _ => False) h with ⟨ls, st, σ, h1, hg, h2⟩ | ⟨a, ls, st, σ, h1, hg, h2⟩ | ⟨k', as, ls, st, σ, ⟨r1, σ1, h1, h3⟩, hg, h2⟩ | ⟨r, σ, h1, hg, h2⟩
          · exact h2 _ (fun _ _ _ _ => False) _ _ ⟨mz_run_gr h1, IH k hk _ _ _ _ _ _ h1 hF hR⟩
          · exact h1.elim
          · refine h2 _ (fun _ _ _ _ => False) _ _ ⟨r1, σ1, mz_run_gr h1, fun hS hw hn ad => ?_, mz_run_gr h3, IH k hk _ _ _ _ _ _ h3 hF hR⟩
            by_cases hk' : k' < 300
            · exact mz_met_of hok IH hk' h1 hS hw hn ad
            · exfalso
              have hd : mz_cd k' = [] := by
                unfold mz_cd
                rw [List.getD_eq_getElem?_getD, List.getElem?_eq_none (by rw [mz_cdL_len]; omega)]
                rfl
              cases n with
              | zero => exact h1
              | succ n =>
                unfold mz_run at h1
                rw [hd] at h1
                simp at h1
          · exact h2 _ (fun _ _ _ _ => False) _ _ h1
        have hops := mz_ch1_op hchk
        rcases hops with rfl | rfl | rfl | rfl | rfl | rfl | rfl | rfl | rfl | rfl | rfl | rfl | rfl | rfl | rfl | rfl | rfl | rfl | rfl | rfl | rfl | rfl | rfl | rfl | rfl | rfl | rfl | rfl | rfl | rfl | rfl | rfl | rfl | rfl | rfl | rfl | rfl | rfl | rfl
        · exact mz_s36 hF hchk h'
        · exact mz_s37 hF hchk h'
        · exact mz_s38 hF hchk h'
        · exact mz_s39 hF hchk h'
        · exact mz_s40 hF hchk h'
        · exact mz_s41 hF hchk h'
        · exact mz_s42 hF hchk h'
        · exact mz_s43 hF hchk h'
        · exact mz_s44 hF hchk h'
        · exact mz_s45 hF hchk h'
        · exact mz_s46 hF hchk h'
        · exact mz_s47 hF hchk h'
        · exact mz_s48 hF hchk h'
        · exact mz_s49 hR hok hF hchk h'
        · exact mz_s50 hR hok hF hchk h'
        · exact mz_s51 hR hok hF hchk h'
        · exact mz_s52 hR hok hF hchk h'
        · exact mz_s54 hR hok hF hchk h'
        · exact mz_sR (op := 55) (Or.inl rfl) hF hchk h'
        · exact mz_sR (op := 56) (Or.inr (Or.inl rfl)) hF hchk h'
        · exact mz_sR (op := 57) (Or.inr (Or.inr rfl)) hF hchk h'
        · exact mz_s58 hR hF hchk h'
        · exact mz_s59 hR hF hchk h'
        · exact mz_s60 hR hF hchk h'
        · exact mz_s61 hR hF hchk h'
        · exact mz_s62 hR hF hchk h'
        · exact mz_s63 hR hF hchk h'
        · exact mz_s64 hR hF hchk h'
        · exact mz_s65 hF hchk h'
        · exact mz_s66 hF hchk h'
        · exact mz_s67 hF hchk h'
        · exact mz_s68 hF hchk h'
        · exact mz_s69 hF hchk h'
        · exact mz_s72 hF hchk h'
        · exact mz_s73 hF hchk h'
        · exact mz_s74 hF hchk h'
        · exact mz_s75 hR hF hchk h'
        · exact mz_s76 hR hF hchk h'
        · exact False.elim h'

/-- a method of the small machine by its contract -/
theorem mz_contract (hok : ∀ k, k < 300 → mz_ok k = true) {D : va_G} {cy : Nat → ClassId} {sK sV : Nat → Nat} {vF : Value} {β : Nat} {k : Nat} (hk : k < 300) {as : List mz_V} {σ σ1 : mz_S} {r1 : Option mz_V} (h : mz_cl k as σ r1 σ1) (hS : mz_wS σ) (hw : ∀ v ∈ as, mz_wf σ v) (hn : as.length = mz_na k) (ad : Nat → Nat) : mz_Met l D cy sK sV vF β k ad as σ r1 σ1 := by
  obtain ⟨n, h⟩ := h
  exact mz_met_of hok (mz_snd hok n) hk h hS hw hn ad
end Sn8
end
