section
-- ===== PART A: goes FIRST, ahead of the names: the tables' words, and 'selects' of the private methods out of them =====
/-- a private method of a class that the tables say can be made, by its rows of tables_1 -/
def lw_okq (q : MethodName × Nat) : Prop := (q.1.cls ≠ "java/lang/invoke/MethodHandle" ∧ q.1.cls ≠ "java/lang/invoke/VarHandle") ∧ Cond.instantiable q.1.cls q.2 ∈ tables_1 ∧ Cond.privateMethod q.1 ∈ tables_1 ∧ Cond.instanceMethod q.1 ∈ tables_1
theorem lw_p0 : lw_okq (⟨"java/lang/Throwable", "fillInStackTrace", "(I)Ljava/lang/Throwable;"⟩, 6) := ⟨⟨by decide +kernel, by decide +kernel⟩, List.mem_of_getElem? (i := 265) (by decide +kernel), List.mem_of_getElem? (i := 263) (by decide +kernel), List.mem_of_getElem? (i := 264) (by decide +kernel)⟩
theorem lw_p1 : lw_okq (⟨"OreRailway$State", "lineUp", "()V"⟩, 12) := ⟨⟨by decide +kernel, by decide +kernel⟩, List.mem_of_getElem? (i := 25) (by decide +kernel), List.mem_of_getElem? (i := 495) (by decide +kernel), List.mem_of_getElem? (i := 496) (by decide +kernel)⟩
theorem lw_p2 : lw_okq (⟨"OreRailway$State", "isBefore", "(II)Z"⟩, 12) := ⟨⟨by decide +kernel, by decide +kernel⟩, List.mem_of_getElem? (i := 25) (by decide +kernel), List.mem_of_getElem? (i := 503) (by decide +kernel), List.mem_of_getElem? (i := 504) (by decide +kernel)⟩
theorem lw_p3 : lw_okq (⟨"OreRailway$State", "moveCar", "(I)V"⟩, 12) := ⟨⟨by decide +kernel, by decide +kernel⟩, List.mem_of_getElem? (i := 25) (by decide +kernel), List.mem_of_getElem? (i := 507) (by decide +kernel), List.mem_of_getElem? (i := 508) (by decide +kernel)⟩
theorem lw_p4 : lw_okq (⟨"OreRailway$State", "gradeAt", "(I)I"⟩, 12) := ⟨⟨by decide +kernel, by decide +kernel⟩, List.mem_of_getElem? (i := 25) (by decide +kernel), List.mem_of_getElem? (i := 511) (by decide +kernel), List.mem_of_getElem? (i := 512) (by decide +kernel)⟩
theorem lw_p5 : lw_okq (⟨"OreRailway$State", "nextBefore", "(I)I"⟩, 12) := ⟨⟨by decide +kernel, by decide +kernel⟩, List.mem_of_getElem? (i := 25) (by decide +kernel), List.mem_of_getElem? (i := 533) (by decide +kernel), List.mem_of_getElem? (i := 534) (by decide +kernel)⟩
theorem lw_p6 : lw_okq (⟨"OreRailway$State", "bump", "(LOreRailway$Car;ILOreRailway$Car;)V"⟩, 12) := ⟨⟨by decide +kernel, by decide +kernel⟩, List.mem_of_getElem? (i := 25) (by decide +kernel), List.mem_of_getElem? (i := 537) (by decide +kernel), List.mem_of_getElem? (i := 538) (by decide +kernel)⟩
theorem lw_p7 : lw_okq (⟨"OreRailway$State", "runawaySection", "(III)I"⟩, 12) := ⟨⟨by decide +kernel, by decide +kernel⟩, List.mem_of_getElem? (i := 25) (by decide +kernel), List.mem_of_getElem? (i := 542) (by decide +kernel), List.mem_of_getElem? (i := 543) (by decide +kernel)⟩
theorem lw_p8 : lw_okq (⟨"OreRailway$State", "arrive", "(LOreRailway$Car;)V"⟩, 12) := ⟨⟨by decide +kernel, by decide +kernel⟩, List.mem_of_getElem? (i := 25) (by decide +kernel), List.mem_of_getElem? (i := 546) (by decide +kernel), List.mem_of_getElem? (i := 547) (by decide +kernel)⟩
theorem lw_p9 : lw_okq (⟨"OreRailway$State", "pullOn", "(LOreRailway$Car;)V"⟩, 12) := ⟨⟨by decide +kernel, by decide +kernel⟩, List.mem_of_getElem? (i := 25) (by decide +kernel), List.mem_of_getElem? (i := 551) (by decide +kernel), List.mem_of_getElem? (i := 552) (by decide +kernel)⟩
theorem lw_p10 : lw_okq (⟨"OreRailway", "perform", "(II)Z"⟩, 6) := ⟨⟨by decide +kernel, by decide +kernel⟩, List.mem_of_getElem? (i := 17) (by decide +kernel), List.mem_of_getElem? (i := 581) (by decide +kernel), List.mem_of_getElem? (i := 582) (by decide +kernel)⟩
theorem lw_p11 : lw_okq (⟨"OreRailway", "performOn", "(ICI)Z"⟩, 6) := ⟨⟨by decide +kernel, by decide +kernel⟩, List.mem_of_getElem? (i := 17) (by decide +kernel), List.mem_of_getElem? (i := 590) (by decide +kernel), List.mem_of_getElem? (i := 591) (by decide +kernel)⟩
theorem lw_p12 : lw_okq (⟨"OreRailway", "tryAlone", "(II)I"⟩, 6) := ⟨⟨by decide +kernel, by decide +kernel⟩, List.mem_of_getElem? (i := 17) (by decide +kernel), List.mem_of_getElem? (i := 687) (by decide +kernel), List.mem_of_getElem? (i := 688) (by decide +kernel)⟩
theorem lw_p13 : lw_okq (⟨"OreRailwayModel", "refused", "(I)Z"⟩, 16) := ⟨⟨by decide +kernel, by decide +kernel⟩, List.mem_of_getElem? (i := 714) (by decide +kernel), List.mem_of_getElem? (i := 780) (by decide +kernel), List.mem_of_getElem? (i := 781) (by decide +kernel)⟩
theorem lw_p14 : lw_okq (⟨"OreRailwayModel", "saves", "()V"⟩, 16) := ⟨⟨by decide +kernel, by decide +kernel⟩, List.mem_of_getElem? (i := 714) (by decide +kernel), List.mem_of_getElem? (i := 784) (by decide +kernel), List.mem_of_getElem? (i := 785) (by decide +kernel)⟩
theorem lw_p15 : lw_okq (⟨"OreRailwayModel", "switches", "()I"⟩, 16) := ⟨⟨by decide +kernel, by decide +kernel⟩, List.mem_of_getElem? (i := 714) (by decide +kernel), List.mem_of_getElem? (i := 792) (by decide +kernel), List.mem_of_getElem? (i := 793) (by decide +kernel)⟩
def lw_privs_1 : List (MethodName × Nat) := [(⟨"java/lang/Throwable", "fillInStackTrace", "(I)Ljava/lang/Throwable;"⟩, 6), (⟨"OreRailway$State", "lineUp", "()V"⟩, 12), (⟨"OreRailway$State", "isBefore", "(II)Z"⟩, 12), (⟨"OreRailway$State", "moveCar", "(I)V"⟩, 12), (⟨"OreRailway$State", "gradeAt", "(I)I"⟩, 12), (⟨"OreRailway$State", "nextBefore", "(I)I"⟩, 12), (⟨"OreRailway$State", "bump", "(LOreRailway$Car;ILOreRailway$Car;)V"⟩, 12), (⟨"OreRailway$State", "runawaySection", "(III)I"⟩, 12), (⟨"OreRailway$State", "arrive", "(LOreRailway$Car;)V"⟩, 12), (⟨"OreRailway$State", "pullOn", "(LOreRailway$Car;)V"⟩, 12), (⟨"OreRailway", "perform", "(II)Z"⟩, 6), (⟨"OreRailway", "performOn", "(ICI)Z"⟩, 6), (⟨"OreRailway", "tryAlone", "(II)I"⟩, 6), (⟨"OreRailwayModel", "refused", "(I)Z"⟩, 16), (⟨"OreRailwayModel", "saves", "()V"⟩, 16), (⟨"OreRailwayModel", "switches", "()I"⟩, 16)]
theorem lw_r1 : ∀ q ∈ lw_privs_1, lw_okq q := List.forall_mem_cons.mpr ⟨lw_p0, List.forall_mem_cons.mpr ⟨lw_p1, List.forall_mem_cons.mpr ⟨lw_p2, List.forall_mem_cons.mpr ⟨lw_p3, List.forall_mem_cons.mpr ⟨lw_p4, List.forall_mem_cons.mpr ⟨lw_p5, List.forall_mem_cons.mpr ⟨lw_p6, List.forall_mem_cons.mpr ⟨lw_p7, List.forall_mem_cons.mpr ⟨lw_p8, List.forall_mem_cons.mpr ⟨lw_p9, List.forall_mem_cons.mpr ⟨lw_p10, List.forall_mem_cons.mpr ⟨lw_p11, List.forall_mem_cons.mpr ⟨lw_p12, List.forall_mem_cons.mpr ⟨lw_p13, List.forall_mem_cons.mpr ⟨lw_p14, List.forall_mem_cons.mpr ⟨lw_p15, fun _ h => absurd h List.not_mem_nil⟩⟩⟩⟩⟩⟩⟩⟩⟩⟩⟩⟩⟩⟩⟩⟩
theorem lw_p16 : lw_okq (⟨"OreRailwayModel", "adds", "()I"⟩, 16) := ⟨⟨by decide +kernel, by decide +kernel⟩, List.mem_of_getElem? (i := 714) (by decide +kernel), List.mem_of_getElem? (i := 800) (by decide +kernel), List.mem_of_getElem? (i := 801) (by decide +kernel)⟩
theorem lw_p17 : lw_okq (⟨"OreRailwayModel", "barLoad", "(II)I"⟩, 16) := ⟨⟨by decide +kernel, by decide +kernel⟩, List.mem_of_getElem? (i := 714) (by decide +kernel), List.mem_of_getElem? (i := 811) (by decide +kernel), List.mem_of_getElem? (i := 812) (by decide +kernel)⟩
theorem lw_p18 : lw_okq (⟨"OreRailwayModel", "isCar", "(I)Z"⟩, 16) := ⟨⟨by decide +kernel, by decide +kernel⟩, List.mem_of_getElem? (i := 714) (by decide +kernel), List.mem_of_getElem? (i := 815) (by decide +kernel), List.mem_of_getElem? (i := 816) (by decide +kernel)⟩
theorem lw_p19 : lw_okq (⟨"OreRailwayModel", "isIn", "(II)Z"⟩, 16) := ⟨⟨by decide +kernel, by decide +kernel⟩, List.mem_of_getElem? (i := 714) (by decide +kernel), List.mem_of_getElem? (i := 819) (by decide +kernel), List.mem_of_getElem? (i := 820) (by decide +kernel)⟩
theorem lw_p20 : lw_okq (⟨"OreRailwayModel", "loads", "(II)I"⟩, 16) := ⟨⟨by decide +kernel, by decide +kernel⟩, List.mem_of_getElem? (i := 714) (by decide +kernel), List.mem_of_getElem? (i := 823) (by decide +kernel), List.mem_of_getElem? (i := 824) (by decide +kernel)⟩
theorem lw_p21 : lw_okq (⟨"OreRailwayModel", "releases", "(II)I"⟩, 16) := ⟨⟨by decide +kernel, by decide +kernel⟩, List.mem_of_getElem? (i := 714) (by decide +kernel), List.mem_of_getElem? (i := 834) (by decide +kernel), List.mem_of_getElem? (i := 835) (by decide +kernel)⟩
theorem lw_p22 : lw_okq (⟨"OreRailwayModel", "noRelease", "(I)I"⟩, 16) := ⟨⟨by decide +kernel, by decide +kernel⟩, List.mem_of_getElem? (i := 714) (by decide +kernel), List.mem_of_getElem? (i := 838) (by decide +kernel), List.mem_of_getElem? (i := 839) (by decide +kernel)⟩
theorem lw_p23 : lw_okq (⟨"OreRailwayModel", "barBrake", "(II)I"⟩, 16) := ⟨⟨by decide +kernel, by decide +kernel⟩, List.mem_of_getElem? (i := 714) (by decide +kernel), List.mem_of_getElem? (i := 846) (by decide +kernel), List.mem_of_getElem? (i := 847) (by decide +kernel)⟩
theorem lw_p24 : lw_okq (⟨"OreRailwayModel", "brakes", "(II)I"⟩, 16) := ⟨⟨by decide +kernel, by decide +kernel⟩, List.mem_of_getElem? (i := 714) (by decide +kernel), List.mem_of_getElem? (i := 850) (by decide +kernel), List.mem_of_getElem? (i := 851) (by decide +kernel)⟩
theorem lw_p25 : lw_okq (⟨"OreRailwayModel", "pulls", "(I)I"⟩, 16) := ⟨⟨by decide +kernel, by decide +kernel⟩, List.mem_of_getElem? (i := 714) (by decide +kernel), List.mem_of_getElem? (i := 858) (by decide +kernel), List.mem_of_getElem? (i := 859) (by decide +kernel)⟩
theorem lw_p26 : lw_okq (⟨"OreRailwayModel", "noPull", "(I)I"⟩, 16) := ⟨⟨by decide +kernel, by decide +kernel⟩, List.mem_of_getElem? (i := 714) (by decide +kernel), List.mem_of_getElem? (i := 862) (by decide +kernel), List.mem_of_getElem? (i := 863) (by decide +kernel)⟩
theorem lw_p27 : lw_okq (⟨"OreRailwayModel", "mules", "()I"⟩, 16) := ⟨⟨by decide +kernel, by decide +kernel⟩, List.mem_of_getElem? (i := 714) (by decide +kernel), List.mem_of_getElem? (i := 866) (by decide +kernel), List.mem_of_getElem? (i := 867) (by decide +kernel)⟩
theorem lw_p28 : lw_okq (⟨"OreRailwayModel", "pulled", "()I"⟩, 16) := ⟨⟨by decide +kernel, by decide +kernel⟩, List.mem_of_getElem? (i := 714) (by decide +kernel), List.mem_of_getElem? (i := 870) (by decide +kernel), List.mem_of_getElem? (i := 871) (by decide +kernel)⟩
theorem lw_p29 : lw_okq (⟨"OreRailwayModel", "runs", "(I)I"⟩, 16) := ⟨⟨by decide +kernel, by decide +kernel⟩, List.mem_of_getElem? (i := 714) (by decide +kernel), List.mem_of_getElem? (i := 888) (by decide +kernel), List.mem_of_getElem? (i := 889) (by decide +kernel)⟩
theorem lw_p30 : lw_okq (⟨"OreRailwayModel", "tick", "()V"⟩, 16) := ⟨⟨by decide +kernel, by decide +kernel⟩, List.mem_of_getElem? (i := 714) (by decide +kernel), List.mem_of_getElem? (i := 892) (by decide +kernel), List.mem_of_getElem? (i := 893) (by decide +kernel)⟩
theorem lw_p31 : lw_okq (⟨"OreRailwayModel", "notes", "()I"⟩, 16) := ⟨⟨by decide +kernel, by decide +kernel⟩, List.mem_of_getElem? (i := 714) (by decide +kernel), List.mem_of_getElem? (i := 896) (by decide +kernel), List.mem_of_getElem? (i := 897) (by decide +kernel)⟩
def lw_privs_2 : List (MethodName × Nat) := [(⟨"OreRailwayModel", "adds", "()I"⟩, 16), (⟨"OreRailwayModel", "barLoad", "(II)I"⟩, 16), (⟨"OreRailwayModel", "isCar", "(I)Z"⟩, 16), (⟨"OreRailwayModel", "isIn", "(II)Z"⟩, 16), (⟨"OreRailwayModel", "loads", "(II)I"⟩, 16), (⟨"OreRailwayModel", "releases", "(II)I"⟩, 16), (⟨"OreRailwayModel", "noRelease", "(I)I"⟩, 16), (⟨"OreRailwayModel", "barBrake", "(II)I"⟩, 16), (⟨"OreRailwayModel", "brakes", "(II)I"⟩, 16), (⟨"OreRailwayModel", "pulls", "(I)I"⟩, 16), (⟨"OreRailwayModel", "noPull", "(I)I"⟩, 16), (⟨"OreRailwayModel", "mules", "()I"⟩, 16), (⟨"OreRailwayModel", "pulled", "()I"⟩, 16), (⟨"OreRailwayModel", "runs", "(I)I"⟩, 16), (⟨"OreRailwayModel", "tick", "()V"⟩, 16), (⟨"OreRailwayModel", "notes", "()I"⟩, 16)]
theorem lw_r2 : ∀ q ∈ lw_privs_2, lw_okq q := List.forall_mem_cons.mpr ⟨lw_p16, List.forall_mem_cons.mpr ⟨lw_p17, List.forall_mem_cons.mpr ⟨lw_p18, List.forall_mem_cons.mpr ⟨lw_p19, List.forall_mem_cons.mpr ⟨lw_p20, List.forall_mem_cons.mpr ⟨lw_p21, List.forall_mem_cons.mpr ⟨lw_p22, List.forall_mem_cons.mpr ⟨lw_p23, List.forall_mem_cons.mpr ⟨lw_p24, List.forall_mem_cons.mpr ⟨lw_p25, List.forall_mem_cons.mpr ⟨lw_p26, List.forall_mem_cons.mpr ⟨lw_p27, List.forall_mem_cons.mpr ⟨lw_p28, List.forall_mem_cons.mpr ⟨lw_p29, List.forall_mem_cons.mpr ⟨lw_p30, List.forall_mem_cons.mpr ⟨lw_p31, fun _ h => absurd h List.not_mem_nil⟩⟩⟩⟩⟩⟩⟩⟩⟩⟩⟩⟩⟩⟩⟩⟩
theorem lw_p32 : lw_okq (⟨"OreRailwayModel", "isAhead", "(II)Z"⟩, 16) := ⟨⟨by decide +kernel, by decide +kernel⟩, List.mem_of_getElem? (i := 714) (by decide +kernel), List.mem_of_getElem? (i := 900) (by decide +kernel), List.mem_of_getElem? (i := 901) (by decide +kernel)⟩
theorem lw_p33 : lw_okq (⟨"OreRailwayModel", "moves", "(I)V"⟩, 16) := ⟨⟨by decide +kernel, by decide +kernel⟩, List.mem_of_getElem? (i := 714) (by decide +kernel), List.mem_of_getElem? (i := 904) (by decide +kernel), List.mem_of_getElem? (i := 905) (by decide +kernel)⟩
theorem lw_p34 : lw_okq (⟨"OreRailwayModel", "force", "(I)I"⟩, 16) := ⟨⟨by decide +kernel, by decide +kernel⟩, List.mem_of_getElem? (i := 714) (by decide +kernel), List.mem_of_getElem? (i := 908) (by decide +kernel), List.mem_of_getElem? (i := 909) (by decide +kernel)⟩
theorem lw_p35 : lw_okq (⟨"OreRailwayModel", "before", "(I)I"⟩, 16) := ⟨⟨by decide +kernel, by decide +kernel⟩, List.mem_of_getElem? (i := 714) (by decide +kernel), List.mem_of_getElem? (i := 915) (by decide +kernel), List.mem_of_getElem? (i := 916) (by decide +kernel)⟩
theorem lw_p36 : lw_okq (⟨"OreRailwayModel", "arrives", "(II)V"⟩, 16) := ⟨⟨by decide +kernel, by decide +kernel⟩, List.mem_of_getElem? (i := 714) (by decide +kernel), List.mem_of_getElem? (i := 919) (by decide +kernel), List.mem_of_getElem? (i := 920) (by decide +kernel)⟩
theorem lw_p37 : lw_okq (⟨"OreRailwayModel", "isWhole", "()Z"⟩, 16) := ⟨⟨by decide +kernel, by decide +kernel⟩, List.mem_of_getElem? (i := 714) (by decide +kernel), List.mem_of_getElem? (i := 935) (by decide +kernel), List.mem_of_getElem? (i := 936) (by decide +kernel)⟩
theorem lw_p38 : lw_okq (⟨"OreRailwayModel", "order", "()V"⟩, 16) := ⟨⟨by decide +kernel, by decide +kernel⟩, List.mem_of_getElem? (i := 714) (by decide +kernel), List.mem_of_getElem? (i := 939) (by decide +kernel), List.mem_of_getElem? (i := 940) (by decide +kernel)⟩
theorem lw_p39 : lw_okq (⟨"OreRailwayModel", "next", "()I"⟩, 16) := ⟨⟨by decide +kernel, by decide +kernel⟩, List.mem_of_getElem? (i := 714) (by decide +kernel), List.mem_of_getElem? (i := 943) (by decide +kernel), List.mem_of_getElem? (i := 944) (by decide +kernel)⟩
theorem lw_p40 : lw_okq (⟨"OreRailwayModel", "number", "(I)I"⟩, 16) := ⟨⟨by decide +kernel, by decide +kernel⟩, List.mem_of_getElem? (i := 714) (by decide +kernel), List.mem_of_getElem? (i := 947) (by decide +kernel), List.mem_of_getElem? (i := 948) (by decide +kernel)⟩
theorem lw_p41 : lw_okq (⟨"OreRailwayModel", "digit", "(II)I"⟩, 16) := ⟨⟨by decide +kernel, by decide +kernel⟩, List.mem_of_getElem? (i := 714) (by decide +kernel), List.mem_of_getElem? (i := 951) (by decide +kernel), List.mem_of_getElem? (i := 952) (by decide +kernel)⟩
theorem lw_p42 : lw_okq (⟨"OreRailwayModel", "sign", "(I)V"⟩, 16) := ⟨⟨by decide +kernel, by decide +kernel⟩, List.mem_of_getElem? (i := 714) (by decide +kernel), List.mem_of_getElem? (i := 955) (by decide +kernel), List.mem_of_getElem? (i := 956) (by decide +kernel)⟩
theorem lw_p43 : lw_okq (⟨"OreRailwayModel", "does", "()Z"⟩, 16) := ⟨⟨by decide +kernel, by decide +kernel⟩, List.mem_of_getElem? (i := 714) (by decide +kernel), List.mem_of_getElem? (i := 963) (by decide +kernel), List.mem_of_getElem? (i := 964) (by decide +kernel)⟩
theorem lw_p44 : lw_okq (⟨"OreRailwayModel", "carsAt", "(II)I"⟩, 16) := ⟨⟨by decide +kernel, by decide +kernel⟩, List.mem_of_getElem? (i := 714) (by decide +kernel), List.mem_of_getElem? (i := 983) (by decide +kernel), List.mem_of_getElem? (i := 984) (by decide +kernel)⟩
theorem lw_p45 : lw_okq (⟨"OreRailwayModel", "inCars", "()I"⟩, 16) := ⟨⟨by decide +kernel, by decide +kernel⟩, List.mem_of_getElem? (i := 714) (by decide +kernel), List.mem_of_getElem? (i := 1003) (by decide +kernel), List.mem_of_getElem? (i := 1004) (by decide +kernel)⟩
theorem lw_p46 : lw_okq (⟨"OreRailwayModel", "alone", "(III)I"⟩, 16) := ⟨⟨by decide +kernel, by decide +kernel⟩, List.mem_of_getElem? (i := 714) (by decide +kernel), List.mem_of_getElem? (i := 1015) (by decide +kernel), List.mem_of_getElem? (i := 1016) (by decide +kernel)⟩
theorem lw_p47 : lw_okq (⟨"OreRailwayModel", "putAside", "()V"⟩, 16) := ⟨⟨by decide +kernel, by decide +kernel⟩, List.mem_of_getElem? (i := 714) (by decide +kernel), List.mem_of_getElem? (i := 1019) (by decide +kernel), List.mem_of_getElem? (i := 1020) (by decide +kernel)⟩
def lw_privs_3 : List (MethodName × Nat) := [(⟨"OreRailwayModel", "isAhead", "(II)Z"⟩, 16), (⟨"OreRailwayModel", "moves", "(I)V"⟩, 16), (⟨"OreRailwayModel", "force", "(I)I"⟩, 16), (⟨"OreRailwayModel", "before", "(I)I"⟩, 16), (⟨"OreRailwayModel", "arrives", "(II)V"⟩, 16), (⟨"OreRailwayModel", "isWhole", "()Z"⟩, 16), (⟨"OreRailwayModel", "order", "()V"⟩, 16), (⟨"OreRailwayModel", "next", "()I"⟩, 16), (⟨"OreRailwayModel", "number", "(I)I"⟩, 16), (⟨"OreRailwayModel", "digit", "(II)I"⟩, 16), (⟨"OreRailwayModel", "sign", "(I)V"⟩, 16), (⟨"OreRailwayModel", "does", "()Z"⟩, 16), (⟨"OreRailwayModel", "carsAt", "(II)I"⟩, 16), (⟨"OreRailwayModel", "inCars", "()I"⟩, 16), (⟨"OreRailwayModel", "alone", "(III)I"⟩, 16), (⟨"OreRailwayModel", "putAside", "()V"⟩, 16)]
theorem lw_r3 : ∀ q ∈ lw_privs_3, lw_okq q := List.forall_mem_cons.mpr ⟨lw_p32, List.forall_mem_cons.mpr ⟨lw_p33, List.forall_mem_cons.mpr ⟨lw_p34, List.forall_mem_cons.mpr ⟨lw_p35, List.forall_mem_cons.mpr ⟨lw_p36, List.forall_mem_cons.mpr ⟨lw_p37, List.forall_mem_cons.mpr ⟨lw_p38, List.forall_mem_cons.mpr ⟨lw_p39, List.forall_mem_cons.mpr ⟨lw_p40, List.forall_mem_cons.mpr ⟨lw_p41, List.forall_mem_cons.mpr ⟨lw_p42, List.forall_mem_cons.mpr ⟨lw_p43, List.forall_mem_cons.mpr ⟨lw_p44, List.forall_mem_cons.mpr ⟨lw_p45, List.forall_mem_cons.mpr ⟨lw_p46, List.forall_mem_cons.mpr ⟨lw_p47, fun _ h => absurd h List.not_mem_nil⟩⟩⟩⟩⟩⟩⟩⟩⟩⟩⟩⟩⟩⟩⟩⟩
theorem lw_p48 : lw_okq (⟨"OreRailwayModel", "putBack", "()V"⟩, 16) := ⟨⟨by decide +kernel, by decide +kernel⟩, List.mem_of_getElem? (i := 714) (by decide +kernel), List.mem_of_getElem? (i := 1023) (by decide +kernel), List.mem_of_getElem? (i := 1024) (by decide +kernel)⟩
theorem lw_p49 : lw_okq (⟨"OreRailwayModel", "allBumps", "()I"⟩, 16) := ⟨⟨by decide +kernel, by decide +kernel⟩, List.mem_of_getElem? (i := 714) (by decide +kernel), List.mem_of_getElem? (i := 1035) (by decide +kernel), List.mem_of_getElem? (i := 1036) (by decide +kernel)⟩
def lw_privs_4 : List (MethodName × Nat) := [(⟨"OreRailwayModel", "putBack", "()V"⟩, 16), (⟨"OreRailwayModel", "allBumps", "()I"⟩, 16)]
theorem lw_r4 : ∀ q ∈ lw_privs_4, lw_okq q := List.forall_mem_cons.mpr ⟨lw_p48, List.forall_mem_cons.mpr ⟨lw_p49, fun _ h => absurd h List.not_mem_nil⟩⟩
def lw_privs : List (MethodName × Nat) := lw_privs_1 ++ (lw_privs_2 ++ (lw_privs_3 ++ (lw_privs_4)))
def lw_tbl : List Cond := k2_sels lw_privs ++ tables_1
theorem lw_privs_ok : ∀ q ∈ lw_privs, lw_okq q := by
  show ∀ q ∈ lw_privs_1 ++ (lw_privs_2 ++ (lw_privs_3 ++ (lw_privs_4))), lw_okq q
  exact List.forall_mem_append.mpr ⟨lw_r1, List.forall_mem_append.mpr ⟨lw_r2, List.forall_mem_append.mpr ⟨lw_r3, lw_r4⟩⟩⟩
/-- the streams that the claim lets the run draw from -/
abbrev lw_cs : List Choice := [Jvm.Choice.named "NaN.bits"]
theorem lw_bits : nanBits ∈ lw_cs := by first | decide | exact List.mem_cons_self | simp [lw_cs, nanBits]
end
section
/-! ===== BEGIN words of one list among another's, by their places ===== -/
theorem goodIn_r {big : List Cond} (ws : List Cond) (ps : List Nat) (hp : ws = ps.filterMap (fun i => big[i]?)) (h : ws.all goodWord = true) : GoodIn big ws := by
  intro w hw
  have h1 := List.all_eq_true.mp h w hw
  rw [hp] at hw
  obtain ⟨i, -, hi⟩ := List.mem_filterMap.mp hw
  have hm : w ∈ big := by first | exact List.mem_of_getElem? hi | exact List.getElem?_mem hi
  exact ⟨hm, good_of_word h1⟩
theorem goodIn_app {big a b : List Cond} (ha : GoodIn big a) (hb : GoodIn big b) : GoodIn big (a ++ b) := fun w h => (List.mem_append.mp h).elim (ha w) (hb w)
theorem goodIn_ca {big a b : List Cond} {c : Cond} (ha : GoodIn big (c :: a)) (hb : GoodIn big b) : GoodIn big (c :: (a ++ b)) := fun w h => (List.mem_cons.mp h).elim (fun e => ha w (List.mem_cons.mpr (Or.inl e))) (fun h => (List.mem_append.mp h).elim (fun h => ha w (List.mem_cons.mpr (Or.inr h))) (hb w))
theorem goodIn_sub {big ws : List Cond} (hm : ∀ w ∈ ws, w ∈ big) (h : ws.all goodWord = true) : GoodIn big ws := fun w hw => ⟨hm w hw, good_of_word (List.all_eq_true.mp h w hw)⟩
/-! ===== END ===== -/

/-! ===== BEGIN exceptions that leave a method, and their catching by the caller (launches without stack traces) ===== -/
section VXA
/-! The laws vx_back, vx_callV, vx_callS, vx_callSW, vx_throw0, vx_throwS follow proofs of the library, with one case more: JvmDerived/Free/Laws.lean (Back.of_free), Shelf42/LK1.lean (callV, callS), Shelf/KitTraced.lean (throwNew0V, throwNewS). -/
/-- where a method has thrown q: the class by its name, the cell, what was written, the world -/
def vx_T (XC : String → State → State → Prop) (st : State) (q : Addr) (t : State) (mc ms : Nat) (free : Addr → Prop) : Prop :=
  ∃ (E : String) (ce : Cell) (L : List Loc), XC E st t ∧ t.heap[q]? = some ce ∧ ce.vm = .none ∧ st.vm.findClass E = some ce.cls ∧ st.WarmedH t.vm ∧ st.sameButNew ({ t with vm := st.vm } : State) L mc ms ∧ ∀ z ∈ L, free z.base
def vx_Q (Qc : Array Value → State → Outcome → State → Prop) (XC : String → State → State → Prop) (mc ms : Nat) (free : Addr → Prop) : Array Value → State → Outcome → State → Prop := fun a st o t =>
  (Qc a st o t ∧ ∃ L, FrameEnd st o t L mc ms ∧ ∀ q ∈ L, free q.base) ∨ ∃ q, o = .threw q ∧ vx_T XC st q t mc ms free
/-- a callee that returns or throws -/
def vx_Met (l : Launch) (y : MethodName) (ws : List Cond) (rm : Room) (Pc : Array Value → State → Prop) (Qc : Array Value → State → Outcome → State → Prop) (XC : String → State → State → Prop) (mc ms : Nat) (free : Addr → Prop) : Prop :=
  MetFree l y (headSpec ws rm) Pc (fun _ _ _ _ _ => True) (vx_Q Qc XC mc ms free)
def vx_Post (XC : String → State → State → Prop) (mc ms : Nat) (free : Addr → Prop) : Pt → Array Value → Addr → Pt → Prop := fun A a q B =>
  ∃ (g : JFrame) (mk : MethodId) (t : State) (L : List Loc) (E : String) (ce : Cell), B.U.heap = t.heap ∧ B.U.vm = t.vm ∧ XC E (A.U.calling g mk a) t ∧ t.heap[q]? = some ce ∧ ce.vm = .none ∧ A.U.vm.findClass E = some ce.cls ∧ B.locs = A.locs ++ L ∧ (∀ z ∈ L, free z.base) ∧ B.cells = A.cells + mc ∧ B.slots = A.slots + ms
def vx_Back (l : Launch) (R : Room) (p : Program) (e : Env) (below : List Frame) (s : State) (sargs : Array Value) (y : MethodName) (len W9 : Nat)
    (Pre : Pt → Array Value → Prop) (Post : Pt → Array Value → Option Value → Pt → Prop) (PostX : Pt → Array Value → Addr → Pt → Prop) : Prop :=
  ∀ (m : MethodId) (meth : Method) (c : Code) (A : Pt) (g : JFrame) (ig : Instr) (mk : MethodId) (a : Array Value),
    Stand p l e R s m sargs below meth c A.U A.locs A.cells A.slots → g.method = m → g.locals.size = c.maxLocals → decode c.code g.pc = .ok (ig, len) →
    2 * g.monitorRoom + (g.stack.map fun v => v.category).sum ≤ W9 → A.U.methodNamed? y = some mk → Pre A a →
    (∃ (v : Option Value) (B : Pt), Stand p l e R s m sargs below meth c B.U B.locs B.cells B.slots ∧ Post A a v B ∧
      Steps p.tables e below (doInvoke e (A.U.setTop g) [] mk a).1 (B.U.setTop { g with pc := g.pc + len, stack := v.toList ++ g.stack })) ∨
    (∃ (q : Addr) (B : Pt), Stand p l e R s m sargs below meth c B.U B.locs B.cells B.slots ∧ PostX A a q B ∧
      Steps p.tables e below (doInvoke e (A.U.setTop g) [] mk a).1 ((B.U.setTop g).pushFrame (.throwing q)))
section Payer
variable {l : Launch} {R : Room} {p : Program} {e : Env} {below : List Frame} {s : State} {sargs : Array Value} {y : MethodName} {len W9 : Nat}
theorem vx_back {ws : List Cond} {rm : Room} {Pc : Array Value → State → Prop} {Qc : Array Value → State → Outcome → State → Prop} {XC : String → State → State → Prop} {mc ms : Nat} {free : Addr → Prop} {bytes : ByteArray} {maxL : Nat} {ret : Option FieldType}
    (hM : vx_Met l y ws rm Pc Qc XC mc ms free) (hblind : FrameBlind Pc) (hrc : rm.cells = mc) (hrs : rm.slots = ms)
    (hframes : rm.frames + 1 ≤ R.frames) (hlocals : W9 + (maxL + 11) + rm.locals ≤ R.locals)
    (hws : ∀ w ∈ ws, ∀ a' U, s.WarmedH U.vm → w.before a' U = true) (hcode : Cond.code y bytes maxL ret ∈ ws) (hinit : ∀ a' U, s.WarmedH U.vm → (Cond.initialized y.cls).before a' U = true) :
    vx_Back l R p e below s sargs y len W9 (PreOf R mc ms Pc) (PostOf Qc mc ms free) (vx_Post XC mc ms free) := by
  intro m meth c A g ig mk a X hg hsize hdg hW hn hp
  have h1 : (headSpec ws rm).pre.before a A.U = true := atoms_intro fun w hw => hws w hw _ _ X.warmed
  have h2 : (Cond.code y bytes maxL ret).before a A.U = true := hws _ hcode _ _ X.warmed
  have h3 : (Cond.initialized y.cls).before a A.U = true := hinit _ _ X.warmed
  have h4 : A.cells + (headSpec ws rm).room.cells ≤ R.cells := by rw [show (headSpec ws rm).room.cells = mc from hrc]; exact hp.1
  have h5 : A.slots + (headSpec ws rm).room.slots ≤ R.slots := by rw [show (headSpec ws rm).room.slots = ms from hrs]; exact hp.2.1
  have hPc : Pc a (A.U.calling g mk a) := hblind _ _ _ _ hp.2.2
  obtain ⟨U, Ls, c0, s0⟩ := A
  dsimp only [Pt.U, Pt.locs, Pt.cells, Pt.slots] at h1 h2 h3 h4 h5 X hn hPc ⊢
  obtain ⟨methY, cY, hmY, hcY, -, hlY, -, -, -, -⟩ := Cond.code_spec hn h2
  obtain ⟨kY, hkY, -⟩ := className_of_methodNamed hn
  have hinitY : kY.init = .initialized := Cond.initialized_spec (findClass_of_methodNamed hn) hkY h3
  have h : At U g.method c below := by rw [hg]; exact X.here
  have hlocals9 : W9 + (maxL + 11) + (headSpec ws rm).room.locals ≤ R.locals := hlocals
  have happ : (headSpec ws rm).appliesLoose y e.platform (U.calling g mk a) = true :=
    Spec.appliesLoose_calling (g := g) h hdg hn hkY hinitY
      (X.room_calling (g := g) (R' := (headSpec ws rm).room) hsize hmY hcY hframes (by rw [hlY]; omega) h4 h5) h1
  obtain ⟨mid, hmid⟩ := h.above
  have hfr : (U.setTop g).frames = (.java g :: mid) ++ below := by rw [State.frames_setTop' g h.top, hmid]; rfl
  obtain ⟨o, s₂, hsteps, -, hend, hq⟩ := Steps.callFree hM p X.admits X.cas X.clock (acts := []) hfr happ hPc trivial
  have hq' : vx_Q Qc XC mc ms free a (U.calling g mk a) o s₂ := hq
  rw [State.frames_setTop' g h.top] at hend
  obtain ⟨g₀, hg0⟩ := Option.isSome_iff_exists.mp h.top
  obtain ⟨r, hr⟩ := State.topJava?_eq_some.mp hg0
  have hr' : (({ U with heap := s₂.heap, slotsUsed := s₂.slotsUsed } : State).setVm s₂.vm).frames = .java g₀ :: r := hr
  rcases hq' with ⟨hqc, L, hfe, hL⟩ | ⟨q, rfl, E, ce, L, hx, hce, hcv, hcl, hW₂, hsm, hL⟩
  · obtain ⟨⟨v, rfl⟩, hW₂, e2, q2, q3, q4, q5, q6⟩ := id hfe
    have e3 : s₂ = ({ (U.calling g mk a).setFrames s₂.frames with heap := s₂.heap, slotsUsed := s₂.slotsUsed } : State).setVm s₂.vm := by
      have : s₂ = ({ s₂ with vm := (U.calling g mk a).vm } : State).setVm s₂.vm := rfl
      rw [e2] at this
      exact this
    obtain ⟨c₂, i₂, len₂, hc₂, hd₂, hf₂⟩ := hend
    have hW' : U.WarmedH s₂.vm := hW₂
    have hcc : c₂ = c := by
      have h1 : s₂.code? g.method = U.code? g.method := by
        rw [State.code?_eq, State.code?_eq, hW'.alike.method?]
      exact Option.some.inj (hc₂.symm.trans (h1.trans h.code))
    subst hcc
    have hlen : len₂ = len := by rw [hdg] at hd₂; cases hd₂; rfl
    subst hlen
    have hs₂ : s₂ = (({ U with heap := s₂.heap, slotsUsed := s₂.slotsUsed } : State).setVm s₂.vm).setTop { g with pc := g.pc + len₂, stack := v.toList ++ g.stack } := by
      refine e3.trans ?_
      rw [hf₂, State.calling_eq h.top, State.setFrames_setFrames, State.setTop_of_frames _ hr', hr]
      rfl
    have hsame : U.sameButNew ({ U with heap := s₂.heap, slotsUsed := s₂.slotsUsed } : State) L mc ms := by
      refine ⟨?_, q2, q3, q4, q5, q6⟩
      obtain ⟨t, ht, -⟩ := State.frames_cons hr
      show ({ U with heap := s₂.heap, slotsUsed := s₂.slotsUsed } : State) = { U.setFrames U.frames with heap := s₂.heap, slotsUsed := s₂.slotsUsed }
      rw [State.setFrames_self ht]
    subst hg
    refine Or.inl ⟨v, ⟨(({ U with heap := s₂.heap, slotsUsed := s₂.slotsUsed } : State).setVm s₂.vm), Ls ++ L, c0 + mc, s0 + ms⟩,
      ⟨X.admits, X.cas, X.clock, X.frames, X.room, X.hears, X.method, X.code, (X.here.setHeapUsed s₂.heap s₂.slotsUsed).setVm hW'.alike, X.tail, State.WarmedH.trans X.warmed hW', X.limits, X.bytes, X.same.trans (hsame.setVm s.vm)⟩,
      ⟨g, mk, s₂, L, rfl, rfl, hqc, rfl, hL, rfl, rfl⟩, ?_⟩
    show Steps p.tables e below _ ((({ U with heap := s₂.heap, slotsUsed := s₂.slotsUsed } : State).setVm s₂.vm).setTop { g with pc := g.pc + len₂, stack := v.toList ++ g.stack })
    rw [← hs₂]
    exact hsteps
  · obtain ⟨e2, q2, q3, q4, q5, q6⟩ := id hsm
    have e3 : s₂ = ({ (U.calling g mk a).setFrames s₂.frames with heap := s₂.heap, slotsUsed := s₂.slotsUsed } : State).setVm s₂.vm := by
      have : s₂ = ({ s₂ with vm := (U.calling g mk a).vm } : State).setVm s₂.vm := rfl
      rw [e2] at this
      exact this
    have hf₂ : s₂.frames = .throwing q :: .java g :: U.frames.tail := hend
    have hW' : U.WarmedH s₂.vm := hW₂
    have hs₂ : s₂ = ((({ U with heap := s₂.heap, slotsUsed := s₂.slotsUsed } : State).setVm s₂.vm).setTop g).pushFrame (.throwing q) := by
      refine e3.trans ?_
      rw [hf₂, State.calling_eq h.top, State.setFrames_setFrames, State.pushFrame, State.frames_setTop _ hr', State.setTop_of_frames _ hr', State.setFrames_setFrames, hr]
      rfl
    have hsame : U.sameButNew ({ U with heap := s₂.heap, slotsUsed := s₂.slotsUsed } : State) L mc ms := by
      refine ⟨?_, q2, q3, q4, q5, q6⟩
      obtain ⟨t, ht, -⟩ := State.frames_cons hr
      show ({ U with heap := s₂.heap, slotsUsed := s₂.slotsUsed } : State) = { U.setFrames U.frames with heap := s₂.heap, slotsUsed := s₂.slotsUsed }
      rw [State.setFrames_self ht]
    subst hg
    refine Or.inr ⟨q, ⟨(({ U with heap := s₂.heap, slotsUsed := s₂.slotsUsed } : State).setVm s₂.vm), Ls ++ L, c0 + mc, s0 + ms⟩,
      ⟨X.admits, X.cas, X.clock, X.frames, X.room, X.hears, X.method, X.code, (X.here.setHeapUsed s₂.heap s₂.slotsUsed).setVm hW'.alike, X.tail, State.WarmedH.trans X.warmed hW', X.limits, X.bytes, X.same.trans (hsame.setVm s.vm)⟩,
      ⟨g, mk, s₂, L, E, ce, rfl, rfl, hx, hce, hcv, hcl, rfl, hL, rfl, rfl⟩, ?_⟩
    show Steps p.tables e below _ (((({ U with heap := s₂.heap, slotsUsed := s₂.slotsUsed } : State).setVm s₂.vm).setTop g).pushFrame (.throwing q))
    rw [← hs₂]
    exact hsteps
end Payer
section Calls
variable {p : Program} {l : Launch} {e : Env} {R : Room} {s : State} {m : MethodId} {args : Array Value} {below : List Frame} {meth : Method} {c : Code} {T : State} {locs : List Loc} {cells slots : Nat}
theorem vx_callV (X : Stand p l e R s m args below meth c T locs cells slots) (hexec : p.tables.exec = Jvm.exec) {own C : String} {index : Nat} {y : MethodName} {bytes : ByteArray} {maxL : Nat} {ret : Option FieldType}
    (hown : s.vm.findClass own = some m.cls) (hlink : (Cond.methodLink own index y).before args s = true) (hinst : (Cond.instanceMethod y).before args s = true) (hsel : (Cond.selects C y y).before args s = true)
    (hcode : (Cond.code y bytes maxL ret).before args s = true) (hy : y.cls ≠ "java/lang/invoke/MethodHandle" ∧ y.cls ≠ "java/lang/invoke/VarHandle")
    {W9 : Nat} {Pre : Pt → Array Value → Prop} {Post : Pt → Array Value → Option Value → Pt → Prop} {PostX : Pt → Array Value → Addr → Pt → Prop} (hK : vx_Back l R p e below s args y 3 W9 Pre Post PostX)
    {b : Addr} {cellB : Cell} (hcell : T.heap[b]? = some cellB) (hobj : cellB.vm.isStatics = false) (hcls : s.vm.findClass C = some cellB.cls)
    {g : JFrame} (hg : g.method = m) (hsize : g.locals.size = c.maxLocals) {argsL rest : List Value} (hlen : ∀ sig, parseMethodDescriptor y.desc = some sig → argsL.length = sig.parameters.length)
    (hstack : g.stack = argsL.reverse ++ .ref b :: rest) (hW : 2 * g.monitorRoom + (rest.map fun v => v.category).sum ≤ W9) (hdg : decode c.code g.pc = .ok (.invokevirtual index, 3))
    (hpre : ∀ vm₁, s.WarmedH vm₁ → Pre ⟨T.setVm vm₁, locs, cells, slots⟩ (Value.ref b :: argsL).toArray) :
    (∃ (v : Option Value) (vm₁ : Vm) (B : Pt), s.WarmedH vm₁ ∧ Stand p l e R s m args below meth c B.U B.locs B.cells B.slots ∧ Post ⟨T.setVm vm₁, locs, cells, slots⟩ (Value.ref b :: argsL).toArray v B ∧
      ∀ target, Steps p.tables e below (B.U.setTop { g with pc := g.pc + 3, stack := v.toList ++ rest }) target → Steps p.tables e below (T.setTop g) target) ∨
    (∃ (q : Addr) (vm₁ : Vm) (B : Pt), s.WarmedH vm₁ ∧ Stand p l e R s m args below meth c B.U B.locs B.cells B.slots ∧ PostX ⟨T.setVm vm₁, locs, cells, slots⟩ (Value.ref b :: argsL).toArray q B ∧
      Steps p.tables e below (T.setTop g) ((B.U.setTop { g with stack := rest }).pushFrame (.throwing q))) := by
  obtain ⟨mk, methM, hnamed, hmethM, hstM, habM⟩ := Cond.instanceMethod_spec hinst
  obtain ⟨methM', cM, hmethM', -, -, -, -, -, -, hsigM⟩ := Cond.code_spec hnamed hcode
  cases hmethM.symm.trans hmethM'
  obtain ⟨c2, r2, m2, q1, q2, q3, q4, kP, hkP, hkPi⟩ := Cond.selects_spec hsel
  cases hcls.symm.trans q1
  cases (State.methodFound?_of_named hnamed hy).symm.trans q2
  cases hnamed.symm.trans q3
  have hselP : selectMethod e.platform s.vm cellB.cls mk = .method mk := by rw [Launch.admits_selectMethod X.admits]; exact q4
  obtain ⟨vm₁, X₁, hstep₁⟩ := X.invokevirtual hexec hown hlink hnamed hmethM hstM hkP hkPi hy (a := b) (cell := cellB) hcell
    (fun z h => by rw [h] at hobj; cases hobj) hselP hmethM habM hkP hkPi (g := g) hg (argsL := argsL) (rest := rest) (hlen _ hsigM) hstack hdg
  rcases hK m meth c ⟨T.setVm vm₁, locs, cells, slots⟩ { g with stack := rest } (.invokevirtual index) mk (Value.ref b :: argsL).toArray X₁ hg hsize hdg hW (X₁.named hnamed) (hpre vm₁ X₁.warmed) with ⟨v, B, X', hpost, hsteps⟩ | ⟨q, B, X', hpost, hsteps⟩
  · exact Or.inl ⟨v, vm₁, B, X₁.warmed, X', hpost, fun target h => hstep₁ _ fun acts => by rw [doInvoke_state]; exact hsteps.trans h⟩
  · exact Or.inr ⟨q, vm₁, B, X₁.warmed, X', hpost, hstep₁ _ fun acts => by rw [doInvoke_state]; exact hsteps⟩
theorem vx_callS (X : Stand p l e R s m args below meth c T locs cells slots) (hexec : p.tables.exec = Jvm.exec) {own : String} {index : Nat} {y : MethodName} {bytes : ByteArray} {maxL : Nat} {ret : Option FieldType}
    (hown : s.vm.findClass own = some m.cls) (hlink : (Cond.methodLink own index y).before args s = true) (hstat : (Cond.static y).before args s = true) (hinit : (Cond.initialized y.cls).before args s = true)
    (hcode : (Cond.code y bytes maxL ret).before args s = true) (hy : y.cls ≠ "java/lang/invoke/MethodHandle" ∧ y.cls ≠ "java/lang/invoke/VarHandle")
    {W9 : Nat} {Pre : Pt → Array Value → Prop} {Post : Pt → Array Value → Option Value → Pt → Prop} {PostX : Pt → Array Value → Addr → Pt → Prop} (hK : vx_Back l R p e below s args y 3 W9 Pre Post PostX)
    {g : JFrame} (hg : g.method = m) (hsize : g.locals.size = c.maxLocals) {argsL rest : List Value} (hlen : ∀ sig, parseMethodDescriptor y.desc = some sig → argsL.length = sig.parameters.length)
    (hstack : g.stack = argsL.reverse ++ rest) (hW : 2 * g.monitorRoom + (rest.map fun v => v.category).sum ≤ W9) (hdg : decode c.code g.pc = .ok (.invokestatic index, 3))
    (hpre : ∀ vm₁, s.WarmedH vm₁ → Pre ⟨T.setVm vm₁, locs, cells, slots⟩ argsL.toArray) :
    (∃ (v : Option Value) (vm₁ : Vm) (B : Pt), s.WarmedH vm₁ ∧ Stand p l e R s m args below meth c B.U B.locs B.cells B.slots ∧ Post ⟨T.setVm vm₁, locs, cells, slots⟩ argsL.toArray v B ∧
      ∀ target, Steps p.tables e below (B.U.setTop { g with pc := g.pc + 3, stack := v.toList ++ rest }) target → Steps p.tables e below (T.setTop g) target) ∨
    (∃ (q : Addr) (vm₁ : Vm) (B : Pt), s.WarmedH vm₁ ∧ Stand p l e R s m args below meth c B.U B.locs B.cells B.slots ∧ PostX ⟨T.setVm vm₁, locs, cells, slots⟩ argsL.toArray q B ∧
      Steps p.tables e below (T.setTop g) ((B.U.setTop { g with stack := rest }).pushFrame (.throwing q))) := by
  obtain ⟨mk, hnamed⟩ := Cond.code_named hcode
  obtain ⟨methM, cM, hmethM, -, -, -, -, -, -, hsigM⟩ := Cond.code_spec hnamed hcode
  have hstatic : methM.isStatic = true := Cond.static_spec hnamed hmethM hstat
  obtain ⟨kP, hkP, -⟩ := className_of_methodNamed hnamed
  have hinitP : kP.init = .initialized := Cond.initialized_spec (findClass_of_methodNamed hnamed) hkP hinit
  obtain ⟨vm₁, X₁, hstep₁⟩ := X.invokestatic hexec hown hlink hnamed hmethM hstatic hkP hinitP hy (g := g) hg (argsL := argsL) (rest := rest) (hlen _ hsigM) hstack hdg
  rcases hK m meth c ⟨T.setVm vm₁, locs, cells, slots⟩ { g with stack := rest } (.invokestatic index) mk argsL.toArray X₁ hg hsize hdg hW (X₁.named hnamed) (hpre vm₁ X₁.warmed) with ⟨v, B, X', hpost, hsteps⟩ | ⟨q, B, X', hpost, hsteps⟩
  · exact Or.inl ⟨v, vm₁, B, X₁.warmed, X', hpost, fun target h => hstep₁ _ fun acts => by rw [doInvoke_state]; exact hsteps.trans h⟩
  · exact Or.inr ⟨q, vm₁, B, X₁.warmed, X', hpost, hstep₁ _ fun acts => by rw [doInvoke_state]; exact hsteps⟩
end Calls
theorem vx_cls {s : State} {T : State} {vm₁ : Vm} {E : String} {k : ClassId} (hW : s.WarmedH vm₁) (h : (T.setVm vm₁).vm.findClass E = some k) : s.vm.findClass E = some k := by
  have h1 : vm₁.findClass E = some k := h
  rw [hW.alike.findClass] at h1
  exact h1
/-- the method's frame g, with q thrown over it -/
def vx_W (p : Program) (l : Launch) (e : Env) (R : Room) (s : State) (m : MethodId) (args : Array Value) (below : List Frame) (meth : Method) (c : Code) (H : Heap) (locs : List Loc) (cells slots : Nat) (Q : State → Prop) (g : JFrame) (q : Addr) : Prop :=
  ∀ T : State, T.heap = H → Stand p l e R s m args below meth c T locs cells slots → ∃ t, Steps p.tables e below ((T.setTop g).pushFrame (.throwing q)) t ∧ Q t
def vx_Run (p : Program) (l : Launch) (e : Env) (R : Room) (s : State) (m : MethodId) (args : Array Value) (below : List Frame) (meth : Method) (c : Code) (H : Heap) (locs : List Loc) (cells slots mc ms : Nat) (g : JFrame) (rest : List Value) (Qa : State → Outcome → State → Prop) (XC : String → State → State → Prop) (free : Addr → Prop) : Prop :=
  ∀ T : State, T.heap = H → Stand p l e R s m args below meth c T locs cells slots →
    (∃ (v : Option Value) (st₀ t T' : State) (L : List Loc), st₀.heap = H ∧ Stand p l e R s m args below meth c T' (locs ++ L) (cells + mc) (slots + ms) ∧ (∀ q ∈ L, free q.base) ∧ T'.heap = t.heap ∧ T'.vm = t.vm ∧ Qa st₀ (.returned v) t ∧
      Goes p e below T g T' { g with pc := g.pc + 3, stack := v.toList ++ rest }) ∨
    (∃ (q : Addr) (st₀ t T' : State) (L : List Loc) (E : String) (ce : Cell), st₀.heap = H ∧ Stand p l e R s m args below meth c T' (locs ++ L) (cells + mc) (slots + ms) ∧ (∀ z ∈ L, free z.base) ∧ T'.heap = t.heap ∧ T'.vm = t.vm ∧ XC E st₀ t ∧ t.heap[q]? = some ce ∧ ce.vm = .none ∧ s.vm.findClass E = some ce.cls ∧
      Steps p.tables e below (T.setTop g) ((T'.setTop { g with stack := rest }).pushFrame (.throwing q)))
def vx_X {S : Type} (px : S → Prop) (B : String → S → State → Prop) (A : Nat → Prop) : String → State → State → Prop := fun E st t => ∃ u : S, px u ∧ B E u t ∧ va_F A st t
section Runs
variable {p : Program} {l : Launch} {e : Env} {R : Room} {s : State} {m : MethodId} {args : Array Value} {below : List Frame} {meth : Method} {c : Code} {H : Heap} {locs : List Loc} {cells slots : Nat}
variable {y : MethodName} {bytes cc : ByteArray} {maxL nL mc ms n index : Nat} {ret : Option FieldType} {ws : List Cond} {rm : Room} {Pc : Array Value → State → Prop} {Qc : Array Value → State → Outcome → State → Prop} {XC : String → State → State → Prop} {free : Addr → Prop} {Ts : List Cond} {own C : String} {b : Addr} {As rest : List Value} {g : JFrame}
theorem vx_callBack (cb : CallB R s args own index y bytes maxL ret ws rm mc ms n) (hM : vx_Met l y ws rm Pc Qc XC mc ms free) (hbl : FrameBlind Pc) : vx_Back l R p e below s args y 3 8 (PreOf R mc ms Pc) (PostOf Qc mc ms free) (vx_Post XC mc ms free) := by
  obtain ⟨hrc, hrs, hfr, hlo, hws, hcw, -, hini, -⟩ := cb
  exact vx_back (bytes := bytes) (maxL := maxL) (ret := ret) hM hbl hrc hrs hfr hlo hws hcw (fun a' U hW => word_at hW (Or.inl (by first | rfl | simp [Cond.onTables, Cond.keeps, Cond.steady])) hini)
theorem vx_runV (S : CallFix p m c cc nL s args Ts own) (hM : vx_Met l y ws rm Pc Qc XC mc ms free) (cw : CallW R s args own C index y bytes maxL ret ws rm mc ms n) (hp : PreV s H C b Pc As)
    (hg : g.method = m) (hn : As.length = n) (hsize : g.locals.size = nL) (hstack : g.stack = As.reverse ++ .ref b :: rest) (hW : 2 * g.monitorRoom + (rest.map fun v => v.category).sum ≤ 8) (hdg : decode cc g.pc = .ok (.invokevirtual index, 3)) (hf : cells + mc ≤ R.cells ∧ slots + ms ≤ R.slots) :
    vx_Run p l e R s m args below meth c H locs cells slots mc ms g rest (Qc (Value.ref b :: As).toArray) XC free := by
  have hK : vx_Back l R p e below s args y 3 8 (PreOf R mc ms Pc) (PostOf Qc mc ms free) (vx_Post XC mc ms free) := vx_callBack cw.1 hM hp.1
  obtain ⟨⟨-, -, -, -, -, -, hcode, -, hy, hlen, hl⟩, hin, hse⟩ := cw
  obtain ⟨hx, hb, hml, ho, -⟩ := S
  obtain ⟨-, ⟨cellB, hcB, hoB, hclB⟩, hPc⟩ := hp
  intro T hT X
  rcases vx_callV X hx (C := C) (bytes := bytes) (maxL := maxL) (ret := ret) ho hl hin hse hcode hy hK (by rw [hT]; exact hcB) hoB hclB hg (hsize.trans hml.symm) (argsL := As) (rest := rest) (fun sig h => hn.trans (hlen sig h)) hstack hW (by rw [hb]; exact hdg)
    (fun vm₁ hW₁ => ⟨hf.1, hf.2, hPc (T.setVm vm₁) hT hW₁⟩) with ⟨v, vm₁, ⟨U', l2, c2, s2⟩, hW₁, X', ⟨g', mk, t, L, e1, e2, hq, h1, hL, h2, h3⟩, st⟩ | ⟨q, vm₁, ⟨U', l2, c2, s2⟩, hW₁, X', ⟨g', mk, t, L, E, ce, e1, e2, hq, hce, hcv, hcl, h1, hL, h2, h3⟩, st⟩
  · dsimp only [Pt.U, Pt.locs, Pt.cells, Pt.slots] at X' e1 e2 h1 h2 h3 st
    subst h1; subst h2; subst h3
    exact Or.inl ⟨v, (T.setVm vm₁).calling g' mk (Value.ref b :: As).toArray, t, U', L, hT, X', hL, e1, e2, hq, st⟩
  · dsimp only [Pt.U, Pt.locs, Pt.cells, Pt.slots] at X' e1 e2 h1 h2 h3 st hcl
    subst h1; subst h2; subst h3
    exact Or.inr ⟨q, (T.setVm vm₁).calling g' mk (Value.ref b :: As).toArray, t, U', L, E, ce, hT, X', hL, e1, e2, hq, hce, hcv, vx_cls hW₁ hcl, st⟩
theorem vx_runS (S : CallFix p m c cc nL s args Ts own) (hM : vx_Met l y ws rm Pc Qc XC mc ms free) (cw : CallB R s args own index y bytes maxL ret ws rm mc ms n ∧ (Cond.static y).before args s = true) (hp : PreS s H Pc As)
    (hg : g.method = m) (hn : As.length = n) (hsize : g.locals.size = nL) (hstack : g.stack = As.reverse ++ rest) (hW : 2 * g.monitorRoom + (rest.map fun v => v.category).sum ≤ 8) (hdg : decode cc g.pc = .ok (.invokestatic index, 3)) (hf : cells + mc ≤ R.cells ∧ slots + ms ≤ R.slots) :
    vx_Run p l e R s m args below meth c H locs cells slots mc ms g rest (Qc As.toArray) XC free := by
  have hK : vx_Back l R p e below s args y 3 8 (PreOf R mc ms Pc) (PostOf Qc mc ms free) (vx_Post XC mc ms free) := vx_callBack cw.1 hM hp.1
  obtain ⟨⟨-, -, -, -, -, -, hcode, hini, hy, hlen, hl⟩, hstt⟩ := cw
  obtain ⟨hx, hb, hml, ho, -⟩ := S
  intro T hT X
  rcases vx_callS X hx (bytes := bytes) (maxL := maxL) (ret := ret) ho hl hstt hini hcode hy hK hg (hsize.trans hml.symm) (argsL := As) (rest := rest) (fun sig h => hn.trans (hlen sig h)) hstack hW (by rw [hb]; exact hdg)
    (fun vm₁ hW₁ => ⟨hf.1, hf.2, hp.2 (T.setVm vm₁) hT hW₁⟩) with ⟨v, vm₁, ⟨U', l2, c2, s2⟩, hW₁, X', ⟨g', mk, t, L, e1, e2, hq, h1, hL, h2, h3⟩, st⟩ | ⟨q, vm₁, ⟨U', l2, c2, s2⟩, hW₁, X', ⟨g', mk, t, L, E, ce, e1, e2, hq, hce, hcv, hcl, h1, hL, h2, h3⟩, st⟩
  · dsimp only [Pt.U, Pt.locs, Pt.cells, Pt.slots] at X' e1 e2 h1 h2 h3 st
    subst h1; subst h2; subst h3
    exact Or.inl ⟨v, (T.setVm vm₁).calling g' mk As.toArray, t, U', L, hT, X', hL, e1, e2, hq, st⟩
  · dsimp only [Pt.U, Pt.locs, Pt.cells, Pt.slots] at X' e1 e2 h1 h2 h3 st hcl
    subst h1; subst h2; subst h3
    exact Or.inr ⟨q, (T.setVm vm₁).calling g' mk As.toArray, t, U', L, E, ce, hT, X', hL, e1, e2, hq, hce, hcv, vx_cls hW₁ hcl, st⟩
end Runs
section Rows
variable {p : Program} {l : Launch} {e : Env} {R : Room} {s : State} {m : MethodId} {args : Array Value} {below : List Frame} {meth : Method} {c : Code} {H : Heap} {locs : List Loc} {cells slots : Nat} {Q : State → Prop}
variable {mc ms : Nat} {free : Addr → Prop} {A0 A1 : Nat → Prop} {H0 : Heap} {a : Array Value} {pc : Nat} {ls : Array Slot} {st0 rest : List Value}
theorem vx_keep {st₀ t T' : State} {L : List Loc} (h0 : st₀.heap = H) (e1 : T'.heap = t.heap) (hS : va_S A0 H0 H locs) (hA : ∀ q, q < H.size → A1 q → A0 q) (hf : ∀ q, free q → A0 q) (hL : ∀ q ∈ L, free q.base) (hF : va_F A1 st₀ t) :
    H.size ≤ T'.heap.size ∧ (∀ q : Nat, q < H.size → ¬ A1 q → T'.heap[q]? = H[q]?) ∧ va_S A0 H0 T'.heap (locs ++ L) := by
  obtain ⟨hz, hk⟩ := hF
  rw [h0] at hz hk
  exact ⟨by rw [e1]; exact hz, fun q h1 h2 => by rw [e1]; exact hk q h1 h2,
    ⟨Nat.le_trans hS.1 (by rw [e1]; exact hz), fun q h1 h2 => by rw [e1, hk q (Nat.lt_of_lt_of_le h1 hS.1) (fun z => h2 (hA q (Nat.lt_of_lt_of_le h1 hS.1) z))]; exact hS.2.1 q h1 h2, fun q hq => by
      rcases List.mem_append.mp hq with h | h
      · exact hS.2.2 q h
      · exact hf _ (hL q h)⟩⟩
theorem vx_calli {S SX : Type} {post : Int32 → S → Prop} {px : SX → Prop} {B : S → State → Prop} {BX : String → SX → State → Prop} {AX : Nat → Prop} (hr : vx_Run p l e R s m args below meth c H locs cells slots mc ms (F0 m pc ls st0) rest (va_Qi post B A1 a) (vx_X px BX AX) free) (hS : va_S A0 H0 H locs) (hA : ∀ q, q < H.size → A1 q → A0 q) (hf : ∀ q, free q → A0 q) (hAX : ∀ q, q < H.size → AX q → A0 q)
    (kx : ∀ (E : String) (ce : Cell) (q9 : Addr) (u : SX) (t : State) (H1 : Heap) (locs1 : List Loc), t.heap = H1 → s.vm.Alike t.vm → px u → BX E u t → H.size ≤ H1.size → (∀ q : Nat, q < H.size → ¬ AX q → H1[q]? = H[q]?) → va_S A0 H0 H1 locs1 → H1[q9]? = some ce → ce.vm = .none → s.vm.findClass E = some ce.cls → vx_W p l e R s m args below meth c H1 locs1 (cells + mc) (slots + ms) Q (F0 m pc ls rest) q9)
    (kk : ∀ (r : Int32) (u : S) (t : State) (H1 : Heap) (locs1 : List Loc), t.heap = H1 → s.vm.Alike t.vm → post r u → B u t → H.size ≤ H1.size → (∀ q : Nat, q < H.size → ¬ A1 q → H1[q]? = H[q]?) → va_S A0 H0 H1 locs1 → W p l e R s m args below meth c H1 locs1 (cells + mc) (slots + ms) Q (F0 m (pc + 3) ls (.int r :: rest))) : W p l e R s m args below meth c H locs cells slots Q (F0 m pc ls st0) := by
  intro T hT X
  rcases hr T hT X with ⟨v, st₀, t, T', L, h0, X', hL, e1, e2, ⟨⟨r, u, hv, hp, hb⟩, hF⟩, st⟩ | ⟨q, st₀, t, T', L, E, ce, h0, X', hL, e1, e2, ⟨u, hp, hb, hF⟩, hce, hcv, hcl, st⟩
  · cases hv
    obtain ⟨k1, k2, k3⟩ := vx_keep h0 e1 hS hA hf hL hF
    obtain ⟨t2, a1, b1⟩ := kk r u t T'.heap (locs ++ L) e1.symm (by rw [← e2]; exact X'.warmed.alike) hp hb k1 k2 k3 T' rfl X'
    exact ⟨t2, st t2 a1, b1⟩
  · obtain ⟨k1, k2, k3⟩ := vx_keep h0 e1 hS hAX hf hL hF
    obtain ⟨t2, a1, b1⟩ := kx E ce q u t T'.heap (locs ++ L) e1.symm (by rw [← e2]; exact X'.warmed.alike) hp hb k1 k2 k3 (by rw [e1]; exact hce) hcv hcl T' rfl X'
    exact ⟨t2, st.trans a1, b1⟩
theorem vx_calll {S SX : Type} {post : Int64 → S → Prop} {px : SX → Prop} {B : S → State → Prop} {BX : String → SX → State → Prop} {AX : Nat → Prop} (hr : vx_Run p l e R s m args below meth c H locs cells slots mc ms (F0 m pc ls st0) rest (va_Ql post B A1 a) (vx_X px BX AX) free) (hS : va_S A0 H0 H locs) (hA : ∀ q, q < H.size → A1 q → A0 q) (hf : ∀ q, free q → A0 q) (hAX : ∀ q, q < H.size → AX q → A0 q)
    (kx : ∀ (E : String) (ce : Cell) (q9 : Addr) (u : SX) (t : State) (H1 : Heap) (locs1 : List Loc), t.heap = H1 → s.vm.Alike t.vm → px u → BX E u t → H.size ≤ H1.size → (∀ q : Nat, q < H.size → ¬ AX q → H1[q]? = H[q]?) → va_S A0 H0 H1 locs1 → H1[q9]? = some ce → ce.vm = .none → s.vm.findClass E = some ce.cls → vx_W p l e R s m args below meth c H1 locs1 (cells + mc) (slots + ms) Q (F0 m pc ls rest) q9)
    (kk : ∀ (r : Int64) (u : S) (t : State) (H1 : Heap) (locs1 : List Loc), t.heap = H1 → s.vm.Alike t.vm → post r u → B u t → H.size ≤ H1.size → (∀ q : Nat, q < H.size → ¬ A1 q → H1[q]? = H[q]?) → va_S A0 H0 H1 locs1 → W p l e R s m args below meth c H1 locs1 (cells + mc) (slots + ms) Q (F0 m (pc + 3) ls (.long r :: rest))) : W p l e R s m args below meth c H locs cells slots Q (F0 m pc ls st0) := by
  intro T hT X
  rcases hr T hT X with ⟨v, st₀, t, T', L, h0, X', hL, e1, e2, ⟨⟨r, u, hv, hp, hb⟩, hF⟩, st⟩ | ⟨q, st₀, t, T', L, E, ce, h0, X', hL, e1, e2, ⟨u, hp, hb, hF⟩, hce, hcv, hcl, st⟩
  · cases hv
    obtain ⟨k1, k2, k3⟩ := vx_keep h0 e1 hS hA hf hL hF
    obtain ⟨t2, a1, b1⟩ := kk r u t T'.heap (locs ++ L) e1.symm (by rw [← e2]; exact X'.warmed.alike) hp hb k1 k2 k3 T' rfl X'
    exact ⟨t2, st t2 a1, b1⟩
  · obtain ⟨k1, k2, k3⟩ := vx_keep h0 e1 hS hAX hf hL hF
    obtain ⟨t2, a1, b1⟩ := kx E ce q u t T'.heap (locs ++ L) e1.symm (by rw [← e2]; exact X'.warmed.alike) hp hb k1 k2 k3 (by rw [e1]; exact hce) hcv hcl T' rfl X'
    exact ⟨t2, st.trans a1, b1⟩
theorem vx_callf {S SX : Type} {post : UInt32 → S → Prop} {px : SX → Prop} {B : S → State → Prop} {BX : String → SX → State → Prop} {AX : Nat → Prop} (hr : vx_Run p l e R s m args below meth c H locs cells slots mc ms (F0 m pc ls st0) rest (va_Qf post B A1 a) (vx_X px BX AX) free) (hS : va_S A0 H0 H locs) (hA : ∀ q, q < H.size → A1 q → A0 q) (hf : ∀ q, free q → A0 q) (hAX : ∀ q, q < H.size → AX q → A0 q)
    (kx : ∀ (E : String) (ce : Cell) (q9 : Addr) (u : SX) (t : State) (H1 : Heap) (locs1 : List Loc), t.heap = H1 → s.vm.Alike t.vm → px u → BX E u t → H.size ≤ H1.size → (∀ q : Nat, q < H.size → ¬ AX q → H1[q]? = H[q]?) → va_S A0 H0 H1 locs1 → H1[q9]? = some ce → ce.vm = .none → s.vm.findClass E = some ce.cls → vx_W p l e R s m args below meth c H1 locs1 (cells + mc) (slots + ms) Q (F0 m pc ls rest) q9)
    (kk : ∀ (r : UInt32) (u : S) (t : State) (H1 : Heap) (locs1 : List Loc), t.heap = H1 → s.vm.Alike t.vm → post r u → B u t → H.size ≤ H1.size → (∀ q : Nat, q < H.size → ¬ A1 q → H1[q]? = H[q]?) → va_S A0 H0 H1 locs1 → W p l e R s m args below meth c H1 locs1 (cells + mc) (slots + ms) Q (F0 m (pc + 3) ls (.float r :: rest))) : W p l e R s m args below meth c H locs cells slots Q (F0 m pc ls st0) := by
  intro T hT X
  rcases hr T hT X with ⟨v, st₀, t, T', L, h0, X', hL, e1, e2, ⟨⟨r, u, hv, hp, hb⟩, hF⟩, st⟩ | ⟨q, st₀, t, T', L, E, ce, h0, X', hL, e1, e2, ⟨u, hp, hb, hF⟩, hce, hcv, hcl, st⟩
  · cases hv
    obtain ⟨k1, k2, k3⟩ := vx_keep h0 e1 hS hA hf hL hF
    obtain ⟨t2, a1, b1⟩ := kk r u t T'.heap (locs ++ L) e1.symm (by rw [← e2]; exact X'.warmed.alike) hp hb k1 k2 k3 T' rfl X'
    exact ⟨t2, st t2 a1, b1⟩
  · obtain ⟨k1, k2, k3⟩ := vx_keep h0 e1 hS hAX hf hL hF
    obtain ⟨t2, a1, b1⟩ := kx E ce q u t T'.heap (locs ++ L) e1.symm (by rw [← e2]; exact X'.warmed.alike) hp hb k1 k2 k3 (by rw [e1]; exact hce) hcv hcl T' rfl X'
    exact ⟨t2, st.trans a1, b1⟩
theorem vx_calld {S SX : Type} {post : UInt64 → S → Prop} {px : SX → Prop} {B : S → State → Prop} {BX : String → SX → State → Prop} {AX : Nat → Prop} (hr : vx_Run p l e R s m args below meth c H locs cells slots mc ms (F0 m pc ls st0) rest (va_Qd post B A1 a) (vx_X px BX AX) free) (hS : va_S A0 H0 H locs) (hA : ∀ q, q < H.size → A1 q → A0 q) (hf : ∀ q, free q → A0 q) (hAX : ∀ q, q < H.size → AX q → A0 q)
    (kx : ∀ (E : String) (ce : Cell) (q9 : Addr) (u : SX) (t : State) (H1 : Heap) (locs1 : List Loc), t.heap = H1 → s.vm.Alike t.vm → px u → BX E u t → H.size ≤ H1.size → (∀ q : Nat, q < H.size → ¬ AX q → H1[q]? = H[q]?) → va_S A0 H0 H1 locs1 → H1[q9]? = some ce → ce.vm = .none → s.vm.findClass E = some ce.cls → vx_W p l e R s m args below meth c H1 locs1 (cells + mc) (slots + ms) Q (F0 m pc ls rest) q9)
    (kk : ∀ (r : UInt64) (u : S) (t : State) (H1 : Heap) (locs1 : List Loc), t.heap = H1 → s.vm.Alike t.vm → post r u → B u t → H.size ≤ H1.size → (∀ q : Nat, q < H.size → ¬ A1 q → H1[q]? = H[q]?) → va_S A0 H0 H1 locs1 → W p l e R s m args below meth c H1 locs1 (cells + mc) (slots + ms) Q (F0 m (pc + 3) ls (.double r :: rest))) : W p l e R s m args below meth c H locs cells slots Q (F0 m pc ls st0) := by
  intro T hT X
  rcases hr T hT X with ⟨v, st₀, t, T', L, h0, X', hL, e1, e2, ⟨⟨r, u, hv, hp, hb⟩, hF⟩, st⟩ | ⟨q, st₀, t, T', L, E, ce, h0, X', hL, e1, e2, ⟨u, hp, hb, hF⟩, hce, hcv, hcl, st⟩
  · cases hv
    obtain ⟨k1, k2, k3⟩ := vx_keep h0 e1 hS hA hf hL hF
    obtain ⟨t2, a1, b1⟩ := kk r u t T'.heap (locs ++ L) e1.symm (by rw [← e2]; exact X'.warmed.alike) hp hb k1 k2 k3 T' rfl X'
    exact ⟨t2, st t2 a1, b1⟩
  · obtain ⟨k1, k2, k3⟩ := vx_keep h0 e1 hS hAX hf hL hF
    obtain ⟨t2, a1, b1⟩ := kx E ce q u t T'.heap (locs ++ L) e1.symm (by rw [← e2]; exact X'.warmed.alike) hp hb k1 k2 k3 (by rw [e1]; exact hce) hcv hcl T' rfl X'
    exact ⟨t2, st.trans a1, b1⟩
theorem vx_callv {S SX : Type} {post : S → Prop} {px : SX → Prop} {B : S → State → Prop} {BX : String → SX → State → Prop} {AX : Nat → Prop} (hr : vx_Run p l e R s m args below meth c H locs cells slots mc ms (F0 m pc ls st0) rest (va_Qv post B A1 a) (vx_X px BX AX) free) (hS : va_S A0 H0 H locs) (hA : ∀ q, q < H.size → A1 q → A0 q) (hf : ∀ q, free q → A0 q) (hAX : ∀ q, q < H.size → AX q → A0 q)
    (kx : ∀ (E : String) (ce : Cell) (q9 : Addr) (u : SX) (t : State) (H1 : Heap) (locs1 : List Loc), t.heap = H1 → s.vm.Alike t.vm → px u → BX E u t → H.size ≤ H1.size → (∀ q : Nat, q < H.size → ¬ AX q → H1[q]? = H[q]?) → va_S A0 H0 H1 locs1 → H1[q9]? = some ce → ce.vm = .none → s.vm.findClass E = some ce.cls → vx_W p l e R s m args below meth c H1 locs1 (cells + mc) (slots + ms) Q (F0 m pc ls rest) q9)
    (kk : ∀ (u : S) (t : State) (H1 : Heap) (locs1 : List Loc), t.heap = H1 → s.vm.Alike t.vm → post u → B u t → H.size ≤ H1.size → (∀ q : Nat, q < H.size → ¬ A1 q → H1[q]? = H[q]?) → va_S A0 H0 H1 locs1 → W p l e R s m args below meth c H1 locs1 (cells + mc) (slots + ms) Q (F0 m (pc + 3) ls (rest))) : W p l e R s m args below meth c H locs cells slots Q (F0 m pc ls st0) := by
  intro T hT X
  rcases hr T hT X with ⟨v, st₀, t, T', L, h0, X', hL, e1, e2, ⟨⟨u, hv, hp, hb⟩, hF⟩, st⟩ | ⟨q, st₀, t, T', L, E, ce, h0, X', hL, e1, e2, ⟨u, hp, hb, hF⟩, hce, hcv, hcl, st⟩
  · cases hv
    obtain ⟨k1, k2, k3⟩ := vx_keep h0 e1 hS hA hf hL hF
    obtain ⟨t2, a1, b1⟩ := kk u t T'.heap (locs ++ L) e1.symm (by rw [← e2]; exact X'.warmed.alike) hp hb k1 k2 k3 T' rfl X'
    exact ⟨t2, st t2 a1, b1⟩
  · obtain ⟨k1, k2, k3⟩ := vx_keep h0 e1 hS hAX hf hL hF
    obtain ⟨t2, a1, b1⟩ := kx E ce q u t T'.heap (locs ++ L) e1.symm (by rw [← e2]; exact X'.warmed.alike) hp hb k1 k2 k3 (by rw [e1]; exact hce) hcv hcl T' rfl X'
    exact ⟨t2, st.trans a1, b1⟩
/-- caught by the row x of this method's table; the rows ahead don't take it -/
theorem vx_catch {own name : String} {E : String} {ce : Cell} {q : Addr} (hown : s.vm.findClass own = some m.cls) (pre : List ExceptionTableEntry) (x : ExceptionTableEntry) (suf : List ExceptionTableEntry) (hsplit : c.exceptionTable.toList = pre ++ x :: suf)
    (hpass : ∀ z ∈ pre, covers z pc = false ∨ (z.catchType ≠ 0 ∧ ∃ nm : String, (Cond.classLink own z.catchType nm).before args s = true ∧ va_Nc E nm s)) (hx : covers x pc = true) (h0 : x.catchType ≠ 0)
    (hlink : (Cond.classLink own x.catchType name).before args s = true) (hcast : (Cond.castable E name).before args s = true) (hcell : H[q]? = some ce) (hv : ce.vm = .none) (hcl : s.vm.findClass E = some ce.cls)
    (kk : W p l e R s m args below meth c H locs cells slots Q (F0 m x.handlerPc ls [.ref q])) : vx_W p l e R s m args below meth c H locs cells slots Q (F0 m pc ls rest) q := by
  intro T hT X
  have hpl : e.platform.magicAccessors = ({} : Platform).magicAccessors := by rw [X.admits.platform]
  obtain ⟨c3, c4, hc3, hc4, hasg⟩ := Cond.castable_spec hcast
  cases Option.some.inj (hc3.symm.trans hcl)
  obtain ⟨c5, hc5, hcl5⟩ := Cond.classLink_spec hown hlink e.platform hpl
  cases Option.some.inj (hc4.symm.trans hc5)
  obtain ⟨vm', X', st⟩ := X.thenCaughtThrough q (g := F0 m pc ls rest) rfl (Steps.refl _) (by rw [hT]; exact hcell) (by rw [hv]; rfl) (by obtain ⟨k9, h9, -⟩ := Vm.findClass_spec hcl; exact ⟨k9, h9⟩) pre x suf hsplit
    (fun z hz => by
      rcases hpass z hz with h | ⟨hz0, nm, hl1, hn1⟩
      · exact Or.inl h
      · obtain ⟨c6, hc6, hcl6⟩ := Cond.classLink_spec hown hl1 e.platform hpl
        obtain ⟨a8, b8, h1, h2, h3⟩ := hn1
        cases Option.some.inj (h1.symm.trans hcl)
        cases Option.some.inj (h2.symm.trans hc6)
        exact Or.inr ⟨hz0, _, hcl6, h3⟩) hx (Or.inr ⟨h0, c4, hcl5, hasg⟩)
  obtain ⟨t, a1, b1⟩ := kk (T.setVm vm') hT X'
  exact ⟨t, st.trans a1, b1⟩
end Rows
section Ends
variable {p : Program} {l : Launch} {e : Env} {R : Room} {s : State} {m : MethodId} {args : Array Value} {below : List Frame} {meth : Method} {c : Code} {H : Heap} {locs : List Loc} {cells slots : Nat} {Q : State → Prop}
variable {mc ms : Nat} {free : Addr → Prop} {A0 A1 : Nat → Prop} {H0 : Heap} {a : Array Value} {ls : Array Slot} {st0 rest : List Value}
variable {Qc : Array Value → State → Outcome → State → Prop} {XC : String → State → State → Prop}
/-- what a body that may throw owes at its end -/
def vx_MQ (below : List Frame) (Qc : Array Value → State → Outcome → State → Prop) (XC : String → State → State → Prop) (a : Array Value) (s : State) (mc ms : Nat) (free : Addr → Prop) : State → Prop := fun t =>
  ∃ o, t.status = .running ∧ Ended t below o ∧ vx_Q Qc XC mc ms free a s o t
theorem vx_ret {g : JFrame} {mc ms : Nat} (k : W p l e R s m args below meth c H locs cells slots (MQ below Qc args s mc ms free) g) : W p l e R s m args below meth c H locs cells slots (vx_MQ below Qc XC args s mc ms free) g := by
  intro T hT X
  obtain ⟨t, a1, o, b1, b2, b3, b4⟩ := k T hT X
  exact ⟨t, a1, o, b1, b2, Or.inl ⟨b3, b4⟩⟩
/-- not caught here: it goes on to the caller -/
theorem vx_widen {g : JFrame} {q : Addr} {k n : Nat} (h1 : cells ≤ k) (h2 : slots ≤ n) (kk : vx_W p l e R s m args below meth c H locs k n Q g q) : vx_W p l e R s m args below meth c H locs cells slots Q g q := fun T hT X => kk T hT (stand_widen X h1 h2)
theorem vx_out {pc : Nat} {E : String} {ce : Cell} {q : Addr} {mc ms : Nat} (hout : ∀ x ∈ c.exceptionTable.toList, covers x pc = false) (hlocks : meth.locks = false) (hcell : H[q]? = some ce) (hv : ce.vm = .none) (hcl : s.vm.findClass E = some ce.cls)
    (hx : ∀ t : State, t.heap = H → s.vm.Alike t.vm → XC E s t) (hf : ∀ z ∈ locs, free z.base) (hc : cells ≤ mc) (hs : slots ≤ ms) :
    vx_W p l e R s m args below meth c H locs cells slots (vx_MQ below Qc XC args s mc ms free) (F0 m pc ls rest) q := by
  intro T hT X
  obtain ⟨st1, hrun, hend, hW, hsm⟩ := X.leaveThrown q (g := F0 m pc ls rest) rfl rfl rfl hout hlocks
  have hcell9 : (T.setFrames (.throwing q :: below)).heap[q]? = some ce := by
    show T.heap[q]? = some ce
    rw [hT]; exact hcell
  exact ⟨_, st1, .threw q, hrun, hend, Or.inr ⟨q, rfl, E, ce, locs, hx _ hT hW.alike, hcell9, hv, hcl, hW, hsm.mono hc hs, hf⟩⟩
theorem vx_frame {U : State} {k n : Nat} (h : s.sameButNew ({ U with vm := s.vm } : State) locs k n) : s.heap.size ≤ U.heap.size ∧ ∀ q : Nat, q < s.heap.size → (∀ z ∈ locs, z.base ≠ q) → U.heap[q]? = s.heap[q]? := by
  obtain ⟨-, h2, -, -, -, h6⟩ := h
  refine ⟨h2, fun q hq hz => ?_⟩
  obtain ⟨c9, e1, e2, e3, e4⟩ := h6 q _ (Array.getElem?_eq_getElem hq)
  have hs : c9.slots = (s.heap[q]).slots := Array.ext_getElem? fun i => e4 i fun hm => hz _ hm rfl
  have h9 : c9 = s.heap[q] := by
    rw [hs] at e2
    exact e2
  have e5 : U.heap[q]? = some c9 := e1
  rw [e5, h9, Array.getElem?_eq_getElem hq]
/-- the words of a throw but the four that speak of the heap -/
def vx_no (w : Cond) : Bool := decide (w ≠ .isRef (.static Bundle.tN "UNASSIGNED_STACK" Bundle.steD)) && decide (w ≠ .isRef (.static Bundle.tN "SUPPRESSED_SENTINEL" Bundle.listD)) && decide (w ≠ .laysStatic Bundle.tN "UNASSIGNED_STACK" Bundle.steD) && decide (w ≠ .laysStatic Bundle.tN "SUPPRESSED_SENTINEL" Bundle.listD)
def vx_at0 (own : String) (ic : Nat) (X : String) (names : List String) : List Cond := (Bundle.ownAtoms0 own ic X names).filter vx_no
def vx_atS (own : String) (ic : Nat) (X : String) (names : List String) : List Cond := (Bundle.ownAtoms own ic X names).filter vx_no
/-- a word that the tables alone decide, or a good one -/
def vx_ot (w : Cond) : Bool := w.onTables || goodWord w
theorem vx_ot_at {args a' : Array Value} {s U : State} {w : Cond} (hW : s.WarmedH U.vm) (hvm : s.vm = U.vm) (hg : vx_ot w = true) (h : w.before args s = true) : w.before a' U = true := by
  simp only [vx_ot, Bool.or_eq_true] at hg
  rcases hg with hg | hg
  · exact va_tabs hg hvm h
  · exact word_at hW (good_of_word hg) h
/-- a list's words: the good ones out of the method's own list, the others by premises of their own -/
theorem vx_hat {args : Array Value} {s : State} {L B : List Cond} (h1 : ∀ w ∈ L.filter goodWord, w.before args s = true) (h2 : ∀ w ∈ L.filter (fun w => !goodWord w), w ∈ B) (h3 : ∀ w ∈ B, w.before args s = true) : ∀ w ∈ L, w.before args s = true := by
  intro w hw
  by_cases g : goodWord w = true
  · exact h1 w (List.mem_filter.mpr ⟨hw, g⟩)
  · refine h3 w (h2 w (List.mem_filter.mpr ⟨hw, ?_⟩))
    show (!goodWord w) = true
    cases hgw : goodWord w
    · rfl
    · exact absurd hgw g
theorem vx_c {args : Array Value} {s : State} {w : Cond} {B : List Cond} (h : w.before args s = true) (t : ∀ w ∈ B, w.before args s = true) : ∀ w' ∈ w :: B, w'.before args s = true := fun w' h' => (List.mem_cons.mp h').elim (fun e => by rw [e]; exact h) (t w')
theorem vx_n {args : Array Value} {s : State} : ∀ w ∈ ([] : List Cond), w.before args s = true := fun _ h => nomatch h
theorem vx_own {args : Array Value} {s : State} {L : List Cond} (h1 : ∀ w ∈ L.filter vx_no, w.before args s = true)
    (hU : (Cond.isRef (.static Bundle.tN "UNASSIGNED_STACK" Bundle.steD)).before args s = true) (hN : (Cond.isRef (.static Bundle.tN "SUPPRESSED_SENTINEL" Bundle.listD)).before args s = true)
    (lU : (Cond.laysStatic Bundle.tN "UNASSIGNED_STACK" Bundle.steD).before args s = true) (lN : (Cond.laysStatic Bundle.tN "SUPPRESSED_SENTINEL" Bundle.listD).before args s = true) : ∀ w ∈ L, w.before args s = true := by
  intro w hw
  by_cases e1 : w = .isRef (.static Bundle.tN "UNASSIGNED_STACK" Bundle.steD)
  · rw [e1]; exact hU
  · by_cases e2 : w = .isRef (.static Bundle.tN "SUPPRESSED_SENTINEL" Bundle.listD)
    · rw [e2]; exact hN
    · by_cases e3 : w = .laysStatic Bundle.tN "UNASSIGNED_STACK" Bundle.steD
      · rw [e3]; exact lU
      · by_cases e4 : w = .laysStatic Bundle.tN "SUPPRESSED_SENTINEL" Bundle.listD
        · rw [e4]; exact lN
        · exact h1 w (List.mem_filter.mpr ⟨hw, by unfold vx_no; rw [decide_eq_true e1, decide_eq_true e2, decide_eq_true e3, decide_eq_true e4]; rfl⟩)
/-- where a static field lies, its class's statics cell in H -/
def vx_L (C n d : String) (A : Nat → Prop) (U : State) (H : Heap) : Prop := ∃ (c : ClassId) (k : Class) (i : Nat) (f : Field) (a : Nat) (cell : Cell), U.vm.findClass C = some c ∧ U.fieldFound? C n d = some (c, k, i, f) ∧ f.isStatic = true ∧ k.statics = some a ∧ H[a]? = some cell ∧ cell.vm.isStatics = true ∧ cell.cls = c ∧ f.slot < cell.slots.size ∧ k.staticTypes[f.slot]? = some f.type ∧ ¬ A a
theorem vx_L.moved {C n d : String} {A : Nat → Prop} {u U : State} {H : Heap} (hvm : u.vm.Alike U.vm) (h : vx_L C n d A u H) : vx_L C n d A U H := by
  obtain ⟨c, k, i, f, a, cell, h1, h2, h3, h4, h5, h6, h7, h8, h9, h10⟩ := h
  obtain ⟨k', hi', he⟩ := State.fieldFound?_setVm hvm h2
  exact ⟨c, k', i, f, a, cell, by rw [hvm.findClass]; exact h1, hi', h3, by rw [he]; exact h4, h5, h6, h7, h8, by rw [he]; exact h9, h10⟩
theorem vx_L.kept {C n d : String} {A : Nat → Prop} {U : State} {H H1 : Heap} (h : vx_L C n d A U H) (hq : ∀ a : Nat, a < H.size → ¬ A a → H1[a]? = H[a]?) : vx_L C n d A U H1 := by
  obtain ⟨c, k, i, f, a, cell, h1, h2, h3, h4, h5, h6, h7, h8, h9, h10⟩ := h
  exact ⟨c, k, i, f, a, cell, h1, h2, h3, h4, by rw [hq a (Array.getElem?_eq_some_iff.mp h5).1 h10]; exact h5, h6, h7, h8, h9, h10⟩
theorem vx_L.narrow {C n d : String} {A B : Nat → Prop} {U : State} {H : Heap} (h : vx_L C n d A U H) (hAB : ∀ q, B q → A q) : vx_L C n d B U H := by
  obtain ⟨c, k, i, f, a, cell, h1, h2, h3, h4, h5, h6, h7, h8, h9, h10⟩ := h
  exact ⟨c, k, i, f, a, cell, h1, h2, h3, h4, h5, h6, h7, h8, h9, fun z => h10 (hAB _ z)⟩
theorem vx_L.word {C n d : String} {A : Nat → Prop} {s : State} {args : Array Value} (h : vx_L C n d A s s.heap) : (Cond.laysStatic C n d).before args s = true := by
  obtain ⟨c, k, i, f, a, cell, h1, h2, h3, h4, h5, h6, h7, h8, h9, -⟩ := h
  show (Cond.laysStatic C n d).holds args s none s [] = true
  exact Cond.laysStatic_of h1 h2 h3 h4 h5 h6 h7 h8 h9
/-- .. and what it holds: null or some reference -/
def vx_Zq (C n d : String) (A : Nat → Prop) (U : State) (H : Heap) : Prop := va_Zq C n d A U H ∧ vx_L C n d A U H
theorem vx_Zq.moved {C n d : String} {A : Nat → Prop} {u U : State} {H : Heap} (hvm : u.vm.Alike U.vm) (h : vx_Zq C n d A u H) : vx_Zq C n d A U H := ⟨va_Zq.moved hvm h.1, vx_L.moved hvm h.2⟩
theorem vx_Zq.kept {C n d : String} {A : Nat → Prop} {U : State} {H H1 : Heap} (h : vx_Zq C n d A U H) (hq : ∀ a : Nat, a < H.size → ¬ A a → H1[a]? = H[a]?) : vx_Zq C n d A U H1 := ⟨va_Zq.kept h.1 hq, vx_L.kept h.2 hq⟩
theorem vx_Zq.narrow {C n d : String} {A B : Nat → Prop} {U : State} {H : Heap} (h : vx_Zq C n d A U H) (hAB : ∀ q, B q → A q) : vx_Zq C n d B U H := ⟨va_Zq.narrow h.1 hAB, vx_L.narrow h.2 hAB⟩
theorem vx_Zqof {args : Array Value} {s : State} {C n d : String} {A : Nat → Prop} (hl : (Cond.laysStatic C n d).before args s = true) (hini : (Cond.initialized C).before args s = true) (h : (Cond.isRef (.static C n d)).before args s = true) (hA : ∀ a : Nat, a < s.heap.size → ¬ A a) : vx_Zq C n d A s s.heap := by
  refine ⟨va_Zqof hl hini h hA, ?_⟩
  obtain ⟨c, k, i, f, a, cell, h1, h2, h3, h4, h5, h6, h7, h8, h9⟩ := Cond.laysStatic_spec hl
  exact ⟨c, k, i, f, a, cell, h1, h2, h3, h4, h5, h6, h7, h8, h9, hA a (Array.getElem?_eq_some_iff.mp h5).1⟩
theorem vx_isRef {C n d : String} {v : Value} {A : Nat → Prop} {s : State} {args : Array Value} (h : va_Z C n d v A s s.heap) (hv : v.isRef = true) : (Cond.isRef (.static C n d)).before args s = true := by
  obtain ⟨cf, kf, fi, f, a, cell, h1, h2, h3, h4, h5, h6, h7, -⟩ := h
  have he : (Term.static C n d).eval args s none [] s = some v := by
    simp [Term.eval, State.fieldNamed?, h1, h2, h4, h5, h6, h7]
  simp only [Cond.before, Cond.holds, Cond.value, he]
  cases v <;> simp_all [Value.isRef]
theorem vx_isRefq {C n d : String} {A : Nat → Prop} {s : State} {args : Array Value} (h : va_Zq C n d A s s.heap) : (Cond.isRef (.static C n d)).before args s = true := by
  rcases h with h | ⟨t, h⟩
  · exact vx_isRef h rfl
  · exact vx_isRef h rfl
/-- the same frame, seen from here: as if the method were called anew in this heap -/
theorem vx_rebase {T : State} (X : Stand p l e R s m args below meth c T locs cells slots) {R' : Room} (hf : R'.frames ≤ R.frames) (hl : R'.locals ≤ R.locals) (hc : cells + R'.cells ≤ R.cells) (hs : slots + R'.slots ≤ R.slots) :
    Stand p l e R' ((T.setVm s.vm).setFrames (.invoking m args :: below)) m args below meth c T [] 0 0 := by
  have htop : (T.setVm s.vm).topJava?.isSome := X.here.top
  have hF : ((T.setVm s.vm).setFrames (.invoking m args :: below)).frames = .invoking m args :: below := State.frames_setFrames _ (State.cur_lt_of_top htop)
  obtain ⟨g₀, hg0⟩ := Option.isSome_iff_exists.mp htop
  obtain ⟨r, hr⟩ := State.topJava?_eq_some.mp hg0
  have hl9 : e.platform.stackLimits (T.setVm s.vm).me = e.platform.stackLimits s.me := X.limits
  have hb9 : (T.setVm s.vm).me.stackBytes = s.me.stackBytes := X.bytes
  refine ⟨X.admits, X.cas, X.clock, hF, ?_, X.hears, X.method, X.code, X.here, X.tail, X.warmed, ?_, ?_, ?_⟩
  · have h := X.room
    have hU : ((T.setVm s.vm).setFrames (.invoking m args :: below)).localsInUse = s.localsInUse := by
      rw [State.localsInUse_invoking hF (meth := meth) (c := c) X.method X.code, State.localsInUse_invoking X.frames X.method X.code]
    simp only [State.hasRoom, Bool.and_eq_true, decide_eq_true_eq] at h ⊢
    obtain ⟨⟨⟨⟨h1, h2, h3, h4, h5, h6⟩, h7⟩, h8⟩, h9⟩ := h
    rw [X.frames, List.length_cons] at h2 h3
    have q1 := X.heapSize
    have q2 := X.used
    simp only [hF, hU, List.length_cons, State.stackLimits_setFrames, State.stackBytes_setFrames, hl9, hb9]
    refine ⟨⟨⟨⟨by omega, by omega, by omega, by omega, by omega, h6⟩, ?_⟩, ?_⟩, X.book⟩
    · show T.heap.size + R'.cells ≤ e.platform.maxCells
      omega
    · show T.slotsUsed + R'.slots ≤ e.platform.maxSlots
      omega
  · rw [State.stackLimits_setFrames]; rfl
  · rw [State.stackBytes_setFrames]; rfl
  · refine ⟨?_, Nat.le_refl _, Nat.le_refl _, ?_, ?_, fun a c9 h9 => ⟨c9, h9, rfl, rfl, fun _ _ => rfl⟩⟩
    · obtain ⟨t, ht, -⟩ := State.frames_cons hr
      show T.setVm s.vm = { ((T.setVm s.vm).setFrames (.invoking m args :: below)).setFrames (T.setVm s.vm).frames with heap := T.heap, slotsUsed := T.slotsUsed }
      rw [State.setFrames_setFrames, State.setFrames_self ht]
      rfl
    · show T.slotsUsed = T.slotsUsed + ((T.heap.toList.drop T.heap.size).map (·.slots.size)).sum
      rw [List.drop_eq_nil_of_le (Nat.le_of_eq Array.length_toList)]
      rfl
    · show ((T.heap.toList.drop T.heap.size).map (·.slots.size)).sum ≤ 0
      rw [List.drop_eq_nil_of_le (Nat.le_of_eq Array.length_toList)]
      exact Nat.le_refl _
/-- 'throw new E()': new; dup; invokespecial; athrow -/
theorem vx_throw0 {cc : ByteArray} {pc : Nat} (hexec : p.tables.exec = Jvm.exec) (hb : c.code = cc) (hl : l.stackTraces = false) {own cls : String} {names : List String} {ik ic mc ms : Nat} {A : Nat → Prop}
    (hown : s.vm.findClass own = some m.cls) (hcls : Bundle.fit cls = true) (hnames : ∀ n ∈ names, Bundle.fit n = true)
    (hk : (Cond.classLink own ik cls).before args s = true) (hini : (Cond.initialized cls).before args s = true) (hat : ∀ w ∈ vx_at0 own ic cls names, w.before args s = true)
    (hgood : ∀ w ∈ Cond.classLink own ik cls :: Cond.initialized cls :: vx_at0 own ic cls names, vx_ot w = true)
    (hU : vx_Zq Bundle.tN "UNASSIGNED_STACK" Bundle.steD A s s.heap) (hN : vx_Zq Bundle.tN "SUPPRESSED_SENTINEL" Bundle.listD A s s.heap) (hS : va_S A s.heap H locs) (hsize : ls.size = c.maxLocals)
    (d0 : decode cc pc = .ok (.new ik, 3)) (d3 : decode cc (pc + 3) = .ok (.dup, 1)) (d4 : decode cc (pc + 4) = .ok (.invokespecial ic, 3)) (d7 : decode cc (pc + 7) = .ok (.athrow, 1))
    (hout : ∀ x ∈ c.exceptionTable.toList, covers x (pc + 7) = false)
    (hRframes : names.length + 3 < R.frames) (hRlocals : (rest.map fun v => v.category).sum + (13 * (names.length + 1) + 42) ≤ R.locals) (hRcells : cells + 1 ≤ R.cells) (hRslots : slots + 6 ≤ R.slots) (hlocks : meth.locks = false)
    (hx : ∀ t : State, s.vm.Alike t.vm → H.size ≤ t.heap.size → (∀ q : Nat, q < H.size → t.heap[q]? = H[q]?) → XC cls s t)
    (hf : ∀ z ∈ locs, free z.base) (hc : cells + 1 ≤ mc) (hs : slots + 6 ≤ ms) :
    W p l e R s m args below meth c H locs cells slots (vx_MQ below Qc XC args s mc ms free) (F0 m pc ls rest) := by
  intro T hT X
  have htr : e.platform.stackTraces = false := (show e.platform.stackTraces = l.stackTraces by rw [X.admits.platform]).trans hl
  have Y := vx_rebase X (R' := { frames := R.frames, locals := R.locals, cells := 1, slots := 6 }) (Nat.le_refl _) (Nat.le_refl _) hRcells hRslots
  obtain ⟨s', hA⟩ : ∃ z, z = (T.setVm s.vm).setFrames (.invoking m args :: below) := ⟨_, rfl⟩
  rw [← hA] at Y
  have hvm : s'.vm = s.vm := by rw [hA]; rfl
  have hhp : s'.heap = H := by rw [hA]; exact hT
  have hW0 : s.WarmedH s'.vm := by rw [hvm]; exact State.WarmedH.refl s
  have hat' : ∀ w ∈ vx_at0 own ic cls names, w.before args s' = true := fun w hw => vx_ot_at hW0 hvm.symm (hgood w (List.mem_cons_of_mem _ (List.mem_cons_of_mem _ hw))) (hat w hw)
  have hk' : (Cond.classLink own ik cls).before args s' = true := vx_ot_at hW0 hvm.symm (hgood _ List.mem_cons_self) hk
  have hini' : (Cond.initialized cls).before args s' = true := vx_ot_at hW0 hvm.symm (hgood _ (List.mem_cons_of_mem _ List.mem_cons_self)) hini
  have hU' : vx_Zq Bundle.tN "UNASSIGNED_STACK" Bundle.steD A s' s'.heap := by rw [hhp]; exact vx_Zq.moved hW0.alike (hU.kept hS.2.1)
  have hN' : vx_Zq Bundle.tN "SUPPRESSED_SENTINEL" Bundle.listD A s' s'.heap := by rw [hhp]; exact vx_Zq.moved hW0.alike (hN.kept hS.2.1)
  have h : ∀ w ∈ Bundle.ownAtoms0 own ic cls names, w.before args s' = true := vx_own hat' (vx_isRefq hU'.1) (vx_isRefq hN'.1) hU'.2.word hN'.2.word
  have hown' : s'.vm.findClass own = some m.cls := by rw [hvm]; exact hown
  have hins : (Cond.instantiable cls 6).before args s' = true := h _ (by simp [Bundle.ownAtoms0])
  obtain ⟨vm₁, cX, kX, hfX, hkX, -, -, X₁, st1⟩ := Y.newCold hexec (own := own) (C := cls) (index := ik) (n := 6) hown' hk' hins hini'
    (g := F0 m pc ls rest) rfl (by rw [hb]; exact d0) (Nat.le_refl _) (Nat.le_refl _)
  generalize hT1 : (T.setVm vm₁).pushCell { cls := cX, slots := kX.instanceTypes.map defaultValue, vm := .none } = T1 at X₁ st1
  have hcat : (Value.ref T.heap.size).category = 1 := rfl
  have hcellA : T1.heap[T.heap.size]? = some (freshCell cX kX) := by rw [← hT1]; exact State.heap_pushCell_size _ _
  have d3' : decode c.code (pc + 3) = .ok (.dup, 1) := by rw [hb]; exact d3
  obtain ⟨U, hsteps, hrun, hend, hW, hsame, ce, hce, hO⟩ := X₁.ctorThrow0 hexec htr (own := own) (cls := cls) (names := names) (ic := ic) hown' hcls hnames h (fun x hx => nomatch hx) hfX hkX hcellA (by rw [hhp, hT]; exact Nat.le_refl _)
    (g := { method := m, pc := pc + 4, locals := ls, stack := .ref T.heap.size :: .ref T.heap.size :: rest, locked := none }) rfl hsize rfl rfl (rest := rest) rfl
    (by rw [hb]; exact d4) (by rw [hb]; exact d7) hout hRframes (by simp only [List.map_cons, List.sum_cons, hcat]; omega) hlocks
  obtain ⟨f1, f2⟩ := vx_frame hsame
  rw [hhp] at f1 f2
  have hWs : s.WarmedH U.vm := State.WarmedH.trans hW0 hW
  have hcl : s.vm.findClass cls = some ce.cls := by
    have h9 := hO.cls
    rw [hvm] at h9
    exact h9
  have hall : s.sameButNew ({ U with vm := s.vm } : State) locs mc ms := by
    subst hA
    obtain ⟨e1, e2⟩ := hsame
    rw [State.setFrames_setFrames] at e1
    have h2 : (T.setVm s.vm).sameButNew ({ U with vm := s.vm } : State) [] (0 + 1) (0 + 6) := ⟨e1, e2⟩
    have h3 := X.same.trans h2
    rw [List.append_nil] at h3
    exact h3.mono hc hs
  refine ⟨U, ?_, .threw T.heap.size, hrun, hend, Or.inr ⟨T.heap.size, rfl, cls, ce, locs, hx U hWs.alike f1 (fun q hq => f2 q hq (fun z hz => nomatch hz)), hce, hO.vm, hcl, hWs, hall, hf⟩⟩
  refine st1 _ ?_
  show Steps p.tables e below (T1.setTop { method := m, pc := pc + 3, locals := ls, stack := .ref T.heap.size :: rest, locked := none }) _
  jvm_step X₁.here [X₁.here.top, hexec, d3', Value.category]
  exact hsteps
/-- 'throw new E("text")': new; dup; ldc; invokespecial; athrow -/
theorem vx_throwS {cc : ByteArray} {pc : Nat} (hexec : p.tables.exec = Jvm.exec) (hb : c.code = cc) (hl : l.stackTraces = false) {own cls text : String} {names : List String} {ik is ic mc ms sa : Nat} {A : Nat → Prop}
    (hown : s.vm.findClass own = some m.cls) (hcls : Bundle.fit cls = true) (hnames : ∀ n ∈ names, Bundle.fit n = true)
    (hk : (Cond.classLink own ik cls).before args s = true) (hini : (Cond.initialized cls).before args s = true) (hstr : vk_R own is text sa s) (hat : ∀ w ∈ vx_atS own ic cls names, w.before args s = true)
    (hgood : ∀ w ∈ Cond.classLink own ik cls :: Cond.initialized cls :: vx_atS own ic cls names, vx_ot w = true)
    (hU : vx_Zq Bundle.tN "UNASSIGNED_STACK" Bundle.steD A s s.heap) (hN : vx_Zq Bundle.tN "SUPPRESSED_SENTINEL" Bundle.listD A s s.heap) (hS : va_S A s.heap H locs) (hsize : ls.size = c.maxLocals)
    (d0 : decode cc pc = .ok (.new ik, 3)) (d3 : decode cc (pc + 3) = .ok (.dup, 1)) (d4 : decode cc (pc + 4) = .ok (.ldc is, 2)) (d6 : decode cc (pc + 6) = .ok (.invokespecial ic, 3)) (d9 : decode cc (pc + 9) = .ok (.athrow, 1))
    (hout : ∀ x ∈ c.exceptionTable.toList, covers x (pc + 9) = false)
    (hRframes : names.length + 3 < R.frames) (hRlocals : (rest.map fun v => v.category).sum + (13 * (names.length + 1) + 43) ≤ R.locals) (hRcells : cells + 1 ≤ R.cells) (hRslots : slots + 6 ≤ R.slots) (hlocks : meth.locks = false)
    (hx : ∀ t : State, s.vm.Alike t.vm → H.size ≤ t.heap.size → (∀ q : Nat, q < H.size → t.heap[q]? = H[q]?) → XC cls s t)
    (hf : ∀ z ∈ locs, free z.base) (hc : cells + 1 ≤ mc) (hs : slots + 6 ≤ ms) :
    W p l e R s m args below meth c H locs cells slots (vx_MQ below Qc XC args s mc ms free) (F0 m pc ls rest) := by
  intro T hT X
  have htr : e.platform.stackTraces = false := (show e.platform.stackTraces = l.stackTraces by rw [X.admits.platform]).trans hl
  have Y := vx_rebase X (R' := { frames := R.frames, locals := R.locals, cells := 1, slots := 6 }) (Nat.le_refl _) (Nat.le_refl _) hRcells hRslots
  obtain ⟨s', hA⟩ : ∃ z, z = (T.setVm s.vm).setFrames (.invoking m args :: below) := ⟨_, rfl⟩
  rw [← hA] at Y
  have hvm : s'.vm = s.vm := by rw [hA]; rfl
  have hhp : s'.heap = H := by rw [hA]; exact hT
  have hW0 : s.WarmedH s'.vm := by rw [hvm]; exact State.WarmedH.refl s
  have hat' : ∀ w ∈ vx_atS own ic cls names, w.before args s' = true := fun w hw => vx_ot_at hW0 hvm.symm (hgood w (List.mem_cons_of_mem _ (List.mem_cons_of_mem _ hw))) (hat w hw)
  have hk' : (Cond.classLink own ik cls).before args s' = true := vx_ot_at hW0 hvm.symm (hgood _ List.mem_cons_self) hk
  have hini' : (Cond.initialized cls).before args s' = true := vx_ot_at hW0 hvm.symm (hgood _ (List.mem_cons_of_mem _ List.mem_cons_self)) hini
  have hU' : vx_Zq Bundle.tN "UNASSIGNED_STACK" Bundle.steD A s' s'.heap := by rw [hhp]; exact vx_Zq.moved hW0.alike (hU.kept hS.2.1)
  have hN' : vx_Zq Bundle.tN "SUPPRESSED_SENTINEL" Bundle.listD A s' s'.heap := by rw [hhp]; exact vx_Zq.moved hW0.alike (hN.kept hS.2.1)
  have h : ∀ w ∈ Bundle.ownAtoms own ic cls names, w.before args s' = true := vx_own hat' (vx_isRefq hU'.1) (vx_isRefq hN'.1) hU'.2.word hN'.2.word
  have hown' : s'.vm.findClass own = some m.cls := by rw [hvm]; exact hown
  have hins : (Cond.instantiable cls 6).before args s' = true := h _ (by simp [Bundle.ownAtoms])
  obtain ⟨vm₁, cX, kX, hfX, hkX, -, -, X₁, st1⟩ := Y.newCold hexec (own := own) (C := cls) (index := ik) (n := 6) hown' hk' hins hini'
    (g := F0 m pc ls rest) rfl (by rw [hb]; exact d0) (Nat.le_refl _) (Nat.le_refl _)
  generalize hT1 : (T.setVm vm₁).pushCell { cls := cX, slots := kX.instanceTypes.map defaultValue, vm := .none } = T1 at X₁ st1
  have hcat : (Value.ref T.heap.size).category = 1 := rfl
  have hcellA : T1.heap[T.heap.size]? = some (freshCell cX kX) := by rw [← hT1]; exact State.heap_pushCell_size _ _
  have d3' : decode c.code (pc + 3) = .ok (.dup, 1) := by rw [hb]; exact d3
  have d4' : decode c.code (pc + 4) = .ok (.ldc is, 2) := by rw [hb]; exact d4
  have hstr' : vk_R own is text sa s' := vk_R.warm hW0 hstr
  obtain ⟨U, hsteps, hrun, hend, hW, hsame, ce, hce, hO⟩ := X₁.ctorThrowS hexec htr (own := own) (cls := cls) (names := names) (ic := ic) hown' hcls hnames h (fun x hx => nomatch hx) hfX hkX hcellA (by rw [hhp, hT]; exact Nat.le_refl _) (msg := .ref sa) rfl
    (g := { method := m, pc := pc + 6, locals := ls, stack := .ref sa :: .ref T.heap.size :: .ref T.heap.size :: rest, locked := none }) rfl hsize rfl rfl (rest := rest) rfl
    (by rw [hb]; exact d6) (by rw [hb]; exact d9) hout hRframes (by simp only [List.map_cons, List.sum_cons, hcat]; omega) hlocks
  obtain ⟨f1, f2⟩ := vx_frame hsame
  rw [hhp] at f1 f2
  have hWs : s.WarmedH U.vm := State.WarmedH.trans hW0 hW
  have hcl : s.vm.findClass cls = some ce.cls := by
    have h9 := hO.cls
    rw [hvm] at h9
    exact h9
  have hall : s.sameButNew ({ U with vm := s.vm } : State) locs mc ms := by
    subst hA
    obtain ⟨e1, e2⟩ := hsame
    rw [State.setFrames_setFrames] at e1
    have h2 : (T.setVm s.vm).sameButNew ({ U with vm := s.vm } : State) [] (0 + 1) (0 + 6) := ⟨e1, e2⟩
    have h3 := X.same.trans h2
    rw [List.append_nil] at h3
    exact h3.mono hc hs
  refine ⟨U, ?_, .threw T.heap.size, hrun, hend, Or.inr ⟨T.heap.size, rfl, cls, ce, locs, hx U hWs.alike f1 (fun q hq => f2 q hq (fun z hz => nomatch hz)), hce, hO.vm, hcl, hWs, hall, hf⟩⟩
  refine st1 _ ?_
  show Steps p.tables e below (T1.setTop { method := m, pc := pc + 3, locals := ls, stack := .ref T.heap.size :: rest, locked := none }) _
  jvm_step X₁.here [X₁.here.top, hexec, d3', Value.category]
  exact X₁.ldcString hexec (own := own) (text := text) (index := is) (a := sa) hown' hstr'.1 hstr'.2
    (g := { method := m, pc := pc + 4, locals := ls, stack := .ref T.heap.size :: .ref T.heap.size :: rest, locked := none }) rfl d4' _ hsteps
/-- 'throw new E("text")', the text by a wide index -/
theorem vx_throwSW {cc : ByteArray} {pc : Nat} (hexec : p.tables.exec = Jvm.exec) (hb : c.code = cc) (hl : l.stackTraces = false) {own cls text : String} {names : List String} {ik is ic mc ms sa : Nat} {A : Nat → Prop}
    (hown : s.vm.findClass own = some m.cls) (hcls : Bundle.fit cls = true) (hnames : ∀ n ∈ names, Bundle.fit n = true)
    (hk : (Cond.classLink own ik cls).before args s = true) (hini : (Cond.initialized cls).before args s = true) (hstr : vk_R own is text sa s) (hat : ∀ w ∈ vx_atS own ic cls names, w.before args s = true)
    (hgood : ∀ w ∈ Cond.classLink own ik cls :: Cond.initialized cls :: vx_atS own ic cls names, vx_ot w = true)
    (hU : vx_Zq Bundle.tN "UNASSIGNED_STACK" Bundle.steD A s s.heap) (hN : vx_Zq Bundle.tN "SUPPRESSED_SENTINEL" Bundle.listD A s s.heap) (hS : va_S A s.heap H locs) (hsize : ls.size = c.maxLocals)
    (d0 : decode cc pc = .ok (.new ik, 3)) (d3 : decode cc (pc + 3) = .ok (.dup, 1)) (d4 : decode cc (pc + 4) = .ok (.ldc_w is, 3)) (d7 : decode cc (pc + 7) = .ok (.invokespecial ic, 3)) (d10 : decode cc (pc + 10) = .ok (.athrow, 1))
    (hout : ∀ x ∈ c.exceptionTable.toList, covers x (pc + 10) = false)
    (hRframes : names.length + 3 < R.frames) (hRlocals : (rest.map fun v => v.category).sum + (13 * (names.length + 1) + 43) ≤ R.locals) (hRcells : cells + 1 ≤ R.cells) (hRslots : slots + 6 ≤ R.slots) (hlocks : meth.locks = false)
    (hx : ∀ t : State, s.vm.Alike t.vm → H.size ≤ t.heap.size → (∀ q : Nat, q < H.size → t.heap[q]? = H[q]?) → XC cls s t)
    (hf : ∀ z ∈ locs, free z.base) (hc : cells + 1 ≤ mc) (hs : slots + 6 ≤ ms) :
    W p l e R s m args below meth c H locs cells slots (vx_MQ below Qc XC args s mc ms free) (F0 m pc ls rest) := by
  intro T hT X
  have htr : e.platform.stackTraces = false := (show e.platform.stackTraces = l.stackTraces by rw [X.admits.platform]).trans hl
  have Y := vx_rebase X (R' := { frames := R.frames, locals := R.locals, cells := 1, slots := 6 }) (Nat.le_refl _) (Nat.le_refl _) hRcells hRslots
  obtain ⟨s', hA⟩ : ∃ z, z = (T.setVm s.vm).setFrames (.invoking m args :: below) := ⟨_, rfl⟩
  rw [← hA] at Y
  have hvm : s'.vm = s.vm := by rw [hA]; rfl
  have hhp : s'.heap = H := by rw [hA]; exact hT
  have hW0 : s.WarmedH s'.vm := by rw [hvm]; exact State.WarmedH.refl s
  have hat' : ∀ w ∈ vx_atS own ic cls names, w.before args s' = true := fun w hw => vx_ot_at hW0 hvm.symm (hgood w (List.mem_cons_of_mem _ (List.mem_cons_of_mem _ hw))) (hat w hw)
  have hk' : (Cond.classLink own ik cls).before args s' = true := vx_ot_at hW0 hvm.symm (hgood _ List.mem_cons_self) hk
  have hini' : (Cond.initialized cls).before args s' = true := vx_ot_at hW0 hvm.symm (hgood _ (List.mem_cons_of_mem _ List.mem_cons_self)) hini
  have hU' : vx_Zq Bundle.tN "UNASSIGNED_STACK" Bundle.steD A s' s'.heap := by rw [hhp]; exact vx_Zq.moved hW0.alike (hU.kept hS.2.1)
  have hN' : vx_Zq Bundle.tN "SUPPRESSED_SENTINEL" Bundle.listD A s' s'.heap := by rw [hhp]; exact vx_Zq.moved hW0.alike (hN.kept hS.2.1)
  have h : ∀ w ∈ Bundle.ownAtoms own ic cls names, w.before args s' = true := vx_own hat' (vx_isRefq hU'.1) (vx_isRefq hN'.1) hU'.2.word hN'.2.word
  have hown' : s'.vm.findClass own = some m.cls := by rw [hvm]; exact hown
  have hins : (Cond.instantiable cls 6).before args s' = true := h _ (by simp [Bundle.ownAtoms])
  obtain ⟨vm₁, cX, kX, hfX, hkX, -, -, X₁, st1⟩ := Y.newCold hexec (own := own) (C := cls) (index := ik) (n := 6) hown' hk' hins hini'
    (g := F0 m pc ls rest) rfl (by rw [hb]; exact d0) (Nat.le_refl _) (Nat.le_refl _)
  generalize hT1 : (T.setVm vm₁).pushCell { cls := cX, slots := kX.instanceTypes.map defaultValue, vm := .none } = T1 at X₁ st1
  have hcat : (Value.ref T.heap.size).category = 1 := rfl
  have hcellA : T1.heap[T.heap.size]? = some (freshCell cX kX) := by rw [← hT1]; exact State.heap_pushCell_size _ _
  have d3' : decode c.code (pc + 3) = .ok (.dup, 1) := by rw [hb]; exact d3
  have d4' : decode c.code (pc + 4) = .ok (.ldc_w is, 3) := by rw [hb]; exact d4
  have hstr' : vk_R own is text sa s' := vk_R.warm hW0 hstr
  obtain ⟨U, hsteps, hrun, hend, hW, hsame, ce, hce, hO⟩ := X₁.ctorThrowS hexec htr (own := own) (cls := cls) (names := names) (ic := ic) hown' hcls hnames h (fun x hx => nomatch hx) hfX hkX hcellA (by rw [hhp, hT]; exact Nat.le_refl _) (msg := .ref sa) rfl
    (g := { method := m, pc := pc + 7, locals := ls, stack := .ref sa :: .ref T.heap.size :: .ref T.heap.size :: rest, locked := none }) rfl hsize rfl rfl (rest := rest) rfl
    (by rw [hb]; exact d7) (by rw [hb]; exact d10) hout hRframes (by simp only [List.map_cons, List.sum_cons, hcat]; omega) hlocks
  obtain ⟨f1, f2⟩ := vx_frame hsame
  rw [hhp] at f1 f2
  have hWs : s.WarmedH U.vm := State.WarmedH.trans hW0 hW
  have hcl : s.vm.findClass cls = some ce.cls := by
    have h9 := hO.cls
    rw [hvm] at h9
    exact h9
  have hall : s.sameButNew ({ U with vm := s.vm } : State) locs mc ms := by
    subst hA
    obtain ⟨e1, e2⟩ := hsame
    rw [State.setFrames_setFrames] at e1
    have h2 : (T.setVm s.vm).sameButNew ({ U with vm := s.vm } : State) [] (0 + 1) (0 + 6) := ⟨e1, e2⟩
    have h3 := X.same.trans h2
    rw [List.append_nil] at h3
    exact h3.mono hc hs
  refine ⟨U, ?_, .threw T.heap.size, hrun, hend, Or.inr ⟨T.heap.size, rfl, cls, ce, locs, hx U hWs.alike f1 (fun q hq => f2 q hq (fun z hz => nomatch hz)), hce, hO.vm, hcl, hWs, hall, hf⟩⟩
  refine st1 _ ?_
  show Steps p.tables e below (T1.setTop { method := m, pc := pc + 3, locals := ls, stack := .ref T.heap.size :: rest, locked := none }) _
  jvm_step X₁.here [X₁.here.top, hexec, d3', Value.category]
  exact X₁.ldcStringW hexec (own := own) (text := text) (index := is) (a := sa) hown' hstr'.1 hstr'.2
    (g := { method := m, pc := pc + 4, locals := ls, stack := .ref T.heap.size :: .ref T.heap.size :: rest, locked := none }) rfl d4' _ hsteps
end Ends
section Bodies
variable {l : Launch}
theorem vx_ofW {y : MethodName} {ws ws' : List Cond} {rm : Room} {Pc : Array Value → State → Prop} {Qc : Array Value → State → Outcome → State → Prop} {XC : String → State → State → Prop} {mc ms : Nat} {free : Addr → Prop} {cc : ByteArray} {maxL : Nat} {ret : Option FieldType}
    (hy : plainName y.cls = true) (hw : ws = Cond.code y cc maxL ret :: ws')
    (body : ∀ p e s m args below meth c s₁, BodyLoose p l y (headSpec ws rm) cc maxL ret e s m args below meth c s₁ → c.maxLocals = maxL → (∀ x ∈ c.exceptionTable.toList, False) → Pc args s →
      W p l e (headSpec ws rm).room s m args below meth c s.heap [] 0 0 (vx_MQ below Qc XC args s mc ms free) (entryFrame m args maxL)) : vx_Met l y ws rm Pc Qc XC mc ms free := by
  refine MetFree.of_bodyS (code := cc) (maxLocals := maxL) (ret := ret) hy ?_ ?_
  · intro args s m h hn
    obtain ⟨meth, c, h1, h2, h3, h4, h5, h6, -, -⟩ := Cond.code_spec hn (atoms_spec (ws := ws) h _ (by rw [hw]; exact List.mem_cons_self))
    exact ⟨meth, c, h1, h2, h3, h4, h5, h6⟩
  · intro p e s m args below meth c s₁ B hml hP _
    have hh0 : s₁.heap = s.heap := by rw [B.state]; rfl
    have ht : ∀ x ∈ c.exceptionTable.toList, False := by
      obtain ⟨meth9, c9, h1, h2, -, -, -, -, h7, -⟩ := Cond.code_spec B.named (atoms_spec (ws := ws) B.pre _ (by rw [hw]; exact List.mem_cons_self))
      cases Option.some.inj (h1.symm.trans B.method)
      cases Option.some.inj (h2.symm.trans (Stand.of_body B).code)
      intro x hx
      rw [Array.isEmpty_iff.mp h7] at hx
      cases hx
    obtain ⟨t, a1, o, b1, b2, b3⟩ := body p e s m args below meth c s₁ B hml ht hP s₁ hh0 (Stand.of_body B)
    exact ⟨t, o, a1, b1, b2, b3⟩
/-- the table of a body with handlers -/
theorem vx_table {p : Program} {x y : MethodName} {S : Spec} {cc bytes : ByteArray} {maxL maxL' : Nat} {ret ret' : Option FieldType} {e : Env} {s s₁ : State} {m : MethodId} {args : Array Value} {below : List Frame} {meth : Method} {c : Code} {hh : List (Nat × Nat × Nat × Nat)}
    (B : BodyLoose p l y S cc maxL ret e s m args below meth c s₁) (h : (Cond.codeWith y bytes maxL' ret' hh).before args s = true) : c.exceptionTable.toList = tableOf hh := by
  obtain ⟨m9, meth9, c9, hn9, h1, h2, -, -, h6, -⟩ := Cond.codeWith_spec h
  cases Option.some.inj (hn9.symm.trans B.named)
  cases Option.some.inj (h1.symm.trans B.method)
  cases Option.some.inj (h2.symm.trans (Stand.of_body B).code)
  rw [← h6, table_eq]
end Bodies
end VXA
/-! ===== END ===== -/
/-! ===== BEGIN a static call of a method with an exception table ===== -/
section VXS
variable {p : Program} {l : Launch} {e : Env} {R : Room} {s : State} {m : MethodId} {args : Array Value} {below : List Frame} {meth : Method} {c : Code} {T : State} {H : Heap} {locs : List Loc} {cells slots : Nat}
abbrev vx_CSW (R : Room) (s : State) (args : Array Value) (own : String) (index : Nat) (y : MethodName) (bytes : ByteArray) (maxL : Nat) (ret : Option FieldType) (hh : List (Nat × Nat × Nat × Nat)) (ws : List Cond) (rm : Room) (mc ms n : Nat) : Prop :=
  (rm.cells = mc ∧ rm.slots = ms ∧ rm.frames + 1 ≤ R.frames ∧ 8 + (maxL + 11) + rm.locals ≤ R.locals ∧ (∀ w ∈ ws, ∀ (a' : Array Value) (U : State), s.WarmedH U.vm → w.before a' U = true) ∧ Cond.codeWith y bytes maxL ret hh ∈ ws) ∧
  (Cond.codeWith y bytes maxL ret hh).before args s = true ∧ (Cond.initialized y.cls).before args s = true ∧ (y.cls ≠ "java/lang/invoke/MethodHandle" ∧ y.cls ≠ "java/lang/invoke/VarHandle") ∧
  (∀ sig, parseMethodDescriptor y.desc = some sig → n = sig.parameters.length) ∧ (Cond.methodLink own index y).before args s = true ∧ (Cond.static y).before args s = true
theorem vx_cwSW {own : String} {index maxL mc ms : Nat} {y : MethodName} {bytes : ByteArray} {ret : Option FieldType} {hh : List (Nat × Nat × Nat × Nat)} {Ts ws ws' : List Cond} {rm : Room} (n : Nat) (ht : ∀ w ∈ Ts, w.before args s = true) (hT : GoodIn Ts (va_wsS own index y ws)) (hw : ws = Cond.codeWith y bytes maxL ret hh :: ws') (hrc : rm.cells = mc) (hrs : rm.slots = ms)
    (hd : y.cls ≠ "java/lang/invoke/MethodHandle" ∧ y.cls ≠ "java/lang/invoke/VarHandle" ∧ (parseMethodDescriptor y.desc).map (fun d => d.parameters.length) = some n) (hR : rm.frames + 1 ≤ R.frames ∧ 8 + (maxL + 11) + rm.locals ≤ R.locals) :
    vx_CSW R s args own index y bytes maxL ret hh ws rm mc ms n := by
  have ok : ∀ w ∈ va_wsS own index y ws, w.before args s = true := fun w h => ht w (hT w h).1
  have hG : GoodIn Ts ws := fun w h => hT w (by unfold va_wsS; exact List.mem_append_right _ h)
  have hc : Cond.codeWith y bytes maxL ret hh ∈ ws := by rw [hw]; exact List.mem_cons_self
  refine ⟨⟨hrc, hrs, hR.1, hR.2, pay_in ht hG, hc⟩, ht _ (hG _ hc).1, ok _ (by simp [va_wsS]), ⟨hd.1, hd.2.1⟩, fun sig h => ?_, ok _ (by simp [va_wsS]), ok _ (by simp [va_wsS])⟩
  have h2 := hd.2.2
  rw [h] at h2
  exact (Option.some.inj h2).symm
theorem vx_callSW (X : Stand p l e R s m args below meth c T locs cells slots) (hexec : p.tables.exec = Jvm.exec) {own : String} {index : Nat} {y : MethodName} {bytes : ByteArray} {maxL : Nat} {ret : Option FieldType} {hh : List (Nat × Nat × Nat × Nat)}
    (hown : s.vm.findClass own = some m.cls) (hlink : (Cond.methodLink own index y).before args s = true) (hstat : (Cond.static y).before args s = true) (hinit : (Cond.initialized y.cls).before args s = true)
    (hcode : (Cond.codeWith y bytes maxL ret hh).before args s = true) (hy : y.cls ≠ "java/lang/invoke/MethodHandle" ∧ y.cls ≠ "java/lang/invoke/VarHandle")
    {W9 : Nat} {Pre : Pt → Array Value → Prop} {Post : Pt → Array Value → Option Value → Pt → Prop} (hK : Back l R p e below s args y 3 W9 Pre Post)
    {g : JFrame} (hg : g.method = m) (hsize : g.locals.size = c.maxLocals) {argsL rest : List Value} (hlen : ∀ sig, parseMethodDescriptor y.desc = some sig → argsL.length = sig.parameters.length)
    (hstack : g.stack = argsL.reverse ++ rest) (hW : 2 * g.monitorRoom + (rest.map fun v => v.category).sum ≤ W9) (hdg : decode c.code g.pc = .ok (.invokestatic index, 3))
    (hpre : ∀ vm₁, s.WarmedH vm₁ → Pre ⟨T.setVm vm₁, locs, cells, slots⟩ argsL.toArray) :
    ∃ (v : Option Value) (vm₁ : Vm) (B : Pt), s.WarmedH vm₁ ∧ Stand p l e R s m args below meth c B.U B.locs B.cells B.slots ∧ Post ⟨T.setVm vm₁, locs, cells, slots⟩ argsL.toArray v B ∧
      ∀ target, Steps p.tables e below (B.U.setTop { g with pc := g.pc + 3, stack := v.toList ++ rest }) target → Steps p.tables e below (T.setTop g) target := by
  obtain ⟨mk, methM, cM, hnamed, hmethM, -, -, -, -, -, -, hsigM⟩ := Cond.codeWith_spec hcode
  have hstatic : methM.isStatic = true := Cond.static_spec hnamed hmethM hstat
  obtain ⟨kP, hkP, -⟩ := className_of_methodNamed hnamed
  have hinitP : kP.init = .initialized := Cond.initialized_spec (findClass_of_methodNamed hnamed) hkP hinit
  obtain ⟨vm₁, X₁, hstep₁⟩ := X.invokestatic hexec hown hlink hnamed hmethM hstatic hkP hinitP hy (g := g) hg (argsL := argsL) (rest := rest) (hlen _ hsigM) hstack hdg
  obtain ⟨v, B, X', hpost, hsteps⟩ := hK m meth c ⟨T.setVm vm₁, locs, cells, slots⟩ { g with stack := rest } (.invokestatic index) mk argsL.toArray X₁ hg hsize hdg hW (X₁.named hnamed) (hpre vm₁ X₁.warmed)
  exact ⟨v, vm₁, B, X₁.warmed, X', hpost, fun target h => hstep₁ _ fun acts => by rw [doInvoke_state]; exact hsteps.trans h⟩
theorem vx_runSW {y : MethodName} {bytes cc : ByteArray} {maxL nL mc ms n index : Nat} {ret : Option FieldType} {hh : List (Nat × Nat × Nat × Nat)} {ws : List Cond} {rm : Room} {Pc : Array Value → State → Prop} {Qc : Array Value → State → Outcome → State → Prop} {free : Addr → Prop} {Ts : List Cond} {own : String} {As rest : List Value} {g : JFrame}
    (S : CallFix p m c cc nL s args Ts own) (hM : Met l y ws rm Pc Qc mc ms free) (cw : vx_CSW R s args own index y bytes maxL ret hh ws rm mc ms n) (hp : PreS s H Pc As)
    (hg : g.method = m) (hn : As.length = n) (hsize : g.locals.size = nL) (hstack : g.stack = As.reverse ++ rest) (hW : 2 * g.monitorRoom + (rest.map fun v => v.category).sum ≤ 8) (hdg : decode cc g.pc = .ok (.invokestatic index, 3)) (hf : cells + mc ≤ R.cells ∧ slots + ms ≤ R.slots) :
    va_Run p l e R s m args below meth c H locs cells slots mc ms g rest (Qc As.toArray) (free) := by
  obtain ⟨⟨hrc, hrs, hfr, hlo, hws, hcw⟩, hcode, hini, hy, hlen, hl, hstt⟩ := cw
  have hK : Back l R p e below s args y 3 8 (PreOf R mc ms Pc) (PostOf Qc mc ms free) := va_backW (hh := hh) (bytes := bytes) (maxL := maxL) (ret := ret) hM hp.1 hrc hrs hfr hlo hws hcw (fun a' U hW => word_at hW (Or.inl (by first | rfl | simp [Cond.onTables, Cond.keeps, Cond.steady])) hini)
  obtain ⟨hx, hb, hml, ho, -⟩ := S
  intro T hT X
  obtain ⟨v, vm₁, ⟨U', l2, c2, s2⟩, hW₁, X', ⟨g', mk, t, L, e1, e2, hq, h1, hL, h2, h3⟩, st⟩ := vx_callSW X hx (hh := hh) (bytes := bytes) (maxL := maxL) (ret := ret) ho hl hstt hini hcode hy hK hg (hsize.trans hml.symm) (argsL := As) (rest := rest) (fun sig h => hn.trans (hlen sig h)) hstack hW (by rw [hb]; exact hdg)
    (fun vm₁ hW₁ => ⟨hf.1, hf.2, hp.2 (T.setVm vm₁) hT hW₁⟩)
  dsimp only [Pt.U, Pt.locs, Pt.cells, Pt.slots] at X' e1 e2 h1 h2 h3 st
  subst h1; subst h2; subst h3
  exact ⟨v, (T.setVm vm₁).calling g' mk As.toArray, t, U', L, hT, X', hL, e1, e2, hq, st⟩
/-- not caught here, past rows that name other classes: it goes on to the caller -/
theorem vx_outP {p : Program} {l : Launch} {e : Env} {R : Room} {s : State} {m : MethodId} {args : Array Value} {below : List Frame} {meth : Method} {c : Code} {H : Heap} {locs : List Loc} {cells slots : Nat} {free : Addr → Prop} {ls : Array Slot} {rest : List Value} {Qc : Array Value → State → Outcome → State → Prop} {XC : String → State → State → Prop}
    {pc : Nat} {own E : String} {ce : Cell} {q : Addr} {mc ms : Nat} (hown : s.vm.findClass own = some m.cls) (hlocks : meth.locks = false)
    (hpass : ∀ z ∈ c.exceptionTable.toList, covers z pc = false ∨ (z.catchType ≠ 0 ∧ ∃ nm : String, (Cond.classLink own z.catchType nm).before args s = true ∧ va_Nc E nm s)) (hcell : H[q]? = some ce) (hv : ce.vm = .none) (hcl : s.vm.findClass E = some ce.cls)
    (hx : ∀ t : State, t.heap = H → s.vm.Alike t.vm → XC E s t) (hf : ∀ z ∈ locs, free z.base) (hc : cells ≤ mc) (hs : slots ≤ ms) :
    vx_W p l e R s m args below meth c H locs cells slots (vx_MQ below Qc XC args s mc ms free) (F0 m pc ls rest) q := by
  intro T hT X
  have hpl : e.platform.magicAccessors = ({} : Platform).magicAccessors := by rw [X.admits.platform]
  obtain ⟨vm', hW', X', st⟩ := X.outThrough hlocks q (g := F0 m pc ls rest) rfl rfl rfl (cell := ce) (by rw [hT]; exact hcell) (by rw [hv]; rfl)
    (by obtain ⟨k9, h9, -⟩ := Vm.findClass_spec hcl; exact ⟨k9, h9⟩) (fun z hz => by
      rcases hpass z hz with h | ⟨hz0, nm, hl1, hn1⟩
      · exact Or.inl h
      · obtain ⟨c6, hc6, hcl6⟩ := Cond.classLink_spec hown hl1 e.platform hpl
        obtain ⟨a8, b8, h1, h2, h3⟩ := hn1
        cases Option.some.inj (h1.symm.trans hcl)
        cases Option.some.inj (h2.symm.trans hc6)
        exact Or.inr ⟨hz0, _, hcl6, h3⟩)
  obtain ⟨g₀, hfr⟩ := X'.frames_eq
  have hcell9 : ((T.setVm vm').setFrames (.throwing q :: below)).heap[q]? = some ce := by
    show T.heap[q]? = some ce
    rw [hT]; exact hcell
  have hend : Ended ((T.setVm vm').setFrames (.throwing q :: below)) below (.threw q) := State.frames_setFrames _ (State.cur_lt_of_frames hfr)
  refine ⟨(T.setVm vm').setFrames (.throwing q :: below), ?_, .threw q, X'.here.running, hend, Or.inr ⟨q, rfl, E, ce, locs, hx _ hT (X'.ends _).1.alike, hcell9, hv, hcl, (X'.ends _).1, (X'.ends _).2.mono hc hs, hf⟩⟩
  rw [X.pushThrowing_eq]
  exact st
/-- a thing of a world lies in the heap -/
theorem vx_lt {D : va_G} {cl : List vw_C} {ws : va_W} {H1 : Heap} (h : va_P D cl ws H1) {k : Nat} {q : Nat × va_E} (hk : ws[k]? = some q) : q.1 < H1.size := (h k q hk).lt
end VXS
/-! ===== END ===== -/
/-! ===== BEGIN methods with a table of their own: called by a name, returning or throwing ===== -/
section VXH
/-! vx_backW, vx_callVX, vx_callSX, vx_callVW, vx_runVW, vx_runVX, vx_runSX, vx_ofWH follow the same proofs as their sisters above (Free/Laws.lean, Shelf42/LK1.lean); vx_outP calls Shelf42/NT130.lean (outThrough). -/
section
variable {l : Launch} {R : Room} {p : Program} {e : Env} {below : List Frame} {s : State} {sargs : Array Value} {y : MethodName} {len W9 : Nat}
theorem vx_backW {ws : List Cond} {rm : Room} {Pc : Array Value → State → Prop} {Qc : Array Value → State → Outcome → State → Prop} {XC : String → State → State → Prop} {mc ms : Nat} {free : Addr → Prop} {bytes : ByteArray} {maxL : Nat} {ret : Option FieldType} {hh : List (Nat × Nat × Nat × Nat)}
    (hM : vx_Met l y ws rm Pc Qc XC mc ms free) (hblind : FrameBlind Pc) (hrc : rm.cells = mc) (hrs : rm.slots = ms)
    (hframes : rm.frames + 1 ≤ R.frames) (hlocals : W9 + (maxL + 11) + rm.locals ≤ R.locals)
    (hws : ∀ w ∈ ws, ∀ a' U, s.WarmedH U.vm → w.before a' U = true) (hcode : Cond.codeWith y bytes maxL ret hh ∈ ws) (hinit : ∀ a' U, s.WarmedH U.vm → (Cond.initialized y.cls).before a' U = true) :
    vx_Back l R p e below s sargs y len W9 (PreOf R mc ms Pc) (PostOf Qc mc ms free) (vx_Post XC mc ms free) := by
  intro m meth c A g ig mk a X hg hsize hdg hW hn hp
  have h1 : (headSpec ws rm).pre.before a A.U = true := atoms_intro fun w hw => hws w hw _ _ X.warmed
  have h2 : (Cond.codeWith y bytes maxL ret hh).before a A.U = true := hws _ hcode _ _ X.warmed
  have h3 : (Cond.initialized y.cls).before a A.U = true := hinit _ _ X.warmed
  have h4 : A.cells + (headSpec ws rm).room.cells ≤ R.cells := by rw [show (headSpec ws rm).room.cells = mc from hrc]; exact hp.1
  have h5 : A.slots + (headSpec ws rm).room.slots ≤ R.slots := by rw [show (headSpec ws rm).room.slots = ms from hrs]; exact hp.2.1
  have hPc : Pc a (A.U.calling g mk a) := hblind _ _ _ _ hp.2.2
  obtain ⟨U, Ls, c0, s0⟩ := A
  dsimp only [Pt.U, Pt.locs, Pt.cells, Pt.slots] at h1 h2 h3 h4 h5 X hn hPc ⊢
  obtain ⟨m9, methY, cY, hn9, hmY, hcY, -, hlY, -⟩ := Cond.codeWith_spec h2
  cases Option.some.inj (hn9.symm.trans hn)
  obtain ⟨kY, hkY, -⟩ := className_of_methodNamed hn
  have hinitY : kY.init = .initialized := Cond.initialized_spec (findClass_of_methodNamed hn) hkY h3
  have h : At U g.method c below := by rw [hg]; exact X.here
  have hlocals9 : W9 + (maxL + 11) + (headSpec ws rm).room.locals ≤ R.locals := hlocals
  have happ : (headSpec ws rm).appliesLoose y e.platform (U.calling g mk a) = true :=
    Spec.appliesLoose_calling (g := g) h hdg hn hkY hinitY
      (X.room_calling (g := g) (R' := (headSpec ws rm).room) hsize hmY hcY hframes (by rw [hlY]; omega) h4 h5) h1
  obtain ⟨mid, hmid⟩ := h.above
  have hfr : (U.setTop g).frames = (.java g :: mid) ++ below := by rw [State.frames_setTop' g h.top, hmid]; rfl
  obtain ⟨o, s₂, hsteps, -, hend, hq⟩ := Steps.callFree hM p X.admits X.cas X.clock (acts := []) hfr happ hPc trivial
  have hq' : vx_Q Qc XC mc ms free a (U.calling g mk a) o s₂ := hq
  rw [State.frames_setTop' g h.top] at hend
  obtain ⟨g₀, hg0⟩ := Option.isSome_iff_exists.mp h.top
  obtain ⟨r, hr⟩ := State.topJava?_eq_some.mp hg0
  have hr' : (({ U with heap := s₂.heap, slotsUsed := s₂.slotsUsed } : State).setVm s₂.vm).frames = .java g₀ :: r := hr
  rcases hq' with ⟨hqc, L, hfe, hL⟩ | ⟨q, rfl, E, ce, L, hx, hce, hcv, hcl, hW₂, hsm, hL⟩
  · obtain ⟨⟨v, rfl⟩, hW₂, e2, q2, q3, q4, q5, q6⟩ := id hfe
    have e3 : s₂ = ({ (U.calling g mk a).setFrames s₂.frames with heap := s₂.heap, slotsUsed := s₂.slotsUsed } : State).setVm s₂.vm := by
      have : s₂ = ({ s₂ with vm := (U.calling g mk a).vm } : State).setVm s₂.vm := rfl
      rw [e2] at this
      exact this
    obtain ⟨c₂, i₂, len₂, hc₂, hd₂, hf₂⟩ := hend
    have hW' : U.WarmedH s₂.vm := hW₂
    have hcc : c₂ = c := by
      have h1 : s₂.code? g.method = U.code? g.method := by
        rw [State.code?_eq, State.code?_eq, hW'.alike.method?]
      exact Option.some.inj (hc₂.symm.trans (h1.trans h.code))
    subst hcc
    have hlen : len₂ = len := by rw [hdg] at hd₂; cases hd₂; rfl
    subst hlen
    have hs₂ : s₂ = (({ U with heap := s₂.heap, slotsUsed := s₂.slotsUsed } : State).setVm s₂.vm).setTop { g with pc := g.pc + len₂, stack := v.toList ++ g.stack } := by
      refine e3.trans ?_
      rw [hf₂, State.calling_eq h.top, State.setFrames_setFrames, State.setTop_of_frames _ hr', hr]
      rfl
    have hsame : U.sameButNew ({ U with heap := s₂.heap, slotsUsed := s₂.slotsUsed } : State) L mc ms := by
      refine ⟨?_, q2, q3, q4, q5, q6⟩
      obtain ⟨t, ht, -⟩ := State.frames_cons hr
      show ({ U with heap := s₂.heap, slotsUsed := s₂.slotsUsed } : State) = { U.setFrames U.frames with heap := s₂.heap, slotsUsed := s₂.slotsUsed }
      rw [State.setFrames_self ht]
    subst hg
    refine Or.inl ⟨v, ⟨(({ U with heap := s₂.heap, slotsUsed := s₂.slotsUsed } : State).setVm s₂.vm), Ls ++ L, c0 + mc, s0 + ms⟩,
      ⟨X.admits, X.cas, X.clock, X.frames, X.room, X.hears, X.method, X.code, (X.here.setHeapUsed s₂.heap s₂.slotsUsed).setVm hW'.alike, X.tail, State.WarmedH.trans X.warmed hW', X.limits, X.bytes, X.same.trans (hsame.setVm s.vm)⟩,
      ⟨g, mk, s₂, L, rfl, rfl, hqc, rfl, hL, rfl, rfl⟩, ?_⟩
    show Steps p.tables e below _ ((({ U with heap := s₂.heap, slotsUsed := s₂.slotsUsed } : State).setVm s₂.vm).setTop { g with pc := g.pc + len₂, stack := v.toList ++ g.stack })
    rw [← hs₂]
    exact hsteps
  · obtain ⟨e2, q2, q3, q4, q5, q6⟩ := id hsm
    have e3 : s₂ = ({ (U.calling g mk a).setFrames s₂.frames with heap := s₂.heap, slotsUsed := s₂.slotsUsed } : State).setVm s₂.vm := by
      have : s₂ = ({ s₂ with vm := (U.calling g mk a).vm } : State).setVm s₂.vm := rfl
      rw [e2] at this
      exact this
    have hf₂ : s₂.frames = .throwing q :: .java g :: U.frames.tail := hend
    have hW' : U.WarmedH s₂.vm := hW₂
    have hs₂ : s₂ = ((({ U with heap := s₂.heap, slotsUsed := s₂.slotsUsed } : State).setVm s₂.vm).setTop g).pushFrame (.throwing q) := by
      refine e3.trans ?_
      rw [hf₂, State.calling_eq h.top, State.setFrames_setFrames, State.pushFrame, State.frames_setTop _ hr', State.setTop_of_frames _ hr', State.setFrames_setFrames, hr]
      rfl
    have hsame : U.sameButNew ({ U with heap := s₂.heap, slotsUsed := s₂.slotsUsed } : State) L mc ms := by
      refine ⟨?_, q2, q3, q4, q5, q6⟩
      obtain ⟨t, ht, -⟩ := State.frames_cons hr
      show ({ U with heap := s₂.heap, slotsUsed := s₂.slotsUsed } : State) = { U.setFrames U.frames with heap := s₂.heap, slotsUsed := s₂.slotsUsed }
      rw [State.setFrames_self ht]
    subst hg
    refine Or.inr ⟨q, ⟨(({ U with heap := s₂.heap, slotsUsed := s₂.slotsUsed } : State).setVm s₂.vm), Ls ++ L, c0 + mc, s0 + ms⟩,
      ⟨X.admits, X.cas, X.clock, X.frames, X.room, X.hears, X.method, X.code, (X.here.setHeapUsed s₂.heap s₂.slotsUsed).setVm hW'.alike, X.tail, State.WarmedH.trans X.warmed hW', X.limits, X.bytes, X.same.trans (hsame.setVm s.vm)⟩,
      ⟨g, mk, s₂, L, E, ce, rfl, rfl, hx, hce, hcv, hcl, rfl, hL, rfl, rfl⟩, ?_⟩
    show Steps p.tables e below _ (((({ U with heap := s₂.heap, slotsUsed := s₂.slotsUsed } : State).setVm s₂.vm).setTop g).pushFrame (.throwing q))
    rw [← hs₂]
    exact hsteps
end
variable {p : Program} {l : Launch} {e : Env} {R : Room} {s : State} {m : MethodId} {args : Array Value} {below : List Frame} {meth : Method} {c : Code} {T : State} {H : Heap} {locs : List Loc} {cells slots : Nat}
theorem vx_callVX (X : Stand p l e R s m args below meth c T locs cells slots) (hexec : p.tables.exec = Jvm.exec) {own C : String} {index : Nat} {y : MethodName} {bytes : ByteArray} {maxL : Nat} {ret : Option FieldType} {hh : List (Nat × Nat × Nat × Nat)}
    (hown : s.vm.findClass own = some m.cls) (hlink : (Cond.methodLink own index y).before args s = true) (hinst : (Cond.instanceMethod y).before args s = true) (hsel : (Cond.selects C y y).before args s = true)
    (hcode : (Cond.codeWith y bytes maxL ret hh).before args s = true) (hy : y.cls ≠ "java/lang/invoke/MethodHandle" ∧ y.cls ≠ "java/lang/invoke/VarHandle")
    {W9 : Nat} {Pre : Pt → Array Value → Prop} {Post : Pt → Array Value → Option Value → Pt → Prop} {PostX : Pt → Array Value → Addr → Pt → Prop} (hK : vx_Back l R p e below s args y 3 W9 Pre Post PostX)
    {b : Addr} {cellB : Cell} (hcell : T.heap[b]? = some cellB) (hobj : cellB.vm.isStatics = false) (hcls : s.vm.findClass C = some cellB.cls)
    {g : JFrame} (hg : g.method = m) (hsize : g.locals.size = c.maxLocals) {argsL rest : List Value} (hlen : ∀ sig, parseMethodDescriptor y.desc = some sig → argsL.length = sig.parameters.length)
    (hstack : g.stack = argsL.reverse ++ .ref b :: rest) (hW : 2 * g.monitorRoom + (rest.map fun v => v.category).sum ≤ W9) (hdg : decode c.code g.pc = .ok (.invokevirtual index, 3))
    (hpre : ∀ vm₁, s.WarmedH vm₁ → Pre ⟨T.setVm vm₁, locs, cells, slots⟩ (Value.ref b :: argsL).toArray) :
    (∃ (v : Option Value) (vm₁ : Vm) (B : Pt), s.WarmedH vm₁ ∧ Stand p l e R s m args below meth c B.U B.locs B.cells B.slots ∧ Post ⟨T.setVm vm₁, locs, cells, slots⟩ (Value.ref b :: argsL).toArray v B ∧
      ∀ target, Steps p.tables e below (B.U.setTop { g with pc := g.pc + 3, stack := v.toList ++ rest }) target → Steps p.tables e below (T.setTop g) target) ∨
    (∃ (q : Addr) (vm₁ : Vm) (B : Pt), s.WarmedH vm₁ ∧ Stand p l e R s m args below meth c B.U B.locs B.cells B.slots ∧ PostX ⟨T.setVm vm₁, locs, cells, slots⟩ (Value.ref b :: argsL).toArray q B ∧
      Steps p.tables e below (T.setTop g) ((B.U.setTop { g with stack := rest }).pushFrame (.throwing q))) := by
  obtain ⟨mk, methM, hnamed, hmethM, hstM, habM⟩ := Cond.instanceMethod_spec hinst
  obtain ⟨m8, methM', cM, hn8, hmethM', -, -, -, -, -, -, hsigM⟩ := Cond.codeWith_spec hcode
  cases Option.some.inj (hn8.symm.trans hnamed)
  cases hmethM.symm.trans hmethM'
  obtain ⟨c2, r2, m2, q1, q2, q3, q4, kP, hkP, hkPi⟩ := Cond.selects_spec hsel
  cases hcls.symm.trans q1
  cases (State.methodFound?_of_named hnamed hy).symm.trans q2
  cases hnamed.symm.trans q3
  have hselP : selectMethod e.platform s.vm cellB.cls mk = .method mk := by rw [Launch.admits_selectMethod X.admits]; exact q4
  obtain ⟨vm₁, X₁, hstep₁⟩ := X.invokevirtual hexec hown hlink hnamed hmethM hstM hkP hkPi hy (a := b) (cell := cellB) hcell
    (fun z h => by rw [h] at hobj; cases hobj) hselP hmethM habM hkP hkPi (g := g) hg (argsL := argsL) (rest := rest) (hlen _ hsigM) hstack hdg
  rcases hK m meth c ⟨T.setVm vm₁, locs, cells, slots⟩ { g with stack := rest } (.invokevirtual index) mk (Value.ref b :: argsL).toArray X₁ hg hsize hdg hW (X₁.named hnamed) (hpre vm₁ X₁.warmed) with ⟨v, B, X', hpost, hsteps⟩ | ⟨q, B, X', hpost, hsteps⟩
  · exact Or.inl ⟨v, vm₁, B, X₁.warmed, X', hpost, fun target h => hstep₁ _ fun acts => by rw [doInvoke_state]; exact hsteps.trans h⟩
  · exact Or.inr ⟨q, vm₁, B, X₁.warmed, X', hpost, hstep₁ _ fun acts => by rw [doInvoke_state]; exact hsteps⟩
theorem vx_callSX (X : Stand p l e R s m args below meth c T locs cells slots) (hexec : p.tables.exec = Jvm.exec) {own : String} {index : Nat} {y : MethodName} {bytes : ByteArray} {maxL : Nat} {ret : Option FieldType} {hh : List (Nat × Nat × Nat × Nat)}
    (hown : s.vm.findClass own = some m.cls) (hlink : (Cond.methodLink own index y).before args s = true) (hstat : (Cond.static y).before args s = true) (hinit : (Cond.initialized y.cls).before args s = true)
    (hcode : (Cond.codeWith y bytes maxL ret hh).before args s = true) (hy : y.cls ≠ "java/lang/invoke/MethodHandle" ∧ y.cls ≠ "java/lang/invoke/VarHandle")
    {W9 : Nat} {Pre : Pt → Array Value → Prop} {Post : Pt → Array Value → Option Value → Pt → Prop} {PostX : Pt → Array Value → Addr → Pt → Prop} (hK : vx_Back l R p e below s args y 3 W9 Pre Post PostX)
    {g : JFrame} (hg : g.method = m) (hsize : g.locals.size = c.maxLocals) {argsL rest : List Value} (hlen : ∀ sig, parseMethodDescriptor y.desc = some sig → argsL.length = sig.parameters.length)
    (hstack : g.stack = argsL.reverse ++ rest) (hW : 2 * g.monitorRoom + (rest.map fun v => v.category).sum ≤ W9) (hdg : decode c.code g.pc = .ok (.invokestatic index, 3))
    (hpre : ∀ vm₁, s.WarmedH vm₁ → Pre ⟨T.setVm vm₁, locs, cells, slots⟩ argsL.toArray) :
    (∃ (v : Option Value) (vm₁ : Vm) (B : Pt), s.WarmedH vm₁ ∧ Stand p l e R s m args below meth c B.U B.locs B.cells B.slots ∧ Post ⟨T.setVm vm₁, locs, cells, slots⟩ argsL.toArray v B ∧
      ∀ target, Steps p.tables e below (B.U.setTop { g with pc := g.pc + 3, stack := v.toList ++ rest }) target → Steps p.tables e below (T.setTop g) target) ∨
    (∃ (q : Addr) (vm₁ : Vm) (B : Pt), s.WarmedH vm₁ ∧ Stand p l e R s m args below meth c B.U B.locs B.cells B.slots ∧ PostX ⟨T.setVm vm₁, locs, cells, slots⟩ argsL.toArray q B ∧
      Steps p.tables e below (T.setTop g) ((B.U.setTop { g with stack := rest }).pushFrame (.throwing q))) := by
  obtain ⟨mk, methM, cM, hnamed, hmethM, -, -, -, -, -, -, hsigM⟩ := Cond.codeWith_spec hcode
  have hstatic : methM.isStatic = true := Cond.static_spec hnamed hmethM hstat
  obtain ⟨kP, hkP, -⟩ := className_of_methodNamed hnamed
  have hinitP : kP.init = .initialized := Cond.initialized_spec (findClass_of_methodNamed hnamed) hkP hinit
  obtain ⟨vm₁, X₁, hstep₁⟩ := X.invokestatic hexec hown hlink hnamed hmethM hstatic hkP hinitP hy (g := g) hg (argsL := argsL) (rest := rest) (hlen _ hsigM) hstack hdg
  rcases hK m meth c ⟨T.setVm vm₁, locs, cells, slots⟩ { g with stack := rest } (.invokestatic index) mk argsL.toArray X₁ hg hsize hdg hW (X₁.named hnamed) (hpre vm₁ X₁.warmed) with ⟨v, B, X', hpost, hsteps⟩ | ⟨q, B, X', hpost, hsteps⟩
  · exact Or.inl ⟨v, vm₁, B, X₁.warmed, X', hpost, fun target h => hstep₁ _ fun acts => by rw [doInvoke_state]; exact hsteps.trans h⟩
  · exact Or.inr ⟨q, vm₁, B, X₁.warmed, X', hpost, hstep₁ _ fun acts => by rw [doInvoke_state]; exact hsteps⟩
theorem vx_callVW (X : Stand p l e R s m args below meth c T locs cells slots) (hexec : p.tables.exec = Jvm.exec) {own C : String} {index : Nat} {y : MethodName} {bytes : ByteArray} {maxL : Nat} {ret : Option FieldType} {hh : List (Nat × Nat × Nat × Nat)}
    (hown : s.vm.findClass own = some m.cls) (hlink : (Cond.methodLink own index y).before args s = true) (hinst : (Cond.instanceMethod y).before args s = true) (hsel : (Cond.selects C y y).before args s = true)
    (hcode : (Cond.codeWith y bytes maxL ret hh).before args s = true) (hy : y.cls ≠ "java/lang/invoke/MethodHandle" ∧ y.cls ≠ "java/lang/invoke/VarHandle")
    {W9 : Nat} {Pre : Pt → Array Value → Prop} {Post : Pt → Array Value → Option Value → Pt → Prop} (hK : Back l R p e below s args y 3 W9 Pre Post)
    {b : Addr} {cellB : Cell} (hcell : T.heap[b]? = some cellB) (hobj : cellB.vm.isStatics = false) (hcls : s.vm.findClass C = some cellB.cls)
    {g : JFrame} (hg : g.method = m) (hsize : g.locals.size = c.maxLocals) {argsL rest : List Value} (hlen : ∀ sig, parseMethodDescriptor y.desc = some sig → argsL.length = sig.parameters.length)
    (hstack : g.stack = argsL.reverse ++ .ref b :: rest) (hW : 2 * g.monitorRoom + (rest.map fun v => v.category).sum ≤ W9) (hdg : decode c.code g.pc = .ok (.invokevirtual index, 3))
    (hpre : ∀ vm₁, s.WarmedH vm₁ → Pre ⟨T.setVm vm₁, locs, cells, slots⟩ (Value.ref b :: argsL).toArray) :
    ∃ (v : Option Value) (vm₁ : Vm) (B : Pt), s.WarmedH vm₁ ∧ Stand p l e R s m args below meth c B.U B.locs B.cells B.slots ∧ Post ⟨T.setVm vm₁, locs, cells, slots⟩ (Value.ref b :: argsL).toArray v B ∧
      ∀ target, Steps p.tables e below (B.U.setTop { g with pc := g.pc + 3, stack := v.toList ++ rest }) target → Steps p.tables e below (T.setTop g) target := by
  obtain ⟨mk, methM, hnamed, hmethM, hstM, habM⟩ := Cond.instanceMethod_spec hinst
  obtain ⟨m8, methM', cM, hn8, hmethM', -, -, -, -, -, -, hsigM⟩ := Cond.codeWith_spec hcode
  cases Option.some.inj (hn8.symm.trans hnamed)
  cases hmethM.symm.trans hmethM'
  obtain ⟨c2, r2, m2, q1, q2, q3, q4, kP, hkP, hkPi⟩ := Cond.selects_spec hsel
  cases hcls.symm.trans q1
  cases (State.methodFound?_of_named hnamed hy).symm.trans q2
  cases hnamed.symm.trans q3
  have hselP : selectMethod e.platform s.vm cellB.cls mk = .method mk := by rw [Launch.admits_selectMethod X.admits]; exact q4
  obtain ⟨vm₁, X₁, hstep₁⟩ := X.invokevirtual hexec hown hlink hnamed hmethM hstM hkP hkPi hy (a := b) (cell := cellB) hcell
    (fun z h => by rw [h] at hobj; cases hobj) hselP hmethM habM hkP hkPi (g := g) hg (argsL := argsL) (rest := rest) (hlen _ hsigM) hstack hdg
  obtain ⟨v, B, X', hpost, hsteps⟩ := hK m meth c ⟨T.setVm vm₁, locs, cells, slots⟩ { g with stack := rest } (.invokevirtual index) mk (Value.ref b :: argsL).toArray X₁ hg hsize hdg hW (X₁.named hnamed) (hpre vm₁ X₁.warmed)
  exact ⟨v, vm₁, B, X₁.warmed, X', hpost, fun target h => hstep₁ _ fun acts => by rw [doInvoke_state]; exact hsteps.trans h⟩
abbrev vx_CVW (R : Room) (s : State) (args : Array Value) (own C : String) (index : Nat) (y : MethodName) (bytes : ByteArray) (maxL : Nat) (ret : Option FieldType) (hh : List (Nat × Nat × Nat × Nat)) (ws : List Cond) (rm : Room) (mc ms n : Nat) : Prop :=
  (rm.cells = mc ∧ rm.slots = ms ∧ rm.frames + 1 ≤ R.frames ∧ 8 + (maxL + 11) + rm.locals ≤ R.locals ∧ (∀ w ∈ ws, ∀ (a' : Array Value) (U : State), s.WarmedH U.vm → w.before a' U = true) ∧ Cond.codeWith y bytes maxL ret hh ∈ ws) ∧
  (Cond.codeWith y bytes maxL ret hh).before args s = true ∧ (Cond.initialized y.cls).before args s = true ∧ (y.cls ≠ "java/lang/invoke/MethodHandle" ∧ y.cls ≠ "java/lang/invoke/VarHandle") ∧
  (∀ sig, parseMethodDescriptor y.desc = some sig → n = sig.parameters.length) ∧ (Cond.methodLink own index y).before args s = true ∧ (Cond.instanceMethod y).before args s = true ∧ (Cond.selects C y y).before args s = true
theorem vx_cwVW {own C : String} {index maxL mc ms : Nat} {y : MethodName} {bytes : ByteArray} {ret : Option FieldType} {hh : List (Nat × Nat × Nat × Nat)} {Ts ws ws' : List Cond} {rm : Room} (n : Nat) (ht : ∀ w ∈ Ts, w.before args s = true) (hT : GoodIn Ts (wsV own index C y ws)) (hw : ws = Cond.codeWith y bytes maxL ret hh :: ws') (hrc : rm.cells = mc) (hrs : rm.slots = ms)
    (hd : y.cls = C ∧ y.cls ≠ "java/lang/invoke/MethodHandle" ∧ y.cls ≠ "java/lang/invoke/VarHandle" ∧ (parseMethodDescriptor y.desc).map (fun d => d.parameters.length) = some n) (hR : rm.frames + 1 ≤ R.frames ∧ 8 + (maxL + 11) + rm.locals ≤ R.locals) :
    vx_CVW R s args own C index y bytes maxL ret hh ws rm mc ms n := by
  obtain ⟨hC, hd⟩ := hd
  subst hC
  have ok : ∀ w ∈ wsV own index y.cls y ws, w.before args s = true := fun w h => ht w (hT w h).1
  have hG : GoodIn Ts ws := fun w h => hT w (by unfold wsV; exact List.mem_append_right _ h)
  have hc : Cond.codeWith y bytes maxL ret hh ∈ ws := by rw [hw]; exact List.mem_cons_self
  refine ⟨⟨hrc, hrs, hR.1, hR.2, pay_in ht hG, hc⟩, ht _ (hG _ hc).1, ok _ (by simp [wsV]), ⟨hd.1, hd.2.1⟩, fun sig h => ?_, ok _ (by simp [wsV]), ok _ (by simp [wsV]), ok _ (by simp [wsV])⟩
  have h2 := hd.2.2
  rw [h] at h2
  exact (Option.some.inj h2).symm
theorem vx_runVW {y : MethodName} {bytes cc : ByteArray} {maxL nL mc ms n index : Nat} {ret : Option FieldType} {hh : List (Nat × Nat × Nat × Nat)} {ws : List Cond} {rm : Room} {Pc : Array Value → State → Prop} {Qc : Array Value → State → Outcome → State → Prop} {free : Addr → Prop} {Ts : List Cond} {own C : String} {b : Addr} {As rest : List Value} {g : JFrame}
    (S : CallFix p m c cc nL s args Ts own) (hM : Met l y ws rm Pc Qc mc ms free) (cw : vx_CVW R s args own C index y bytes maxL ret hh ws rm mc ms n) (hp : PreV s H C b Pc As)
    (hg : g.method = m) (hn : As.length = n) (hsize : g.locals.size = nL) (hstack : g.stack = As.reverse ++ .ref b :: rest) (hW : 2 * g.monitorRoom + (rest.map fun v => v.category).sum ≤ 8) (hdg : decode cc g.pc = .ok (.invokevirtual index, 3)) (hf : cells + mc ≤ R.cells ∧ slots + ms ≤ R.slots) :
    va_Run p l e R s m args below meth c H locs cells slots mc ms g rest (Qc (Value.ref b :: As).toArray) free := by
  obtain ⟨⟨hrc, hrs, hfr, hlo, hws, hcw⟩, hcode, hini, hy, hlen, hl, hin, hse⟩ := cw
  have hK : Back l R p e below s args y 3 8 (PreOf R mc ms Pc) (PostOf Qc mc ms free) := va_backW (hh := hh) (bytes := bytes) (maxL := maxL) (ret := ret) hM hp.1 hrc hrs hfr hlo hws hcw (fun a' U hW => word_at hW (Or.inl (by first | rfl | simp [Cond.onTables, Cond.keeps, Cond.steady])) hini)
  obtain ⟨hx, hb, hml, ho, -⟩ := S
  obtain ⟨-, ⟨cellB, hcB, hoB, hclB⟩, hPc⟩ := hp
  intro T hT X
  obtain ⟨v, vm₁, ⟨U', l2, c2, s2⟩, hW₁, X', ⟨g', mk, t, L, e1, e2, hq, h1, hL, h2, h3⟩, st⟩ := vx_callVW X hx (C := C) (hh := hh) (bytes := bytes) (maxL := maxL) (ret := ret) ho hl hin hse hcode hy hK (by rw [hT]; exact hcB) hoB hclB hg (hsize.trans hml.symm) (argsL := As) (rest := rest) (fun sig h => hn.trans (hlen sig h)) hstack hW (by rw [hb]; exact hdg)
    (fun vm₁ hW₁ => ⟨hf.1, hf.2, hPc (T.setVm vm₁) hT hW₁⟩)
  dsimp only [Pt.U, Pt.locs, Pt.cells, Pt.slots] at X' e1 e2 h1 h2 h3 st
  subst h1; subst h2; subst h3
  exact ⟨v, (T.setVm vm₁).calling g' mk (Value.ref b :: As).toArray, t, U', L, hT, X', hL, e1, e2, hq, st⟩
section
variable {y : MethodName} {bytes cc : ByteArray} {maxL nL mc ms n index : Nat} {ret : Option FieldType} {ws : List Cond} {rm : Room} {Pc : Array Value → State → Prop} {Qc : Array Value → State → Outcome → State → Prop} {XC : String → State → State → Prop} {free : Addr → Prop} {Ts : List Cond} {own C : String} {b : Addr} {As rest : List Value} {g : JFrame}
theorem vx_runVX {hh : List (Nat × Nat × Nat × Nat)} (S : CallFix p m c cc nL s args Ts own) (hM : vx_Met l y ws rm Pc Qc XC mc ms free) (cw : vx_CVW R s args own C index y bytes maxL ret hh ws rm mc ms n) (hp : PreV s H C b Pc As)
    (hg : g.method = m) (hn : As.length = n) (hsize : g.locals.size = nL) (hstack : g.stack = As.reverse ++ .ref b :: rest) (hW : 2 * g.monitorRoom + (rest.map fun v => v.category).sum ≤ 8) (hdg : decode cc g.pc = .ok (.invokevirtual index, 3)) (hf : cells + mc ≤ R.cells ∧ slots + ms ≤ R.slots) :
    vx_Run p l e R s m args below meth c H locs cells slots mc ms g rest (Qc (Value.ref b :: As).toArray) XC free := by
  obtain ⟨⟨hrc, hrs, hfr, hlo, hws, hcw⟩, hcode, hini, hy, hlen, hl, hin, hse⟩ := cw
  have hK : vx_Back l R p e below s args y 3 8 (PreOf R mc ms Pc) (PostOf Qc mc ms free) (vx_Post XC mc ms free) := vx_backW (hh := hh) (bytes := bytes) (maxL := maxL) (ret := ret) hM hp.1 hrc hrs hfr hlo hws hcw (fun a' U hW => word_at hW (Or.inl (by first | rfl | simp [Cond.onTables, Cond.keeps, Cond.steady])) hini)
  obtain ⟨hx, hb, hml, ho, -⟩ := S
  obtain ⟨-, ⟨cellB, hcB, hoB, hclB⟩, hPc⟩ := hp
  intro T hT X
  rcases vx_callVX X hx (C := C) (hh := hh) (bytes := bytes) (maxL := maxL) (ret := ret) ho hl hin hse hcode hy hK (by rw [hT]; exact hcB) hoB hclB hg (hsize.trans hml.symm) (argsL := As) (rest := rest) (fun sig h => hn.trans (hlen sig h)) hstack hW (by rw [hb]; exact hdg)
    (fun vm₁ hW₁ => ⟨hf.1, hf.2, hPc (T.setVm vm₁) hT hW₁⟩) with ⟨v, vm₁, ⟨U', l2, c2, s2⟩, hW₁, X', ⟨g', mk, t, L, e1, e2, hq, h1, hL, h2, h3⟩, st⟩ | ⟨q, vm₁, ⟨U', l2, c2, s2⟩, hW₁, X', ⟨g', mk, t, L, E, ce, e1, e2, hq, hce, hcv, hcl, h1, hL, h2, h3⟩, st⟩
  · dsimp only [Pt.U, Pt.locs, Pt.cells, Pt.slots] at X' e1 e2 h1 h2 h3 st
    subst h1; subst h2; subst h3
    exact Or.inl ⟨v, (T.setVm vm₁).calling g' mk (Value.ref b :: As).toArray, t, U', L, hT, X', hL, e1, e2, hq, st⟩
  · dsimp only [Pt.U, Pt.locs, Pt.cells, Pt.slots] at X' e1 e2 h1 h2 h3 st hcl
    subst h1; subst h2; subst h3
    exact Or.inr ⟨q, (T.setVm vm₁).calling g' mk (Value.ref b :: As).toArray, t, U', L, E, ce, hT, X', hL, e1, e2, hq, hce, hcv, vx_cls hW₁ hcl, st⟩
theorem vx_runSX {hh : List (Nat × Nat × Nat × Nat)} (S : CallFix p m c cc nL s args Ts own) (hM : vx_Met l y ws rm Pc Qc XC mc ms free) (cw : vx_CSW R s args own index y bytes maxL ret hh ws rm mc ms n) (hp : PreS s H Pc As)
    (hg : g.method = m) (hn : As.length = n) (hsize : g.locals.size = nL) (hstack : g.stack = As.reverse ++ rest) (hW : 2 * g.monitorRoom + (rest.map fun v => v.category).sum ≤ 8) (hdg : decode cc g.pc = .ok (.invokestatic index, 3)) (hf : cells + mc ≤ R.cells ∧ slots + ms ≤ R.slots) :
    vx_Run p l e R s m args below meth c H locs cells slots mc ms g rest (Qc As.toArray) XC free := by
  obtain ⟨⟨hrc, hrs, hfr, hlo, hws, hcw⟩, hcode, hini, hy, hlen, hl, hstt⟩ := cw
  have hK : vx_Back l R p e below s args y 3 8 (PreOf R mc ms Pc) (PostOf Qc mc ms free) (vx_Post XC mc ms free) := vx_backW (hh := hh) (bytes := bytes) (maxL := maxL) (ret := ret) hM hp.1 hrc hrs hfr hlo hws hcw (fun a' U hW => word_at hW (Or.inl (by first | rfl | simp [Cond.onTables, Cond.keeps, Cond.steady])) hini)
  obtain ⟨hx, hb, hml, ho, -⟩ := S
  intro T hT X
  rcases vx_callSX X hx (hh := hh) (bytes := bytes) (maxL := maxL) (ret := ret) ho hl hstt hini hcode hy hK hg (hsize.trans hml.symm) (argsL := As) (rest := rest) (fun sig h => hn.trans (hlen sig h)) hstack hW (by rw [hb]; exact hdg)
    (fun vm₁ hW₁ => ⟨hf.1, hf.2, hp.2 (T.setVm vm₁) hT hW₁⟩) with ⟨v, vm₁, ⟨U', l2, c2, s2⟩, hW₁, X', ⟨g', mk, t, L, e1, e2, hq, h1, hL, h2, h3⟩, st⟩ | ⟨q, vm₁, ⟨U', l2, c2, s2⟩, hW₁, X', ⟨g', mk, t, L, E, ce, e1, e2, hq, hce, hcv, hcl, h1, hL, h2, h3⟩, st⟩
  · dsimp only [Pt.U, Pt.locs, Pt.cells, Pt.slots] at X' e1 e2 h1 h2 h3 st
    subst h1; subst h2; subst h3
    exact Or.inl ⟨v, (T.setVm vm₁).calling g' mk As.toArray, t, U', L, hT, X', hL, e1, e2, hq, st⟩
  · dsimp only [Pt.U, Pt.locs, Pt.cells, Pt.slots] at X' e1 e2 h1 h2 h3 st hcl
    subst h1; subst h2; subst h3
    exact Or.inr ⟨q, (T.setVm vm₁).calling g' mk As.toArray, t, U', L, E, ce, hT, X', hL, e1, e2, hq, hce, hcv, vx_cls hW₁ hcl, st⟩
end
end VXH
theorem vx_ofWH {l : Launch} {y : MethodName} {ws ws' : List Cond} {rm : Room} {Pc : Array Value → State → Prop} {Qc : Array Value → State → Outcome → State → Prop} {XC : String → State → State → Prop} {mc ms : Nat} {free : Addr → Prop} {cc : ByteArray} {maxL : Nat} {ret : Option FieldType} {hh : List (Nat × Nat × Nat × Nat)}
    (hy : plainName y.cls = true) (hw : ws = Cond.codeWith y cc maxL ret hh :: ws')
    (body : ∀ p e s m args below meth c s₁, BodyLoose p l y (headSpec ws rm) cc maxL ret e s m args below meth c s₁ → c.maxLocals = maxL → Pc args s →
      W p l e (headSpec ws rm).room s m args below meth c s.heap [] 0 0 (vx_MQ below Qc XC args s mc ms free) (entryFrame m args maxL)) : vx_Met l y ws rm Pc Qc XC mc ms free := by
  refine MetFree.of_bodyS (code := cc) (maxLocals := maxL) (ret := ret) hy ?_ ?_
  · intro args s m h hn
    obtain ⟨m9, meth, c, hn9, h1, h2, h3, h4, -, h5, h6, -⟩ := Cond.codeWith_spec (atoms_spec (ws := ws) h _ (by rw [hw]; exact List.mem_cons_self))
    cases hn.symm.trans hn9
    exact ⟨meth, c, h1, h2, h3, h4, h5, h6⟩
  · intro p e s m args below meth c s₁ B hml hP _
    have hh0 : s₁.heap = s.heap := by rw [B.state]; rfl
    obtain ⟨t, a1, o, b1, b2, b3⟩ := body p e s m args below meth c s₁ B hml hP s₁ hh0 (Stand.of_body B)
    exact ⟨t, o, a1, b1, b2, b3⟩
/-! ===== END ===== -/
end
section
/-! ===== BEGIN printed: names, fields, word lists, decode rows ===== -/
def RX0 : String := "OreRailway$Car"
def TX0 : u_T := fun k => match k with
  | 0 => ("OreRailway$Car", "state", "I", false)
  | 1 => ("OreRailway$Car", "ore", "I", false)
  | 2 => ("OreRailway$Car", "brake", "I", false)
  | 3 => ("OreRailway$Car", "speed", "I", false)
  | 4 => ("OreRailway$Car", "place", "I", false)
  | 5 => ("OreRailway$Car", "heat", "I", false)
  | 6 => ("OreRailway$Car", "delivered", "I", false)
  | 7 => ("OreRailway$Car", "bumps", "I", false)
  | _ => ("OreRailway$Car", "greatestSpeed", "I", false)
def tyX0 : Nat → FieldType := fun k => match k with
  | 0 => .int
  | 1 => .int
  | 2 => .int
  | 3 => .int
  | 4 => .int
  | 5 => .int
  | 6 => .int
  | 7 => .int
  | _ => .int
abbrev wsX00 : List Cond := u_ws RX0 TX0 9
theorem nmX0 : ∀ a, a < 9 → ∀ b, b < 9 → a ≠ b → (TX0 a).2.1 ≠ (TX0 b).2.1 := by decide +kernel
theorem tyX0_ok : ∀ k, k < 9 → parseFieldDescriptor (TX0 k).2.2.1 = some (tyX0 k) := by decide +kernel
abbrev cX0_init : ByteArray := prog_2_method_1_code
def yX0_init : MethodName := ⟨RX0, "<init>", "()V"⟩
abbrev cX0_copyFrom : ByteArray := prog_2_method_2_code
def yX0_copyFrom : MethodName := ⟨RX0, "copyFrom", "(LOreRailway$Car;)V"⟩
abbrev cX0_makeNew : ByteArray := prog_2_method_3_code
def yX0_makeNew : MethodName := ⟨RX0, "makeNew", "()V"⟩
abbrev cX0_force : ByteArray := prog_2_method_4_code
def yX0_force : MethodName := ⟨RX0, "force", "()I"⟩
abbrev cX0_changeSpeed : ByteArray := prog_2_method_5_code
def yX0_changeSpeed : MethodName := ⟨RX0, "changeSpeed", "(I)V"⟩
abbrev cX0_changeHeat : ByteArray := prog_2_method_6_code
def yX0_changeHeat : MethodName := ⟨RX0, "changeHeat", "()V"⟩
abbrev cX0_coolDown : ByteArray := prog_2_method_7_code
def yX0_coolDown : MethodName := ⟨RX0, "coolDown", "()V"⟩
abbrev cX0_number : ByteArray := prog_2_method_8_code
def yX0_number : MethodName := ⟨RX0, "number", "(I)I"⟩
def RX1 : String := "OreRailway$History"
def TX1 : u_T := fun k => match k with
  | 0 => ("OreRailway$History", "saved", "[LOreRailway$State;", true)
  | 1 => ("OreRailway$History", "next", "I", false)
  | _ => ("OreRailway$History", "size", "I", false)
def tyX1 : Nat → FieldType := fun k => match k with
  | 0 => .array (.object "OreRailway$State")
  | 1 => .int
  | _ => .int
abbrev wsX10 : List Cond := u_ws RX1 TX1 3
theorem nmX1 : ∀ a, a < 3 → ∀ b, b < 3 → a ≠ b → (TX1 a).2.1 ≠ (TX1 b).2.1 := by decide +kernel
theorem tyX1_ok : ∀ k, k < 3 → parseFieldDescriptor (TX1 k).2.2.1 = some (tyX1 k) := by decide +kernel
abbrev cX1_init : ByteArray := prog_3_method_1_code
def yX1_init : MethodName := ⟨RX1, "<init>", "()V"⟩
abbrev cX1_push : ByteArray := prog_3_method_2_code
def yX1_push : MethodName := ⟨RX1, "push", "(LOreRailway$State;)V"⟩
abbrev cX1_popInto : ByteArray := prog_3_method_3_code
def yX1_popInto : MethodName := ⟨RX1, "popInto", "(LOreRailway$State;)V"⟩
def RX2 : String := "OreRailway$OrderText"
def TX2 : u_T := fun k => match k with
  | 0 => ("OreRailway$OrderText", "text", "[C", true)
  | _ => ("OreRailway$OrderText", "length", "I", false)
def tyX2 : Nat → FieldType := fun k => match k with
  | 0 => .array .char
  | _ => .int
abbrev wsX20 : List Cond := u_ws RX2 TX2 2
theorem nmX2 : ∀ a, a < 2 → ∀ b, b < 2 → a ≠ b → (TX2 a).2.1 ≠ (TX2 b).2.1 := by decide +kernel
theorem tyX2_ok : ∀ k, k < 2 → parseFieldDescriptor (TX2 k).2.2.1 = some (tyX2 k) := by decide +kernel
abbrev cX2_init : ByteArray := prog_4_method_1_code
def yX2_init : MethodName := ⟨RX2, "<init>", "()V"⟩
abbrev cX2_addSign : ByteArray := prog_4_method_2_code
def yX2_addSign : MethodName := ⟨RX2, "addSign", "(C)Z"⟩
abbrev cX2_signAt : ByteArray := prog_4_method_3_code
def yX2_signAt : MethodName := ⟨RX2, "signAt", "(I)C"⟩
abbrev cX2_errorIndex : ByteArray := prog_4_method_4_code
def yX2_errorIndex : MethodName := ⟨RX2, "errorIndex", "()I"⟩
abbrev cX2_isComplete : ByteArray := prog_4_method_5_code
def yX2_isComplete : MethodName := ⟨RX2, "isComplete", "()Z"⟩
abbrev cX2_isOrderEnd : ByteArray := prog_4_method_6_code
def yX2_isOrderEnd : MethodName := ⟨RX2, "isOrderEnd", "(I)Z"⟩
abbrev cX2_numberAt : ByteArray := prog_4_method_7_code
def yX2_numberAt : MethodName := ⟨RX2, "numberAt", "(II)I"⟩
abbrev cX2_dueAfter : ByteArray := prog_4_method_8_code
def yX2_dueAfter : MethodName := ⟨RX2, "dueAfter", "(IC)I"⟩
abbrev cX2_dueAfterLetter : ByteArray := prog_4_method_9_code
def yX2_dueAfterLetter : MethodName := ⟨RX2, "dueAfterLetter", "(C)I"⟩
abbrev cX2_dueAfterFirstDigit : ByteArray := prog_4_method_10_code
def yX2_dueAfterFirstDigit : MethodName := ⟨RX2, "dueAfterFirstDigit", "(CC)I"⟩
abbrev cX2_dueAfterEnd : ByteArray := prog_4_method_11_code
def yX2_dueAfterEnd : MethodName := ⟨RX2, "dueAfterEnd", "(IC)I"⟩
abbrev cX2_isDigit : ByteArray := prog_4_method_12_code
def yX2_isDigit : MethodName := ⟨RX2, "isDigit", "(CCC)Z"⟩
def RX3 : String := "OreRailway$State"
def TX3 : u_T := fun k => match k with
  | 0 => ("OreRailway$State", "grades", "[I", true)
  | 1 => ("OreRailway$State", "limits", "[I", true)
  | 2 => ("OreRailway$State", "runaways", "[I", true)
  | 3 => ("OreRailway$State", "settings", "[I", true)
  | 4 => ("OreRailway$State", "cars", "[LOreRailway$Car;", true)
  | 5 => ("OreRailway$State", "movers", "[I", true)
  | 6 => ("OreRailway$State", "carCount", "I", false)
  | 7 => ("OreRailway$State", "tick", "I", false)
  | 8 => ("OreRailway$State", "loaded", "I", false)
  | 9 => ("OreRailway$State", "delivered", "I", false)
  | 10 => ("OreRailway$State", "spilled", "I", false)
  | _ => ("OreRailway$State", "refusals", "I", false)
def tyX3 : Nat → FieldType := fun k => match k with
  | 0 => .array .int
  | 1 => .array .int
  | 2 => .array .int
  | 3 => .array .int
  | 4 => .array (.object "OreRailway$Car")
  | 5 => .array .int
  | 6 => .int
  | 7 => .int
  | 8 => .int
  | 9 => .int
  | 10 => .int
  | _ => .int
abbrev wsX30 : List Cond := u_ws RX3 TX3 12
theorem nmX3 : ∀ a, a < 12 → ∀ b, b < 12 → a ≠ b → (TX3 a).2.1 ≠ (TX3 b).2.1 := by decide +kernel
theorem tyX3_ok : ∀ k, k < 12 → parseFieldDescriptor (TX3 k).2.2.1 = some (tyX3 k) := by decide +kernel
abbrev cX3_init : ByteArray := prog_5_method_1_code
def yX3_init : MethodName := ⟨RX3, "<init>", "()V"⟩
abbrev cX3_copyFrom : ByteArray := prog_5_method_2_code
def yX3_copyFrom : MethodName := ⟨RX3, "copyFrom", "(LOreRailway$State;)V"⟩
abbrev cX3_hasCar : ByteArray := prog_5_method_3_code
def yX3_hasCar : MethodName := ⟨RX3, "hasCar", "(I)Z"⟩
abbrev cX3_isRolling : ByteArray := prog_5_method_4_code
def yX3_isRolling : MethodName := ⟨RX3, "isRolling", "(I)Z"⟩
abbrev cX3_addCar : ByteArray := prog_5_method_5_code
def yX3_addCar : MethodName := ⟨RX3, "addCar", "()I"⟩
abbrev cX3_canLoad : ByteArray := prog_5_method_6_code
def yX3_canLoad : MethodName := ⟨RX3, "canLoad", "(II)Z"⟩
abbrev cX3_addOre : ByteArray := prog_5_method_7_code
def yX3_addOre : MethodName := ⟨RX3, "addOre", "(II)I"⟩
abbrev cX3_releaseRefusal : ByteArray := prog_5_method_8_code
def yX3_releaseRefusal : MethodName := ⟨RX3, "releaseRefusal", "(I)I"⟩
abbrev cX3_letRoll : ByteArray := prog_5_method_9_code
def yX3_letRoll : MethodName := ⟨RX3, "letRoll", "(II)I"⟩
abbrev cX3_changeBrake : ByteArray := prog_5_method_10_code
def yX3_changeBrake : MethodName := ⟨RX3, "changeBrake", "(II)I"⟩
abbrev cX3_pullRefusal : ByteArray := prog_5_method_11_code
def yX3_pullRefusal : MethodName := ⟨RX3, "pullRefusal", "(I)I"⟩
abbrev cX3_harnessMule : ByteArray := prog_5_method_12_code
def yX3_harnessMule : MethodName := ⟨RX3, "harnessMule", "(I)I"⟩
abbrev cX3_leaveOneCar : ByteArray := prog_5_method_13_code
def yX3_leaveOneCar : MethodName := ⟨RX3, "leaveOneCar", "(II)V"⟩
abbrev cX3_passTicks : ByteArray := prog_5_method_14_code
def yX3_passTicks : MethodName := ⟨RX3, "passTicks", "(I)V"⟩
abbrev cX3_passTick : ByteArray := prog_5_method_15_code
def yX3_passTick : MethodName := ⟨RX3, "passTick", "()V"⟩
abbrev cX3_lineUp : ByteArray := prog_5_method_16_code
def yX3_lineUp : MethodName := ⟨RX3, "lineUp", "()V"⟩
abbrev cX3_rankOf : ByteArray := prog_5_method_17_code
def yX3_rankOf : MethodName := ⟨RX3, "rankOf", "(I)I"⟩
abbrev cX3_isBefore : ByteArray := prog_5_method_18_code
def yX3_isBefore : MethodName := ⟨RX3, "isBefore", "(II)Z"⟩
abbrev cX3_moveCar : ByteArray := prog_5_method_19_code
def yX3_moveCar : MethodName := ⟨RX3, "moveCar", "(I)V"⟩
abbrev cX3_gradeAt : ByteArray := prog_5_method_20_code
def yX3_gradeAt : MethodName := ⟨RX3, "gradeAt", "(I)I"⟩
abbrev cX3_nextBefore : ByteArray := prog_5_method_21_code
def yX3_nextBefore : MethodName := ⟨RX3, "nextBefore", "(I)I"⟩
abbrev cX3_bump : ByteArray := prog_5_method_22_code
def yX3_bump : MethodName := ⟨RX3, "bump", "(LOreRailway$Car;ILOreRailway$Car;)V"⟩
abbrev cX3_runawaySection : ByteArray := prog_5_method_23_code
def yX3_runawaySection : MethodName := ⟨RX3, "runawaySection", "(III)I"⟩
abbrev cX3_arrive : ByteArray := prog_5_method_24_code
def yX3_arrive : MethodName := ⟨RX3, "arrive", "(LOreRailway$Car;)V"⟩
abbrev cX3_pullOn : ByteArray := prog_5_method_25_code
def yX3_pullOn : MethodName := ⟨RX3, "pullOn", "(LOreRailway$Car;)V"⟩
abbrev cX3_switchCount : ByteArray := prog_5_method_26_code
def yX3_switchCount : MethodName := ⟨RX3, "switchCount", "()I"⟩
abbrev cX3_carsInState : ByteArray := prog_5_method_27_code
def yX3_carsInState : MethodName := ⟨RX3, "carsInState", "(I)I"⟩
abbrev cX3_carsInSection : ByteArray := prog_5_method_28_code
def yX3_carsInSection : MethodName := ⟨RX3, "carsInSection", "(II)I"⟩
abbrev cX3_freeMules : ByteArray := prog_5_method_29_code
def yX3_freeMules : MethodName := ⟨RX3, "freeMules", "()I"⟩
abbrev cX3_oreInCars : ByteArray := prog_5_method_30_code
def yX3_oreInCars : MethodName := ⟨RX3, "oreInCars", "()I"⟩
abbrev cX3_bumps : ByteArray := prog_5_method_31_code
def yX3_bumps : MethodName := ⟨RX3, "bumps", "()I"⟩
abbrev cX3_number : ByteArray := prog_5_method_32_code
def yX3_number : MethodName := ⟨RX3, "number", "(I)I"⟩
def RX4 : String := "OreRailway"
def TX4 : u_T := fun k => match k with
  | 0 => ("OreRailway", "now", "LOreRailway$State;", true)
  | 1 => ("OreRailway", "trial", "LOreRailway$State;", true)
  | 2 => ("OreRailway", "history", "LOreRailway$History;", true)
  | 3 => ("OreRailway", "snapshots", "[LOreRailway$State;", true)
  | 4 => ("OreRailway", "kept", "[Z", true)
  | _ => ("OreRailway", "orders", "LOreRailway$OrderText;", true)
def tyX4 : Nat → FieldType := fun k => match k with
  | 0 => .object "OreRailway$State"
  | 1 => .object "OreRailway$State"
  | 2 => .object "OreRailway$History"
  | 3 => .array (.object "OreRailway$State")
  | 4 => .array .boolean
  | _ => .object "OreRailway$OrderText"
abbrev wsX40 : List Cond := u_ws RX4 TX4 6
theorem nmX4 : ∀ a, a < 6 → ∀ b, b < 6 → a ≠ b → (TX4 a).2.1 ≠ (TX4 b).2.1 := by decide +kernel
theorem tyX4_ok : ∀ k, k < 6 → parseFieldDescriptor (TX4 k).2.2.1 = some (tyX4 k) := by decide +kernel
abbrev cX4_init : ByteArray := prog_1_method_1_code
def yX4_init : MethodName := ⟨RX4, "<init>", "()V"⟩
abbrev cX4_grade : ByteArray := prog_1_method_2_code
def yX4_grade : MethodName := ⟨RX4, "grade", "(II)I"⟩
abbrev cX4_spring : ByteArray := prog_1_method_3_code
def yX4_spring : MethodName := ⟨RX4, "spring", "(II)I"⟩
abbrev cX4_car : ByteArray := prog_1_method_4_code
def yX4_car : MethodName := ⟨RX4, "car", "()I"⟩
abbrev cX4_load : ByteArray := prog_1_method_5_code
def yX4_load : MethodName := ⟨RX4, "load", "(II)I"⟩
abbrev cX4_release : ByteArray := prog_1_method_6_code
def yX4_release : MethodName := ⟨RX4, "release", "(II)I"⟩
abbrev cX4_brake : ByteArray := prog_1_method_7_code
def yX4_brake : MethodName := ⟨RX4, "brake", "(II)I"⟩
abbrev cX4_pull : ByteArray := prog_1_method_8_code
def yX4_pull : MethodName := ⟨RX4, "pull", "(I)I"⟩
abbrev cX4_set : ByteArray := prog_1_method_9_code
def yX4_set : MethodName := ⟨RX4, "set", "(II)I"⟩
abbrev cX4_run : ByteArray := prog_1_method_10_code
def yX4_run : MethodName := ⟨RX4, "run", "(I)I"⟩
abbrev cX4_append : ByteArray := prog_1_method_11_code
def yX4_append : MethodName := ⟨RX4, "append", "(I)I"⟩
abbrev cX4_clearBuffer : ByteArray := prog_1_method_12_code
def yX4_clearBuffer : MethodName := ⟨RX4, "clearBuffer", "()I"⟩
abbrev cX4_firstError : ByteArray := prog_1_method_13_code
def yX4_firstError : MethodName := ⟨RX4, "firstError", "()I"⟩
abbrev cX4_execute : ByteArray := prog_1_method_14_code
def yX4_execute : MethodName := ⟨RX4, "execute", "()I"⟩
abbrev cX4_undo : ByteArray := prog_1_method_15_code
def yX4_undo : MethodName := ⟨RX4, "undo", "()I"⟩
abbrev cX4_keep : ByteArray := prog_1_method_16_code
def yX4_keep : MethodName := ⟨RX4, "keep", "(I)I"⟩
abbrev cX4_goBack : ByteArray := prog_1_method_17_code
def yX4_goBack : MethodName := ⟨RX4, "goBack", "(I)I"⟩
abbrev cX4_section : ByteArray := prog_1_method_18_code
def yX4_section : MethodName := ⟨RX4, "section", "(II)I"⟩
abbrev cX4_carOf : ByteArray := prog_1_method_19_code
def yX4_carOf : MethodName := ⟨RX4, "carOf", "(II)I"⟩
abbrev cX4_cars : ByteArray := prog_1_method_20_code
def yX4_cars : MethodName := ⟨RX4, "cars", "(I)I"⟩
abbrev cX4_rolling : ByteArray := prog_1_method_21_code
def yX4_rolling : MethodName := ⟨RX4, "rolling", "(I)I"⟩
abbrev cX4_count : ByteArray := prog_1_method_22_code
def yX4_count : MethodName := ⟨RX4, "count", "(I)I"⟩
abbrev cX4_refusal : ByteArray := prog_1_method_23_code
def yX4_refusal : MethodName := ⟨RX4, "refusal", "(IZ)I"⟩
abbrev cX4_ifAlone : ByteArray := prog_1_method_24_code
def yX4_ifAlone : MethodName := ⟨RX4, "ifAlone", "(III)I"⟩
abbrev cX4_leastBrake : ByteArray := prog_1_method_25_code
def yX4_leastBrake : MethodName := ⟨RX4, "leastBrake", "(I)I"⟩
abbrev cX4_ifRun : ByteArray := prog_1_method_26_code
def yX4_ifRun : MethodName := ⟨RX4, "ifRun", "(II)I"⟩
abbrev cX4_meanSpeed : ByteArray := prog_1_method_27_code
def yX4_meanSpeed : MethodName := ⟨RX4, "meanSpeed", "()F"⟩
abbrev cX4_requireIndex : ByteArray := prog_1_method_28_code
def yX4_requireIndex : MethodName := ⟨RX4, "requireIndex", "(Z)V"⟩
abbrev cX4_requireArgument : ByteArray := prog_1_method_29_code
def yX4_requireArgument : MethodName := ⟨RX4, "requireArgument", "(Z)V"⟩
abbrev cX4_requireState : ByteArray := prog_1_method_30_code
def yX4_requireState : MethodName := ⟨RX4, "requireState", "(Z)V"⟩
abbrev cX4_isWithin : ByteArray := prog_1_method_31_code
def yX4_isWithin : MethodName := ⟨RX4, "isWithin", "(III)Z"⟩
abbrev cX4_leastOfSetting : ByteArray := prog_1_method_32_code
def yX4_leastOfSetting : MethodName := ⟨RX4, "leastOfSetting", "(I)I"⟩
abbrev cX4_greatestOfSetting : ByteArray := prog_1_method_33_code
def yX4_greatestOfSetting : MethodName := ⟨RX4, "greatestOfSetting", "(I)I"⟩
abbrev cX4_perform : ByteArray := prog_1_method_34_code
def yX4_perform : MethodName := ⟨RX4, "perform", "(II)Z"⟩
abbrev cX4_performOn : ByteArray := prog_1_method_35_code
def yX4_performOn : MethodName := ⟨RX4, "performOn", "(ICI)Z"⟩
abbrev cX4_tryAlone : ByteArray := prog_1_method_36_code
def yX4_tryAlone : MethodName := ⟨RX4, "tryAlone", "(II)I"⟩
def RX5 : String := "OreRailwayModel"
def TX5 : u_T := fun k => match k with
  | 0 => ("OreRailwayModel", "s", "[I", true)
  | 1 => ("OreRailwayModel", "aside", "[I", true)
  | 2 => ("OreRailwayModel", "past", "[I", true)
  | 3 => ("OreRailwayModel", "pasts", "I", false)
  | 4 => ("OreRailwayModel", "shots", "[I", true)
  | 5 => ("OreRailwayModel", "isKept", "[Z", true)
  | 6 => ("OreRailwayModel", "text", "[I", true)
  | 7 => ("OreRailwayModel", "length", "I", false)
  | 8 => ("OreRailwayModel", "thrown", "I", false)
  | 9 => ("OreRailwayModel", "turn", "[I", true)
  | 10 => ("OreRailwayModel", "rolled", "[Z", true)
  | 11 => ("OreRailwayModel", "spot", "I", false)
  | 12 => ("OreRailwayModel", "isWrong", "Z", false)
  | 13 => ("OreRailwayModel", "letter", "I", false)
  | 14 => ("OreRailwayModel", "first", "I", false)
  | _ => ("OreRailwayModel", "second", "I", false)
def tyX5 : Nat → FieldType := fun k => match k with
  | 0 => .array .int
  | 1 => .array .int
  | 2 => .array .int
  | 3 => .int
  | 4 => .array .int
  | 5 => .array .boolean
  | 6 => .array .int
  | 7 => .int
  | 8 => .int
  | 9 => .array .int
  | 10 => .array .boolean
  | 11 => .int
  | 12 => .boolean
  | 13 => .int
  | 14 => .int
  | _ => .int
abbrev wsX50 : List Cond := u_ws RX5 TX5 16
theorem nmX5 : ∀ a, a < 16 → ∀ b, b < 16 → a ≠ b → (TX5 a).2.1 ≠ (TX5 b).2.1 := by decide +kernel
theorem tyX5_ok : ∀ k, k < 16 → parseFieldDescriptor (TX5 k).2.2.1 = some (tyX5 k) := by decide +kernel
abbrev cX5_init : ByteArray := prog_7_method_1_code
def yX5_init : MethodName := ⟨RX5, "<init>", "()V"⟩
abbrev cX5_thrown : ByteArray := prog_7_method_2_code
def yX5_thrown : MethodName := ⟨RX5, "thrown", "()I"⟩
abbrev cX5_refused : ByteArray := prog_7_method_3_code
def yX5_refused : MethodName := ⟨RX5, "refused", "(I)Z"⟩
abbrev cX5_in : ByteArray := prog_7_method_4_code
def yX5_in : MethodName := ⟨RX5, "in", "(III)Z"⟩
abbrev cX5_of : ByteArray := prog_7_method_5_code
def yX5_of : MethodName := ⟨RX5, "of", "(II)I"⟩
abbrev cX5_isCar : ByteArray := prog_7_method_6_code
def yX5_isCar : MethodName := ⟨RX5, "isCar", "(I)Z"⟩
abbrev cX5_isIn : ByteArray := prog_7_method_7_code
def yX5_isIn : MethodName := ⟨RX5, "isIn", "(II)Z"⟩
abbrev cX5_saves : ByteArray := prog_7_method_8_code
def yX5_saves : MethodName := ⟨RX5, "saves", "()V"⟩
abbrev cX5_putAside : ByteArray := prog_7_method_9_code
def yX5_putAside : MethodName := ⟨RX5, "putAside", "()V"⟩
abbrev cX5_putBack : ByteArray := prog_7_method_10_code
def yX5_putBack : MethodName := ⟨RX5, "putBack", "()V"⟩
abbrev cX5_grade : ByteArray := prog_7_method_11_code
def yX5_grade : MethodName := ⟨RX5, "grade", "(II)I"⟩
abbrev cX5_switches : ByteArray := prog_7_method_12_code
def yX5_switches : MethodName := ⟨RX5, "switches", "()I"⟩
abbrev cX5_spring : ByteArray := prog_7_method_13_code
def yX5_spring : MethodName := ⟨RX5, "spring", "(II)I"⟩
abbrev cX5_adds : ByteArray := prog_7_method_14_code
def yX5_adds : MethodName := ⟨RX5, "adds", "()I"⟩
abbrev cX5_car : ByteArray := prog_7_method_15_code
def yX5_car : MethodName := ⟨RX5, "car", "()I"⟩
abbrev cX5_barLoad : ByteArray := prog_7_method_16_code
def yX5_barLoad : MethodName := ⟨RX5, "barLoad", "(II)I"⟩
abbrev cX5_loads : ByteArray := prog_7_method_17_code
def yX5_loads : MethodName := ⟨RX5, "loads", "(II)I"⟩
abbrev cX5_load : ByteArray := prog_7_method_18_code
def yX5_load : MethodName := ⟨RX5, "load", "(II)I"⟩
abbrev cX5_pulled : ByteArray := prog_7_method_19_code
def yX5_pulled : MethodName := ⟨RX5, "pulled", "()I"⟩
abbrev cX5_mules : ByteArray := prog_7_method_20_code
def yX5_mules : MethodName := ⟨RX5, "mules", "()I"⟩
abbrev cX5_noRelease : ByteArray := prog_7_method_21_code
def yX5_noRelease : MethodName := ⟨RX5, "noRelease", "(I)I"⟩
abbrev cX5_noPull : ByteArray := prog_7_method_22_code
def yX5_noPull : MethodName := ⟨RX5, "noPull", "(I)I"⟩
abbrev cX5_releases : ByteArray := prog_7_method_23_code
def yX5_releases : MethodName := ⟨RX5, "releases", "(II)I"⟩
abbrev cX5_pulls : ByteArray := prog_7_method_24_code
def yX5_pulls : MethodName := ⟨RX5, "pulls", "(I)I"⟩
abbrev cX5_isBrake : ByteArray := prog_7_method_25_code
def yX5_isBrake : MethodName := ⟨RX5, "isBrake", "(I)Z"⟩
abbrev cX5_release : ByteArray := prog_7_method_26_code
def yX5_release : MethodName := ⟨RX5, "release", "(II)I"⟩
abbrev cX5_barBrake : ByteArray := prog_7_method_27_code
def yX5_barBrake : MethodName := ⟨RX5, "barBrake", "(II)I"⟩
abbrev cX5_brakes : ByteArray := prog_7_method_28_code
def yX5_brakes : MethodName := ⟨RX5, "brakes", "(II)I"⟩
abbrev cX5_brake : ByteArray := prog_7_method_29_code
def yX5_brake : MethodName := ⟨RX5, "brake", "(II)I"⟩
abbrev cX5_pull : ByteArray := prog_7_method_30_code
def yX5_pull : MethodName := ⟨RX5, "pull", "(I)I"⟩
abbrev cX5_least : ByteArray := prog_7_method_31_code
def yX5_least : MethodName := ⟨RX5, "least", "(I)I"⟩
abbrev cX5_most : ByteArray := prog_7_method_32_code
def yX5_most : MethodName := ⟨RX5, "most", "(I)I"⟩
abbrev cX5_set : ByteArray := prog_7_method_33_code
def yX5_set : MethodName := ⟨RX5, "set", "(II)I"⟩
abbrev cX5_force : ByteArray := prog_7_method_34_code
def yX5_force : MethodName := ⟨RX5, "force", "(I)I"⟩
abbrev cX5_isAhead : ByteArray := prog_7_method_35_code
def yX5_isAhead : MethodName := ⟨RX5, "isAhead", "(II)Z"⟩
abbrev cX5_notes : ByteArray := prog_7_method_36_code
def yX5_notes : MethodName := ⟨RX5, "notes", "()I"⟩
abbrev cX5_before : ByteArray := prog_7_method_37_code
def yX5_before : MethodName := ⟨RX5, "before", "(I)I"⟩
abbrev cX5_within : ByteArray := prog_7_method_38_code
def yX5_within : MethodName := ⟨RX5, "within", "(III)I"⟩
abbrev cX5_moves : ByteArray := prog_7_method_39_code
def yX5_moves : MethodName := ⟨RX5, "moves", "(I)V"⟩
abbrev cX5_arrives : ByteArray := prog_7_method_40_code
def yX5_arrives : MethodName := ⟨RX5, "arrives", "(II)V"⟩
abbrev cX5_tick : ByteArray := prog_7_method_41_code
def yX5_tick : MethodName := ⟨RX5, "tick", "()V"⟩
abbrev cX5_runs : ByteArray := prog_7_method_42_code
def yX5_runs : MethodName := ⟨RX5, "runs", "(I)I"⟩
abbrev cX5_run : ByteArray := prog_7_method_43_code
def yX5_run : MethodName := ⟨RX5, "run", "(I)I"⟩
abbrev cX5_append : ByteArray := prog_7_method_44_code
def yX5_append : MethodName := ⟨RX5, "append", "(I)I"⟩
abbrev cX5_clearBuffer : ByteArray := prog_7_method_45_code
def yX5_clearBuffer : MethodName := ⟨RX5, "clearBuffer", "()I"⟩
abbrev cX5_next : ByteArray := prog_7_method_46_code
def yX5_next : MethodName := ⟨RX5, "next", "()I"⟩
abbrev cX5_sign : ByteArray := prog_7_method_47_code
def yX5_sign : MethodName := ⟨RX5, "sign", "(I)V"⟩
abbrev cX5_digit : ByteArray := prog_7_method_48_code
def yX5_digit : MethodName := ⟨RX5, "digit", "(II)I"⟩
abbrev cX5_number : ByteArray := prog_7_method_49_code
def yX5_number : MethodName := ⟨RX5, "number", "(I)I"⟩
abbrev cX5_order : ByteArray := prog_7_method_50_code
def yX5_order : MethodName := ⟨RX5, "order", "()V"⟩
abbrev cX5_isWhole : ByteArray := prog_7_method_51_code
def yX5_isWhole : MethodName := ⟨RX5, "isWhole", "()Z"⟩
abbrev cX5_firstError : ByteArray := prog_7_method_52_code
def yX5_firstError : MethodName := ⟨RX5, "firstError", "()I"⟩
abbrev cX5_does : ByteArray := prog_7_method_53_code
def yX5_does : MethodName := ⟨RX5, "does", "()Z"⟩
abbrev cX5_execute : ByteArray := prog_7_method_54_code
def yX5_execute : MethodName := ⟨RX5, "execute", "()I"⟩
abbrev cX5_undo : ByteArray := prog_7_method_55_code
def yX5_undo : MethodName := ⟨RX5, "undo", "()I"⟩
abbrev cX5_keep : ByteArray := prog_7_method_56_code
def yX5_keep : MethodName := ⟨RX5, "keep", "(I)I"⟩
abbrev cX5_goBack : ByteArray := prog_7_method_57_code
def yX5_goBack : MethodName := ⟨RX5, "goBack", "(I)I"⟩
abbrev cX5_carsAt : ByteArray := prog_7_method_58_code
def yX5_carsAt : MethodName := ⟨RX5, "carsAt", "(II)I"⟩
abbrev cX5_section : ByteArray := prog_7_method_59_code
def yX5_section : MethodName := ⟨RX5, "section", "(II)I"⟩
abbrev cX5_carOf : ByteArray := prog_7_method_60_code
def yX5_carOf : MethodName := ⟨RX5, "carOf", "(II)I"⟩
abbrev cX5_cars : ByteArray := prog_7_method_61_code
def yX5_cars : MethodName := ⟨RX5, "cars", "(I)I"⟩
abbrev cX5_rolling : ByteArray := prog_7_method_62_code
def yX5_rolling : MethodName := ⟨RX5, "rolling", "(I)I"⟩
abbrev cX5_inCars : ByteArray := prog_7_method_63_code
def yX5_inCars : MethodName := ⟨RX5, "inCars", "()I"⟩
abbrev cX5_count : ByteArray := prog_7_method_64_code
def yX5_count : MethodName := ⟨RX5, "count", "(I)I"⟩
abbrev cX5_refusal : ByteArray := prog_7_method_65_code
def yX5_refusal : MethodName := ⟨RX5, "refusal", "(IZ)I"⟩
abbrev cX5_alone : ByteArray := prog_7_method_66_code
def yX5_alone : MethodName := ⟨RX5, "alone", "(III)I"⟩
abbrev cX5_ifAlone : ByteArray := prog_7_method_67_code
def yX5_ifAlone : MethodName := ⟨RX5, "ifAlone", "(III)I"⟩
abbrev cX5_leastBrake : ByteArray := prog_7_method_68_code
def yX5_leastBrake : MethodName := ⟨RX5, "leastBrake", "(I)I"⟩
abbrev cX5_allBumps : ByteArray := prog_7_method_69_code
def yX5_allBumps : MethodName := ⟨RX5, "allBumps", "()I"⟩
abbrev cX5_ifRun : ByteArray := prog_7_method_70_code
def yX5_ifRun : MethodName := ⟨RX5, "ifRun", "(II)I"⟩
abbrev cX5_meanSpeed : ByteArray := prog_7_method_71_code
def yX5_meanSpeed : MethodName := ⟨RX5, "meanSpeed", "()F"⟩
def RJ6 : String := "java/lang/Integer"
def TJ6 : u_T := fun k => match k with
  | _ => ("", "", "", false)
def tyJ6 : Nat → FieldType := fun k => match k with
  | _ => .int
abbrev wsJ60 : List Cond := u_ws RJ6 TJ6 0
theorem nmJ6 : ∀ a, a < 0 → ∀ b, b < 0 → a ≠ b → (TJ6 a).2.1 ≠ (TJ6 b).2.1 := by decide +kernel
theorem tyJ6_ok : ∀ k, k < 0 → parseFieldDescriptor (TJ6 k).2.2.1 = some (tyJ6 k) := by decide +kernel
abbrev cJ6_bitCount_0f7a4 : ByteArray := prog_12_method_49_code
def yJ6_bitCount_0f7a4 : MethodName := ⟨RJ6, "bitCount", "(I)I"⟩
def RJ9 : String := "java/lang/Math"
def TJ9 : u_T := fun k => match k with
  | _ => ("", "", "", false)
def tyJ9 : Nat → FieldType := fun k => match k with
  | _ => .int
abbrev wsJ90 : List Cond := u_ws RJ9 TJ9 0
theorem nmJ9 : ∀ a, a < 0 → ∀ b, b < 0 → a ≠ b → (TJ9 a).2.1 ≠ (TJ9 b).2.1 := by decide +kernel
theorem tyJ9_ok : ∀ k, k < 0 → parseFieldDescriptor (TJ9 k).2.2.1 = some (tyJ9 k) := by decide +kernel
abbrev cJ9_max_7cf53 : ByteArray := prog_13_method_65_code
def yJ9_max_7cf53 : MethodName := ⟨RJ9, "max", "(II)I"⟩
abbrev cJ9_min_7cf53 : ByteArray := prog_13_method_69_code
def yJ9_min_7cf53 : MethodName := ⟨RJ9, "min", "(II)I"⟩
def RJ0 : String := "java/lang/String"
def TJ0 : u_T := fun k => match k with
  | _ => ("", "", "", false)
def tyJ0 : Nat → FieldType := fun k => match k with
  | _ => .int
abbrev wsJ00 : List Cond := u_ws RJ0 TJ0 0
theorem nmJ0 : ∀ a, a < 0 → ∀ b, b < 0 → a ≠ b → (TJ0 a).2.1 ≠ (TJ0 b).2.1 := by decide +kernel
theorem tyJ0_ok : ∀ k, k < 0 → parseFieldDescriptor (TJ0 k).2.2.1 = some (tyJ0 k) := by decide +kernel
def RJ10 : String := "java/lang/System"
def TJ10 : u_T := fun k => match k with
  | _ => ("", "", "", false)
def tyJ10 : Nat → FieldType := fun k => match k with
  | _ => .int
abbrev wsJ100 : List Cond := u_ws RJ10 TJ10 0
theorem nmJ10 : ∀ a, a < 0 → ∀ b, b < 0 → a ≠ b → (TJ10 a).2.1 ≠ (TJ10 b).2.1 := by decide +kernel
theorem tyJ10_ok : ∀ k, k < 0 → parseFieldDescriptor (TJ10 k).2.2.1 = some (tyJ10 k) := by decide +kernel
def RL : String := "OreRailwayLaw"
abbrev cL_grade : ByteArray := method_3_code
def yL_grade : MethodName := ⟨RL, "grade", "(LOreRailway;II[J)I"⟩
abbrev cL_spring : ByteArray := method_4_code
def yL_spring : MethodName := ⟨RL, "spring", "(LOreRailway;II[J)I"⟩
abbrev cL_car : ByteArray := method_5_code
def yL_car : MethodName := ⟨RL, "car", "(LOreRailway;[J)I"⟩
abbrev cL_load : ByteArray := method_6_code
def yL_load : MethodName := ⟨RL, "load", "(LOreRailway;II[J)I"⟩
abbrev cL_release : ByteArray := method_7_code
def yL_release : MethodName := ⟨RL, "release", "(LOreRailway;II[J)I"⟩
abbrev cL_brake : ByteArray := method_8_code
def yL_brake : MethodName := ⟨RL, "brake", "(LOreRailway;II[J)I"⟩
abbrev cL_pull : ByteArray := method_9_code
def yL_pull : MethodName := ⟨RL, "pull", "(LOreRailway;I[J)I"⟩
abbrev cL_set : ByteArray := method_10_code
def yL_set : MethodName := ⟨RL, "set", "(LOreRailway;II[J)I"⟩
abbrev cL_run : ByteArray := method_11_code
def yL_run : MethodName := ⟨RL, "run", "(LOreRailway;I[J)I"⟩
abbrev cL_append : ByteArray := method_12_code
def yL_append : MethodName := ⟨RL, "append", "(LOreRailway;I[J)I"⟩
abbrev cL_execute : ByteArray := method_13_code
def yL_execute : MethodName := ⟨RL, "execute", "(LOreRailway;[J)I"⟩
abbrev cL_undo : ByteArray := method_14_code
def yL_undo : MethodName := ⟨RL, "undo", "(LOreRailway;[J)I"⟩
abbrev cL_keep : ByteArray := method_15_code
def yL_keep : MethodName := ⟨RL, "keep", "(LOreRailway;I[J)I"⟩
abbrev cL_goBack : ByteArray := method_16_code
def yL_goBack : MethodName := ⟨RL, "goBack", "(LOreRailway;I[J)I"⟩
abbrev cL_section : ByteArray := method_17_code
def yL_section : MethodName := ⟨RL, "section", "(LOreRailway;II[J)I"⟩
abbrev cL_carOf : ByteArray := method_18_code
def yL_carOf : MethodName := ⟨RL, "carOf", "(LOreRailway;II[J)I"⟩
abbrev cL_cars : ByteArray := method_19_code
def yL_cars : MethodName := ⟨RL, "cars", "(LOreRailway;I[J)I"⟩
abbrev cL_rolling : ByteArray := method_20_code
def yL_rolling : MethodName := ⟨RL, "rolling", "(LOreRailway;I[J)I"⟩
abbrev cL_count : ByteArray := method_21_code
def yL_count : MethodName := ⟨RL, "count", "(LOreRailway;I[J)I"⟩
abbrev cL_refusal : ByteArray := method_22_code
def yL_refusal : MethodName := ⟨RL, "refusal", "(LOreRailway;IZ[J)I"⟩
abbrev cL_ifAlone : ByteArray := method_23_code
def yL_ifAlone : MethodName := ⟨RL, "ifAlone", "(LOreRailway;III[J)I"⟩
abbrev cL_leastBrake : ByteArray := method_24_code
def yL_leastBrake : MethodName := ⟨RL, "leastBrake", "(LOreRailway;I[J)I"⟩
abbrev cL_ifRun : ByteArray := method_25_code
def yL_ifRun : MethodName := ⟨RL, "ifRun", "(LOreRailway;II[J)I"⟩
abbrev cL_law : ByteArray := code
def yL_law : MethodName := ⟨RL, "law", "([I)Z"⟩
abbrev vwCl : List vw_C := [(RX0, TX0, 9), (RX1, TX1, 3), (RX2, TX2, 2), (RX3, TX3, 12), (RX4, TX4, 6), (RX5, TX5, 16)]
end
section
def gw : List Cond := lw_tbl.filter goodWord
theorem gw_tbl : ∀ w ∈ gw, w ∈ lw_tbl := fun w h => (List.mem_filter.mp h).1
theorem gw_good : ∀ w ∈ gw, (w.onTables && w.keeps) = true ∨ ∃ ty, w = .arrayClass ty := fun w h => good_of_word (List.mem_filter.mp h).2
theorem gw_i {w : Cond} (i : Nat) (h : lw_tbl[i]? = some w) (g : goodWord w = true) : w ∈ gw := List.mem_filter.mpr ⟨List.mem_of_getElem? h, g⟩
theorem gw_l {ws : List Cond} (ps : List Nat) (h : ws = ps.filterMap (fun i => lw_tbl[i]?)) (g : ws.all goodWord = true) : ∀ w ∈ ws, w ∈ gw := by
  intro w hw
  have h1 := List.all_eq_true.mp g w hw
  rw [h] at hw
  obtain ⟨i, -, hi⟩ := List.mem_filterMap.mp hw
  exact gw_i i hi h1
theorem gw_C {c : Cond} (h : c ∈ gw) : GoodIn gw (c :: gw) := fun w h2 => (List.mem_cons.mp h2).elim (fun e => by rw [e]; exact ⟨h, gw_good _ h⟩) (fun h3 => ⟨h3, gw_good _ h3⟩)
theorem gw_S {own : String} {idx : Nat} {y : MethodName} {c : Cond} (h1 : Cond.methodLink own idx y ∈ gw) (h2 : Cond.static y ∈ gw) (h3 : Cond.initialized y.cls ∈ gw) (h4 : c ∈ gw) : GoodIn gw (va_wsS own idx y (c :: gw)) := by
  intro w h
  rcases List.mem_append.mp h with h | h
  · simp only [List.mem_cons, List.not_mem_nil, or_false] at h
    rcases h with rfl | rfl | rfl
    · exact ⟨h1, gw_good _ h1⟩
    · exact ⟨h2, gw_good _ h2⟩
    · exact ⟨h3, gw_good _ h3⟩
  · exact gw_C h4 w h
theorem gw_V {own C : String} {idx : Nat} {y : MethodName} {c : Cond} (h1 : Cond.methodLink own idx y ∈ gw) (h2 : Cond.instanceMethod y ∈ gw) (h5 : Cond.selects C y y ∈ gw) (h3 : Cond.initialized C ∈ gw) (h4 : c ∈ gw) : GoodIn gw (wsV own idx C y (c :: gw)) := by
  intro w h
  rcases List.mem_append.mp h with h | h
  · simp only [List.mem_cons, List.not_mem_nil, or_false] at h
    rcases h with rfl | rfl | rfl | rfl
    · exact ⟨h1, gw_good _ h1⟩
    · exact ⟨h2, gw_good _ h2⟩
    · exact ⟨h5, gw_good _ h5⟩
    · exact ⟨h3, gw_good _ h3⟩
  · exact gw_C h4 w h
theorem gfX0_9 : Cond.fieldLink RX0 9 "OreRailway$Car" "state" "I" ∈ gw := gw_i 87 (by decide +kernel) (by decide +kernel)
theorem gfX0_15 : Cond.fieldLink RX0 15 "OreRailway$Car" "ore" "I" ∈ gw := gw_i 90 (by decide +kernel) (by decide +kernel)
theorem gfX0_18 : Cond.fieldLink RX0 18 "OreRailway$Car" "brake" "I" ∈ gw := gw_i 92 (by decide +kernel) (by decide +kernel)
theorem gfX0_21 : Cond.fieldLink RX0 21 "OreRailway$Car" "speed" "I" ∈ gw := gw_i 94 (by decide +kernel) (by decide +kernel)
theorem gfX0_24 : Cond.fieldLink RX0 24 "OreRailway$Car" "place" "I" ∈ gw := gw_i 97 (by decide +kernel) (by decide +kernel)
theorem gfX0_27 : Cond.fieldLink RX0 27 "OreRailway$Car" "heat" "I" ∈ gw := gw_i 100 (by decide +kernel) (by decide +kernel)
theorem gfX0_30 : Cond.fieldLink RX0 30 "OreRailway$Car" "delivered" "I" ∈ gw := gw_i 101 (by decide +kernel) (by decide +kernel)
theorem gfX0_33 : Cond.fieldLink RX0 33 "OreRailway$Car" "bumps" "I" ∈ gw := gw_i 104 (by decide +kernel) (by decide +kernel)
theorem gfX0_36 : Cond.fieldLink RX0 36 "OreRailway$Car" "greatestSpeed" "I" ∈ gw := gw_i 106 (by decide +kernel) (by decide +kernel)
theorem gfX1_11 : Cond.fieldLink RX1 11 "OreRailway$History" "saved" "[LOreRailway$State;" ∈ gw := gw_i 183 (by decide +kernel) (by decide +kernel)
theorem gfX1_18 : Cond.fieldLink RX1 18 "OreRailway$History" "next" "I" ∈ gw := gw_i 184 (by decide +kernel) (by decide +kernel)
theorem gfX1_26 : Cond.fieldLink RX1 26 "OreRailway$History" "size" "I" ∈ gw := gw_i 185 (by decide +kernel) (by decide +kernel)
theorem gfX2_9 : Cond.fieldLink RX2 9 "OreRailway$OrderText" "text" "[C" ∈ gw := gw_i 200 (by decide +kernel) (by decide +kernel)
theorem gfX2_15 : Cond.fieldLink RX2 15 "OreRailway$OrderText" "length" "I" ∈ gw := gw_i 201 (by decide +kernel) (by decide +kernel)
theorem gfX3_9 : Cond.fieldLink RX3 9 "OreRailway$State" "grades" "[I" ∈ gw := gw_i 128 (by decide +kernel) (by decide +kernel)
theorem gfX3_15 : Cond.fieldLink RX3 15 "OreRailway$State" "limits" "[I" ∈ gw := gw_i 130 (by decide +kernel) (by decide +kernel)
theorem gfX3_18 : Cond.fieldLink RX3 18 "OreRailway$State" "runaways" "[I" ∈ gw := gw_i 132 (by decide +kernel) (by decide +kernel)
theorem gfX3_21 : Cond.fieldLink RX3 21 "OreRailway$State" "settings" "[I" ∈ gw := gw_i 134 (by decide +kernel) (by decide +kernel)
theorem gfX3_26 : Cond.fieldLink RX3 26 "OreRailway$State" "cars" "[LOreRailway$Car;" ∈ gw := gw_i 136 (by decide +kernel) (by decide +kernel)
theorem gfX3_30 : Cond.fieldLink RX3 30 "OreRailway$State" "movers" "[I" ∈ gw := gw_i 138 (by decide +kernel) (by decide +kernel)
theorem gfX3_44 : Cond.fieldLink RX3 44 "OreRailway$State" "carCount" "I" ∈ gw := gw_i 139 (by decide +kernel) (by decide +kernel)
theorem gfX3_48 : Cond.fieldLink RX3 48 "OreRailway$State" "tick" "I" ∈ gw := gw_i 141 (by decide +kernel) (by decide +kernel)
theorem gfX3_51 : Cond.fieldLink RX3 51 "OreRailway$State" "loaded" "I" ∈ gw := gw_i 143 (by decide +kernel) (by decide +kernel)
theorem gfX3_54 : Cond.fieldLink RX3 54 "OreRailway$State" "delivered" "I" ∈ gw := gw_i 144 (by decide +kernel) (by decide +kernel)
theorem gfX3_57 : Cond.fieldLink RX3 57 "OreRailway$State" "spilled" "I" ∈ gw := gw_i 146 (by decide +kernel) (by decide +kernel)
theorem gfX3_60 : Cond.fieldLink RX3 60 "OreRailway$State" "refusals" "I" ∈ gw := gw_i 148 (by decide +kernel) (by decide +kernel)
theorem gfX3_67 : Cond.fieldLink RX3 67 "OreRailway$Car" "state" "I" ∈ gw := gw_i 88 (by decide +kernel) (by decide +kernel)
theorem gfX3_73 : Cond.fieldLink RX3 73 "OreRailway$Car" "ore" "I" ∈ gw := gw_i 91 (by decide +kernel) (by decide +kernel)
theorem gfX3_84 : Cond.fieldLink RX3 84 "OreRailway$Car" "brake" "I" ∈ gw := gw_i 93 (by decide +kernel) (by decide +kernel)
theorem gfX3_120 : Cond.fieldLink RX3 120 "OreRailway$Car" "place" "I" ∈ gw := gw_i 98 (by decide +kernel) (by decide +kernel)
theorem gfX3_135 : Cond.fieldLink RX3 135 "OreRailway$Car" "speed" "I" ∈ gw := gw_i 95 (by decide +kernel) (by decide +kernel)
theorem gfX3_157 : Cond.fieldLink RX3 157 "OreRailway$Car" "bumps" "I" ∈ gw := gw_i 105 (by decide +kernel) (by decide +kernel)
theorem gfX3_160 : Cond.fieldLink RX3 160 "OreRailway$Car" "delivered" "I" ∈ gw := gw_i 102 (by decide +kernel) (by decide +kernel)
theorem gfX4_10 : Cond.fieldLink RX4 10 "OreRailway" "now" "LOreRailway$State;" ∈ gw := gw_i 210 (by decide +kernel) (by decide +kernel)
theorem gfX4_16 : Cond.fieldLink RX4 16 "OreRailway" "trial" "LOreRailway$State;" ∈ gw := gw_i 211 (by decide +kernel) (by decide +kernel)
theorem gfX4_22 : Cond.fieldLink RX4 22 "OreRailway" "history" "LOreRailway$History;" ∈ gw := gw_i 212 (by decide +kernel) (by decide +kernel)
theorem gfX4_26 : Cond.fieldLink RX4 26 "OreRailway" "snapshots" "[LOreRailway$State;" ∈ gw := gw_i 213 (by decide +kernel) (by decide +kernel)
theorem gfX4_30 : Cond.fieldLink RX4 30 "OreRailway" "kept" "[Z" ∈ gw := gw_i 214 (by decide +kernel) (by decide +kernel)
theorem gfX4_37 : Cond.fieldLink RX4 37 "OreRailway" "orders" "LOreRailway$OrderText;" ∈ gw := gw_i 215 (by decide +kernel) (by decide +kernel)
theorem gfX4_56 : Cond.fieldLink RX4 56 "OreRailway$State" "grades" "[I" ∈ gw := gw_i 129 (by decide +kernel) (by decide +kernel)
theorem gfX4_60 : Cond.fieldLink RX4 60 "OreRailway$State" "limits" "[I" ∈ gw := gw_i 131 (by decide +kernel) (by decide +kernel)
theorem gfX4_70 : Cond.fieldLink RX4 70 "OreRailway$State" "carCount" "I" ∈ gw := gw_i 140 (by decide +kernel) (by decide +kernel)
theorem gfX4_108 : Cond.fieldLink RX4 108 "OreRailway$State" "settings" "[I" ∈ gw := gw_i 135 (by decide +kernel) (by decide +kernel)
theorem gfX4_111 : Cond.fieldLink RX4 111 "OreRailway$State" "delivered" "I" ∈ gw := gw_i 145 (by decide +kernel) (by decide +kernel)
theorem gfX4_122 : Cond.fieldLink RX4 122 "OreRailway$OrderText" "length" "I" ∈ gw := gw_i 202 (by decide +kernel) (by decide +kernel)
theorem gfX4_138 : Cond.fieldLink RX4 138 "OreRailway$History" "size" "I" ∈ gw := gw_i 186 (by decide +kernel) (by decide +kernel)
theorem gfX4_147 : Cond.fieldLink RX4 147 "OreRailway$State" "tick" "I" ∈ gw := gw_i 142 (by decide +kernel) (by decide +kernel)
theorem gfX4_153 : Cond.fieldLink RX4 153 "OreRailway$State" "runaways" "[I" ∈ gw := gw_i 133 (by decide +kernel) (by decide +kernel)
theorem gfX4_156 : Cond.fieldLink RX4 156 "OreRailway$State" "cars" "[LOreRailway$Car;" ∈ gw := gw_i 137 (by decide +kernel) (by decide +kernel)
theorem gfX4_168 : Cond.fieldLink RX4 168 "OreRailway$Car" "state" "I" ∈ gw := gw_i 89 (by decide +kernel) (by decide +kernel)
theorem gfX4_184 : Cond.fieldLink RX4 184 "OreRailway$Car" "delivered" "I" ∈ gw := gw_i 103 (by decide +kernel) (by decide +kernel)
theorem gfX4_185 : Cond.fieldLink RX4 185 "OreRailway$Car" "place" "I" ∈ gw := gw_i 99 (by decide +kernel) (by decide +kernel)
theorem gfX4_188 : Cond.fieldLink RX4 188 "OreRailway$Car" "greatestSpeed" "I" ∈ gw := gw_i 107 (by decide +kernel) (by decide +kernel)
theorem gfX4_191 : Cond.fieldLink RX4 191 "OreRailway$State" "spilled" "I" ∈ gw := gw_i 147 (by decide +kernel) (by decide +kernel)
theorem gfX4_197 : Cond.fieldLink RX4 197 "OreRailway$Car" "speed" "I" ∈ gw := gw_i 96 (by decide +kernel) (by decide +kernel)
theorem gfX5_7 : Cond.fieldLink RX5 7 "OreRailwayModel" "s" "[I" ∈ gw := gw_i 769 (by decide +kernel) (by decide +kernel)
theorem gfX5_13 : Cond.fieldLink RX5 13 "OreRailwayModel" "aside" "[I" ∈ gw := gw_i 770 (by decide +kernel) (by decide +kernel)
theorem gfX5_16 : Cond.fieldLink RX5 16 "OreRailwayModel" "past" "[I" ∈ gw := gw_i 771 (by decide +kernel) (by decide +kernel)
theorem gfX5_19 : Cond.fieldLink RX5 19 "OreRailwayModel" "shots" "[I" ∈ gw := gw_i 773 (by decide +kernel) (by decide +kernel)
theorem gfX5_22 : Cond.fieldLink RX5 22 "OreRailwayModel" "isKept" "[Z" ∈ gw := gw_i 774 (by decide +kernel) (by decide +kernel)
theorem gfX5_26 : Cond.fieldLink RX5 26 "OreRailwayModel" "text" "[I" ∈ gw := gw_i 775 (by decide +kernel) (by decide +kernel)
theorem gfX5_29 : Cond.fieldLink RX5 29 "OreRailwayModel" "turn" "[I" ∈ gw := gw_i 778 (by decide +kernel) (by decide +kernel)
theorem gfX5_32 : Cond.fieldLink RX5 32 "OreRailwayModel" "rolled" "[Z" ∈ gw := gw_i 779 (by decide +kernel) (by decide +kernel)
theorem gfX5_35 : Cond.fieldLink RX5 35 "OreRailwayModel" "thrown" "I" ∈ gw := gw_i 777 (by decide +kernel) (by decide +kernel)
theorem gfX5_47 : Cond.fieldLink RX5 47 "OreRailwayModel" "pasts" "I" ∈ gw := gw_i 772 (by decide +kernel) (by decide +kernel)
theorem gfX5_141 : Cond.fieldLink RX5 141 "OreRailwayModel" "length" "I" ∈ gw := gw_i 776 (by decide +kernel) (by decide +kernel)
theorem gfX5_144 : Cond.fieldLink RX5 144 "OreRailwayModel" "spot" "I" ∈ gw := gw_i 780 (by decide +kernel) (by decide +kernel)
theorem gfX5_147 : Cond.fieldLink RX5 147 "OreRailwayModel" "isWrong" "Z" ∈ gw := gw_i 781 (by decide +kernel) (by decide +kernel)
theorem gfX5_157 : Cond.fieldLink RX5 157 "OreRailwayModel" "letter" "I" ∈ gw := gw_i 782 (by decide +kernel) (by decide +kernel)
theorem gfX5_163 : Cond.fieldLink RX5 163 "OreRailwayModel" "first" "I" ∈ gw := gw_i 783 (by decide +kernel) (by decide +kernel)
theorem gfX5_169 : Cond.fieldLink RX5 169 "OreRailwayModel" "second" "I" ∈ gw := gw_i 784 (by decide +kernel) (by decide +kernel)
theorem gi_RL : Cond.initialized RL ∈ gw := gw_i 50 (by decide +kernel) (by decide +kernel)
theorem gi_RX4 : Cond.initialized RX4 ∈ gw := gw_i 51 (by decide +kernel) (by decide +kernel)
theorem gi_RX3 : Cond.initialized RX3 ∈ gw := gw_i 52 (by decide +kernel) (by decide +kernel)
theorem gi_RX0 : Cond.initialized RX0 ∈ gw := gw_i 53 (by decide +kernel) (by decide +kernel)
theorem gi_RX1 : Cond.initialized RX1 ∈ gw := gw_i 54 (by decide +kernel) (by decide +kernel)
theorem gi_RX2 : Cond.initialized RX2 ∈ gw := gw_i 55 (by decide +kernel) (by decide +kernel)
theorem gi_RX5 : Cond.initialized RX5 ∈ gw := gw_i 56 (by decide +kernel) (by decide +kernel)
theorem gi_java_lang_Throwable : Cond.initialized "java/lang/Throwable" ∈ gw := gw_i 57 (by decide +kernel) (by decide +kernel)
theorem gi_java_lang_Exception : Cond.initialized "java/lang/Exception" ∈ gw := gw_i 58 (by decide +kernel) (by decide +kernel)
theorem gi_java_lang_RuntimeException : Cond.initialized "java/lang/RuntimeException" ∈ gw := gw_i 59 (by decide +kernel) (by decide +kernel)
theorem gi_java_lang_IndexOutOfBoundsException : Cond.initialized "java/lang/IndexOutOfBoundsException" ∈ gw := gw_i 60 (by decide +kernel) (by decide +kernel)
theorem gi_java_lang_IllegalArgumentException : Cond.initialized "java/lang/IllegalArgumentException" ∈ gw := gw_i 61 (by decide +kernel) (by decide +kernel)
theorem gi_RJ10 : Cond.initialized RJ10 ∈ gw := gw_i 62 (by decide +kernel) (by decide +kernel)
theorem gi_RJ9 : Cond.initialized RJ9 ∈ gw := gw_i 63 (by decide +kernel) (by decide +kernel)
theorem gi_java_lang_IllegalStateException : Cond.initialized "java/lang/IllegalStateException" ∈ gw := gw_i 64 (by decide +kernel) (by decide +kernel)
theorem gi_RJ6 : Cond.initialized RJ6 ∈ gw := gw_i 65 (by decide +kernel) (by decide +kernel)
theorem gclL_8 : Cond.classLink RL 8 RX4 ∈ gw := gw_i 66 (by decide +kernel) (by decide +kernel)
theorem gx_RX4 : Cond.instantiable RX4 6 ∈ gw := gw_i 67 (by decide +kernel) (by decide +kernel)
theorem gmX4_1 : Cond.methodLink RX4 1 objectInit ∈ gw := gw_i 71 (by decide +kernel) (by decide +kernel)
theorem gl_instanceMethod_objectInit : Cond.instanceMethod objectInit ∈ gw := gw_i 72 (by decide +kernel) (by decide +kernel)
theorem gl_code_objectInit : Cond.code objectInit ⟨#[0xb1]⟩ 1 none ∈ gw := gw_i 73 (by decide +kernel) (by decide +kernel)
theorem gclX4_7 : Cond.classLink RX4 7 RX3 ∈ gw := gw_i 74 (by decide +kernel) (by decide +kernel)
theorem gx_RX3 : Cond.instantiable RX3 12 ∈ gw := gw_i 75 (by decide +kernel) (by decide +kernel)
theorem gmX3_3 : Cond.methodLink RX3 3 objectInit ∈ gw := gw_i 79 (by decide +kernel) (by decide +kernel)
theorem gclX3_24 : Cond.classLink RX3 24 RX0 ∈ gw := gw_i 80 (by decide +kernel) (by decide +kernel)
theorem go_RX0 : Cond.arrayOver (.object RX0) ∈ gw := gw_i 81 (by decide +kernel) (by decide +kernel)
theorem gx_RX0 : Cond.instantiable RX0 9 ∈ gw := gw_i 82 (by decide +kernel) (by decide +kernel)
theorem gmX0_3 : Cond.methodLink RX0 3 objectInit ∈ gw := gw_i 86 (by decide +kernel) (by decide +kernel)
theorem ga_int : Cond.arrayClass .int ∈ gw := gw_i 127 (by decide +kernel) (by decide +kernel)
theorem gclX4_19 : Cond.classLink RX4 19 RX1 ∈ gw := gw_i 174 (by decide +kernel) (by decide +kernel)
theorem gx_RX1 : Cond.instantiable RX1 3 ∈ gw := gw_i 175 (by decide +kernel) (by decide +kernel)
theorem gmX1_3 : Cond.methodLink RX1 3 objectInit ∈ gw := gw_i 179 (by decide +kernel) (by decide +kernel)
theorem gclX1_9 : Cond.classLink RX1 9 RX3 ∈ gw := gw_i 180 (by decide +kernel) (by decide +kernel)
theorem go_RX3 : Cond.arrayOver (.object RX3) ∈ gw := gw_i 181 (by decide +kernel) (by decide +kernel)
theorem gclX4_34 : Cond.classLink RX4 34 RX2 ∈ gw := gw_i 194 (by decide +kernel) (by decide +kernel)
theorem gx_RX2 : Cond.instantiable RX2 2 ∈ gw := gw_i 195 (by decide +kernel) (by decide +kernel)
theorem gmX2_3 : Cond.methodLink RX2 3 objectInit ∈ gw := gw_i 199 (by decide +kernel) (by decide +kernel)
theorem ga_boolean : Cond.arrayClass .boolean ∈ gw := gw_i 208 (by decide +kernel) (by decide +kernel)
theorem ga_char : Cond.arrayClass .char ∈ gw := gw_i 209 (by decide +kernel) (by decide +kernel)
theorem gclL_13 : Cond.classLink RL 13 "java/lang/IndexOutOfBoundsException" ∈ gw := gw_i 267 (by decide +kernel) (by decide +kernel)
theorem gclL_15 : Cond.classLink RL 15 "java/lang/IllegalArgumentException" ∈ gw := gw_i 268 (by decide +kernel) (by decide +kernel)
theorem gclX4_200 : Cond.classLink RX4 200 "java/lang/IndexOutOfBoundsException" ∈ gw := gw_i 276 (by decide +kernel) (by decide +kernel)
theorem gx_java_lang_IndexOutOfBoundsException : Cond.instantiable "java/lang/IndexOutOfBoundsException" 6 ∈ gw := gw_i 277 (by decide +kernel) (by decide +kernel)
theorem gt_IndexOutOfBoundsException : Cond.castable "java/lang/IndexOutOfBoundsException" "java/lang/IndexOutOfBoundsException" ∈ gw := gw_i 278 (by decide +kernel) (by decide +kernel)
theorem gx_java_lang_Throwable : Cond.instantiable "java/lang/Throwable" 6 ∈ gw := gw_i 315 (by decide +kernel) (by decide +kernel)
theorem ga_byte : Cond.arrayClass .byte ∈ gw := gw_i 343 (by decide +kernel) (by decide +kernel)
theorem gclX4_207 : Cond.classLink RX4 207 "java/lang/IllegalArgumentException" ∈ gw := gw_i 350 (by decide +kernel) (by decide +kernel)
theorem gx_java_lang_IllegalArgumentException : Cond.instantiable "java/lang/IllegalArgumentException" 6 ∈ gw := gw_i 351 (by decide +kernel) (by decide +kernel)
theorem gt_IllegalArgumentException : Cond.castable "java/lang/IllegalArgumentException" "java/lang/IllegalArgumentException" ∈ gw := gw_i 352 (by decide +kernel) (by decide +kernel)
theorem gmX3_34 : Cond.methodLink RX3 34 arraycopyName ∈ gw := gw_i 374 (by decide +kernel) (by decide +kernel)
theorem gl_static_arraycopyName : Cond.static arraycopyName ∈ gw := gw_i 375 (by decide +kernel) (by decide +kernel)
theorem gl_native_arraycopyName : Cond.native arraycopyName ∈ gw := gw_i 376 (by decide +kernel) (by decide +kernel)
theorem gmX1_29 : Cond.methodLink RX1 29 Lib.Math.min.name ∈ gw := gw_i 381 (by decide +kernel) (by decide +kernel)
theorem gl_static_Lib_Math_min_name : Cond.static Lib.Math.min.name ∈ gw := gw_i 382 (by decide +kernel) (by decide +kernel)
theorem gl_code_Lib_Math_min_name : Cond.code Lib.Math.min.name Lib.Math.min.code 2 (some .int) ∈ gw := gw_i 383 (by decide +kernel) (by decide +kernel)
theorem gclL_20 : Cond.classLink RL 20 "java/lang/IllegalStateException" ∈ gw := gw_i 387 (by decide +kernel) (by decide +kernel)
theorem gclX4_212 : Cond.classLink RX4 212 "java/lang/IllegalStateException" ∈ gw := gw_i 399 (by decide +kernel) (by decide +kernel)
theorem gx_java_lang_IllegalStateException : Cond.instantiable "java/lang/IllegalStateException" 6 ∈ gw := gw_i 400 (by decide +kernel) (by decide +kernel)
theorem gt_IllegalStateException : Cond.castable "java/lang/IllegalStateException" "java/lang/IllegalStateException" ∈ gw := gw_i 401 (by decide +kernel) (by decide +kernel)
theorem gkJ6_265 : Cond.constant RJ6 265 (1431655765) ∈ gw := gw_i 510 (by decide +kernel) (by decide +kernel)
theorem gkJ6_266 : Cond.constant RJ6 266 (858993459) ∈ gw := gw_i 511 (by decide +kernel) (by decide +kernel)
theorem gkJ6_267 : Cond.constant RJ6 267 (252645135) ∈ gw := gw_i 512 (by decide +kernel) (by decide +kernel)
theorem gmX3_149 : Cond.methodLink RX3 149 Lib.Math.max.name ∈ gw := gw_i 513 (by decide +kernel) (by decide +kernel)
theorem gl_static_Lib_Math_max_name : Cond.static Lib.Math.max.name ∈ gw := gw_i 514 (by decide +kernel) (by decide +kernel)
theorem gl_code_Lib_Math_max_name : Cond.code Lib.Math.max.name Lib.Math.max.code 2 (some .int) ∈ gw := gw_i 515 (by decide +kernel) (by decide +kernel)
theorem gmX0_43 : Cond.methodLink RX0 43 Lib.Math.min.name ∈ gw := gw_i 572 (by decide +kernel) (by decide +kernel)
theorem gmX0_49 : Cond.methodLink RX0 49 Lib.Math.max.name ∈ gw := gw_i 573 (by decide +kernel) (by decide +kernel)
theorem gmX3_154 : Cond.methodLink RX3 154 Lib.Math.min.name ∈ gw := gw_i 590 (by decide +kernel) (by decide +kernel)
theorem gclL_90 : Cond.classLink RL 90 RX5 ∈ gw := gw_i 763 (by decide +kernel) (by decide +kernel)
theorem gx_RX5 : Cond.instantiable RX5 16 ∈ gw := gw_i 764 (by decide +kernel) (by decide +kernel)
theorem gmX5_1 : Cond.methodLink RX5 1 objectInit ∈ gw := gw_i 768 (by decide +kernel) (by decide +kernel)
theorem ga_long : Cond.arrayClass .long ∈ gw := gw_i 1092 (by decide +kernel) (by decide +kernel)
theorem gc_X0_init : Cond.code yX0_init cX0_init 1 none ∈ gw := gw_i 85 (by decide +kernel) (by decide +kernel)
def uX0_init : List Cond := Cond.code yX0_init cX0_init 1 none :: gw
theorem gn_X0_init : Cond.instanceMethod yX0_init ∈ gw := gw_i 84 (by decide +kernel) (by decide +kernel)
theorem gc_X0_copyFrom : Cond.code yX0_copyFrom cX0_copyFrom 2 none ∈ gw := gw_i 380 (by decide +kernel) (by decide +kernel)
def uX0_copyFrom : List Cond := Cond.code yX0_copyFrom cX0_copyFrom 2 none :: gw
theorem gn_X0_copyFrom : Cond.instanceMethod yX0_copyFrom ∈ gw := gw_i 378 (by decide +kernel) (by decide +kernel)
theorem ge_X0_copyFrom : Cond.selects RX0 yX0_copyFrom yX0_copyFrom ∈ gw := gw_i 379 (by decide +kernel) (by decide +kernel)
theorem gc_X0_makeNew : Cond.code yX0_makeNew cX0_makeNew 1 none ∈ gw := gw_i 429 (by decide +kernel) (by decide +kernel)
def uX0_makeNew : List Cond := Cond.code yX0_makeNew cX0_makeNew 1 none :: gw
theorem gn_X0_makeNew : Cond.instanceMethod yX0_makeNew ∈ gw := gw_i 427 (by decide +kernel) (by decide +kernel)
theorem ge_X0_makeNew : Cond.selects RX0 yX0_makeNew yX0_makeNew ∈ gw := gw_i 428 (by decide +kernel) (by decide +kernel)
theorem gc_X0_force : Cond.code yX0_force cX0_force 1 (some .int) ∈ gw := gw_i 571 (by decide +kernel) (by decide +kernel)
def uX0_force : List Cond := Cond.code yX0_force cX0_force 1 (some .int) :: gw
theorem gn_X0_force : Cond.instanceMethod yX0_force ∈ gw := gw_i 569 (by decide +kernel) (by decide +kernel)
theorem ge_X0_force : Cond.selects RX0 yX0_force yX0_force ∈ gw := gw_i 570 (by decide +kernel) (by decide +kernel)
theorem gc_X0_changeSpeed : Cond.code yX0_changeSpeed cX0_changeSpeed 3 none ∈ gw := gw_i 567 (by decide +kernel) (by decide +kernel)
def uX0_changeSpeed : List Cond := Cond.code yX0_changeSpeed cX0_changeSpeed 3 none :: gw
theorem gn_X0_changeSpeed : Cond.instanceMethod yX0_changeSpeed ∈ gw := gw_i 565 (by decide +kernel) (by decide +kernel)
theorem ge_X0_changeSpeed : Cond.selects RX0 yX0_changeSpeed yX0_changeSpeed ∈ gw := gw_i 566 (by decide +kernel) (by decide +kernel)
theorem gc_X0_coolDown : Cond.code yX0_coolDown cX0_coolDown 1 none ∈ gw := gw_i 581 (by decide +kernel) (by decide +kernel)
def uX0_coolDown : List Cond := Cond.code yX0_coolDown cX0_coolDown 1 none :: gw
theorem gn_X0_coolDown : Cond.instanceMethod yX0_coolDown ∈ gw := gw_i 579 (by decide +kernel) (by decide +kernel)
theorem ge_X0_coolDown : Cond.selects RX0 yX0_coolDown yX0_coolDown ∈ gw := gw_i 580 (by decide +kernel) (by decide +kernel)
theorem gc_X0_changeHeat : Cond.code yX0_changeHeat cX0_changeHeat 1 none ∈ gw := gw_i 577 (by decide +kernel) (by decide +kernel)
def uX0_changeHeat : List Cond := Cond.code yX0_changeHeat cX0_changeHeat 1 none :: gw
theorem gn_X0_changeHeat : Cond.instanceMethod yX0_changeHeat ∈ gw := gw_i 575 (by decide +kernel) (by decide +kernel)
theorem ge_X0_changeHeat : Cond.selects RX0 yX0_changeHeat yX0_changeHeat ∈ gw := gw_i 576 (by decide +kernel) (by decide +kernel)
theorem gc_X0_number : Cond.code yX0_number cX0_number 2 (some .int) ∈ gw := gw_i 687 (by decide +kernel) (by decide +kernel)
def uX0_number : List Cond := Cond.code yX0_number cX0_number 2 (some .int) :: gw
theorem gn_X0_number : Cond.instanceMethod yX0_number ∈ gw := gw_i 685 (by decide +kernel) (by decide +kernel)
theorem ge_X0_number : Cond.selects RX0 yX0_number yX0_number ∈ gw := gw_i 686 (by decide +kernel) (by decide +kernel)
theorem gc_X3_init : Cond.code yX3_init cX3_init 2 none ∈ gw := gw_i 78 (by decide +kernel) (by decide +kernel)
def uX3_init : List Cond := Cond.code yX3_init cX3_init 2 none :: gw
theorem gn_X3_init : Cond.instanceMethod yX3_init ∈ gw := gw_i 77 (by decide +kernel) (by decide +kernel)
theorem gc_X1_init : Cond.code yX1_init cX1_init 2 none ∈ gw := gw_i 178 (by decide +kernel) (by decide +kernel)
def uX1_init : List Cond := Cond.code yX1_init cX1_init 2 none :: gw
theorem gn_X1_init : Cond.instanceMethod yX1_init ∈ gw := gw_i 177 (by decide +kernel) (by decide +kernel)
theorem gc_X3_copyFrom : Cond.code yX3_copyFrom cX3_copyFrom 3 none ∈ gw := gw_i 373 (by decide +kernel) (by decide +kernel)
def uX3_copyFrom : List Cond := Cond.code yX3_copyFrom cX3_copyFrom 3 none :: gw
theorem gn_X3_copyFrom : Cond.instanceMethod yX3_copyFrom ∈ gw := gw_i 371 (by decide +kernel) (by decide +kernel)
theorem ge_X3_copyFrom : Cond.selects RX3 yX3_copyFrom yX3_copyFrom ∈ gw := gw_i 372 (by decide +kernel) (by decide +kernel)
theorem gc_X1_push : Cond.code yX1_push cX1_push 2 none ∈ gw := gw_i 369 (by decide +kernel) (by decide +kernel)
def uX1_push : List Cond := Cond.code yX1_push cX1_push 2 none :: gw
theorem gn_X1_push : Cond.instanceMethod yX1_push ∈ gw := gw_i 367 (by decide +kernel) (by decide +kernel)
theorem ge_X1_push : Cond.selects RX1 yX1_push yX1_push ∈ gw := gw_i 368 (by decide +kernel) (by decide +kernel)
theorem gc_X1_popInto : Cond.code yX1_popInto cX1_popInto 2 none ∈ gw := gw_i 653 (by decide +kernel) (by decide +kernel)
def uX1_popInto : List Cond := Cond.code yX1_popInto cX1_popInto 2 none :: gw
theorem gn_X1_popInto : Cond.instanceMethod yX1_popInto ∈ gw := gw_i 651 (by decide +kernel) (by decide +kernel)
theorem ge_X1_popInto : Cond.selects RX1 yX1_popInto yX1_popInto ∈ gw := gw_i 652 (by decide +kernel) (by decide +kernel)
theorem gc_X2_init : Cond.code yX2_init cX2_init 1 none ∈ gw := gw_i 198 (by decide +kernel) (by decide +kernel)
def uX2_init : List Cond := Cond.code yX2_init cX2_init 1 none :: gw
theorem gn_X2_init : Cond.instanceMethod yX2_init ∈ gw := gw_i 197 (by decide +kernel) (by decide +kernel)
theorem gc_X2_addSign : Cond.code yX2_addSign cX2_addSign 2 (some .boolean) ∈ gw := gw_i 614 (by decide +kernel) (by decide +kernel)
def uX2_addSign : List Cond := Cond.code yX2_addSign cX2_addSign 2 (some .boolean) :: gw
theorem gn_X2_addSign : Cond.instanceMethod yX2_addSign ∈ gw := gw_i 612 (by decide +kernel) (by decide +kernel)
theorem ge_X2_addSign : Cond.selects RX2 yX2_addSign yX2_addSign ∈ gw := gw_i 613 (by decide +kernel) (by decide +kernel)
theorem gc_X2_signAt : Cond.code yX2_signAt cX2_signAt 2 (some .char) ∈ gw := gw_i 244 (by decide +kernel) (by decide +kernel)
def uX2_signAt : List Cond := Cond.code yX2_signAt cX2_signAt 2 (some .char) :: gw
theorem gn_X2_signAt : Cond.instanceMethod yX2_signAt ∈ gw := gw_i 242 (by decide +kernel) (by decide +kernel)
theorem ge_X2_signAt : Cond.selects RX2 yX2_signAt yX2_signAt ∈ gw := gw_i 243 (by decide +kernel) (by decide +kernel)
theorem gc_X2_dueAfterLetter : Cond.code yX2_dueAfterLetter cX2_dueAfterLetter 1 (some .int) ∈ gw := gw_i 250 (by decide +kernel) (by decide +kernel)
def uX2_dueAfterLetter : List Cond := Cond.code yX2_dueAfterLetter cX2_dueAfterLetter 1 (some .int) :: gw
theorem gs_X2_dueAfterLetter : Cond.static yX2_dueAfterLetter ∈ gw := gw_i 249 (by decide +kernel) (by decide +kernel)
theorem gc_X2_isDigit : Cond.code yX2_isDigit cX2_isDigit 3 (some .boolean) ∈ gw := gw_i 253 (by decide +kernel) (by decide +kernel)
def uX2_isDigit : List Cond := Cond.code yX2_isDigit cX2_isDigit 3 (some .boolean) :: gw
theorem gs_X2_isDigit : Cond.static yX2_isDigit ∈ gw := gw_i 252 (by decide +kernel) (by decide +kernel)
theorem gc_X2_dueAfterFirstDigit : Cond.code yX2_dueAfterFirstDigit cX2_dueAfterFirstDigit 2 (some .int) ∈ gw := gw_i 256 (by decide +kernel) (by decide +kernel)
def uX2_dueAfterFirstDigit : List Cond := Cond.code yX2_dueAfterFirstDigit cX2_dueAfterFirstDigit 2 (some .int) :: gw
theorem gs_X2_dueAfterFirstDigit : Cond.static yX2_dueAfterFirstDigit ∈ gw := gw_i 255 (by decide +kernel) (by decide +kernel)
theorem gc_X2_dueAfterEnd : Cond.code yX2_dueAfterEnd cX2_dueAfterEnd 3 (some .int) ∈ gw := gw_i 259 (by decide +kernel) (by decide +kernel)
def uX2_dueAfterEnd : List Cond := Cond.code yX2_dueAfterEnd cX2_dueAfterEnd 3 (some .int) :: gw
theorem gs_X2_dueAfterEnd : Cond.static yX2_dueAfterEnd ∈ gw := gw_i 258 (by decide +kernel) (by decide +kernel)
theorem gc_X2_dueAfter : Cond.code yX2_dueAfter cX2_dueAfter 2 (some .int) ∈ gw := gw_i 247 (by decide +kernel) (by decide +kernel)
def uX2_dueAfter : List Cond := Cond.code yX2_dueAfter cX2_dueAfter 2 (some .int) :: gw
theorem gs_X2_dueAfter : Cond.static yX2_dueAfter ∈ gw := gw_i 246 (by decide +kernel) (by decide +kernel)
theorem gc_X2_errorIndex : Cond.code yX2_errorIndex cX2_errorIndex 3 (some .int) ∈ gw := gw_i 240 (by decide +kernel) (by decide +kernel)
def uX2_errorIndex : List Cond := Cond.code yX2_errorIndex cX2_errorIndex 3 (some .int) :: gw
theorem gn_X2_errorIndex : Cond.instanceMethod yX2_errorIndex ∈ gw := gw_i 238 (by decide +kernel) (by decide +kernel)
theorem ge_X2_errorIndex : Cond.selects RX2 yX2_errorIndex yX2_errorIndex ∈ gw := gw_i 239 (by decide +kernel) (by decide +kernel)
theorem gc_X2_isComplete : Cond.code yX2_isComplete cX2_isComplete 3 (some .boolean) ∈ gw := gw_i 625 (by decide +kernel) (by decide +kernel)
def uX2_isComplete : List Cond := Cond.code yX2_isComplete cX2_isComplete 3 (some .boolean) :: gw
theorem gn_X2_isComplete : Cond.instanceMethod yX2_isComplete ∈ gw := gw_i 623 (by decide +kernel) (by decide +kernel)
theorem ge_X2_isComplete : Cond.selects RX2 yX2_isComplete yX2_isComplete ∈ gw := gw_i 624 (by decide +kernel) (by decide +kernel)
theorem gc_X2_isOrderEnd : Cond.code yX2_isOrderEnd cX2_isOrderEnd 2 (some .boolean) ∈ gw := gw_i 629 (by decide +kernel) (by decide +kernel)
def uX2_isOrderEnd : List Cond := Cond.code yX2_isOrderEnd cX2_isOrderEnd 2 (some .boolean) :: gw
theorem gn_X2_isOrderEnd : Cond.instanceMethod yX2_isOrderEnd ∈ gw := gw_i 627 (by decide +kernel) (by decide +kernel)
theorem ge_X2_isOrderEnd : Cond.selects RX2 yX2_isOrderEnd yX2_isOrderEnd ∈ gw := gw_i 628 (by decide +kernel) (by decide +kernel)
theorem gc_X2_numberAt : Cond.code yX2_numberAt cX2_numberAt 5 (some .int) ∈ gw := gw_i 638 (by decide +kernel) (by decide +kernel)
def uX2_numberAt : List Cond := Cond.code yX2_numberAt cX2_numberAt 5 (some .int) :: gw
theorem gn_X2_numberAt : Cond.instanceMethod yX2_numberAt ∈ gw := gw_i 636 (by decide +kernel) (by decide +kernel)
theorem ge_X2_numberAt : Cond.selects RX2 yX2_numberAt yX2_numberAt ∈ gw := gw_i 637 (by decide +kernel) (by decide +kernel)
theorem gc_X3_hasCar : Cond.code yX3_hasCar cX3_hasCar 2 (some .boolean) ∈ gw := gw_i 440 (by decide +kernel) (by decide +kernel)
def uX3_hasCar : List Cond := Cond.code yX3_hasCar cX3_hasCar 2 (some .boolean) :: gw
theorem gn_X3_hasCar : Cond.instanceMethod yX3_hasCar ∈ gw := gw_i 438 (by decide +kernel) (by decide +kernel)
theorem ge_X3_hasCar : Cond.selects RX3 yX3_hasCar yX3_hasCar ∈ gw := gw_i 439 (by decide +kernel) (by decide +kernel)
theorem gc_X3_isRolling : Cond.code yX3_isRolling cX3_isRolling 2 (some .boolean) ∈ gw := gw_i 479 (by decide +kernel) (by decide +kernel)
def uX3_isRolling : List Cond := Cond.code yX3_isRolling cX3_isRolling 2 (some .boolean) :: gw
theorem gn_X3_isRolling : Cond.instanceMethod yX3_isRolling ∈ gw := gw_i 477 (by decide +kernel) (by decide +kernel)
theorem ge_X3_isRolling : Cond.selects RX3 yX3_isRolling yX3_isRolling ∈ gw := gw_i 478 (by decide +kernel) (by decide +kernel)
theorem gc_X3_addCar : Cond.code yX3_addCar cX3_addCar 1 (some .int) ∈ gw := gw_i 425 (by decide +kernel) (by decide +kernel)
def uX3_addCar : List Cond := Cond.code yX3_addCar cX3_addCar 1 (some .int) :: gw
theorem gn_X3_addCar : Cond.instanceMethod yX3_addCar ∈ gw := gw_i 423 (by decide +kernel) (by decide +kernel)
theorem ge_X3_addCar : Cond.selects RX3 yX3_addCar yX3_addCar ∈ gw := gw_i 424 (by decide +kernel) (by decide +kernel)
theorem gc_X3_canLoad : Cond.code yX3_canLoad cX3_canLoad 3 (some .boolean) ∈ gw := gw_i 444 (by decide +kernel) (by decide +kernel)
def uX3_canLoad : List Cond := Cond.code yX3_canLoad cX3_canLoad 3 (some .boolean) :: gw
theorem gn_X3_canLoad : Cond.instanceMethod yX3_canLoad ∈ gw := gw_i 442 (by decide +kernel) (by decide +kernel)
theorem ge_X3_canLoad : Cond.selects RX3 yX3_canLoad yX3_canLoad ∈ gw := gw_i 443 (by decide +kernel) (by decide +kernel)
theorem gc_X3_addOre : Cond.code yX3_addOre cX3_addOre 3 (some .int) ∈ gw := gw_i 449 (by decide +kernel) (by decide +kernel)
def uX3_addOre : List Cond := Cond.code yX3_addOre cX3_addOre 3 (some .int) :: gw
theorem gn_X3_addOre : Cond.instanceMethod yX3_addOre ∈ gw := gw_i 447 (by decide +kernel) (by decide +kernel)
theorem ge_X3_addOre : Cond.selects RX3 yX3_addOre yX3_addOre ∈ gw := gw_i 448 (by decide +kernel) (by decide +kernel)
theorem gc_X3_carsInSection : Cond.code yX3_carsInSection cX3_carsInSection 5 (some .int) ∈ gw := gw_i 468 (by decide +kernel) (by decide +kernel)
def uX3_carsInSection : List Cond := Cond.code yX3_carsInSection cX3_carsInSection 5 (some .int) :: gw
theorem gn_X3_carsInSection : Cond.instanceMethod yX3_carsInSection ∈ gw := gw_i 466 (by decide +kernel) (by decide +kernel)
theorem ge_X3_carsInSection : Cond.selects RX3 yX3_carsInSection yX3_carsInSection ∈ gw := gw_i 467 (by decide +kernel) (by decide +kernel)
theorem gc_X3_releaseRefusal : Cond.code yX3_releaseRefusal cX3_releaseRefusal 2 (some .int) ∈ gw := gw_i 464 (by decide +kernel) (by decide +kernel)
def uX3_releaseRefusal : List Cond := Cond.code yX3_releaseRefusal cX3_releaseRefusal 2 (some .int) :: gw
theorem gn_X3_releaseRefusal : Cond.instanceMethod yX3_releaseRefusal ∈ gw := gw_i 462 (by decide +kernel) (by decide +kernel)
theorem ge_X3_releaseRefusal : Cond.selects RX3 yX3_releaseRefusal yX3_releaseRefusal ∈ gw := gw_i 463 (by decide +kernel) (by decide +kernel)
theorem gc_X3_letRoll : Cond.code yX3_letRoll cX3_letRoll 4 (some .int) ∈ gw := gw_i 460 (by decide +kernel) (by decide +kernel)
def uX3_letRoll : List Cond := Cond.code yX3_letRoll cX3_letRoll 4 (some .int) :: gw
theorem gn_X3_letRoll : Cond.instanceMethod yX3_letRoll ∈ gw := gw_i 458 (by decide +kernel) (by decide +kernel)
theorem ge_X3_letRoll : Cond.selects RX3 yX3_letRoll yX3_letRoll ∈ gw := gw_i 459 (by decide +kernel) (by decide +kernel)
theorem gc_X3_changeBrake : Cond.code yX3_changeBrake cX3_changeBrake 4 (some .int) ∈ gw := gw_i 483 (by decide +kernel) (by decide +kernel)
def uX3_changeBrake : List Cond := Cond.code yX3_changeBrake cX3_changeBrake 4 (some .int) :: gw
theorem gn_X3_changeBrake : Cond.instanceMethod yX3_changeBrake ∈ gw := gw_i 481 (by decide +kernel) (by decide +kernel)
theorem ge_X3_changeBrake : Cond.selects RX3 yX3_changeBrake yX3_changeBrake ∈ gw := gw_i 482 (by decide +kernel) (by decide +kernel)
theorem gc_X3_carsInState : Cond.code yX3_carsInState cX3_carsInState 4 (some .int) ∈ gw := gw_i 506 (by decide +kernel) (by decide +kernel)
def uX3_carsInState : List Cond := Cond.code yX3_carsInState cX3_carsInState 4 (some .int) :: gw
theorem gn_X3_carsInState : Cond.instanceMethod yX3_carsInState ∈ gw := gw_i 504 (by decide +kernel) (by decide +kernel)
theorem ge_X3_carsInState : Cond.selects RX3 yX3_carsInState yX3_carsInState ∈ gw := gw_i 505 (by decide +kernel) (by decide +kernel)
theorem gc_J6_bitCount_0f7a4 : Cond.code yJ6_bitCount_0f7a4 cJ6_bitCount_0f7a4 1 (some .int) ∈ gw := gw_i 509 (by decide +kernel) (by decide +kernel)
def uJ6_bitCount_0f7a4 : List Cond := Cond.code yJ6_bitCount_0f7a4 cJ6_bitCount_0f7a4 1 (some .int) :: gw
theorem gs_J6_bitCount_0f7a4 : Cond.static yJ6_bitCount_0f7a4 ∈ gw := gw_i 508 (by decide +kernel) (by decide +kernel)
theorem gc_X3_freeMules : Cond.code yX3_freeMules cX3_freeMules 1 (some .int) ∈ gw := gw_i 502 (by decide +kernel) (by decide +kernel)
def uX3_freeMules : List Cond := Cond.code yX3_freeMules cX3_freeMules 1 (some .int) :: gw
theorem gn_X3_freeMules : Cond.instanceMethod yX3_freeMules ∈ gw := gw_i 500 (by decide +kernel) (by decide +kernel)
theorem ge_X3_freeMules : Cond.selects RX3 yX3_freeMules yX3_freeMules ∈ gw := gw_i 501 (by decide +kernel) (by decide +kernel)
theorem gc_X3_pullRefusal : Cond.code yX3_pullRefusal cX3_pullRefusal 3 (some .int) ∈ gw := gw_i 498 (by decide +kernel) (by decide +kernel)
def uX3_pullRefusal : List Cond := Cond.code yX3_pullRefusal cX3_pullRefusal 3 (some .int) :: gw
theorem gn_X3_pullRefusal : Cond.instanceMethod yX3_pullRefusal ∈ gw := gw_i 496 (by decide +kernel) (by decide +kernel)
theorem ge_X3_pullRefusal : Cond.selects RX3 yX3_pullRefusal yX3_pullRefusal ∈ gw := gw_i 497 (by decide +kernel) (by decide +kernel)
theorem gc_X3_harnessMule : Cond.code yX3_harnessMule cX3_harnessMule 3 (some .int) ∈ gw := gw_i 494 (by decide +kernel) (by decide +kernel)
def uX3_harnessMule : List Cond := Cond.code yX3_harnessMule cX3_harnessMule 3 (some .int) :: gw
theorem gn_X3_harnessMule : Cond.instanceMethod yX3_harnessMule ∈ gw := gw_i 492 (by decide +kernel) (by decide +kernel)
theorem ge_X3_harnessMule : Cond.selects RX3 yX3_harnessMule yX3_harnessMule ∈ gw := gw_i 493 (by decide +kernel) (by decide +kernel)
theorem gc_X3_leaveOneCar : Cond.code yX3_leaveOneCar cX3_leaveOneCar 3 none ∈ gw := gw_i 743 (by decide +kernel) (by decide +kernel)
def uX3_leaveOneCar : List Cond := Cond.code yX3_leaveOneCar cX3_leaveOneCar 3 none :: gw
theorem gn_X3_leaveOneCar : Cond.instanceMethod yX3_leaveOneCar ∈ gw := gw_i 741 (by decide +kernel) (by decide +kernel)
theorem ge_X3_leaveOneCar : Cond.selects RX3 yX3_leaveOneCar yX3_leaveOneCar ∈ gw := gw_i 742 (by decide +kernel) (by decide +kernel)
theorem gc_X3_isBefore : Cond.code yX3_isBefore cX3_isBefore 4 (some .boolean) ∈ gw := gw_i 555 (by decide +kernel) (by decide +kernel)
def uX3_isBefore : List Cond := Cond.code yX3_isBefore cX3_isBefore 4 (some .boolean) :: gw
theorem gn_X3_isBefore : Cond.instanceMethod yX3_isBefore ∈ gw := gw_i 554 (by decide +kernel) (by decide +kernel)
theorem ge_X3_isBefore : Cond.selects RX3 yX3_isBefore yX3_isBefore ∈ gw := gw_i 2 (by decide +kernel) (by decide +kernel)
theorem gc_X3_rankOf : Cond.code yX3_rankOf cX3_rankOf 4 (some .int) ∈ gw := gw_i 551 (by decide +kernel) (by decide +kernel)
def uX3_rankOf : List Cond := Cond.code yX3_rankOf cX3_rankOf 4 (some .int) :: gw
theorem gn_X3_rankOf : Cond.instanceMethod yX3_rankOf ∈ gw := gw_i 549 (by decide +kernel) (by decide +kernel)
theorem ge_X3_rankOf : Cond.selects RX3 yX3_rankOf yX3_rankOf ∈ gw := gw_i 550 (by decide +kernel) (by decide +kernel)
theorem gc_X3_lineUp : Cond.code yX3_lineUp cX3_lineUp 3 none ∈ gw := gw_i 547 (by decide +kernel) (by decide +kernel)
def uX3_lineUp : List Cond := Cond.code yX3_lineUp cX3_lineUp 3 none :: gw
theorem gn_X3_lineUp : Cond.instanceMethod yX3_lineUp ∈ gw := gw_i 546 (by decide +kernel) (by decide +kernel)
theorem ge_X3_lineUp : Cond.selects RX3 yX3_lineUp yX3_lineUp ∈ gw := gw_i 1 (by decide +kernel) (by decide +kernel)
theorem gc_X3_gradeAt : Cond.code yX3_gradeAt cX3_gradeAt 3 (some .int) ∈ gw := gw_i 563 (by decide +kernel) (by decide +kernel)
def uX3_gradeAt : List Cond := Cond.code yX3_gradeAt cX3_gradeAt 3 (some .int) :: gw
theorem gn_X3_gradeAt : Cond.instanceMethod yX3_gradeAt ∈ gw := gw_i 562 (by decide +kernel) (by decide +kernel)
theorem ge_X3_gradeAt : Cond.selects RX3 yX3_gradeAt yX3_gradeAt ∈ gw := gw_i 4 (by decide +kernel) (by decide +kernel)
theorem gc_X3_nextBefore : Cond.code yX3_nextBefore cX3_nextBefore 4 (some .int) ∈ gw := gw_i 585 (by decide +kernel) (by decide +kernel)
def uX3_nextBefore : List Cond := Cond.code yX3_nextBefore cX3_nextBefore 4 (some .int) :: gw
theorem gn_X3_nextBefore : Cond.instanceMethod yX3_nextBefore ∈ gw := gw_i 584 (by decide +kernel) (by decide +kernel)
theorem ge_X3_nextBefore : Cond.selects RX3 yX3_nextBefore yX3_nextBefore ∈ gw := gw_i 5 (by decide +kernel) (by decide +kernel)
theorem gc_X3_bump : Cond.code yX3_bump cX3_bump 4 none ∈ gw := gw_i 589 (by decide +kernel) (by decide +kernel)
def uX3_bump : List Cond := Cond.code yX3_bump cX3_bump 4 none :: gw
theorem gn_X3_bump : Cond.instanceMethod yX3_bump ∈ gw := gw_i 588 (by decide +kernel) (by decide +kernel)
theorem ge_X3_bump : Cond.selects RX3 yX3_bump yX3_bump ∈ gw := gw_i 6 (by decide +kernel) (by decide +kernel)
theorem gc_X3_runawaySection : Cond.code yX3_runawaySection cX3_runawaySection 5 (some .int) ∈ gw := gw_i 594 (by decide +kernel) (by decide +kernel)
def uX3_runawaySection : List Cond := Cond.code yX3_runawaySection cX3_runawaySection 5 (some .int) :: gw
theorem gn_X3_runawaySection : Cond.instanceMethod yX3_runawaySection ∈ gw := gw_i 593 (by decide +kernel) (by decide +kernel)
theorem ge_X3_runawaySection : Cond.selects RX3 yX3_runawaySection yX3_runawaySection ∈ gw := gw_i 7 (by decide +kernel) (by decide +kernel)
theorem gc_X3_arrive : Cond.code yX3_arrive cX3_arrive 3 none ∈ gw := gw_i 598 (by decide +kernel) (by decide +kernel)
def uX3_arrive : List Cond := Cond.code yX3_arrive cX3_arrive 3 none :: gw
theorem gn_X3_arrive : Cond.instanceMethod yX3_arrive ∈ gw := gw_i 597 (by decide +kernel) (by decide +kernel)
theorem ge_X3_arrive : Cond.selects RX3 yX3_arrive yX3_arrive ∈ gw := gw_i 8 (by decide +kernel) (by decide +kernel)
theorem gc_X3_moveCar : Cond.code yX3_moveCar cX3_moveCar 6 none ∈ gw := gw_i 559 (by decide +kernel) (by decide +kernel)
def uX3_moveCar : List Cond := Cond.code yX3_moveCar cX3_moveCar 6 none :: gw
theorem gn_X3_moveCar : Cond.instanceMethod yX3_moveCar ∈ gw := gw_i 558 (by decide +kernel) (by decide +kernel)
theorem ge_X3_moveCar : Cond.selects RX3 yX3_moveCar yX3_moveCar ∈ gw := gw_i 3 (by decide +kernel) (by decide +kernel)
theorem gc_X3_pullOn : Cond.code yX3_pullOn cX3_pullOn 2 none ∈ gw := gw_i 603 (by decide +kernel) (by decide +kernel)
def uX3_pullOn : List Cond := Cond.code yX3_pullOn cX3_pullOn 2 none :: gw
theorem gn_X3_pullOn : Cond.instanceMethod yX3_pullOn ∈ gw := gw_i 602 (by decide +kernel) (by decide +kernel)
theorem ge_X3_pullOn : Cond.selects RX3 yX3_pullOn yX3_pullOn ∈ gw := gw_i 9 (by decide +kernel) (by decide +kernel)
theorem gc_X3_passTick : Cond.code yX3_passTick cX3_passTick 3 none ∈ gw := gw_i 543 (by decide +kernel) (by decide +kernel)
def uX3_passTick : List Cond := Cond.code yX3_passTick cX3_passTick 3 none :: gw
theorem gn_X3_passTick : Cond.instanceMethod yX3_passTick ∈ gw := gw_i 541 (by decide +kernel) (by decide +kernel)
theorem ge_X3_passTick : Cond.selects RX3 yX3_passTick yX3_passTick ∈ gw := gw_i 542 (by decide +kernel) (by decide +kernel)
theorem gc_X3_passTicks : Cond.code yX3_passTicks cX3_passTicks 3 none ∈ gw := gw_i 539 (by decide +kernel) (by decide +kernel)
def uX3_passTicks : List Cond := Cond.code yX3_passTicks cX3_passTicks 3 none :: gw
theorem gn_X3_passTicks : Cond.instanceMethod yX3_passTicks ∈ gw := gw_i 537 (by decide +kernel) (by decide +kernel)
theorem ge_X3_passTicks : Cond.selects RX3 yX3_passTicks yX3_passTicks ∈ gw := gw_i 538 (by decide +kernel) (by decide +kernel)
theorem gc_X3_switchCount : Cond.code yX3_switchCount cX3_switchCount 3 (some .int) ∈ gw := gw_i 395 (by decide +kernel) (by decide +kernel)
def uX3_switchCount : List Cond := Cond.code yX3_switchCount cX3_switchCount 3 (some .int) :: gw
theorem gn_X3_switchCount : Cond.instanceMethod yX3_switchCount ∈ gw := gw_i 393 (by decide +kernel) (by decide +kernel)
theorem ge_X3_switchCount : Cond.selects RX3 yX3_switchCount yX3_switchCount ∈ gw := gw_i 394 (by decide +kernel) (by decide +kernel)
theorem gc_X3_oreInCars : Cond.code yX3_oreInCars cX3_oreInCars 3 (some .int) ∈ gw := gw_i 719 (by decide +kernel) (by decide +kernel)
def uX3_oreInCars : List Cond := Cond.code yX3_oreInCars cX3_oreInCars 3 (some .int) :: gw
theorem gn_X3_oreInCars : Cond.instanceMethod yX3_oreInCars ∈ gw := gw_i 717 (by decide +kernel) (by decide +kernel)
theorem ge_X3_oreInCars : Cond.selects RX3 yX3_oreInCars yX3_oreInCars ∈ gw := gw_i 718 (by decide +kernel) (by decide +kernel)
theorem gc_X3_bumps : Cond.code yX3_bumps cX3_bumps 3 (some .int) ∈ gw := gw_i 762 (by decide +kernel) (by decide +kernel)
def uX3_bumps : List Cond := Cond.code yX3_bumps cX3_bumps 3 (some .int) :: gw
theorem gn_X3_bumps : Cond.instanceMethod yX3_bumps ∈ gw := gw_i 760 (by decide +kernel) (by decide +kernel)
theorem ge_X3_bumps : Cond.selects RX3 yX3_bumps yX3_bumps ∈ gw := gw_i 761 (by decide +kernel) (by decide +kernel)
theorem gc_X3_number : Cond.code yX3_number cX3_number 2 (some .int) ∈ gw := gw_i 714 (by decide +kernel) (by decide +kernel)
def uX3_number : List Cond := Cond.code yX3_number cX3_number 2 (some .int) :: gw
theorem gn_X3_number : Cond.instanceMethod yX3_number ∈ gw := gw_i 712 (by decide +kernel) (by decide +kernel)
theorem ge_X3_number : Cond.selects RX3 yX3_number yX3_number ∈ gw := gw_i 713 (by decide +kernel) (by decide +kernel)
theorem gc_X4_init : Cond.code yX4_init cX4_init 2 none ∈ gw := gw_i 70 (by decide +kernel) (by decide +kernel)
def uX4_init : List Cond := Cond.code yX4_init cX4_init 2 none :: gw
theorem gn_X4_init : Cond.instanceMethod yX4_init ∈ gw := gw_i 69 (by decide +kernel) (by decide +kernel)
theorem gc_X4_requireIndex : Cond.code yX4_requireIndex cX4_requireIndex 1 none ∈ gw := gw_i 275 (by decide +kernel) (by decide +kernel)
def uX4_requireIndex : List Cond := Cond.code yX4_requireIndex cX4_requireIndex 1 none :: gw
theorem gs_X4_requireIndex : Cond.static yX4_requireIndex ∈ gw := gw_i 274 (by decide +kernel) (by decide +kernel)
theorem gc_X4_isWithin : Cond.code yX4_isWithin cX4_isWithin 3 (some .boolean) ∈ gw := gw_i 346 (by decide +kernel) (by decide +kernel)
def uX4_isWithin : List Cond := Cond.code yX4_isWithin cX4_isWithin 3 (some .boolean) :: gw
theorem gs_X4_isWithin : Cond.static yX4_isWithin ∈ gw := gw_i 345 (by decide +kernel) (by decide +kernel)
theorem gc_X4_requireArgument : Cond.code yX4_requireArgument cX4_requireArgument 1 none ∈ gw := gw_i 349 (by decide +kernel) (by decide +kernel)
def uX4_requireArgument : List Cond := Cond.code yX4_requireArgument cX4_requireArgument 1 none :: gw
theorem gs_X4_requireArgument : Cond.static yX4_requireArgument ∈ gw := gw_i 348 (by decide +kernel) (by decide +kernel)
theorem gc_X4_grade : Cond.code yX4_grade cX4_grade 4 (some .int) ∈ gw := gw_i 272 (by decide +kernel) (by decide +kernel)
def uX4_grade : List Cond := Cond.code yX4_grade cX4_grade 4 (some .int) :: gw
theorem gn_X4_grade : Cond.instanceMethod yX4_grade ∈ gw := gw_i 270 (by decide +kernel) (by decide +kernel)
theorem ge_X4_grade : Cond.selects RX4 yX4_grade yX4_grade ∈ gw := gw_i 271 (by decide +kernel) (by decide +kernel)
theorem gc_X4_requireState : Cond.code yX4_requireState cX4_requireState 1 none ∈ gw := gw_i 398 (by decide +kernel) (by decide +kernel)
def uX4_requireState : List Cond := Cond.code yX4_requireState cX4_requireState 1 none :: gw
theorem gs_X4_requireState : Cond.static yX4_requireState ∈ gw := gw_i 397 (by decide +kernel) (by decide +kernel)
theorem gc_X4_spring : Cond.code yX4_spring cX4_spring 4 (some .int) ∈ gw := gw_i 391 (by decide +kernel) (by decide +kernel)
def uX4_spring : List Cond := Cond.code yX4_spring cX4_spring 4 (some .int) :: gw
theorem gn_X4_spring : Cond.instanceMethod yX4_spring ∈ gw := gw_i 389 (by decide +kernel) (by decide +kernel)
theorem ge_X4_spring : Cond.selects RX4 yX4_spring yX4_spring ∈ gw := gw_i 390 (by decide +kernel) (by decide +kernel)
theorem gc_X4_car : Cond.code yX4_car cX4_car 1 (some .int) ∈ gw := gw_i 421 (by decide +kernel) (by decide +kernel)
def uX4_car : List Cond := Cond.code yX4_car cX4_car 1 (some .int) :: gw
theorem gn_X4_car : Cond.instanceMethod yX4_car ∈ gw := gw_i 419 (by decide +kernel) (by decide +kernel)
theorem ge_X4_car : Cond.selects RX4 yX4_car yX4_car ∈ gw := gw_i 420 (by decide +kernel) (by decide +kernel)
theorem gc_X4_load : Cond.code yX4_load cX4_load 3 (some .int) ∈ gw := gw_i 436 (by decide +kernel) (by decide +kernel)
def uX4_load : List Cond := Cond.code yX4_load cX4_load 3 (some .int) :: gw
theorem gn_X4_load : Cond.instanceMethod yX4_load ∈ gw := gw_i 434 (by decide +kernel) (by decide +kernel)
theorem ge_X4_load : Cond.selects RX4 yX4_load yX4_load ∈ gw := gw_i 435 (by decide +kernel) (by decide +kernel)
theorem gc_X4_release : Cond.code yX4_release cX4_release 3 (some .int) ∈ gw := gw_i 456 (by decide +kernel) (by decide +kernel)
def uX4_release : List Cond := Cond.code yX4_release cX4_release 3 (some .int) :: gw
theorem gn_X4_release : Cond.instanceMethod yX4_release ∈ gw := gw_i 454 (by decide +kernel) (by decide +kernel)
theorem ge_X4_release : Cond.selects RX4 yX4_release yX4_release ∈ gw := gw_i 455 (by decide +kernel) (by decide +kernel)
theorem gc_X4_brake : Cond.code yX4_brake cX4_brake 3 (some .int) ∈ gw := gw_i 475 (by decide +kernel) (by decide +kernel)
def uX4_brake : List Cond := Cond.code yX4_brake cX4_brake 3 (some .int) :: gw
theorem gn_X4_brake : Cond.instanceMethod yX4_brake ∈ gw := gw_i 473 (by decide +kernel) (by decide +kernel)
theorem ge_X4_brake : Cond.selects RX4 yX4_brake yX4_brake ∈ gw := gw_i 474 (by decide +kernel) (by decide +kernel)
theorem gc_X4_pull : Cond.code yX4_pull cX4_pull 2 (some .int) ∈ gw := gw_i 490 (by decide +kernel) (by decide +kernel)
def uX4_pull : List Cond := Cond.code yX4_pull cX4_pull 2 (some .int) :: gw
theorem gn_X4_pull : Cond.instanceMethod yX4_pull ∈ gw := gw_i 488 (by decide +kernel) (by decide +kernel)
theorem ge_X4_pull : Cond.selects RX4 yX4_pull yX4_pull ∈ gw := gw_i 489 (by decide +kernel) (by decide +kernel)
theorem gc_X4_leastOfSetting : Cond.code yX4_leastOfSetting cX4_leastOfSetting 1 (some .int) ∈ gw := gw_i 525 (by decide +kernel) (by decide +kernel)
def uX4_leastOfSetting : List Cond := Cond.code yX4_leastOfSetting cX4_leastOfSetting 1 (some .int) :: gw
theorem gs_X4_leastOfSetting : Cond.static yX4_leastOfSetting ∈ gw := gw_i 524 (by decide +kernel) (by decide +kernel)
theorem gc_X4_greatestOfSetting : Cond.code yX4_greatestOfSetting cX4_greatestOfSetting 1 (some .int) ∈ gw := gw_i 528 (by decide +kernel) (by decide +kernel)
def uX4_greatestOfSetting : List Cond := Cond.code yX4_greatestOfSetting cX4_greatestOfSetting 1 (some .int) :: gw
theorem gs_X4_greatestOfSetting : Cond.static yX4_greatestOfSetting ∈ gw := gw_i 527 (by decide +kernel) (by decide +kernel)
theorem gc_X4_set : Cond.code yX4_set cX4_set 4 (some .int) ∈ gw := gw_i 522 (by decide +kernel) (by decide +kernel)
def uX4_set : List Cond := Cond.code yX4_set cX4_set 4 (some .int) :: gw
theorem gn_X4_set : Cond.instanceMethod yX4_set ∈ gw := gw_i 520 (by decide +kernel) (by decide +kernel)
theorem ge_X4_set : Cond.selects RX4 yX4_set yX4_set ∈ gw := gw_i 521 (by decide +kernel) (by decide +kernel)
theorem gc_X4_run : Cond.code yX4_run cX4_run 3 (some .int) ∈ gw := gw_i 535 (by decide +kernel) (by decide +kernel)
def uX4_run : List Cond := Cond.code yX4_run cX4_run 3 (some .int) :: gw
theorem gn_X4_run : Cond.instanceMethod yX4_run ∈ gw := gw_i 533 (by decide +kernel) (by decide +kernel)
theorem ge_X4_run : Cond.selects RX4 yX4_run yX4_run ∈ gw := gw_i 534 (by decide +kernel) (by decide +kernel)
theorem gc_X4_append : Cond.code yX4_append cX4_append 2 (some .int) ∈ gw := gw_i 610 (by decide +kernel) (by decide +kernel)
def uX4_append : List Cond := Cond.code yX4_append cX4_append 2 (some .int) :: gw
theorem gn_X4_append : Cond.instanceMethod yX4_append ∈ gw := gw_i 608 (by decide +kernel) (by decide +kernel)
theorem ge_X4_append : Cond.selects RX4 yX4_append yX4_append ∈ gw := gw_i 609 (by decide +kernel) (by decide +kernel)
theorem gc_X4_clearBuffer : Cond.code yX4_clearBuffer cX4_clearBuffer 2 (some .int) ∈ gw := gw_i 232 (by decide +kernel) (by decide +kernel)
def uX4_clearBuffer : List Cond := Cond.code yX4_clearBuffer cX4_clearBuffer 2 (some .int) :: gw
theorem gn_X4_clearBuffer : Cond.instanceMethod yX4_clearBuffer ∈ gw := gw_i 230 (by decide +kernel) (by decide +kernel)
theorem ge_X4_clearBuffer : Cond.selects RX4 yX4_clearBuffer yX4_clearBuffer ∈ gw := gw_i 231 (by decide +kernel) (by decide +kernel)
theorem gc_X4_firstError : Cond.code yX4_firstError cX4_firstError 1 (some .int) ∈ gw := gw_i 236 (by decide +kernel) (by decide +kernel)
def uX4_firstError : List Cond := Cond.code yX4_firstError cX4_firstError 1 (some .int) :: gw
theorem gn_X4_firstError : Cond.instanceMethod yX4_firstError ∈ gw := gw_i 234 (by decide +kernel) (by decide +kernel)
theorem ge_X4_firstError : Cond.selects RX4 yX4_firstError yX4_firstError ∈ gw := gw_i 235 (by decide +kernel) (by decide +kernel)
theorem gc_X4_performOn : Cond.code yX4_performOn cX4_performOn 4 (some .boolean) ∈ gw := gw_i 642 (by decide +kernel) (by decide +kernel)
def uX4_performOn : List Cond := Cond.code yX4_performOn cX4_performOn 4 (some .boolean) :: gw
theorem gn_X4_performOn : Cond.instanceMethod yX4_performOn ∈ gw := gw_i 641 (by decide +kernel) (by decide +kernel)
theorem ge_X4_performOn : Cond.selects RX4 yX4_performOn yX4_performOn ∈ gw := gw_i 11 (by decide +kernel) (by decide +kernel)
theorem gc_X4_perform : Cond.code yX4_perform cX4_perform 5 (some .boolean) ∈ gw := gw_i 633 (by decide +kernel) (by decide +kernel)
def uX4_perform : List Cond := Cond.code yX4_perform cX4_perform 5 (some .boolean) :: gw
theorem gn_X4_perform : Cond.instanceMethod yX4_perform ∈ gw := gw_i 632 (by decide +kernel) (by decide +kernel)
theorem ge_X4_perform : Cond.selects RX4 yX4_perform yX4_perform ∈ gw := gw_i 10 (by decide +kernel) (by decide +kernel)
theorem gc_X4_execute : Cond.code yX4_execute cX4_execute 4 (some .int) ∈ gw := gw_i 621 (by decide +kernel) (by decide +kernel)
def uX4_execute : List Cond := Cond.code yX4_execute cX4_execute 4 (some .int) :: gw
theorem gn_X4_execute : Cond.instanceMethod yX4_execute ∈ gw := gw_i 619 (by decide +kernel) (by decide +kernel)
theorem ge_X4_execute : Cond.selects RX4 yX4_execute yX4_execute ∈ gw := gw_i 620 (by decide +kernel) (by decide +kernel)
theorem gc_X4_undo : Cond.code yX4_undo cX4_undo 1 (some .int) ∈ gw := gw_i 649 (by decide +kernel) (by decide +kernel)
def uX4_undo : List Cond := Cond.code yX4_undo cX4_undo 1 (some .int) :: gw
theorem gn_X4_undo : Cond.instanceMethod yX4_undo ∈ gw := gw_i 647 (by decide +kernel) (by decide +kernel)
theorem ge_X4_undo : Cond.selects RX4 yX4_undo yX4_undo ∈ gw := gw_i 648 (by decide +kernel) (by decide +kernel)
theorem gc_X4_keep : Cond.code yX4_keep cX4_keep 2 (some .int) ∈ gw := gw_i 660 (by decide +kernel) (by decide +kernel)
def uX4_keep : List Cond := Cond.code yX4_keep cX4_keep 2 (some .int) :: gw
theorem gn_X4_keep : Cond.instanceMethod yX4_keep ∈ gw := gw_i 658 (by decide +kernel) (by decide +kernel)
theorem ge_X4_keep : Cond.selects RX4 yX4_keep yX4_keep ∈ gw := gw_i 659 (by decide +kernel) (by decide +kernel)
theorem gc_X4_goBack : Cond.code yX4_goBack cX4_goBack 2 (some .int) ∈ gw := gw_i 668 (by decide +kernel) (by decide +kernel)
def uX4_goBack : List Cond := Cond.code yX4_goBack cX4_goBack 2 (some .int) :: gw
theorem gn_X4_goBack : Cond.instanceMethod yX4_goBack ∈ gw := gw_i 666 (by decide +kernel) (by decide +kernel)
theorem ge_X4_goBack : Cond.selects RX4 yX4_goBack yX4_goBack ∈ gw := gw_i 667 (by decide +kernel) (by decide +kernel)
theorem gc_X4_section : Cond.code yX4_section cX4_section 3 (some .int) ∈ gw := gw_i 675 (by decide +kernel) (by decide +kernel)
def uX4_section : List Cond := Cond.code yX4_section cX4_section 3 (some .int) :: gw
theorem gn_X4_section : Cond.instanceMethod yX4_section ∈ gw := gw_i 673 (by decide +kernel) (by decide +kernel)
theorem ge_X4_section : Cond.selects RX4 yX4_section yX4_section ∈ gw := gw_i 674 (by decide +kernel) (by decide +kernel)
theorem gc_X4_carOf : Cond.code yX4_carOf cX4_carOf 3 (some .int) ∈ gw := gw_i 683 (by decide +kernel) (by decide +kernel)
def uX4_carOf : List Cond := Cond.code yX4_carOf cX4_carOf 3 (some .int) :: gw
theorem gn_X4_carOf : Cond.instanceMethod yX4_carOf ∈ gw := gw_i 681 (by decide +kernel) (by decide +kernel)
theorem ge_X4_carOf : Cond.selects RX4 yX4_carOf yX4_carOf ∈ gw := gw_i 682 (by decide +kernel) (by decide +kernel)
theorem gc_X4_cars : Cond.code yX4_cars cX4_cars 2 (some .int) ∈ gw := gw_i 694 (by decide +kernel) (by decide +kernel)
def uX4_cars : List Cond := Cond.code yX4_cars cX4_cars 2 (some .int) :: gw
theorem gn_X4_cars : Cond.instanceMethod yX4_cars ∈ gw := gw_i 692 (by decide +kernel) (by decide +kernel)
theorem ge_X4_cars : Cond.selects RX4 yX4_cars yX4_cars ∈ gw := gw_i 693 (by decide +kernel) (by decide +kernel)
theorem gc_X4_rolling : Cond.code yX4_rolling cX4_rolling 3 (some .int) ∈ gw := gw_i 702 (by decide +kernel) (by decide +kernel)
def uX4_rolling : List Cond := Cond.code yX4_rolling cX4_rolling 3 (some .int) :: gw
theorem gn_X4_rolling : Cond.instanceMethod yX4_rolling ∈ gw := gw_i 700 (by decide +kernel) (by decide +kernel)
theorem ge_X4_rolling : Cond.selects RX4 yX4_rolling yX4_rolling ∈ gw := gw_i 701 (by decide +kernel) (by decide +kernel)
theorem gc_X4_count : Cond.code yX4_count cX4_count 2 (some .int) ∈ gw := gw_i 710 (by decide +kernel) (by decide +kernel)
def uX4_count : List Cond := Cond.code yX4_count cX4_count 2 (some .int) :: gw
theorem gn_X4_count : Cond.instanceMethod yX4_count ∈ gw := gw_i 708 (by decide +kernel) (by decide +kernel)
theorem ge_X4_count : Cond.selects RX4 yX4_count yX4_count ∈ gw := gw_i 709 (by decide +kernel) (by decide +kernel)
theorem gc_X4_refusal : Cond.code yX4_refusal cX4_refusal 3 (some .int) ∈ gw := gw_i 726 (by decide +kernel) (by decide +kernel)
def uX4_refusal : List Cond := Cond.code yX4_refusal cX4_refusal 3 (some .int) :: gw
theorem gn_X4_refusal : Cond.instanceMethod yX4_refusal ∈ gw := gw_i 724 (by decide +kernel) (by decide +kernel)
theorem ge_X4_refusal : Cond.selects RX4 yX4_refusal yX4_refusal ∈ gw := gw_i 725 (by decide +kernel) (by decide +kernel)
theorem gc_X4_tryAlone : Cond.code yX4_tryAlone cX4_tryAlone 4 (some .int) ∈ gw := gw_i 739 (by decide +kernel) (by decide +kernel)
def uX4_tryAlone : List Cond := Cond.code yX4_tryAlone cX4_tryAlone 4 (some .int) :: gw
theorem gn_X4_tryAlone : Cond.instanceMethod yX4_tryAlone ∈ gw := gw_i 738 (by decide +kernel) (by decide +kernel)
theorem ge_X4_tryAlone : Cond.selects RX4 yX4_tryAlone yX4_tryAlone ∈ gw := gw_i 12 (by decide +kernel) (by decide +kernel)
theorem gc_X4_ifAlone : Cond.code yX4_ifAlone cX4_ifAlone 6 (some .int) ∈ gw := gw_i 735 (by decide +kernel) (by decide +kernel)
def uX4_ifAlone : List Cond := Cond.code yX4_ifAlone cX4_ifAlone 6 (some .int) :: gw
theorem gn_X4_ifAlone : Cond.instanceMethod yX4_ifAlone ∈ gw := gw_i 733 (by decide +kernel) (by decide +kernel)
theorem ge_X4_ifAlone : Cond.selects RX4 yX4_ifAlone yX4_ifAlone ∈ gw := gw_i 734 (by decide +kernel) (by decide +kernel)
theorem gc_X4_leastBrake : Cond.code yX4_leastBrake cX4_leastBrake 4 (some .int) ∈ gw := gw_i 751 (by decide +kernel) (by decide +kernel)
def uX4_leastBrake : List Cond := Cond.code yX4_leastBrake cX4_leastBrake 4 (some .int) :: gw
theorem gn_X4_leastBrake : Cond.instanceMethod yX4_leastBrake ∈ gw := gw_i 749 (by decide +kernel) (by decide +kernel)
theorem ge_X4_leastBrake : Cond.selects RX4 yX4_leastBrake yX4_leastBrake ∈ gw := gw_i 750 (by decide +kernel) (by decide +kernel)
theorem gc_X4_ifRun : Cond.code yX4_ifRun cX4_ifRun 3 (some .int) ∈ gw := gw_i 758 (by decide +kernel) (by decide +kernel)
def uX4_ifRun : List Cond := Cond.code yX4_ifRun cX4_ifRun 3 (some .int) :: gw
theorem gn_X4_ifRun : Cond.instanceMethod yX4_ifRun ∈ gw := gw_i 756 (by decide +kernel) (by decide +kernel)
theorem ge_X4_ifRun : Cond.selects RX4 yX4_ifRun yX4_ifRun ∈ gw := gw_i 757 (by decide +kernel) (by decide +kernel)
theorem gc_X4_meanSpeed : Cond.code yX4_meanSpeed cX4_meanSpeed 4 (some .float) ∈ gw := gw_i 263 (by decide +kernel) (by decide +kernel)
def uX4_meanSpeed : List Cond := Cond.code yX4_meanSpeed cX4_meanSpeed 4 (some .float) :: gw
theorem gn_X4_meanSpeed : Cond.instanceMethod yX4_meanSpeed ∈ gw := gw_i 261 (by decide +kernel) (by decide +kernel)
theorem ge_X4_meanSpeed : Cond.selects RX4 yX4_meanSpeed yX4_meanSpeed ∈ gw := gw_i 262 (by decide +kernel) (by decide +kernel)
theorem gc_X5_init : Cond.code yX5_init cX5_init 2 none ∈ gw := gw_i 767 (by decide +kernel) (by decide +kernel)
def uX5_init : List Cond := Cond.code yX5_init cX5_init 2 none :: gw
theorem gn_X5_init : Cond.instanceMethod yX5_init ∈ gw := gw_i 766 (by decide +kernel) (by decide +kernel)
theorem gc_X5_thrown : Cond.code yX5_thrown cX5_thrown 1 (some .int) ∈ gw := gw_i 821 (by decide +kernel) (by decide +kernel)
def uX5_thrown : List Cond := Cond.code yX5_thrown cX5_thrown 1 (some .int) :: gw
theorem gn_X5_thrown : Cond.instanceMethod yX5_thrown ∈ gw := gw_i 819 (by decide +kernel) (by decide +kernel)
theorem ge_X5_thrown : Cond.selects RX5 yX5_thrown yX5_thrown ∈ gw := gw_i 820 (by decide +kernel) (by decide +kernel)
theorem gc_X5_refused : Cond.code yX5_refused cX5_refused 2 (some .boolean) ∈ gw := gw_i 832 (by decide +kernel) (by decide +kernel)
def uX5_refused : List Cond := Cond.code yX5_refused cX5_refused 2 (some .boolean) :: gw
theorem gn_X5_refused : Cond.instanceMethod yX5_refused ∈ gw := gw_i 831 (by decide +kernel) (by decide +kernel)
theorem ge_X5_refused : Cond.selects RX5 yX5_refused yX5_refused ∈ gw := gw_i 13 (by decide +kernel) (by decide +kernel)
theorem gc_X5_in : Cond.code yX5_in cX5_in 3 (some .boolean) ∈ gw := gw_i 828 (by decide +kernel) (by decide +kernel)
def uX5_in : List Cond := Cond.code yX5_in cX5_in 3 (some .boolean) :: gw
theorem gs_X5_in : Cond.static yX5_in ∈ gw := gw_i 827 (by decide +kernel) (by decide +kernel)
theorem gc_X5_of : Cond.code yX5_of cX5_of 2 (some .int) ∈ gw := gw_i 855 (by decide +kernel) (by decide +kernel)
def uX5_of : List Cond := Cond.code yX5_of cX5_of 2 (some .int) :: gw
theorem gs_X5_of : Cond.static yX5_of ∈ gw := gw_i 854 (by decide +kernel) (by decide +kernel)
theorem gc_X5_isCar : Cond.code yX5_isCar cX5_isCar 2 (some .boolean) ∈ gw := gw_i 867 (by decide +kernel) (by decide +kernel)
def uX5_isCar : List Cond := Cond.code yX5_isCar cX5_isCar 2 (some .boolean) :: gw
theorem gn_X5_isCar : Cond.instanceMethod yX5_isCar ∈ gw := gw_i 866 (by decide +kernel) (by decide +kernel)
theorem ge_X5_isCar : Cond.selects RX5 yX5_isCar yX5_isCar ∈ gw := gw_i 18 (by decide +kernel) (by decide +kernel)
theorem gc_X5_isIn : Cond.code yX5_isIn cX5_isIn 3 (some .boolean) ∈ gw := gw_i 871 (by decide +kernel) (by decide +kernel)
def uX5_isIn : List Cond := Cond.code yX5_isIn cX5_isIn 3 (some .boolean) :: gw
theorem gn_X5_isIn : Cond.instanceMethod yX5_isIn ∈ gw := gw_i 870 (by decide +kernel) (by decide +kernel)
theorem ge_X5_isIn : Cond.selects RX5 yX5_isIn yX5_isIn ∈ gw := gw_i 19 (by decide +kernel) (by decide +kernel)
theorem gc_X5_saves : Cond.code yX5_saves cX5_saves 2 none ∈ gw := gw_i 836 (by decide +kernel) (by decide +kernel)
def uX5_saves : List Cond := Cond.code yX5_saves cX5_saves 2 none :: gw
theorem gn_X5_saves : Cond.instanceMethod yX5_saves ∈ gw := gw_i 835 (by decide +kernel) (by decide +kernel)
theorem ge_X5_saves : Cond.selects RX5 yX5_saves yX5_saves ∈ gw := gw_i 14 (by decide +kernel) (by decide +kernel)
theorem gc_X5_putAside : Cond.code yX5_putAside cX5_putAside 2 none ∈ gw := gw_i 1071 (by decide +kernel) (by decide +kernel)
def uX5_putAside : List Cond := Cond.code yX5_putAside cX5_putAside 2 none :: gw
theorem gn_X5_putAside : Cond.instanceMethod yX5_putAside ∈ gw := gw_i 1070 (by decide +kernel) (by decide +kernel)
theorem ge_X5_putAside : Cond.selects RX5 yX5_putAside yX5_putAside ∈ gw := gw_i 47 (by decide +kernel) (by decide +kernel)
theorem gc_X5_putBack : Cond.code yX5_putBack cX5_putBack 2 none ∈ gw := gw_i 1075 (by decide +kernel) (by decide +kernel)
def uX5_putBack : List Cond := Cond.code yX5_putBack cX5_putBack 2 none :: gw
theorem gn_X5_putBack : Cond.instanceMethod yX5_putBack ∈ gw := gw_i 1074 (by decide +kernel) (by decide +kernel)
theorem ge_X5_putBack : Cond.selects RX5 yX5_putBack yX5_putBack ∈ gw := gw_i 48 (by decide +kernel) (by decide +kernel)
theorem gc_X5_grade : Cond.code yX5_grade cX5_grade 4 (some .int) ∈ gw := gw_i 825 (by decide +kernel) (by decide +kernel)
def uX5_grade : List Cond := Cond.code yX5_grade cX5_grade 4 (some .int) :: gw
theorem gn_X5_grade : Cond.instanceMethod yX5_grade ∈ gw := gw_i 823 (by decide +kernel) (by decide +kernel)
theorem ge_X5_grade : Cond.selects RX5 yX5_grade yX5_grade ∈ gw := gw_i 824 (by decide +kernel) (by decide +kernel)
theorem gc_X5_switches : Cond.code yX5_switches cX5_switches 3 (some .int) ∈ gw := gw_i 844 (by decide +kernel) (by decide +kernel)
def uX5_switches : List Cond := Cond.code yX5_switches cX5_switches 3 (some .int) :: gw
theorem gn_X5_switches : Cond.instanceMethod yX5_switches ∈ gw := gw_i 843 (by decide +kernel) (by decide +kernel)
theorem ge_X5_switches : Cond.selects RX5 yX5_switches yX5_switches ∈ gw := gw_i 15 (by decide +kernel) (by decide +kernel)
theorem gc_X5_spring : Cond.code yX5_spring cX5_spring 5 (some .int) ∈ gw := gw_i 840 (by decide +kernel) (by decide +kernel)
def uX5_spring : List Cond := Cond.code yX5_spring cX5_spring 5 (some .int) :: gw
theorem gn_X5_spring : Cond.instanceMethod yX5_spring ∈ gw := gw_i 838 (by decide +kernel) (by decide +kernel)
theorem ge_X5_spring : Cond.selects RX5 yX5_spring yX5_spring ∈ gw := gw_i 839 (by decide +kernel) (by decide +kernel)
theorem gc_X5_adds : Cond.code yX5_adds cX5_adds 3 (some .int) ∈ gw := gw_i 852 (by decide +kernel) (by decide +kernel)
def uX5_adds : List Cond := Cond.code yX5_adds cX5_adds 3 (some .int) :: gw
theorem gn_X5_adds : Cond.instanceMethod yX5_adds ∈ gw := gw_i 851 (by decide +kernel) (by decide +kernel)
theorem ge_X5_adds : Cond.selects RX5 yX5_adds yX5_adds ∈ gw := gw_i 16 (by decide +kernel) (by decide +kernel)
theorem gc_X5_car : Cond.code yX5_car cX5_car 1 (some .int) ∈ gw := gw_i 848 (by decide +kernel) (by decide +kernel)
def uX5_car : List Cond := Cond.code yX5_car cX5_car 1 (some .int) :: gw
theorem gn_X5_car : Cond.instanceMethod yX5_car ∈ gw := gw_i 846 (by decide +kernel) (by decide +kernel)
theorem ge_X5_car : Cond.selects RX5 yX5_car yX5_car ∈ gw := gw_i 847 (by decide +kernel) (by decide +kernel)
theorem gc_X5_barLoad : Cond.code yX5_barLoad cX5_barLoad 3 (some .int) ∈ gw := gw_i 863 (by decide +kernel) (by decide +kernel)
def uX5_barLoad : List Cond := Cond.code yX5_barLoad cX5_barLoad 3 (some .int) :: gw
theorem gn_X5_barLoad : Cond.instanceMethod yX5_barLoad ∈ gw := gw_i 862 (by decide +kernel) (by decide +kernel)
theorem ge_X5_barLoad : Cond.selects RX5 yX5_barLoad yX5_barLoad ∈ gw := gw_i 17 (by decide +kernel) (by decide +kernel)
theorem gc_X5_loads : Cond.code yX5_loads cX5_loads 3 (some .int) ∈ gw := gw_i 875 (by decide +kernel) (by decide +kernel)
def uX5_loads : List Cond := Cond.code yX5_loads cX5_loads 3 (some .int) :: gw
theorem gn_X5_loads : Cond.instanceMethod yX5_loads ∈ gw := gw_i 874 (by decide +kernel) (by decide +kernel)
theorem ge_X5_loads : Cond.selects RX5 yX5_loads yX5_loads ∈ gw := gw_i 20 (by decide +kernel) (by decide +kernel)
theorem gc_X5_load : Cond.code yX5_load cX5_load 3 (some .int) ∈ gw := gw_i 859 (by decide +kernel) (by decide +kernel)
def uX5_load : List Cond := Cond.code yX5_load cX5_load 3 (some .int) :: gw
theorem gn_X5_load : Cond.instanceMethod yX5_load ∈ gw := gw_i 857 (by decide +kernel) (by decide +kernel)
theorem ge_X5_load : Cond.selects RX5 yX5_load yX5_load ∈ gw := gw_i 858 (by decide +kernel) (by decide +kernel)
theorem gc_X5_pulled : Cond.code yX5_pulled cX5_pulled 3 (some .int) ∈ gw := gw_i 922 (by decide +kernel) (by decide +kernel)
def uX5_pulled : List Cond := Cond.code yX5_pulled cX5_pulled 3 (some .int) :: gw
theorem gn_X5_pulled : Cond.instanceMethod yX5_pulled ∈ gw := gw_i 921 (by decide +kernel) (by decide +kernel)
theorem ge_X5_pulled : Cond.selects RX5 yX5_pulled yX5_pulled ∈ gw := gw_i 28 (by decide +kernel) (by decide +kernel)
theorem gc_X5_mules : Cond.code yX5_mules cX5_mules 2 (some .int) ∈ gw := gw_i 918 (by decide +kernel) (by decide +kernel)
def uX5_mules : List Cond := Cond.code yX5_mules cX5_mules 2 (some .int) :: gw
theorem gn_X5_mules : Cond.instanceMethod yX5_mules ∈ gw := gw_i 917 (by decide +kernel) (by decide +kernel)
theorem ge_X5_mules : Cond.selects RX5 yX5_mules yX5_mules ∈ gw := gw_i 27 (by decide +kernel) (by decide +kernel)
theorem gc_X5_noRelease : Cond.code yX5_noRelease cX5_noRelease 4 (some .int) ∈ gw := gw_i 890 (by decide +kernel) (by decide +kernel)
def uX5_noRelease : List Cond := Cond.code yX5_noRelease cX5_noRelease 4 (some .int) :: gw
theorem gn_X5_noRelease : Cond.instanceMethod yX5_noRelease ∈ gw := gw_i 889 (by decide +kernel) (by decide +kernel)
theorem ge_X5_noRelease : Cond.selects RX5 yX5_noRelease yX5_noRelease ∈ gw := gw_i 22 (by decide +kernel) (by decide +kernel)
theorem gc_X5_noPull : Cond.code yX5_noPull cX5_noPull 2 (some .int) ∈ gw := gw_i 914 (by decide +kernel) (by decide +kernel)
def uX5_noPull : List Cond := Cond.code yX5_noPull cX5_noPull 2 (some .int) :: gw
theorem gn_X5_noPull : Cond.instanceMethod yX5_noPull ∈ gw := gw_i 913 (by decide +kernel) (by decide +kernel)
theorem ge_X5_noPull : Cond.selects RX5 yX5_noPull yX5_noPull ∈ gw := gw_i 26 (by decide +kernel) (by decide +kernel)
theorem gc_X5_releases : Cond.code yX5_releases cX5_releases 4 (some .int) ∈ gw := gw_i 886 (by decide +kernel) (by decide +kernel)
def uX5_releases : List Cond := Cond.code yX5_releases cX5_releases 4 (some .int) :: gw
theorem gn_X5_releases : Cond.instanceMethod yX5_releases ∈ gw := gw_i 885 (by decide +kernel) (by decide +kernel)
theorem ge_X5_releases : Cond.selects RX5 yX5_releases yX5_releases ∈ gw := gw_i 21 (by decide +kernel) (by decide +kernel)
theorem gc_X5_pulls : Cond.code yX5_pulls cX5_pulls 3 (some .int) ∈ gw := gw_i 910 (by decide +kernel) (by decide +kernel)
def uX5_pulls : List Cond := Cond.code yX5_pulls cX5_pulls 3 (some .int) :: gw
theorem gn_X5_pulls : Cond.instanceMethod yX5_pulls ∈ gw := gw_i 909 (by decide +kernel) (by decide +kernel)
theorem ge_X5_pulls : Cond.selects RX5 yX5_pulls yX5_pulls ∈ gw := gw_i 25 (by decide +kernel) (by decide +kernel)
theorem gc_X5_isBrake : Cond.code yX5_isBrake cX5_isBrake 1 (some .boolean) ∈ gw := gw_i 882 (by decide +kernel) (by decide +kernel)
def uX5_isBrake : List Cond := Cond.code yX5_isBrake cX5_isBrake 1 (some .boolean) :: gw
theorem gs_X5_isBrake : Cond.static yX5_isBrake ∈ gw := gw_i 881 (by decide +kernel) (by decide +kernel)
theorem gc_X5_release : Cond.code yX5_release cX5_release 3 (some .int) ∈ gw := gw_i 879 (by decide +kernel) (by decide +kernel)
def uX5_release : List Cond := Cond.code yX5_release cX5_release 3 (some .int) :: gw
theorem gn_X5_release : Cond.instanceMethod yX5_release ∈ gw := gw_i 877 (by decide +kernel) (by decide +kernel)
theorem ge_X5_release : Cond.selects RX5 yX5_release yX5_release ∈ gw := gw_i 878 (by decide +kernel) (by decide +kernel)
theorem gc_X5_barBrake : Cond.code yX5_barBrake cX5_barBrake 3 (some .int) ∈ gw := gw_i 898 (by decide +kernel) (by decide +kernel)
def uX5_barBrake : List Cond := Cond.code yX5_barBrake cX5_barBrake 3 (some .int) :: gw
theorem gn_X5_barBrake : Cond.instanceMethod yX5_barBrake ∈ gw := gw_i 897 (by decide +kernel) (by decide +kernel)
theorem ge_X5_barBrake : Cond.selects RX5 yX5_barBrake yX5_barBrake ∈ gw := gw_i 23 (by decide +kernel) (by decide +kernel)
theorem gc_X5_brakes : Cond.code yX5_brakes cX5_brakes 4 (some .int) ∈ gw := gw_i 902 (by decide +kernel) (by decide +kernel)
def uX5_brakes : List Cond := Cond.code yX5_brakes cX5_brakes 4 (some .int) :: gw
theorem gn_X5_brakes : Cond.instanceMethod yX5_brakes ∈ gw := gw_i 901 (by decide +kernel) (by decide +kernel)
theorem ge_X5_brakes : Cond.selects RX5 yX5_brakes yX5_brakes ∈ gw := gw_i 24 (by decide +kernel) (by decide +kernel)
theorem gc_X5_brake : Cond.code yX5_brake cX5_brake 3 (some .int) ∈ gw := gw_i 894 (by decide +kernel) (by decide +kernel)
def uX5_brake : List Cond := Cond.code yX5_brake cX5_brake 3 (some .int) :: gw
theorem gn_X5_brake : Cond.instanceMethod yX5_brake ∈ gw := gw_i 892 (by decide +kernel) (by decide +kernel)
theorem ge_X5_brake : Cond.selects RX5 yX5_brake yX5_brake ∈ gw := gw_i 893 (by decide +kernel) (by decide +kernel)
theorem gc_X5_pull : Cond.code yX5_pull cX5_pull 2 (some .int) ∈ gw := gw_i 906 (by decide +kernel) (by decide +kernel)
def uX5_pull : List Cond := Cond.code yX5_pull cX5_pull 2 (some .int) :: gw
theorem gn_X5_pull : Cond.instanceMethod yX5_pull ∈ gw := gw_i 904 (by decide +kernel) (by decide +kernel)
theorem ge_X5_pull : Cond.selects RX5 yX5_pull yX5_pull ∈ gw := gw_i 905 (by decide +kernel) (by decide +kernel)
theorem gc_X5_least : Cond.code yX5_least cX5_least 1 (some .int) ∈ gw := gw_i 929 (by decide +kernel) (by decide +kernel)
def uX5_least : List Cond := Cond.code yX5_least cX5_least 1 (some .int) :: gw
theorem gs_X5_least : Cond.static yX5_least ∈ gw := gw_i 928 (by decide +kernel) (by decide +kernel)
theorem gc_X5_most : Cond.code yX5_most cX5_most 1 (some .int) ∈ gw := gw_i 932 (by decide +kernel) (by decide +kernel)
def uX5_most : List Cond := Cond.code yX5_most cX5_most 1 (some .int) :: gw
theorem gs_X5_most : Cond.static yX5_most ∈ gw := gw_i 931 (by decide +kernel) (by decide +kernel)
theorem gc_X5_set : Cond.code yX5_set cX5_set 4 (some .int) ∈ gw := gw_i 926 (by decide +kernel) (by decide +kernel)
def uX5_set : List Cond := Cond.code yX5_set cX5_set 4 (some .int) :: gw
theorem gn_X5_set : Cond.instanceMethod yX5_set ∈ gw := gw_i 924 (by decide +kernel) (by decide +kernel)
theorem ge_X5_set : Cond.selects RX5 yX5_set yX5_set ∈ gw := gw_i 925 (by decide +kernel) (by decide +kernel)
theorem gc_X5_force : Cond.code yX5_force cX5_force 2 (some .int) ∈ gw := gw_i 960 (by decide +kernel) (by decide +kernel)
def uX5_force : List Cond := Cond.code yX5_force cX5_force 2 (some .int) :: gw
theorem gn_X5_force : Cond.instanceMethod yX5_force ∈ gw := gw_i 959 (by decide +kernel) (by decide +kernel)
theorem ge_X5_force : Cond.selects RX5 yX5_force yX5_force ∈ gw := gw_i 34 (by decide +kernel) (by decide +kernel)
theorem gc_X5_isAhead : Cond.code yX5_isAhead cX5_isAhead 5 (some .boolean) ∈ gw := gw_i 952 (by decide +kernel) (by decide +kernel)
def uX5_isAhead : List Cond := Cond.code yX5_isAhead cX5_isAhead 5 (some .boolean) :: gw
theorem gn_X5_isAhead : Cond.instanceMethod yX5_isAhead ∈ gw := gw_i 951 (by decide +kernel) (by decide +kernel)
theorem ge_X5_isAhead : Cond.selects RX5 yX5_isAhead yX5_isAhead ∈ gw := gw_i 32 (by decide +kernel) (by decide +kernel)
theorem gc_X5_notes : Cond.code yX5_notes cX5_notes 4 (some .int) ∈ gw := gw_i 948 (by decide +kernel) (by decide +kernel)
def uX5_notes : List Cond := Cond.code yX5_notes cX5_notes 4 (some .int) :: gw
theorem gn_X5_notes : Cond.instanceMethod yX5_notes ∈ gw := gw_i 947 (by decide +kernel) (by decide +kernel)
theorem ge_X5_notes : Cond.selects RX5 yX5_notes yX5_notes ∈ gw := gw_i 31 (by decide +kernel) (by decide +kernel)
theorem gc_X5_before : Cond.code yX5_before cX5_before 5 (some .int) ∈ gw := gw_i 967 (by decide +kernel) (by decide +kernel)
def uX5_before : List Cond := Cond.code yX5_before cX5_before 5 (some .int) :: gw
theorem gn_X5_before : Cond.instanceMethod yX5_before ∈ gw := gw_i 966 (by decide +kernel) (by decide +kernel)
theorem ge_X5_before : Cond.selects RX5 yX5_before yX5_before ∈ gw := gw_i 35 (by decide +kernel) (by decide +kernel)
theorem gc_X5_within : Cond.code yX5_within cX5_within 3 (some .int) ∈ gw := gw_i 963 (by decide +kernel) (by decide +kernel)
def uX5_within : List Cond := Cond.code yX5_within cX5_within 3 (some .int) :: gw
theorem gs_X5_within : Cond.static yX5_within ∈ gw := gw_i 962 (by decide +kernel) (by decide +kernel)
theorem gc_X5_arrives : Cond.code yX5_arrives cX5_arrives 5 none ∈ gw := gw_i 971 (by decide +kernel) (by decide +kernel)
def uX5_arrives : List Cond := Cond.code yX5_arrives cX5_arrives 5 none :: gw
theorem gn_X5_arrives : Cond.instanceMethod yX5_arrives ∈ gw := gw_i 970 (by decide +kernel) (by decide +kernel)
theorem ge_X5_arrives : Cond.selects RX5 yX5_arrives yX5_arrives ∈ gw := gw_i 36 (by decide +kernel) (by decide +kernel)
theorem gc_X5_moves : Cond.code yX5_moves cX5_moves 7 none ∈ gw := gw_i 956 (by decide +kernel) (by decide +kernel)
def uX5_moves : List Cond := Cond.code yX5_moves cX5_moves 7 none :: gw
theorem gn_X5_moves : Cond.instanceMethod yX5_moves ∈ gw := gw_i 955 (by decide +kernel) (by decide +kernel)
theorem ge_X5_moves : Cond.selects RX5 yX5_moves yX5_moves ∈ gw := gw_i 33 (by decide +kernel) (by decide +kernel)
theorem gc_X5_tick : Cond.code yX5_tick cX5_tick 3 none ∈ gw := gw_i 944 (by decide +kernel) (by decide +kernel)
def uX5_tick : List Cond := Cond.code yX5_tick cX5_tick 3 none :: gw
theorem gn_X5_tick : Cond.instanceMethod yX5_tick ∈ gw := gw_i 943 (by decide +kernel) (by decide +kernel)
theorem ge_X5_tick : Cond.selects RX5 yX5_tick yX5_tick ∈ gw := gw_i 30 (by decide +kernel) (by decide +kernel)
theorem gc_X5_runs : Cond.code yX5_runs cX5_runs 4 (some .int) ∈ gw := gw_i 940 (by decide +kernel) (by decide +kernel)
def uX5_runs : List Cond := Cond.code yX5_runs cX5_runs 4 (some .int) :: gw
theorem gn_X5_runs : Cond.instanceMethod yX5_runs ∈ gw := gw_i 939 (by decide +kernel) (by decide +kernel)
theorem ge_X5_runs : Cond.selects RX5 yX5_runs yX5_runs ∈ gw := gw_i 29 (by decide +kernel) (by decide +kernel)
theorem gc_X5_run : Cond.code yX5_run cX5_run 2 (some .int) ∈ gw := gw_i 936 (by decide +kernel) (by decide +kernel)
def uX5_run : List Cond := Cond.code yX5_run cX5_run 2 (some .int) :: gw
theorem gn_X5_run : Cond.instanceMethod yX5_run ∈ gw := gw_i 934 (by decide +kernel) (by decide +kernel)
theorem ge_X5_run : Cond.selects RX5 yX5_run yX5_run ∈ gw := gw_i 935 (by decide +kernel) (by decide +kernel)
theorem gc_X5_append : Cond.code yX5_append cX5_append 2 (some .int) ∈ gw := gw_i 975 (by decide +kernel) (by decide +kernel)
def uX5_append : List Cond := Cond.code yX5_append cX5_append 2 (some .int) :: gw
theorem gn_X5_append : Cond.instanceMethod yX5_append ∈ gw := gw_i 973 (by decide +kernel) (by decide +kernel)
theorem ge_X5_append : Cond.selects RX5 yX5_append yX5_append ∈ gw := gw_i 974 (by decide +kernel) (by decide +kernel)
theorem gc_X5_clearBuffer : Cond.code yX5_clearBuffer cX5_clearBuffer 2 (some .int) ∈ gw := gw_i 979 (by decide +kernel) (by decide +kernel)
def uX5_clearBuffer : List Cond := Cond.code yX5_clearBuffer cX5_clearBuffer 2 (some .int) :: gw
theorem gn_X5_clearBuffer : Cond.instanceMethod yX5_clearBuffer ∈ gw := gw_i 977 (by decide +kernel) (by decide +kernel)
theorem ge_X5_clearBuffer : Cond.selects RX5 yX5_clearBuffer yX5_clearBuffer ∈ gw := gw_i 978 (by decide +kernel) (by decide +kernel)
theorem gc_X5_next : Cond.code yX5_next cX5_next 1 (some .int) ∈ gw := gw_i 995 (by decide +kernel) (by decide +kernel)
def uX5_next : List Cond := Cond.code yX5_next cX5_next 1 (some .int) :: gw
theorem gn_X5_next : Cond.instanceMethod yX5_next ∈ gw := gw_i 994 (by decide +kernel) (by decide +kernel)
theorem ge_X5_next : Cond.selects RX5 yX5_next yX5_next ∈ gw := gw_i 39 (by decide +kernel) (by decide +kernel)
theorem gc_X5_sign : Cond.code yX5_sign cX5_sign 2 none ∈ gw := gw_i 1007 (by decide +kernel) (by decide +kernel)
def uX5_sign : List Cond := Cond.code yX5_sign cX5_sign 2 none :: gw
theorem gn_X5_sign : Cond.instanceMethod yX5_sign ∈ gw := gw_i 1006 (by decide +kernel) (by decide +kernel)
theorem ge_X5_sign : Cond.selects RX5 yX5_sign yX5_sign ∈ gw := gw_i 42 (by decide +kernel) (by decide +kernel)
theorem gc_X5_digit : Cond.code yX5_digit cX5_digit 4 (some .int) ∈ gw := gw_i 1003 (by decide +kernel) (by decide +kernel)
def uX5_digit : List Cond := Cond.code yX5_digit cX5_digit 4 (some .int) :: gw
theorem gn_X5_digit : Cond.instanceMethod yX5_digit ∈ gw := gw_i 1002 (by decide +kernel) (by decide +kernel)
theorem ge_X5_digit : Cond.selects RX5 yX5_digit yX5_digit ∈ gw := gw_i 41 (by decide +kernel) (by decide +kernel)
theorem gc_X5_number : Cond.code yX5_number cX5_number 4 (some .int) ∈ gw := gw_i 999 (by decide +kernel) (by decide +kernel)
def uX5_number : List Cond := Cond.code yX5_number cX5_number 4 (some .int) :: gw
theorem gn_X5_number : Cond.instanceMethod yX5_number ∈ gw := gw_i 998 (by decide +kernel) (by decide +kernel)
theorem ge_X5_number : Cond.selects RX5 yX5_number yX5_number ∈ gw := gw_i 40 (by decide +kernel) (by decide +kernel)
theorem gc_X5_order : Cond.code yX5_order cX5_order 1 none ∈ gw := gw_i 991 (by decide +kernel) (by decide +kernel)
def uX5_order : List Cond := Cond.code yX5_order cX5_order 1 none :: gw
theorem gn_X5_order : Cond.instanceMethod yX5_order ∈ gw := gw_i 990 (by decide +kernel) (by decide +kernel)
theorem ge_X5_order : Cond.selects RX5 yX5_order yX5_order ∈ gw := gw_i 38 (by decide +kernel) (by decide +kernel)
theorem gc_X5_isWhole : Cond.code yX5_isWhole cX5_isWhole 2 (some .boolean) ∈ gw := gw_i 987 (by decide +kernel) (by decide +kernel)
def uX5_isWhole : List Cond := Cond.code yX5_isWhole cX5_isWhole 2 (some .boolean) :: gw
theorem gn_X5_isWhole : Cond.instanceMethod yX5_isWhole ∈ gw := gw_i 986 (by decide +kernel) (by decide +kernel)
theorem ge_X5_isWhole : Cond.selects RX5 yX5_isWhole yX5_isWhole ∈ gw := gw_i 37 (by decide +kernel) (by decide +kernel)
theorem gc_X5_firstError : Cond.code yX5_firstError cX5_firstError 1 (some .int) ∈ gw := gw_i 983 (by decide +kernel) (by decide +kernel)
def uX5_firstError : List Cond := Cond.code yX5_firstError cX5_firstError 1 (some .int) :: gw
theorem gn_X5_firstError : Cond.instanceMethod yX5_firstError ∈ gw := gw_i 981 (by decide +kernel) (by decide +kernel)
theorem ge_X5_firstError : Cond.selects RX5 yX5_firstError yX5_firstError ∈ gw := gw_i 982 (by decide +kernel) (by decide +kernel)
theorem gc_X5_does : Cond.code yX5_does cX5_does 8 (some .boolean) ∈ gw := gw_i 1015 (by decide +kernel) (by decide +kernel)
def uX5_does : List Cond := Cond.code yX5_does cX5_does 8 (some .boolean) :: gw
theorem gn_X5_does : Cond.instanceMethod yX5_does ∈ gw := gw_i 1014 (by decide +kernel) (by decide +kernel)
theorem ge_X5_does : Cond.selects RX5 yX5_does yX5_does ∈ gw := gw_i 43 (by decide +kernel) (by decide +kernel)
theorem gc_X5_execute : Cond.code yX5_execute cX5_execute 3 (some .int) ∈ gw := gw_i 1011 (by decide +kernel) (by decide +kernel)
def uX5_execute : List Cond := Cond.code yX5_execute cX5_execute 3 (some .int) :: gw
theorem gn_X5_execute : Cond.instanceMethod yX5_execute ∈ gw := gw_i 1009 (by decide +kernel) (by decide +kernel)
theorem ge_X5_execute : Cond.selects RX5 yX5_execute yX5_execute ∈ gw := gw_i 1010 (by decide +kernel) (by decide +kernel)
theorem gc_X5_undo : Cond.code yX5_undo cX5_undo 2 (some .int) ∈ gw := gw_i 1019 (by decide +kernel) (by decide +kernel)
def uX5_undo : List Cond := Cond.code yX5_undo cX5_undo 2 (some .int) :: gw
theorem gn_X5_undo : Cond.instanceMethod yX5_undo ∈ gw := gw_i 1017 (by decide +kernel) (by decide +kernel)
theorem ge_X5_undo : Cond.selects RX5 yX5_undo yX5_undo ∈ gw := gw_i 1018 (by decide +kernel) (by decide +kernel)
theorem gc_X5_keep : Cond.code yX5_keep cX5_keep 3 (some .int) ∈ gw := gw_i 1023 (by decide +kernel) (by decide +kernel)
def uX5_keep : List Cond := Cond.code yX5_keep cX5_keep 3 (some .int) :: gw
theorem gn_X5_keep : Cond.instanceMethod yX5_keep ∈ gw := gw_i 1021 (by decide +kernel) (by decide +kernel)
theorem ge_X5_keep : Cond.selects RX5 yX5_keep yX5_keep ∈ gw := gw_i 1022 (by decide +kernel) (by decide +kernel)
theorem gc_X5_goBack : Cond.code yX5_goBack cX5_goBack 3 (some .int) ∈ gw := gw_i 1027 (by decide +kernel) (by decide +kernel)
def uX5_goBack : List Cond := Cond.code yX5_goBack cX5_goBack 3 (some .int) :: gw
theorem gn_X5_goBack : Cond.instanceMethod yX5_goBack ∈ gw := gw_i 1025 (by decide +kernel) (by decide +kernel)
theorem ge_X5_goBack : Cond.selects RX5 yX5_goBack yX5_goBack ∈ gw := gw_i 1026 (by decide +kernel) (by decide +kernel)
theorem gc_X5_carsAt : Cond.code yX5_carsAt cX5_carsAt 6 (some .int) ∈ gw := gw_i 1035 (by decide +kernel) (by decide +kernel)
def uX5_carsAt : List Cond := Cond.code yX5_carsAt cX5_carsAt 6 (some .int) :: gw
theorem gn_X5_carsAt : Cond.instanceMethod yX5_carsAt ∈ gw := gw_i 1034 (by decide +kernel) (by decide +kernel)
theorem ge_X5_carsAt : Cond.selects RX5 yX5_carsAt yX5_carsAt ∈ gw := gw_i 44 (by decide +kernel) (by decide +kernel)
theorem gc_X5_section : Cond.code yX5_section cX5_section 3 (some .int) ∈ gw := gw_i 1031 (by decide +kernel) (by decide +kernel)
def uX5_section : List Cond := Cond.code yX5_section cX5_section 3 (some .int) :: gw
theorem gn_X5_section : Cond.instanceMethod yX5_section ∈ gw := gw_i 1029 (by decide +kernel) (by decide +kernel)
theorem ge_X5_section : Cond.selects RX5 yX5_section yX5_section ∈ gw := gw_i 1030 (by decide +kernel) (by decide +kernel)
theorem gc_X5_carOf : Cond.code yX5_carOf cX5_carOf 3 (some .int) ∈ gw := gw_i 1039 (by decide +kernel) (by decide +kernel)
def uX5_carOf : List Cond := Cond.code yX5_carOf cX5_carOf 3 (some .int) :: gw
theorem gn_X5_carOf : Cond.instanceMethod yX5_carOf ∈ gw := gw_i 1037 (by decide +kernel) (by decide +kernel)
theorem ge_X5_carOf : Cond.selects RX5 yX5_carOf yX5_carOf ∈ gw := gw_i 1038 (by decide +kernel) (by decide +kernel)
theorem gc_X5_cars : Cond.code yX5_cars cX5_cars 2 (some .int) ∈ gw := gw_i 1043 (by decide +kernel) (by decide +kernel)
def uX5_cars : List Cond := Cond.code yX5_cars cX5_cars 2 (some .int) :: gw
theorem gn_X5_cars : Cond.instanceMethod yX5_cars ∈ gw := gw_i 1041 (by decide +kernel) (by decide +kernel)
theorem ge_X5_cars : Cond.selects RX5 yX5_cars yX5_cars ∈ gw := gw_i 1042 (by decide +kernel) (by decide +kernel)
theorem gc_X5_rolling : Cond.code yX5_rolling cX5_rolling 3 (some .int) ∈ gw := gw_i 1047 (by decide +kernel) (by decide +kernel)
def uX5_rolling : List Cond := Cond.code yX5_rolling cX5_rolling 3 (some .int) :: gw
theorem gn_X5_rolling : Cond.instanceMethod yX5_rolling ∈ gw := gw_i 1045 (by decide +kernel) (by decide +kernel)
theorem ge_X5_rolling : Cond.selects RX5 yX5_rolling yX5_rolling ∈ gw := gw_i 1046 (by decide +kernel) (by decide +kernel)
theorem gc_X5_inCars : Cond.code yX5_inCars cX5_inCars 3 (some .int) ∈ gw := gw_i 1055 (by decide +kernel) (by decide +kernel)
def uX5_inCars : List Cond := Cond.code yX5_inCars cX5_inCars 3 (some .int) :: gw
theorem gn_X5_inCars : Cond.instanceMethod yX5_inCars ∈ gw := gw_i 1054 (by decide +kernel) (by decide +kernel)
theorem ge_X5_inCars : Cond.selects RX5 yX5_inCars yX5_inCars ∈ gw := gw_i 45 (by decide +kernel) (by decide +kernel)
theorem gc_X5_count : Cond.code yX5_count cX5_count 2 (some .int) ∈ gw := gw_i 1051 (by decide +kernel) (by decide +kernel)
def uX5_count : List Cond := Cond.code yX5_count cX5_count 2 (some .int) :: gw
theorem gn_X5_count : Cond.instanceMethod yX5_count ∈ gw := gw_i 1049 (by decide +kernel) (by decide +kernel)
theorem ge_X5_count : Cond.selects RX5 yX5_count yX5_count ∈ gw := gw_i 1050 (by decide +kernel) (by decide +kernel)
theorem gc_X5_refusal : Cond.code yX5_refusal cX5_refusal 3 (some .int) ∈ gw := gw_i 1059 (by decide +kernel) (by decide +kernel)
def uX5_refusal : List Cond := Cond.code yX5_refusal cX5_refusal 3 (some .int) :: gw
theorem gn_X5_refusal : Cond.instanceMethod yX5_refusal ∈ gw := gw_i 1057 (by decide +kernel) (by decide +kernel)
theorem ge_X5_refusal : Cond.selects RX5 yX5_refusal yX5_refusal ∈ gw := gw_i 1058 (by decide +kernel) (by decide +kernel)
theorem gc_X5_alone : Cond.code yX5_alone cX5_alone 7 (some .int) ∈ gw := gw_i 1067 (by decide +kernel) (by decide +kernel)
def uX5_alone : List Cond := Cond.code yX5_alone cX5_alone 7 (some .int) :: gw
theorem gn_X5_alone : Cond.instanceMethod yX5_alone ∈ gw := gw_i 1066 (by decide +kernel) (by decide +kernel)
theorem ge_X5_alone : Cond.selects RX5 yX5_alone yX5_alone ∈ gw := gw_i 46 (by decide +kernel) (by decide +kernel)
theorem gc_X5_ifAlone : Cond.code yX5_ifAlone cX5_ifAlone 4 (some .int) ∈ gw := gw_i 1063 (by decide +kernel) (by decide +kernel)
def uX5_ifAlone : List Cond := Cond.code yX5_ifAlone cX5_ifAlone 4 (some .int) :: gw
theorem gn_X5_ifAlone : Cond.instanceMethod yX5_ifAlone ∈ gw := gw_i 1061 (by decide +kernel) (by decide +kernel)
theorem ge_X5_ifAlone : Cond.selects RX5 yX5_ifAlone yX5_ifAlone ∈ gw := gw_i 1062 (by decide +kernel) (by decide +kernel)
theorem gc_X5_leastBrake : Cond.code yX5_leastBrake cX5_leastBrake 4 (some .int) ∈ gw := gw_i 1079 (by decide +kernel) (by decide +kernel)
def uX5_leastBrake : List Cond := Cond.code yX5_leastBrake cX5_leastBrake 4 (some .int) :: gw
theorem gn_X5_leastBrake : Cond.instanceMethod yX5_leastBrake ∈ gw := gw_i 1077 (by decide +kernel) (by decide +kernel)
theorem ge_X5_leastBrake : Cond.selects RX5 yX5_leastBrake yX5_leastBrake ∈ gw := gw_i 1078 (by decide +kernel) (by decide +kernel)
theorem gc_X5_allBumps : Cond.code yX5_allBumps cX5_allBumps 3 (some .int) ∈ gw := gw_i 1087 (by decide +kernel) (by decide +kernel)
def uX5_allBumps : List Cond := Cond.code yX5_allBumps cX5_allBumps 3 (some .int) :: gw
theorem gn_X5_allBumps : Cond.instanceMethod yX5_allBumps ∈ gw := gw_i 1086 (by decide +kernel) (by decide +kernel)
theorem ge_X5_allBumps : Cond.selects RX5 yX5_allBumps yX5_allBumps ∈ gw := gw_i 49 (by decide +kernel) (by decide +kernel)
theorem gc_X5_ifRun : Cond.code yX5_ifRun cX5_ifRun 7 (some .int) ∈ gw := gw_i 1083 (by decide +kernel) (by decide +kernel)
def uX5_ifRun : List Cond := Cond.code yX5_ifRun cX5_ifRun 7 (some .int) :: gw
theorem gn_X5_ifRun : Cond.instanceMethod yX5_ifRun ∈ gw := gw_i 1081 (by decide +kernel) (by decide +kernel)
theorem ge_X5_ifRun : Cond.selects RX5 yX5_ifRun yX5_ifRun ∈ gw := gw_i 1082 (by decide +kernel) (by decide +kernel)
theorem gc_X5_meanSpeed : Cond.code yX5_meanSpeed cX5_meanSpeed 4 (some .float) ∈ gw := gw_i 1091 (by decide +kernel) (by decide +kernel)
def uX5_meanSpeed : List Cond := Cond.code yX5_meanSpeed cX5_meanSpeed 4 (some .float) :: gw
theorem gn_X5_meanSpeed : Cond.instanceMethod yX5_meanSpeed ∈ gw := gw_i 1089 (by decide +kernel) (by decide +kernel)
theorem ge_X5_meanSpeed : Cond.selects RX5 yX5_meanSpeed yX5_meanSpeed ∈ gw := gw_i 1090 (by decide +kernel) (by decide +kernel)
theorem gc_L_grade : Cond.codeWith yL_grade cL_grade 5 (some .int) [(0, 10, 13, 13), (0, 10, 17, 15)] ∈ gw := gw_i 266 (by decide +kernel) (by decide +kernel)
def uL_grade : List Cond := Cond.codeWith yL_grade cL_grade 5 (some .int) [(0, 10, 13, 13), (0, 10, 17, 15)] :: gw
theorem gs_L_grade : Cond.static yL_grade ∈ gw := gw_i 265 (by decide +kernel) (by decide +kernel)
theorem gc_L_spring : Cond.codeWith yL_spring cL_spring 5 (some .int) [(0, 10, 13, 13), (0, 10, 17, 15), (0, 10, 21, 20)] ∈ gw := gw_i 386 (by decide +kernel) (by decide +kernel)
def uL_spring : List Cond := Cond.codeWith yL_spring cL_spring 5 (some .int) [(0, 10, 13, 13), (0, 10, 17, 15), (0, 10, 21, 20)] :: gw
theorem gs_L_spring : Cond.static yL_spring ∈ gw := gw_i 385 (by decide +kernel) (by decide +kernel)
theorem gc_L_car : Cond.codeWith yL_car cL_car 3 (some .int) [(0, 8, 11, 20)] ∈ gw := gw_i 417 (by decide +kernel) (by decide +kernel)
def uL_car : List Cond := Cond.codeWith yL_car cL_car 3 (some .int) [(0, 8, 11, 20)] :: gw
theorem gs_L_car : Cond.static yL_car ∈ gw := gw_i 416 (by decide +kernel) (by decide +kernel)
theorem gc_L_load : Cond.codeWith yL_load cL_load 5 (some .int) [(0, 10, 13, 13), (0, 10, 17, 15), (0, 10, 21, 20)] ∈ gw := gw_i 432 (by decide +kernel) (by decide +kernel)
def uL_load : List Cond := Cond.codeWith yL_load cL_load 5 (some .int) [(0, 10, 13, 13), (0, 10, 17, 15), (0, 10, 21, 20)] :: gw
theorem gs_L_load : Cond.static yL_load ∈ gw := gw_i 431 (by decide +kernel) (by decide +kernel)
theorem gc_L_release : Cond.codeWith yL_release cL_release 5 (some .int) [(0, 10, 13, 13), (0, 10, 17, 15)] ∈ gw := gw_i 452 (by decide +kernel) (by decide +kernel)
def uL_release : List Cond := Cond.codeWith yL_release cL_release 5 (some .int) [(0, 10, 13, 13), (0, 10, 17, 15)] :: gw
theorem gs_L_release : Cond.static yL_release ∈ gw := gw_i 451 (by decide +kernel) (by decide +kernel)
theorem gc_L_brake : Cond.codeWith yL_brake cL_brake 5 (some .int) [(0, 10, 13, 13), (0, 10, 17, 15), (0, 10, 21, 20)] ∈ gw := gw_i 471 (by decide +kernel) (by decide +kernel)
def uL_brake : List Cond := Cond.codeWith yL_brake cL_brake 5 (some .int) [(0, 10, 13, 13), (0, 10, 17, 15), (0, 10, 21, 20)] :: gw
theorem gs_L_brake : Cond.static yL_brake ∈ gw := gw_i 470 (by decide +kernel) (by decide +kernel)
theorem gc_L_pull : Cond.codeWith yL_pull cL_pull 4 (some .int) [(0, 9, 12, 13)] ∈ gw := gw_i 486 (by decide +kernel) (by decide +kernel)
def uL_pull : List Cond := Cond.codeWith yL_pull cL_pull 4 (some .int) [(0, 9, 12, 13)] :: gw
theorem gs_L_pull : Cond.static yL_pull ∈ gw := gw_i 485 (by decide +kernel) (by decide +kernel)
theorem gc_L_set : Cond.codeWith yL_set cL_set 5 (some .int) [(0, 10, 13, 13), (0, 10, 17, 15)] ∈ gw := gw_i 518 (by decide +kernel) (by decide +kernel)
def uL_set : List Cond := Cond.codeWith yL_set cL_set 5 (some .int) [(0, 10, 13, 13), (0, 10, 17, 15)] :: gw
theorem gs_L_set : Cond.static yL_set ∈ gw := gw_i 517 (by decide +kernel) (by decide +kernel)
theorem gc_L_run : Cond.codeWith yL_run cL_run 4 (some .int) [(0, 9, 12, 15)] ∈ gw := gw_i 531 (by decide +kernel) (by decide +kernel)
def uL_run : List Cond := Cond.codeWith yL_run cL_run 4 (some .int) [(0, 9, 12, 15)] :: gw
theorem gs_L_run : Cond.static yL_run ∈ gw := gw_i 530 (by decide +kernel) (by decide +kernel)
theorem gc_L_append : Cond.codeWith yL_append cL_append 4 (some .int) [(0, 9, 12, 15), (0, 9, 15, 20)] ∈ gw := gw_i 606 (by decide +kernel) (by decide +kernel)
def uL_append : List Cond := Cond.codeWith yL_append cL_append 4 (some .int) [(0, 9, 12, 15), (0, 9, 15, 20)] :: gw
theorem gs_L_append : Cond.static yL_append ∈ gw := gw_i 605 (by decide +kernel) (by decide +kernel)
theorem gc_L_execute : Cond.codeWith yL_execute cL_execute 3 (some .int) [(0, 8, 11, 15)] ∈ gw := gw_i 617 (by decide +kernel) (by decide +kernel)
def uL_execute : List Cond := Cond.codeWith yL_execute cL_execute 3 (some .int) [(0, 8, 11, 15)] :: gw
theorem gs_L_execute : Cond.static yL_execute ∈ gw := gw_i 616 (by decide +kernel) (by decide +kernel)
theorem gc_L_undo : Cond.codeWith yL_undo cL_undo 3 (some .int) [(0, 8, 11, 20)] ∈ gw := gw_i 645 (by decide +kernel) (by decide +kernel)
def uL_undo : List Cond := Cond.codeWith yL_undo cL_undo 3 (some .int) [(0, 8, 11, 20)] :: gw
theorem gs_L_undo : Cond.static yL_undo ∈ gw := gw_i 644 (by decide +kernel) (by decide +kernel)
theorem gc_L_keep : Cond.codeWith yL_keep cL_keep 4 (some .int) [(0, 9, 12, 15)] ∈ gw := gw_i 656 (by decide +kernel) (by decide +kernel)
def uL_keep : List Cond := Cond.codeWith yL_keep cL_keep 4 (some .int) [(0, 9, 12, 15)] :: gw
theorem gs_L_keep : Cond.static yL_keep ∈ gw := gw_i 655 (by decide +kernel) (by decide +kernel)
theorem gc_L_goBack : Cond.codeWith yL_goBack cL_goBack 4 (some .int) [(0, 9, 12, 15), (0, 9, 15, 20)] ∈ gw := gw_i 664 (by decide +kernel) (by decide +kernel)
def uL_goBack : List Cond := Cond.codeWith yL_goBack cL_goBack 4 (some .int) [(0, 9, 12, 15), (0, 9, 15, 20)] :: gw
theorem gs_L_goBack : Cond.static yL_goBack ∈ gw := gw_i 663 (by decide +kernel) (by decide +kernel)
theorem gc_L_section : Cond.codeWith yL_section cL_section 5 (some .int) [(0, 10, 13, 13), (0, 10, 17, 15)] ∈ gw := gw_i 671 (by decide +kernel) (by decide +kernel)
def uL_section : List Cond := Cond.codeWith yL_section cL_section 5 (some .int) [(0, 10, 13, 13), (0, 10, 17, 15)] :: gw
theorem gs_L_section : Cond.static yL_section ∈ gw := gw_i 670 (by decide +kernel) (by decide +kernel)
theorem gc_L_carOf : Cond.codeWith yL_carOf cL_carOf 5 (some .int) [(0, 10, 13, 13), (0, 10, 17, 15)] ∈ gw := gw_i 679 (by decide +kernel) (by decide +kernel)
def uL_carOf : List Cond := Cond.codeWith yL_carOf cL_carOf 5 (some .int) [(0, 10, 13, 13), (0, 10, 17, 15)] :: gw
theorem gs_L_carOf : Cond.static yL_carOf ∈ gw := gw_i 678 (by decide +kernel) (by decide +kernel)
theorem gc_L_cars : Cond.codeWith yL_cars cL_cars 4 (some .int) [(0, 9, 12, 15)] ∈ gw := gw_i 690 (by decide +kernel) (by decide +kernel)
def uL_cars : List Cond := Cond.codeWith yL_cars cL_cars 4 (some .int) [(0, 9, 12, 15)] :: gw
theorem gs_L_cars : Cond.static yL_cars ∈ gw := gw_i 689 (by decide +kernel) (by decide +kernel)
theorem gc_L_rolling : Cond.codeWith yL_rolling cL_rolling 4 (some .int) [(0, 9, 12, 15)] ∈ gw := gw_i 698 (by decide +kernel) (by decide +kernel)
def uL_rolling : List Cond := Cond.codeWith yL_rolling cL_rolling 4 (some .int) [(0, 9, 12, 15)] :: gw
theorem gs_L_rolling : Cond.static yL_rolling ∈ gw := gw_i 697 (by decide +kernel) (by decide +kernel)
theorem gc_L_count : Cond.codeWith yL_count cL_count 4 (some .int) [(0, 9, 12, 15)] ∈ gw := gw_i 706 (by decide +kernel) (by decide +kernel)
def uL_count : List Cond := Cond.codeWith yL_count cL_count 4 (some .int) [(0, 9, 12, 15)] :: gw
theorem gs_L_count : Cond.static yL_count ∈ gw := gw_i 705 (by decide +kernel) (by decide +kernel)
theorem gc_L_refusal : Cond.codeWith yL_refusal cL_refusal 5 (some .int) [(0, 10, 13, 13)] ∈ gw := gw_i 722 (by decide +kernel) (by decide +kernel)
def uL_refusal : List Cond := Cond.codeWith yL_refusal cL_refusal 5 (some .int) [(0, 10, 13, 13)] :: gw
theorem gs_L_refusal : Cond.static yL_refusal ∈ gw := gw_i 721 (by decide +kernel) (by decide +kernel)
theorem gc_L_ifAlone : Cond.codeWith yL_ifAlone cL_ifAlone 6 (some .int) [(0, 12, 15, 15)] ∈ gw := gw_i 731 (by decide +kernel) (by decide +kernel)
def uL_ifAlone : List Cond := Cond.codeWith yL_ifAlone cL_ifAlone 6 (some .int) [(0, 12, 15, 15)] :: gw
theorem gs_L_ifAlone : Cond.static yL_ifAlone ∈ gw := gw_i 730 (by decide +kernel) (by decide +kernel)
theorem gc_L_leastBrake : Cond.codeWith yL_leastBrake cL_leastBrake 4 (some .int) [(0, 9, 12, 15)] ∈ gw := gw_i 747 (by decide +kernel) (by decide +kernel)
def uL_leastBrake : List Cond := Cond.codeWith yL_leastBrake cL_leastBrake 4 (some .int) [(0, 9, 12, 15)] :: gw
theorem gs_L_leastBrake : Cond.static yL_leastBrake ∈ gw := gw_i 746 (by decide +kernel) (by decide +kernel)
theorem gc_L_ifRun : Cond.codeWith yL_ifRun cL_ifRun 5 (some .int) [(0, 10, 13, 15)] ∈ gw := gw_i 754 (by decide +kernel) (by decide +kernel)
def uL_ifRun : List Cond := Cond.codeWith yL_ifRun cL_ifRun 5 (some .int) [(0, 10, 13, 15)] :: gw
theorem gs_L_ifRun : Cond.static yL_ifRun ∈ gw := gw_i 753 (by decide +kernel) (by decide +kernel)
theorem gmL_7 : Cond.methodLink RL 7 yX4_grade ∈ gw := gw_i 269 (by decide +kernel) (by decide +kernel)
theorem qL_7 : GoodIn gw (wsV RL 7 RX4 yX4_grade uX4_grade) := gw_V gmL_7 gn_X4_grade ge_X4_grade gi_RX4 gc_X4_grade
theorem gmL_17 : Cond.methodLink RL 17 yX4_spring ∈ gw := gw_i 388 (by decide +kernel) (by decide +kernel)
theorem qL_17 : GoodIn gw (wsV RL 17 RX4 yX4_spring uX4_spring) := gw_V gmL_17 gn_X4_spring ge_X4_spring gi_RX4 gc_X4_spring
theorem gmL_22 : Cond.methodLink RL 22 yX4_car ∈ gw := gw_i 418 (by decide +kernel) (by decide +kernel)
theorem qL_22 : GoodIn gw (wsV RL 22 RX4 yX4_car uX4_car) := gw_V gmL_22 gn_X4_car ge_X4_car gi_RX4 gc_X4_car
theorem gmL_26 : Cond.methodLink RL 26 yX4_load ∈ gw := gw_i 433 (by decide +kernel) (by decide +kernel)
theorem qL_26 : GoodIn gw (wsV RL 26 RX4 yX4_load uX4_load) := gw_V gmL_26 gn_X4_load ge_X4_load gi_RX4 gc_X4_load
theorem gmL_29 : Cond.methodLink RL 29 yX4_release ∈ gw := gw_i 453 (by decide +kernel) (by decide +kernel)
theorem qL_29 : GoodIn gw (wsV RL 29 RX4 yX4_release uX4_release) := gw_V gmL_29 gn_X4_release ge_X4_release gi_RX4 gc_X4_release
theorem gmL_32 : Cond.methodLink RL 32 yX4_brake ∈ gw := gw_i 472 (by decide +kernel) (by decide +kernel)
theorem qL_32 : GoodIn gw (wsV RL 32 RX4 yX4_brake uX4_brake) := gw_V gmL_32 gn_X4_brake ge_X4_brake gi_RX4 gc_X4_brake
theorem gmL_35 : Cond.methodLink RL 35 yX4_pull ∈ gw := gw_i 487 (by decide +kernel) (by decide +kernel)
theorem qL_35 : GoodIn gw (wsV RL 35 RX4 yX4_pull uX4_pull) := gw_V gmL_35 gn_X4_pull ge_X4_pull gi_RX4 gc_X4_pull
theorem gmL_39 : Cond.methodLink RL 39 yX4_set ∈ gw := gw_i 519 (by decide +kernel) (by decide +kernel)
theorem qL_39 : GoodIn gw (wsV RL 39 RX4 yX4_set uX4_set) := gw_V gmL_39 gn_X4_set ge_X4_set gi_RX4 gc_X4_set
theorem gmL_42 : Cond.methodLink RL 42 yX4_run ∈ gw := gw_i 532 (by decide +kernel) (by decide +kernel)
theorem qL_42 : GoodIn gw (wsV RL 42 RX4 yX4_run uX4_run) := gw_V gmL_42 gn_X4_run ge_X4_run gi_RX4 gc_X4_run
theorem gmL_45 : Cond.methodLink RL 45 yX4_append ∈ gw := gw_i 607 (by decide +kernel) (by decide +kernel)
theorem qL_45 : GoodIn gw (wsV RL 45 RX4 yX4_append uX4_append) := gw_V gmL_45 gn_X4_append ge_X4_append gi_RX4 gc_X4_append
theorem gmL_48 : Cond.methodLink RL 48 yX4_execute ∈ gw := gw_i 618 (by decide +kernel) (by decide +kernel)
theorem qL_48 : GoodIn gw (wsV RL 48 RX4 yX4_execute uX4_execute) := gw_V gmL_48 gn_X4_execute ge_X4_execute gi_RX4 gc_X4_execute
theorem gmL_51 : Cond.methodLink RL 51 yX4_undo ∈ gw := gw_i 646 (by decide +kernel) (by decide +kernel)
theorem qL_51 : GoodIn gw (wsV RL 51 RX4 yX4_undo uX4_undo) := gw_V gmL_51 gn_X4_undo ge_X4_undo gi_RX4 gc_X4_undo
theorem gmL_54 : Cond.methodLink RL 54 yX4_keep ∈ gw := gw_i 657 (by decide +kernel) (by decide +kernel)
theorem qL_54 : GoodIn gw (wsV RL 54 RX4 yX4_keep uX4_keep) := gw_V gmL_54 gn_X4_keep ge_X4_keep gi_RX4 gc_X4_keep
theorem gmL_57 : Cond.methodLink RL 57 yX4_goBack ∈ gw := gw_i 665 (by decide +kernel) (by decide +kernel)
theorem qL_57 : GoodIn gw (wsV RL 57 RX4 yX4_goBack uX4_goBack) := gw_V gmL_57 gn_X4_goBack ge_X4_goBack gi_RX4 gc_X4_goBack
theorem gmL_60 : Cond.methodLink RL 60 yX4_section ∈ gw := gw_i 672 (by decide +kernel) (by decide +kernel)
theorem qL_60 : GoodIn gw (wsV RL 60 RX4 yX4_section uX4_section) := gw_V gmL_60 gn_X4_section ge_X4_section gi_RX4 gc_X4_section
theorem gmL_63 : Cond.methodLink RL 63 yX4_carOf ∈ gw := gw_i 680 (by decide +kernel) (by decide +kernel)
theorem qL_63 : GoodIn gw (wsV RL 63 RX4 yX4_carOf uX4_carOf) := gw_V gmL_63 gn_X4_carOf ge_X4_carOf gi_RX4 gc_X4_carOf
theorem gmL_66 : Cond.methodLink RL 66 yX4_cars ∈ gw := gw_i 691 (by decide +kernel) (by decide +kernel)
theorem qL_66 : GoodIn gw (wsV RL 66 RX4 yX4_cars uX4_cars) := gw_V gmL_66 gn_X4_cars ge_X4_cars gi_RX4 gc_X4_cars
theorem gmL_69 : Cond.methodLink RL 69 yX4_rolling ∈ gw := gw_i 699 (by decide +kernel) (by decide +kernel)
theorem qL_69 : GoodIn gw (wsV RL 69 RX4 yX4_rolling uX4_rolling) := gw_V gmL_69 gn_X4_rolling ge_X4_rolling gi_RX4 gc_X4_rolling
theorem gmL_72 : Cond.methodLink RL 72 yX4_count ∈ gw := gw_i 707 (by decide +kernel) (by decide +kernel)
theorem qL_72 : GoodIn gw (wsV RL 72 RX4 yX4_count uX4_count) := gw_V gmL_72 gn_X4_count ge_X4_count gi_RX4 gc_X4_count
theorem gmL_75 : Cond.methodLink RL 75 yX4_refusal ∈ gw := gw_i 723 (by decide +kernel) (by decide +kernel)
theorem qL_75 : GoodIn gw (wsV RL 75 RX4 yX4_refusal uX4_refusal) := gw_V gmL_75 gn_X4_refusal ge_X4_refusal gi_RX4 gc_X4_refusal
theorem gmL_79 : Cond.methodLink RL 79 yX4_ifAlone ∈ gw := gw_i 732 (by decide +kernel) (by decide +kernel)
theorem qL_79 : GoodIn gw (wsV RL 79 RX4 yX4_ifAlone uX4_ifAlone) := gw_V gmL_79 gn_X4_ifAlone ge_X4_ifAlone gi_RX4 gc_X4_ifAlone
theorem gmL_83 : Cond.methodLink RL 83 yX4_leastBrake ∈ gw := gw_i 748 (by decide +kernel) (by decide +kernel)
theorem qL_83 : GoodIn gw (wsV RL 83 RX4 yX4_leastBrake uX4_leastBrake) := gw_V gmL_83 gn_X4_leastBrake ge_X4_leastBrake gi_RX4 gc_X4_leastBrake
theorem gmL_86 : Cond.methodLink RL 86 yX4_ifRun ∈ gw := gw_i 755 (by decide +kernel) (by decide +kernel)
theorem qL_86 : GoodIn gw (wsV RL 86 RX4 yX4_ifRun uX4_ifRun) := gw_V gmL_86 gn_X4_ifRun ge_X4_ifRun gi_RX4 gc_X4_ifRun
theorem gmL_89 : Cond.methodLink RL 89 yX4_init ∈ gw := gw_i 68 (by decide +kernel) (by decide +kernel)
theorem gmL_92 : Cond.methodLink RL 92 yX5_init ∈ gw := gw_i 765 (by decide +kernel) (by decide +kernel)
theorem gmL_93 : Cond.methodLink RL 93 yL_grade ∈ gw := gw_i 264 (by decide +kernel) (by decide +kernel)
theorem qL_93 : GoodIn gw (va_wsS RL 93 yL_grade uL_grade) := gw_S gmL_93 gs_L_grade gi_RL gc_L_grade
theorem gmL_98 : Cond.methodLink RL 98 yX5_grade ∈ gw := gw_i 822 (by decide +kernel) (by decide +kernel)
theorem qL_98 : GoodIn gw (wsV RL 98 RX5 yX5_grade uX5_grade) := gw_V gmL_98 gn_X5_grade ge_X5_grade gi_RX5 gc_X5_grade
theorem gmL_99 : Cond.methodLink RL 99 yX5_thrown ∈ gw := gw_i 818 (by decide +kernel) (by decide +kernel)
theorem qL_99 : GoodIn gw (wsV RL 99 RX5 yX5_thrown uX5_thrown) := gw_V gmL_99 gn_X5_thrown ge_X5_thrown gi_RX5 gc_X5_thrown
theorem gmL_102 : Cond.methodLink RL 102 yL_spring ∈ gw := gw_i 384 (by decide +kernel) (by decide +kernel)
theorem qL_102 : GoodIn gw (va_wsS RL 102 yL_spring uL_spring) := gw_S gmL_102 gs_L_spring gi_RL gc_L_spring
theorem gmL_104 : Cond.methodLink RL 104 yX5_spring ∈ gw := gw_i 837 (by decide +kernel) (by decide +kernel)
theorem qL_104 : GoodIn gw (wsV RL 104 RX5 yX5_spring uX5_spring) := gw_V gmL_104 gn_X5_spring ge_X5_spring gi_RX5 gc_X5_spring
theorem gmL_105 : Cond.methodLink RL 105 yL_car ∈ gw := gw_i 415 (by decide +kernel) (by decide +kernel)
theorem qL_105 : GoodIn gw (va_wsS RL 105 yL_car uL_car) := gw_S gmL_105 gs_L_car gi_RL gc_L_car
theorem gmL_108 : Cond.methodLink RL 108 yX5_car ∈ gw := gw_i 845 (by decide +kernel) (by decide +kernel)
theorem qL_108 : GoodIn gw (wsV RL 108 RX5 yX5_car uX5_car) := gw_V gmL_108 gn_X5_car ge_X5_car gi_RX5 gc_X5_car
theorem gmL_109 : Cond.methodLink RL 109 yL_load ∈ gw := gw_i 430 (by decide +kernel) (by decide +kernel)
theorem qL_109 : GoodIn gw (va_wsS RL 109 yL_load uL_load) := gw_S gmL_109 gs_L_load gi_RL gc_L_load
theorem gmL_111 : Cond.methodLink RL 111 yX5_load ∈ gw := gw_i 856 (by decide +kernel) (by decide +kernel)
theorem qL_111 : GoodIn gw (wsV RL 111 RX5 yX5_load uX5_load) := gw_V gmL_111 gn_X5_load ge_X5_load gi_RX5 gc_X5_load
theorem gmL_112 : Cond.methodLink RL 112 yL_release ∈ gw := gw_i 450 (by decide +kernel) (by decide +kernel)
theorem qL_112 : GoodIn gw (va_wsS RL 112 yL_release uL_release) := gw_S gmL_112 gs_L_release gi_RL gc_L_release
theorem gmL_114 : Cond.methodLink RL 114 yX5_release ∈ gw := gw_i 876 (by decide +kernel) (by decide +kernel)
theorem qL_114 : GoodIn gw (wsV RL 114 RX5 yX5_release uX5_release) := gw_V gmL_114 gn_X5_release ge_X5_release gi_RX5 gc_X5_release
theorem gmL_115 : Cond.methodLink RL 115 yL_brake ∈ gw := gw_i 469 (by decide +kernel) (by decide +kernel)
theorem qL_115 : GoodIn gw (va_wsS RL 115 yL_brake uL_brake) := gw_S gmL_115 gs_L_brake gi_RL gc_L_brake
theorem gmL_117 : Cond.methodLink RL 117 yX5_brake ∈ gw := gw_i 891 (by decide +kernel) (by decide +kernel)
theorem qL_117 : GoodIn gw (wsV RL 117 RX5 yX5_brake uX5_brake) := gw_V gmL_117 gn_X5_brake ge_X5_brake gi_RX5 gc_X5_brake
theorem gmL_118 : Cond.methodLink RL 118 yL_pull ∈ gw := gw_i 484 (by decide +kernel) (by decide +kernel)
theorem qL_118 : GoodIn gw (va_wsS RL 118 yL_pull uL_pull) := gw_S gmL_118 gs_L_pull gi_RL gc_L_pull
theorem gmL_121 : Cond.methodLink RL 121 yX5_pull ∈ gw := gw_i 903 (by decide +kernel) (by decide +kernel)
theorem qL_121 : GoodIn gw (wsV RL 121 RX5 yX5_pull uX5_pull) := gw_V gmL_121 gn_X5_pull ge_X5_pull gi_RX5 gc_X5_pull
theorem gmL_122 : Cond.methodLink RL 122 yL_set ∈ gw := gw_i 516 (by decide +kernel) (by decide +kernel)
theorem qL_122 : GoodIn gw (va_wsS RL 122 yL_set uL_set) := gw_S gmL_122 gs_L_set gi_RL gc_L_set
theorem gmL_124 : Cond.methodLink RL 124 yX5_set ∈ gw := gw_i 923 (by decide +kernel) (by decide +kernel)
theorem qL_124 : GoodIn gw (wsV RL 124 RX5 yX5_set uX5_set) := gw_V gmL_124 gn_X5_set ge_X5_set gi_RX5 gc_X5_set
theorem gmL_125 : Cond.methodLink RL 125 yL_run ∈ gw := gw_i 529 (by decide +kernel) (by decide +kernel)
theorem qL_125 : GoodIn gw (va_wsS RL 125 yL_run uL_run) := gw_S gmL_125 gs_L_run gi_RL gc_L_run
theorem gmL_127 : Cond.methodLink RL 127 yX5_run ∈ gw := gw_i 933 (by decide +kernel) (by decide +kernel)
theorem qL_127 : GoodIn gw (wsV RL 127 RX5 yX5_run uX5_run) := gw_V gmL_127 gn_X5_run ge_X5_run gi_RX5 gc_X5_run
theorem gmL_128 : Cond.methodLink RL 128 yL_append ∈ gw := gw_i 604 (by decide +kernel) (by decide +kernel)
theorem qL_128 : GoodIn gw (va_wsS RL 128 yL_append uL_append) := gw_S gmL_128 gs_L_append gi_RL gc_L_append
theorem gmL_130 : Cond.methodLink RL 130 yX5_append ∈ gw := gw_i 972 (by decide +kernel) (by decide +kernel)
theorem qL_130 : GoodIn gw (wsV RL 130 RX5 yX5_append uX5_append) := gw_V gmL_130 gn_X5_append ge_X5_append gi_RX5 gc_X5_append
theorem gmL_131 : Cond.methodLink RL 131 yX4_clearBuffer ∈ gw := gw_i 229 (by decide +kernel) (by decide +kernel)
theorem qL_131 : GoodIn gw (wsV RL 131 RX4 yX4_clearBuffer uX4_clearBuffer) := gw_V gmL_131 gn_X4_clearBuffer ge_X4_clearBuffer gi_RX4 gc_X4_clearBuffer
theorem gmL_134 : Cond.methodLink RL 134 yX5_clearBuffer ∈ gw := gw_i 976 (by decide +kernel) (by decide +kernel)
theorem qL_134 : GoodIn gw (wsV RL 134 RX5 yX5_clearBuffer uX5_clearBuffer) := gw_V gmL_134 gn_X5_clearBuffer ge_X5_clearBuffer gi_RX5 gc_X5_clearBuffer
theorem gmL_135 : Cond.methodLink RL 135 yX4_firstError ∈ gw := gw_i 233 (by decide +kernel) (by decide +kernel)
theorem qL_135 : GoodIn gw (wsV RL 135 RX4 yX4_firstError uX4_firstError) := gw_V gmL_135 gn_X4_firstError ge_X4_firstError gi_RX4 gc_X4_firstError
theorem gmL_138 : Cond.methodLink RL 138 yX5_firstError ∈ gw := gw_i 980 (by decide +kernel) (by decide +kernel)
theorem qL_138 : GoodIn gw (wsV RL 138 RX5 yX5_firstError uX5_firstError) := gw_V gmL_138 gn_X5_firstError ge_X5_firstError gi_RX5 gc_X5_firstError
theorem gmL_139 : Cond.methodLink RL 139 yL_execute ∈ gw := gw_i 615 (by decide +kernel) (by decide +kernel)
theorem qL_139 : GoodIn gw (va_wsS RL 139 yL_execute uL_execute) := gw_S gmL_139 gs_L_execute gi_RL gc_L_execute
theorem gmL_141 : Cond.methodLink RL 141 yX5_execute ∈ gw := gw_i 1008 (by decide +kernel) (by decide +kernel)
theorem qL_141 : GoodIn gw (wsV RL 141 RX5 yX5_execute uX5_execute) := gw_V gmL_141 gn_X5_execute ge_X5_execute gi_RX5 gc_X5_execute
theorem gmL_142 : Cond.methodLink RL 142 yL_undo ∈ gw := gw_i 643 (by decide +kernel) (by decide +kernel)
theorem qL_142 : GoodIn gw (va_wsS RL 142 yL_undo uL_undo) := gw_S gmL_142 gs_L_undo gi_RL gc_L_undo
theorem gmL_144 : Cond.methodLink RL 144 yX5_undo ∈ gw := gw_i 1016 (by decide +kernel) (by decide +kernel)
theorem qL_144 : GoodIn gw (wsV RL 144 RX5 yX5_undo uX5_undo) := gw_V gmL_144 gn_X5_undo ge_X5_undo gi_RX5 gc_X5_undo
theorem gmL_145 : Cond.methodLink RL 145 yL_keep ∈ gw := gw_i 654 (by decide +kernel) (by decide +kernel)
theorem qL_145 : GoodIn gw (va_wsS RL 145 yL_keep uL_keep) := gw_S gmL_145 gs_L_keep gi_RL gc_L_keep
theorem gmL_147 : Cond.methodLink RL 147 yX5_keep ∈ gw := gw_i 1020 (by decide +kernel) (by decide +kernel)
theorem qL_147 : GoodIn gw (wsV RL 147 RX5 yX5_keep uX5_keep) := gw_V gmL_147 gn_X5_keep ge_X5_keep gi_RX5 gc_X5_keep
theorem gmL_148 : Cond.methodLink RL 148 yL_goBack ∈ gw := gw_i 662 (by decide +kernel) (by decide +kernel)
theorem qL_148 : GoodIn gw (va_wsS RL 148 yL_goBack uL_goBack) := gw_S gmL_148 gs_L_goBack gi_RL gc_L_goBack
theorem gmL_150 : Cond.methodLink RL 150 yX5_goBack ∈ gw := gw_i 1024 (by decide +kernel) (by decide +kernel)
theorem qL_150 : GoodIn gw (wsV RL 150 RX5 yX5_goBack uX5_goBack) := gw_V gmL_150 gn_X5_goBack ge_X5_goBack gi_RX5 gc_X5_goBack
theorem gmL_151 : Cond.methodLink RL 151 yL_section ∈ gw := gw_i 669 (by decide +kernel) (by decide +kernel)
theorem qL_151 : GoodIn gw (va_wsS RL 151 yL_section uL_section) := gw_S gmL_151 gs_L_section gi_RL gc_L_section
theorem gmL_153 : Cond.methodLink RL 153 yX5_section ∈ gw := gw_i 1028 (by decide +kernel) (by decide +kernel)
theorem qL_153 : GoodIn gw (wsV RL 153 RX5 yX5_section uX5_section) := gw_V gmL_153 gn_X5_section ge_X5_section gi_RX5 gc_X5_section
theorem gmL_154 : Cond.methodLink RL 154 yL_carOf ∈ gw := gw_i 677 (by decide +kernel) (by decide +kernel)
theorem qL_154 : GoodIn gw (va_wsS RL 154 yL_carOf uL_carOf) := gw_S gmL_154 gs_L_carOf gi_RL gc_L_carOf
theorem gmL_156 : Cond.methodLink RL 156 yX5_carOf ∈ gw := gw_i 1036 (by decide +kernel) (by decide +kernel)
theorem qL_156 : GoodIn gw (wsV RL 156 RX5 yX5_carOf uX5_carOf) := gw_V gmL_156 gn_X5_carOf ge_X5_carOf gi_RX5 gc_X5_carOf
theorem gmL_157 : Cond.methodLink RL 157 yL_cars ∈ gw := gw_i 688 (by decide +kernel) (by decide +kernel)
theorem qL_157 : GoodIn gw (va_wsS RL 157 yL_cars uL_cars) := gw_S gmL_157 gs_L_cars gi_RL gc_L_cars
theorem gmL_159 : Cond.methodLink RL 159 yX5_cars ∈ gw := gw_i 1040 (by decide +kernel) (by decide +kernel)
theorem qL_159 : GoodIn gw (wsV RL 159 RX5 yX5_cars uX5_cars) := gw_V gmL_159 gn_X5_cars ge_X5_cars gi_RX5 gc_X5_cars
theorem gmL_160 : Cond.methodLink RL 160 yL_rolling ∈ gw := gw_i 696 (by decide +kernel) (by decide +kernel)
theorem qL_160 : GoodIn gw (va_wsS RL 160 yL_rolling uL_rolling) := gw_S gmL_160 gs_L_rolling gi_RL gc_L_rolling
theorem gmL_162 : Cond.methodLink RL 162 yX5_rolling ∈ gw := gw_i 1044 (by decide +kernel) (by decide +kernel)
theorem qL_162 : GoodIn gw (wsV RL 162 RX5 yX5_rolling uX5_rolling) := gw_V gmL_162 gn_X5_rolling ge_X5_rolling gi_RX5 gc_X5_rolling
theorem gmL_163 : Cond.methodLink RL 163 yL_count ∈ gw := gw_i 704 (by decide +kernel) (by decide +kernel)
theorem qL_163 : GoodIn gw (va_wsS RL 163 yL_count uL_count) := gw_S gmL_163 gs_L_count gi_RL gc_L_count
theorem gmL_165 : Cond.methodLink RL 165 yX5_count ∈ gw := gw_i 1048 (by decide +kernel) (by decide +kernel)
theorem qL_165 : GoodIn gw (wsV RL 165 RX5 yX5_count uX5_count) := gw_V gmL_165 gn_X5_count ge_X5_count gi_RX5 gc_X5_count
theorem gmL_166 : Cond.methodLink RL 166 yL_refusal ∈ gw := gw_i 720 (by decide +kernel) (by decide +kernel)
theorem qL_166 : GoodIn gw (va_wsS RL 166 yL_refusal uL_refusal) := gw_S gmL_166 gs_L_refusal gi_RL gc_L_refusal
theorem gmL_169 : Cond.methodLink RL 169 yX5_refusal ∈ gw := gw_i 1056 (by decide +kernel) (by decide +kernel)
theorem qL_169 : GoodIn gw (wsV RL 169 RX5 yX5_refusal uX5_refusal) := gw_V gmL_169 gn_X5_refusal ge_X5_refusal gi_RX5 gc_X5_refusal
theorem gmL_170 : Cond.methodLink RL 170 yL_ifAlone ∈ gw := gw_i 729 (by decide +kernel) (by decide +kernel)
theorem qL_170 : GoodIn gw (va_wsS RL 170 yL_ifAlone uL_ifAlone) := gw_S gmL_170 gs_L_ifAlone gi_RL gc_L_ifAlone
theorem gmL_173 : Cond.methodLink RL 173 yX5_ifAlone ∈ gw := gw_i 1060 (by decide +kernel) (by decide +kernel)
theorem qL_173 : GoodIn gw (wsV RL 173 RX5 yX5_ifAlone uX5_ifAlone) := gw_V gmL_173 gn_X5_ifAlone ge_X5_ifAlone gi_RX5 gc_X5_ifAlone
theorem gmL_174 : Cond.methodLink RL 174 yL_leastBrake ∈ gw := gw_i 745 (by decide +kernel) (by decide +kernel)
theorem qL_174 : GoodIn gw (va_wsS RL 174 yL_leastBrake uL_leastBrake) := gw_S gmL_174 gs_L_leastBrake gi_RL gc_L_leastBrake
theorem gmL_176 : Cond.methodLink RL 176 yX5_leastBrake ∈ gw := gw_i 1076 (by decide +kernel) (by decide +kernel)
theorem qL_176 : GoodIn gw (wsV RL 176 RX5 yX5_leastBrake uX5_leastBrake) := gw_V gmL_176 gn_X5_leastBrake ge_X5_leastBrake gi_RX5 gc_X5_leastBrake
theorem gmL_177 : Cond.methodLink RL 177 yL_ifRun ∈ gw := gw_i 752 (by decide +kernel) (by decide +kernel)
theorem qL_177 : GoodIn gw (va_wsS RL 177 yL_ifRun uL_ifRun) := gw_S gmL_177 gs_L_ifRun gi_RL gc_L_ifRun
theorem gmL_179 : Cond.methodLink RL 179 yX5_ifRun ∈ gw := gw_i 1080 (by decide +kernel) (by decide +kernel)
theorem qL_179 : GoodIn gw (wsV RL 179 RX5 yX5_ifRun uX5_ifRun) := gw_V gmL_179 gn_X5_ifRun ge_X5_ifRun gi_RX5 gc_X5_ifRun
theorem gmL_180 : Cond.methodLink RL 180 yX4_meanSpeed ∈ gw := gw_i 260 (by decide +kernel) (by decide +kernel)
theorem qL_180 : GoodIn gw (wsV RL 180 RX4 yX4_meanSpeed uX4_meanSpeed) := gw_V gmL_180 gn_X4_meanSpeed ge_X4_meanSpeed gi_RX4 gc_X4_meanSpeed
theorem gmL_184 : Cond.methodLink RL 184 yX5_meanSpeed ∈ gw := gw_i 1088 (by decide +kernel) (by decide +kernel)
theorem qL_184 : GoodIn gw (wsV RL 184 RX5 yX5_meanSpeed uX5_meanSpeed) := gw_V gmL_184 gn_X5_meanSpeed ge_X5_meanSpeed gi_RX5 gc_X5_meanSpeed
theorem gmX0_39 : Cond.methodLink RX0 39 yX0_force ∈ gw := gw_i 568 (by decide +kernel) (by decide +kernel)
theorem qX0_39 : GoodIn gw (wsV RX0 39 RX0 yX0_force uX0_force) := gw_V gmX0_39 gn_X0_force ge_X0_force gi_RX0 gc_X0_force
theorem gmX0_52 : Cond.methodLink RX0 52 yX0_coolDown ∈ gw := gw_i 578 (by decide +kernel) (by decide +kernel)
theorem qX0_52 : GoodIn gw (wsV RX0 52 RX0 yX0_coolDown uX0_coolDown) := gw_V gmX0_52 gn_X0_coolDown ge_X0_coolDown gi_RX0 gc_X0_coolDown
theorem gmX1_17 : Cond.methodLink RX1 17 yX3_init ∈ gw := gw_i 182 (by decide +kernel) (by decide +kernel)
theorem gmX1_22 : Cond.methodLink RX1 22 yX3_copyFrom ∈ gw := gw_i 370 (by decide +kernel) (by decide +kernel)
theorem qX1_22 : GoodIn gw (wsV RX1 22 RX3 yX3_copyFrom uX3_copyFrom) := gw_V gmX1_22 gn_X3_copyFrom ge_X3_copyFrom gi_RX3 gc_X3_copyFrom
theorem gmX2_19 : Cond.methodLink RX2 19 yX2_signAt ∈ gw := gw_i 241 (by decide +kernel) (by decide +kernel)
theorem qX2_19 : GoodIn gw (wsV RX2 19 RX2 yX2_signAt uX2_signAt) := gw_V gmX2_19 gn_X2_signAt ge_X2_signAt gi_RX2 gc_X2_signAt
theorem gmX2_23 : Cond.methodLink RX2 23 yX2_dueAfter ∈ gw := gw_i 245 (by decide +kernel) (by decide +kernel)
theorem qX2_23 : GoodIn gw (va_wsS RX2 23 yX2_dueAfter uX2_dueAfter) := gw_S gmX2_23 gs_X2_dueAfter gi_RX2 gc_X2_dueAfter
theorem gmX2_27 : Cond.methodLink RX2 27 yX2_dueAfterLetter ∈ gw := gw_i 248 (by decide +kernel) (by decide +kernel)
theorem qX2_27 : GoodIn gw (va_wsS RX2 27 yX2_dueAfterLetter uX2_dueAfterLetter) := gw_S gmX2_27 gs_X2_dueAfterLetter gi_RX2 gc_X2_dueAfterLetter
theorem gmX2_31 : Cond.methodLink RX2 31 yX2_isDigit ∈ gw := gw_i 251 (by decide +kernel) (by decide +kernel)
theorem qX2_31 : GoodIn gw (va_wsS RX2 31 yX2_isDigit uX2_isDigit) := gw_S gmX2_31 gs_X2_isDigit gi_RX2 gc_X2_isDigit
theorem gmX2_35 : Cond.methodLink RX2 35 yX2_dueAfterFirstDigit ∈ gw := gw_i 254 (by decide +kernel) (by decide +kernel)
theorem qX2_35 : GoodIn gw (va_wsS RX2 35 yX2_dueAfterFirstDigit uX2_dueAfterFirstDigit) := gw_S gmX2_35 gs_X2_dueAfterFirstDigit gi_RX2 gc_X2_dueAfterFirstDigit
theorem gmX2_39 : Cond.methodLink RX2 39 yX2_dueAfterEnd ∈ gw := gw_i 257 (by decide +kernel) (by decide +kernel)
theorem qX2_39 : GoodIn gw (va_wsS RX2 39 yX2_dueAfterEnd uX2_dueAfterEnd) := gw_S gmX2_39 gs_X2_dueAfterEnd gi_RX2 gc_X2_dueAfterEnd
theorem gmX3_40 : Cond.methodLink RX3 40 yX0_copyFrom ∈ gw := gw_i 377 (by decide +kernel) (by decide +kernel)
theorem qX3_40 : GoodIn gw (wsV RX3 40 RX0 yX0_copyFrom uX0_copyFrom) := gw_V gmX3_40 gn_X0_copyFrom ge_X0_copyFrom gi_RX0 gc_X0_copyFrom
theorem gmX3_63 : Cond.methodLink RX3 63 yX3_hasCar ∈ gw := gw_i 445 (by decide +kernel) (by decide +kernel)
theorem qX3_63 : GoodIn gw (wsV RX3 63 RX3 yX3_hasCar uX3_hasCar) := gw_V gmX3_63 gn_X3_hasCar ge_X3_hasCar gi_RX3 gc_X3_hasCar
theorem gmX3_70 : Cond.methodLink RX3 70 yX0_makeNew ∈ gw := gw_i 426 (by decide +kernel) (by decide +kernel)
theorem qX3_70 : GoodIn gw (wsV RX3 70 RX0 yX0_makeNew uX0_makeNew) := gw_V gmX3_70 gn_X0_makeNew ge_X0_makeNew gi_RX0 gc_X0_makeNew
theorem gmX3_76 : Cond.methodLink RX3 76 yX3_carsInSection ∈ gw := gw_i 465 (by decide +kernel) (by decide +kernel)
theorem qX3_76 : GoodIn gw (wsV RX3 76 RX3 yX3_carsInSection uX3_carsInSection) := gw_V gmX3_76 gn_X3_carsInSection ge_X3_carsInSection gi_RX3 gc_X3_carsInSection
theorem gmX3_80 : Cond.methodLink RX3 80 yX3_releaseRefusal ∈ gw := gw_i 461 (by decide +kernel) (by decide +kernel)
theorem qX3_80 : GoodIn gw (wsV RX3 80 RX3 yX3_releaseRefusal uX3_releaseRefusal) := gw_V gmX3_80 gn_X3_releaseRefusal ge_X3_releaseRefusal gi_RX3 gc_X3_releaseRefusal
theorem gmX3_87 : Cond.methodLink RX3 87 yX3_freeMules ∈ gw := gw_i 499 (by decide +kernel) (by decide +kernel)
theorem qX3_87 : GoodIn gw (wsV RX3 87 RX3 yX3_freeMules uX3_freeMules) := gw_V gmX3_87 gn_X3_freeMules ge_X3_freeMules gi_RX3 gc_X3_freeMules
theorem gmX3_91 : Cond.methodLink RX3 91 yX3_pullRefusal ∈ gw := gw_i 495 (by decide +kernel) (by decide +kernel)
theorem qX3_91 : GoodIn gw (wsV RX3 91 RX3 yX3_pullRefusal uX3_pullRefusal) := gw_V gmX3_91 gn_X3_pullRefusal ge_X3_pullRefusal gi_RX3 gc_X3_pullRefusal
theorem gmX3_94 : Cond.methodLink RX3 94 yX3_passTick ∈ gw := gw_i 540 (by decide +kernel) (by decide +kernel)
theorem qX3_94 : GoodIn gw (wsV RX3 94 RX3 yX3_passTick uX3_passTick) := gw_V gmX3_94 gn_X3_passTick ge_X3_passTick gi_RX3 gc_X3_passTick
theorem gmX3_97 : Cond.methodLink RX3 97 yX3_carsInState ∈ gw := gw_i 503 (by decide +kernel) (by decide +kernel)
theorem qX3_97 : GoodIn gw (wsV RX3 97 RX3 yX3_carsInState uX3_carsInState) := gw_V gmX3_97 gn_X3_carsInState ge_X3_carsInState gi_RX3 gc_X3_carsInState
theorem gmX3_100 : Cond.methodLink RX3 100 yX3_lineUp ∈ gw := gw_i 544 (by decide +kernel) (by decide +kernel)
theorem qX3_100 : GoodIn gw (wsV RX3 100 RX3 yX3_lineUp uX3_lineUp) := gw_V gmX3_100 gn_X3_lineUp ge_X3_lineUp gi_RX3 gc_X3_lineUp
theorem gmX3_103 : Cond.methodLink RX3 103 yX3_moveCar ∈ gw := gw_i 556 (by decide +kernel) (by decide +kernel)
theorem qX3_103 : GoodIn gw (wsV RX3 103 RX3 yX3_moveCar uX3_moveCar) := gw_V gmX3_103 gn_X3_moveCar ge_X3_moveCar gi_RX3 gc_X3_moveCar
theorem gmX3_107 : Cond.methodLink RX3 107 yX0_coolDown ∈ gw := gw_i 599 (by decide +kernel) (by decide +kernel)
theorem qX3_107 : GoodIn gw (wsV RX3 107 RX0 yX0_coolDown uX0_coolDown) := gw_V gmX3_107 gn_X0_coolDown ge_X0_coolDown gi_RX0 gc_X0_coolDown
theorem gmX3_110 : Cond.methodLink RX3 110 yX3_pullOn ∈ gw := gw_i 600 (by decide +kernel) (by decide +kernel)
theorem qX3_110 : GoodIn gw (wsV RX3 110 RX3 yX3_pullOn uX3_pullOn) := gw_V gmX3_110 gn_X3_pullOn ge_X3_pullOn gi_RX3 gc_X3_pullOn
theorem gmX3_113 : Cond.methodLink RX3 113 yX3_rankOf ∈ gw := gw_i 548 (by decide +kernel) (by decide +kernel)
theorem qX3_113 : GoodIn gw (wsV RX3 113 RX3 yX3_rankOf uX3_rankOf) := gw_V gmX3_113 gn_X3_rankOf ge_X3_rankOf gi_RX3 gc_X3_rankOf
theorem gmX3_116 : Cond.methodLink RX3 116 yX3_isBefore ∈ gw := gw_i 552 (by decide +kernel) (by decide +kernel)
theorem qX3_116 : GoodIn gw (wsV RX3 116 RX3 yX3_isBefore uX3_isBefore) := gw_V gmX3_116 gn_X3_isBefore ge_X3_isBefore gi_RX3 gc_X3_isBefore
theorem gmX3_123 : Cond.methodLink RX3 123 yX3_gradeAt ∈ gw := gw_i 560 (by decide +kernel) (by decide +kernel)
theorem qX3_123 : GoodIn gw (wsV RX3 123 RX3 yX3_gradeAt uX3_gradeAt) := gw_V gmX3_123 gn_X3_gradeAt ge_X3_gradeAt gi_RX3 gc_X3_gradeAt
theorem gmX3_126 : Cond.methodLink RX3 126 yX0_changeSpeed ∈ gw := gw_i 564 (by decide +kernel) (by decide +kernel)
theorem qX3_126 : GoodIn gw (wsV RX3 126 RX0 yX0_changeSpeed uX0_changeSpeed) := gw_V gmX3_126 gn_X0_changeSpeed ge_X0_changeSpeed gi_RX0 gc_X0_changeSpeed
theorem gmX3_129 : Cond.methodLink RX3 129 yX0_changeHeat ∈ gw := gw_i 574 (by decide +kernel) (by decide +kernel)
theorem qX3_129 : GoodIn gw (wsV RX3 129 RX0 yX0_changeHeat uX0_changeHeat) := gw_V gmX3_129 gn_X0_changeHeat ge_X0_changeHeat gi_RX0 gc_X0_changeHeat
theorem gmX3_132 : Cond.methodLink RX3 132 yX3_nextBefore ∈ gw := gw_i 582 (by decide +kernel) (by decide +kernel)
theorem qX3_132 : GoodIn gw (wsV RX3 132 RX3 yX3_nextBefore uX3_nextBefore) := gw_V gmX3_132 gn_X3_nextBefore ge_X3_nextBefore gi_RX3 gc_X3_nextBefore
theorem gmX3_138 : Cond.methodLink RX3 138 yX3_bump ∈ gw := gw_i 586 (by decide +kernel) (by decide +kernel)
theorem qX3_138 : GoodIn gw (wsV RX3 138 RX3 yX3_bump uX3_bump) := gw_V gmX3_138 gn_X3_bump ge_X3_bump gi_RX3 gc_X3_bump
theorem gmX3_142 : Cond.methodLink RX3 142 yX3_runawaySection ∈ gw := gw_i 591 (by decide +kernel) (by decide +kernel)
theorem qX3_142 : GoodIn gw (wsV RX3 142 RX3 yX3_runawaySection uX3_runawaySection) := gw_V gmX3_142 gn_X3_runawaySection ge_X3_runawaySection gi_RX3 gc_X3_runawaySection
theorem gmX3_146 : Cond.methodLink RX3 146 yX3_arrive ∈ gw := gw_i 595 (by decide +kernel) (by decide +kernel)
theorem qX3_146 : GoodIn gw (wsV RX3 146 RX3 yX3_arrive uX3_arrive) := gw_V gmX3_146 gn_X3_arrive ge_X3_arrive gi_RX3 gc_X3_arrive
theorem gmX3_161 : Cond.methodLink RX3 161 yJ6_bitCount_0f7a4 ∈ gw := gw_i 507 (by decide +kernel) (by decide +kernel)
theorem qX3_161 : GoodIn gw (va_wsS RX3 161 yJ6_bitCount_0f7a4 uJ6_bitCount_0f7a4) := gw_S gmX3_161 gs_J6_bitCount_0f7a4 gi_RJ6 gc_J6_bitCount_0f7a4
theorem gmX3_166 : Cond.methodLink RX3 166 yX3_switchCount ∈ gw := gw_i 715 (by decide +kernel) (by decide +kernel)
theorem qX3_166 : GoodIn gw (wsV RX3 166 RX3 yX3_switchCount uX3_switchCount) := gw_V gmX3_166 gn_X3_switchCount ge_X3_switchCount gi_RX3 gc_X3_switchCount
theorem gmX3_169 : Cond.methodLink RX3 169 yX3_oreInCars ∈ gw := gw_i 716 (by decide +kernel) (by decide +kernel)
theorem qX3_169 : GoodIn gw (wsV RX3 169 RX3 yX3_oreInCars uX3_oreInCars) := gw_V gmX3_169 gn_X3_oreInCars ge_X3_oreInCars gi_RX3 gc_X3_oreInCars
theorem gmX4_9 : Cond.methodLink RX4 9 yX3_init ∈ gw := gw_i 76 (by decide +kernel) (by decide +kernel)
theorem gmX4_21 : Cond.methodLink RX4 21 yX1_init ∈ gw := gw_i 176 (by decide +kernel) (by decide +kernel)
theorem gmX4_41 : Cond.methodLink RX4 41 yX4_requireIndex ∈ gw := gw_i 273 (by decide +kernel) (by decide +kernel)
theorem qX4_41 : GoodIn gw (va_wsS RX4 41 yX4_requireIndex uX4_requireIndex) := gw_S gmX4_41 gs_X4_requireIndex gi_RX4 gc_X4_requireIndex
theorem gmX4_45 : Cond.methodLink RX4 45 yX4_isWithin ∈ gw := gw_i 344 (by decide +kernel) (by decide +kernel)
theorem qX4_45 : GoodIn gw (va_wsS RX4 45 yX4_isWithin uX4_isWithin) := gw_S gmX4_45 gs_X4_isWithin gi_RX4 gc_X4_isWithin
theorem gmX4_49 : Cond.methodLink RX4 49 yX4_requireArgument ∈ gw := gw_i 347 (by decide +kernel) (by decide +kernel)
theorem qX4_49 : GoodIn gw (va_wsS RX4 49 yX4_requireArgument uX4_requireArgument) := gw_S gmX4_49 gs_X4_requireArgument gi_RX4 gc_X4_requireArgument
theorem gmX4_52 : Cond.methodLink RX4 52 yX1_push ∈ gw := gw_i 366 (by decide +kernel) (by decide +kernel)
theorem qX4_52 : GoodIn gw (wsV RX4 52 RX1 yX1_push uX1_push) := gw_V gmX4_52 gn_X1_push ge_X1_push gi_RX1 gc_X1_push
theorem gmX4_63 : Cond.methodLink RX4 63 yX3_switchCount ∈ gw := gw_i 392 (by decide +kernel) (by decide +kernel)
theorem qX4_63 : GoodIn gw (wsV RX4 63 RX3 yX3_switchCount uX3_switchCount) := gw_V gmX4_63 gn_X3_switchCount ge_X3_switchCount gi_RX3 gc_X3_switchCount
theorem gmX4_67 : Cond.methodLink RX4 67 yX4_requireState ∈ gw := gw_i 396 (by decide +kernel) (by decide +kernel)
theorem qX4_67 : GoodIn gw (va_wsS RX4 67 yX4_requireState uX4_requireState) := gw_S gmX4_67 gs_X4_requireState gi_RX4 gc_X4_requireState
theorem gmX4_74 : Cond.methodLink RX4 74 yX3_addCar ∈ gw := gw_i 422 (by decide +kernel) (by decide +kernel)
theorem qX4_74 : GoodIn gw (wsV RX4 74 RX3 yX3_addCar uX3_addCar) := gw_V gmX4_74 gn_X3_addCar ge_X3_addCar gi_RX3 gc_X3_addCar
theorem gmX4_77 : Cond.methodLink RX4 77 yX3_hasCar ∈ gw := gw_i 437 (by decide +kernel) (by decide +kernel)
theorem qX4_77 : GoodIn gw (wsV RX4 77 RX3 yX3_hasCar uX3_hasCar) := gw_V gmX4_77 gn_X3_hasCar ge_X3_hasCar gi_RX3 gc_X3_hasCar
theorem gmX4_81 : Cond.methodLink RX4 81 yX3_canLoad ∈ gw := gw_i 441 (by decide +kernel) (by decide +kernel)
theorem qX4_81 : GoodIn gw (wsV RX4 81 RX3 yX3_canLoad uX3_canLoad) := gw_V gmX4_81 gn_X3_canLoad ge_X3_canLoad gi_RX3 gc_X3_canLoad
theorem gmX4_85 : Cond.methodLink RX4 85 yX3_addOre ∈ gw := gw_i 446 (by decide +kernel) (by decide +kernel)
theorem qX4_85 : GoodIn gw (wsV RX4 85 RX3 yX3_addOre uX3_addOre) := gw_V gmX4_85 gn_X3_addOre ge_X3_addOre gi_RX3 gc_X3_addOre
theorem gmX4_89 : Cond.methodLink RX4 89 yX3_letRoll ∈ gw := gw_i 457 (by decide +kernel) (by decide +kernel)
theorem qX4_89 : GoodIn gw (wsV RX4 89 RX3 yX3_letRoll uX3_letRoll) := gw_V gmX4_89 gn_X3_letRoll ge_X3_letRoll gi_RX3 gc_X3_letRoll
theorem gmX4_92 : Cond.methodLink RX4 92 yX3_isRolling ∈ gw := gw_i 476 (by decide +kernel) (by decide +kernel)
theorem qX4_92 : GoodIn gw (wsV RX4 92 RX3 yX3_isRolling uX3_isRolling) := gw_V gmX4_92 gn_X3_isRolling ge_X3_isRolling gi_RX3 gc_X3_isRolling
theorem gmX4_95 : Cond.methodLink RX4 95 yX3_changeBrake ∈ gw := gw_i 480 (by decide +kernel) (by decide +kernel)
theorem qX4_95 : GoodIn gw (wsV RX4 95 RX3 yX3_changeBrake uX3_changeBrake) := gw_V gmX4_95 gn_X3_changeBrake ge_X3_changeBrake gi_RX3 gc_X3_changeBrake
theorem gmX4_98 : Cond.methodLink RX4 98 yX3_harnessMule ∈ gw := gw_i 491 (by decide +kernel) (by decide +kernel)
theorem qX4_98 : GoodIn gw (wsV RX4 98 RX3 yX3_harnessMule uX3_harnessMule) := gw_V gmX4_98 gn_X3_harnessMule ge_X3_harnessMule gi_RX3 gc_X3_harnessMule
theorem gmX4_102 : Cond.methodLink RX4 102 yX4_leastOfSetting ∈ gw := gw_i 523 (by decide +kernel) (by decide +kernel)
theorem qX4_102 : GoodIn gw (va_wsS RX4 102 yX4_leastOfSetting uX4_leastOfSetting) := gw_S gmX4_102 gs_X4_leastOfSetting gi_RX4 gc_X4_leastOfSetting
theorem gmX4_105 : Cond.methodLink RX4 105 yX4_greatestOfSetting ∈ gw := gw_i 526 (by decide +kernel) (by decide +kernel)
theorem qX4_105 : GoodIn gw (va_wsS RX4 105 yX4_greatestOfSetting uX4_greatestOfSetting) := gw_S gmX4_105 gs_X4_greatestOfSetting gi_RX4 gc_X4_greatestOfSetting
theorem gmX4_114 : Cond.methodLink RX4 114 yX3_passTicks ∈ gw := gw_i 536 (by decide +kernel) (by decide +kernel)
theorem qX4_114 : GoodIn gw (wsV RX4 114 RX3 yX3_passTicks uX3_passTicks) := gw_V gmX4_114 gn_X3_passTicks ge_X3_passTicks gi_RX3 gc_X3_passTicks
theorem gmX4_118 : Cond.methodLink RX4 118 yX2_addSign ∈ gw := gw_i 611 (by decide +kernel) (by decide +kernel)
theorem qX4_118 : GoodIn gw (wsV RX4 118 RX2 yX2_addSign uX2_addSign) := gw_V gmX4_118 gn_X2_addSign ge_X2_addSign gi_RX2 gc_X2_addSign
theorem gmX4_125 : Cond.methodLink RX4 125 yX2_errorIndex ∈ gw := gw_i 237 (by decide +kernel) (by decide +kernel)
theorem qX4_125 : GoodIn gw (wsV RX4 125 RX2 yX2_errorIndex uX2_errorIndex) := gw_V gmX4_125 gn_X2_errorIndex ge_X2_errorIndex gi_RX2 gc_X2_errorIndex
theorem gmX4_128 : Cond.methodLink RX4 128 yX2_isComplete ∈ gw := gw_i 622 (by decide +kernel) (by decide +kernel)
theorem qX4_128 : GoodIn gw (wsV RX4 128 RX2 yX2_isComplete uX2_isComplete) := gw_V gmX4_128 gn_X2_isComplete ge_X2_isComplete gi_RX2 gc_X2_isComplete
theorem gmX4_132 : Cond.methodLink RX4 132 yX2_isOrderEnd ∈ gw := gw_i 626 (by decide +kernel) (by decide +kernel)
theorem qX4_132 : GoodIn gw (wsV RX4 132 RX2 yX2_isOrderEnd uX2_isOrderEnd) := gw_V gmX4_132 gn_X2_isOrderEnd ge_X2_isOrderEnd gi_RX2 gc_X2_isOrderEnd
theorem gmX4_135 : Cond.methodLink RX4 135 yX4_perform ∈ gw := gw_i 630 (by decide +kernel) (by decide +kernel)
theorem qX4_135 : GoodIn gw (wsV RX4 135 RX4 yX4_perform uX4_perform) := gw_V gmX4_135 gn_X4_perform ge_X4_perform gi_RX4 gc_X4_perform
theorem gmX4_141 : Cond.methodLink RX4 141 yX1_popInto ∈ gw := gw_i 650 (by decide +kernel) (by decide +kernel)
theorem qX4_141 : GoodIn gw (wsV RX4 141 RX1 yX1_popInto uX1_popInto) := gw_V gmX4_141 gn_X1_popInto ge_X1_popInto gi_RX1 gc_X1_popInto
theorem gmX4_144 : Cond.methodLink RX4 144 yX3_copyFrom ∈ gw := gw_i 661 (by decide +kernel) (by decide +kernel)
theorem qX4_144 : GoodIn gw (wsV RX4 144 RX3 yX3_copyFrom uX3_copyFrom) := gw_V gmX4_144 gn_X3_copyFrom ge_X3_copyFrom gi_RX3 gc_X3_copyFrom
theorem gmX4_150 : Cond.methodLink RX4 150 yX3_carsInSection ∈ gw := gw_i 676 (by decide +kernel) (by decide +kernel)
theorem qX4_150 : GoodIn gw (wsV RX4 150 RX3 yX3_carsInSection uX3_carsInSection) := gw_V gmX4_150 gn_X3_carsInSection ge_X3_carsInSection gi_RX3 gc_X3_carsInSection
theorem gmX4_160 : Cond.methodLink RX4 160 yX0_number ∈ gw := gw_i 684 (by decide +kernel) (by decide +kernel)
theorem qX4_160 : GoodIn gw (wsV RX4 160 RX0 yX0_number uX0_number) := gw_V gmX4_160 gn_X0_number ge_X0_number gi_RX0 gc_X0_number
theorem gmX4_165 : Cond.methodLink RX4 165 yX3_carsInState ∈ gw := gw_i 695 (by decide +kernel) (by decide +kernel)
theorem qX4_165 : GoodIn gw (wsV RX4 165 RX3 yX3_carsInState uX3_carsInState) := gw_V gmX4_165 gn_X3_carsInState ge_X3_carsInState gi_RX3 gc_X3_carsInState
theorem gmX4_171 : Cond.methodLink RX4 171 yX3_rankOf ∈ gw := gw_i 703 (by decide +kernel) (by decide +kernel)
theorem qX4_171 : GoodIn gw (wsV RX4 171 RX3 yX3_rankOf uX3_rankOf) := gw_V gmX4_171 gn_X3_rankOf ge_X3_rankOf gi_RX3 gc_X3_rankOf
theorem gmX4_174 : Cond.methodLink RX4 174 yX3_number ∈ gw := gw_i 711 (by decide +kernel) (by decide +kernel)
theorem qX4_174 : GoodIn gw (wsV RX4 174 RX3 yX3_number uX3_number) := gw_V gmX4_174 gn_X3_number ge_X3_number gi_RX3 gc_X3_number
theorem gmX4_175 : Cond.methodLink RX4 175 yX3_releaseRefusal ∈ gw := gw_i 727 (by decide +kernel) (by decide +kernel)
theorem qX4_175 : GoodIn gw (wsV RX4 175 RX3 yX3_releaseRefusal uX3_releaseRefusal) := gw_V gmX4_175 gn_X3_releaseRefusal ge_X3_releaseRefusal gi_RX3 gc_X3_releaseRefusal
theorem gmX4_178 : Cond.methodLink RX4 178 yX3_pullRefusal ∈ gw := gw_i 728 (by decide +kernel) (by decide +kernel)
theorem qX4_178 : GoodIn gw (wsV RX4 178 RX3 yX3_pullRefusal uX3_pullRefusal) := gw_V gmX4_178 gn_X3_pullRefusal ge_X3_pullRefusal gi_RX3 gc_X3_pullRefusal
theorem gmX4_181 : Cond.methodLink RX4 181 yX4_tryAlone ∈ gw := gw_i 736 (by decide +kernel) (by decide +kernel)
theorem qX4_181 : GoodIn gw (wsV RX4 181 RX4 yX4_tryAlone uX4_tryAlone) := gw_V gmX4_181 gn_X4_tryAlone ge_X4_tryAlone gi_RX4 gc_X4_tryAlone
theorem gmX4_194 : Cond.methodLink RX4 194 yX3_bumps ∈ gw := gw_i 759 (by decide +kernel) (by decide +kernel)
theorem qX4_194 : GoodIn gw (wsV RX4 194 RX3 yX3_bumps uX3_bumps) := gw_V gmX4_194 gn_X3_bumps ge_X3_bumps gi_RX3 gc_X3_bumps
theorem gmX4_217 : Cond.methodLink RX4 217 yX2_signAt ∈ gw := gw_i 634 (by decide +kernel) (by decide +kernel)
theorem qX4_217 : GoodIn gw (wsV RX4 217 RX2 yX2_signAt uX2_signAt) := gw_V gmX4_217 gn_X2_signAt ge_X2_signAt gi_RX2 gc_X2_signAt
theorem gmX4_221 : Cond.methodLink RX4 221 yX2_numberAt ∈ gw := gw_i 635 (by decide +kernel) (by decide +kernel)
theorem qX4_221 : GoodIn gw (wsV RX4 221 RX2 yX2_numberAt uX2_numberAt) := gw_V gmX4_221 gn_X2_numberAt ge_X2_numberAt gi_RX2 gc_X2_numberAt
theorem gmX4_224 : Cond.methodLink RX4 224 yX4_performOn ∈ gw := gw_i 639 (by decide +kernel) (by decide +kernel)
theorem qX4_224 : GoodIn gw (wsV RX4 224 RX4 yX4_performOn uX4_performOn) := gw_V gmX4_224 gn_X4_performOn ge_X4_performOn gi_RX4 gc_X4_performOn
theorem gmX4_228 : Cond.methodLink RX4 228 yX3_leaveOneCar ∈ gw := gw_i 740 (by decide +kernel) (by decide +kernel)
theorem qX4_228 : GoodIn gw (wsV RX4 228 RX3 yX3_leaveOneCar uX3_leaveOneCar) := gw_V gmX4_228 gn_X3_leaveOneCar ge_X3_leaveOneCar gi_RX3 gc_X3_leaveOneCar
theorem gmX4_232 : Cond.methodLink RX4 232 yX3_passTick ∈ gw := gw_i 744 (by decide +kernel) (by decide +kernel)
theorem qX4_232 : GoodIn gw (wsV RX4 232 RX3 yX3_passTick uX3_passTick) := gw_V gmX4_232 gn_X3_passTick ge_X3_passTick gi_RX3 gc_X3_passTick
theorem gmX5_39 : Cond.methodLink RX5 39 yX5_in ∈ gw := gw_i 826 (by decide +kernel) (by decide +kernel)
theorem qX5_39 : GoodIn gw (va_wsS RX5 39 yX5_in uX5_in) := gw_S gmX5_39 gs_X5_in gi_RX5 gc_X5_in
theorem gmX5_43 : Cond.methodLink RX5 43 yX5_of ∈ gw := gw_i 853 (by decide +kernel) (by decide +kernel)
theorem qX5_43 : GoodIn gw (va_wsS RX5 43 yX5_of uX5_of) := gw_S gmX5_43 gs_X5_of gi_RX5 gc_X5_of
theorem gmX5_50 : Cond.methodLink RX5 50 yX5_refused ∈ gw := gw_i 829 (by decide +kernel) (by decide +kernel)
theorem qX5_50 : GoodIn gw (wsV RX5 50 RX5 yX5_refused uX5_refused) := gw_V gmX5_50 gn_X5_refused ge_X5_refused gi_RX5 gc_X5_refused
theorem gmX5_54 : Cond.methodLink RX5 54 yX5_saves ∈ gw := gw_i 833 (by decide +kernel) (by decide +kernel)
theorem qX5_54 : GoodIn gw (wsV RX5 54 RX5 yX5_saves uX5_saves) := gw_V gmX5_54 gn_X5_saves ge_X5_saves gi_RX5 gc_X5_saves
theorem gmX5_57 : Cond.methodLink RX5 57 yX5_switches ∈ gw := gw_i 841 (by decide +kernel) (by decide +kernel)
theorem qX5_57 : GoodIn gw (wsV RX5 57 RX5 yX5_switches uX5_switches) := gw_V gmX5_57 gn_X5_switches ge_X5_switches gi_RX5 gc_X5_switches
theorem gmX5_61 : Cond.methodLink RX5 61 yX5_adds ∈ gw := gw_i 849 (by decide +kernel) (by decide +kernel)
theorem qX5_61 : GoodIn gw (wsV RX5 61 RX5 yX5_adds uX5_adds) := gw_V gmX5_61 gn_X5_adds ge_X5_adds gi_RX5 gc_X5_adds
theorem gmX5_64 : Cond.methodLink RX5 64 yX5_isCar ∈ gw := gw_i 864 (by decide +kernel) (by decide +kernel)
theorem qX5_64 : GoodIn gw (wsV RX5 64 RX5 yX5_isCar uX5_isCar) := gw_V gmX5_64 gn_X5_isCar ge_X5_isCar gi_RX5 gc_X5_isCar
theorem gmX5_67 : Cond.methodLink RX5 67 yX5_isIn ∈ gw := gw_i 868 (by decide +kernel) (by decide +kernel)
theorem qX5_67 : GoodIn gw (wsV RX5 67 RX5 yX5_isIn uX5_isIn) := gw_V gmX5_67 gn_X5_isIn ge_X5_isIn gi_RX5 gc_X5_isIn
theorem gmX5_71 : Cond.methodLink RX5 71 yX5_barLoad ∈ gw := gw_i 860 (by decide +kernel) (by decide +kernel)
theorem qX5_71 : GoodIn gw (wsV RX5 71 RX5 yX5_barLoad uX5_barLoad) := gw_V gmX5_71 gn_X5_barLoad ge_X5_barLoad gi_RX5 gc_X5_barLoad
theorem gmX5_74 : Cond.methodLink RX5 74 yX5_loads ∈ gw := gw_i 872 (by decide +kernel) (by decide +kernel)
theorem qX5_74 : GoodIn gw (wsV RX5 74 RX5 yX5_loads uX5_loads) := gw_V gmX5_74 gn_X5_loads ge_X5_loads gi_RX5 gc_X5_loads
theorem gmX5_77 : Cond.methodLink RX5 77 yX5_pulled ∈ gw := gw_i 919 (by decide +kernel) (by decide +kernel)
theorem qX5_77 : GoodIn gw (wsV RX5 77 RX5 yX5_pulled uX5_pulled) := gw_V gmX5_77 gn_X5_pulled ge_X5_pulled gi_RX5 gc_X5_pulled
theorem gmX5_80 : Cond.methodLink RX5 80 yX5_mules ∈ gw := gw_i 915 (by decide +kernel) (by decide +kernel)
theorem qX5_80 : GoodIn gw (wsV RX5 80 RX5 yX5_mules uX5_mules) := gw_V gmX5_80 gn_X5_mules ge_X5_mules gi_RX5 gc_X5_mules
theorem gmX5_83 : Cond.methodLink RX5 83 yX5_noRelease ∈ gw := gw_i 887 (by decide +kernel) (by decide +kernel)
theorem qX5_83 : GoodIn gw (wsV RX5 83 RX5 yX5_noRelease uX5_noRelease) := gw_V gmX5_83 gn_X5_noRelease ge_X5_noRelease gi_RX5 gc_X5_noRelease
theorem gmX5_87 : Cond.methodLink RX5 87 yX5_noPull ∈ gw := gw_i 911 (by decide +kernel) (by decide +kernel)
theorem qX5_87 : GoodIn gw (wsV RX5 87 RX5 yX5_noPull uX5_noPull) := gw_V gmX5_87 gn_X5_noPull ge_X5_noPull gi_RX5 gc_X5_noPull
theorem gmX5_90 : Cond.methodLink RX5 90 yX5_isBrake ∈ gw := gw_i 880 (by decide +kernel) (by decide +kernel)
theorem qX5_90 : GoodIn gw (va_wsS RX5 90 yX5_isBrake uX5_isBrake) := gw_S gmX5_90 gs_X5_isBrake gi_RX5 gc_X5_isBrake
theorem gmX5_93 : Cond.methodLink RX5 93 yX5_releases ∈ gw := gw_i 883 (by decide +kernel) (by decide +kernel)
theorem qX5_93 : GoodIn gw (wsV RX5 93 RX5 yX5_releases uX5_releases) := gw_V gmX5_93 gn_X5_releases ge_X5_releases gi_RX5 gc_X5_releases
theorem gmX5_96 : Cond.methodLink RX5 96 yX5_barBrake ∈ gw := gw_i 895 (by decide +kernel) (by decide +kernel)
theorem qX5_96 : GoodIn gw (wsV RX5 96 RX5 yX5_barBrake uX5_barBrake) := gw_V gmX5_96 gn_X5_barBrake ge_X5_barBrake gi_RX5 gc_X5_barBrake
theorem gmX5_99 : Cond.methodLink RX5 99 yX5_brakes ∈ gw := gw_i 899 (by decide +kernel) (by decide +kernel)
theorem qX5_99 : GoodIn gw (wsV RX5 99 RX5 yX5_brakes uX5_brakes) := gw_V gmX5_99 gn_X5_brakes ge_X5_brakes gi_RX5 gc_X5_brakes
theorem gmX5_102 : Cond.methodLink RX5 102 yX5_pulls ∈ gw := gw_i 907 (by decide +kernel) (by decide +kernel)
theorem qX5_102 : GoodIn gw (wsV RX5 102 RX5 yX5_pulls uX5_pulls) := gw_V gmX5_102 gn_X5_pulls ge_X5_pulls gi_RX5 gc_X5_pulls
theorem gmX5_105 : Cond.methodLink RX5 105 yX5_least ∈ gw := gw_i 927 (by decide +kernel) (by decide +kernel)
theorem qX5_105 : GoodIn gw (va_wsS RX5 105 yX5_least uX5_least) := gw_S gmX5_105 gs_X5_least gi_RX5 gc_X5_least
theorem gmX5_108 : Cond.methodLink RX5 108 yX5_most ∈ gw := gw_i 930 (by decide +kernel) (by decide +kernel)
theorem qX5_108 : GoodIn gw (va_wsS RX5 108 yX5_most uX5_most) := gw_S gmX5_108 gs_X5_most gi_RX5 gc_X5_most
theorem gmX5_111 : Cond.methodLink RX5 111 yX5_isAhead ∈ gw := gw_i 949 (by decide +kernel) (by decide +kernel)
theorem qX5_111 : GoodIn gw (wsV RX5 111 RX5 yX5_isAhead uX5_isAhead) := gw_V gmX5_111 gn_X5_isAhead ge_X5_isAhead gi_RX5 gc_X5_isAhead
theorem gmX5_114 : Cond.methodLink RX5 114 yX5_force ∈ gw := gw_i 957 (by decide +kernel) (by decide +kernel)
theorem qX5_114 : GoodIn gw (wsV RX5 114 RX5 yX5_force uX5_force) := gw_V gmX5_114 gn_X5_force ge_X5_force gi_RX5 gc_X5_force
theorem gmX5_117 : Cond.methodLink RX5 117 yX5_within ∈ gw := gw_i 961 (by decide +kernel) (by decide +kernel)
theorem qX5_117 : GoodIn gw (va_wsS RX5 117 yX5_within uX5_within) := gw_S gmX5_117 gs_X5_within gi_RX5 gc_X5_within
theorem gmX5_121 : Cond.methodLink RX5 121 yX5_before ∈ gw := gw_i 964 (by decide +kernel) (by decide +kernel)
theorem qX5_121 : GoodIn gw (wsV RX5 121 RX5 yX5_before uX5_before) := gw_V gmX5_121 gn_X5_before ge_X5_before gi_RX5 gc_X5_before
theorem gmX5_124 : Cond.methodLink RX5 124 yX5_arrives ∈ gw := gw_i 968 (by decide +kernel) (by decide +kernel)
theorem qX5_124 : GoodIn gw (wsV RX5 124 RX5 yX5_arrives uX5_arrives) := gw_V gmX5_124 gn_X5_arrives ge_X5_arrives gi_RX5 gc_X5_arrives
theorem gmX5_128 : Cond.methodLink RX5 128 yX5_notes ∈ gw := gw_i 945 (by decide +kernel) (by decide +kernel)
theorem qX5_128 : GoodIn gw (wsV RX5 128 RX5 yX5_notes uX5_notes) := gw_V gmX5_128 gn_X5_notes ge_X5_notes gi_RX5 gc_X5_notes
theorem gmX5_131 : Cond.methodLink RX5 131 yX5_moves ∈ gw := gw_i 953 (by decide +kernel) (by decide +kernel)
theorem qX5_131 : GoodIn gw (wsV RX5 131 RX5 yX5_moves uX5_moves) := gw_V gmX5_131 gn_X5_moves ge_X5_moves gi_RX5 gc_X5_moves
theorem gmX5_135 : Cond.methodLink RX5 135 yX5_tick ∈ gw := gw_i 941 (by decide +kernel) (by decide +kernel)
theorem qX5_135 : GoodIn gw (wsV RX5 135 RX5 yX5_tick uX5_tick) := gw_V gmX5_135 gn_X5_tick ge_X5_tick gi_RX5 gc_X5_tick
theorem gmX5_138 : Cond.methodLink RX5 138 yX5_runs ∈ gw := gw_i 937 (by decide +kernel) (by decide +kernel)
theorem qX5_138 : GoodIn gw (wsV RX5 138 RX5 yX5_runs uX5_runs) := gw_V gmX5_138 gn_X5_runs ge_X5_runs gi_RX5 gc_X5_runs
theorem gmX5_151 : Cond.methodLink RX5 151 yX5_next ∈ gw := gw_i 992 (by decide +kernel) (by decide +kernel)
theorem qX5_151 : GoodIn gw (wsV RX5 151 RX5 yX5_next uX5_next) := gw_V gmX5_151 gn_X5_next ge_X5_next gi_RX5 gc_X5_next
theorem gmX5_154 : Cond.methodLink RX5 154 yX5_digit ∈ gw := gw_i 1000 (by decide +kernel) (by decide +kernel)
theorem qX5_154 : GoodIn gw (wsV RX5 154 RX5 yX5_digit uX5_digit) := gw_V gmX5_154 gn_X5_digit ge_X5_digit gi_RX5 gc_X5_digit
theorem gmX5_160 : Cond.methodLink RX5 160 yX5_number ∈ gw := gw_i 996 (by decide +kernel) (by decide +kernel)
theorem qX5_160 : GoodIn gw (wsV RX5 160 RX5 yX5_number uX5_number) := gw_V gmX5_160 gn_X5_number ge_X5_number gi_RX5 gc_X5_number
theorem gmX5_166 : Cond.methodLink RX5 166 yX5_sign ∈ gw := gw_i 1004 (by decide +kernel) (by decide +kernel)
theorem qX5_166 : GoodIn gw (wsV RX5 166 RX5 yX5_sign uX5_sign) := gw_V gmX5_166 gn_X5_sign ge_X5_sign gi_RX5 gc_X5_sign
theorem gmX5_172 : Cond.methodLink RX5 172 yX5_order ∈ gw := gw_i 988 (by decide +kernel) (by decide +kernel)
theorem qX5_172 : GoodIn gw (wsV RX5 172 RX5 yX5_order uX5_order) := gw_V gmX5_172 gn_X5_order ge_X5_order gi_RX5 gc_X5_order
theorem gmX5_175 : Cond.methodLink RX5 175 yX5_isWhole ∈ gw := gw_i 984 (by decide +kernel) (by decide +kernel)
theorem qX5_175 : GoodIn gw (wsV RX5 175 RX5 yX5_isWhole uX5_isWhole) := gw_V gmX5_175 gn_X5_isWhole ge_X5_isWhole gi_RX5 gc_X5_isWhole
theorem gmX5_179 : Cond.methodLink RX5 179 yX5_does ∈ gw := gw_i 1012 (by decide +kernel) (by decide +kernel)
theorem qX5_179 : GoodIn gw (wsV RX5 179 RX5 yX5_does uX5_does) := gw_V gmX5_179 gn_X5_does ge_X5_does gi_RX5 gc_X5_does
theorem gmX5_182 : Cond.methodLink RX5 182 yX5_carsAt ∈ gw := gw_i 1032 (by decide +kernel) (by decide +kernel)
theorem qX5_182 : GoodIn gw (wsV RX5 182 RX5 yX5_carsAt uX5_carsAt) := gw_V gmX5_182 gn_X5_carsAt ge_X5_carsAt gi_RX5 gc_X5_carsAt
theorem gmX5_185 : Cond.methodLink RX5 185 yX5_inCars ∈ gw := gw_i 1052 (by decide +kernel) (by decide +kernel)
theorem qX5_185 : GoodIn gw (wsV RX5 185 RX5 yX5_inCars uX5_inCars) := gw_V gmX5_185 gn_X5_inCars ge_X5_inCars gi_RX5 gc_X5_inCars
theorem gmX5_188 : Cond.methodLink RX5 188 yX5_putAside ∈ gw := gw_i 1068 (by decide +kernel) (by decide +kernel)
theorem qX5_188 : GoodIn gw (wsV RX5 188 RX5 yX5_putAside uX5_putAside) := gw_V gmX5_188 gn_X5_putAside ge_X5_putAside gi_RX5 gc_X5_putAside
theorem gmX5_191 : Cond.methodLink RX5 191 yX5_putBack ∈ gw := gw_i 1072 (by decide +kernel) (by decide +kernel)
theorem qX5_191 : GoodIn gw (wsV RX5 191 RX5 yX5_putBack uX5_putBack) := gw_V gmX5_191 gn_X5_putBack ge_X5_putBack gi_RX5 gc_X5_putBack
theorem gmX5_194 : Cond.methodLink RX5 194 yX5_alone ∈ gw := gw_i 1064 (by decide +kernel) (by decide +kernel)
theorem qX5_194 : GoodIn gw (wsV RX5 194 RX5 yX5_alone uX5_alone) := gw_V gmX5_194 gn_X5_alone ge_X5_alone gi_RX5 gc_X5_alone
theorem gmX5_197 : Cond.methodLink RX5 197 yX5_allBumps ∈ gw := gw_i 1084 (by decide +kernel) (by decide +kernel)
theorem qX5_197 : GoodIn gw (wsV RX5 197 RX5 yX5_allBumps uX5_allBumps) := gw_V gmX5_197 gn_X5_allBumps ge_X5_allBumps gi_RX5 gc_X5_allBumps
theorem inlX0 : ∀ w ∈ wsX00, w ∈ gw := gw_l [108, 110, 112, 114, 116, 118, 120, 122, 124] (by decide +kernel) (by decide +kernel)
theorem inlX1 : ∀ w ∈ wsX10, w ∈ gw := gw_l [187, 189, 191] (by decide +kernel) (by decide +kernel)
theorem inlX2 : ∀ w ∈ wsX20, w ∈ gw := gw_l [203, 205] (by decide +kernel) (by decide +kernel)
theorem inlX3 : ∀ w ∈ wsX30, w ∈ gw := gw_l [149, 151, 153, 155, 157, 159, 161, 163, 165, 167, 169, 171] (by decide +kernel) (by decide +kernel)
theorem inlX4 : ∀ w ∈ wsX40, w ∈ gw := gw_l [216, 218, 220, 222, 224, 226] (by decide +kernel) (by decide +kernel)
theorem inlX5 : ∀ w ∈ wsX50, w ∈ gw := gw_l [785, 787, 789, 791, 793, 795, 797, 799, 801, 803, 805, 807, 809, 811, 813, 815] (by decide +kernel) (by decide +kernel)
end
section
/-! pure words that both worlds use: guards of the read-off functions, a vector of a memory -/
def s1 (μ : Nat → Nat → Int32) (k : Nat) (σ : Nat → Int32) : Nat → Nat → Int32 := fun b => if b = k then σ else μ b
theorem s1_k {μ : Nat → Nat → Int32} {k : Nat} {σ : Nat → Int32} : s1 μ k σ k = σ := if_pos rfl
theorem s1_n {μ : Nat → Nat → Int32} {k b : Nat} {σ : Nat → Int32} (h : b ≠ k) : s1 μ k σ b = μ b := if_neg h
theorem s1_same {μ : Nat → Nat → Int32} {k : Nat} : s1 μ k (μ k) = μ := by
  funext b
  by_cases h : b = k
  · subst h; exact s1_k
  · exact s1_n h
theorem s1_s1 {μ : Nat → Nat → Int32} {k : Nat} {σ τ : Nat → Int32} : s1 (s1 μ k σ) k τ = s1 μ k τ := by
  funext b
  by_cases h : b = k
  · subst h; rw [s1_k, s1_k]
  · rw [s1_n h, s1_n h, s1_n h]
/-- the index is in its row -/
def gd {α : Type} (i : Int32) (n : Nat) (x : Option α) : Option α := if i < 0 ∨ n ≤ i.toNatClampNeg then none else x
theorem gd_o {α : Type} {i : Int32} {n : Nat} {x : Option α} {r : α} (h : gd i n x = some r) : vp_in i n ∧ x = some r := by
  unfold gd at h
  by_cases c : i < 0 ∨ n ≤ i.toNatClampNeg
  · rw [if_pos c] at h; cases h
  · rw [if_neg c] at h; exact ⟨c, h⟩
theorem gd_i {α : Type} {i : Int32} {n : Nat} {x : Option α} (h : vp_in i n) : gd i n x = x := if_neg h
/-- a boolean -/
def gz {α : Type} (v : Int32) (x : Option α) : Option α := if v = 0 ∨ v = 1 then x else none
theorem gz_o {α : Type} {v : Int32} {x : Option α} {r : α} (h : gz v x = some r) : (v = 0 ∨ v = 1) ∧ x = some r := by
  unfold gz at h
  by_cases c : v = 0 ∨ v = 1
  · rw [if_pos c] at h; exact ⟨c, h⟩
  · rw [if_neg c] at h; cases h
theorem gz_i {α : Type} {v : Int32} {x : Option α} (h : v = 0 ∨ v = 1) : gz v x = x := if_pos h
/-- a char -/
def gc {α : Type} (v : Int32) (x : Option α) : Option α := if (v.toUInt32 % 65536).toInt32 = v then x else none
theorem gc_o {α : Type} {v : Int32} {x : Option α} {r : α} (h : gc v x = some r) : (v.toUInt32 % 65536).toInt32 = v ∧ x = some r := by
  unfold gc at h
  by_cases c : (v.toUInt32 % 65536).toInt32 = v
  · rw [if_pos c] at h; exact ⟨c, h⟩
  · rw [if_neg c] at h; cases h
theorem gc_i {α : Type} {v : Int32} {x : Option α} (h : (v.toUInt32 % 65536).toInt32 = v) : gc v x = x := if_pos h
theorem bd_o {α β : Type} {x : Option α} {k : α → Option β} {r : β} (h : Option.bind x k = some r) : ∃ t, x = some t ∧ k t = some r := by
  cases x with
  | none => cases h
  | some t => exact ⟨t, rfl, h⟩
theorem it_t {α : Sort _} {c : Prop} {d : Decidable c} {A B r : α} (h : c) (e : @ite α c d A B = r) : A = r := (if_pos h).symm.trans e
theorem it_f {α : Sort _} {c : Prop} {d : Decidable c} {A B r : α} (h : ¬ c) (e : @ite α c d A B = r) : B = r := (if_neg h).symm.trans e
theorem so_i {α : Type} {a b : α} (h : some a = some b) : a = b := Option.some.inj h
/-- loops: more turns than any of them needs -/
def fu : Nat := 1000
theorem nz_z {v : Int32} (h : v = 0 ∨ v = 1) : narrow .boolean (.int v) = .int v := by rcases h with rfl | rfl <;> rfl
theorem fz_z {v : Int32} (h : v = 0 ∨ v = 1) : fits .boolean (.int v) = true := by rcases h with rfl | rfl <;> rfl
theorem nz_c {v : Int32} (h : (v.toUInt32 % 65536).toInt32 = v) : narrow .char (.int v) = .int v := by
  have h2 := pk_nc v
  rw [h] at h2
  exact h2
theorem ne_ti {x k : Int32} {a : Int} (h : ¬ x = k) (hk : k.toInt = a) : ¬ x.toInt = a := fun e => h (Int32.toInt_inj.mp (e.trans hk.symm))
/-- cells whose addresses are those of a numbering are apart -/
theorem wd_D {A : Nat → Prop} {ws : va_W} {ad : Nat → Nat} {n : Nat} (h : ws.map (fun q => q.1) = (List.range n).map ad) (hi : ∀ i j, i < n → j < n → ad i = ad j → i = j) (hA : ∀ i, i < n → A (ad i)) : va_D A ws := by
  have key : ∀ (k : Nat) (q : Nat × va_E), ws[k]? = some q → k < n ∧ q.1 = ad k := by
    intro k q hk
    have h1 : (ws.map (fun q => q.1))[k]? = some q.1 := by rw [List.getElem?_map, hk]; rfl
    rw [h, List.getElem?_map] at h1
    by_cases hn : k < n
    · rw [List.getElem?_range hn] at h1
      exact ⟨hn, (Option.some.inj h1).symm⟩
    · rw [List.getElem?_eq_none (by rw [List.length_range]; omega)] at h1
      cases h1
  refine ⟨fun i j p q h1 h2 e => ?_, fun k q hk => ?_⟩
  · obtain ⟨a1, a2⟩ := key i p h1
    obtain ⟨b1, b2⟩ := key j q h2
    exact hi i j a1 b1 (by rw [← a2, ← b2]; exact e)
  · obtain ⟨a1, a2⟩ := key k q hk
    rw [a2]
    exact hA k a1
/-- a method that only reads has come to its end -/
theorem rd_i {p : Program} {l : Launch} {e : Env} {R : Room} {s : State} {m : MethodId} {args : Array Value} {below : List Frame} {meth : Method} {c : Code} {cc : ByteArray} {v : Int32} {pc : Nat} {ls : Array Slot} (hx : p.tables.exec = Jvm.exec) (hb : c.code = cc) (hr : meth.sig.returnType = some .int) (hlk : meth.locks = false) (hdg : decode cc pc = .ok (.ireturn, 1)) : W p l e R s m args below meth c s.heap [] 0 0 (MQ below (QcRead v) args s 0 0 (fun _ => False)) (F0 m pc ls [.int v]) :=
  W.iret (v := v) hx hb hr (fun t ht _ => ⟨rfl, ht⟩) (fun q h => nomatch h) hdg
theorem rd_z {p : Program} {l : Launch} {e : Env} {R : Room} {s : State} {m : MethodId} {args : Array Value} {below : List Frame} {meth : Method} {c : Code} {cc : ByteArray} {v : Int32} {pc : Nat} {ls : Array Slot} {ty : FieldType} (hx : p.tables.exec = Jvm.exec) (hb : c.code = cc) (hr : meth.sig.returnType = some ty) (hlk : meth.locks = false) (hn : narrow ty (.int v) = .int v) (hdg : decode cc pc = .ok (.ireturn, 1)) : W p l e R s m args below meth c s.heap [] 0 0 (MQ below (QcRead v) args s 0 0 (fun _ => False)) (F0 m pc ls [.int v]) :=
  W.zret (v := v) hx hb hr hn (fun t ht _ => ⟨rfl, ht⟩) (fun q h => nomatch h) hdg
/-- a float that is a number -/
def gf {α : Type} (v : UInt32) (x : Option α) : Option α := if v &&& 0x7fffffff ≤ 0x7f800000 then x else none
theorem gf_o {α : Type} {v : UInt32} {x : Option α} {r : α} (h : gf v x = some r) : vf_n32 v ∧ x = some r := by
  unfold gf at h
  by_cases c : v &&& 0x7fffffff ≤ 0x7f800000
  · rw [if_pos c] at h; exact ⟨c, h⟩
  · rw [if_neg c] at h; cases h
theorem gf_i {α : Type} {v : UInt32} {x : Option α} (h : vf_n32 v) : gf v x = x := if_pos h
def sX (p : Program) (s : State) (m : MethodId) (args : Array Value) (meth : Method) (c : Code) (cc : ByteArray) (nL : Nat) (own : String) (ret : Option FieldType) : Prop := CallFix p m c cc nL s args gw own ∧ meth.sig.returnType = ret ∧ meth.locks = false
end
section
theorem TX5_c : ∀ k, (TX5 k).1 = "OreRailwayModel" := by
  intro k
  unfold TX5
  split <;> rfl
/-- the model's object: its fields in their order, its rows' addresses -/
def mFs (ad : Nat → Nat) (f : Nat → Int32) : List Value := [.ref (ad 1), .ref (ad 2), .ref (ad 3), .int (f 3), .ref (ad 4), .ref (ad 5), .ref (ad 6), .int (f 7), .int (f 8), .ref (ad 7), .ref (ad 8), .int (f 11), .int (f 12), .int (f 13), .int (f 14), .int (f 15)]
theorem mFs_set {ad : Nat → Nat} {f : Nat → Int32} {k : Nat} (hk : k = 3 ∨ k = 7 ∨ k = 8 ∨ k = 11 ∨ k = 12 ∨ k = 13 ∨ k = 14 ∨ k = 15) (x : Int32) : (mFs ad f).set k (.int x) = mFs ad (upd f k x) := by
  rcases hk with rfl | rfl | rfl | rfl | rfl | rfl | rfl | rfl <;> simp [mFs, upd]

def mwW (cI cZ : ClassId) (ad : Nat → Nat) (v0 v1 v2 v3 v4 v5 v6 v7 v8 : Nat → Int32) : va_W := [(ad 0, .inr (5, mFs ad v0)), (ad 1, .inl (cI, 171, .inl v1)), (ad 2, .inl (cI, 171, .inl v2)), (ad 3, .inl (cI, 1026, .inl v3)), (ad 4, .inl (cI, 342, .inl v4)), (ad 5, .inl (cZ, 2, .inl v5)), (ad 6, .inl (cI, 60, .inl v6)), (ad 7, .inl (cI, 8, .inl v7)), (ad 8, .inl (cZ, 8, .inl v8))]
abbrev mTys (cI cZ : ClassId) : List (ClassId × FieldType) := [(cI, .int), (cZ, .boolean)]
def mInj (ad : Nat → Nat) : Prop := ∀ i j, i < 9 → j < 9 → ad i = ad j → i = j
def mA (ad : Nat → Nat) (sz : Nat) : Nat → Prop := fun q => (∃ i, i < 9 ∧ q = ad i) ∨ sz ≤ q
theorem mD {v0 v1 v2 v3 v4 v5 v6 v7 v8 : Nat → Int32} {cI cZ : ClassId} {ad : Nat → Nat} {sz : Nat} (hI : mInj ad) : va_D (mA ad sz) (mwW cI cZ ad v0 v1 v2 v3 v4 v5 v6 v7 v8) := wd_D (n := 9) (ad := ad) rfl hI (fun i h => Or.inl ⟨i, h, rfl⟩)
def mB (D : va_G) (cI cZ : ClassId) (ad : Nat → Nat) (v0 v1 v2 v3 v4 v5 v6 v7 v8 : Nat → Int32) (U : State) : Prop := va_P D vwCl (mwW cI cZ ad v0 v1 v2 v3 v4 v5 v6 v7 v8) U.heap ∧ va_K D vwCl (mTys cI cZ) U
def mH (D : va_G) (cI cZ : ClassId) (ad : Nat → Nat) (v0 v1 v2 v3 v4 v5 v6 v7 v8 : Nat → Int32) (s : State) (H : Heap) (locs : List Loc) : Prop := va_P D vwCl (mwW cI cZ ad v0 v1 v2 v3 v4 v5 v6 v7 v8) H ∧ va_S (mA ad s.heap.size) s.heap H locs
def mX (D : va_G) (cI cZ : ClassId) (p : Program) (s : State) (m : MethodId) (args : Array Value) (meth : Method) (c : Code) (cc : ByteArray) (nL : Nat) (ret : Option FieldType) : Prop := CallFix p m c cc nL s args gw RX5 ∧ meth.sig.returnType = ret ∧ meth.locks = false ∧ va_K D vwCl (mTys cI cZ) s
theorem mB_bl {v0 v1 v2 v3 v4 v5 v6 v7 v8 : Nat → Int32} {D : va_G} {cI cZ : ClassId} {ad : Nat → Nat} {As : List Value} : FrameBlind (va_Pc As (mB D cI cZ ad v0 v1 v2 v3 v4 v5 v6 v7 v8)) := fun a U g mk h => ⟨h.1, h.2.1, va_K.moved (u := U) (U := U.calling g mk a) (Vm.Alike.refl U.vm) h.2.2⟩
theorem mBs_bl {v0 v1 v2 v3 v4 v5 v6 v7 v8 : Nat → Int32} {D : va_G} {cI cZ : ClassId} {ad : Nat → Nat} {As : List Value} {sz : Nat} : FrameBlind (va_Pc As (fun U => U.heap.size = sz ∧ mB D cI cZ ad v0 v1 v2 v3 v4 v5 v6 v7 v8 U)) := fun a U g mk h => ⟨h.1, h.2.1, h.2.2.1, va_K.moved (u := U) (U := U.calling g mk a) (Vm.Alike.refl U.vm) h.2.2.2⟩
theorem mr_get {p : Program} {l : Launch} {e : Env} {R : Room} {s : State} {m : MethodId} {args : Array Value} {below : List Frame} {meth : Method} {c : Code} {cc : ByteArray} {nL : Nat} {ret : Option FieldType} {D : va_G} {cI cZ : ClassId} {ad : Nat → Nat} {v0 v1 v2 v3 v4 v5 v6 v7 v8 : Nat → Int32} {H : Heap} {locs : List Loc} {cells slots : Nat} {Q : State → Prop} {pc : Nat} {ls : Array Slot} {rest : List Value} (X : mX D cI cZ p s m args meth c cc nL ret) (hP : va_P D vwCl (mwW cI cZ ad v0 v1 v2 v3 v4 v5 v6 v7 v8) H) {index k : Nat} {v : Value} (hk : k < 16) (hw : Cond.fieldLink RX5 index "OreRailwayModel" (TX5 k).2.1 (TX5 k).2.2.1 ∈ gw) (hv : (mFs ad v0)[k]? = some v) (hdg : decode cc pc = .ok (.getfield index, 3)) (kk : W p l e R s m args below meth c H locs cells slots Q (F0 m (pc + 3) ls (v :: rest))) : W p l e R s m args below meth c H locs cells slots Q (F0 m pc ls (.ref (ad 0) :: rest)) := va_get (D := D) (ci := 5) (v := v) (C := RX5) (T := TX5) (N := 16) X.1.1 X.1.2.1 X.1.2.2.2.2 inlX5 X.1.2.2.2.1 X.2.2.2 hP 0 rfl rfl k hk (X.1.2.2.2.2 _ hw) (fun x h => by rw [TX5_c] at h; exact h) hv hdg kk
theorem mr_put {p : Program} {l : Launch} {e : Env} {R : Room} {s : State} {m : MethodId} {args : Array Value} {below : List Frame} {meth : Method} {c : Code} {cc : ByteArray} {nL : Nat} {ret : Option FieldType} {D : va_G} {cI cZ : ClassId} {ad : Nat → Nat} {v0 v1 v2 v3 v4 v5 v6 v7 v8 : Nat → Int32} {H : Heap} {locs : List Loc} {cells slots : Nat} {Q : State → Prop} {pc : Nat} {ls : Array Slot} {rest : List Value} (X : mX D cI cZ p s m args meth c cc nL ret) (hI : mInj ad) (hH : mH D cI cZ ad v0 v1 v2 v3 v4 v5 v6 v7 v8 s H locs) {index : Nat} {x : Int32} (k : Nat) (hk : k = 3 ∨ k = 7 ∨ k = 8 ∨ k = 11 ∨ k = 12 ∨ k = 13 ∨ k = 14 ∨ k = 15) (hw : Cond.fieldLink RX5 index "OreRailwayModel" (TX5 k).2.1 (TX5 k).2.2.1 ∈ gw) (hty : tyX5 k = .int) (hfin : (TX5 k).2.2.2 = false) (hdg : decode cc pc = .ok (.putfield index, 3)) (kk : ∀ (H1 : Heap) (locs1 : List Loc), mH D cI cZ ad (upd v0 k x) v1 v2 v3 v4 v5 v6 v7 v8 s H1 locs1 → W p l e R s m args below meth c H1 locs1 cells slots Q (F0 m (pc + 3) ls rest)) : W p l e R s m args below meth c H locs cells slots Q (F0 m pc ls (.int x :: .ref (ad 0) :: rest)) := by
  refine va_put (D := D) (ci := 5) (v := .int x) (ty := .int) (C := RX5) (T := TX5) (N := 16) X.1.1 X.1.2.1 X.1.2.2.2.2 inlX5 tyX5 tyX5_ok nmX5 X.1.2.2.2.1 X.2.2.2 hH.1 (mD hI) hH.2 0 rfl rfl k (by omega) (X.1.2.2.2.2 _ hw) (fun x h => by rw [TX5_c] at h; exact h) hfin ((tyX5_ok k (by omega)).trans (by rw [hty])) (by first | exact rfl | exact vp_nar_int x | simp [narrow]) (by exact rfl) (by show k < 16; omega) hdg (fun H1 locs1 h1 _ h3 => ?_)
  have h4 : va_P D vwCl (mwW cI cZ ad (upd v0 k x) v1 v2 v3 v4 v5 v6 v7 v8) H1 := by
    have h5 := h1
    rw [mFs_set hk] at h5
    exact h5
  exact kk H1 locs1 ⟨h4, h3⟩
theorem mr_putz {p : Program} {l : Launch} {e : Env} {R : Room} {s : State} {m : MethodId} {args : Array Value} {below : List Frame} {meth : Method} {c : Code} {cc : ByteArray} {nL : Nat} {ret : Option FieldType} {D : va_G} {cI cZ : ClassId} {ad : Nat → Nat} {v0 v1 v2 v3 v4 v5 v6 v7 v8 : Nat → Int32} {H : Heap} {locs : List Loc} {cells slots : Nat} {Q : State → Prop} {pc : Nat} {ls : Array Slot} {rest : List Value} (X : mX D cI cZ p s m args meth c cc nL ret) (hI : mInj ad) (hH : mH D cI cZ ad v0 v1 v2 v3 v4 v5 v6 v7 v8 s H locs) {index : Nat} {x : Int32} (k : Nat) (hk : k = 3 ∨ k = 7 ∨ k = 8 ∨ k = 11 ∨ k = 12 ∨ k = 13 ∨ k = 14 ∨ k = 15) (hw : Cond.fieldLink RX5 index "OreRailwayModel" (TX5 k).2.1 (TX5 k).2.2.1 ∈ gw) (hty : tyX5 k = .boolean) (hfin : (TX5 k).2.2.2 = false) (hz : x = 0 ∨ x = 1) (hdg : decode cc pc = .ok (.putfield index, 3)) (kk : ∀ (H1 : Heap) (locs1 : List Loc), mH D cI cZ ad (upd v0 k x) v1 v2 v3 v4 v5 v6 v7 v8 s H1 locs1 → W p l e R s m args below meth c H1 locs1 cells slots Q (F0 m (pc + 3) ls rest)) : W p l e R s m args below meth c H locs cells slots Q (F0 m pc ls (.int x :: .ref (ad 0) :: rest)) := by
  refine va_put (D := D) (ci := 5) (v := .int x) (ty := .boolean) (C := RX5) (T := TX5) (N := 16) X.1.1 X.1.2.1 X.1.2.2.2.2 inlX5 tyX5 tyX5_ok nmX5 X.1.2.2.2.1 X.2.2.2 hH.1 (mD hI) hH.2 0 rfl rfl k (by omega) (X.1.2.2.2.2 _ hw) (fun x h => by rw [TX5_c] at h; exact h) hfin ((tyX5_ok k (by omega)).trans (by rw [hty])) (by exact nz_z hz) (by exact fz_z hz) (by show k < 16; omega) hdg (fun H1 locs1 h1 _ h3 => ?_)
  have h4 : va_P D vwCl (mwW cI cZ ad (upd v0 k x) v1 v2 v3 v4 v5 v6 v7 v8) H1 := by
    have h5 := h1
    rw [mFs_set hk] at h5
    exact h5
  exact kk H1 locs1 ⟨h4, h3⟩
theorem mr_ld1 {p : Program} {l : Launch} {e : Env} {R : Room} {s : State} {m : MethodId} {args : Array Value} {below : List Frame} {meth : Method} {c : Code} {cc : ByteArray} {nL : Nat} {ret : Option FieldType} {D : va_G} {cI cZ : ClassId} {ad : Nat → Nat} {v0 v1 v2 v3 v4 v5 v6 v7 v8 : Nat → Int32} {H : Heap} {locs : List Loc} {cells slots : Nat} {Q : State → Prop} {pc : Nat} {ls : Array Slot} {rest : List Value} (X : mX D cI cZ p s m args meth c cc nL ret) (hP : va_P D vwCl (mwW cI cZ ad v0 v1 v2 v3 v4 v5 v6 v7 v8) H) {i : Int32} (hi : vp_in i 171) (hdg : decode cc pc = .ok (.iaload, 1)) (kk : W p l e R s m args below meth c H locs cells slots Q (F0 m (pc + 1) ls (.int (v1 i.toNatClampNeg) :: rest))) : W p l e R s m args below meth c H locs cells slots Q (F0 m pc ls (.int i :: .ref (ad 1) :: rest)) := va_iald X.1.1 X.1.2.1 X.2.2.2 hP 1 0 rfl rfl hi hdg kk
theorem mr_st1 {p : Program} {l : Launch} {e : Env} {R : Room} {s : State} {m : MethodId} {args : Array Value} {below : List Frame} {meth : Method} {c : Code} {cc : ByteArray} {nL : Nat} {ret : Option FieldType} {D : va_G} {cI cZ : ClassId} {ad : Nat → Nat} {v0 v1 v2 v3 v4 v5 v6 v7 v8 : Nat → Int32} {H : Heap} {locs : List Loc} {cells slots : Nat} {Q : State → Prop} {pc : Nat} {ls : Array Slot} {rest : List Value} (X : mX D cI cZ p s m args meth c cc nL ret) (hI : mInj ad) (hH : mH D cI cZ ad v0 v1 v2 v3 v4 v5 v6 v7 v8 s H locs) {i x : Int32} (hi : vp_in i 171) (hdg : decode cc pc = .ok (.iastore, 1)) (kk : ∀ (H1 : Heap) (locs1 : List Loc), mH D cI cZ ad v0 (upd v1 i.toNatClampNeg x) v2 v3 v4 v5 v6 v7 v8 s H1 locs1 → W p l e R s m args below meth c H1 locs1 cells slots Q (F0 m (pc + 1) ls rest)) : W p l e R s m args below meth c H locs cells slots Q (F0 m pc ls (.int x :: .int i :: .ref (ad 1) :: rest)) := va_iast X.1.1 X.1.2.1 X.2.2.2 hH.1 (mD hI) hH.2 1 0 rfl rfl hi hdg (fun H1 locs1 h1 _ h3 => kk H1 locs1 ⟨h1, h3⟩)
theorem mr_ld2 {p : Program} {l : Launch} {e : Env} {R : Room} {s : State} {m : MethodId} {args : Array Value} {below : List Frame} {meth : Method} {c : Code} {cc : ByteArray} {nL : Nat} {ret : Option FieldType} {D : va_G} {cI cZ : ClassId} {ad : Nat → Nat} {v0 v1 v2 v3 v4 v5 v6 v7 v8 : Nat → Int32} {H : Heap} {locs : List Loc} {cells slots : Nat} {Q : State → Prop} {pc : Nat} {ls : Array Slot} {rest : List Value} (X : mX D cI cZ p s m args meth c cc nL ret) (hP : va_P D vwCl (mwW cI cZ ad v0 v1 v2 v3 v4 v5 v6 v7 v8) H) {i : Int32} (hi : vp_in i 171) (hdg : decode cc pc = .ok (.iaload, 1)) (kk : W p l e R s m args below meth c H locs cells slots Q (F0 m (pc + 1) ls (.int (v2 i.toNatClampNeg) :: rest))) : W p l e R s m args below meth c H locs cells slots Q (F0 m pc ls (.int i :: .ref (ad 2) :: rest)) := va_iald X.1.1 X.1.2.1 X.2.2.2 hP 2 0 rfl rfl hi hdg kk
theorem mr_st2 {p : Program} {l : Launch} {e : Env} {R : Room} {s : State} {m : MethodId} {args : Array Value} {below : List Frame} {meth : Method} {c : Code} {cc : ByteArray} {nL : Nat} {ret : Option FieldType} {D : va_G} {cI cZ : ClassId} {ad : Nat → Nat} {v0 v1 v2 v3 v4 v5 v6 v7 v8 : Nat → Int32} {H : Heap} {locs : List Loc} {cells slots : Nat} {Q : State → Prop} {pc : Nat} {ls : Array Slot} {rest : List Value} (X : mX D cI cZ p s m args meth c cc nL ret) (hI : mInj ad) (hH : mH D cI cZ ad v0 v1 v2 v3 v4 v5 v6 v7 v8 s H locs) {i x : Int32} (hi : vp_in i 171) (hdg : decode cc pc = .ok (.iastore, 1)) (kk : ∀ (H1 : Heap) (locs1 : List Loc), mH D cI cZ ad v0 v1 (upd v2 i.toNatClampNeg x) v3 v4 v5 v6 v7 v8 s H1 locs1 → W p l e R s m args below meth c H1 locs1 cells slots Q (F0 m (pc + 1) ls rest)) : W p l e R s m args below meth c H locs cells slots Q (F0 m pc ls (.int x :: .int i :: .ref (ad 2) :: rest)) := va_iast X.1.1 X.1.2.1 X.2.2.2 hH.1 (mD hI) hH.2 2 0 rfl rfl hi hdg (fun H1 locs1 h1 _ h3 => kk H1 locs1 ⟨h1, h3⟩)
theorem mr_ld3 {p : Program} {l : Launch} {e : Env} {R : Room} {s : State} {m : MethodId} {args : Array Value} {below : List Frame} {meth : Method} {c : Code} {cc : ByteArray} {nL : Nat} {ret : Option FieldType} {D : va_G} {cI cZ : ClassId} {ad : Nat → Nat} {v0 v1 v2 v3 v4 v5 v6 v7 v8 : Nat → Int32} {H : Heap} {locs : List Loc} {cells slots : Nat} {Q : State → Prop} {pc : Nat} {ls : Array Slot} {rest : List Value} (X : mX D cI cZ p s m args meth c cc nL ret) (hP : va_P D vwCl (mwW cI cZ ad v0 v1 v2 v3 v4 v5 v6 v7 v8) H) {i : Int32} (hi : vp_in i 1026) (hdg : decode cc pc = .ok (.iaload, 1)) (kk : W p l e R s m args below meth c H locs cells slots Q (F0 m (pc + 1) ls (.int (v3 i.toNatClampNeg) :: rest))) : W p l e R s m args below meth c H locs cells slots Q (F0 m pc ls (.int i :: .ref (ad 3) :: rest)) := va_iald X.1.1 X.1.2.1 X.2.2.2 hP 3 0 rfl rfl hi hdg kk
theorem mr_st3 {p : Program} {l : Launch} {e : Env} {R : Room} {s : State} {m : MethodId} {args : Array Value} {below : List Frame} {meth : Method} {c : Code} {cc : ByteArray} {nL : Nat} {ret : Option FieldType} {D : va_G} {cI cZ : ClassId} {ad : Nat → Nat} {v0 v1 v2 v3 v4 v5 v6 v7 v8 : Nat → Int32} {H : Heap} {locs : List Loc} {cells slots : Nat} {Q : State → Prop} {pc : Nat} {ls : Array Slot} {rest : List Value} (X : mX D cI cZ p s m args meth c cc nL ret) (hI : mInj ad) (hH : mH D cI cZ ad v0 v1 v2 v3 v4 v5 v6 v7 v8 s H locs) {i x : Int32} (hi : vp_in i 1026) (hdg : decode cc pc = .ok (.iastore, 1)) (kk : ∀ (H1 : Heap) (locs1 : List Loc), mH D cI cZ ad v0 v1 v2 (upd v3 i.toNatClampNeg x) v4 v5 v6 v7 v8 s H1 locs1 → W p l e R s m args below meth c H1 locs1 cells slots Q (F0 m (pc + 1) ls rest)) : W p l e R s m args below meth c H locs cells slots Q (F0 m pc ls (.int x :: .int i :: .ref (ad 3) :: rest)) := va_iast X.1.1 X.1.2.1 X.2.2.2 hH.1 (mD hI) hH.2 3 0 rfl rfl hi hdg (fun H1 locs1 h1 _ h3 => kk H1 locs1 ⟨h1, h3⟩)
theorem mr_ld4 {p : Program} {l : Launch} {e : Env} {R : Room} {s : State} {m : MethodId} {args : Array Value} {below : List Frame} {meth : Method} {c : Code} {cc : ByteArray} {nL : Nat} {ret : Option FieldType} {D : va_G} {cI cZ : ClassId} {ad : Nat → Nat} {v0 v1 v2 v3 v4 v5 v6 v7 v8 : Nat → Int32} {H : Heap} {locs : List Loc} {cells slots : Nat} {Q : State → Prop} {pc : Nat} {ls : Array Slot} {rest : List Value} (X : mX D cI cZ p s m args meth c cc nL ret) (hP : va_P D vwCl (mwW cI cZ ad v0 v1 v2 v3 v4 v5 v6 v7 v8) H) {i : Int32} (hi : vp_in i 342) (hdg : decode cc pc = .ok (.iaload, 1)) (kk : W p l e R s m args below meth c H locs cells slots Q (F0 m (pc + 1) ls (.int (v4 i.toNatClampNeg) :: rest))) : W p l e R s m args below meth c H locs cells slots Q (F0 m pc ls (.int i :: .ref (ad 4) :: rest)) := va_iald X.1.1 X.1.2.1 X.2.2.2 hP 4 0 rfl rfl hi hdg kk
theorem mr_st4 {p : Program} {l : Launch} {e : Env} {R : Room} {s : State} {m : MethodId} {args : Array Value} {below : List Frame} {meth : Method} {c : Code} {cc : ByteArray} {nL : Nat} {ret : Option FieldType} {D : va_G} {cI cZ : ClassId} {ad : Nat → Nat} {v0 v1 v2 v3 v4 v5 v6 v7 v8 : Nat → Int32} {H : Heap} {locs : List Loc} {cells slots : Nat} {Q : State → Prop} {pc : Nat} {ls : Array Slot} {rest : List Value} (X : mX D cI cZ p s m args meth c cc nL ret) (hI : mInj ad) (hH : mH D cI cZ ad v0 v1 v2 v3 v4 v5 v6 v7 v8 s H locs) {i x : Int32} (hi : vp_in i 342) (hdg : decode cc pc = .ok (.iastore, 1)) (kk : ∀ (H1 : Heap) (locs1 : List Loc), mH D cI cZ ad v0 v1 v2 v3 (upd v4 i.toNatClampNeg x) v5 v6 v7 v8 s H1 locs1 → W p l e R s m args below meth c H1 locs1 cells slots Q (F0 m (pc + 1) ls rest)) : W p l e R s m args below meth c H locs cells slots Q (F0 m pc ls (.int x :: .int i :: .ref (ad 4) :: rest)) := va_iast X.1.1 X.1.2.1 X.2.2.2 hH.1 (mD hI) hH.2 4 0 rfl rfl hi hdg (fun H1 locs1 h1 _ h3 => kk H1 locs1 ⟨h1, h3⟩)
theorem mr_ld5 {p : Program} {l : Launch} {e : Env} {R : Room} {s : State} {m : MethodId} {args : Array Value} {below : List Frame} {meth : Method} {c : Code} {cc : ByteArray} {nL : Nat} {ret : Option FieldType} {D : va_G} {cI cZ : ClassId} {ad : Nat → Nat} {v0 v1 v2 v3 v4 v5 v6 v7 v8 : Nat → Int32} {H : Heap} {locs : List Loc} {cells slots : Nat} {Q : State → Prop} {pc : Nat} {ls : Array Slot} {rest : List Value} (X : mX D cI cZ p s m args meth c cc nL ret) (hP : va_P D vwCl (mwW cI cZ ad v0 v1 v2 v3 v4 v5 v6 v7 v8) H) {i : Int32} (hi : vp_in i 2) (hdg : decode cc pc = .ok (.baload, 1)) (kk : W p l e R s m args below meth c H locs cells slots Q (F0 m (pc + 1) ls (.int (v5 i.toNatClampNeg) :: rest))) : W p l e R s m args below meth c H locs cells slots Q (F0 m pc ls (.int i :: .ref (ad 5) :: rest)) := va_zald X.1.1 X.1.2.1 X.2.2.2 hP 5 1 rfl rfl hi hdg kk
theorem mr_st5 {p : Program} {l : Launch} {e : Env} {R : Room} {s : State} {m : MethodId} {args : Array Value} {below : List Frame} {meth : Method} {c : Code} {cc : ByteArray} {nL : Nat} {ret : Option FieldType} {D : va_G} {cI cZ : ClassId} {ad : Nat → Nat} {v0 v1 v2 v3 v4 v5 v6 v7 v8 : Nat → Int32} {H : Heap} {locs : List Loc} {cells slots : Nat} {Q : State → Prop} {pc : Nat} {ls : Array Slot} {rest : List Value} (X : mX D cI cZ p s m args meth c cc nL ret) (hI : mInj ad) (hH : mH D cI cZ ad v0 v1 v2 v3 v4 v5 v6 v7 v8 s H locs) {i x : Int32} (hi : vp_in i 2) (hdg : decode cc pc = .ok (.bastore, 1)) (kk : ∀ (H1 : Heap) (locs1 : List Loc), mH D cI cZ ad v0 v1 v2 v3 v4 (upd v5 i.toNatClampNeg (vp_nar .boolean x)) v6 v7 v8 s H1 locs1 → W p l e R s m args below meth c H1 locs1 cells slots Q (F0 m (pc + 1) ls rest)) : W p l e R s m args below meth c H locs cells slots Q (F0 m pc ls (.int x :: .int i :: .ref (ad 5) :: rest)) := va_zast X.1.1 X.1.2.1 X.2.2.2 hH.1 (mD hI) hH.2 5 1 rfl rfl hi hdg (fun H1 locs1 h1 _ h3 => kk H1 locs1 ⟨h1, h3⟩)
theorem mr_ld6 {p : Program} {l : Launch} {e : Env} {R : Room} {s : State} {m : MethodId} {args : Array Value} {below : List Frame} {meth : Method} {c : Code} {cc : ByteArray} {nL : Nat} {ret : Option FieldType} {D : va_G} {cI cZ : ClassId} {ad : Nat → Nat} {v0 v1 v2 v3 v4 v5 v6 v7 v8 : Nat → Int32} {H : Heap} {locs : List Loc} {cells slots : Nat} {Q : State → Prop} {pc : Nat} {ls : Array Slot} {rest : List Value} (X : mX D cI cZ p s m args meth c cc nL ret) (hP : va_P D vwCl (mwW cI cZ ad v0 v1 v2 v3 v4 v5 v6 v7 v8) H) {i : Int32} (hi : vp_in i 60) (hdg : decode cc pc = .ok (.iaload, 1)) (kk : W p l e R s m args below meth c H locs cells slots Q (F0 m (pc + 1) ls (.int (v6 i.toNatClampNeg) :: rest))) : W p l e R s m args below meth c H locs cells slots Q (F0 m pc ls (.int i :: .ref (ad 6) :: rest)) := va_iald X.1.1 X.1.2.1 X.2.2.2 hP 6 0 rfl rfl hi hdg kk
theorem mr_st6 {p : Program} {l : Launch} {e : Env} {R : Room} {s : State} {m : MethodId} {args : Array Value} {below : List Frame} {meth : Method} {c : Code} {cc : ByteArray} {nL : Nat} {ret : Option FieldType} {D : va_G} {cI cZ : ClassId} {ad : Nat → Nat} {v0 v1 v2 v3 v4 v5 v6 v7 v8 : Nat → Int32} {H : Heap} {locs : List Loc} {cells slots : Nat} {Q : State → Prop} {pc : Nat} {ls : Array Slot} {rest : List Value} (X : mX D cI cZ p s m args meth c cc nL ret) (hI : mInj ad) (hH : mH D cI cZ ad v0 v1 v2 v3 v4 v5 v6 v7 v8 s H locs) {i x : Int32} (hi : vp_in i 60) (hdg : decode cc pc = .ok (.iastore, 1)) (kk : ∀ (H1 : Heap) (locs1 : List Loc), mH D cI cZ ad v0 v1 v2 v3 v4 v5 (upd v6 i.toNatClampNeg x) v7 v8 s H1 locs1 → W p l e R s m args below meth c H1 locs1 cells slots Q (F0 m (pc + 1) ls rest)) : W p l e R s m args below meth c H locs cells slots Q (F0 m pc ls (.int x :: .int i :: .ref (ad 6) :: rest)) := va_iast X.1.1 X.1.2.1 X.2.2.2 hH.1 (mD hI) hH.2 6 0 rfl rfl hi hdg (fun H1 locs1 h1 _ h3 => kk H1 locs1 ⟨h1, h3⟩)
theorem mr_ld7 {p : Program} {l : Launch} {e : Env} {R : Room} {s : State} {m : MethodId} {args : Array Value} {below : List Frame} {meth : Method} {c : Code} {cc : ByteArray} {nL : Nat} {ret : Option FieldType} {D : va_G} {cI cZ : ClassId} {ad : Nat → Nat} {v0 v1 v2 v3 v4 v5 v6 v7 v8 : Nat → Int32} {H : Heap} {locs : List Loc} {cells slots : Nat} {Q : State → Prop} {pc : Nat} {ls : Array Slot} {rest : List Value} (X : mX D cI cZ p s m args meth c cc nL ret) (hP : va_P D vwCl (mwW cI cZ ad v0 v1 v2 v3 v4 v5 v6 v7 v8) H) {i : Int32} (hi : vp_in i 8) (hdg : decode cc pc = .ok (.iaload, 1)) (kk : W p l e R s m args below meth c H locs cells slots Q (F0 m (pc + 1) ls (.int (v7 i.toNatClampNeg) :: rest))) : W p l e R s m args below meth c H locs cells slots Q (F0 m pc ls (.int i :: .ref (ad 7) :: rest)) := va_iald X.1.1 X.1.2.1 X.2.2.2 hP 7 0 rfl rfl hi hdg kk
theorem mr_st7 {p : Program} {l : Launch} {e : Env} {R : Room} {s : State} {m : MethodId} {args : Array Value} {below : List Frame} {meth : Method} {c : Code} {cc : ByteArray} {nL : Nat} {ret : Option FieldType} {D : va_G} {cI cZ : ClassId} {ad : Nat → Nat} {v0 v1 v2 v3 v4 v5 v6 v7 v8 : Nat → Int32} {H : Heap} {locs : List Loc} {cells slots : Nat} {Q : State → Prop} {pc : Nat} {ls : Array Slot} {rest : List Value} (X : mX D cI cZ p s m args meth c cc nL ret) (hI : mInj ad) (hH : mH D cI cZ ad v0 v1 v2 v3 v4 v5 v6 v7 v8 s H locs) {i x : Int32} (hi : vp_in i 8) (hdg : decode cc pc = .ok (.iastore, 1)) (kk : ∀ (H1 : Heap) (locs1 : List Loc), mH D cI cZ ad v0 v1 v2 v3 v4 v5 v6 (upd v7 i.toNatClampNeg x) v8 s H1 locs1 → W p l e R s m args below meth c H1 locs1 cells slots Q (F0 m (pc + 1) ls rest)) : W p l e R s m args below meth c H locs cells slots Q (F0 m pc ls (.int x :: .int i :: .ref (ad 7) :: rest)) := va_iast X.1.1 X.1.2.1 X.2.2.2 hH.1 (mD hI) hH.2 7 0 rfl rfl hi hdg (fun H1 locs1 h1 _ h3 => kk H1 locs1 ⟨h1, h3⟩)
theorem mr_ld8 {p : Program} {l : Launch} {e : Env} {R : Room} {s : State} {m : MethodId} {args : Array Value} {below : List Frame} {meth : Method} {c : Code} {cc : ByteArray} {nL : Nat} {ret : Option FieldType} {D : va_G} {cI cZ : ClassId} {ad : Nat → Nat} {v0 v1 v2 v3 v4 v5 v6 v7 v8 : Nat → Int32} {H : Heap} {locs : List Loc} {cells slots : Nat} {Q : State → Prop} {pc : Nat} {ls : Array Slot} {rest : List Value} (X : mX D cI cZ p s m args meth c cc nL ret) (hP : va_P D vwCl (mwW cI cZ ad v0 v1 v2 v3 v4 v5 v6 v7 v8) H) {i : Int32} (hi : vp_in i 8) (hdg : decode cc pc = .ok (.baload, 1)) (kk : W p l e R s m args below meth c H locs cells slots Q (F0 m (pc + 1) ls (.int (v8 i.toNatClampNeg) :: rest))) : W p l e R s m args below meth c H locs cells slots Q (F0 m pc ls (.int i :: .ref (ad 8) :: rest)) := va_zald X.1.1 X.1.2.1 X.2.2.2 hP 8 1 rfl rfl hi hdg kk
theorem mr_st8 {p : Program} {l : Launch} {e : Env} {R : Room} {s : State} {m : MethodId} {args : Array Value} {below : List Frame} {meth : Method} {c : Code} {cc : ByteArray} {nL : Nat} {ret : Option FieldType} {D : va_G} {cI cZ : ClassId} {ad : Nat → Nat} {v0 v1 v2 v3 v4 v5 v6 v7 v8 : Nat → Int32} {H : Heap} {locs : List Loc} {cells slots : Nat} {Q : State → Prop} {pc : Nat} {ls : Array Slot} {rest : List Value} (X : mX D cI cZ p s m args meth c cc nL ret) (hI : mInj ad) (hH : mH D cI cZ ad v0 v1 v2 v3 v4 v5 v6 v7 v8 s H locs) {i x : Int32} (hi : vp_in i 8) (hdg : decode cc pc = .ok (.bastore, 1)) (kk : ∀ (H1 : Heap) (locs1 : List Loc), mH D cI cZ ad v0 v1 v2 v3 v4 v5 v6 v7 (upd v8 i.toNatClampNeg (vp_nar .boolean x)) s H1 locs1 → W p l e R s m args below meth c H1 locs1 cells slots Q (F0 m (pc + 1) ls rest)) : W p l e R s m args below meth c H locs cells slots Q (F0 m pc ls (.int x :: .int i :: .ref (ad 8) :: rest)) := va_zast X.1.1 X.1.2.1 X.2.2.2 hH.1 (mD hI) hH.2 8 1 rfl rfl hi hdg (fun H1 locs1 h1 _ h3 => kk H1 locs1 ⟨h1, h3⟩)
theorem mr_iw {p : Program} {l : Launch} {e : Env} {R : Room} {s : State} {m : MethodId} {args : Array Value} {below : List Frame} {meth : Method} {c : Code} {cc : ByteArray} {nL : Nat} {ret : Option FieldType} {D : va_G} {cI cZ : ClassId} {ad : Nat → Nat} {v0 v1 v2 v3 v4 v5 v6 v7 v8 : Nat → Int32} {H : Heap} {locs : List Loc} {pc : Nat} {ls : Array Slot} (X : mX D cI cZ p s m args meth c cc nL ret) (hH : mH D cI cZ ad v0 v1 v2 v3 v4 v5 v6 v7 v8 s H locs) {v : Int32} (hr : ret = some .int) (hdg : decode cc pc = .ok (.ireturn, 1)) : W p l e R s m args below meth c H locs 0 0 (MQ below (va_Qi (fun (r9 : Int32) (_ : Unit) => r9 = v) (fun _ t => mB D cI cZ ad v0 v1 v2 v3 v4 v5 v6 v7 v8 t) (mA ad s.heap.size)) args s 0 0 (mA ad s.heap.size)) (F0 m pc ls [.int v]) := W.iret (v := v) X.1.1 X.1.2.1 (X.2.1.trans hr) (fun t ht hW => ⟨⟨v, (), rfl, rfl, by rw [ht]; exact hH.1, va_K.moved hW.alike X.2.2.2⟩, hH.2.F ht⟩) hH.2.2.2 hdg X.2.2.1
theorem mr_zw {p : Program} {l : Launch} {e : Env} {R : Room} {s : State} {m : MethodId} {args : Array Value} {below : List Frame} {meth : Method} {c : Code} {cc : ByteArray} {nL : Nat} {ret : Option FieldType} {D : va_G} {cI cZ : ClassId} {ad : Nat → Nat} {v0 v1 v2 v3 v4 v5 v6 v7 v8 : Nat → Int32} {H : Heap} {locs : List Loc} {pc : Nat} {ls : Array Slot} (X : mX D cI cZ p s m args meth c cc nL ret) (hH : mH D cI cZ ad v0 v1 v2 v3 v4 v5 v6 v7 v8 s H locs) {v : Int32} {ty : FieldType} (hr : ret = some ty) (hn : narrow ty (.int v) = .int v) (hdg : decode cc pc = .ok (.ireturn, 1)) : W p l e R s m args below meth c H locs 0 0 (MQ below (va_Qi (fun (r9 : Int32) (_ : Unit) => r9 = v) (fun _ t => mB D cI cZ ad v0 v1 v2 v3 v4 v5 v6 v7 v8 t) (mA ad s.heap.size)) args s 0 0 (mA ad s.heap.size)) (F0 m pc ls [.int v]) := W.zret (v := v) X.1.1 X.1.2.1 (X.2.1.trans hr) hn (fun t ht hW => ⟨⟨v, (), rfl, rfl, by rw [ht]; exact hH.1, va_K.moved hW.alike X.2.2.2⟩, hH.2.F ht⟩) hH.2.2.2 hdg X.2.2.1
theorem mr_fw {p : Program} {l : Launch} {e : Env} {R : Room} {s : State} {m : MethodId} {args : Array Value} {below : List Frame} {meth : Method} {c : Code} {cc : ByteArray} {nL : Nat} {ret : Option FieldType} {D : va_G} {cI cZ : ClassId} {ad : Nat → Nat} {v0 v1 v2 v3 v4 v5 v6 v7 v8 : Nat → Int32} {H : Heap} {locs : List Loc} {pc : Nat} {ls : Array Slot} (X : mX D cI cZ p s m args meth c cc nL ret) (hH : mH D cI cZ ad v0 v1 v2 v3 v4 v5 v6 v7 v8 s H locs) {v : UInt32} (hr : ret = some .float) (hdg : decode cc pc = .ok (.freturn, 1)) : W p l e R s m args below meth c H locs 0 0 (MQ below (va_Qf (fun (r9 : UInt32) (_ : Unit) => r9 = v) (fun _ t => mB D cI cZ ad v0 v1 v2 v3 v4 v5 v6 v7 v8 t) (mA ad s.heap.size)) args s 0 0 (mA ad s.heap.size)) (F0 m pc ls [.float v]) := W.fret (v := v) X.1.1 X.1.2.1 (X.2.1.trans hr) (fun t ht hW => ⟨⟨v, (), rfl, rfl, by rw [ht]; exact hH.1, va_K.moved hW.alike X.2.2.2⟩, hH.2.F ht⟩) hH.2.2.2 hdg X.2.2.1
theorem mr_vw {p : Program} {l : Launch} {e : Env} {R : Room} {s : State} {m : MethodId} {args : Array Value} {below : List Frame} {meth : Method} {c : Code} {cc : ByteArray} {nL : Nat} {ret : Option FieldType} {D : va_G} {cI cZ : ClassId} {ad : Nat → Nat} {v0 v1 v2 v3 v4 v5 v6 v7 v8 : Nat → Int32} {H : Heap} {locs : List Loc} {pc : Nat} {ls : Array Slot} (X : mX D cI cZ p s m args meth c cc nL ret) (hH : mH D cI cZ ad v0 v1 v2 v3 v4 v5 v6 v7 v8 s H locs) (hr : ret = none) (hdg : decode cc pc = .ok (.return_, 1)) : W p l e R s m args below meth c H locs 0 0 (MQ below (va_Qv (fun (_ : Unit) => True) (fun _ t => mB D cI cZ ad v0 v1 v2 v3 v4 v5 v6 v7 v8 t) (mA ad s.heap.size)) args s 0 0 (mA ad s.heap.size)) (F0 m pc ls []) := W.vret X.1.1 X.1.2.1 (X.2.1.trans hr) (fun t ht hW => ⟨⟨(), rfl, trivial, by rw [ht]; exact hH.1, va_K.moved hW.alike X.2.2.2⟩, hH.2.F ht⟩) hH.2.2.2 hdg X.2.2.1
end
section
/-! the system's cells by number: State k (k < 10: 0 now, 1 trial, 2 to 7 saved, 8 and 9 snapshots) has 15 k to 15 k + 14: the object, grades, limits, runaways, settings, cars, movers, the 8 cars; 150 the railway, 151 history, 152 its row, 153 snapshots, 154 kept, 155 orders, 156 text. A memory has a vector a State (as the reference's row of 171, movers behind), 10 history, 11 kept, 12 orders -/
abbrev cYt : Type := ClassId × ClassId × ClassId × ClassId × ClassId
def cut (n o : Nat) (σ : Nat → Int32) : Nat → Int32 := fun i => if i < n then σ (o + i) else 0
theorem cut_in {n o i : Nat} {σ : Nat → Int32} (h : i < n) : cut n o σ i = σ (o + i) := if_pos h
theorem cut_0 {n i : Nat} {σ : Nat → Int32} (h : i < n) : cut n 0 σ i = σ i := by rw [cut_in h, Nat.zero_add]
theorem cut_congr {n o : Nat} {σ τ : Nat → Int32} (h : ∀ i, o ≤ i → i < o + n → σ i = τ i) : cut n o σ = cut n o τ := by
  funext i
  unfold cut
  by_cases c : i < n
  · rw [if_pos c, if_pos c, h (o + i) (by omega) (by omega)]
  · rw [if_neg c, if_neg c]
theorem cut_upd {n o i : Nat} {σ : Nat → Int32} {x : Int32} (h : i < n) : upd (cut n o σ) i x = cut n o (upd σ (o + i) x) := by
  funext j
  unfold upd cut
  by_cases c : j < n
  · rw [if_pos c, if_pos c]
    by_cases d : j = i
    · subst d; rw [if_pos rfl, if_pos rfl]
    · rw [if_neg d, if_neg (by omega)]
  · rw [if_neg c, if_neg (by omega), if_neg c]
/-- n cells from o on are another vector's -/
def bl (σ τ : Nat → Int32) (o n : Nat) : Nat → Int32 := fun i => if o ≤ i ∧ i < o + n then τ i else σ i
theorem cut_bl {n o : Nat} {σ τ : Nat → Int32} : va_cpy (cut n o τ) (cut n o σ) 0 0 n = cut n o (bl σ τ o n) := by
  funext j
  by_cases c : j < n
  · rw [pk_cpy_in (Nat.zero_le j) (by omega), cut_in c]
    rw [cut_in (by omega)]
    unfold bl
    rw [if_pos (by omega)]
    congr 1
    omega
  · rw [pk_cpy_out (Or.inr (by omega))]
    unfold cut
    rw [if_neg c, if_neg c]
/-- the cell of a State that holds a place of its vector -/
def rg (i : Nat) : Nat := if i < 30 then 1 else if i < 60 then 2 else if i < 90 then 3 else if i < 162 then (i - 90) / 9 + 7 else if i < 168 then 0 else if i < 171 then 4 else 6
theorem rg_1 {i : Nat} (h : i < 30) : rg i = 1 := if_pos h
theorem rg_2 {i : Nat} (h : 30 ≤ i) (h2 : i < 60) : rg i = 2 := by unfold rg; rw [if_neg (by omega), if_pos h2]
theorem rg_3 {i : Nat} (h : 60 ≤ i) (h2 : i < 90) : rg i = 3 := by unfold rg; rw [if_neg (by omega), if_neg (by omega), if_pos h2]
theorem rg_c {j f : Nat} (hj : j < 8) (hf : f < 9) : rg (90 + 9 * j + f) = j + 7 := by unfold rg; rw [if_neg (by omega), if_neg (by omega), if_neg (by omega), if_pos (by omega)]; omega
theorem rg_0 {i : Nat} (h : 162 ≤ i) (h2 : i < 168) : rg i = 0 := by unfold rg; rw [if_neg (by omega), if_neg (by omega), if_neg (by omega), if_neg (by omega), if_pos h2]
theorem rg_4 {i : Nat} (h : 168 ≤ i) (h2 : i < 171) : rg i = 4 := by unfold rg; rw [if_neg (by omega), if_neg (by omega), if_neg (by omega), if_neg (by omega), if_neg (by omega), if_pos h2]
theorem rg_6 {i : Nat} (h : 171 ≤ i) : rg i = 6 := by unfold rg; rw [if_neg (by omega), if_neg (by omega), if_neg (by omega), if_neg (by omega), if_neg (by omega), if_neg (by omega)]
def carFs (σ : Nat → Int32) (o : Nat) : List Value := [.int (σ (o + 0)), .int (σ (o + 1)), .int (σ (o + 2)), .int (σ (o + 3)), .int (σ (o + 4)), .int (σ (o + 5)), .int (σ (o + 6)), .int (σ (o + 7)), .int (σ (o + 8))]
def stFs (ad : Nat → Nat) (b : Nat) (σ : Nat → Int32) : List Value := [.ref (ad (b + 1)), .ref (ad (b + 2)), .ref (ad (b + 3)), .ref (ad (b + 4)), .ref (ad (b + 5)), .ref (ad (b + 6)), .int (σ 162), .int (σ 163), .int (σ 164), .int (σ 165), .int (σ 166), .int (σ 167)]
def stE (Y : cYt) (ad : Nat → Nat) (b : Nat) (r : Nat) (σ : Nat → Int32) : va_E := match r with
  | 0 => .inr (3, stFs ad b σ)
  | 1 => .inl (Y.1, 30, .inl (cut 30 0 σ))
  | 2 => .inl (Y.1, 30, .inl (cut 30 30 σ))
  | 3 => .inl (Y.1, 30, .inl (cut 30 60 σ))
  | 4 => .inl (Y.1, 3, .inl (cut 3 168 σ))
  | 5 => .inl (Y.2.2.2.1, 8, .inr (.inr (.inr (.inr (fun i => if i < 8 then some (ad (b + (i + 7))) else none)))))
  | 6 => .inl (Y.1, 8, .inl (cut 8 171 σ))
  | r + 7 => .inr (0, carFs σ (90 + 9 * r))
theorem stE_ext {Y : cYt} {ad : Nat → Nat} {b r : Nat} {σ τ : Nat → Int32} (hr : r < 15) (h : ∀ i, i < 179 → rg i = r → τ i = σ i) : stE Y ad b r τ = stE Y ad b r σ := by
  match r, hr, h with
  | 0, _, h =>
    have g : ∀ i, 162 ≤ i → i < 168 → τ i = σ i := fun i h1 h2 => h i (by omega) (rg_0 h1 h2)
    simp only [stE, stFs, g 162 (by omega) (by omega), g 163 (by omega) (by omega), g 164 (by omega) (by omega), g 165 (by omega) (by omega), g 166 (by omega) (by omega), g 167 (by omega) (by omega)]
  | 1, _, h => simp only [stE, cut_congr (n := 30) (o := 0) (fun i h1 h2 => h i (by omega) (rg_1 (by omega)))]
  | 2, _, h => simp only [stE, cut_congr (n := 30) (o := 30) (fun i h1 h2 => h i (by omega) (rg_2 (by omega) (by omega)))]
  | 3, _, h => simp only [stE, cut_congr (n := 30) (o := 60) (fun i h1 h2 => h i (by omega) (rg_3 (by omega) (by omega)))]
  | 4, _, h => simp only [stE, cut_congr (n := 3) (o := 168) (fun i h1 h2 => h i (by omega) (rg_4 (by omega) (by omega)))]
  | 5, _, h => rfl
  | 6, _, h => simp only [stE, cut_congr (n := 8) (o := 171) (fun i h1 h2 => h i (by omega) (rg_6 (by omega)))]
  | j + 7, hr, h =>
    have g : ∀ f, f < 9 → τ (90 + 9 * j + f) = σ (90 + 9 * j + f) := fun f hf => h _ (by omega) (rg_c (by omega) hf)
    simp only [stE, carFs, g 0 (by omega), g 1 (by omega), g 2 (by omega), g 3 (by omega), g 4 (by omega), g 5 (by omega), g 6 (by omega), g 7 (by omega), g 8 (by omega)]
def cwE (Y : cYt) (ad : Nat → Nat) (μ : Nat → Nat → Int32) (id : Nat) : va_E := if id < 150 then stE Y ad (15 * (id / 15)) (id % 15) (μ (id / 15)) else match id - 150 with
  | 0 => .inr (4, [.ref (ad 0), .ref (ad 15), .ref (ad 151), .ref (ad 153), .ref (ad 154), .ref (ad 155)])
  | 1 => .inr (1, [.ref (ad 152), .int (μ 10 1), .int (μ 10 2)])
  | 2 => .inl (Y.2.2.2.2, 6, .inr (.inr (.inr (.inr (fun i => if i < 6 then some (ad (15 * (2 + i))) else none)))))
  | 3 => .inl (Y.2.2.2.2, 2, .inr (.inr (.inr (.inr (fun i => if i < 2 then some (ad (15 * (8 + i))) else none)))))
  | 4 => .inl (Y.2.2.1, 2, .inl (cut 2 0 (μ 11)))
  | 5 => .inr (2, [.ref (ad 156), .int (μ 12 60)])
  | _ => .inl (Y.2.1, 60, .inl (cut 60 0 (μ 12)))
theorem cw_st {Y : cYt} {ad : Nat → Nat} {μ : Nat → Nat → Int32} {k r : Nat} (hk : k < 10) (hr : r < 15) : cwE Y ad μ (15 * k + r) = stE Y ad (15 * k) r (μ k) := by
  unfold cwE
  rw [if_pos (by omega), show (15 * k + r) / 15 = k by omega, show (15 * k + r) % 15 = r by omega]
def cwW (Y : cYt) (ad : Nat → Nat) (μ : Nat → Nat → Int32) : va_W := (List.range 157).map (fun id => (ad id, cwE Y ad μ id))
theorem cw_at {Y : cYt} {ad : Nat → Nat} {μ : Nat → Nat → Int32} {id : Nat} (h : id < 157) : (cwW Y ad μ)[id]? = some (ad id, cwE Y ad μ id) := by
  unfold cwW
  rw [List.getElem?_map, List.getElem?_range h]
  rfl
theorem cw_ate {Y : cYt} {ad : Nat → Nat} {μ : Nat → Nat → Int32} {id : Nat} {x : va_E} (h : id < 157) (hx : cwE Y ad μ id = x) : (cwW Y ad μ)[id]? = some (ad id, x) := by rw [cw_at h, hx]
theorem cw_set {Y : cYt} {ad : Nat → Nat} {μ μ' : Nat → Nat → Int32} {id : Nat} {x : va_E} (h : id < 157) (hx : cwE Y ad μ' id = x) (hE : ∀ j, j < 157 → j ≠ id → cwE Y ad μ' j = cwE Y ad μ j) : (cwW Y ad μ).set id (ad id, x) = cwW Y ad μ' := by
  apply List.ext_getElem?
  intro j
  have hl : (cwW Y ad μ).length = 157 := by unfold cwW; rw [List.length_map, List.length_range]
  by_cases hj : j = id
  · subst hj
    rw [List.getElem?_set_self (by omega), cw_at h, hx]
  · rw [List.getElem?_set_ne (fun q => hj q.symm)]
    by_cases hj2 : j < 157
    · rw [cw_at hj2, cw_at hj2, hE j hj2 hj]
    · rw [List.getElem?_eq_none (by omega), List.getElem?_eq_none (by unfold cwW; rw [List.length_map, List.length_range]; omega)]
theorem cw_hi {Y : cYt} {ad : Nat → Nat} {μ μ' : Nat → Nat → Int32} {j : Nat} (h1 : ¬ j < 150) (h : ∀ b, 10 ≤ b → μ' b = μ b) : cwE Y ad μ' j = cwE Y ad μ j := by
  unfold cwE
  rw [if_neg h1, if_neg h1, h 10 (by omega), h 11 (by omega), h 12 (by omega)]
theorem cw_lo {Y : cYt} {ad : Nat → Nat} {μ μ' : Nat → Nat → Int32} {j : Nat} (h1 : j < 150) (h : ∀ b, b < 10 → μ' b = μ b) : cwE Y ad μ' j = cwE Y ad μ j := by
  unfold cwE
  rw [if_pos h1, if_pos h1, h _ (by omega)]
/-- a cell of a State's is another -/
theorem cw_vec {Y : cYt} {ad : Nat → Nat} {μ : Nat → Nat → Int32} {k r : Nat} {σ σ' : Nat → Int32} (hk : k < 10) (hr : r < 15) (h : ∀ i, i < 179 → rg i ≠ r → σ' i = σ i) : (cwW Y ad (s1 μ k σ)).set (15 * k + r) (ad (15 * k + r), stE Y ad (15 * k) r σ') = cwW Y ad (s1 μ k σ') := by
  refine cw_set (by omega) (by rw [cw_st hk hr, s1_k]) (fun j hj hne => ?_)
  by_cases h1 : j < 150
  · by_cases h2 : j / 15 = k
    · have hj2 : j = 15 * k + j % 15 := by omega
      rw [hj2, cw_st hk (by omega), cw_st hk (by omega), s1_k, s1_k]
      exact stE_ext (by omega) (fun i hi hg => h i hi (by omega))
    · unfold cwE
      rw [if_pos h1, if_pos h1, s1_n h2, s1_n h2]
  · exact cw_hi h1 (fun b hb => by rw [s1_n (by omega), s1_n (by omega)])
theorem cw_up {Y : cYt} {ad : Nat → Nat} {μ : Nat → Nat → Int32} {k r idx : Nat} {σ : Nat → Int32} {x : Int32} (hk : k < 10) (hr : r < 15) (h : rg idx = r) : (cwW Y ad (s1 μ k σ)).set (15 * k + r) (ad (15 * k + r), stE Y ad (15 * k) r (upd σ idx x)) = cwW Y ad (s1 μ k (upd σ idx x)) := cw_vec hk hr (fun i _ hg => pk_un (fun e => hg (by rw [e]; exact h)))
abbrev cTys (Y : cYt) : List (ClassId × FieldType) := [(Y.1, .int), (Y.2.1, .char), (Y.2.2.1, .boolean), (Y.2.2.2.1, .object "OreRailway$Car"), (Y.2.2.2.2, .object "OreRailway$State")]
def cInj (ad : Nat → Nat) : Prop := ∀ i j, i < 157 → j < 157 → ad i = ad j → i = j
def cA (ad : Nat → Nat) (sz : Nat) : Nat → Prop := fun q => (∃ i, i < 157 ∧ q = ad i) ∨ sz ≤ q
theorem cD {Y : cYt} {ad : Nat → Nat} {μ : Nat → Nat → Int32} {sz : Nat} (hI : cInj ad) : va_D (cA ad sz) (cwW Y ad μ) := wd_D (n := 157) (ad := ad) (by unfold cwW; rw [List.map_map]; rfl) hI (fun i h => Or.inl ⟨i, h, rfl⟩)
def cB (D : va_G) (Y : cYt) (ad : Nat → Nat) (μ : Nat → Nat → Int32) (U : State) : Prop := va_P D vwCl (cwW Y ad μ) U.heap ∧ va_K D vwCl (cTys Y) U
def cH (D : va_G) (Y : cYt) (ad : Nat → Nat) (μ : Nat → Nat → Int32) (s : State) (H : Heap) (locs : List Loc) : Prop := va_P D vwCl (cwW Y ad μ) H ∧ va_S (cA ad s.heap.size) s.heap H locs
def cX (D : va_G) (Y : cYt) (p : Program) (s : State) (m : MethodId) (args : Array Value) (meth : Method) (c : Code) (cc : ByteArray) (nL : Nat) (own : String) (ret : Option FieldType) : Prop := CallFix p m c cc nL s args gw own ∧ meth.sig.returnType = ret ∧ meth.locks = false ∧ va_K D vwCl (cTys Y) s
theorem cB_bl {D : va_G} {Y : cYt} {ad : Nat → Nat} {μ : Nat → Nat → Int32} {As : List Value} : FrameBlind (va_Pc As (cB D Y ad μ)) := fun a U g mk h => ⟨h.1, h.2.1, va_K.moved (u := U) (U := U.calling g mk a) (Vm.Alike.refl U.vm) h.2.2⟩
theorem cBs_bl {D : va_G} {Y : cYt} {ad : Nat → Nat} {μ : Nat → Nat → Int32} {As : List Value} {sz : Nat} : FrameBlind (va_Pc As (fun U => U.heap.size = sz ∧ cB D Y ad μ U)) := fun a U g mk h => ⟨h.1, h.2.1, h.2.2.1, va_K.moved (u := U) (U := U.calling g mk a) (Vm.Alike.refl U.vm) h.2.2.2⟩
theorem cH_in {D : va_G} {Y : cYt} {ad : Nat → Nat} {μ : Nat → Nat → Int32} {s : State} {H : Heap} {locs : List Loc} (k : Nat) (h : cH D Y ad μ s H locs) : cH D Y ad (s1 μ k (μ k)) s H locs := by rw [s1_same]; exact h
theorem cP_in {D : va_G} {Y : cYt} {ad : Nat → Nat} {μ : Nat → Nat → Int32} {H : Heap} (k : Nat) (h : va_P D vwCl (cwW Y ad μ) H) : va_P D vwCl (cwW Y ad (s1 μ k (μ k))) H := by rw [s1_same]; exact h

theorem vin_lt {i : Int32} {n : Nat} (h : vp_in i n) : i.toNatClampNeg < n := Nat.not_le.mp (fun q => h (Or.inr q))
theorem TX0_c : ∀ k, (TX0 k).1 = "OreRailway$Car" := by
  intro k
  unfold TX0
  split <;> rfl
theorem TX1_c : ∀ k, (TX1 k).1 = "OreRailway$History" := by
  intro k
  unfold TX1
  split <;> rfl
theorem TX2_c : ∀ k, (TX2 k).1 = "OreRailway$OrderText" := by
  intro k
  unfold TX2
  split <;> rfl
theorem TX3_c : ∀ k, (TX3 k).1 = "OreRailway$State" := by
  intro k
  unfold TX3
  split <;> rfl
theorem TX4_c : ∀ k, (TX4 k).1 = "OreRailway" := by
  intro k
  unfold TX4
  split <;> rfl
theorem cr_gSt {p : Program} {l : Launch} {e : Env} {R : Room} {s : State} {m : MethodId} {args : Array Value} {below : List Frame} {meth : Method} {c : Code} {cc : ByteArray} {nL : Nat} {own : String} {ret : Option FieldType} {D : va_G} {Y : cYt} {ad : Nat → Nat} {μ : Nat → Nat → Int32} {H : Heap} {locs : List Loc} {cells slots : Nat} {Q : State → Prop} {pc : Nat} {ls : Array Slot} {rest : List Value} (X : cX D Y p s m args meth c cc nL own ret) {σ : Nat → Int32} {k : Nat} (hk : k < 10) (hM : μ k = σ) (hP : va_P D vwCl (cwW Y ad μ) H) {index i : Nat} {v : Value} (hi : i < 12) (hw : Cond.fieldLink own index "OreRailway$State" (TX3 i).2.1 (TX3 i).2.2.1 ∈ gw) (hv : (stFs ad (15 * k) σ)[i]? = some v) (hdg : decode cc pc = .ok (.getfield index, 3)) (kk : W p l e R s m args below meth c H locs cells slots Q (F0 m (pc + 3) ls (v :: rest))) : W p l e R s m args below meth c H locs cells slots Q (F0 m pc ls (.ref (ad (15 * k)) :: rest)) := va_get (D := D) (ci := 3) (v := v) (C := RX3) (T := TX3) (N := 12) X.1.1 X.1.2.1 X.1.2.2.2.2 inlX3 X.1.2.2.2.1 X.2.2.2 hP (15 * k) (cw_ate (by omega) ((cw_st (r := 0) hk (by omega)).trans (by rw [hM]; rfl))) rfl i hi (X.1.2.2.2.2 _ hw) (fun x h => by rw [TX3_c] at h; exact h) hv hdg kk
theorem cr_gCar {p : Program} {l : Launch} {e : Env} {R : Room} {s : State} {m : MethodId} {args : Array Value} {below : List Frame} {meth : Method} {c : Code} {cc : ByteArray} {nL : Nat} {own : String} {ret : Option FieldType} {D : va_G} {Y : cYt} {ad : Nat → Nat} {μ : Nat → Nat → Int32} {H : Heap} {locs : List Loc} {cells slots : Nat} {Q : State → Prop} {pc : Nat} {ls : Array Slot} {rest : List Value} (X : cX D Y p s m args meth c cc nL own ret) {σ : Nat → Int32} {k : Nat} (hk : k < 10) (hM : μ k = σ) {j : Nat} (hj : j < 8) (hP : va_P D vwCl (cwW Y ad μ) H) {index i : Nat} {v : Value} (hi : i < 9) (hw : Cond.fieldLink own index "OreRailway$Car" (TX0 i).2.1 (TX0 i).2.2.1 ∈ gw) (hv : (carFs σ (90 + 9 * j))[i]? = some v) (hdg : decode cc pc = .ok (.getfield index, 3)) (kk : W p l e R s m args below meth c H locs cells slots Q (F0 m (pc + 3) ls (v :: rest))) : W p l e R s m args below meth c H locs cells slots Q (F0 m pc ls (.ref (ad (15 * k + (j + 7))) :: rest)) := va_get (D := D) (ci := 0) (v := v) (C := RX0) (T := TX0) (N := 9) X.1.1 X.1.2.1 X.1.2.2.2.2 inlX0 X.1.2.2.2.1 X.2.2.2 hP (15 * k + (j + 7)) (cw_ate (by omega) ((cw_st (r := j + 7) hk (by omega)).trans (by rw [hM]; rfl))) rfl i hi (X.1.2.2.2.2 _ hw) (fun x h => by rw [TX0_c] at h; exact h) hv hdg kk
theorem cr_gHi {p : Program} {l : Launch} {e : Env} {R : Room} {s : State} {m : MethodId} {args : Array Value} {below : List Frame} {meth : Method} {c : Code} {cc : ByteArray} {nL : Nat} {own : String} {ret : Option FieldType} {D : va_G} {Y : cYt} {ad : Nat → Nat} {μ : Nat → Nat → Int32} {H : Heap} {locs : List Loc} {cells slots : Nat} {Q : State → Prop} {pc : Nat} {ls : Array Slot} {rest : List Value} (X : cX D Y p s m args meth c cc nL own ret)  (hP : va_P D vwCl (cwW Y ad μ) H) {index i : Nat} {v : Value} (hi : i < 3) (hw : Cond.fieldLink own index "OreRailway$History" (TX1 i).2.1 (TX1 i).2.2.1 ∈ gw) (hv : ([Value.ref (ad 152), .int (μ 10 1), .int (μ 10 2)])[i]? = some v) (hdg : decode cc pc = .ok (.getfield index, 3)) (kk : W p l e R s m args below meth c H locs cells slots Q (F0 m (pc + 3) ls (v :: rest))) : W p l e R s m args below meth c H locs cells slots Q (F0 m pc ls (.ref (ad (151)) :: rest)) := va_get (D := D) (ci := 1) (v := v) (C := RX1) (T := TX1) (N := 3) X.1.1 X.1.2.1 X.1.2.2.2.2 inlX1 X.1.2.2.2.1 X.2.2.2 hP (151) (cw_ate (by omega) (rfl)) rfl i hi (X.1.2.2.2.2 _ hw) (fun x h => by rw [TX1_c] at h; exact h) hv hdg kk
theorem cr_gOr {p : Program} {l : Launch} {e : Env} {R : Room} {s : State} {m : MethodId} {args : Array Value} {below : List Frame} {meth : Method} {c : Code} {cc : ByteArray} {nL : Nat} {own : String} {ret : Option FieldType} {D : va_G} {Y : cYt} {ad : Nat → Nat} {μ : Nat → Nat → Int32} {H : Heap} {locs : List Loc} {cells slots : Nat} {Q : State → Prop} {pc : Nat} {ls : Array Slot} {rest : List Value} (X : cX D Y p s m args meth c cc nL own ret) {σ : Nat → Int32} (hM : μ 12 = σ) (hP : va_P D vwCl (cwW Y ad μ) H) {index i : Nat} {v : Value} (hi : i < 2) (hw : Cond.fieldLink own index "OreRailway$OrderText" (TX2 i).2.1 (TX2 i).2.2.1 ∈ gw) (hv : ([Value.ref (ad 156), .int (σ 60)])[i]? = some v) (hdg : decode cc pc = .ok (.getfield index, 3)) (kk : W p l e R s m args below meth c H locs cells slots Q (F0 m (pc + 3) ls (v :: rest))) : W p l e R s m args below meth c H locs cells slots Q (F0 m pc ls (.ref (ad (155)) :: rest)) := va_get (D := D) (ci := 2) (v := v) (C := RX2) (T := TX2) (N := 2) X.1.1 X.1.2.1 X.1.2.2.2.2 inlX2 X.1.2.2.2.1 X.2.2.2 hP (155) (cw_ate (by omega) (by rw [← hM]; rfl)) rfl i hi (X.1.2.2.2.2 _ hw) (fun x h => by rw [TX2_c] at h; exact h) hv hdg kk
theorem cr_gRa {p : Program} {l : Launch} {e : Env} {R : Room} {s : State} {m : MethodId} {args : Array Value} {below : List Frame} {meth : Method} {c : Code} {cc : ByteArray} {nL : Nat} {own : String} {ret : Option FieldType} {D : va_G} {Y : cYt} {ad : Nat → Nat} {μ : Nat → Nat → Int32} {H : Heap} {locs : List Loc} {cells slots : Nat} {Q : State → Prop} {pc : Nat} {ls : Array Slot} {rest : List Value} (X : cX D Y p s m args meth c cc nL own ret)  (hP : va_P D vwCl (cwW Y ad μ) H) {index i : Nat} {v : Value} (hi : i < 6) (hw : Cond.fieldLink own index "OreRailway" (TX4 i).2.1 (TX4 i).2.2.1 ∈ gw) (hv : ([Value.ref (ad 0), .ref (ad 15), .ref (ad 151), .ref (ad 153), .ref (ad 154), .ref (ad 155)])[i]? = some v) (hdg : decode cc pc = .ok (.getfield index, 3)) (kk : W p l e R s m args below meth c H locs cells slots Q (F0 m (pc + 3) ls (v :: rest))) : W p l e R s m args below meth c H locs cells slots Q (F0 m pc ls (.ref (ad (150)) :: rest)) := va_get (D := D) (ci := 4) (v := v) (C := RX4) (T := TX4) (N := 6) X.1.1 X.1.2.1 X.1.2.2.2.2 inlX4 X.1.2.2.2.1 X.2.2.2 hP (150) (cw_ate (by omega) (rfl)) rfl i hi (X.1.2.2.2.2 _ hw) (fun x h => by rw [TX4_c] at h; exact h) hv hdg kk
theorem cr_ld1 {p : Program} {l : Launch} {e : Env} {R : Room} {s : State} {m : MethodId} {args : Array Value} {below : List Frame} {meth : Method} {c : Code} {cc : ByteArray} {nL : Nat} {own : String} {ret : Option FieldType} {D : va_G} {Y : cYt} {ad : Nat → Nat} {μ : Nat → Nat → Int32} {H : Heap} {locs : List Loc} {cells slots : Nat} {Q : State → Prop} {pc : Nat} {ls : Array Slot} {rest : List Value} (X : cX D Y p s m args meth c cc nL own ret) {σ : Nat → Int32} {k : Nat} (hk : k < 10) (hM : μ k = σ) (hP : va_P D vwCl (cwW Y ad μ) H) {i : Int32} (hi : vp_in i 30) (hdg : decode cc pc = .ok (.iaload, 1)) (kk : W p l e R s m args below meth c H locs cells slots Q (F0 m (pc + 1) ls (.int (σ i.toNatClampNeg) :: rest))) : W p l e R s m args below meth c H locs cells slots Q (F0 m pc ls (.int i :: .ref (ad (15 * k + 1)) :: rest)) := by
  refine va_iald X.1.1 X.1.2.1 X.2.2.2 hP (15 * k + 1) 0 (cw_ate (by omega) ((cw_st (r := 1) hk (by omega)).trans (by rw [hM]; rfl))) rfl hi hdg ?_
  rw [cut_0 (vin_lt hi)]
  exact kk
theorem cr_ld2 {p : Program} {l : Launch} {e : Env} {R : Room} {s : State} {m : MethodId} {args : Array Value} {below : List Frame} {meth : Method} {c : Code} {cc : ByteArray} {nL : Nat} {own : String} {ret : Option FieldType} {D : va_G} {Y : cYt} {ad : Nat → Nat} {μ : Nat → Nat → Int32} {H : Heap} {locs : List Loc} {cells slots : Nat} {Q : State → Prop} {pc : Nat} {ls : Array Slot} {rest : List Value} (X : cX D Y p s m args meth c cc nL own ret) {σ : Nat → Int32} {k : Nat} (hk : k < 10) (hM : μ k = σ) (hP : va_P D vwCl (cwW Y ad μ) H) {i : Int32} (hi : vp_in i 30) (hdg : decode cc pc = .ok (.iaload, 1)) (kk : W p l e R s m args below meth c H locs cells slots Q (F0 m (pc + 1) ls (.int (σ (30 + i.toNatClampNeg)) :: rest))) : W p l e R s m args below meth c H locs cells slots Q (F0 m pc ls (.int i :: .ref (ad (15 * k + 2)) :: rest)) := by
  refine va_iald X.1.1 X.1.2.1 X.2.2.2 hP (15 * k + 2) 0 (cw_ate (by omega) ((cw_st (r := 2) hk (by omega)).trans (by rw [hM]; rfl))) rfl hi hdg ?_
  rw [cut_in (vin_lt hi)]
  exact kk
theorem cr_ld3 {p : Program} {l : Launch} {e : Env} {R : Room} {s : State} {m : MethodId} {args : Array Value} {below : List Frame} {meth : Method} {c : Code} {cc : ByteArray} {nL : Nat} {own : String} {ret : Option FieldType} {D : va_G} {Y : cYt} {ad : Nat → Nat} {μ : Nat → Nat → Int32} {H : Heap} {locs : List Loc} {cells slots : Nat} {Q : State → Prop} {pc : Nat} {ls : Array Slot} {rest : List Value} (X : cX D Y p s m args meth c cc nL own ret) {σ : Nat → Int32} {k : Nat} (hk : k < 10) (hM : μ k = σ) (hP : va_P D vwCl (cwW Y ad μ) H) {i : Int32} (hi : vp_in i 30) (hdg : decode cc pc = .ok (.iaload, 1)) (kk : W p l e R s m args below meth c H locs cells slots Q (F0 m (pc + 1) ls (.int (σ (60 + i.toNatClampNeg)) :: rest))) : W p l e R s m args below meth c H locs cells slots Q (F0 m pc ls (.int i :: .ref (ad (15 * k + 3)) :: rest)) := by
  refine va_iald X.1.1 X.1.2.1 X.2.2.2 hP (15 * k + 3) 0 (cw_ate (by omega) ((cw_st (r := 3) hk (by omega)).trans (by rw [hM]; rfl))) rfl hi hdg ?_
  rw [cut_in (vin_lt hi)]
  exact kk
theorem cr_ld4 {p : Program} {l : Launch} {e : Env} {R : Room} {s : State} {m : MethodId} {args : Array Value} {below : List Frame} {meth : Method} {c : Code} {cc : ByteArray} {nL : Nat} {own : String} {ret : Option FieldType} {D : va_G} {Y : cYt} {ad : Nat → Nat} {μ : Nat → Nat → Int32} {H : Heap} {locs : List Loc} {cells slots : Nat} {Q : State → Prop} {pc : Nat} {ls : Array Slot} {rest : List Value} (X : cX D Y p s m args meth c cc nL own ret) {σ : Nat → Int32} {k : Nat} (hk : k < 10) (hM : μ k = σ) (hP : va_P D vwCl (cwW Y ad μ) H) {i : Int32} (hi : vp_in i 3) (hdg : decode cc pc = .ok (.iaload, 1)) (kk : W p l e R s m args below meth c H locs cells slots Q (F0 m (pc + 1) ls (.int (σ (168 + i.toNatClampNeg)) :: rest))) : W p l e R s m args below meth c H locs cells slots Q (F0 m pc ls (.int i :: .ref (ad (15 * k + 4)) :: rest)) := by
  refine va_iald X.1.1 X.1.2.1 X.2.2.2 hP (15 * k + 4) 0 (cw_ate (by omega) ((cw_st (r := 4) hk (by omega)).trans (by rw [hM]; rfl))) rfl hi hdg ?_
  rw [cut_in (vin_lt hi)]
  exact kk
theorem cr_ld6 {p : Program} {l : Launch} {e : Env} {R : Room} {s : State} {m : MethodId} {args : Array Value} {below : List Frame} {meth : Method} {c : Code} {cc : ByteArray} {nL : Nat} {own : String} {ret : Option FieldType} {D : va_G} {Y : cYt} {ad : Nat → Nat} {μ : Nat → Nat → Int32} {H : Heap} {locs : List Loc} {cells slots : Nat} {Q : State → Prop} {pc : Nat} {ls : Array Slot} {rest : List Value} (X : cX D Y p s m args meth c cc nL own ret) {σ : Nat → Int32} {k : Nat} (hk : k < 10) (hM : μ k = σ) (hP : va_P D vwCl (cwW Y ad μ) H) {i : Int32} (hi : vp_in i 8) (hdg : decode cc pc = .ok (.iaload, 1)) (kk : W p l e R s m args below meth c H locs cells slots Q (F0 m (pc + 1) ls (.int (σ (171 + i.toNatClampNeg)) :: rest))) : W p l e R s m args below meth c H locs cells slots Q (F0 m pc ls (.int i :: .ref (ad (15 * k + 6)) :: rest)) := by
  refine va_iald X.1.1 X.1.2.1 X.2.2.2 hP (15 * k + 6) 0 (cw_ate (by omega) ((cw_st (r := 6) hk (by omega)).trans (by rw [hM]; rfl))) rfl hi hdg ?_
  rw [cut_in (vin_lt hi)]
  exact kk
theorem cr_cars {p : Program} {l : Launch} {e : Env} {R : Room} {s : State} {m : MethodId} {args : Array Value} {below : List Frame} {meth : Method} {c : Code} {cc : ByteArray} {nL : Nat} {own : String} {ret : Option FieldType} {D : va_G} {Y : cYt} {ad : Nat → Nat} {μ : Nat → Nat → Int32} {H : Heap} {locs : List Loc} {cells slots : Nat} {Q : State → Prop} {pc : Nat} {ls : Array Slot} {rest : List Value} (X : cX D Y p s m args meth c cc nL own ret) {k : Nat} (hk : k < 10) (hP : va_P D vwCl (cwW Y ad μ) H) {i : Int32} (hi : vp_in i 8) (hdg : decode cc pc = .ok (.aaload, 1)) (kk : W p l e R s m args below meth c H locs cells slots Q (F0 m (pc + 1) ls (.ref (ad (15 * k + (i.toNatClampNeg + 7))) :: rest))) : W p l e R s m args below meth c H locs cells slots Q (F0 m pc ls (.int i :: .ref (ad (15 * k + 5)) :: rest)) := by
  refine va_aldq X.1.1 X.1.2.1 X.2.2.2 hP (15 * k + 5) 3 (cw_ate (by omega) ((cw_st (r := 5) hk (by omega)).trans rfl)) rfl hi hdg ?_
  rw [if_pos (vin_lt hi)]
  exact kk
theorem cr_saved {p : Program} {l : Launch} {e : Env} {R : Room} {s : State} {m : MethodId} {args : Array Value} {below : List Frame} {meth : Method} {c : Code} {cc : ByteArray} {nL : Nat} {own : String} {ret : Option FieldType} {D : va_G} {Y : cYt} {ad : Nat → Nat} {μ : Nat → Nat → Int32} {H : Heap} {locs : List Loc} {cells slots : Nat} {Q : State → Prop} {pc : Nat} {ls : Array Slot} {rest : List Value} (X : cX D Y p s m args meth c cc nL own ret) (hP : va_P D vwCl (cwW Y ad μ) H) {i : Int32} (hi : vp_in i 6) (hdg : decode cc pc = .ok (.aaload, 1)) (kk : W p l e R s m args below meth c H locs cells slots Q (F0 m (pc + 1) ls (.ref (ad (15 * (2 + i.toNatClampNeg))) :: rest))) : W p l e R s m args below meth c H locs cells slots Q (F0 m pc ls (.int i :: .ref (ad 152) :: rest)) := by
  refine va_aldq X.1.1 X.1.2.1 X.2.2.2 hP 152 4 (cw_ate (by omega) rfl) rfl hi hdg ?_
  rw [if_pos (vin_lt hi)]
  exact kk
theorem cr_shots {p : Program} {l : Launch} {e : Env} {R : Room} {s : State} {m : MethodId} {args : Array Value} {below : List Frame} {meth : Method} {c : Code} {cc : ByteArray} {nL : Nat} {own : String} {ret : Option FieldType} {D : va_G} {Y : cYt} {ad : Nat → Nat} {μ : Nat → Nat → Int32} {H : Heap} {locs : List Loc} {cells slots : Nat} {Q : State → Prop} {pc : Nat} {ls : Array Slot} {rest : List Value} (X : cX D Y p s m args meth c cc nL own ret) (hP : va_P D vwCl (cwW Y ad μ) H) {i : Int32} (hi : vp_in i 2) (hdg : decode cc pc = .ok (.aaload, 1)) (kk : W p l e R s m args below meth c H locs cells slots Q (F0 m (pc + 1) ls (.ref (ad (15 * (8 + i.toNatClampNeg))) :: rest))) : W p l e R s m args below meth c H locs cells slots Q (F0 m pc ls (.int i :: .ref (ad 153) :: rest)) := by
  refine va_aldq X.1.1 X.1.2.1 X.2.2.2 hP 153 4 (cw_ate (by omega) rfl) rfl hi hdg ?_
  rw [if_pos (vin_lt hi)]
  exact kk
theorem cr_kept {p : Program} {l : Launch} {e : Env} {R : Room} {s : State} {m : MethodId} {args : Array Value} {below : List Frame} {meth : Method} {c : Code} {cc : ByteArray} {nL : Nat} {own : String} {ret : Option FieldType} {D : va_G} {Y : cYt} {ad : Nat → Nat} {μ : Nat → Nat → Int32} {H : Heap} {locs : List Loc} {cells slots : Nat} {Q : State → Prop} {pc : Nat} {ls : Array Slot} {rest : List Value} (X : cX D Y p s m args meth c cc nL own ret) (hP : va_P D vwCl (cwW Y ad μ) H) {i : Int32} (hi : vp_in i 2) (hdg : decode cc pc = .ok (.baload, 1)) (kk : W p l e R s m args below meth c H locs cells slots Q (F0 m (pc + 1) ls (.int (μ 11 i.toNatClampNeg) :: rest))) : W p l e R s m args below meth c H locs cells slots Q (F0 m pc ls (.int i :: .ref (ad 154) :: rest)) := by
  refine va_zald X.1.1 X.1.2.1 X.2.2.2 hP 154 2 (cw_ate (by omega) rfl) rfl hi hdg ?_
  rw [cut_0 (vin_lt hi)]
  exact kk
theorem cr_text {p : Program} {l : Launch} {e : Env} {R : Room} {s : State} {m : MethodId} {args : Array Value} {below : List Frame} {meth : Method} {c : Code} {cc : ByteArray} {nL : Nat} {own : String} {ret : Option FieldType} {D : va_G} {Y : cYt} {ad : Nat → Nat} {μ : Nat → Nat → Int32} {H : Heap} {locs : List Loc} {cells slots : Nat} {Q : State → Prop} {pc : Nat} {ls : Array Slot} {rest : List Value} (X : cX D Y p s m args meth c cc nL own ret) {σ : Nat → Int32} (hM : μ 12 = σ) (hP : va_P D vwCl (cwW Y ad μ) H) {i : Int32} (hi : vp_in i 60) (hdg : decode cc pc = .ok (.caload, 1)) (kk : W p l e R s m args below meth c H locs cells slots Q (F0 m (pc + 1) ls (.int (σ i.toNatClampNeg) :: rest))) : W p l e R s m args below meth c H locs cells slots Q (F0 m pc ls (.int i :: .ref (ad 156) :: rest)) := by
  refine va_cald X.1.1 X.1.2.1 X.2.2.2 hP 156 1 (cw_ate (by omega) rfl) rfl hi hdg ?_
  rw [cut_0 (vin_lt hi), hM]
  exact kk
theorem stFs_set {ad : Nat → Nat} {b i : Nat} {σ : Nat → Int32} {x : Int32} (h : 6 ≤ i ∧ i < 12) : (stFs ad b σ).set i (.int x) = stFs ad b (upd σ (156 + i) x) := by
  obtain ⟨h1, h2⟩ := h
  rcases (show i = 6 ∨ i = 7 ∨ i = 8 ∨ i = 9 ∨ i = 10 ∨ i = 11 by omega) with rfl | rfl | rfl | rfl | rfl | rfl <;> simp [stFs, upd]
theorem carFs_set {o i : Nat} {σ : Nat → Int32} {x : Int32} (h : i < 9) : (carFs σ o).set i (.int x) = carFs (upd σ (o + i) x) o := by
  rcases (show i = 0 ∨ i = 1 ∨ i = 2 ∨ i = 3 ∨ i = 4 ∨ i = 5 ∨ i = 6 ∨ i = 7 ∨ i = 8 by omega) with rfl | rfl | rfl | rfl | rfl | rfl | rfl | rfl | rfl <;> simp [carFs, upd]
theorem cw_oth {Y : cYt} {ad : Nat → Nat} {μ : Nat → Nat → Int32} {k id : Nat} {σ σ' : Nat → Int32} {x : va_E} (hid : id < 157) (h150 : ¬ id < 150) (hk : 10 ≤ k) (hx : cwE Y ad (s1 μ k σ') id = x) (h : ∀ j, ¬ j < 150 → j < 157 → j ≠ id → cwE Y ad (s1 μ k σ') j = cwE Y ad (s1 μ k σ) j) : (cwW Y ad (s1 μ k σ)).set id (ad id, x) = cwW Y ad (s1 μ k σ') := by
  refine cw_set hid hx (fun j hj hne => ?_)
  by_cases h1 : j < 150
  · exact cw_lo h1 (fun b hb => by rw [s1_n (by omega), s1_n (by omega)])
  · exact h j h1 hj hne
theorem cv_pSt {p : Program} {l : Launch} {e : Env} {R : Room} {s : State} {m : MethodId} {args : Array Value} {below : List Frame} {meth : Method} {c : Code} {cc : ByteArray} {nL : Nat} {own : String} {ret : Option FieldType} {D : va_G} {Y : cYt} {ad : Nat → Nat} {μ : Nat → Nat → Int32} {H : Heap} {locs : List Loc} {cells slots : Nat} {Q : State → Prop} {pc : Nat} {ls : Array Slot} {rest : List Value} (X : cX D Y p s m args meth c cc nL own ret) (hI : cInj ad) {σ : Nat → Int32} {k : Nat} (hk : k < 10) (hH : cH D Y ad (s1 μ k σ) s H locs) {index : Nat} {x : Int32} (i : Nat) (hi : 6 ≤ i ∧ i < 12) (hw : Cond.fieldLink own index "OreRailway$State" (TX3 i).2.1 (TX3 i).2.2.1 ∈ gw) (hdg : decode cc pc = .ok (.putfield index, 3)) (kk : ∀ (H1 : Heap) (locs1 : List Loc), cH D Y ad (s1 μ k (upd σ (156 + i) x)) s H1 locs1 → W p l e R s m args below meth c H1 locs1 cells slots Q (F0 m (pc + 3) ls rest)) : W p l e R s m args below meth c H locs cells slots Q (F0 m pc ls (.int x :: .ref (ad (15 * k)) :: rest)) := by
  have hty : tyX3 i = .int ∧ (TX3 i).2.2.2 = false := by
    obtain ⟨h1, h2⟩ := hi
    rcases (show i = 6 ∨ i = 7 ∨ i = 8 ∨ i = 9 ∨ i = 10 ∨ i = 11 by omega) with rfl | rfl | rfl | rfl | rfl | rfl <;> exact ⟨rfl, rfl⟩
  refine va_put (D := D) (ci := 3) (v := .int x) (ty := .int) (C := RX3) (T := TX3) (N := 12) X.1.1 X.1.2.1 X.1.2.2.2.2 inlX3 tyX3 tyX3_ok nmX3 X.1.2.2.2.1 X.2.2.2 hH.1 (cD hI) hH.2 (15 * k) (fs := stFs ad (15 * k) σ) (cw_ate (by omega) ((cw_st (r := 0) hk (by omega)).trans (by rw [s1_k]; rfl))) rfl i (by omega) (X.1.2.2.2.2 _ hw) (fun x h => by rw [TX3_c] at h; exact h) hty.2 ((tyX3_ok i (by omega)).trans (by rw [hty.1])) rfl rfl (by show i < 12; omega) hdg (fun H1 locs1 h1 _ h3 => kk H1 locs1 ⟨?_, h3⟩)
  have h4 := h1
  rw [stFs_set hi] at h4
  rw [← cw_up (r := 0) hk (by omega) (rg_0 (by omega) (by omega))]
  exact h4
theorem cv_pCar {p : Program} {l : Launch} {e : Env} {R : Room} {s : State} {m : MethodId} {args : Array Value} {below : List Frame} {meth : Method} {c : Code} {cc : ByteArray} {nL : Nat} {own : String} {ret : Option FieldType} {D : va_G} {Y : cYt} {ad : Nat → Nat} {μ : Nat → Nat → Int32} {H : Heap} {locs : List Loc} {cells slots : Nat} {Q : State → Prop} {pc : Nat} {ls : Array Slot} {rest : List Value} (X : cX D Y p s m args meth c cc nL own ret) (hI : cInj ad) {σ : Nat → Int32} {k : Nat} (hk : k < 10) {j : Nat} (hj : j < 8) (hH : cH D Y ad (s1 μ k σ) s H locs) {index : Nat} {x : Int32} (i : Nat) (hi : i < 9) (hw : Cond.fieldLink own index "OreRailway$Car" (TX0 i).2.1 (TX0 i).2.2.1 ∈ gw) (hdg : decode cc pc = .ok (.putfield index, 3)) (kk : ∀ (H1 : Heap) (locs1 : List Loc), cH D Y ad (s1 μ k (upd σ (90 + 9 * j + i) x)) s H1 locs1 → W p l e R s m args below meth c H1 locs1 cells slots Q (F0 m (pc + 3) ls rest)) : W p l e R s m args below meth c H locs cells slots Q (F0 m pc ls (.int x :: .ref (ad (15 * k + (j + 7))) :: rest)) := by
  have hty : tyX0 i = .int ∧ (TX0 i).2.2.2 = false := by
    rcases (show i = 0 ∨ i = 1 ∨ i = 2 ∨ i = 3 ∨ i = 4 ∨ i = 5 ∨ i = 6 ∨ i = 7 ∨ i = 8 by omega) with rfl | rfl | rfl | rfl | rfl | rfl | rfl | rfl | rfl <;> exact ⟨rfl, rfl⟩
  refine va_put (D := D) (ci := 0) (v := .int x) (ty := .int) (C := RX0) (T := TX0) (N := 9) X.1.1 X.1.2.1 X.1.2.2.2.2 inlX0 tyX0 tyX0_ok nmX0 X.1.2.2.2.1 X.2.2.2 hH.1 (cD hI) hH.2 (15 * k + (j + 7)) (fs := carFs σ (90 + 9 * j)) (cw_ate (by omega) ((cw_st (r := j + 7) hk (by omega)).trans (by rw [s1_k]; rfl))) rfl i (by omega) (X.1.2.2.2.2 _ hw) (fun x h => by rw [TX0_c] at h; exact h) hty.2 ((tyX0_ok i (by omega)).trans (by rw [hty.1])) rfl rfl (by show i < 9; omega) hdg (fun H1 locs1 h1 _ h3 => kk H1 locs1 ⟨?_, h3⟩)
  have h4 := h1
  rw [carFs_set hi] at h4
  rw [← cw_up (r := j + 7) hk (by omega) (rg_c hj hi)]
  exact h4
theorem cv_pHi {p : Program} {l : Launch} {e : Env} {R : Room} {s : State} {m : MethodId} {args : Array Value} {below : List Frame} {meth : Method} {c : Code} {cc : ByteArray} {nL : Nat} {own : String} {ret : Option FieldType} {D : va_G} {Y : cYt} {ad : Nat → Nat} {μ : Nat → Nat → Int32} {H : Heap} {locs : List Loc} {cells slots : Nat} {Q : State → Prop} {pc : Nat} {ls : Array Slot} {rest : List Value} (X : cX D Y p s m args meth c cc nL own ret) (hI : cInj ad) {σ : Nat → Int32}  (hH : cH D Y ad (s1 μ 10 σ) s H locs) {index : Nat} {x : Int32} (i : Nat) (hi : 1 ≤ i ∧ i < 3) (hw : Cond.fieldLink own index "OreRailway$History" (TX1 i).2.1 (TX1 i).2.2.1 ∈ gw) (hdg : decode cc pc = .ok (.putfield index, 3)) (kk : ∀ (H1 : Heap) (locs1 : List Loc), cH D Y ad (s1 μ 10 (upd σ (i) x)) s H1 locs1 → W p l e R s m args below meth c H1 locs1 cells slots Q (F0 m (pc + 3) ls rest)) : W p l e R s m args below meth c H locs cells slots Q (F0 m pc ls (.int x :: .ref (ad (151)) :: rest)) := by
  have hty : tyX1 i = .int ∧ (TX1 i).2.2.2 = false := by
    obtain ⟨h1, h2⟩ := hi
    rcases (show i = 1 ∨ i = 2 by omega) with rfl | rfl <;> exact ⟨rfl, rfl⟩
  refine va_put (D := D) (ci := 1) (v := .int x) (ty := .int) (C := RX1) (T := TX1) (N := 3) X.1.1 X.1.2.1 X.1.2.2.2.2 inlX1 tyX1 tyX1_ok nmX1 X.1.2.2.2.1 X.2.2.2 hH.1 (cD hI) hH.2 (151) (fs := [Value.ref (ad 152), .int (σ 1), .int (σ 2)]) (cw_ate (by omega) (rfl)) rfl i (by omega) (X.1.2.2.2.2 _ hw) (fun x h => by rw [TX1_c] at h; exact h) hty.2 ((tyX1_ok i (by omega)).trans (by rw [hty.1])) rfl rfl (by show i < 3; omega) hdg (fun H1 locs1 h1 _ h3 => kk H1 locs1 ⟨?_, h3⟩)
  have h4 := h1
  have h5 : (cwW Y ad (s1 μ 10 σ)).set 151 (ad 151, .inr (1, [Value.ref (ad 152), .int (σ 1), .int (σ 2)].set i (.int x))) = cwW Y ad (s1 μ 10 (upd σ i x)) := by
    refine cw_oth (by omega) (by omega) (by omega) ?_ (fun j h1 h2 h3 => ?_)
    · obtain ⟨h1, h2⟩ := hi
      rcases (show i = 1 ∨ i = 2 by omega) with rfl | rfl <;> simp [cwE, s1, upd]
    · rcases (show j = 150 ∨ j = 152 ∨ j = 153 ∨ j = 154 ∨ j = 155 ∨ j = 156 by omega) with rfl | rfl | rfl | rfl | rfl | rfl <;> simp [cwE, s1]
  rw [← h5]
  exact h4
theorem cv_pOr {p : Program} {l : Launch} {e : Env} {R : Room} {s : State} {m : MethodId} {args : Array Value} {below : List Frame} {meth : Method} {c : Code} {cc : ByteArray} {nL : Nat} {own : String} {ret : Option FieldType} {D : va_G} {Y : cYt} {ad : Nat → Nat} {μ : Nat → Nat → Int32} {H : Heap} {locs : List Loc} {cells slots : Nat} {Q : State → Prop} {pc : Nat} {ls : Array Slot} {rest : List Value} (X : cX D Y p s m args meth c cc nL own ret) (hI : cInj ad) {σ : Nat → Int32}  (hH : cH D Y ad (s1 μ 12 σ) s H locs) {index : Nat} {x : Int32} (i : Nat) (hi : i = 1) (hw : Cond.fieldLink own index "OreRailway$OrderText" (TX2 i).2.1 (TX2 i).2.2.1 ∈ gw) (hdg : decode cc pc = .ok (.putfield index, 3)) (kk : ∀ (H1 : Heap) (locs1 : List Loc), cH D Y ad (s1 μ 12 (upd σ (59 + i) x)) s H1 locs1 → W p l e R s m args below meth c H1 locs1 cells slots Q (F0 m (pc + 3) ls rest)) : W p l e R s m args below meth c H locs cells slots Q (F0 m pc ls (.int x :: .ref (ad (155)) :: rest)) := by
  have hty : tyX2 i = .int ∧ (TX2 i).2.2.2 = false := by
    subst hi
    exact ⟨rfl, rfl⟩
  refine va_put (D := D) (ci := 2) (v := .int x) (ty := .int) (C := RX2) (T := TX2) (N := 2) X.1.1 X.1.2.1 X.1.2.2.2.2 inlX2 tyX2 tyX2_ok nmX2 X.1.2.2.2.1 X.2.2.2 hH.1 (cD hI) hH.2 (155) (fs := [Value.ref (ad 156), .int (σ 60)]) (cw_ate (by omega) (rfl)) rfl i (by omega) (X.1.2.2.2.2 _ hw) (fun x h => by rw [TX2_c] at h; exact h) hty.2 ((tyX2_ok i (by omega)).trans (by rw [hty.1])) rfl rfl (by show i < 2; omega) hdg (fun H1 locs1 h1 _ h3 => kk H1 locs1 ⟨?_, h3⟩)
  have h4 := h1
  have h5 : (cwW Y ad (s1 μ 12 σ)).set 155 (ad 155, .inr (2, [Value.ref (ad 156), .int (σ 60)].set i (.int x))) = cwW Y ad (s1 μ 12 (upd σ (59 + i) x)) := by
    refine cw_oth (by omega) (by omega) (by omega) ?_ (fun j h1 h2 h3 => ?_)
    · subst hi
      simp [cwE, s1, upd]
    · rcases (show j = 150 ∨ j = 151 ∨ j = 152 ∨ j = 153 ∨ j = 154 ∨ j = 156 by omega) with rfl | rfl | rfl | rfl | rfl | rfl <;> try simp [cwE, s1]
      exact cut_congr (fun q h4 h5 => by simp [upd]; omega)
  rw [← h5]
  exact h4
theorem cv_st1 {p : Program} {l : Launch} {e : Env} {R : Room} {s : State} {m : MethodId} {args : Array Value} {below : List Frame} {meth : Method} {c : Code} {cc : ByteArray} {nL : Nat} {own : String} {ret : Option FieldType} {D : va_G} {Y : cYt} {ad : Nat → Nat} {μ : Nat → Nat → Int32} {H : Heap} {locs : List Loc} {cells slots : Nat} {Q : State → Prop} {pc : Nat} {ls : Array Slot} {rest : List Value} (X : cX D Y p s m args meth c cc nL own ret) (hI : cInj ad) {σ : Nat → Int32} {k : Nat} (hk : k < 10) (hH : cH D Y ad (s1 μ k σ) s H locs) {i x : Int32} (hi : vp_in i 30) (hdg : decode cc pc = .ok (.iastore, 1)) (kk : ∀ (H1 : Heap) (locs1 : List Loc), cH D Y ad (s1 μ k (upd σ (i.toNatClampNeg) x)) s H1 locs1 → W p l e R s m args below meth c H1 locs1 cells slots Q (F0 m (pc + 1) ls rest)) : W p l e R s m args below meth c H locs cells slots Q (F0 m pc ls (.int x :: .int i :: .ref (ad (15 * k + 1)) :: rest)) := by
  have hlt := vin_lt hi
  refine va_iast X.1.1 X.1.2.1 X.2.2.2 hH.1 (cD hI) hH.2 (15 * k + 1) 0 (cw_ate (by omega) ((cw_st (r := 1) hk (by omega)).trans (by rw [s1_k]; rfl))) rfl hi hdg (fun H1 locs1 h1 _ h3 => kk H1 locs1 ⟨?_, h3⟩)
  have h4 := h1
  rw [cut_upd hlt] at h4
  rw [Nat.zero_add] at h4
  rw [← cw_up (r := 1) hk (by omega) (rg_1 (by omega))]
  exact h4
theorem cv_cp1 {p : Program} {l : Launch} {e : Env} {R : Room} {s : State} {m : MethodId} {args : Array Value} {below : List Frame} {meth : Method} {c : Code} {cc : ByteArray} {nL : Nat} {own : String} {ret : Option FieldType} {D : va_G} {Y : cYt} {ad : Nat → Nat} {μ : Nat → Nat → Int32} {H : Heap} {locs : List Loc} {cells slots : Nat} {Q : State → Prop} {pc : Nat} {ls : Array Slot} {rest : List Value} (X : cX D Y p s m args meth c cc nL own ret) (hI : cInj ad) (hls : ls.size = nL) {σ τ : Nat → Int32} {k k2 : Nat} (hk : k < 10) (hk2 : k2 < 10) (hne : k2 ≠ k) (hM : μ k2 = τ) (hH : cH D Y ad (s1 μ k σ) s H locs) {index : Nat} (hlink : Cond.methodLink own index arraycopyName ∈ gw) (hfr : 1 ≤ R.frames) (hlo : (rest.map fun v => v.category).sum + (nativeFrameWords "java/lang/System" "arraycopy" 5 + 11) ≤ R.locals) (hdg : decode cc pc = .ok (.invokestatic index, 3)) (kk : ∀ (H1 : Heap) (locs1 : List Loc), cH D Y ad (s1 μ k (bl σ τ 0 30)) s H1 locs1 → W p l e R s m args below meth c H1 locs1 cells slots Q (F0 m (pc + 3) ls rest)) : W p l e R s m args below meth c H locs cells slots Q (F0 m pc ls (.int 30 :: .int 0 :: .ref (ad (15 * k + 1)) :: .int 0 :: .ref (ad (15 * k2 + 1)) :: rest)) := by
  refine va_copyi X.1.1 X.1.2.1 (X.1.2.2.1.trans hls.symm) X.1.2.2.2.1 (X.1.2.2.2.2 _ hlink) (X.1.2.2.2.2 _ gl_native_arraycopyName) (X.1.2.2.2.2 _ gl_static_arraycopyName) (X.1.2.2.2.2 _ gi_java_lang_System) X.2.2.2 hH.1 (cD hI) hH.2 (15 * k2 + 1) (15 * k + 1) 0 0 (f := cut 30 0 τ) (g := cut 30 0 σ) (cw_ate (by omega) ((cw_st (r := 1) hk2 (by omega)).trans (by rw [s1_n hne, hM]; rfl))) (cw_ate (by omega) ((cw_st (r := 1) hk (by omega)).trans (by rw [s1_k]; rfl))) rfl rfl rfl (by decide) (by decide) (by decide) (by decide) (by decide) (fun _ _ => rfl) hfr hlo hdg (fun H1 locs1 h1 _ h3 => kk H1 locs1 ⟨?_, h3⟩)
  have h4 := h1
  rw [show Int32.toNatClampNeg 0 = 0 from rfl, show Int32.toNatClampNeg 30 = 30 from rfl, cut_bl] at h4
  rw [← cw_vec (σ := σ) (r := 1) hk (by omega) (fun i hi hg => if_neg (fun hc => hg (rg_1 (by omega))))]
  exact h4
theorem cv_st2 {p : Program} {l : Launch} {e : Env} {R : Room} {s : State} {m : MethodId} {args : Array Value} {below : List Frame} {meth : Method} {c : Code} {cc : ByteArray} {nL : Nat} {own : String} {ret : Option FieldType} {D : va_G} {Y : cYt} {ad : Nat → Nat} {μ : Nat → Nat → Int32} {H : Heap} {locs : List Loc} {cells slots : Nat} {Q : State → Prop} {pc : Nat} {ls : Array Slot} {rest : List Value} (X : cX D Y p s m args meth c cc nL own ret) (hI : cInj ad) {σ : Nat → Int32} {k : Nat} (hk : k < 10) (hH : cH D Y ad (s1 μ k σ) s H locs) {i x : Int32} (hi : vp_in i 30) (hdg : decode cc pc = .ok (.iastore, 1)) (kk : ∀ (H1 : Heap) (locs1 : List Loc), cH D Y ad (s1 μ k (upd σ (30 + i.toNatClampNeg) x)) s H1 locs1 → W p l e R s m args below meth c H1 locs1 cells slots Q (F0 m (pc + 1) ls rest)) : W p l e R s m args below meth c H locs cells slots Q (F0 m pc ls (.int x :: .int i :: .ref (ad (15 * k + 2)) :: rest)) := by
  have hlt := vin_lt hi
  refine va_iast X.1.1 X.1.2.1 X.2.2.2 hH.1 (cD hI) hH.2 (15 * k + 2) 0 (cw_ate (by omega) ((cw_st (r := 2) hk (by omega)).trans (by rw [s1_k]; rfl))) rfl hi hdg (fun H1 locs1 h1 _ h3 => kk H1 locs1 ⟨?_, h3⟩)
  have h4 := h1
  rw [cut_upd hlt] at h4
  rw [← cw_up (r := 2) hk (by omega) (rg_2 (by omega) (by omega))]
  exact h4
theorem cv_cp2 {p : Program} {l : Launch} {e : Env} {R : Room} {s : State} {m : MethodId} {args : Array Value} {below : List Frame} {meth : Method} {c : Code} {cc : ByteArray} {nL : Nat} {own : String} {ret : Option FieldType} {D : va_G} {Y : cYt} {ad : Nat → Nat} {μ : Nat → Nat → Int32} {H : Heap} {locs : List Loc} {cells slots : Nat} {Q : State → Prop} {pc : Nat} {ls : Array Slot} {rest : List Value} (X : cX D Y p s m args meth c cc nL own ret) (hI : cInj ad) (hls : ls.size = nL) {σ τ : Nat → Int32} {k k2 : Nat} (hk : k < 10) (hk2 : k2 < 10) (hne : k2 ≠ k) (hM : μ k2 = τ) (hH : cH D Y ad (s1 μ k σ) s H locs) {index : Nat} (hlink : Cond.methodLink own index arraycopyName ∈ gw) (hfr : 1 ≤ R.frames) (hlo : (rest.map fun v => v.category).sum + (nativeFrameWords "java/lang/System" "arraycopy" 5 + 11) ≤ R.locals) (hdg : decode cc pc = .ok (.invokestatic index, 3)) (kk : ∀ (H1 : Heap) (locs1 : List Loc), cH D Y ad (s1 μ k (bl σ τ 30 30)) s H1 locs1 → W p l e R s m args below meth c H1 locs1 cells slots Q (F0 m (pc + 3) ls rest)) : W p l e R s m args below meth c H locs cells slots Q (F0 m pc ls (.int 30 :: .int 0 :: .ref (ad (15 * k + 2)) :: .int 0 :: .ref (ad (15 * k2 + 2)) :: rest)) := by
  refine va_copyi X.1.1 X.1.2.1 (X.1.2.2.1.trans hls.symm) X.1.2.2.2.1 (X.1.2.2.2.2 _ hlink) (X.1.2.2.2.2 _ gl_native_arraycopyName) (X.1.2.2.2.2 _ gl_static_arraycopyName) (X.1.2.2.2.2 _ gi_java_lang_System) X.2.2.2 hH.1 (cD hI) hH.2 (15 * k2 + 2) (15 * k + 2) 0 0 (f := cut 30 30 τ) (g := cut 30 30 σ) (cw_ate (by omega) ((cw_st (r := 2) hk2 (by omega)).trans (by rw [s1_n hne, hM]; rfl))) (cw_ate (by omega) ((cw_st (r := 2) hk (by omega)).trans (by rw [s1_k]; rfl))) rfl rfl rfl (by decide) (by decide) (by decide) (by decide) (by decide) (fun _ _ => rfl) hfr hlo hdg (fun H1 locs1 h1 _ h3 => kk H1 locs1 ⟨?_, h3⟩)
  have h4 := h1
  rw [show Int32.toNatClampNeg 0 = 0 from rfl, show Int32.toNatClampNeg 30 = 30 from rfl, cut_bl] at h4
  rw [← cw_vec (σ := σ) (r := 2) hk (by omega) (fun i hi hg => if_neg (fun hc => hg (rg_2 (by omega) (by omega))))]
  exact h4
theorem cv_st3 {p : Program} {l : Launch} {e : Env} {R : Room} {s : State} {m : MethodId} {args : Array Value} {below : List Frame} {meth : Method} {c : Code} {cc : ByteArray} {nL : Nat} {own : String} {ret : Option FieldType} {D : va_G} {Y : cYt} {ad : Nat → Nat} {μ : Nat → Nat → Int32} {H : Heap} {locs : List Loc} {cells slots : Nat} {Q : State → Prop} {pc : Nat} {ls : Array Slot} {rest : List Value} (X : cX D Y p s m args meth c cc nL own ret) (hI : cInj ad) {σ : Nat → Int32} {k : Nat} (hk : k < 10) (hH : cH D Y ad (s1 μ k σ) s H locs) {i x : Int32} (hi : vp_in i 30) (hdg : decode cc pc = .ok (.iastore, 1)) (kk : ∀ (H1 : Heap) (locs1 : List Loc), cH D Y ad (s1 μ k (upd σ (60 + i.toNatClampNeg) x)) s H1 locs1 → W p l e R s m args below meth c H1 locs1 cells slots Q (F0 m (pc + 1) ls rest)) : W p l e R s m args below meth c H locs cells slots Q (F0 m pc ls (.int x :: .int i :: .ref (ad (15 * k + 3)) :: rest)) := by
  have hlt := vin_lt hi
  refine va_iast X.1.1 X.1.2.1 X.2.2.2 hH.1 (cD hI) hH.2 (15 * k + 3) 0 (cw_ate (by omega) ((cw_st (r := 3) hk (by omega)).trans (by rw [s1_k]; rfl))) rfl hi hdg (fun H1 locs1 h1 _ h3 => kk H1 locs1 ⟨?_, h3⟩)
  have h4 := h1
  rw [cut_upd hlt] at h4
  rw [← cw_up (r := 3) hk (by omega) (rg_3 (by omega) (by omega))]
  exact h4
theorem cv_cp3 {p : Program} {l : Launch} {e : Env} {R : Room} {s : State} {m : MethodId} {args : Array Value} {below : List Frame} {meth : Method} {c : Code} {cc : ByteArray} {nL : Nat} {own : String} {ret : Option FieldType} {D : va_G} {Y : cYt} {ad : Nat → Nat} {μ : Nat → Nat → Int32} {H : Heap} {locs : List Loc} {cells slots : Nat} {Q : State → Prop} {pc : Nat} {ls : Array Slot} {rest : List Value} (X : cX D Y p s m args meth c cc nL own ret) (hI : cInj ad) (hls : ls.size = nL) {σ τ : Nat → Int32} {k k2 : Nat} (hk : k < 10) (hk2 : k2 < 10) (hne : k2 ≠ k) (hM : μ k2 = τ) (hH : cH D Y ad (s1 μ k σ) s H locs) {index : Nat} (hlink : Cond.methodLink own index arraycopyName ∈ gw) (hfr : 1 ≤ R.frames) (hlo : (rest.map fun v => v.category).sum + (nativeFrameWords "java/lang/System" "arraycopy" 5 + 11) ≤ R.locals) (hdg : decode cc pc = .ok (.invokestatic index, 3)) (kk : ∀ (H1 : Heap) (locs1 : List Loc), cH D Y ad (s1 μ k (bl σ τ 60 30)) s H1 locs1 → W p l e R s m args below meth c H1 locs1 cells slots Q (F0 m (pc + 3) ls rest)) : W p l e R s m args below meth c H locs cells slots Q (F0 m pc ls (.int 30 :: .int 0 :: .ref (ad (15 * k + 3)) :: .int 0 :: .ref (ad (15 * k2 + 3)) :: rest)) := by
  refine va_copyi X.1.1 X.1.2.1 (X.1.2.2.1.trans hls.symm) X.1.2.2.2.1 (X.1.2.2.2.2 _ hlink) (X.1.2.2.2.2 _ gl_native_arraycopyName) (X.1.2.2.2.2 _ gl_static_arraycopyName) (X.1.2.2.2.2 _ gi_java_lang_System) X.2.2.2 hH.1 (cD hI) hH.2 (15 * k2 + 3) (15 * k + 3) 0 0 (f := cut 30 60 τ) (g := cut 30 60 σ) (cw_ate (by omega) ((cw_st (r := 3) hk2 (by omega)).trans (by rw [s1_n hne, hM]; rfl))) (cw_ate (by omega) ((cw_st (r := 3) hk (by omega)).trans (by rw [s1_k]; rfl))) rfl rfl rfl (by decide) (by decide) (by decide) (by decide) (by decide) (fun _ _ => rfl) hfr hlo hdg (fun H1 locs1 h1 _ h3 => kk H1 locs1 ⟨?_, h3⟩)
  have h4 := h1
  rw [show Int32.toNatClampNeg 0 = 0 from rfl, show Int32.toNatClampNeg 30 = 30 from rfl, cut_bl] at h4
  rw [← cw_vec (σ := σ) (r := 3) hk (by omega) (fun i hi hg => if_neg (fun hc => hg (rg_3 (by omega) (by omega))))]
  exact h4
theorem cv_st4 {p : Program} {l : Launch} {e : Env} {R : Room} {s : State} {m : MethodId} {args : Array Value} {below : List Frame} {meth : Method} {c : Code} {cc : ByteArray} {nL : Nat} {own : String} {ret : Option FieldType} {D : va_G} {Y : cYt} {ad : Nat → Nat} {μ : Nat → Nat → Int32} {H : Heap} {locs : List Loc} {cells slots : Nat} {Q : State → Prop} {pc : Nat} {ls : Array Slot} {rest : List Value} (X : cX D Y p s m args meth c cc nL own ret) (hI : cInj ad) {σ : Nat → Int32} {k : Nat} (hk : k < 10) (hH : cH D Y ad (s1 μ k σ) s H locs) {i x : Int32} (hi : vp_in i 3) (hdg : decode cc pc = .ok (.iastore, 1)) (kk : ∀ (H1 : Heap) (locs1 : List Loc), cH D Y ad (s1 μ k (upd σ (168 + i.toNatClampNeg) x)) s H1 locs1 → W p l e R s m args below meth c H1 locs1 cells slots Q (F0 m (pc + 1) ls rest)) : W p l e R s m args below meth c H locs cells slots Q (F0 m pc ls (.int x :: .int i :: .ref (ad (15 * k + 4)) :: rest)) := by
  have hlt := vin_lt hi
  refine va_iast X.1.1 X.1.2.1 X.2.2.2 hH.1 (cD hI) hH.2 (15 * k + 4) 0 (cw_ate (by omega) ((cw_st (r := 4) hk (by omega)).trans (by rw [s1_k]; rfl))) rfl hi hdg (fun H1 locs1 h1 _ h3 => kk H1 locs1 ⟨?_, h3⟩)
  have h4 := h1
  rw [cut_upd hlt] at h4
  rw [← cw_up (r := 4) hk (by omega) (rg_4 (by omega) (by omega))]
  exact h4
theorem cv_cp4 {p : Program} {l : Launch} {e : Env} {R : Room} {s : State} {m : MethodId} {args : Array Value} {below : List Frame} {meth : Method} {c : Code} {cc : ByteArray} {nL : Nat} {own : String} {ret : Option FieldType} {D : va_G} {Y : cYt} {ad : Nat → Nat} {μ : Nat → Nat → Int32} {H : Heap} {locs : List Loc} {cells slots : Nat} {Q : State → Prop} {pc : Nat} {ls : Array Slot} {rest : List Value} (X : cX D Y p s m args meth c cc nL own ret) (hI : cInj ad) (hls : ls.size = nL) {σ τ : Nat → Int32} {k k2 : Nat} (hk : k < 10) (hk2 : k2 < 10) (hne : k2 ≠ k) (hM : μ k2 = τ) (hH : cH D Y ad (s1 μ k σ) s H locs) {index : Nat} (hlink : Cond.methodLink own index arraycopyName ∈ gw) (hfr : 1 ≤ R.frames) (hlo : (rest.map fun v => v.category).sum + (nativeFrameWords "java/lang/System" "arraycopy" 5 + 11) ≤ R.locals) (hdg : decode cc pc = .ok (.invokestatic index, 3)) (kk : ∀ (H1 : Heap) (locs1 : List Loc), cH D Y ad (s1 μ k (bl σ τ 168 3)) s H1 locs1 → W p l e R s m args below meth c H1 locs1 cells slots Q (F0 m (pc + 3) ls rest)) : W p l e R s m args below meth c H locs cells slots Q (F0 m pc ls (.int 3 :: .int 0 :: .ref (ad (15 * k + 4)) :: .int 0 :: .ref (ad (15 * k2 + 4)) :: rest)) := by
  refine va_copyi X.1.1 X.1.2.1 (X.1.2.2.1.trans hls.symm) X.1.2.2.2.1 (X.1.2.2.2.2 _ hlink) (X.1.2.2.2.2 _ gl_native_arraycopyName) (X.1.2.2.2.2 _ gl_static_arraycopyName) (X.1.2.2.2.2 _ gi_java_lang_System) X.2.2.2 hH.1 (cD hI) hH.2 (15 * k2 + 4) (15 * k + 4) 0 0 (f := cut 3 168 τ) (g := cut 3 168 σ) (cw_ate (by omega) ((cw_st (r := 4) hk2 (by omega)).trans (by rw [s1_n hne, hM]; rfl))) (cw_ate (by omega) ((cw_st (r := 4) hk (by omega)).trans (by rw [s1_k]; rfl))) rfl rfl rfl (by decide) (by decide) (by decide) (by decide) (by decide) (fun _ _ => rfl) hfr hlo hdg (fun H1 locs1 h1 _ h3 => kk H1 locs1 ⟨?_, h3⟩)
  have h4 := h1
  rw [show Int32.toNatClampNeg 0 = 0 from rfl, show Int32.toNatClampNeg 3 = 3 from rfl, cut_bl] at h4
  rw [← cw_vec (σ := σ) (r := 4) hk (by omega) (fun i hi hg => if_neg (fun hc => hg (rg_4 (by omega) (by omega))))]
  exact h4
theorem cv_st6 {p : Program} {l : Launch} {e : Env} {R : Room} {s : State} {m : MethodId} {args : Array Value} {below : List Frame} {meth : Method} {c : Code} {cc : ByteArray} {nL : Nat} {own : String} {ret : Option FieldType} {D : va_G} {Y : cYt} {ad : Nat → Nat} {μ : Nat → Nat → Int32} {H : Heap} {locs : List Loc} {cells slots : Nat} {Q : State → Prop} {pc : Nat} {ls : Array Slot} {rest : List Value} (X : cX D Y p s m args meth c cc nL own ret) (hI : cInj ad) {σ : Nat → Int32} {k : Nat} (hk : k < 10) (hH : cH D Y ad (s1 μ k σ) s H locs) {i x : Int32} (hi : vp_in i 8) (hdg : decode cc pc = .ok (.iastore, 1)) (kk : ∀ (H1 : Heap) (locs1 : List Loc), cH D Y ad (s1 μ k (upd σ (171 + i.toNatClampNeg) x)) s H1 locs1 → W p l e R s m args below meth c H1 locs1 cells slots Q (F0 m (pc + 1) ls rest)) : W p l e R s m args below meth c H locs cells slots Q (F0 m pc ls (.int x :: .int i :: .ref (ad (15 * k + 6)) :: rest)) := by
  have hlt := vin_lt hi
  refine va_iast X.1.1 X.1.2.1 X.2.2.2 hH.1 (cD hI) hH.2 (15 * k + 6) 0 (cw_ate (by omega) ((cw_st (r := 6) hk (by omega)).trans (by rw [s1_k]; rfl))) rfl hi hdg (fun H1 locs1 h1 _ h3 => kk H1 locs1 ⟨?_, h3⟩)
  have h4 := h1
  rw [cut_upd hlt] at h4
  rw [← cw_up (r := 6) hk (by omega) (rg_6 (by omega))]
  exact h4
theorem cv_cp6 {p : Program} {l : Launch} {e : Env} {R : Room} {s : State} {m : MethodId} {args : Array Value} {below : List Frame} {meth : Method} {c : Code} {cc : ByteArray} {nL : Nat} {own : String} {ret : Option FieldType} {D : va_G} {Y : cYt} {ad : Nat → Nat} {μ : Nat → Nat → Int32} {H : Heap} {locs : List Loc} {cells slots : Nat} {Q : State → Prop} {pc : Nat} {ls : Array Slot} {rest : List Value} (X : cX D Y p s m args meth c cc nL own ret) (hI : cInj ad) (hls : ls.size = nL) {σ τ : Nat → Int32} {k k2 : Nat} (hk : k < 10) (hk2 : k2 < 10) (hne : k2 ≠ k) (hM : μ k2 = τ) (hH : cH D Y ad (s1 μ k σ) s H locs) {index : Nat} (hlink : Cond.methodLink own index arraycopyName ∈ gw) (hfr : 1 ≤ R.frames) (hlo : (rest.map fun v => v.category).sum + (nativeFrameWords "java/lang/System" "arraycopy" 5 + 11) ≤ R.locals) (hdg : decode cc pc = .ok (.invokestatic index, 3)) (kk : ∀ (H1 : Heap) (locs1 : List Loc), cH D Y ad (s1 μ k (bl σ τ 171 8)) s H1 locs1 → W p l e R s m args below meth c H1 locs1 cells slots Q (F0 m (pc + 3) ls rest)) : W p l e R s m args below meth c H locs cells slots Q (F0 m pc ls (.int 8 :: .int 0 :: .ref (ad (15 * k + 6)) :: .int 0 :: .ref (ad (15 * k2 + 6)) :: rest)) := by
  refine va_copyi X.1.1 X.1.2.1 (X.1.2.2.1.trans hls.symm) X.1.2.2.2.1 (X.1.2.2.2.2 _ hlink) (X.1.2.2.2.2 _ gl_native_arraycopyName) (X.1.2.2.2.2 _ gl_static_arraycopyName) (X.1.2.2.2.2 _ gi_java_lang_System) X.2.2.2 hH.1 (cD hI) hH.2 (15 * k2 + 6) (15 * k + 6) 0 0 (f := cut 8 171 τ) (g := cut 8 171 σ) (cw_ate (by omega) ((cw_st (r := 6) hk2 (by omega)).trans (by rw [s1_n hne, hM]; rfl))) (cw_ate (by omega) ((cw_st (r := 6) hk (by omega)).trans (by rw [s1_k]; rfl))) rfl rfl rfl (by decide) (by decide) (by decide) (by decide) (by decide) (fun _ _ => rfl) hfr hlo hdg (fun H1 locs1 h1 _ h3 => kk H1 locs1 ⟨?_, h3⟩)
  have h4 := h1
  rw [show Int32.toNatClampNeg 0 = 0 from rfl, show Int32.toNatClampNeg 8 = 8 from rfl, cut_bl] at h4
  rw [← cw_vec (σ := σ) (r := 6) hk (by omega) (fun i hi hg => if_neg (fun hc => hg (rg_6 (by omega))))]
  exact h4
theorem cv_stk {p : Program} {l : Launch} {e : Env} {R : Room} {s : State} {m : MethodId} {args : Array Value} {below : List Frame} {meth : Method} {c : Code} {cc : ByteArray} {nL : Nat} {own : String} {ret : Option FieldType} {D : va_G} {Y : cYt} {ad : Nat → Nat} {μ : Nat → Nat → Int32} {H : Heap} {locs : List Loc} {cells slots : Nat} {Q : State → Prop} {pc : Nat} {ls : Array Slot} {rest : List Value} (X : cX D Y p s m args meth c cc nL own ret) (hI : cInj ad) {σ : Nat → Int32} (hH : cH D Y ad (s1 μ 11 σ) s H locs) {i x : Int32} (hi : vp_in i 2) (hdg : decode cc pc = .ok (.bastore, 1)) (kk : ∀ (H1 : Heap) (locs1 : List Loc), cH D Y ad (s1 μ 11 (upd σ i.toNatClampNeg (vp_nar .boolean x))) s H1 locs1 → W p l e R s m args below meth c H1 locs1 cells slots Q (F0 m (pc + 1) ls rest)) : W p l e R s m args below meth c H locs cells slots Q (F0 m pc ls (.int x :: .int i :: .ref (ad 154) :: rest)) := by
  have hlt := vin_lt hi
  refine va_zast X.1.1 X.1.2.1 X.2.2.2 hH.1 (cD hI) hH.2 154 2 (f := cut 2 0 σ) (cw_ate (by omega) rfl) rfl hi hdg (fun H1 locs1 h1 _ h3 => kk H1 locs1 ⟨?_, h3⟩)
  have h4 := h1
  rw [cut_upd hlt, Nat.zero_add] at h4
  rw [← cw_oth (id := 154) (σ := σ) (x := .inl (Y.2.2.1, 2, .inl (cut 2 0 (upd σ i.toNatClampNeg (vp_nar .boolean x))))) (by omega) (by omega) (by omega) rfl (fun j h1 h2 h3 => ?_)]
  · exact h4
  · rcases (show j = 150 ∨ j = 151 ∨ j = 152 ∨ j = 153 ∨ j = 155 ∨ j = 156 by omega) with rfl | rfl | rfl | rfl | rfl | rfl <;> simp [cwE, s1]
theorem cv_stt {p : Program} {l : Launch} {e : Env} {R : Room} {s : State} {m : MethodId} {args : Array Value} {below : List Frame} {meth : Method} {c : Code} {cc : ByteArray} {nL : Nat} {own : String} {ret : Option FieldType} {D : va_G} {Y : cYt} {ad : Nat → Nat} {μ : Nat → Nat → Int32} {H : Heap} {locs : List Loc} {cells slots : Nat} {Q : State → Prop} {pc : Nat} {ls : Array Slot} {rest : List Value} (X : cX D Y p s m args meth c cc nL own ret) (hI : cInj ad) {σ : Nat → Int32} (hH : cH D Y ad (s1 μ 12 σ) s H locs) {i x : Int32} (hi : vp_in i 60) (hdg : decode cc pc = .ok (.castore, 1)) (kk : ∀ (H1 : Heap) (locs1 : List Loc), cH D Y ad (s1 μ 12 (upd σ i.toNatClampNeg (vp_nar .char x))) s H1 locs1 → W p l e R s m args below meth c H1 locs1 cells slots Q (F0 m (pc + 1) ls rest)) : W p l e R s m args below meth c H locs cells slots Q (F0 m pc ls (.int x :: .int i :: .ref (ad 156) :: rest)) := by
  have hlt := vin_lt hi
  refine va_cast X.1.1 X.1.2.1 X.2.2.2 hH.1 (cD hI) hH.2 156 1 (f := cut 60 0 σ) (cw_ate (by omega) rfl) rfl hi hdg (fun H1 locs1 h1 _ h3 => kk H1 locs1 ⟨?_, h3⟩)
  have h4 := h1
  rw [cut_upd hlt, Nat.zero_add] at h4
  rw [← cw_oth (id := 156) (σ := σ) (x := .inl (Y.2.1, 60, .inl (cut 60 0 (upd σ i.toNatClampNeg (vp_nar .char x))))) (by omega) (by omega) (by omega) rfl (fun j h1 h2 h3 => ?_)]
  · exact h4
  · rcases (show j = 150 ∨ j = 151 ∨ j = 152 ∨ j = 153 ∨ j = 154 ∨ j = 155 by omega) with rfl | rfl | rfl | rfl | rfl | rfl <;> simp [cwE, s1, upd] <;> omega
theorem cr_iw {p : Program} {l : Launch} {e : Env} {R : Room} {s : State} {m : MethodId} {args : Array Value} {below : List Frame} {meth : Method} {c : Code} {cc : ByteArray} {nL : Nat} {own : String} {ret : Option FieldType} {D : va_G} {Y : cYt} {ad : Nat → Nat} {μ : Nat → Nat → Int32} {H : Heap} {locs : List Loc} {pc : Nat} {ls : Array Slot} (X : cX D Y p s m args meth c cc nL own ret) (hH : cH D Y ad μ s H locs) {v : Int32} (hr : ret = some .int) (hdg : decode cc pc = .ok (.ireturn, 1)) : W p l e R s m args below meth c H locs 0 0 (MQ below (va_Qi (fun (r9 : Int32) (_ : Unit) => r9 = v) (fun _ t => cB D Y ad μ t) (cA ad s.heap.size)) args s 0 0 (cA ad s.heap.size)) (F0 m pc ls [.int v]) := W.iret (v := v) X.1.1 X.1.2.1 (X.2.1.trans hr) (fun t ht hW => ⟨⟨v, (), rfl, rfl, by rw [ht]; exact hH.1, va_K.moved hW.alike X.2.2.2⟩, hH.2.F ht⟩) hH.2.2.2 hdg X.2.2.1
theorem cr_zw {p : Program} {l : Launch} {e : Env} {R : Room} {s : State} {m : MethodId} {args : Array Value} {below : List Frame} {meth : Method} {c : Code} {cc : ByteArray} {nL : Nat} {own : String} {ret : Option FieldType} {D : va_G} {Y : cYt} {ad : Nat → Nat} {μ : Nat → Nat → Int32} {H : Heap} {locs : List Loc} {pc : Nat} {ls : Array Slot} (X : cX D Y p s m args meth c cc nL own ret) (hH : cH D Y ad μ s H locs) {v : Int32} {ty : FieldType} (hr : ret = some ty) (hn : narrow ty (.int v) = .int v) (hdg : decode cc pc = .ok (.ireturn, 1)) : W p l e R s m args below meth c H locs 0 0 (MQ below (va_Qi (fun (r9 : Int32) (_ : Unit) => r9 = v) (fun _ t => cB D Y ad μ t) (cA ad s.heap.size)) args s 0 0 (cA ad s.heap.size)) (F0 m pc ls [.int v]) := W.zret (v := v) X.1.1 X.1.2.1 (X.2.1.trans hr) hn (fun t ht hW => ⟨⟨v, (), rfl, rfl, by rw [ht]; exact hH.1, va_K.moved hW.alike X.2.2.2⟩, hH.2.F ht⟩) hH.2.2.2 hdg X.2.2.1
theorem cr_vw {p : Program} {l : Launch} {e : Env} {R : Room} {s : State} {m : MethodId} {args : Array Value} {below : List Frame} {meth : Method} {c : Code} {cc : ByteArray} {nL : Nat} {own : String} {ret : Option FieldType} {D : va_G} {Y : cYt} {ad : Nat → Nat} {μ : Nat → Nat → Int32} {H : Heap} {locs : List Loc} {pc : Nat} {ls : Array Slot} (X : cX D Y p s m args meth c cc nL own ret) (hH : cH D Y ad μ s H locs) (hr : ret = none) (hdg : decode cc pc = .ok (.return_, 1)) : W p l e R s m args below meth c H locs 0 0 (MQ below (va_Qv (fun (_ : Unit) => True) (fun _ t => cB D Y ad μ t) (cA ad s.heap.size)) args s 0 0 (cA ad s.heap.size)) (F0 m pc ls []) := W.vret X.1.1 X.1.2.1 (X.2.1.trans hr) (fun t ht hW => ⟨⟨(), rfl, trivial, by rw [ht]; exact hH.1, va_K.moved hW.alike X.2.2.2⟩, hH.2.F ht⟩) hH.2.2.2 hdg X.2.2.1
end
