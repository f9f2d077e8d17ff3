-- ===== PART A: goes FIRST, ahead of the names: the tables' words, and 'selects' of the private methods out of them =====
/-- a private method of a class that the tables say can be made, by its rows of tables_1 -/
def lw_okq (q : MethodName × Nat) : Prop := (q.1.cls ≠ "java/lang/invoke/MethodHandle" ∧ q.1.cls ≠ "java/lang/invoke/VarHandle") ∧ Cond.instantiable q.1.cls q.2 ∈ tables_1 ∧ Cond.privateMethod q.1 ∈ tables_1 ∧ Cond.instanceMethod q.1 ∈ tables_1
theorem lw_p0 : lw_okq (⟨"FreeWheelDown$Trip", "forget", "()V"⟩, 8) := ⟨⟨by decide +kernel, by decide +kernel⟩, List.mem_of_getElem? (i := 97) (by decide +kernel), List.mem_of_getElem? (i := 103) (by decide +kernel), List.mem_of_getElem? (i := 104) (by decide +kernel)⟩
theorem lw_p1 : lw_okq (⟨"FreeWheelDown", "refuse", "(I)I"⟩, 10) := ⟨⟨by decide +kernel, by decide +kernel⟩, List.mem_of_getElem? (i := 11) (by decide +kernel), List.mem_of_getElem? (i := 226) (by decide +kernel), List.mem_of_getElem? (i := 227) (by decide +kernel)⟩
theorem lw_p2 : lw_okq (⟨"FreeWheelDown$Letters", "wrongInStatement", "(I)I"⟩, 1) := ⟨⟨by decide +kernel, by decide +kernel⟩, List.mem_of_getElem? (i := 159) (by decide +kernel), List.mem_of_getElem? (i := 254) (by decide +kernel), List.mem_of_getElem? (i := 255) (by decide +kernel)⟩
theorem lw_p3 : lw_okq (⟨"FreeWheelDown$Letters", "lengthOfStatement", "(I)I"⟩, 1) := ⟨⟨by decide +kernel, by decide +kernel⟩, List.mem_of_getElem? (i := 159) (by decide +kernel), List.mem_of_getElem? (i := 258) (by decide +kernel), List.mem_of_getElem? (i := 259) (by decide +kernel)⟩
theorem lw_p4 : lw_okq (⟨"FreeWheelDown$Letters", "statementComes", "(LFreeWheelDown$Hill;I)Z"⟩, 1) := ⟨⟨by decide +kernel, by decide +kernel⟩, List.mem_of_getElem? (i := 159) (by decide +kernel), List.mem_of_getElem? (i := 281) (by decide +kernel), List.mem_of_getElem? (i := 282) (by decide +kernel)⟩
theorem lw_p5 : lw_okq (⟨"FreeWheelDown", "rideAsNow", "()V"⟩, 10) := ⟨⟨by decide +kernel, by decide +kernel⟩, List.mem_of_getElem? (i := 11) (by decide +kernel), List.mem_of_getElem? (i := 460) (by decide +kernel), List.mem_of_getElem? (i := 461) (by decide +kernel)⟩
theorem lw_p6 : lw_okq (⟨"FreeWheelDown$Trip", "noteBeginning", "(LFreeWheelDown$Hill;)V"⟩, 8) := ⟨⟨by decide +kernel, by decide +kernel⟩, List.mem_of_getElem? (i := 97) (by decide +kernel), List.mem_of_getElem? (i := 474) (by decide +kernel), List.mem_of_getElem? (i := 475) (by decide +kernel)⟩
theorem lw_p7 : lw_okq (⟨"FreeWheelDown$Trip", "noteChange", "(LFreeWheelDown$Hill;I)V"⟩, 8) := ⟨⟨by decide +kernel, by decide +kernel⟩, List.mem_of_getElem? (i := 97) (by decide +kernel), List.mem_of_getElem? (i := 479) (by decide +kernel), List.mem_of_getElem? (i := 480) (by decide +kernel)⟩
theorem lw_p8 : lw_okq (⟨"FreeWheelDown$Trip", "noteRider", "(LFreeWheelDown$Hill;)V"⟩, 8) := ⟨⟨by decide +kernel, by decide +kernel⟩, List.mem_of_getElem? (i := 97) (by decide +kernel), List.mem_of_getElem? (i := 493) (by decide +kernel), List.mem_of_getElem? (i := 494) (by decide +kernel)⟩
theorem lw_p9 : lw_okq (⟨"FreeWheelDown", "spreadOfShares", "()I"⟩, 10) := ⟨⟨by decide +kernel, by decide +kernel⟩, List.mem_of_getElem? (i := 11) (by decide +kernel), List.mem_of_getElem? (i := 526) (by decide +kernel), List.mem_of_getElem? (i := 527) (by decide +kernel)⟩
theorem lw_p10 : lw_okq (⟨"FreeWheelDown", "idleAsBits", "()I"⟩, 10) := ⟨⟨by decide +kernel, by decide +kernel⟩, List.mem_of_getElem? (i := 11) (by decide +kernel), List.mem_of_getElem? (i := 556) (by decide +kernel), List.mem_of_getElem? (i := 557) (by decide +kernel)⟩
theorem lw_p11 : lw_okq (⟨"FreeWheelDown$Hill", "straightsFrom", "(I)I"⟩, 13) := ⟨⟨by decide +kernel, by decide +kernel⟩, List.mem_of_getElem? (i := 19) (by decide +kernel), List.mem_of_getElem? (i := 568) (by decide +kernel), List.mem_of_getElem? (i := 569) (by decide +kernel)⟩
theorem lw_p12 : lw_okq (⟨"FreeWheelDown", "leastStartThatArrives", "()I"⟩, 10) := ⟨⟨by decide +kernel, by decide +kernel⟩, List.mem_of_getElem? (i := 11) (by decide +kernel), List.mem_of_getElem? (i := 599) (by decide +kernel), List.mem_of_getElem? (i := 600) (by decide +kernel)⟩
theorem lw_p13 : lw_okq (⟨"FreeWheelDown", "fewestChanges", "()I"⟩, 10) := ⟨⟨by decide +kernel, by decide +kernel⟩, List.mem_of_getElem? (i := 11) (by decide +kernel), List.mem_of_getElem? (i := 621) (by decide +kernel), List.mem_of_getElem? (i := 622) (by decide +kernel)⟩
theorem lw_p14 : lw_okq (⟨"FreeWheelDown", "endKeeping", "(I)I"⟩, 10) := ⟨⟨by decide +kernel, by decide +kernel⟩, List.mem_of_getElem? (i := 11) (by decide +kernel), List.mem_of_getElem? (i := 625) (by decide +kernel), List.mem_of_getElem? (i := 626) (by decide +kernel)⟩
theorem lw_p15 : lw_okq (⟨"FreeWheelDown", "soloRiders", "()I"⟩, 10) := ⟨⟨by decide +kernel, by decide +kernel⟩, List.mem_of_getElem? (i := 11) (by decide +kernel), List.mem_of_getElem? (i := 630) (by decide +kernel), List.mem_of_getElem? (i := 631) (by decide +kernel)⟩
def lw_privs_1 : List (MethodName × Nat) := [(⟨"FreeWheelDown$Trip", "forget", "()V"⟩, 8), (⟨"FreeWheelDown", "refuse", "(I)I"⟩, 10), (⟨"FreeWheelDown$Letters", "wrongInStatement", "(I)I"⟩, 1), (⟨"FreeWheelDown$Letters", "lengthOfStatement", "(I)I"⟩, 1), (⟨"FreeWheelDown$Letters", "statementComes", "(LFreeWheelDown$Hill;I)Z"⟩, 1), (⟨"FreeWheelDown", "rideAsNow", "()V"⟩, 10), (⟨"FreeWheelDown$Trip", "noteBeginning", "(LFreeWheelDown$Hill;)V"⟩, 8), (⟨"FreeWheelDown$Trip", "noteChange", "(LFreeWheelDown$Hill;I)V"⟩, 8), (⟨"FreeWheelDown$Trip", "noteRider", "(LFreeWheelDown$Hill;)V"⟩, 8), (⟨"FreeWheelDown", "spreadOfShares", "()I"⟩, 10), (⟨"FreeWheelDown", "idleAsBits", "()I"⟩, 10), (⟨"FreeWheelDown$Hill", "straightsFrom", "(I)I"⟩, 13), (⟨"FreeWheelDown", "leastStartThatArrives", "()I"⟩, 10), (⟨"FreeWheelDown", "fewestChanges", "()I"⟩, 10), (⟨"FreeWheelDown", "endKeeping", "(I)I"⟩, 10), (⟨"FreeWheelDown", "soloRiders", "()I"⟩, 10)]
theorem lw_r1 : ∀ q ∈ lw_privs_1, lw_okq q := List.forall_mem_cons.mpr ⟨lw_p0, List.forall_mem_cons.mpr ⟨lw_p1, List.forall_mem_cons.mpr ⟨lw_p2, List.forall_mem_cons.mpr ⟨lw_p3, List.forall_mem_cons.mpr ⟨lw_p4, List.forall_mem_cons.mpr ⟨lw_p5, List.forall_mem_cons.mpr ⟨lw_p6, List.forall_mem_cons.mpr ⟨lw_p7, List.forall_mem_cons.mpr ⟨lw_p8, List.forall_mem_cons.mpr ⟨lw_p9, List.forall_mem_cons.mpr ⟨lw_p10, List.forall_mem_cons.mpr ⟨lw_p11, List.forall_mem_cons.mpr ⟨lw_p12, List.forall_mem_cons.mpr ⟨lw_p13, List.forall_mem_cons.mpr ⟨lw_p14, List.forall_mem_cons.mpr ⟨lw_p15, fun _ h => absurd h List.not_mem_nil⟩⟩⟩⟩⟩⟩⟩⟩⟩⟩⟩⟩⟩⟩⟩⟩
theorem lw_p16 : lw_okq (⟨"FreeWheelDown", "neitherHasMoreAlone", "(II)Z"⟩, 10) := ⟨⟨by decide +kernel, by decide +kernel⟩, List.mem_of_getElem? (i := 11) (by decide +kernel), List.mem_of_getElem? (i := 647) (by decide +kernel), List.mem_of_getElem? (i := 648) (by decide +kernel)⟩
theorem lw_p17 : lw_okq (⟨"FreeWheelDown", "drawChanges", "(I)I"⟩, 10) := ⟨⟨by decide +kernel, by decide +kernel⟩, List.mem_of_getElem? (i := 11) (by decide +kernel), List.mem_of_getElem? (i := 682) (by decide +kernel), List.mem_of_getElem? (i := 683) (by decide +kernel)⟩
theorem lw_p18 : lw_okq (⟨"FreeWheelDown", "firstNotAsJudged", "()I"⟩, 10) := ⟨⟨by decide +kernel, by decide +kernel⟩, List.mem_of_getElem? (i := 11) (by decide +kernel), List.mem_of_getElem? (i := 701) (by decide +kernel), List.mem_of_getElem? (i := 702) (by decide +kernel)⟩
theorem lw_p19 : lw_okq (⟨"FreeWheelDown", "tellingValues", "(I[III)I"⟩, 10) := ⟨⟨by decide +kernel, by decide +kernel⟩, List.mem_of_getElem? (i := 11) (by decide +kernel), List.mem_of_getElem? (i := 710) (by decide +kernel), List.mem_of_getElem? (i := 711) (by decide +kernel)⟩
theorem lw_p20 : lw_okq (⟨"FreeWheelDownModel", "no", "(I)I"⟩, 43) := ⟨⟨by decide +kernel, by decide +kernel⟩, List.mem_of_getElem? (i := 727) (by decide +kernel), List.mem_of_getElem? (i := 870) (by decide +kernel), List.mem_of_getElem? (i := 871) (by decide +kernel)⟩
theorem lw_p21 : lw_okq (⟨"FreeWheelDownModel", "statement", "()Z"⟩, 43) := ⟨⟨by decide +kernel, by decide +kernel⟩, List.mem_of_getElem? (i := 727) (by decide +kernel), List.mem_of_getElem? (i := 878) (by decide +kernel), List.mem_of_getElem? (i := 879) (by decide +kernel)⟩
theorem lw_p22 : lw_okq (⟨"FreeWheelDownModel", "next", "()I"⟩, 43) := ⟨⟨by decide +kernel, by decide +kernel⟩, List.mem_of_getElem? (i := 727) (by decide +kernel), List.mem_of_getElem? (i := 882) (by decide +kernel), List.mem_of_getElem? (i := 883) (by decide +kernel)⟩
theorem lw_p23 : lw_okq (⟨"FreeWheelDownModel", "readsAll", "(II)Z"⟩, 43) := ⟨⟨by decide +kernel, by decide +kernel⟩, List.mem_of_getElem? (i := 727) (by decide +kernel), List.mem_of_getElem? (i := 886) (by decide +kernel), List.mem_of_getElem? (i := 887) (by decide +kernel)⟩
theorem lw_p24 : lw_okq (⟨"FreeWheelDownModel", "readsDigits", "(II)Z"⟩, 43) := ⟨⟨by decide +kernel, by decide +kernel⟩, List.mem_of_getElem? (i := 727) (by decide +kernel), List.mem_of_getElem? (i := 890) (by decide +kernel), List.mem_of_getElem? (i := 891) (by decide +kernel)⟩
theorem lw_p25 : lw_okq (⟨"FreeWheelDownModel", "passesAll", "(IZ)V"⟩, 43) := ⟨⟨by decide +kernel, by decide +kernel⟩, List.mem_of_getElem? (i := 727) (by decide +kernel), List.mem_of_getElem? (i := 897) (by decide +kernel), List.mem_of_getElem? (i := 898) (by decide +kernel)⟩
theorem lw_p26 : lw_okq (⟨"FreeWheelDownModel", "passes", "([I)V"⟩, 43) := ⟨⟨by decide +kernel, by decide +kernel⟩, List.mem_of_getElem? (i := 727) (by decide +kernel), List.mem_of_getElem? (i := 901) (by decide +kernel), List.mem_of_getElem? (i := 902) (by decide +kernel)⟩
theorem lw_p27 : lw_okq (⟨"FreeWheelDownModel", "passOne", "(I)I"⟩, 43) := ⟨⟨by decide +kernel, by decide +kernel⟩, List.mem_of_getElem? (i := 727) (by decide +kernel), List.mem_of_getElem? (i := 905) (by decide +kernel), List.mem_of_getElem? (i := 906) (by decide +kernel)⟩
theorem lw_p28 : lw_okq (⟨"FreeWheelDownModel", "comes", "(I)Z"⟩, 43) := ⟨⟨by decide +kernel, by decide +kernel⟩, List.mem_of_getElem? (i := 727) (by decide +kernel), List.mem_of_getElem? (i := 909) (by decide +kernel), List.mem_of_getElem? (i := 910) (by decide +kernel)⟩
theorem lw_p29 : lw_okq (⟨"FreeWheelDownModel", "comesStretch", "(II)Z"⟩, 43) := ⟨⟨by decide +kernel, by decide +kernel⟩, List.mem_of_getElem? (i := 727) (by decide +kernel), List.mem_of_getElem? (i := 913) (by decide +kernel), List.mem_of_getElem? (i := 914) (by decide +kernel)⟩
theorem lw_p30 : lw_okq (⟨"FreeWheelDownModel", "addsStretch", "(II)V"⟩, 43) := ⟨⟨by decide +kernel, by decide +kernel⟩, List.mem_of_getElem? (i := 727) (by decide +kernel), List.mem_of_getElem? (i := 917) (by decide +kernel), List.mem_of_getElem? (i := 918) (by decide +kernel)⟩
theorem lw_p31 : lw_okq (⟨"FreeWheelDownModel", "comesRider", "(II)Z"⟩, 43) := ⟨⟨by decide +kernel, by decide +kernel⟩, List.mem_of_getElem? (i := 727) (by decide +kernel), List.mem_of_getElem? (i := 921) (by decide +kernel), List.mem_of_getElem? (i := 922) (by decide +kernel)⟩
def lw_privs_2 : List (MethodName × Nat) := [(⟨"FreeWheelDown", "neitherHasMoreAlone", "(II)Z"⟩, 10), (⟨"FreeWheelDown", "drawChanges", "(I)I"⟩, 10), (⟨"FreeWheelDown", "firstNotAsJudged", "()I"⟩, 10), (⟨"FreeWheelDown", "tellingValues", "(I[III)I"⟩, 10), (⟨"FreeWheelDownModel", "no", "(I)I"⟩, 43), (⟨"FreeWheelDownModel", "statement", "()Z"⟩, 43), (⟨"FreeWheelDownModel", "next", "()I"⟩, 43), (⟨"FreeWheelDownModel", "readsAll", "(II)Z"⟩, 43), (⟨"FreeWheelDownModel", "readsDigits", "(II)Z"⟩, 43), (⟨"FreeWheelDownModel", "passesAll", "(IZ)V"⟩, 43), (⟨"FreeWheelDownModel", "passes", "([I)V"⟩, 43), (⟨"FreeWheelDownModel", "passOne", "(I)I"⟩, 43), (⟨"FreeWheelDownModel", "comes", "(I)Z"⟩, 43), (⟨"FreeWheelDownModel", "comesStretch", "(II)Z"⟩, 43), (⟨"FreeWheelDownModel", "addsStretch", "(II)V"⟩, 43), (⟨"FreeWheelDownModel", "comesRider", "(II)Z"⟩, 43)]
theorem lw_r2 : ∀ q ∈ lw_privs_2, lw_okq q := List.forall_mem_cons.mpr ⟨lw_p16, List.forall_mem_cons.mpr ⟨lw_p17, List.forall_mem_cons.mpr ⟨lw_p18, List.forall_mem_cons.mpr ⟨lw_p19, List.forall_mem_cons.mpr ⟨lw_p20, List.forall_mem_cons.mpr ⟨lw_p21, List.forall_mem_cons.mpr ⟨lw_p22, List.forall_mem_cons.mpr ⟨lw_p23, List.forall_mem_cons.mpr ⟨lw_p24, List.forall_mem_cons.mpr ⟨lw_p25, List.forall_mem_cons.mpr ⟨lw_p26, List.forall_mem_cons.mpr ⟨lw_p27, List.forall_mem_cons.mpr ⟨lw_p28, List.forall_mem_cons.mpr ⟨lw_p29, List.forall_mem_cons.mpr ⟨lw_p30, List.forall_mem_cons.mpr ⟨lw_p31, fun _ h => absurd h List.not_mem_nil⟩⟩⟩⟩⟩⟩⟩⟩⟩⟩⟩⟩⟩⟩⟩⟩
theorem lw_p32 : lw_okq (⟨"FreeWheelDownModel", "addsRider", "(II)V"⟩, 43) := ⟨⟨by decide +kernel, by decide +kernel⟩, List.mem_of_getElem? (i := 727) (by decide +kernel), List.mem_of_getElem? (i := 925) (by decide +kernel), List.mem_of_getElem? (i := 926) (by decide +kernel)⟩
theorem lw_p33 : lw_okq (⟨"FreeWheelDownModel", "comesChange", "(II)Z"⟩, 43) := ⟨⟨by decide +kernel, by decide +kernel⟩, List.mem_of_getElem? (i := 727) (by decide +kernel), List.mem_of_getElem? (i := 929) (by decide +kernel), List.mem_of_getElem? (i := 930) (by decide +kernel)⟩
theorem lw_p34 : lw_okq (⟨"FreeWheelDownModel", "isStretch", "(I)Z"⟩, 43) := ⟨⟨by decide +kernel, by decide +kernel⟩, List.mem_of_getElem? (i := 727) (by decide +kernel), List.mem_of_getElem? (i := 933) (by decide +kernel), List.mem_of_getElem? (i := 934) (by decide +kernel)⟩
theorem lw_p35 : lw_okq (⟨"FreeWheelDownModel", "isRider", "(I)Z"⟩, 43) := ⟨⟨by decide +kernel, by decide +kernel⟩, List.mem_of_getElem? (i := 727) (by decide +kernel), List.mem_of_getElem? (i := 937) (by decide +kernel), List.mem_of_getElem? (i := 938) (by decide +kernel)⟩
theorem lw_p36 : lw_okq (⟨"FreeWheelDownModel", "beginsNow", "()V"⟩, 43) := ⟨⟨by decide +kernel, by decide +kernel⟩, List.mem_of_getElem? (i := 727) (by decide +kernel), List.mem_of_getElem? (i := 941) (by decide +kernel), List.mem_of_getElem? (i := 942) (by decide +kernel)⟩
theorem lw_p37 : lw_okq (⟨"FreeWheelDownModel", "startsRide", "()V"⟩, 43) := ⟨⟨by decide +kernel, by decide +kernel⟩, List.mem_of_getElem? (i := 727) (by decide +kernel), List.mem_of_getElem? (i := 945) (by decide +kernel), List.mem_of_getElem? (i := 946) (by decide +kernel)⟩
theorem lw_p38 : lw_okq (⟨"FreeWheelDownModel", "leavesRun", "()V"⟩, 43) := ⟨⟨by decide +kernel, by decide +kernel⟩, List.mem_of_getElem? (i := 727) (by decide +kernel), List.mem_of_getElem? (i := 949) (by decide +kernel), List.mem_of_getElem? (i := 950) (by decide +kernel)⟩
theorem lw_p39 : lw_okq (⟨"FreeWheelDownModel", "comesSteps", "(I)Z"⟩, 43) := ⟨⟨by decide +kernel, by decide +kernel⟩, List.mem_of_getElem? (i := 727) (by decide +kernel), List.mem_of_getElem? (i := 953) (by decide +kernel), List.mem_of_getElem? (i := 954) (by decide +kernel)⟩
theorem lw_p40 : lw_okq (⟨"FreeWheelDownModel", "goesOnSteps", "(I)V"⟩, 43) := ⟨⟨by decide +kernel, by decide +kernel⟩, List.mem_of_getElem? (i := 727) (by decide +kernel), List.mem_of_getElem? (i := 957) (by decide +kernel), List.mem_of_getElem? (i := 958) (by decide +kernel)⟩
theorem lw_p41 : lw_okq (⟨"FreeWheelDownModel", "runsStep", "()V"⟩, 43) := ⟨⟨by decide +kernel, by decide +kernel⟩, List.mem_of_getElem? (i := 727) (by decide +kernel), List.mem_of_getElem? (i := 961) (by decide +kernel), List.mem_of_getElem? (i := 962) (by decide +kernel)⟩
theorem lw_p42 : lw_okq (⟨"FreeWheelDownModel", "getsUp", "()V"⟩, 43) := ⟨⟨by decide +kernel, by decide +kernel⟩, List.mem_of_getElem? (i := 727) (by decide +kernel), List.mem_of_getElem? (i := 965) (by decide +kernel), List.mem_of_getElem? (i := 966) (by decide +kernel)⟩
theorem lw_p43 : lw_okq (⟨"FreeWheelDownModel", "holdsOf", "(II)I"⟩, 43) := ⟨⟨by decide +kernel, by decide +kernel⟩, List.mem_of_getElem? (i := 727) (by decide +kernel), List.mem_of_getElem? (i := 972) (by decide +kernel), List.mem_of_getElem? (i := 973) (by decide +kernel)⟩
theorem lw_p44 : lw_okq (⟨"FreeWheelDownModel", "speedBehind", "(III)I"⟩, 43) := ⟨⟨by decide +kernel, by decide +kernel⟩, List.mem_of_getElem? (i := 727) (by decide +kernel), List.mem_of_getElem? (i := 976) (by decide +kernel), List.mem_of_getElem? (i := 977) (by decide +kernel)⟩
theorem lw_p45 : lw_okq (⟨"FreeWheelDownModel", "becomes", "(III)I"⟩, 43) := ⟨⟨by decide +kernel, by decide +kernel⟩, List.mem_of_getElem? (i := 727) (by decide +kernel), List.mem_of_getElem? (i := 980) (by decide +kernel), List.mem_of_getElem? (i := 981) (by decide +kernel)⟩
theorem lw_p46 : lw_okq (⟨"FreeWheelDownModel", "bicycleOf", "(I)I"⟩, 43) := ⟨⟨by decide +kernel, by decide +kernel⟩, List.mem_of_getElem? (i := 727) (by decide +kernel), List.mem_of_getElem? (i := 1014) (by decide +kernel), List.mem_of_getElem? (i := 1015) (by decide +kernel)⟩
theorem lw_p47 : lw_okq (⟨"FreeWheelDownModel", "keepsBack", "()V"⟩, 43) := ⟨⟨by decide +kernel, by decide +kernel⟩, List.mem_of_getElem? (i := 727) (by decide +kernel), List.mem_of_getElem? (i := 1038) (by decide +kernel), List.mem_of_getElem? (i := 1039) (by decide +kernel)⟩
def lw_privs_3 : List (MethodName × Nat) := [(⟨"FreeWheelDownModel", "addsRider", "(II)V"⟩, 43), (⟨"FreeWheelDownModel", "comesChange", "(II)Z"⟩, 43), (⟨"FreeWheelDownModel", "isStretch", "(I)Z"⟩, 43), (⟨"FreeWheelDownModel", "isRider", "(I)Z"⟩, 43), (⟨"FreeWheelDownModel", "beginsNow", "()V"⟩, 43), (⟨"FreeWheelDownModel", "startsRide", "()V"⟩, 43), (⟨"FreeWheelDownModel", "leavesRun", "()V"⟩, 43), (⟨"FreeWheelDownModel", "comesSteps", "(I)Z"⟩, 43), (⟨"FreeWheelDownModel", "goesOnSteps", "(I)V"⟩, 43), (⟨"FreeWheelDownModel", "runsStep", "()V"⟩, 43), (⟨"FreeWheelDownModel", "getsUp", "()V"⟩, 43), (⟨"FreeWheelDownModel", "holdsOf", "(II)I"⟩, 43), (⟨"FreeWheelDownModel", "speedBehind", "(III)I"⟩, 43), (⟨"FreeWheelDownModel", "becomes", "(III)I"⟩, 43), (⟨"FreeWheelDownModel", "bicycleOf", "(I)I"⟩, 43), (⟨"FreeWheelDownModel", "keepsBack", "()V"⟩, 43)]
theorem lw_r3 : ∀ q ∈ lw_privs_3, lw_okq q := List.forall_mem_cons.mpr ⟨lw_p32, List.forall_mem_cons.mpr ⟨lw_p33, List.forall_mem_cons.mpr ⟨lw_p34, List.forall_mem_cons.mpr ⟨lw_p35, List.forall_mem_cons.mpr ⟨lw_p36, List.forall_mem_cons.mpr ⟨lw_p37, List.forall_mem_cons.mpr ⟨lw_p38, List.forall_mem_cons.mpr ⟨lw_p39, List.forall_mem_cons.mpr ⟨lw_p40, List.forall_mem_cons.mpr ⟨lw_p41, List.forall_mem_cons.mpr ⟨lw_p42, List.forall_mem_cons.mpr ⟨lw_p43, List.forall_mem_cons.mpr ⟨lw_p44, List.forall_mem_cons.mpr ⟨lw_p45, List.forall_mem_cons.mpr ⟨lw_p46, List.forall_mem_cons.mpr ⟨lw_p47, fun _ h => absurd h List.not_mem_nil⟩⟩⟩⟩⟩⟩⟩⟩⟩⟩⟩⟩⟩⟩⟩⟩
theorem lw_p48 : lw_okq (⟨"FreeWheelDownModel", "changes", "()V"⟩, 43) := ⟨⟨by decide +kernel, by decide +kernel⟩, List.mem_of_getElem? (i := 727) (by decide +kernel), List.mem_of_getElem? (i := 1058) (by decide +kernel), List.mem_of_getElem? (i := 1059) (by decide +kernel)⟩
theorem lw_p49 : lw_okq (⟨"FreeWheelDownModel", "changesBack", "()V"⟩, 43) := ⟨⟨by decide +kernel, by decide +kernel⟩, List.mem_of_getElem? (i := 727) (by decide +kernel), List.mem_of_getElem? (i := 1062) (by decide +kernel), List.mem_of_getElem? (i := 1063) (by decide +kernel)⟩
theorem lw_p50 : lw_okq (⟨"FreeWheelDownModel", "rides", "()I"⟩, 43) := ⟨⟨by decide +kernel, by decide +kernel⟩, List.mem_of_getElem? (i := 727) (by decide +kernel), List.mem_of_getElem? (i := 1070) (by decide +kernel), List.mem_of_getElem? (i := 1071) (by decide +kernel)⟩
theorem lw_p51 : lw_okq (⟨"FreeWheelDownModel", "ridersOf", "()I"⟩, 43) := ⟨⟨by decide +kernel, by decide +kernel⟩, List.mem_of_getElem? (i := 727) (by decide +kernel), List.mem_of_getElem? (i := 1074) (by decide +kernel), List.mem_of_getElem? (i := 1075) (by decide +kernel)⟩
theorem lw_p52 : lw_okq (⟨"FreeWheelDownModel", "farWith", "(I)I"⟩, 43) := ⟨⟨by decide +kernel, by decide +kernel⟩, List.mem_of_getElem? (i := 727) (by decide +kernel), List.mem_of_getElem? (i := 1101) (by decide +kernel), List.mem_of_getElem? (i := 1102) (by decide +kernel)⟩
theorem lw_p53 : lw_okq (⟨"FreeWheelDownModel", "waitsAt", "(II)V"⟩, 43) := ⟨⟨by decide +kernel, by decide +kernel⟩, List.mem_of_getElem? (i := 727) (by decide +kernel), List.mem_of_getElem? (i := 1109) (by decide +kernel), List.mem_of_getElem? (i := 1110) (by decide +kernel)⟩
theorem lw_p54 : lw_okq (⟨"FreeWheelDownModel", "fewestChanges", "()I"⟩, 43) := ⟨⟨by decide +kernel, by decide +kernel⟩, List.mem_of_getElem? (i := 727) (by decide +kernel), List.mem_of_getElem? (i := 1120) (by decide +kernel), List.mem_of_getElem? (i := 1121) (by decide +kernel)⟩
theorem lw_p55 : lw_okq (⟨"FreeWheelDownModel", "waitingAt", "()I"⟩, 43) := ⟨⟨by decide +kernel, by decide +kernel⟩, List.mem_of_getElem? (i := 727) (by decide +kernel), List.mem_of_getElem? (i := 1124) (by decide +kernel), List.mem_of_getElem? (i := 1125) (by decide +kernel)⟩
theorem lw_p56 : lw_okq (⟨"FreeWheelDownModel", "farKeeping", "(I)I"⟩, 43) := ⟨⟨by decide +kernel, by decide +kernel⟩, List.mem_of_getElem? (i := 727) (by decide +kernel), List.mem_of_getElem? (i := 1128) (by decide +kernel), List.mem_of_getElem? (i := 1129) (by decide +kernel)⟩
theorem lw_p57 : lw_okq (⟨"FreeWheelDownModel", "farAlone", "(I)I"⟩, 43) := ⟨⟨by decide +kernel, by decide +kernel⟩, List.mem_of_getElem? (i := 727) (by decide +kernel), List.mem_of_getElem? (i := 1132) (by decide +kernel), List.mem_of_getElem? (i := 1133) (by decide +kernel)⟩
theorem lw_p58 : lw_okq (⟨"FreeWheelDownModel", "arrives", "()Z"⟩, 43) := ⟨⟨by decide +kernel, by decide +kernel⟩, List.mem_of_getElem? (i := 727) (by decide +kernel), List.mem_of_getElem? (i := 1140) (by decide +kernel), List.mem_of_getElem? (i := 1141) (by decide +kernel)⟩
theorem lw_p59 : lw_okq (⟨"FreeWheelDownModel", "straightsFrom", "(I)I"⟩, 43) := ⟨⟨by decide +kernel, by decide +kernel⟩, List.mem_of_getElem? (i := 727) (by decide +kernel), List.mem_of_getElem? (i := 1152) (by decide +kernel), List.mem_of_getElem? (i := 1153) (by decide +kernel)⟩
theorem lw_p60 : lw_okq (⟨"FreeWheelDownModel", "bitsFor", "([IIII)I"⟩, 43) := ⟨⟨by decide +kernel, by decide +kernel⟩, List.mem_of_getElem? (i := 727) (by decide +kernel), List.mem_of_getElem? (i := 1160) (by decide +kernel), List.mem_of_getElem? (i := 1161) (by decide +kernel)⟩
theorem lw_p61 : lw_okq (⟨"FreeWheelDownModel", "isRowSo", "()Z"⟩, 43) := ⟨⟨by decide +kernel, by decide +kernel⟩, List.mem_of_getElem? (i := 727) (by decide +kernel), List.mem_of_getElem? (i := 1164) (by decide +kernel), List.mem_of_getElem? (i := 1165) (by decide +kernel)⟩
theorem lw_p62 : lw_okq (⟨"FreeWheelDownModel", "findOver", "(II)V"⟩, 43) := ⟨⟨by decide +kernel, by decide +kernel⟩, List.mem_of_getElem? (i := 727) (by decide +kernel), List.mem_of_getElem? (i := 1180) (by decide +kernel), List.mem_of_getElem? (i := 1181) (by decide +kernel)⟩
theorem lw_p63 : lw_okq (⟨"FreeWheelDownModel", "lowest", "(I)J"⟩, 43) := ⟨⟨by decide +kernel, by decide +kernel⟩, List.mem_of_getElem? (i := 727) (by decide +kernel), List.mem_of_getElem? (i := 1188) (by decide +kernel), List.mem_of_getElem? (i := 1189) (by decide +kernel)⟩
def lw_privs_4 : List (MethodName × Nat) := [(⟨"FreeWheelDownModel", "changes", "()V"⟩, 43), (⟨"FreeWheelDownModel", "changesBack", "()V"⟩, 43), (⟨"FreeWheelDownModel", "rides", "()I"⟩, 43), (⟨"FreeWheelDownModel", "ridersOf", "()I"⟩, 43), (⟨"FreeWheelDownModel", "farWith", "(I)I"⟩, 43), (⟨"FreeWheelDownModel", "waitsAt", "(II)V"⟩, 43), (⟨"FreeWheelDownModel", "fewestChanges", "()I"⟩, 43), (⟨"FreeWheelDownModel", "waitingAt", "()I"⟩, 43), (⟨"FreeWheelDownModel", "farKeeping", "(I)I"⟩, 43), (⟨"FreeWheelDownModel", "farAlone", "(I)I"⟩, 43), (⟨"FreeWheelDownModel", "arrives", "()Z"⟩, 43), (⟨"FreeWheelDownModel", "straightsFrom", "(I)I"⟩, 43), (⟨"FreeWheelDownModel", "bitsFor", "([IIII)I"⟩, 43), (⟨"FreeWheelDownModel", "isRowSo", "()Z"⟩, 43), (⟨"FreeWheelDownModel", "findOver", "(II)V"⟩, 43), (⟨"FreeWheelDownModel", "lowest", "(I)J"⟩, 43)]
theorem lw_r4 : ∀ q ∈ lw_privs_4, lw_okq q := List.forall_mem_cons.mpr ⟨lw_p48, List.forall_mem_cons.mpr ⟨lw_p49, List.forall_mem_cons.mpr ⟨lw_p50, List.forall_mem_cons.mpr ⟨lw_p51, List.forall_mem_cons.mpr ⟨lw_p52, List.forall_mem_cons.mpr ⟨lw_p53, List.forall_mem_cons.mpr ⟨lw_p54, List.forall_mem_cons.mpr ⟨lw_p55, List.forall_mem_cons.mpr ⟨lw_p56, List.forall_mem_cons.mpr ⟨lw_p57, List.forall_mem_cons.mpr ⟨lw_p58, List.forall_mem_cons.mpr ⟨lw_p59, List.forall_mem_cons.mpr ⟨lw_p60, List.forall_mem_cons.mpr ⟨lw_p61, List.forall_mem_cons.mpr ⟨lw_p62, List.forall_mem_cons.mpr ⟨lw_p63, fun _ h => absurd h List.not_mem_nil⟩⟩⟩⟩⟩⟩⟩⟩⟩⟩⟩⟩⟩⟩⟩⟩
theorem lw_p64 : lw_okq (⟨"FreeWheelDownModel", "shareOf", "(I)I"⟩, 43) := ⟨⟨by decide +kernel, by decide +kernel⟩, List.mem_of_getElem? (i := 727) (by decide +kernel), List.mem_of_getElem? (i := 1203) (by decide +kernel), List.mem_of_getElem? (i := 1204) (by decide +kernel)⟩
theorem lw_p65 : lw_okq (⟨"FreeWheelDownModel", "farSwapped", "(II)I"⟩, 43) := ⟨⟨by decide +kernel, by decide +kernel⟩, List.mem_of_getElem? (i := 727) (by decide +kernel), List.mem_of_getElem? (i := 1219) (by decide +kernel), List.mem_of_getElem? (i := 1220) (by decide +kernel)⟩
theorem lw_p66 : lw_okq (⟨"FreeWheelDownModel", "arrivesWithout", "(I)Z"⟩, 43) := ⟨⟨by decide +kernel, by decide +kernel⟩, List.mem_of_getElem? (i := 727) (by decide +kernel), List.mem_of_getElem? (i := 1227) (by decide +kernel), List.mem_of_getElem? (i := 1228) (by decide +kernel)⟩
theorem lw_p67 : lw_okq (⟨"FreeWheelDownModel", "lower", "(I)I"⟩, 43) := ⟨⟨by decide +kernel, by decide +kernel⟩, List.mem_of_getElem? (i := 727) (by decide +kernel), List.mem_of_getElem? (i := 1243) (by decide +kernel), List.mem_of_getElem? (i := 1244) (by decide +kernel)⟩
theorem lw_p68 : lw_okq (⟨"FreeWheelDownModel", "draw", "(I)I"⟩, 43) := ⟨⟨by decide +kernel, by decide +kernel⟩, List.mem_of_getElem? (i := 727) (by decide +kernel), List.mem_of_getElem? (i := 1268) (by decide +kernel), List.mem_of_getElem? (i := 1269) (by decide +kernel)⟩
def lw_privs_5 : List (MethodName × Nat) := [(⟨"FreeWheelDownModel", "shareOf", "(I)I"⟩, 43), (⟨"FreeWheelDownModel", "farSwapped", "(II)I"⟩, 43), (⟨"FreeWheelDownModel", "arrivesWithout", "(I)Z"⟩, 43), (⟨"FreeWheelDownModel", "lower", "(I)I"⟩, 43), (⟨"FreeWheelDownModel", "draw", "(I)I"⟩, 43)]
theorem lw_r5 : ∀ q ∈ lw_privs_5, lw_okq q := List.forall_mem_cons.mpr ⟨lw_p64, List.forall_mem_cons.mpr ⟨lw_p65, List.forall_mem_cons.mpr ⟨lw_p66, List.forall_mem_cons.mpr ⟨lw_p67, List.forall_mem_cons.mpr ⟨lw_p68, fun _ h => absurd h List.not_mem_nil⟩⟩⟩⟩⟩
def lw_privs : List (MethodName × Nat) := lw_privs_1 ++ (lw_privs_2 ++ (lw_privs_3 ++ (lw_privs_4 ++ (lw_privs_5))))
def lw_tbl : List Cond := k2_sels lw_privs ++ tables_1
theorem lw_privs_ok : ∀ q ∈ lw_privs, lw_okq q := by
  show ∀ q ∈ lw_privs_1 ++ (lw_privs_2 ++ (lw_privs_3 ++ (lw_privs_4 ++ (lw_privs_5)))), lw_okq q
  exact List.forall_mem_append.mpr ⟨lw_r1, List.forall_mem_append.mpr ⟨lw_r2, List.forall_mem_append.mpr ⟨lw_r3, List.forall_mem_append.mpr ⟨lw_r4, lw_r5⟩⟩⟩⟩
-- ===== end of PART A; then your names; then what follows =====
-- names, fields (out of the printed names)
def RX0 : String := "FreeWheelDown$Hill"
def TX0 : u_T := fun k => match k with
  | 0 => ("FreeWheelDown$Hill", "kinds", "[I", true)
  | 1 => ("FreeWheelDown$Hill", "figures", "[I", true)
  | 2 => ("FreeWheelDown$Hill", "changes", "[I", true)
  | 3 => ("FreeWheelDown$Hill", "weights", "[I", true)
  | 4 => ("FreeWheelDown$Hill", "skills", "[I", true)
  | 5 => ("FreeWheelDown$Hill", "stretches", "I", false)
  | 6 => ("FreeWheelDown$Hill", "riders", "I", false)
  | 7 => ("FreeWheelDown$Hill", "start", "I", false)
  | 8 => ("FreeWheelDown$Hill", "at", "I", false)
  | 9 => ("FreeWheelDown$Hill", "speed", "I", false)
  | 10 => ("FreeWheelDown$Hill", "rider", "I", false)
  | 11 => ("FreeWheelDown$Hill", "how", "I", false)
  | _ => ("FreeWheelDown$Hill", "stepsGone", "I", false)
def tyX0 : Nat → FieldType := fun k => match k with
  | 0 => .array .int
  | 1 => .array .int
  | 2 => .array .int
  | 3 => .array .int
  | 4 => .array .int
  | 5 => .int
  | 6 => .int
  | 7 => .int
  | 8 => .int
  | 9 => .int
  | 10 => .int
  | 11 => .int
  | _ => .int
abbrev wsX00 : List Cond := u_ws RX0 TX0 13
theorem nmX0 : ∀ a, a < 13 → ∀ b, b < 13 → a ≠ b → (TX0 a).2.1 ≠ (TX0 b).2.1 := by decide +kernel
theorem tyX0_ok : ∀ k, k < 13 → parseFieldDescriptor (TX0 k).2.2.1 = some (tyX0 k) := by decide +kernel
def RX1 : String := "FreeWheelDown$Letters"
def TX1 : u_T := fun k => match k with
  | _ => ("FreeWheelDown$Letters", "text", "LFreeWheelDown$Numbers;", true)
def tyX1 : Nat → FieldType := fun k => match k with
  | _ => .object "FreeWheelDown$Numbers"
abbrev wsX10 : List Cond := u_ws RX1 TX1 1
theorem nmX1 : ∀ a, a < 1 → ∀ b, b < 1 → a ≠ b → (TX1 a).2.1 ≠ (TX1 b).2.1 := by decide +kernel
theorem tyX1_ok : ∀ k, k < 1 → parseFieldDescriptor (TX1 k).2.2.1 = some (tyX1 k) := by decide +kernel
def RX2 : String := "FreeWheelDown$Numbers"
def TX2 : u_T := fun k => match k with
  | 0 => ("FreeWheelDown$Numbers", "items", "[I", true)
  | _ => ("FreeWheelDown$Numbers", "size", "I", false)
def tyX2 : Nat → FieldType := fun k => match k with
  | 0 => .array .int
  | _ => .int
abbrev wsX20 : List Cond := u_ws RX2 TX2 2
theorem nmX2 : ∀ a, a < 2 → ∀ b, b < 2 → a ≠ b → (TX2 a).2.1 ≠ (TX2 b).2.1 := by decide +kernel
theorem tyX2_ok : ∀ k, k < 2 → parseFieldDescriptor (TX2 k).2.2.1 = some (tyX2 k) := by decide +kernel
def RX3 : String := "FreeWheelDown$Past"
def TX3 : u_T := fun k => match k with
  | 0 => ("FreeWheelDown$Past", "rows", "[I", true)
  | 1 => ("FreeWheelDown$Past", "first", "I", false)
  | _ => ("FreeWheelDown$Past", "size", "I", false)
def tyX3 : Nat → FieldType := fun k => match k with
  | 0 => .array .int
  | 1 => .int
  | _ => .int
abbrev wsX30 : List Cond := u_ws RX3 TX3 3
theorem nmX3 : ∀ a, a < 3 → ∀ b, b < 3 → a ≠ b → (TX3 a).2.1 ≠ (TX3 b).2.1 := by decide +kernel
theorem tyX3_ok : ∀ k, k < 3 → parseFieldDescriptor (TX3 k).2.2.1 = some (tyX3 k) := by decide +kernel
def RX4 : String := "FreeWheelDown$Trip"
def TX4 : u_T := fun k => match k with
  | 0 => ("FreeWheelDown$Trip", "speeds", "[I", true)
  | 1 => ("FreeWheelDown$Trip", "gains", "[I", true)
  | 2 => ("FreeWheelDown$Trip", "overs", "[I", true)
  | 3 => ("FreeWheelDown$Trip", "came", "I", false)
  | 4 => ("FreeWheelDown$Trip", "rode", "I", false)
  | 5 => ("FreeWheelDown$Trip", "failed", "I", false)
  | 6 => ("FreeWheelDown$Trip", "wed", "I", false)
  | _ => ("FreeWheelDown$Trip", "late", "I", false)
def tyX4 : Nat → FieldType := fun k => match k with
  | 0 => .array .int
  | 1 => .array .int
  | 2 => .array .int
  | 3 => .int
  | 4 => .int
  | 5 => .int
  | 6 => .int
  | _ => .int
abbrev wsX40 : List Cond := u_ws RX4 TX4 8
theorem nmX4 : ∀ a, a < 8 → ∀ b, b < 8 → a ≠ b → (TX4 a).2.1 ≠ (TX4 b).2.1 := by decide +kernel
theorem tyX4_ok : ∀ k, k < 8 → parseFieldDescriptor (TX4 k).2.2.1 = some (tyX4 k) := by decide +kernel
def RX5 : String := "FreeWheelDown"
def TX5 : u_T := fun k => match k with
  | 0 => ("FreeWheelDown", "now", "LFreeWheelDown$Hill;", true)
  | 1 => ("FreeWheelDown", "mind", "LFreeWheelDown$Hill;", true)
  | 2 => ("FreeWheelDown", "kept", "LFreeWheelDown$Hill;", true)
  | 3 => ("FreeWheelDown", "hasImage", "Z", false)
  | 4 => ("FreeWheelDown", "trip", "LFreeWheelDown$Trip;", true)
  | 5 => ("FreeWheelDown", "past", "LFreeWheelDown$Past;", true)
  | 6 => ("FreeWheelDown", "letters", "LFreeWheelDown$Letters;", true)
  | 7 => ("FreeWheelDown", "told", "LFreeWheelDown$Numbers;", true)
  | 8 => ("FreeWheelDown", "refusals", "[I", true)
  | _ => ("FreeWheelDown", "fourEnds", "[I", true)
def tyX5 : Nat → FieldType := fun k => match k with
  | 0 => .object "FreeWheelDown$Hill"
  | 1 => .object "FreeWheelDown$Hill"
  | 2 => .object "FreeWheelDown$Hill"
  | 3 => .boolean
  | 4 => .object "FreeWheelDown$Trip"
  | 5 => .object "FreeWheelDown$Past"
  | 6 => .object "FreeWheelDown$Letters"
  | 7 => .object "FreeWheelDown$Numbers"
  | 8 => .array .int
  | _ => .array .int
abbrev wsX50 : List Cond := u_ws RX5 TX5 10
theorem nmX5 : ∀ a, a < 10 → ∀ b, b < 10 → a ≠ b → (TX5 a).2.1 ≠ (TX5 b).2.1 := by decide +kernel
theorem tyX5_ok : ∀ k, k < 10 → parseFieldDescriptor (TX5 k).2.2.1 = some (tyX5 k) := by decide +kernel
def RX6 : String := "FreeWheelDownModel"
def TX6 : u_T := fun k => match k with
  | 0 => ("FreeWheelDownModel", "refused", "[I", true)
  | 1 => ("FreeWheelDownModel", "kind", "[I", true)
  | 2 => ("FreeWheelDownModel", "figure", "[I", true)
  | 3 => ("FreeWheelDownModel", "change", "[I", true)
  | 4 => ("FreeWheelDownModel", "weight", "[I", true)
  | 5 => ("FreeWheelDownModel", "skill", "[I", true)
  | 6 => ("FreeWheelDownModel", "stretches", "I", false)
  | 7 => ("FreeWheelDownModel", "riders", "I", false)
  | 8 => ("FreeWheelDownModel", "start", "I", false)
  | 9 => ("FreeWheelDownModel", "at", "I", false)
  | 10 => ("FreeWheelDownModel", "speed", "I", false)
  | 11 => ("FreeWheelDownModel", "rider", "I", false)
  | 12 => ("FreeWheelDownModel", "how", "I", false)
  | 13 => ("FreeWheelDownModel", "steps", "I", false)
  | 14 => ("FreeWheelDownModel", "tape", "[I", true)
  | 15 => ("FreeWheelDownModel", "letter", "[I", true)
  | 16 => ("FreeWheelDownModel", "letterAt", "[I", true)
  | 17 => ("FreeWheelDownModel", "told", "[I", true)
  | 18 => ("FreeWheelDownModel", "taped", "I", false)
  | 19 => ("FreeWheelDownModel", "reading", "I", false)
  | 20 => ("FreeWheelDownModel", "statements", "I", false)
  | 21 => ("FreeWheelDownModel", "kept", "[I", true)
  | 22 => ("FreeWheelDownModel", "hasImage", "Z", false)
  | 23 => ("FreeWheelDownModel", "isKeeping", "Z", false)
  | 24 => ("FreeWheelDownModel", "cursor", "I", false)
  | 25 => ("FreeWheelDownModel", "backs", "I", false)
  | 26 => ("FreeWheelDownModel", "speedAt", "[I", true)
  | 27 => ("FreeWheelDownModel", "whoAt", "[I", true)
  | 28 => ("FreeWheelDownModel", "runAt", "I", false)
  | 29 => ("FreeWheelDownModel", "runSpeed", "I", false)
  | 30 => ("FreeWheelDownModel", "runRider", "I", false)
  | 31 => ("FreeWheelDownModel", "runHow", "I", false)
  | 32 => ("FreeWheelDownModel", "gotUp", "I", false)
  | 33 => ("FreeWheelDownModel", "failed", "I", false)
  | 34 => ("FreeWheelDownModel", "wed", "I", false)
  | 35 => ("FreeWheelDownModel", "got", "I", false)
  | 36 => ("FreeWheelDownModel", "brakes", "I", false)
  | 37 => ("FreeWheelDownModel", "runs", "I", false)
  | 38 => ("FreeWheelDownModel", "windy", "I", false)
  | 39 => ("FreeWheelDownModel", "row", "[I", true)
  | 40 => ("FreeWheelDownModel", "rowMany", "I", false)
  | 41 => ("FreeWheelDownModel", "overBy", "[I", true)
  | _ => ("FreeWheelDownModel", "lots", "I", false)
def tyX6 : Nat → FieldType := fun k => match k with
  | 0 => .array .int
  | 1 => .array .int
  | 2 => .array .int
  | 3 => .array .int
  | 4 => .array .int
  | 5 => .array .int
  | 6 => .int
  | 7 => .int
  | 8 => .int
  | 9 => .int
  | 10 => .int
  | 11 => .int
  | 12 => .int
  | 13 => .int
  | 14 => .array .int
  | 15 => .array .int
  | 16 => .array .int
  | 17 => .array .int
  | 18 => .int
  | 19 => .int
  | 20 => .int
  | 21 => .array .int
  | 22 => .boolean
  | 23 => .boolean
  | 24 => .int
  | 25 => .int
  | 26 => .array .int
  | 27 => .array .int
  | 28 => .int
  | 29 => .int
  | 30 => .int
  | 31 => .int
  | 32 => .int
  | 33 => .int
  | 34 => .int
  | 35 => .int
  | 36 => .int
  | 37 => .int
  | 38 => .int
  | 39 => .array .int
  | 40 => .int
  | 41 => .array .int
  | _ => .int
abbrev wsX60 : List Cond := u_ws RX6 TX6 43
theorem nmX6 : ∀ a, a < 43 → ∀ b, b < 43 → a ≠ b → (TX6 a).2.1 ≠ (TX6 b).2.1 := by decide +kernel
theorem tyX6_ok : ∀ k, k < 43 → parseFieldDescriptor (TX6 k).2.2.1 = some (tyX6 k) := by decide +kernel
/-- the classes -/
abbrev zcl : List vw_C := [(RX0, TX0, 13), (RX1, TX1, 1), (RX2, TX2, 2), (RX3, TX3, 3), (RX4, TX4, 8), (RX5, TX5, 10), (RX6, TX6, 43)]
def zNm : List String := [RX0, RX1, RX2, RX3, RX4, RX5, RX6, "java/lang/Integer", "java/lang/Math", "FreeWheelDownLaw", "java/lang/Object"]
def zTy : List (Nat → FieldType) := [tyX0, tyX1, tyX2, tyX3, tyX4, tyX5, tyX6]
/-- the cells' shapes -/
def zSh : List (Nat ⊕ (Nat × List (Option Nat))) := [.inr (5, [some 1, some 7, some 13, none, some 19, some 23, some 25, some 28, some 30, some 31]),
  .inr (0, [some 2, some 3, some 4, some 5, some 6, none, none, none, none, none, none, none, none]),
  .inl 10,
  .inl 10,
  .inl 10,
  .inl 5,
  .inl 5,
  .inr (0, [some 8, some 9, some 10, some 11, some 12, none, none, none, none, none, none, none, none]),
  .inl 10,
  .inl 10,
  .inl 10,
  .inl 5,
  .inl 5,
  .inr (0, [some 14, some 15, some 16, some 17, some 18, none, none, none, none, none, none, none, none]),
  .inl 10,
  .inl 10,
  .inl 10,
  .inl 5,
  .inl 5,
  .inr (4, [some 20, some 21, some 22, none, none, none, none, none]),
  .inl 10,
  .inl 10,
  .inl 10,
  .inr (3, [some 24, none, none]),
  .inl 128,
  .inr (1, [some 26]),
  .inr (2, [some 27, none]),
  .inl 96,
  .inr (2, [some 29, none]),
  .inl 12,
  .inl 6,
  .inl 4,
  .inr (6, [some 33, some 34, some 35, some 36, some 37, some 38, none, none, none, none, none, none, none, none, some 39, some 40, some 41, some 42, none, none, none, some 43, none, none, none, none, some 44, some 45, none, none, none, none, none, none, none, none, none, none, none, some 46, none, some 47, none]),
  .inl 7,
  .inl 10,
  .inl 10,
  .inl 10,
  .inl 5,
  .inl 5,
  .inl 96,
  .inl 48,
  .inl 48,
  .inl 96,
  .inl 480,
  .inl 10,
  .inl 10,
  .inl 12,
  .inl 4]
/-- methods: class, name, code, locals, answer, static, parameters, longs -/
def zM : List (Nat × MethodName × ByteArray × Nat × Option FieldType × Bool × Nat × Bool) := [
  (0, ⟨"FreeWheelDown$Hill", "begin", "()V"⟩, prog_2_method_11_code, 1, none, false, 0, false),
  (4, ⟨"FreeWheelDown$Trip", "forget", "()V"⟩, prog_6_method_2_code, 1, none, false, 0, false),
  (5, ⟨"FreeWheelDown", "fillRow", "([II)V"⟩, prog_1_method_66_code, 3, none, true, 2, false),
  (8, ⟨"java/lang/Math", "max", "(II)I"⟩, prog_10_method_65_code, 2, some .int, true, 2, false),
  (5, ⟨"FreeWheelDown", "feed", "(I)I"⟩, prog_1_method_2_code, 2, some .int, false, 1, false),
  (5, ⟨"FreeWheelDown", "refuse", "(I)I"⟩, prog_1_method_49_code, 3, some .int, false, 1, false),
  (5, ⟨"FreeWheelDown", "get", "([II)I"⟩, prog_1_method_63_code, 2, some .int, true, 2, false),
  (5, ⟨"FreeWheelDown", "put", "([III)V"⟩, prog_1_method_64_code, 3, none, true, 3, false),
  (2, ⟨"FreeWheelDown$Numbers", "isFull", "()Z"⟩, prog_4_method_2_code, 1, some .boolean, false, 0, false),
  (2, ⟨"FreeWheelDown$Numbers", "append", "(I)I"⟩, prog_4_method_3_code, 2, some .int, false, 1, false),
  (5, ⟨"FreeWheelDown", "hill", "()I"⟩, prog_1_method_3_code, 2, some .int, false, 0, false),
  (1, ⟨"FreeWheelDown$Letters", "faultOfForm", "()I"⟩, prog_3_method_2_code, 4, some .int, false, 0, false),
  (1, ⟨"FreeWheelDown$Letters", "wrongInStatement", "(I)I"⟩, prog_3_method_3_code, 6, some .int, false, 1, false),
  (1, ⟨"FreeWheelDown$Letters", "lengthOfStatement", "(I)I"⟩, prog_3_method_4_code, 2, some .int, false, 1, false),
  (2, ⟨"FreeWheelDown$Numbers", "at", "(I)I"⟩, prog_4_method_4_code, 2, some .int, false, 1, false),
  (1, ⟨"FreeWheelDown$Letters", "isDigit", "(I)Z"⟩, prog_3_method_5_code, 1, some .boolean, true, 1, false),
  (0, ⟨"FreeWheelDown$Hill", "becomeLike", "(LFreeWheelDown$Hill;)V"⟩, prog_2_method_2_code, 2, none, false, 1, false),
  (5, ⟨"FreeWheelDown", "copyRow", "([I[I)V"⟩, prog_1_method_65_code, 3, none, true, 2, false),
  (1, ⟨"FreeWheelDown$Letters", "comeTo", "(LFreeWheelDown$Hill;)I"⟩, prog_3_method_6_code, 5, some .int, false, 1, false),
  (1, ⟨"FreeWheelDown$Letters", "statementComes", "(LFreeWheelDown$Hill;I)Z"⟩, prog_3_method_7_code, 5, some .boolean, false, 2, false),
  (1, ⟨"FreeWheelDown$Letters", "stretchComes", "(LFreeWheelDown$Hill;II)Z"⟩, prog_3_method_8_code, 4, some .boolean, true, 3, false),
  (0, ⟨"FreeWheelDown$Hill", "addStretch", "(II)I"⟩, prog_2_method_6_code, 3, some .int, false, 2, false),
  (1, ⟨"FreeWheelDown$Letters", "riderComes", "(LFreeWheelDown$Hill;II)Z"⟩, prog_3_method_9_code, 4, some .boolean, true, 3, false),
  (0, ⟨"FreeWheelDown$Hill", "addRider", "(II)I"⟩, prog_2_method_7_code, 3, some .int, false, 2, false),
  (1, ⟨"FreeWheelDown$Letters", "changeComes", "(LFreeWheelDown$Hill;II)Z"⟩, prog_3_method_10_code, 4, some .boolean, true, 3, false),
  (0, ⟨"FreeWheelDown$Hill", "hasStretch", "(I)Z"⟩, prog_2_method_3_code, 2, some .boolean, false, 1, false),
  (0, ⟨"FreeWheelDown$Hill", "hasRider", "(I)Z"⟩, prog_2_method_4_code, 2, some .boolean, false, 1, false),
  (1, ⟨"FreeWheelDown$Letters", "stepsCome", "(LFreeWheelDown$Hill;I)Z"⟩, prog_3_method_11_code, 3, some .boolean, true, 2, false),
  (0, ⟨"FreeWheelDown$Hill", "hasRoomForSteps", "(I)Z"⟩, prog_2_method_5_code, 2, some .boolean, false, 1, false),
  (0, ⟨"FreeWheelDown$Hill", "go", "(I)V"⟩, prog_2_method_12_code, 3, none, false, 1, false),
  (0, ⟨"FreeWheelDown$Hill", "step", "(II)V"⟩, prog_2_method_13_code, 4, none, false, 2, false),
  (0, ⟨"FreeWheelDown$Hill", "waiter", "()I"⟩, prog_2_method_14_code, 1, some .int, false, 0, false),
  (0, ⟨"FreeWheelDown$Hill", "getsUp", "(II)Z"⟩, prog_2_method_15_code, 3, some .boolean, false, 2, false),
  (0, ⟨"FreeWheelDown$Hill", "mostHeld", "(II)I"⟩, prog_2_method_17_code, 3, some .int, false, 2, false),
  (0, ⟨"FreeWheelDown$Hill", "speedBehind", "(III)I"⟩, prog_2_method_18_code, 6, some .int, false, 3, false),
  (8, ⟨"java/lang/Math", "min", "(II)I"⟩, prog_10_method_69_code, 2, some .int, true, 2, false),
  (3, ⟨"FreeWheelDown$Past", "forget", "()V"⟩, prog_5_method_2_code, 1, none, false, 0, false),
  (2, ⟨"FreeWheelDown$Numbers", "empty", "()V"⟩, prog_4_method_5_code, 1, none, false, 0, false),
  (5, ⟨"FreeWheelDown", "stretchOf", "(II)I"⟩, prog_1_method_4_code, 3, some .int, false, 2, false),
  (5, ⟨"FreeWheelDown", "riderOf", "(II)I"⟩, prog_1_method_5_code, 3, some .int, false, 2, false),
  (5, ⟨"FreeWheelDown", "bicycle", "(I)I"⟩, prog_1_method_6_code, 2, some .int, false, 1, false),
  (0, ⟨"FreeWheelDown$Hill", "ofBicycle", "(I)I"⟩, prog_2_method_10_code, 2, some .int, false, 1, false),
  (5, ⟨"FreeWheelDown", "goesOn", "(III)I"⟩, prog_1_method_7_code, 4, some .int, false, 3, false),
  (5, ⟨"FreeWheelDown", "holds", "(II)I"⟩, prog_1_method_8_code, 3, some .int, false, 2, false),
  (5, ⟨"FreeWheelDown", "count", "(I)I"⟩, prog_1_method_9_code, 2, some .int, false, 1, false),
  (0, ⟨"FreeWheelDown$Hill", "changesAsBits", "()I"⟩, prog_2_method_19_code, 3, some .int, false, 0, false),
  (7, ⟨"java/lang/Integer", "bitCount", "(I)I"⟩, prog_9_method_49_code, 1, some .int, true, 1, false),
  (5, ⟨"FreeWheelDown", "stretch", "(II)I"⟩, prog_1_method_10_code, 3, some .int, false, 2, false),
  (5, ⟨"FreeWheelDown", "rider", "(II)I"⟩, prog_1_method_11_code, 3, some .int, false, 2, false),
  (5, ⟨"FreeWheelDown", "waits", "(II)I"⟩, prog_1_method_12_code, 4, some .int, false, 2, false),
  (3, ⟨"FreeWheelDown$Past", "keep", "(LFreeWheelDown$Hill;)V"⟩, prog_5_method_3_code, 4, none, false, 1, false),
  (5, ⟨"FreeWheelDown", "starts", "(I)I"⟩, prog_1_method_13_code, 3, some .int, false, 1, false),
  (5, ⟨"FreeWheelDown", "begins", "()I"⟩, prog_1_method_14_code, 1, some .int, false, 0, false),
  (5, ⟨"FreeWheelDown", "steps", "(I)I"⟩, prog_1_method_15_code, 2, some .int, false, 1, false),
  (5, ⟨"FreeWheelDown", "back", "()I"⟩, prog_1_method_16_code, 1, some .int, false, 0, false),
  (3, ⟨"FreeWheelDown$Past", "takeBack", "(LFreeWheelDown$Hill;)V"⟩, prog_5_method_4_code, 4, none, false, 1, false),
  (5, ⟨"FreeWheelDown", "image", "()I"⟩, prog_1_method_17_code, 1, some .int, false, 0, false),
  (5, ⟨"FreeWheelDown", "restore", "()I"⟩, prog_1_method_18_code, 1, some .int, false, 0, false),
  (5, ⟨"FreeWheelDown", "behind", "(II)I"⟩, prog_1_method_19_code, 3, some .int, false, 2, false),
  (5, ⟨"FreeWheelDown", "ride", "(I)I"⟩, prog_1_method_20_code, 2, some .int, false, 1, false),
  (5, ⟨"FreeWheelDown", "rideAsNow", "()V"⟩, prog_1_method_50_code, 1, none, false, 0, false),
  (4, ⟨"FreeWheelDown$Trip", "endOf", "(LFreeWheelDown$Hill;)I"⟩, prog_6_method_3_code, 2, some .int, false, 1, false),
  (4, ⟨"FreeWheelDown$Trip", "run", "(LFreeWheelDown$Hill;IIII)V"⟩, prog_6_method_5_code, 10, none, false, 5, false),
  (4, ⟨"FreeWheelDown$Trip", "noteBeginning", "(LFreeWheelDown$Hill;)V"⟩, prog_6_method_6_code, 2, none, false, 1, false),
  (4, ⟨"FreeWheelDown$Trip", "noteChange", "(LFreeWheelDown$Hill;I)V"⟩, prog_6_method_8_code, 4, none, false, 2, false),
  (0, ⟨"FreeWheelDown$Hill", "isStraight", "(I)Z"⟩, prog_2_method_16_code, 3, some .boolean, false, 1, false),
  (5, ⟨"FreeWheelDown", "hasBit", "(II)Z"⟩, prog_1_method_67_code, 2, some .boolean, true, 2, false),
  (4, ⟨"FreeWheelDown$Trip", "noteRider", "(LFreeWheelDown$Hill;)V"⟩, prog_6_method_7_code, 2, none, false, 1, false),
  (5, ⟨"FreeWheelDown", "fastest", "(I)I"⟩, prog_1_method_21_code, 3, some .int, false, 1, false),
  (4, ⟨"FreeWheelDown$Trip", "fastestStretch", "()I"⟩, prog_6_method_12_code, 3, some .int, false, 0, false),
  (5, ⟨"FreeWheelDown", "above", "(I)I"⟩, prog_1_method_22_code, 3, some .int, false, 1, false),
  (5, ⟨"FreeWheelDown", "smithy", "()I"⟩, prog_1_method_23_code, 2, some .int, false, 0, false),
  (4, ⟨"FreeWheelDown$Trip", "overBy", "(I)I"⟩, prog_6_method_10_code, 2, some .int, false, 1, false),
  (5, ⟨"FreeWheelDown", "who", "(I)I"⟩, prog_1_method_24_code, 2, some .int, false, 1, false),
  (5, ⟨"FreeWheelDown", "shares", "(I)I"⟩, prog_1_method_25_code, 2, some .int, false, 1, false),
  (5, ⟨"FreeWheelDown", "spreadOfShares", "()I"⟩, prog_1_method_57_code, 4, some .int, false, 0, false),
  (4, ⟨"FreeWheelDown$Trip", "shareOf", "(I)I"⟩, prog_6_method_11_code, 4, some .int, false, 1, false),
  (5, ⟨"FreeWheelDown", "mean", "(I)J"⟩, prog_1_method_26_code, 5, some .long, false, 1, true),
  (5, ⟨"FreeWheelDown", "inLowestTerms", "(JJI)J"⟩, prog_1_method_69_code, 12, some .long, true, 3, true),
  (5, ⟨"FreeWheelDown", "gain", "(I)I"⟩, prog_1_method_27_code, 2, some .int, false, 1, false),
  (5, ⟨"FreeWheelDown", "waiting", "(I)I"⟩, prog_1_method_28_code, 2, some .int, false, 1, false),
  (0, ⟨"FreeWheelDown$Hill", "waitingAsBits", "()I"⟩, prog_2_method_20_code, 4, some .int, false, 0, false),
  (5, ⟨"FreeWheelDown", "idleAsBits", "()I"⟩, prog_1_method_58_code, 3, some .int, false, 0, false),
  (5, ⟨"FreeWheelDown", "straights", "(I)I"⟩, prog_1_method_29_code, 2, some .int, false, 1, false),
  (0, ⟨"FreeWheelDown$Hill", "mostStraights", "()I"⟩, prog_2_method_22_code, 3, some .int, false, 0, false),
  (0, ⟨"FreeWheelDown$Hill", "straightsFrom", "(I)I"⟩, prog_2_method_21_code, 4, some .int, false, 1, false),
  (0, ⟨"FreeWheelDown$Hill", "firstOfMostStraights", "()I"⟩, prog_2_method_23_code, 3, some .int, false, 0, false),
  (5, ⟨"FreeWheelDown", "lightest", "(I)I"⟩, prog_1_method_30_code, 2, some .int, false, 1, false),
  (0, ⟨"FreeWheelDown$Hill", "lightestRider", "()I"⟩, prog_2_method_24_code, 3, some .int, false, 0, false),
  (0, ⟨"FreeWheelDown$Hill", "mostSkilledRider", "()I"⟩, prog_2_method_25_code, 3, some .int, false, 0, false),
  (5, ⟨"FreeWheelDown", "bends", "()I"⟩, prog_1_method_31_code, 4, some .int, false, 0, false),
  (5, ⟨"FreeWheelDown", "bestStart", "(I)I"⟩, prog_1_method_32_code, 6, some .int, false, 1, false),
  (5, ⟨"FreeWheelDown", "leastStartThatArrives", "()I"⟩, prog_1_method_51_code, 2, some .int, false, 0, false),
  (4, ⟨"FreeWheelDown$Trip", "arrives", "(LFreeWheelDown$Hill;)Z"⟩, prog_6_method_4_code, 2, some .boolean, false, 1, false),
  (5, ⟨"FreeWheelDown", "bestChanges", "(IIII)I"⟩, prog_1_method_33_code, 11, some .int, false, 4, false),
  (5, ⟨"FreeWheelDown", "riderOfWay", "(I)I"⟩, prog_1_method_52_code, 1, some .int, true, 1, false),
  (5, ⟨"FreeWheelDown", "digitOfWay", "(I)I"⟩, prog_1_method_53_code, 1, some .int, true, 1, false),
  (5, ⟨"FreeWheelDown", "fewest", "(I)I"⟩, prog_1_method_34_code, 2, some .int, false, 1, false),
  (5, ⟨"FreeWheelDown", "fewestChanges", "()I"⟩, prog_1_method_54_code, 6, some .int, false, 0, false),
  (5, ⟨"FreeWheelDown", "endKeeping", "(I)I"⟩, prog_1_method_55_code, 3, some .int, false, 1, false),
  (5, ⟨"FreeWheelDown", "soloRiders", "()I"⟩, prog_1_method_56_code, 4, some .int, false, 0, false),
  (5, ⟨"FreeWheelDown", "heaviest", "()I"⟩, prog_1_method_35_code, 2, some .int, false, 0, false),
  (5, ⟨"FreeWheelDown", "skillWanted", "(I)I"⟩, prog_1_method_36_code, 3, some .int, false, 1, false),
  (5, ⟨"FreeWheelDown", "two", "(II)I"⟩, prog_1_method_37_code, 6, some .int, false, 2, false),
  (5, ⟨"FreeWheelDown", "neitherHasMoreAlone", "(II)Z"⟩, prog_1_method_59_code, 6, some .boolean, false, 2, false),
  (5, ⟨"FreeWheelDown", "wind", "(III)J"⟩, prog_1_method_38_code, 7, some .long, false, 3, true),
  (5, ⟨"FreeWheelDown", "power", "(JI)J"⟩, prog_1_method_68_code, 6, some .long, true, 2, true),
  (5, ⟨"FreeWheelDown", "swap", "()I"⟩, prog_1_method_39_code, 6, some .int, false, 0, false),
  (0, ⟨"FreeWheelDown$Hill", "changePlaces", "(II)V"⟩, prog_2_method_8_code, 5, none, false, 2, false),
  (5, ⟨"FreeWheelDown", "cut", "()I"⟩, prog_1_method_40_code, 2, some .int, false, 0, false),
  (0, ⟨"FreeWheelDown$Hill", "leaveOut", "(I)V"⟩, prog_2_method_9_code, 3, none, false, 1, false),
  (5, ⟨"FreeWheelDown", "brake", "()I"⟩, prog_1_method_41_code, 4, some .int, false, 0, false),
  (5, ⟨"FreeWheelDown", "lots", "(III)I"⟩, prog_1_method_42_code, 8, some .int, false, 3, false),
  (5, ⟨"FreeWheelDown", "drawChanges", "(I)I"⟩, prog_1_method_60_code, 6, some .int, false, 1, false),
  (5, ⟨"FreeWheelDown", "row", "(I)I"⟩, prog_1_method_43_code, 2, some .int, false, 1, false),
  (5, ⟨"FreeWheelDown", "clear", "()I"⟩, prog_1_method_44_code, 2, some .int, false, 0, false),
  (5, ⟨"FreeWheelDown", "judge", "()I"⟩, prog_1_method_45_code, 2, some .int, false, 0, false),
  (5, ⟨"FreeWheelDown", "firstNotAsJudged", "()I"⟩, prog_1_method_61_code, 4, some .int, false, 0, false),
  (5, ⟨"FreeWheelDown", "whoRode", "(I)I"⟩, prog_1_method_46_code, 2, some .int, false, 1, false),
  (5, ⟨"FreeWheelDown", "tellingValues", "(I[III)I"⟩, prog_1_method_62_code, 7, some .int, false, 4, false),
  (4, ⟨"FreeWheelDown$Trip", "startsLike", "(LFreeWheelDown$Numbers;)Z"⟩, prog_6_method_9_code, 3, some .boolean, false, 1, false),
  (5, ⟨"FreeWheelDown", "whatKind", "(II)I"⟩, prog_1_method_47_code, 3, some .int, false, 2, false),
  (5, ⟨"FreeWheelDown", "startTold", "(I)I"⟩, prog_1_method_48_code, 5, some .int, false, 1, false),
  (6, ⟨"FreeWheelDownModel", "feed", "(I)I"⟩, prog_8_method_12_code, 3, some .int, false, 1, false),
  (6, ⟨"FreeWheelDownModel", "bound", "(III)I"⟩, prog_8_method_6_code, 3, some .int, true, 3, false),
  (6, ⟨"FreeWheelDownModel", "no", "(I)I"⟩, prog_8_method_2_code, 2, some .int, false, 1, false),
  (6, ⟨"FreeWheelDownModel", "hill", "()I"⟩, prog_8_method_22_code, 3, some .int, false, 0, false),
  (6, ⟨"FreeWheelDownModel", "statement", "()Z"⟩, prog_8_method_16_code, 2, some .boolean, false, 0, false),
  (6, ⟨"FreeWheelDownModel", "next", "()I"⟩, prog_8_method_13_code, 1, some .int, false, 0, false),
  (6, ⟨"FreeWheelDownModel", "readsAll", "(II)Z"⟩, prog_8_method_15_code, 3, some .boolean, false, 2, false),
  (6, ⟨"FreeWheelDownModel", "readsDigits", "(II)Z"⟩, prog_8_method_14_code, 5, some .boolean, false, 2, false),
  (6, ⟨"FreeWheelDownModel", "isIn", "(III)Z"⟩, prog_8_method_5_code, 3, some .boolean, true, 3, false),
  (6, ⟨"FreeWheelDownModel", "passesAll", "(IZ)V"⟩, prog_8_method_25_code, 3, none, false, 2, false),
  (6, ⟨"FreeWheelDownModel", "passes", "([I)V"⟩, prog_8_method_23_code, 3, none, false, 1, false),
  (6, ⟨"FreeWheelDownModel", "passOne", "(I)I"⟩, prog_8_method_24_code, 3, some .int, false, 1, false),
  (6, ⟨"FreeWheelDownModel", "comes", "(I)Z"⟩, prog_8_method_21_code, 3, some .boolean, false, 1, false),
  (6, ⟨"FreeWheelDownModel", "comesStretch", "(II)Z"⟩, prog_8_method_17_code, 3, some .boolean, false, 2, false),
  (6, ⟨"FreeWheelDownModel", "addsStretch", "(II)V"⟩, prog_8_method_32_code, 3, none, false, 2, false),
  (6, ⟨"FreeWheelDownModel", "comesRider", "(II)Z"⟩, prog_8_method_18_code, 3, some .boolean, false, 2, false),
  (6, ⟨"FreeWheelDownModel", "addsRider", "(II)V"⟩, prog_8_method_33_code, 3, none, false, 2, false),
  (6, ⟨"FreeWheelDownModel", "comesChange", "(II)Z"⟩, prog_8_method_19_code, 3, some .boolean, false, 2, false),
  (6, ⟨"FreeWheelDownModel", "isStretch", "(I)Z"⟩, prog_8_method_10_code, 2, some .boolean, false, 1, false),
  (6, ⟨"FreeWheelDownModel", "isRider", "(I)Z"⟩, prog_8_method_11_code, 2, some .boolean, false, 1, false),
  (6, ⟨"FreeWheelDownModel", "beginsNow", "()V"⟩, prog_8_method_43_code, 1, none, false, 0, false),
  (6, ⟨"FreeWheelDownModel", "startsRide", "()V"⟩, prog_8_method_37_code, 2, none, false, 0, false),
  (6, ⟨"FreeWheelDownModel", "leavesRun", "()V"⟩, prog_8_method_44_code, 1, none, false, 0, false),
  (6, ⟨"FreeWheelDownModel", "comesSteps", "(I)Z"⟩, prog_8_method_20_code, 2, some .boolean, false, 1, false),
  (6, ⟨"FreeWheelDownModel", "goesOnSteps", "(I)V"⟩, prog_8_method_45_code, 3, none, false, 1, false),
  (6, ⟨"FreeWheelDownModel", "runsStep", "()V"⟩, prog_8_method_40_code, 2, none, false, 0, false),
  (6, ⟨"FreeWheelDownModel", "getsUp", "()V"⟩, prog_8_method_39_code, 2, none, false, 0, false),
  (6, ⟨"FreeWheelDownModel", "isStraight", "(I)Z"⟩, prog_8_method_38_code, 1, some .boolean, true, 1, false),
  (6, ⟨"FreeWheelDownModel", "holdsOf", "(II)I"⟩, prog_8_method_36_code, 3, some .int, false, 2, false),
  (6, ⟨"FreeWheelDownModel", "speedBehind", "(III)I"⟩, prog_8_method_35_code, 4, some .int, false, 3, false),
  (6, ⟨"FreeWheelDownModel", "becomes", "(III)I"⟩, prog_8_method_34_code, 4, some .int, false, 3, false),
  (6, ⟨"FreeWheelDownModel", "held", "(III)I"⟩, prog_8_method_7_code, 3, some .int, true, 3, false),
  (6, ⟨"FreeWheelDownModel", "has", "(II)Z"⟩, prog_8_method_8_code, 2, some .boolean, true, 2, false),
  (6, ⟨"FreeWheelDownModel", "back", "()I"⟩, prog_8_method_29_code, 1, some .int, false, 0, false),
  (6, ⟨"FreeWheelDownModel", "image", "()I"⟩, prog_8_method_30_code, 1, some .int, false, 0, false),
  (6, ⟨"FreeWheelDownModel", "restore", "()I"⟩, prog_8_method_31_code, 1, some .int, false, 0, false),
  (6, ⟨"FreeWheelDownModel", "stretchOf", "(II)I"⟩, prog_8_method_47_code, 3, some .int, false, 2, false),
  (6, ⟨"FreeWheelDownModel", "riderOf", "(II)I"⟩, prog_8_method_48_code, 3, some .int, false, 2, false),
  (6, ⟨"FreeWheelDownModel", "bicycle", "(I)I"⟩, prog_8_method_49_code, 2, some .int, false, 1, false),
  (6, ⟨"FreeWheelDownModel", "bicycleOf", "(I)I"⟩, prog_8_method_46_code, 2, some .int, false, 1, false),
  (6, ⟨"FreeWheelDownModel", "goesOn", "(III)I"⟩, prog_8_method_50_code, 5, some .int, false, 3, false),
  (6, ⟨"FreeWheelDownModel", "holds", "(II)I"⟩, prog_8_method_51_code, 3, some .int, false, 2, false),
  (6, ⟨"FreeWheelDownModel", "stretch", "(II)I"⟩, prog_8_method_52_code, 4, some .int, false, 2, false),
  (6, ⟨"FreeWheelDownModel", "rider", "(II)I"⟩, prog_8_method_53_code, 4, some .int, false, 2, false),
  (6, ⟨"FreeWheelDownModel", "waits", "(II)I"⟩, prog_8_method_54_code, 4, some .int, false, 2, false),
  (6, ⟨"FreeWheelDownModel", "keepsBack", "()V"⟩, prog_8_method_28_code, 2, none, false, 0, false),
  (6, ⟨"FreeWheelDownModel", "starts", "(I)I"⟩, prog_8_method_55_code, 4, some .int, false, 1, false),
  (6, ⟨"FreeWheelDownModel", "begins", "()I"⟩, prog_8_method_56_code, 1, some .int, false, 0, false),
  (6, ⟨"FreeWheelDownModel", "steps", "(I)I"⟩, prog_8_method_57_code, 3, some .int, false, 1, false),
  (6, ⟨"FreeWheelDownModel", "behind", "(II)I"⟩, prog_8_method_58_code, 5, some .int, false, 2, false),
  (6, ⟨"FreeWheelDownModel", "changes", "()V"⟩, prog_8_method_26_code, 1, none, false, 0, false),
  (6, ⟨"FreeWheelDownModel", "changesBack", "()V"⟩, prog_8_method_27_code, 1, none, false, 0, false),
  (6, ⟨"FreeWheelDownModel", "ride", "(I)I"⟩, prog_8_method_60_code, 2, some .int, false, 1, false),
  (6, ⟨"FreeWheelDownModel", "rides", "()I"⟩, prog_8_method_41_code, 1, some .int, false, 0, false),
  (6, ⟨"FreeWheelDownModel", "ridersOf", "()I"⟩, prog_8_method_59_code, 3, some .int, false, 0, false),
  (6, ⟨"FreeWheelDownModel", "bits", "(I)I"⟩, prog_8_method_9_code, 3, some .int, true, 1, false),
  (6, ⟨"FreeWheelDownModel", "fastest", "(I)I"⟩, prog_8_method_61_code, 4, some .int, false, 1, false),
  (6, ⟨"FreeWheelDownModel", "above", "(I)I"⟩, prog_8_method_62_code, 4, some .int, false, 1, false),
  (6, ⟨"FreeWheelDownModel", "smithy", "()I"⟩, prog_8_method_63_code, 2, some .int, false, 0, false),
  (6, ⟨"FreeWheelDownModel", "who", "(I)I"⟩, prog_8_method_64_code, 2, some .int, false, 1, false),
  (6, ⟨"FreeWheelDownModel", "bestStart", "(I)I"⟩, prog_8_method_66_code, 7, some .int, false, 1, false),
  (6, ⟨"FreeWheelDownModel", "farWith", "(I)I"⟩, prog_8_method_65_code, 4, some .int, false, 1, false),
  (6, ⟨"FreeWheelDownModel", "bestChanges", "(IIII)I"⟩, prog_8_method_69_code, 11, some .int, false, 4, false),
  (6, ⟨"FreeWheelDownModel", "waitsAt", "(II)V"⟩, prog_8_method_67_code, 3, none, false, 2, false),
  (6, ⟨"FreeWheelDownModel", "digitOf", "(I)I"⟩, prog_8_method_68_code, 1, some .int, true, 1, false),
  (6, ⟨"FreeWheelDownModel", "fewest", "(I)I"⟩, prog_8_method_74_code, 5, some .int, false, 1, false),
  (6, ⟨"FreeWheelDownModel", "fewestChanges", "()I"⟩, prog_8_method_72_code, 5, some .int, false, 0, false),
  (6, ⟨"FreeWheelDownModel", "waitingAt", "()I"⟩, prog_8_method_71_code, 3, some .int, false, 0, false),
  (6, ⟨"FreeWheelDownModel", "farKeeping", "(I)I"⟩, prog_8_method_70_code, 3, some .int, false, 1, false),
  (6, ⟨"FreeWheelDownModel", "farAlone", "(I)I"⟩, prog_8_method_73_code, 3, some .int, false, 1, false),
  (6, ⟨"FreeWheelDownModel", "heaviest", "()I"⟩, prog_8_method_75_code, 4, some .int, false, 0, false),
  (6, ⟨"FreeWheelDownModel", "arrives", "()Z"⟩, prog_8_method_42_code, 1, some .boolean, false, 0, false),
  (6, ⟨"FreeWheelDownModel", "skillWanted", "(I)I"⟩, prog_8_method_76_code, 5, some .int, false, 1, false),
  (6, ⟨"FreeWheelDownModel", "straights", "(I)I"⟩, prog_8_method_78_code, 5, some .int, false, 1, false),
  (6, ⟨"FreeWheelDownModel", "straightsFrom", "(I)I"⟩, prog_8_method_77_code, 3, some .int, false, 1, false),
  (6, ⟨"FreeWheelDownModel", "whoRode", "(I)I"⟩, prog_8_method_81_code, 3, some .int, false, 1, false),
  (6, ⟨"FreeWheelDownModel", "bitsFor", "([IIII)I"⟩, prog_8_method_80_code, 8, some .int, false, 4, false),
  (6, ⟨"FreeWheelDownModel", "isRowSo", "()Z"⟩, prog_8_method_79_code, 2, some .boolean, false, 0, false),
  (6, ⟨"FreeWheelDownModel", "whatKind", "(II)I"⟩, prog_8_method_82_code, 4, some .int, false, 2, false),
  (6, ⟨"FreeWheelDownModel", "startTold", "(I)I"⟩, prog_8_method_83_code, 7, some .int, false, 1, false),
  (6, ⟨"FreeWheelDownModel", "two", "(II)I"⟩, prog_8_method_85_code, 6, some .int, false, 2, false),
  (6, ⟨"FreeWheelDownModel", "findOver", "(II)V"⟩, prog_8_method_84_code, 5, none, false, 2, false),
  (6, ⟨"FreeWheelDownModel", "wind", "(III)J"⟩, prog_8_method_88_code, 13, some .long, false, 3, true),
  (6, ⟨"FreeWheelDownModel", "lowest", "(I)J"⟩, prog_8_method_4_code, 2, some .long, false, 1, false),
  (6, ⟨"FreeWheelDownModel", "partOf", "(JJI)J"⟩, prog_8_method_87_code, 5, some .long, true, 3, true),
  (6, ⟨"FreeWheelDownModel", "divisor", "(JJ)J"⟩, prog_8_method_86_code, 10, some .long, true, 2, true),
  (6, ⟨"FreeWheelDownModel", "shares", "(I)I"⟩, prog_8_method_90_code, 5, some .int, false, 1, false),
  (6, ⟨"FreeWheelDownModel", "shareOf", "(I)I"⟩, prog_8_method_89_code, 4, some .int, false, 1, false),
  (6, ⟨"FreeWheelDownModel", "lightest", "(I)I"⟩, prog_8_method_91_code, 4, some .int, false, 1, false),
  (6, ⟨"FreeWheelDownModel", "bends", "()I"⟩, prog_8_method_92_code, 3, some .int, false, 0, false),
  (6, ⟨"FreeWheelDownModel", "swap", "()I"⟩, prog_8_method_94_code, 6, some .int, false, 0, false),
  (6, ⟨"FreeWheelDownModel", "farSwapped", "(II)I"⟩, prog_8_method_93_code, 6, some .int, false, 2, false),
  (6, ⟨"FreeWheelDownModel", "cut", "()I"⟩, prog_8_method_96_code, 2, some .int, false, 0, false),
  (6, ⟨"FreeWheelDownModel", "arrivesWithout", "(I)Z"⟩, prog_8_method_95_code, 3, some .boolean, false, 1, false),
  (6, ⟨"FreeWheelDownModel", "mean", "(I)J"⟩, prog_8_method_97_code, 7, some .long, false, 1, true),
  (6, ⟨"FreeWheelDownModel", "brake", "()I"⟩, prog_8_method_98_code, 5, some .int, false, 0, false),
  (6, ⟨"FreeWheelDownModel", "gain", "(I)I"⟩, prog_8_method_99_code, 2, some .int, false, 1, false),
  (6, ⟨"FreeWheelDownModel", "lower", "(I)I"⟩, prog_8_method_3_code, 2, some .int, false, 1, false),
  (6, ⟨"FreeWheelDownModel", "waiting", "(I)I"⟩, prog_8_method_100_code, 6, some .int, false, 1, false),
  (6, ⟨"FreeWheelDownModel", "row", "(I)I"⟩, prog_8_method_101_code, 3, some .int, false, 1, false),
  (6, ⟨"FreeWheelDownModel", "judge", "()I"⟩, prog_8_method_102_code, 3, some .int, false, 0, false),
  (6, ⟨"FreeWheelDownModel", "clear", "()I"⟩, prog_8_method_103_code, 2, some .int, false, 0, false),
  (6, ⟨"FreeWheelDownModel", "lots", "(III)I"⟩, prog_8_method_105_code, 10, some .int, false, 3, false),
  (6, ⟨"FreeWheelDownModel", "draw", "(I)I"⟩, prog_8_method_104_code, 2, some .int, false, 1, false),
  (6, ⟨"FreeWheelDownModel", "count", "(I)I"⟩, prog_8_method_106_code, 2, some .int, false, 1, false),
  (9, ⟨"FreeWheelDownLaw", "law", "([I)Z"⟩, code, 4, some .boolean, true, 1, false)]
abbrev mHill_begin : Nat := 0
abbrev mTrip_forget : Nat := 1
abbrev mFwd_fillRow : Nat := 2
abbrev mMath_max : Nat := 3
abbrev mFwd_feed : Nat := 4
abbrev mFwd_refuse : Nat := 5
abbrev mFwd_get : Nat := 6
abbrev mFwd_put : Nat := 7
abbrev mNumbers_isFull : Nat := 8
abbrev mNumbers_append : Nat := 9
abbrev mFwd_hill : Nat := 10
abbrev mLetters_faultOfForm : Nat := 11
abbrev mLetters_wrongInStatement : Nat := 12
abbrev mLetters_lengthOfStatement : Nat := 13
abbrev mNumbers_at : Nat := 14
abbrev mLetters_isDigit : Nat := 15
abbrev mHill_becomeLike : Nat := 16
abbrev mFwd_copyRow : Nat := 17
abbrev mLetters_comeTo : Nat := 18
abbrev mLetters_statementComes : Nat := 19
abbrev mLetters_stretchComes : Nat := 20
abbrev mHill_addStretch : Nat := 21
abbrev mLetters_riderComes : Nat := 22
abbrev mHill_addRider : Nat := 23
abbrev mLetters_changeComes : Nat := 24
abbrev mHill_hasStretch : Nat := 25
abbrev mHill_hasRider : Nat := 26
abbrev mLetters_stepsCome : Nat := 27
abbrev mHill_hasRoomForSteps : Nat := 28
abbrev mHill_go : Nat := 29
abbrev mHill_step : Nat := 30
abbrev mHill_waiter : Nat := 31
abbrev mHill_getsUp : Nat := 32
abbrev mHill_mostHeld : Nat := 33
abbrev mHill_speedBehind : Nat := 34
abbrev mMath_min : Nat := 35
abbrev mPast_forget : Nat := 36
abbrev mNumbers_empty : Nat := 37
abbrev mFwd_stretchOf : Nat := 38
abbrev mFwd_riderOf : Nat := 39
abbrev mFwd_bicycle : Nat := 40
abbrev mHill_ofBicycle : Nat := 41
abbrev mFwd_goesOn : Nat := 42
abbrev mFwd_holds : Nat := 43
abbrev mFwd_count : Nat := 44
abbrev mHill_changesAsBits : Nat := 45
abbrev mInt_bitCount : Nat := 46
abbrev mFwd_stretch : Nat := 47
abbrev mFwd_rider : Nat := 48
abbrev mFwd_waits : Nat := 49
abbrev mPast_keep : Nat := 50
abbrev mFwd_starts : Nat := 51
abbrev mFwd_begins : Nat := 52
abbrev mFwd_steps : Nat := 53
abbrev mFwd_back : Nat := 54
abbrev mPast_takeBack : Nat := 55
abbrev mFwd_image : Nat := 56
abbrev mFwd_restore : Nat := 57
abbrev mFwd_behind : Nat := 58
abbrev mFwd_ride : Nat := 59
abbrev mFwd_rideAsNow : Nat := 60
abbrev mTrip_endOf : Nat := 61
abbrev mTrip_run : Nat := 62
abbrev mTrip_noteBeginning : Nat := 63
abbrev mTrip_noteChange : Nat := 64
abbrev mHill_isStraight : Nat := 65
abbrev mFwd_hasBit : Nat := 66
abbrev mTrip_noteRider : Nat := 67
abbrev mFwd_fastest : Nat := 68
abbrev mTrip_fastestStretch : Nat := 69
abbrev mFwd_above : Nat := 70
abbrev mFwd_smithy : Nat := 71
abbrev mTrip_overBy : Nat := 72
abbrev mFwd_who : Nat := 73
abbrev mFwd_shares : Nat := 74
abbrev mFwd_spreadOfShares : Nat := 75
abbrev mTrip_shareOf : Nat := 76
abbrev mFwd_mean : Nat := 77
abbrev mFwd_inLowestTerms : Nat := 78
abbrev mFwd_gain : Nat := 79
abbrev mFwd_waiting : Nat := 80
abbrev mHill_waitingAsBits : Nat := 81
abbrev mFwd_idleAsBits : Nat := 82
abbrev mFwd_straights : Nat := 83
abbrev mHill_mostStraights : Nat := 84
abbrev mHill_straightsFrom : Nat := 85
abbrev mHill_firstOfMostStraights : Nat := 86
abbrev mFwd_lightest : Nat := 87
abbrev mHill_lightestRider : Nat := 88
abbrev mHill_mostSkilledRider : Nat := 89
abbrev mFwd_bends : Nat := 90
abbrev mFwd_bestStart : Nat := 91
abbrev mFwd_leastStartThatArrives : Nat := 92
abbrev mTrip_arrives : Nat := 93
abbrev mFwd_bestChanges : Nat := 94
abbrev mFwd_riderOfWay : Nat := 95
abbrev mFwd_digitOfWay : Nat := 96
abbrev mFwd_fewest : Nat := 97
abbrev mFwd_fewestChanges : Nat := 98
abbrev mFwd_endKeeping : Nat := 99
abbrev mFwd_soloRiders : Nat := 100
abbrev mFwd_heaviest : Nat := 101
abbrev mFwd_skillWanted : Nat := 102
abbrev mFwd_two : Nat := 103
abbrev mFwd_neitherHasMoreAlone : Nat := 104
abbrev mFwd_wind : Nat := 105
abbrev mFwd_power : Nat := 106
abbrev mFwd_swap : Nat := 107
abbrev mHill_changePlaces : Nat := 108
abbrev mFwd_cut : Nat := 109
abbrev mHill_leaveOut : Nat := 110
abbrev mFwd_brake : Nat := 111
abbrev mFwd_lots : Nat := 112
abbrev mFwd_drawChanges : Nat := 113
abbrev mFwd_row : Nat := 114
abbrev mFwd_clear : Nat := 115
abbrev mFwd_judge : Nat := 116
abbrev mFwd_firstNotAsJudged : Nat := 117
abbrev mFwd_whoRode : Nat := 118
abbrev mFwd_tellingValues : Nat := 119
abbrev mTrip_startsLike : Nat := 120
abbrev mFwd_whatKind : Nat := 121
abbrev mFwd_startTold : Nat := 122
abbrev mRef_feed : Nat := 123
abbrev mRef_bound : Nat := 124
abbrev mRef_no : Nat := 125
abbrev mRef_hill : Nat := 126
abbrev mRef_statement : Nat := 127
abbrev mRef_next : Nat := 128
abbrev mRef_readsAll : Nat := 129
abbrev mRef_readsDigits : Nat := 130
abbrev mRef_isIn : Nat := 131
abbrev mRef_passesAll : Nat := 132
abbrev mRef_passes : Nat := 133
abbrev mRef_passOne : Nat := 134
abbrev mRef_comes : Nat := 135
abbrev mRef_comesStretch : Nat := 136
abbrev mRef_addsStretch : Nat := 137
abbrev mRef_comesRider : Nat := 138
abbrev mRef_addsRider : Nat := 139
abbrev mRef_comesChange : Nat := 140
abbrev mRef_isStretch : Nat := 141
abbrev mRef_isRider : Nat := 142
abbrev mRef_beginsNow : Nat := 143
abbrev mRef_startsRide : Nat := 144
abbrev mRef_leavesRun : Nat := 145
abbrev mRef_comesSteps : Nat := 146
abbrev mRef_goesOnSteps : Nat := 147
abbrev mRef_runsStep : Nat := 148
abbrev mRef_getsUp : Nat := 149
abbrev mRef_isStraight : Nat := 150
abbrev mRef_holdsOf : Nat := 151
abbrev mRef_speedBehind : Nat := 152
abbrev mRef_becomes : Nat := 153
abbrev mRef_held : Nat := 154
abbrev mRef_has : Nat := 155
abbrev mRef_back : Nat := 156
abbrev mRef_image : Nat := 157
abbrev mRef_restore : Nat := 158
abbrev mRef_stretchOf : Nat := 159
abbrev mRef_riderOf : Nat := 160
abbrev mRef_bicycle : Nat := 161
abbrev mRef_bicycleOf : Nat := 162
abbrev mRef_goesOn : Nat := 163
abbrev mRef_holds : Nat := 164
abbrev mRef_stretch : Nat := 165
abbrev mRef_rider : Nat := 166
abbrev mRef_waits : Nat := 167
abbrev mRef_keepsBack : Nat := 168
abbrev mRef_starts : Nat := 169
abbrev mRef_begins : Nat := 170
abbrev mRef_steps : Nat := 171
abbrev mRef_behind : Nat := 172
abbrev mRef_changes : Nat := 173
abbrev mRef_changesBack : Nat := 174
abbrev mRef_ride : Nat := 175
abbrev mRef_rides : Nat := 176
abbrev mRef_ridersOf : Nat := 177
abbrev mRef_bits : Nat := 178
abbrev mRef_fastest : Nat := 179
abbrev mRef_above : Nat := 180
abbrev mRef_smithy : Nat := 181
abbrev mRef_who : Nat := 182
abbrev mRef_bestStart : Nat := 183
abbrev mRef_farWith : Nat := 184
abbrev mRef_bestChanges : Nat := 185
abbrev mRef_waitsAt : Nat := 186
abbrev mRef_digitOf : Nat := 187
abbrev mRef_fewest : Nat := 188
abbrev mRef_fewestChanges : Nat := 189
abbrev mRef_waitingAt : Nat := 190
abbrev mRef_farKeeping : Nat := 191
abbrev mRef_farAlone : Nat := 192
abbrev mRef_heaviest : Nat := 193
abbrev mRef_arrives : Nat := 194
abbrev mRef_skillWanted : Nat := 195
abbrev mRef_straights : Nat := 196
abbrev mRef_straightsFrom : Nat := 197
abbrev mRef_whoRode : Nat := 198
abbrev mRef_bitsFor : Nat := 199
abbrev mRef_isRowSo : Nat := 200
abbrev mRef_whatKind : Nat := 201
abbrev mRef_startTold : Nat := 202
abbrev mRef_two : Nat := 203
abbrev mRef_findOver : Nat := 204
abbrev mRef_wind : Nat := 205
abbrev mRef_lowest : Nat := 206
abbrev mRef_partOf : Nat := 207
abbrev mRef_divisor : Nat := 208
abbrev mRef_shares : Nat := 209
abbrev mRef_shareOf : Nat := 210
abbrev mRef_lightest : Nat := 211
abbrev mRef_bends : Nat := 212
abbrev mRef_swap : Nat := 213
abbrev mRef_farSwapped : Nat := 214
abbrev mRef_cut : Nat := 215
abbrev mRef_arrivesWithout : Nat := 216
abbrev mRef_mean : Nat := 217
abbrev mRef_brake : Nat := 218
abbrev mRef_gain : Nat := 219
abbrev mRef_lower : Nat := 220
abbrev mRef_waiting : Nat := 221
abbrev mRef_row : Nat := 222
abbrev mRef_judge : Nat := 223
abbrev mRef_clear : Nat := 224
abbrev mRef_lots : Nat := 225
abbrev mRef_draw : Nat := 226
abbrev mRef_count : Nat := 227
abbrev mLaw_law : Nat := 228
/-- fields: class, pool entry, class of the field, its slot; the word's place -/
def zFldL : List (Nat × Nat × Nat × Nat × Nat) := [(0, 9, 0, 0, 97), (5, 99, 0, 0, 98), (0, 15, 0, 1, 99), (5, 106, 0, 1, 100), (0, 18, 0, 2, 101), (3, 22, 0, 2, 102), (5, 109, 0, 2, 103), (1, 82, 0, 2, 104), (0, 21, 0, 3, 105), (5, 115, 0, 3, 106), (0, 24, 0, 4, 107), (5, 118, 0, 4, 108), (0, 27, 0, 5, 109), (1, 63, 0, 5, 110), (5, 137, 0, 5, 111), (0, 31, 0, 6, 112), (1, 70, 0, 6, 113), (5, 141, 0, 6, 114), (0, 34, 0, 7, 115), (3, 35, 0, 7, 116), (1, 52, 0, 7, 117), (5, 144, 0, 7, 118), (0, 37, 0, 8, 119), (4, 48, 0, 8, 120), (3, 38, 0, 8, 121), (5, 193, 0, 8, 122), (0, 40, 0, 9, 123), (3, 41, 0, 9, 124), (4, 70, 0, 9, 125), (5, 196, 0, 9, 126), (0, 43, 0, 10, 127), (3, 44, 0, 10, 128), (4, 63, 0, 10, 129), (0, 46, 0, 11, 130), (3, 47, 0, 11, 131), (4, 53, 0, 11, 132), (5, 178, 0, 11, 133), (0, 49, 0, 12, 134), (3, 50, 0, 12, 135), (5, 147, 0, 12, 136), (4, 9, 4, 0, 178), (5, 208, 4, 0, 179), (4, 15, 4, 1, 180), (5, 230, 4, 1, 181), (4, 18, 4, 2, 182), (4, 21, 4, 3, 183), (5, 211, 4, 3, 184), (4, 25, 4, 4, 185), (5, 199, 4, 4, 186), (4, 28, 4, 5, 187), (5, 202, 4, 5, 188), (4, 31, 4, 6, 189), (5, 248, 4, 6, 190), (4, 34, 4, 7, 191), (5, 239, 4, 7, 192), (3, 11, 3, 0, 216), (3, 15, 3, 1, 217), (3, 19, 3, 2, 218), (5, 161, 3, 2, 219), (2, 19, 2, 0, 242), (2, 7, 2, 1, 243), (1, 20, 2, 1, 244), (4, 102, 2, 1, 245), (5, 158, 2, 1, 246), (1, 14, 1, 0, 252), (5, 67, 1, 0, 253), (5, 10, 5, 0, 259), (5, 16, 5, 1, 260), (5, 19, 5, 2, 261), (5, 22, 5, 3, 262), (5, 29, 5, 4, 263), (5, 36, 5, 5, 264), (5, 43, 5, 6, 265), (5, 52, 5, 7, 266), (5, 56, 5, 8, 267), (5, 60, 5, 9, 268), (6, 7, 6, 0, 801), (6, 13, 6, 1, 802), (6, 16, 6, 2, 803), (6, 19, 6, 3, 804), (6, 22, 6, 4, 805), (6, 25, 6, 5, 806), (6, 77, 6, 6, 807), (6, 80, 6, 7, 808), (6, 62, 6, 8, 809), (6, 179, 6, 9, 810), (6, 65, 6, 10, 811), (6, 68, 6, 11, 812), (6, 71, 6, 12, 813), (6, 129, 6, 13, 814), (6, 28, 6, 14, 815), (6, 31, 6, 15, 816), (6, 34, 6, 16, 817), (6, 37, 6, 17, 818), (6, 87, 6, 18, 819), (6, 94, 6, 19, 820), (6, 109, 6, 20, 821), (6, 40, 6, 21, 822), (6, 182, 6, 22, 823), (6, 165, 6, 23, 824), (6, 169, 6, 24, 825), (6, 162, 6, 25, 826), (6, 43, 6, 26, 827), (6, 46, 6, 27, 828), (6, 191, 6, 28, 829), (6, 194, 6, 29, 830), (6, 197, 6, 30, 831), (6, 200, 6, 31, 832), (6, 203, 6, 32, 833), (6, 206, 6, 33, 834), (6, 209, 6, 34, 835), (6, 212, 6, 35, 836), (6, 49, 6, 36, 837), (6, 53, 6, 37, 838), (6, 228, 6, 38, 839), (6, 56, 6, 39, 840), (6, 291, 6, 40, 841), (6, 59, 6, 41, 842), (6, 328, 6, 42, 843)]
/-- methods: class, pool entry, the method, kind (0 instance, 1 static, 2 static of the nest); the word's place -/
def zMthL : List (Nat × Nat × Nat × Nat × Nat) := [(0, 52, 0, 0, 93), (4, 37, 1, 0, 171), (4, 40, 2, 2, 0), (2, 13, 3, 1, 239), (9, 13, 4, 0, 290), (5, 63, 5, 0, 294), (5, 102, 6, 1, 298), (5, 171, 7, 1, 301), (5, 70, 8, 0, 304), (5, 74, 9, 0, 308), (2, 23, 8, 0, 312), (2, 27, 7, 2, 2), (9, 18, 10, 0, 314), (5, 77, 11, 0, 318), (1, 24, 12, 0, 322), (1, 28, 13, 0, 326), (1, 31, 14, 0, 330), (2, 33, 6, 2, 3), (1, 34, 15, 1, 335), (5, 81, 16, 0, 338), (0, 55, 17, 2, 4), (5, 85, 18, 0, 345), (1, 38, 19, 0, 349), (1, 42, 20, 1, 353), (1, 66, 21, 0, 356), (0, 59, 7, 2, 5), (1, 46, 22, 1, 361), (1, 73, 23, 0, 364), (1, 49, 24, 1, 368), (1, 76, 25, 0, 371), (1, 79, 26, 0, 375), (1, 86, 7, 2, 6), (1, 57, 0, 0, 380), (1, 60, 27, 1, 381), (1, 90, 28, 0, 384), (1, 93, 29, 0, 388), (0, 71, 30, 0, 392), (0, 75, 31, 0, 396), (0, 67, 25, 0, 400), (0, 63, 6, 2, 7), (0, 79, 32, 0, 402), (0, 91, 26, 0, 406), (0, 83, 33, 0, 407), (0, 87, 34, 0, 411), (0, 94, 35, 1, 415), (5, 89, 36, 0, 418), (5, 92, 37, 0, 422), (9, 23, 38, 0, 426), (5, 95, 25, 0, 430), (9, 28, 39, 0, 431), (5, 112, 26, 0, 435), (9, 32, 40, 0, 436), (5, 121, 41, 0, 440), (9, 36, 42, 0, 444), (5, 124, 34, 0, 448), (5, 128, 3, 1, 449), (9, 41, 43, 0, 450), (5, 134, 33, 0, 454), (9, 204, 44, 0, 455), (5, 150, 45, 0, 459), (5, 153, 46, 1, 463), (9, 45, 47, 0, 469), (5, 162, 21, 0, 473), (9, 49, 48, 0, 474), (5, 165, 23, 0, 478), (9, 53, 49, 0, 479), (5, 168, 50, 0, 483), (3, 27, 6, 2, 8), (3, 31, 7, 2, 9), (9, 57, 51, 0, 489), (9, 61, 52, 0, 493), (5, 175, 0, 0, 497), (9, 65, 53, 0, 498), (5, 181, 28, 0, 502), (5, 184, 29, 0, 503), (9, 69, 54, 0, 504), (5, 187, 55, 0, 508), (9, 196, 56, 0, 512), (9, 200, 57, 0, 516), (9, 73, 58, 0, 520), (9, 77, 59, 0, 524), (5, 190, 60, 0, 528), (5, 260, 61, 0, 532), (4, 44, 62, 0, 536), (4, 56, 0, 0, 540), (4, 59, 26, 0, 541), (4, 66, 63, 0, 542), (4, 88, 7, 2, 10), (4, 73, 64, 0, 547), (4, 92, 31, 0, 551), (4, 96, 32, 0, 552), (4, 99, 65, 0, 553), (4, 77, 66, 2, 11), (4, 81, 30, 0, 560), (4, 85, 67, 0, 561), (9, 81, 68, 0, 565), (5, 205, 69, 0, 569), (4, 107, 6, 2, 12), (9, 85, 70, 0, 574), (9, 89, 71, 0, 578), (5, 214, 72, 0, 582), (9, 93, 73, 0, 586), (9, 143, 74, 0, 590), (5, 217, 75, 0, 594), (5, 220, 76, 0, 598), (5, 318, 35, 1, 602), (9, 163, 77, 0, 603), (5, 225, 78, 1, 608), (9, 172, 79, 0, 611), (9, 176, 80, 0, 616), (5, 233, 81, 0, 620), (5, 236, 82, 0, 624), (9, 118, 83, 0, 628), (5, 242, 84, 0, 632), (0, 102, 85, 0, 636), (0, 99, 65, 0, 640), (0, 106, 3, 1, 641), (5, 245, 86, 0, 642), (0, 109, 84, 0, 646), (9, 147, 87, 0, 647), (5, 251, 88, 0, 651), (5, 254, 89, 0, 655), (9, 151, 90, 0, 659), (9, 97, 91, 0, 663), (5, 257, 92, 0, 667), (5, 275, 93, 0, 671), (9, 101, 94, 0, 675), (5, 263, 95, 1, 679), (5, 266, 96, 1, 682), (9, 106, 97, 0, 685), (5, 269, 98, 0, 689), (5, 312, 99, 0, 693), (5, 315, 66, 1, 697), (5, 272, 100, 0, 698), (5, 279, 62, 0, 702), (9, 110, 101, 0, 703), (9, 114, 102, 0, 707), (9, 134, 103, 0, 711), (5, 283, 104, 0, 715), (9, 138, 105, 0, 719), (5, 287, 106, 1, 723), (9, 155, 107, 0, 726), (5, 291, 108, 0, 730), (9, 159, 109, 0, 734), (5, 295, 110, 0, 738), (9, 168, 111, 0, 742), (9, 192, 112, 0, 746), (5, 298, 113, 0, 750), (9, 180, 114, 0, 757), (9, 188, 115, 0, 761), (9, 184, 116, 0, 765), (5, 301, 117, 0, 769), (5, 324, 14, 0, 773), (9, 122, 118, 0, 774), (5, 304, 119, 0, 778), (5, 308, 120, 0, 782), (4, 111, 14, 0, 786), (9, 126, 121, 0, 787), (9, 130, 122, 0, 791), (9, 17, 123, 0, 931), (6, 83, 124, 1, 935), (6, 90, 125, 0, 938), (9, 22, 126, 0, 942), (6, 151, 127, 0, 946), (6, 97, 128, 0, 950), (6, 112, 129, 0, 954), (6, 105, 130, 0, 958), (6, 101, 131, 1, 962), (6, 155, 132, 0, 965), (6, 172, 133, 0, 969), (6, 176, 134, 0, 973), (6, 159, 135, 0, 977), (6, 136, 136, 0, 981), (6, 115, 137, 0, 985), (6, 139, 138, 0, 989), (6, 119, 139, 0, 993), (6, 142, 140, 0, 997), (6, 122, 141, 0, 1001), (6, 126, 142, 0, 1005), (6, 145, 143, 0, 1009), (6, 234, 144, 0, 1013), (6, 243, 145, 0, 1017), (6, 148, 146, 0, 1021), (6, 132, 147, 0, 1025), (6, 237, 148, 0, 1029), (6, 218, 149, 0, 1033), (6, 215, 150, 1, 1037), (6, 221, 151, 0, 1040), (6, 225, 152, 0, 1044), (6, 185, 153, 0, 1048), (6, 188, 154, 1, 1052), (6, 231, 155, 1, 1055), (9, 72, 156, 0, 1058), (9, 199, 157, 0, 1062), (9, 203, 158, 0, 1066), (9, 27, 159, 0, 1070), (9, 31, 160, 0, 1074), (9, 35, 161, 0, 1078), (6, 246, 162, 0, 1082), (9, 40, 163, 0, 1086), (9, 44, 164, 0, 1090), (9, 48, 165, 0, 1094), (9, 52, 166, 0, 1098), (9, 56, 167, 0, 1102), (6, 249, 168, 0, 1106), (9, 60, 169, 0, 1110), (9, 64, 170, 0, 1114), (9, 68, 171, 0, 1118), (9, 76, 172, 0, 1122), (6, 252, 173, 0, 1126), (6, 255, 174, 0, 1130), (9, 80, 175, 0, 1134), (6, 240, 176, 0, 1138), (6, 258, 177, 0, 1142), (6, 261, 178, 1, 1146), (9, 84, 179, 0, 1149), (9, 88, 180, 0, 1153), (9, 92, 181, 0, 1157), (9, 96, 182, 0, 1161), (9, 100, 183, 0, 1165), (6, 264, 184, 0, 1169), (9, 105, 185, 0, 1173), (6, 267, 186, 0, 1177), (6, 270, 187, 1, 1181), (9, 109, 188, 0, 1184), (6, 279, 189, 0, 1188), (6, 273, 190, 0, 1192), (6, 276, 191, 0, 1196), (6, 282, 192, 0, 1200), (9, 113, 193, 0, 1204), (6, 285, 194, 0, 1208), (9, 117, 195, 0, 1212), (9, 121, 196, 0, 1216), (6, 288, 197, 0, 1220), (9, 125, 198, 0, 1224), (6, 297, 199, 0, 1228), (6, 294, 200, 0, 1232), (9, 129, 201, 0, 1236), (9, 133, 202, 0, 1240), (9, 137, 203, 0, 1244), (6, 301, 204, 0, 1248), (9, 142, 205, 0, 1252), (6, 308, 206, 0, 1256), (6, 312, 207, 1, 1261), (6, 304, 208, 1, 1264), (9, 146, 209, 0, 1267), (6, 316, 210, 0, 1271), (9, 150, 211, 0, 1275), (9, 154, 212, 0, 1279), (9, 158, 213, 0, 1283), (6, 319, 214, 0, 1287), (9, 162, 215, 0, 1291), (6, 322, 216, 0, 1295), (9, 167, 217, 0, 1299), (9, 171, 218, 0, 1303), (9, 175, 219, 0, 1307), (6, 325, 220, 0, 1311), (9, 179, 221, 0, 1316), (9, 183, 222, 0, 1320), (9, 187, 223, 0, 1324), (9, 191, 224, 0, 1328), (9, 195, 225, 0, 1332), (6, 334, 226, 0, 1336), (9, 207, 227, 0, 1343)]
def zConL : List (Nat × Nat × Int32 × Nat) := [(7, 265, 1431655765, 466), (7, 266, 858993459, 467), (7, 267, 252645135, 468), (5, 229, 1000000000, 615), (5, 321, 1103515245, 754), (5, 322, 2147483647, 755), (5, 323, 65536, 756), (6, 74, 1000000000, 1315), (6, 331, 1103515245, 1340), (6, 332, 2147483647, 1341), (6, 333, 65536, 1342)]
def zConLL : List (Nat × Nat × Int64 × Nat) := [(5, 223, 4000000000000000000, 607), (6, 75, 4000000000000000000, 1260)]
/-- places of a method's words: code, instance or static, selects, initialized -/
def zMpl : List (Nat × Nat × Nat × Nat) := [(96, 94, 95, 71), (174, 173, 0, 72), (177, 176, 0, 70), (241, 240, 0, 76), (293, 291, 292, 70), (297, 296, 1, 70), (300, 299, 0, 70), (303, 302, 0, 70), (307, 305, 306, 75), (311, 309, 310, 75), (317, 315, 316, 70), (321, 319, 320, 74), (325, 324, 2, 74), (329, 328, 3, 74), (333, 331, 332, 75), (337, 336, 0, 74), (341, 339, 340, 71), (344, 343, 0, 70), (348, 346, 347, 74), (352, 351, 4, 74), (355, 354, 0, 74), (359, 357, 358, 71), (363, 362, 0, 74), (367, 365, 366, 71), (370, 369, 0, 74), (374, 372, 373, 71), (378, 376, 377, 71), (383, 382, 0, 74), (387, 385, 386, 71), (391, 389, 390, 71), (395, 393, 394, 71), (399, 397, 398, 71), (405, 403, 404, 71), (410, 408, 409, 71), (414, 412, 413, 71), (417, 416, 0, 76), (421, 419, 420, 73), (425, 423, 424, 75), (429, 427, 428, 70), (434, 432, 433, 70), (439, 437, 438, 70), (443, 441, 442, 71), (447, 445, 446, 70), (453, 451, 452, 70), (458, 456, 457, 70), (462, 460, 461, 71), (465, 464, 0, 78), (472, 470, 471, 70), (477, 475, 476, 70), (482, 480, 481, 70), (486, 484, 485, 73), (492, 490, 491, 70), (496, 494, 495, 70), (501, 499, 500, 70), (507, 505, 506, 70), (511, 509, 510, 73), (515, 513, 514, 70), (519, 517, 518, 70), (523, 521, 522, 70), (527, 525, 526, 70), (531, 530, 5, 70), (535, 533, 534, 72), (539, 537, 538, 72), (545, 544, 6, 72), (550, 549, 7, 72), (556, 554, 555, 71), (559, 558, 0, 70), (564, 563, 8, 72), (568, 566, 567, 70), (572, 570, 571, 72), (577, 575, 576, 70), (581, 579, 580, 70), (585, 583, 584, 72), (589, 587, 588, 70), (593, 591, 592, 70), (597, 596, 9, 70), (601, 599, 600, 72), (606, 604, 605, 70), (610, 609, 0, 70), (614, 612, 613, 70), (619, 617, 618, 70), (623, 621, 622, 71), (627, 626, 10, 70), (631, 629, 630, 70), (635, 633, 634, 71), (639, 638, 11, 71), (645, 643, 644, 71), (650, 648, 649, 70), (654, 652, 653, 71), (658, 656, 657, 71), (662, 660, 661, 70), (666, 664, 665, 70), (670, 669, 12, 70), (674, 672, 673, 72), (678, 676, 677, 70), (681, 680, 0, 70), (684, 683, 0, 70), (688, 686, 687, 70), (692, 691, 13, 70), (696, 695, 14, 70), (701, 700, 15, 70), (706, 704, 705, 70), (710, 708, 709, 70), (714, 712, 713, 70), (718, 717, 16, 70), (722, 720, 721, 70), (725, 724, 0, 70), (729, 727, 728, 70), (733, 731, 732, 71), (737, 735, 736, 70), (741, 739, 740, 71), (745, 743, 744, 70), (749, 747, 748, 70), (753, 752, 17, 70), (760, 758, 759, 70), (764, 762, 763, 70), (768, 766, 767, 70), (772, 771, 18, 70), (777, 775, 776, 70), (781, 780, 19, 70), (785, 783, 784, 72), (790, 788, 789, 70), (794, 792, 793, 70), (934, 932, 933, 77), (937, 936, 0, 77), (941, 940, 20, 77), (945, 943, 944, 77), (949, 948, 21, 77), (953, 952, 22, 77), (957, 956, 23, 77), (961, 960, 24, 77), (964, 963, 0, 77), (968, 967, 25, 77), (972, 971, 26, 77), (976, 975, 27, 77), (980, 979, 28, 77), (984, 983, 29, 77), (988, 987, 30, 77), (992, 991, 31, 77), (996, 995, 32, 77), (1000, 999, 33, 77), (1004, 1003, 34, 77), (1008, 1007, 35, 77), (1012, 1011, 36, 77), (1016, 1015, 37, 77), (1020, 1019, 38, 77), (1024, 1023, 39, 77), (1028, 1027, 40, 77), (1032, 1031, 41, 77), (1036, 1035, 42, 77), (1039, 1038, 0, 77), (1043, 1042, 43, 77), (1047, 1046, 44, 77), (1051, 1050, 45, 77), (1054, 1053, 0, 77), (1057, 1056, 0, 77), (1061, 1059, 1060, 77), (1065, 1063, 1064, 77), (1069, 1067, 1068, 77), (1073, 1071, 1072, 77), (1077, 1075, 1076, 77), (1081, 1079, 1080, 77), (1085, 1084, 46, 77), (1089, 1087, 1088, 77), (1093, 1091, 1092, 77), (1097, 1095, 1096, 77), (1101, 1099, 1100, 77), (1105, 1103, 1104, 77), (1109, 1108, 47, 77), (1113, 1111, 1112, 77), (1117, 1115, 1116, 77), (1121, 1119, 1120, 77), (1125, 1123, 1124, 77), (1129, 1128, 48, 77), (1133, 1132, 49, 77), (1137, 1135, 1136, 77), (1141, 1140, 50, 77), (1145, 1144, 51, 77), (1148, 1147, 0, 77), (1152, 1150, 1151, 77), (1156, 1154, 1155, 77), (1160, 1158, 1159, 77), (1164, 1162, 1163, 77), (1168, 1166, 1167, 77), (1172, 1171, 52, 77), (1176, 1174, 1175, 77), (1180, 1179, 53, 77), (1183, 1182, 0, 77), (1187, 1185, 1186, 77), (1191, 1190, 54, 77), (1195, 1194, 55, 77), (1199, 1198, 56, 77), (1203, 1202, 57, 77), (1207, 1205, 1206, 77), (1211, 1210, 58, 77), (1215, 1213, 1214, 77), (1219, 1217, 1218, 77), (1223, 1222, 59, 77), (1227, 1225, 1226, 77), (1231, 1230, 60, 77), (1235, 1234, 61, 77), (1239, 1237, 1238, 77), (1243, 1241, 1242, 77), (1247, 1245, 1246, 77), (1251, 1250, 62, 77), (1255, 1253, 1254, 77), (1259, 1258, 63, 77), (1263, 1262, 0, 77), (1266, 1265, 0, 77), (1270, 1268, 1269, 77), (1274, 1273, 64, 77), (1278, 1276, 1277, 77), (1282, 1280, 1281, 77), (1286, 1284, 1285, 77), (1290, 1289, 65, 77), (1294, 1292, 1293, 77), (1298, 1297, 66, 77), (1302, 1300, 1301, 77), (1306, 1304, 1305, 77), (1310, 1308, 1309, 77), (1314, 1313, 67, 77), (1319, 1317, 1318, 77), (1323, 1321, 1322, 77), (1327, 1325, 1326, 77), (1331, 1329, 1330, 77), (1335, 1333, 1334, 77), (1339, 1338, 68, 77), (1346, 1344, 1345, 77), (0, 0, 0, 69)]
def zNw : List Cond := [(Jvm.Cond.methodLinkNest "FreeWheelDown$Trip" (40 : Nat) ({ cls := "FreeWheelDown", name := "fillRow", desc := "([II)V" } : Jvm.MethodName) "FreeWheelDown"),
  (Jvm.Cond.methodLinkNest "FreeWheelDown" (42 : Nat) ({ cls := "FreeWheelDown$Letters", name := "<init>", desc := "()V" } : Jvm.MethodName) "FreeWheelDown"),
  (Jvm.Cond.methodLinkNest "FreeWheelDown$Numbers" (27 : Nat) ({ cls := "FreeWheelDown", name := "put", desc := "([III)V" } : Jvm.MethodName) "FreeWheelDown"),
  (Jvm.Cond.methodLinkNest "FreeWheelDown$Numbers" (33 : Nat) ({ cls := "FreeWheelDown", name := "get", desc := "([II)I" } : Jvm.MethodName) "FreeWheelDown"),
  (Jvm.Cond.methodLinkNest "FreeWheelDown$Hill" (55 : Nat) ({ cls := "FreeWheelDown", name := "copyRow", desc := "([I[I)V" } : Jvm.MethodName) "FreeWheelDown"),
  (Jvm.Cond.methodLinkNest "FreeWheelDown$Hill" (59 : Nat) ({ cls := "FreeWheelDown", name := "put", desc := "([III)V" } : Jvm.MethodName) "FreeWheelDown"),
  (Jvm.Cond.methodLinkNest "FreeWheelDown$Letters" (86 : Nat) ({ cls := "FreeWheelDown", name := "put", desc := "([III)V" } : Jvm.MethodName) "FreeWheelDown"),
  (Jvm.Cond.methodLinkNest "FreeWheelDown$Hill" (63 : Nat) ({ cls := "FreeWheelDown", name := "get", desc := "([II)I" } : Jvm.MethodName) "FreeWheelDown"),
  (Jvm.Cond.methodLinkNest "FreeWheelDown$Past" (27 : Nat) ({ cls := "FreeWheelDown", name := "get", desc := "([II)I" } : Jvm.MethodName) "FreeWheelDown"),
  (Jvm.Cond.methodLinkNest "FreeWheelDown$Past" (31 : Nat) ({ cls := "FreeWheelDown", name := "put", desc := "([III)V" } : Jvm.MethodName) "FreeWheelDown"),
  (Jvm.Cond.methodLinkNest "FreeWheelDown$Trip" (88 : Nat) ({ cls := "FreeWheelDown", name := "put", desc := "([III)V" } : Jvm.MethodName) "FreeWheelDown"),
  (Jvm.Cond.methodLinkNest "FreeWheelDown$Trip" (77 : Nat) ({ cls := "FreeWheelDown", name := "hasBit", desc := "(II)Z" } : Jvm.MethodName) "FreeWheelDown"),
  (Jvm.Cond.methodLinkNest "FreeWheelDown$Trip" (107 : Nat) ({ cls := "FreeWheelDown", name := "get", desc := "([II)I" } : Jvm.MethodName) "FreeWheelDown")]
def zNwPl : List Nat := [175, 229, 313, 334, 342, 360, 379, 401, 487, 488, 546, 557, 573]
