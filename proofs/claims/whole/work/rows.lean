section
-- ===== PART A: goes FIRST, ahead of the names: the tables' words, and 'selects' of the private methods out of them =====
/-- a private method of a class that the tables say can be made, by its rows of tables_1 -/
def lw_okq (q : MethodName × Nat) : Prop := (q.1.cls ≠ "java/lang/invoke/MethodHandle" ∧ q.1.cls ≠ "java/lang/invoke/VarHandle") ∧ Cond.instantiable q.1.cls q.2 ∈ tables_1 ∧ Cond.privateMethod q.1 ∈ tables_1 ∧ Cond.instanceMethod q.1 ∈ tables_1
theorem lw_p0 : lw_okq (⟨"ReefPilot", "countOn", "(Z)V"⟩, 6) := ⟨⟨by decide +kernel, by decide +kernel⟩, List.mem_of_getElem? (i := 16) (by decide +kernel), List.mem_of_getElem? (i := 118) (by decide +kernel), List.mem_of_getElem? (i := 119) (by decide +kernel)⟩
theorem lw_p1 : lw_okq (⟨"ReefPilot", "countOnChart", "()V"⟩, 6) := ⟨⟨by decide +kernel, by decide +kernel⟩, List.mem_of_getElem? (i := 16) (by decide +kernel), List.mem_of_getElem? (i := 122) (by decide +kernel), List.mem_of_getElem? (i := 123) (by decide +kernel)⟩
theorem lw_p2 : lw_okq (⟨"ReefPilot", "safeDepth", "(I)I"⟩, 6) := ⟨⟨by decide +kernel, by decide +kernel⟩, List.mem_of_getElem? (i := 16) (by decide +kernel), List.mem_of_getElem? (i := 126) (by decide +kernel), List.mem_of_getElem? (i := 127) (by decide +kernel)⟩
theorem lw_p3 : lw_okq (⟨"ReefPilot", "countOnDepths", "(LReefPilot$Coast;)V"⟩, 6) := ⟨⟨by decide +kernel, by decide +kernel⟩, List.mem_of_getElem? (i := 16) (by decide +kernel), List.mem_of_getElem? (i := 145) (by decide +kernel), List.mem_of_getElem? (i := 146) (by decide +kernel)⟩
theorem lw_p4 : lw_okq (⟨"ReefPilot", "greatestDraught", "()I"⟩, 6) := ⟨⟨by decide +kernel, by decide +kernel⟩, List.mem_of_getElem? (i := 16) (by decide +kernel), List.mem_of_getElem? (i := 154) (by decide +kernel), List.mem_of_getElem? (i := 155) (by decide +kernel)⟩
theorem lw_p5 : lw_okq (⟨"ReefPilot", "startOfShortestWay", "(I)I"⟩, 6) := ⟨⟨by decide +kernel, by decide +kernel⟩, List.mem_of_getElem? (i := 16) (by decide +kernel), List.mem_of_getElem? (i := 158) (by decide +kernel), List.mem_of_getElem? (i := 159) (by decide +kernel)⟩
theorem lw_p6 : lw_okq (⟨"ReefPilot", "openWater", "(I)V"⟩, 6) := ⟨⟨by decide +kernel, by decide +kernel⟩, List.mem_of_getElem? (i := 16) (by decide +kernel), List.mem_of_getElem? (i := 162) (by decide +kernel), List.mem_of_getElem? (i := 163) (by decide +kernel)⟩
theorem lw_p7 : lw_okq (⟨"ReefPilot$Spread", "reach", "(II)V"⟩, 4) := ⟨⟨by decide +kernel, by decide +kernel⟩, List.mem_of_getElem? (i := 76) (by decide +kernel), List.mem_of_getElem? (i := 179) (by decide +kernel), List.mem_of_getElem? (i := 180) (by decide +kernel)⟩
theorem lw_p8 : lw_okq (⟨"ReefPilot$Spread", "goOnFrom", "(I)V"⟩, 4) := ⟨⟨by decide +kernel, by decide +kernel⟩, List.mem_of_getElem? (i := 76) (by decide +kernel), List.mem_of_getElem? (i := 183) (by decide +kernel), List.mem_of_getElem? (i := 184) (by decide +kernel)⟩
theorem lw_p9 : lw_okq (⟨"ReefPilot", "countAnswer", "(I)I"⟩, 6) := ⟨⟨by decide +kernel, by decide +kernel⟩, List.mem_of_getElem? (i := 16) (by decide +kernel), List.mem_of_getElem? (i := 209) (by decide +kernel), List.mem_of_getElem? (i := 210) (by decide +kernel)⟩
theorem lw_p10 : lw_okq (⟨"ReefPilot", "reefsOn", "(LReefPilot$Coast;)I"⟩, 6) := ⟨⟨by decide +kernel, by decide +kernel⟩, List.mem_of_getElem? (i := 16) (by decide +kernel), List.mem_of_getElem? (i := 221) (by decide +kernel), List.mem_of_getElem? (i := 222) (by decide +kernel)⟩
theorem lw_p11 : lw_okq (⟨"ReefPilot", "openHeads", "(LReefPilot$Coast;)V"⟩, 6) := ⟨⟨by decide +kernel, by decide +kernel⟩, List.mem_of_getElem? (i := 16) (by decide +kernel), List.mem_of_getElem? (i := 225) (by decide +kernel), List.mem_of_getElem? (i := 226) (by decide +kernel)⟩
theorem lw_p12 : lw_okq (⟨"ReefPilot", "headsOfLargestReef", "()I"⟩, 6) := ⟨⟨by decide +kernel, by decide +kernel⟩, List.mem_of_getElem? (i := 16) (by decide +kernel), List.mem_of_getElem? (i := 234) (by decide +kernel), List.mem_of_getElem? (i := 235) (by decide +kernel)⟩
theorem lw_p13 : lw_okq (⟨"ReefPilot", "soundingsTaken", "()I"⟩, 6) := ⟨⟨by decide +kernel, by decide +kernel⟩, List.mem_of_getElem? (i := 16) (by decide +kernel), List.mem_of_getElem? (i := 242) (by decide +kernel), List.mem_of_getElem? (i := 243) (by decide +kernel)⟩
theorem lw_p14 : lw_okq (⟨"ReefPilot", "soundingsTooDeep", "()I"⟩, 6) := ⟨⟨by decide +kernel, by decide +kernel⟩, List.mem_of_getElem? (i := 16) (by decide +kernel), List.mem_of_getElem? (i := 246) (by decide +kernel), List.mem_of_getElem? (i := 247) (by decide +kernel)⟩
theorem lw_p15 : lw_okq (⟨"ReefPilot", "cellsWithoutDepth", "()I"⟩, 6) := ⟨⟨by decide +kernel, by decide +kernel⟩, List.mem_of_getElem? (i := 16) (by decide +kernel), List.mem_of_getElem? (i := 250) (by decide +kernel), List.mem_of_getElem? (i := 251) (by decide +kernel)⟩
def lw_privs_1 : List (MethodName × Nat) := [(⟨"ReefPilot", "countOn", "(Z)V"⟩, 6), (⟨"ReefPilot", "countOnChart", "()V"⟩, 6), (⟨"ReefPilot", "safeDepth", "(I)I"⟩, 6), (⟨"ReefPilot", "countOnDepths", "(LReefPilot$Coast;)V"⟩, 6), (⟨"ReefPilot", "greatestDraught", "()I"⟩, 6), (⟨"ReefPilot", "startOfShortestWay", "(I)I"⟩, 6), (⟨"ReefPilot", "openWater", "(I)V"⟩, 6), (⟨"ReefPilot$Spread", "reach", "(II)V"⟩, 4), (⟨"ReefPilot$Spread", "goOnFrom", "(I)V"⟩, 4), (⟨"ReefPilot", "countAnswer", "(I)I"⟩, 6), (⟨"ReefPilot", "reefsOn", "(LReefPilot$Coast;)I"⟩, 6), (⟨"ReefPilot", "openHeads", "(LReefPilot$Coast;)V"⟩, 6), (⟨"ReefPilot", "headsOfLargestReef", "()I"⟩, 6), (⟨"ReefPilot", "soundingsTaken", "()I"⟩, 6), (⟨"ReefPilot", "soundingsTooDeep", "()I"⟩, 6), (⟨"ReefPilot", "cellsWithoutDepth", "()I"⟩, 6)]
theorem lw_r1 : ∀ q ∈ lw_privs_1, lw_okq q := List.forall_mem_cons.mpr ⟨lw_p0, List.forall_mem_cons.mpr ⟨lw_p1, List.forall_mem_cons.mpr ⟨lw_p2, List.forall_mem_cons.mpr ⟨lw_p3, List.forall_mem_cons.mpr ⟨lw_p4, List.forall_mem_cons.mpr ⟨lw_p5, List.forall_mem_cons.mpr ⟨lw_p6, List.forall_mem_cons.mpr ⟨lw_p7, List.forall_mem_cons.mpr ⟨lw_p8, List.forall_mem_cons.mpr ⟨lw_p9, List.forall_mem_cons.mpr ⟨lw_p10, List.forall_mem_cons.mpr ⟨lw_p11, List.forall_mem_cons.mpr ⟨lw_p12, List.forall_mem_cons.mpr ⟨lw_p13, List.forall_mem_cons.mpr ⟨lw_p14, List.forall_mem_cons.mpr ⟨lw_p15, fun _ h => absurd h List.not_mem_nil⟩⟩⟩⟩⟩⟩⟩⟩⟩⟩⟩⟩⟩⟩⟩⟩
theorem lw_p16 : lw_okq (⟨"ReefPilot", "chartAnswer", "(II)I"⟩, 6) := ⟨⟨by decide +kernel, by decide +kernel⟩, List.mem_of_getElem? (i := 16) (by decide +kernel), List.mem_of_getElem? (i := 266) (by decide +kernel), List.mem_of_getElem? (i := 267) (by decide +kernel)⟩
theorem lw_p17 : lw_okq (⟨"java/lang/Throwable", "fillInStackTrace", "(I)Ljava/lang/Throwable;"⟩, 6) := ⟨⟨by decide +kernel, by decide +kernel⟩, List.mem_of_getElem? (i := 322) (by decide +kernel), List.mem_of_getElem? (i := 320) (by decide +kernel), List.mem_of_getElem? (i := 321) (by decide +kernel)⟩
theorem lw_p18 : lw_okq (⟨"ReefPilot", "headsOfReefAt", "(I)I"⟩, 6) := ⟨⟨by decide +kernel, by decide +kernel⟩, List.mem_of_getElem? (i := 16) (by decide +kernel), List.mem_of_getElem? (i := 407) (by decide +kernel), List.mem_of_getElem? (i := 408) (by decide +kernel)⟩
theorem lw_p19 : lw_okq (⟨"ReefPilot", "leadFrom", "(II)I"⟩, 6) := ⟨⟨by decide +kernel, by decide +kernel⟩, List.mem_of_getElem? (i := 16) (by decide +kernel), List.mem_of_getElem? (i := 450) (by decide +kernel), List.mem_of_getElem? (i := 451) (by decide +kernel)⟩
theorem lw_p20 : lw_okq (⟨"ReefPilot$Coast", "changeByWarmth", "(I)V"⟩, 4) := ⟨⟨by decide +kernel, by decide +kernel⟩, List.mem_of_getElem? (i := 41) (by decide +kernel), List.mem_of_getElem? (i := 476) (by decide +kernel), List.mem_of_getElem? (i := 477) (by decide +kernel)⟩
theorem lw_p21 : lw_okq (⟨"ReefPilot$Coast", "dieBack", "()V"⟩, 4) := ⟨⟨by decide +kernel, by decide +kernel⟩, List.mem_of_getElem? (i := 41) (by decide +kernel), List.mem_of_getElem? (i := 480) (by decide +kernel), List.mem_of_getElem? (i := 481) (by decide +kernel)⟩
theorem lw_p22 : lw_okq (⟨"ReefPilot$Coast", "grow", "()V"⟩, 4) := ⟨⟨by decide +kernel, by decide +kernel⟩, List.mem_of_getElem? (i := 41) (by decide +kernel), List.mem_of_getElem? (i := 484) (by decide +kernel), List.mem_of_getElem? (i := 485) (by decide +kernel)⟩
theorem lw_p23 : lw_okq (⟨"ReefPilot$Coast", "rememberHeads", "()V"⟩, 4) := ⟨⟨by decide +kernel, by decide +kernel⟩, List.mem_of_getElem? (i := 41) (by decide +kernel), List.mem_of_getElem? (i := 488) (by decide +kernel), List.mem_of_getElem? (i := 489) (by decide +kernel)⟩
theorem lw_p24 : lw_okq (⟨"ReefPilot$Coast", "headsBeside", "(I)I"⟩, 4) := ⟨⟨by decide +kernel, by decide +kernel⟩, List.mem_of_getElem? (i := 41) (by decide +kernel), List.mem_of_getElem? (i := 493) (by decide +kernel), List.mem_of_getElem? (i := 494) (by decide +kernel)⟩
theorem lw_p25 : lw_okq (⟨"ReefPilot$Coast", "seed", "()V"⟩, 4) := ⟨⟨by decide +kernel, by decide +kernel⟩, List.mem_of_getElem? (i := 41) (by decide +kernel), List.mem_of_getElem? (i := 498) (by decide +kernel), List.mem_of_getElem? (i := 499) (by decide +kernel)⟩
theorem lw_p26 : lw_okq (⟨"ReefPilot$Coast", "breakByStorm", "(I)V"⟩, 4) := ⟨⟨by decide +kernel, by decide +kernel⟩, List.mem_of_getElem? (i := 41) (by decide +kernel), List.mem_of_getElem? (i := 506) (by decide +kernel), List.mem_of_getElem? (i := 507) (by decide +kernel)⟩
theorem lw_p27 : lw_okq (⟨"ReefPilot$Coast", "dropRubble", "(II)V"⟩, 4) := ⟨⟨by decide +kernel, by decide +kernel⟩, List.mem_of_getElem? (i := 41) (by decide +kernel), List.mem_of_getElem? (i := 510) (by decide +kernel), List.mem_of_getElem? (i := 511) (by decide +kernel)⟩
theorem lw_p28 : lw_okq (⟨"ReefPilotModel", "fail", "(I)I"⟩, 11) := ⟨⟨by decide +kernel, by decide +kernel⟩, List.mem_of_getElem? (i := 542) (by decide +kernel), List.mem_of_getElem? (i := 596) (by decide +kernel), List.mem_of_getElem? (i := 597) (by decide +kernel)⟩
theorem lw_p29 : lw_okq (⟨"ReefPilotModel", "depth", "(I)I"⟩, 11) := ⟨⟨by decide +kernel, by decide +kernel⟩, List.mem_of_getElem? (i := 542) (by decide +kernel), List.mem_of_getElem? (i := 613) (by decide +kernel), List.mem_of_getElem? (i := 614) (by decide +kernel)⟩
theorem lw_p30 : lw_okq (⟨"ReefPilotModel", "isHead", "(I)Z"⟩, 11) := ⟨⟨by decide +kernel, by decide +kernel⟩, List.mem_of_getElem? (i := 542) (by decide +kernel), List.mem_of_getElem? (i := 618) (by decide +kernel), List.mem_of_getElem? (i := 619) (by decide +kernel)⟩
theorem lw_p31 : lw_okq (⟨"ReefPilotModel", "reefOf", "(I)I"⟩, 11) := ⟨⟨by decide +kernel, by decide +kernel⟩, List.mem_of_getElem? (i := 542) (by decide +kernel), List.mem_of_getElem? (i := 622) (by decide +kernel), List.mem_of_getElem? (i := 623) (by decide +kernel)⟩
def lw_privs_2 : List (MethodName × Nat) := [(⟨"ReefPilot", "chartAnswer", "(II)I"⟩, 6), (⟨"java/lang/Throwable", "fillInStackTrace", "(I)Ljava/lang/Throwable;"⟩, 6), (⟨"ReefPilot", "headsOfReefAt", "(I)I"⟩, 6), (⟨"ReefPilot", "leadFrom", "(II)I"⟩, 6), (⟨"ReefPilot$Coast", "changeByWarmth", "(I)V"⟩, 4), (⟨"ReefPilot$Coast", "dieBack", "()V"⟩, 4), (⟨"ReefPilot$Coast", "grow", "()V"⟩, 4), (⟨"ReefPilot$Coast", "rememberHeads", "()V"⟩, 4), (⟨"ReefPilot$Coast", "headsBeside", "(I)I"⟩, 4), (⟨"ReefPilot$Coast", "seed", "()V"⟩, 4), (⟨"ReefPilot$Coast", "breakByStorm", "(I)V"⟩, 4), (⟨"ReefPilot$Coast", "dropRubble", "(II)V"⟩, 4), (⟨"ReefPilotModel", "fail", "(I)I"⟩, 11), (⟨"ReefPilotModel", "depth", "(I)I"⟩, 11), (⟨"ReefPilotModel", "isHead", "(I)Z"⟩, 11), (⟨"ReefPilotModel", "reefOf", "(I)I"⟩, 11)]
theorem lw_r2 : ∀ q ∈ lw_privs_2, lw_okq q := List.forall_mem_cons.mpr ⟨lw_p16, List.forall_mem_cons.mpr ⟨lw_p17, List.forall_mem_cons.mpr ⟨lw_p18, List.forall_mem_cons.mpr ⟨lw_p19, List.forall_mem_cons.mpr ⟨lw_p20, List.forall_mem_cons.mpr ⟨lw_p21, List.forall_mem_cons.mpr ⟨lw_p22, List.forall_mem_cons.mpr ⟨lw_p23, List.forall_mem_cons.mpr ⟨lw_p24, List.forall_mem_cons.mpr ⟨lw_p25, List.forall_mem_cons.mpr ⟨lw_p26, List.forall_mem_cons.mpr ⟨lw_p27, List.forall_mem_cons.mpr ⟨lw_p28, List.forall_mem_cons.mpr ⟨lw_p29, List.forall_mem_cons.mpr ⟨lw_p30, List.forall_mem_cons.mpr ⟨lw_p31, fun _ h => absurd h List.not_mem_nil⟩⟩⟩⟩⟩⟩⟩⟩⟩⟩⟩⟩⟩⟩⟩⟩
theorem lw_p32 : lw_okq (⟨"ReefPilotModel", "mark", "()V"⟩, 11) := ⟨⟨by decide +kernel, by decide +kernel⟩, List.mem_of_getElem? (i := 542) (by decide +kernel), List.mem_of_getElem? (i := 626) (by decide +kernel), List.mem_of_getElem? (i := 627) (by decide +kernel)⟩
theorem lw_p33 : lw_okq (⟨"ReefPilotModel", "charted", "(II)I"⟩, 11) := ⟨⟨by decide +kernel, by decide +kernel⟩, List.mem_of_getElem? (i := 542) (by decide +kernel), List.mem_of_getElem? (i := 641) (by decide +kernel), List.mem_of_getElem? (i := 642) (by decide +kernel)⟩
theorem lw_p34 : lw_okq (⟨"ReefPilotModel", "shortest", "(IZ)I"⟩, 11) := ⟨⟨by decide +kernel, by decide +kernel⟩, List.mem_of_getElem? (i := 542) (by decide +kernel), List.mem_of_getElem? (i := 649) (by decide +kernel), List.mem_of_getElem? (i := 650) (by decide +kernel)⟩
theorem lw_p35 : lw_okq (⟨"ReefPilotModel", "spread", "(IZZ)V"⟩, 11) := ⟨⟨by decide +kernel, by decide +kernel⟩, List.mem_of_getElem? (i := 542) (by decide +kernel), List.mem_of_getElem? (i := 653) (by decide +kernel), List.mem_of_getElem? (i := 654) (by decide +kernel)⟩
theorem lw_p36 : lw_okq (⟨"ReefPilotModel", "most", "(Z)I"⟩, 11) := ⟨⟨by decide +kernel, by decide +kernel⟩, List.mem_of_getElem? (i := 542) (by decide +kernel), List.mem_of_getElem? (i := 661) (by decide +kernel), List.mem_of_getElem? (i := 662) (by decide +kernel)⟩
theorem lw_p37 : lw_okq (⟨"ReefPilotModel", "heads", "()I"⟩, 11) := ⟨⟨by decide +kernel, by decide +kernel⟩, List.mem_of_getElem? (i := 542) (by decide +kernel), List.mem_of_getElem? (i := 677) (by decide +kernel), List.mem_of_getElem? (i := 678) (by decide +kernel)⟩
theorem lw_p38 : lw_okq (⟨"ReefPilotModel", "monthOn", "()V"⟩, 11) := ⟨⟨by decide +kernel, by decide +kernel⟩, List.mem_of_getElem? (i := 542) (by decide +kernel), List.mem_of_getElem? (i := 681) (by decide +kernel), List.mem_of_getElem? (i := 682) (by decide +kernel)⟩
theorem lw_p39 : lw_okq (⟨"ReefPilotModel", "grow", "(I)V"⟩, 11) := ⟨⟨by decide +kernel, by decide +kernel⟩, List.mem_of_getElem? (i := 542) (by decide +kernel), List.mem_of_getElem? (i := 685) (by decide +kernel), List.mem_of_getElem? (i := 686) (by decide +kernel)⟩
theorem lw_p40 : lw_okq (⟨"ReefPilotModel", "headsBeside", "(I)I"⟩, 11) := ⟨⟨by decide +kernel, by decide +kernel⟩, List.mem_of_getElem? (i := 542) (by decide +kernel), List.mem_of_getElem? (i := 689) (by decide +kernel), List.mem_of_getElem? (i := 690) (by decide +kernel)⟩
theorem lw_p41 : lw_okq (⟨"ReefPilotModel", "blow", "(I)V"⟩, 11) := ⟨⟨by decide +kernel, by decide +kernel⟩, List.mem_of_getElem? (i := 542) (by decide +kernel), List.mem_of_getElem? (i := 694) (by decide +kernel), List.mem_of_getElem? (i := 695) (by decide +kernel)⟩
theorem lw_p42 : lw_okq (⟨"ReefPilotModel", "counted", "(I)I"⟩, 11) := ⟨⟨by decide +kernel, by decide +kernel⟩, List.mem_of_getElem? (i := 542) (by decide +kernel), List.mem_of_getElem? (i := 702) (by decide +kernel), List.mem_of_getElem? (i := 703) (by decide +kernel)⟩
theorem lw_p43 : lw_okq (⟨"ReefPilotModel", "reefs", "()I"⟩, 11) := ⟨⟨by decide +kernel, by decide +kernel⟩, List.mem_of_getElem? (i := 542) (by decide +kernel), List.mem_of_getElem? (i := 706) (by decide +kernel), List.mem_of_getElem? (i := 707) (by decide +kernel)⟩
theorem lw_p44 : lw_okq (⟨"ReefPilotModel", "largest", "()I"⟩, 11) := ⟨⟨by decide +kernel, by decide +kernel⟩, List.mem_of_getElem? (i := 542) (by decide +kernel), List.mem_of_getElem? (i := 710) (by decide +kernel), List.mem_of_getElem? (i := 711) (by decide +kernel)⟩
theorem lw_p45 : lw_okq (⟨"ReefPilotModel", "bringBack", "([I[II)V"⟩, 11) := ⟨⟨by decide +kernel, by decide +kernel⟩, List.mem_of_getElem? (i := 542) (by decide +kernel), List.mem_of_getElem? (i := 725) (by decide +kernel), List.mem_of_getElem? (i := 726) (by decide +kernel)⟩
def lw_privs_3 : List (MethodName × Nat) := [(⟨"ReefPilotModel", "mark", "()V"⟩, 11), (⟨"ReefPilotModel", "charted", "(II)I"⟩, 11), (⟨"ReefPilotModel", "shortest", "(IZ)I"⟩, 11), (⟨"ReefPilotModel", "spread", "(IZZ)V"⟩, 11), (⟨"ReefPilotModel", "most", "(Z)I"⟩, 11), (⟨"ReefPilotModel", "heads", "()I"⟩, 11), (⟨"ReefPilotModel", "monthOn", "()V"⟩, 11), (⟨"ReefPilotModel", "grow", "(I)V"⟩, 11), (⟨"ReefPilotModel", "headsBeside", "(I)I"⟩, 11), (⟨"ReefPilotModel", "blow", "(I)V"⟩, 11), (⟨"ReefPilotModel", "counted", "(I)I"⟩, 11), (⟨"ReefPilotModel", "reefs", "()I"⟩, 11), (⟨"ReefPilotModel", "largest", "()I"⟩, 11), (⟨"ReefPilotModel", "bringBack", "([I[II)V"⟩, 11)]
theorem lw_r3 : ∀ q ∈ lw_privs_3, lw_okq q := List.forall_mem_cons.mpr ⟨lw_p32, List.forall_mem_cons.mpr ⟨lw_p33, List.forall_mem_cons.mpr ⟨lw_p34, List.forall_mem_cons.mpr ⟨lw_p35, List.forall_mem_cons.mpr ⟨lw_p36, List.forall_mem_cons.mpr ⟨lw_p37, List.forall_mem_cons.mpr ⟨lw_p38, List.forall_mem_cons.mpr ⟨lw_p39, List.forall_mem_cons.mpr ⟨lw_p40, List.forall_mem_cons.mpr ⟨lw_p41, List.forall_mem_cons.mpr ⟨lw_p42, List.forall_mem_cons.mpr ⟨lw_p43, List.forall_mem_cons.mpr ⟨lw_p44, List.forall_mem_cons.mpr ⟨lw_p45, fun _ h => absurd h List.not_mem_nil⟩⟩⟩⟩⟩⟩⟩⟩⟩⟩⟩⟩⟩⟩
def lw_privs : List (MethodName × Nat) := lw_privs_1 ++ (lw_privs_2 ++ (lw_privs_3))
def lw_tbl : List Cond := k2_sels lw_privs ++ tables_1
theorem lw_privs_ok : ∀ q ∈ lw_privs, lw_okq q := by
  show ∀ q ∈ lw_privs_1 ++ (lw_privs_2 ++ (lw_privs_3)), lw_okq q
  exact List.forall_mem_append.mpr ⟨lw_r1, List.forall_mem_append.mpr ⟨lw_r2, lw_r3⟩⟩
/-- the streams that the claim lets the run draw from -/
abbrev lw_cs : List Choice := [Jvm.Choice.named "NaN.bits"]
theorem lw_bits : nanBits ∈ lw_cs := by first | decide | exact List.mem_cons_self | simp [lw_cs, nanBits]
-- ===== end of PART A; then your names; then what follows =====
end
section
/-! ===== BEGIN words of one list among another's, by their places ===== -/
theorem goodIn_r {big : List Cond} (ws : List Cond) (ps : List Nat) (hp : ws = ps.filterMap (fun i => big[i]?)) (h : ws.all goodWord = true) : GoodIn big ws := by
  intro w hw
  have h1 := List.all_eq_true.mp h w hw
  rw [hp] at hw
  obtain ⟨i, -, hi⟩ := List.mem_filterMap.mp hw
  have hm : w ∈ big := by first | exact List.mem_of_getElem? hi | exact List.getElem?_mem hi
  exact ⟨hm, good_of_word h1⟩
theorem goodIn_app {big a b : List Cond} (ha : GoodIn big a) (hb : GoodIn big b) : GoodIn big (a ++ b) := fun w h => (List.mem_append.mp h).elim (ha w) (hb w)
theorem goodIn_ca {big a b : List Cond} {c : Cond} (ha : GoodIn big (c :: a)) (hb : GoodIn big b) : GoodIn big (c :: (a ++ b)) := fun w h => (List.mem_cons.mp h).elim (fun e => ha w (List.mem_cons.mpr (Or.inl e))) (fun h => (List.mem_append.mp h).elim (fun h => ha w (List.mem_cons.mpr (Or.inr h))) (hb w))
theorem goodIn_sub {big ws : List Cond} (hm : ∀ w ∈ ws, w ∈ big) (h : ws.all goodWord = true) : GoodIn big ws := fun w hw => ⟨hm w hw, good_of_word (List.all_eq_true.mp h w hw)⟩
/-! ===== END ===== -/

/-! ===== BEGIN exceptions that leave a method, and their catching by the caller (launches without stack traces) ===== -/
section VXA
/-! The laws vx_back, vx_callV, vx_callS, vx_callSW, vx_throw0, vx_throwS follow proofs of the library, with one case more: JvmDerived/Free/Laws.lean (Back.of_free), Shelf42/LK1.lean (callV, callS), Shelf/KitTraced.lean (throwNew0V, throwNewS). -/
/-- where a method has thrown q: the class by its name, the cell, what was written, the world -/
def vx_T (XC : String → State → State → Prop) (st : State) (q : Addr) (t : State) (mc ms : Nat) (free : Addr → Prop) : Prop :=
  ∃ (E : String) (ce : Cell) (L : List Loc), XC E st t ∧ t.heap[q]? = some ce ∧ ce.vm = .none ∧ st.vm.findClass E = some ce.cls ∧ st.WarmedH t.vm ∧ st.sameButNew ({ t with vm := st.vm } : State) L mc ms ∧ ∀ z ∈ L, free z.base
def vx_Q (Qc : Array Value → State → Outcome → State → Prop) (XC : String → State → State → Prop) (mc ms : Nat) (free : Addr → Prop) : Array Value → State → Outcome → State → Prop := fun a st o t =>
  (Qc a st o t ∧ ∃ L, FrameEnd st o t L mc ms ∧ ∀ q ∈ L, free q.base) ∨ ∃ q, o = .threw q ∧ vx_T XC st q t mc ms free
/-- a callee that returns or throws -/
def vx_Met (l : Launch) (y : MethodName) (ws : List Cond) (rm : Room) (Pc : Array Value → State → Prop) (Qc : Array Value → State → Outcome → State → Prop) (XC : String → State → State → Prop) (mc ms : Nat) (free : Addr → Prop) : Prop :=
  MetFree l y (headSpec ws rm) Pc (fun _ _ _ _ _ => True) (vx_Q Qc XC mc ms free)
def vx_Post (XC : String → State → State → Prop) (mc ms : Nat) (free : Addr → Prop) : Pt → Array Value → Addr → Pt → Prop := fun A a q B =>
  ∃ (g : JFrame) (mk : MethodId) (t : State) (L : List Loc) (E : String) (ce : Cell), B.U.heap = t.heap ∧ B.U.vm = t.vm ∧ XC E (A.U.calling g mk a) t ∧ t.heap[q]? = some ce ∧ ce.vm = .none ∧ A.U.vm.findClass E = some ce.cls ∧ B.locs = A.locs ++ L ∧ (∀ z ∈ L, free z.base) ∧ B.cells = A.cells + mc ∧ B.slots = A.slots + ms
def vx_Back (l : Launch) (R : Room) (p : Program) (e : Env) (below : List Frame) (s : State) (sargs : Array Value) (y : MethodName) (len W9 : Nat)
    (Pre : Pt → Array Value → Prop) (Post : Pt → Array Value → Option Value → Pt → Prop) (PostX : Pt → Array Value → Addr → Pt → Prop) : Prop :=
  ∀ (m : MethodId) (meth : Method) (c : Code) (A : Pt) (g : JFrame) (ig : Instr) (mk : MethodId) (a : Array Value),
    Stand p l e R s m sargs below meth c A.U A.locs A.cells A.slots → g.method = m → g.locals.size = c.maxLocals → decode c.code g.pc = .ok (ig, len) →
    2 * g.monitorRoom + (g.stack.map fun v => v.category).sum ≤ W9 → A.U.methodNamed? y = some mk → Pre A a →
    (∃ (v : Option Value) (B : Pt), Stand p l e R s m sargs below meth c B.U B.locs B.cells B.slots ∧ Post A a v B ∧
      Steps p.tables e below (doInvoke e (A.U.setTop g) [] mk a).1 (B.U.setTop { g with pc := g.pc + len, stack := v.toList ++ g.stack })) ∨
    (∃ (q : Addr) (B : Pt), Stand p l e R s m sargs below meth c B.U B.locs B.cells B.slots ∧ PostX A a q B ∧
      Steps p.tables e below (doInvoke e (A.U.setTop g) [] mk a).1 ((B.U.setTop g).pushFrame (.throwing q)))
section Payer
variable {l : Launch} {R : Room} {p : Program} {e : Env} {below : List Frame} {s : State} {sargs : Array Value} {y : MethodName} {len W9 : Nat}
theorem vx_back {ws : List Cond} {rm : Room} {Pc : Array Value → State → Prop} {Qc : Array Value → State → Outcome → State → Prop} {XC : String → State → State → Prop} {mc ms : Nat} {free : Addr → Prop} {bytes : ByteArray} {maxL : Nat} {ret : Option FieldType}
    (hM : vx_Met l y ws rm Pc Qc XC mc ms free) (hblind : FrameBlind Pc) (hrc : rm.cells = mc) (hrs : rm.slots = ms)
    (hframes : rm.frames + 1 ≤ R.frames) (hlocals : W9 + (maxL + 11) + rm.locals ≤ R.locals)
    (hws : ∀ w ∈ ws, ∀ a' U, s.WarmedH U.vm → w.before a' U = true) (hcode : Cond.code y bytes maxL ret ∈ ws) (hinit : ∀ a' U, s.WarmedH U.vm → (Cond.initialized y.cls).before a' U = true) :
    vx_Back l R p e below s sargs y len W9 (PreOf R mc ms Pc) (PostOf Qc mc ms free) (vx_Post XC mc ms free) := by
  intro m meth c A g ig mk a X hg hsize hdg hW hn hp
  have h1 : (headSpec ws rm).pre.before a A.U = true := atoms_intro fun w hw => hws w hw _ _ X.warmed
  have h2 : (Cond.code y bytes maxL ret).before a A.U = true := hws _ hcode _ _ X.warmed
  have h3 : (Cond.initialized y.cls).before a A.U = true := hinit _ _ X.warmed
  have h4 : A.cells + (headSpec ws rm).room.cells ≤ R.cells := by rw [show (headSpec ws rm).room.cells = mc from hrc]; exact hp.1
  have h5 : A.slots + (headSpec ws rm).room.slots ≤ R.slots := by rw [show (headSpec ws rm).room.slots = ms from hrs]; exact hp.2.1
  have hPc : Pc a (A.U.calling g mk a) := hblind _ _ _ _ hp.2.2
  obtain ⟨U, Ls, c0, s0⟩ := A
  dsimp only [Pt.U, Pt.locs, Pt.cells, Pt.slots] at h1 h2 h3 h4 h5 X hn hPc ⊢
  obtain ⟨methY, cY, hmY, hcY, -, hlY, -, -, -, -⟩ := Cond.code_spec hn h2
  obtain ⟨kY, hkY, -⟩ := className_of_methodNamed hn
  have hinitY : kY.init = .initialized := Cond.initialized_spec (findClass_of_methodNamed hn) hkY h3
  have h : At U g.method c below := by rw [hg]; exact X.here
  have hlocals9 : W9 + (maxL + 11) + (headSpec ws rm).room.locals ≤ R.locals := hlocals
  have happ : (headSpec ws rm).appliesLoose y e.platform (U.calling g mk a) = true :=
    Spec.appliesLoose_calling (g := g) h hdg hn hkY hinitY
      (X.room_calling (g := g) (R' := (headSpec ws rm).room) hsize hmY hcY hframes (by rw [hlY]; omega) h4 h5) h1
  obtain ⟨mid, hmid⟩ := h.above
  have hfr : (U.setTop g).frames = (.java g :: mid) ++ below := by rw [State.frames_setTop' g h.top, hmid]; rfl
  obtain ⟨o, s₂, hsteps, -, hend, hq⟩ := Steps.callFree hM p X.admits X.cas X.clock (acts := []) hfr happ hPc trivial
  have hq' : vx_Q Qc XC mc ms free a (U.calling g mk a) o s₂ := hq
  rw [State.frames_setTop' g h.top] at hend
  obtain ⟨g₀, hg0⟩ := Option.isSome_iff_exists.mp h.top
  obtain ⟨r, hr⟩ := State.topJava?_eq_some.mp hg0
  have hr' : (({ U with heap := s₂.heap, slotsUsed := s₂.slotsUsed } : State).setVm s₂.vm).frames = .java g₀ :: r := hr
  rcases hq' with ⟨hqc, L, hfe, hL⟩ | ⟨q, rfl, E, ce, L, hx, hce, hcv, hcl, hW₂, hsm, hL⟩
  · obtain ⟨⟨v, rfl⟩, hW₂, e2, q2, q3, q4, q5, q6⟩ := id hfe
    have e3 : s₂ = ({ (U.calling g mk a).setFrames s₂.frames with heap := s₂.heap, slotsUsed := s₂.slotsUsed } : State).setVm s₂.vm := by
      have : s₂ = ({ s₂ with vm := (U.calling g mk a).vm } : State).setVm s₂.vm := rfl
      rw [e2] at this
      exact this
    obtain ⟨c₂, i₂, len₂, hc₂, hd₂, hf₂⟩ := hend
    have hW' : U.WarmedH s₂.vm := hW₂
    have hcc : c₂ = c := by
      have h1 : s₂.code? g.method = U.code? g.method := by
        rw [State.code?_eq, State.code?_eq, hW'.alike.method?]
      exact Option.some.inj (hc₂.symm.trans (h1.trans h.code))
    subst hcc
    have hlen : len₂ = len := by rw [hdg] at hd₂; cases hd₂; rfl
    subst hlen
    have hs₂ : s₂ = (({ U with heap := s₂.heap, slotsUsed := s₂.slotsUsed } : State).setVm s₂.vm).setTop { g with pc := g.pc + len₂, stack := v.toList ++ g.stack } := by
      refine e3.trans ?_
      rw [hf₂, State.calling_eq h.top, State.setFrames_setFrames, State.setTop_of_frames _ hr', hr]
      rfl
    have hsame : U.sameButNew ({ U with heap := s₂.heap, slotsUsed := s₂.slotsUsed } : State) L mc ms := by
      refine ⟨?_, q2, q3, q4, q5, q6⟩
      obtain ⟨t, ht, -⟩ := State.frames_cons hr
      show ({ U with heap := s₂.heap, slotsUsed := s₂.slotsUsed } : State) = { U.setFrames U.frames with heap := s₂.heap, slotsUsed := s₂.slotsUsed }
      rw [State.setFrames_self ht]
    subst hg
    refine Or.inl ⟨v, ⟨(({ U with heap := s₂.heap, slotsUsed := s₂.slotsUsed } : State).setVm s₂.vm), Ls ++ L, c0 + mc, s0 + ms⟩,
      ⟨X.admits, X.cas, X.clock, X.frames, X.room, X.hears, X.method, X.code, (X.here.setHeapUsed s₂.heap s₂.slotsUsed).setVm hW'.alike, X.tail, State.WarmedH.trans X.warmed hW', X.limits, X.bytes, X.same.trans (hsame.setVm s.vm)⟩,
      ⟨g, mk, s₂, L, rfl, rfl, hqc, rfl, hL, rfl, rfl⟩, ?_⟩
    show Steps p.tables e below _ ((({ U with heap := s₂.heap, slotsUsed := s₂.slotsUsed } : State).setVm s₂.vm).setTop { g with pc := g.pc + len₂, stack := v.toList ++ g.stack })
    rw [← hs₂]
    exact hsteps
  · obtain ⟨e2, q2, q3, q4, q5, q6⟩ := id hsm
    have e3 : s₂ = ({ (U.calling g mk a).setFrames s₂.frames with heap := s₂.heap, slotsUsed := s₂.slotsUsed } : State).setVm s₂.vm := by
      have : s₂ = ({ s₂ with vm := (U.calling g mk a).vm } : State).setVm s₂.vm := rfl
      rw [e2] at this
      exact this
    have hf₂ : s₂.frames = .throwing q :: .java g :: U.frames.tail := hend
    have hW' : U.WarmedH s₂.vm := hW₂
    have hs₂ : s₂ = ((({ U with heap := s₂.heap, slotsUsed := s₂.slotsUsed } : State).setVm s₂.vm).setTop g).pushFrame (.throwing q) := by
      refine e3.trans ?_
      rw [hf₂, State.calling_eq h.top, State.setFrames_setFrames, State.pushFrame, State.frames_setTop _ hr', State.setTop_of_frames _ hr', State.setFrames_setFrames, hr]
      rfl
    have hsame : U.sameButNew ({ U with heap := s₂.heap, slotsUsed := s₂.slotsUsed } : State) L mc ms := by
      refine ⟨?_, q2, q3, q4, q5, q6⟩
      obtain ⟨t, ht, -⟩ := State.frames_cons hr
      show ({ U with heap := s₂.heap, slotsUsed := s₂.slotsUsed } : State) = { U.setFrames U.frames with heap := s₂.heap, slotsUsed := s₂.slotsUsed }
      rw [State.setFrames_self ht]
    subst hg
    refine Or.inr ⟨q, ⟨(({ U with heap := s₂.heap, slotsUsed := s₂.slotsUsed } : State).setVm s₂.vm), Ls ++ L, c0 + mc, s0 + ms⟩,
      ⟨X.admits, X.cas, X.clock, X.frames, X.room, X.hears, X.method, X.code, (X.here.setHeapUsed s₂.heap s₂.slotsUsed).setVm hW'.alike, X.tail, State.WarmedH.trans X.warmed hW', X.limits, X.bytes, X.same.trans (hsame.setVm s.vm)⟩,
      ⟨g, mk, s₂, L, E, ce, rfl, rfl, hx, hce, hcv, hcl, rfl, hL, rfl, rfl⟩, ?_⟩
    show Steps p.tables e below _ (((({ U with heap := s₂.heap, slotsUsed := s₂.slotsUsed } : State).setVm s₂.vm).setTop g).pushFrame (.throwing q))
    rw [← hs₂]
    exact hsteps
end Payer
section Calls
variable {p : Program} {l : Launch} {e : Env} {R : Room} {s : State} {m : MethodId} {args : Array Value} {below : List Frame} {meth : Method} {c : Code} {T : State} {locs : List Loc} {cells slots : Nat}
theorem vx_callV (X : Stand p l e R s m args below meth c T locs cells slots) (hexec : p.tables.exec = Jvm.exec) {own C : String} {index : Nat} {y : MethodName} {bytes : ByteArray} {maxL : Nat} {ret : Option FieldType}
    (hown : s.vm.findClass own = some m.cls) (hlink : (Cond.methodLink own index y).before args s = true) (hinst : (Cond.instanceMethod y).before args s = true) (hsel : (Cond.selects C y y).before args s = true)
    (hcode : (Cond.code y bytes maxL ret).before args s = true) (hy : y.cls ≠ "java/lang/invoke/MethodHandle" ∧ y.cls ≠ "java/lang/invoke/VarHandle")
    {W9 : Nat} {Pre : Pt → Array Value → Prop} {Post : Pt → Array Value → Option Value → Pt → Prop} {PostX : Pt → Array Value → Addr → Pt → Prop} (hK : vx_Back l R p e below s args y 3 W9 Pre Post PostX)
    {b : Addr} {cellB : Cell} (hcell : T.heap[b]? = some cellB) (hobj : cellB.vm.isStatics = false) (hcls : s.vm.findClass C = some cellB.cls)
    {g : JFrame} (hg : g.method = m) (hsize : g.locals.size = c.maxLocals) {argsL rest : List Value} (hlen : ∀ sig, parseMethodDescriptor y.desc = some sig → argsL.length = sig.parameters.length)
    (hstack : g.stack = argsL.reverse ++ .ref b :: rest) (hW : 2 * g.monitorRoom + (rest.map fun v => v.category).sum ≤ W9) (hdg : decode c.code g.pc = .ok (.invokevirtual index, 3))
    (hpre : ∀ vm₁, s.WarmedH vm₁ → Pre ⟨T.setVm vm₁, locs, cells, slots⟩ (Value.ref b :: argsL).toArray) :
    (∃ (v : Option Value) (vm₁ : Vm) (B : Pt), s.WarmedH vm₁ ∧ Stand p l e R s m args below meth c B.U B.locs B.cells B.slots ∧ Post ⟨T.setVm vm₁, locs, cells, slots⟩ (Value.ref b :: argsL).toArray v B ∧
      ∀ target, Steps p.tables e below (B.U.setTop { g with pc := g.pc + 3, stack := v.toList ++ rest }) target → Steps p.tables e below (T.setTop g) target) ∨
    (∃ (q : Addr) (vm₁ : Vm) (B : Pt), s.WarmedH vm₁ ∧ Stand p l e R s m args below meth c B.U B.locs B.cells B.slots ∧ PostX ⟨T.setVm vm₁, locs, cells, slots⟩ (Value.ref b :: argsL).toArray q B ∧
      Steps p.tables e below (T.setTop g) ((B.U.setTop { g with stack := rest }).pushFrame (.throwing q))) := by
  obtain ⟨mk, methM, hnamed, hmethM, hstM, habM⟩ := Cond.instanceMethod_spec hinst
  obtain ⟨methM', cM, hmethM', -, -, -, -, -, -, hsigM⟩ := Cond.code_spec hnamed hcode
  cases hmethM.symm.trans hmethM'
  obtain ⟨c2, r2, m2, q1, q2, q3, q4, kP, hkP, hkPi⟩ := Cond.selects_spec hsel
  cases hcls.symm.trans q1
  cases (State.methodFound?_of_named hnamed hy).symm.trans q2
  cases hnamed.symm.trans q3
  have hselP : selectMethod e.platform s.vm cellB.cls mk = .method mk := by rw [Launch.admits_selectMethod X.admits]; exact q4
  obtain ⟨vm₁, X₁, hstep₁⟩ := X.invokevirtual hexec hown hlink hnamed hmethM hstM hkP hkPi hy (a := b) (cell := cellB) hcell
    (fun z h => by rw [h] at hobj; cases hobj) hselP hmethM habM hkP hkPi (g := g) hg (argsL := argsL) (rest := rest) (hlen _ hsigM) hstack hdg
  rcases hK m meth c ⟨T.setVm vm₁, locs, cells, slots⟩ { g with stack := rest } (.invokevirtual index) mk (Value.ref b :: argsL).toArray X₁ hg hsize hdg hW (X₁.named hnamed) (hpre vm₁ X₁.warmed) with ⟨v, B, X', hpost, hsteps⟩ | ⟨q, B, X', hpost, hsteps⟩
  · exact Or.inl ⟨v, vm₁, B, X₁.warmed, X', hpost, fun target h => hstep₁ _ fun acts => by rw [doInvoke_state]; exact hsteps.trans h⟩
  · exact Or.inr ⟨q, vm₁, B, X₁.warmed, X', hpost, hstep₁ _ fun acts => by rw [doInvoke_state]; exact hsteps⟩
theorem vx_callS (X : Stand p l e R s m args below meth c T locs cells slots) (hexec : p.tables.exec = Jvm.exec) {own : String} {index : Nat} {y : MethodName} {bytes : ByteArray} {maxL : Nat} {ret : Option FieldType}
    (hown : s.vm.findClass own = some m.cls) (hlink : (Cond.methodLink own index y).before args s = true) (hstat : (Cond.static y).before args s = true) (hinit : (Cond.initialized y.cls).before args s = true)
    (hcode : (Cond.code y bytes maxL ret).before args s = true) (hy : y.cls ≠ "java/lang/invoke/MethodHandle" ∧ y.cls ≠ "java/lang/invoke/VarHandle")
    {W9 : Nat} {Pre : Pt → Array Value → Prop} {Post : Pt → Array Value → Option Value → Pt → Prop} {PostX : Pt → Array Value → Addr → Pt → Prop} (hK : vx_Back l R p e below s args y 3 W9 Pre Post PostX)
    {g : JFrame} (hg : g.method = m) (hsize : g.locals.size = c.maxLocals) {argsL rest : List Value} (hlen : ∀ sig, parseMethodDescriptor y.desc = some sig → argsL.length = sig.parameters.length)
    (hstack : g.stack = argsL.reverse ++ rest) (hW : 2 * g.monitorRoom + (rest.map fun v => v.category).sum ≤ W9) (hdg : decode c.code g.pc = .ok (.invokestatic index, 3))
    (hpre : ∀ vm₁, s.WarmedH vm₁ → Pre ⟨T.setVm vm₁, locs, cells, slots⟩ argsL.toArray) :
    (∃ (v : Option Value) (vm₁ : Vm) (B : Pt), s.WarmedH vm₁ ∧ Stand p l e R s m args below meth c B.U B.locs B.cells B.slots ∧ Post ⟨T.setVm vm₁, locs, cells, slots⟩ argsL.toArray v B ∧
      ∀ target, Steps p.tables e below (B.U.setTop { g with pc := g.pc + 3, stack := v.toList ++ rest }) target → Steps p.tables e below (T.setTop g) target) ∨
    (∃ (q : Addr) (vm₁ : Vm) (B : Pt), s.WarmedH vm₁ ∧ Stand p l e R s m args below meth c B.U B.locs B.cells B.slots ∧ PostX ⟨T.setVm vm₁, locs, cells, slots⟩ argsL.toArray q B ∧
      Steps p.tables e below (T.setTop g) ((B.U.setTop { g with stack := rest }).pushFrame (.throwing q))) := by
  obtain ⟨mk, hnamed⟩ := Cond.code_named hcode
  obtain ⟨methM, cM, hmethM, -, -, -, -, -, -, hsigM⟩ := Cond.code_spec hnamed hcode
  have hstatic : methM.isStatic = true := Cond.static_spec hnamed hmethM hstat
  obtain ⟨kP, hkP, -⟩ := className_of_methodNamed hnamed
  have hinitP : kP.init = .initialized := Cond.initialized_spec (findClass_of_methodNamed hnamed) hkP hinit
  obtain ⟨vm₁, X₁, hstep₁⟩ := X.invokestatic hexec hown hlink hnamed hmethM hstatic hkP hinitP hy (g := g) hg (argsL := argsL) (rest := rest) (hlen _ hsigM) hstack hdg
  rcases hK m meth c ⟨T.setVm vm₁, locs, cells, slots⟩ { g with stack := rest } (.invokestatic index) mk argsL.toArray X₁ hg hsize hdg hW (X₁.named hnamed) (hpre vm₁ X₁.warmed) with ⟨v, B, X', hpost, hsteps⟩ | ⟨q, B, X', hpost, hsteps⟩
  · exact Or.inl ⟨v, vm₁, B, X₁.warmed, X', hpost, fun target h => hstep₁ _ fun acts => by rw [doInvoke_state]; exact hsteps.trans h⟩
  · exact Or.inr ⟨q, vm₁, B, X₁.warmed, X', hpost, hstep₁ _ fun acts => by rw [doInvoke_state]; exact hsteps⟩
end Calls
theorem vx_cls {s : State} {T : State} {vm₁ : Vm} {E : String} {k : ClassId} (hW : s.WarmedH vm₁) (h : (T.setVm vm₁).vm.findClass E = some k) : s.vm.findClass E = some k := by
  have h1 : vm₁.findClass E = some k := h
  rw [hW.alike.findClass] at h1
  exact h1
/-- the method's frame g, with q thrown over it -/
def vx_W (p : Program) (l : Launch) (e : Env) (R : Room) (s : State) (m : MethodId) (args : Array Value) (below : List Frame) (meth : Method) (c : Code) (H : Heap) (locs : List Loc) (cells slots : Nat) (Q : State → Prop) (g : JFrame) (q : Addr) : Prop :=
  ∀ T : State, T.heap = H → Stand p l e R s m args below meth c T locs cells slots → ∃ t, Steps p.tables e below ((T.setTop g).pushFrame (.throwing q)) t ∧ Q t
def vx_Run (p : Program) (l : Launch) (e : Env) (R : Room) (s : State) (m : MethodId) (args : Array Value) (below : List Frame) (meth : Method) (c : Code) (H : Heap) (locs : List Loc) (cells slots mc ms : Nat) (g : JFrame) (rest : List Value) (Qa : State → Outcome → State → Prop) (XC : String → State → State → Prop) (free : Addr → Prop) : Prop :=
  ∀ T : State, T.heap = H → Stand p l e R s m args below meth c T locs cells slots →
    (∃ (v : Option Value) (st₀ t T' : State) (L : List Loc), st₀.heap = H ∧ Stand p l e R s m args below meth c T' (locs ++ L) (cells + mc) (slots + ms) ∧ (∀ q ∈ L, free q.base) ∧ T'.heap = t.heap ∧ T'.vm = t.vm ∧ Qa st₀ (.returned v) t ∧
      Goes p e below T g T' { g with pc := g.pc + 3, stack := v.toList ++ rest }) ∨
    (∃ (q : Addr) (st₀ t T' : State) (L : List Loc) (E : String) (ce : Cell), st₀.heap = H ∧ Stand p l e R s m args below meth c T' (locs ++ L) (cells + mc) (slots + ms) ∧ (∀ z ∈ L, free z.base) ∧ T'.heap = t.heap ∧ T'.vm = t.vm ∧ XC E st₀ t ∧ t.heap[q]? = some ce ∧ ce.vm = .none ∧ s.vm.findClass E = some ce.cls ∧
      Steps p.tables e below (T.setTop g) ((T'.setTop { g with stack := rest }).pushFrame (.throwing q)))
def vx_X {S : Type} (px : S → Prop) (B : String → S → State → Prop) (A : Nat → Prop) : String → State → State → Prop := fun E st t => ∃ u : S, px u ∧ B E u t ∧ va_F A st t
section Runs
variable {p : Program} {l : Launch} {e : Env} {R : Room} {s : State} {m : MethodId} {args : Array Value} {below : List Frame} {meth : Method} {c : Code} {H : Heap} {locs : List Loc} {cells slots : Nat}
variable {y : MethodName} {bytes cc : ByteArray} {maxL nL mc ms n index : Nat} {ret : Option FieldType} {ws : List Cond} {rm : Room} {Pc : Array Value → State → Prop} {Qc : Array Value → State → Outcome → State → Prop} {XC : String → State → State → Prop} {free : Addr → Prop} {Ts : List Cond} {own C : String} {b : Addr} {As rest : List Value} {g : JFrame}
theorem vx_callBack (cb : CallB R s args own index y bytes maxL ret ws rm mc ms n) (hM : vx_Met l y ws rm Pc Qc XC mc ms free) (hbl : FrameBlind Pc) : vx_Back l R p e below s args y 3 8 (PreOf R mc ms Pc) (PostOf Qc mc ms free) (vx_Post XC mc ms free) := by
  obtain ⟨hrc, hrs, hfr, hlo, hws, hcw, -, hini, -⟩ := cb
  exact vx_back (bytes := bytes) (maxL := maxL) (ret := ret) hM hbl hrc hrs hfr hlo hws hcw (fun a' U hW => word_at hW (Or.inl (by first | rfl | simp [Cond.onTables, Cond.keeps, Cond.steady])) hini)
theorem vx_runV (S : CallFix p m c cc nL s args Ts own) (hM : vx_Met l y ws rm Pc Qc XC mc ms free) (cw : CallW R s args own C index y bytes maxL ret ws rm mc ms n) (hp : PreV s H C b Pc As)
    (hg : g.method = m) (hn : As.length = n) (hsize : g.locals.size = nL) (hstack : g.stack = As.reverse ++ .ref b :: rest) (hW : 2 * g.monitorRoom + (rest.map fun v => v.category).sum ≤ 8) (hdg : decode cc g.pc = .ok (.invokevirtual index, 3)) (hf : cells + mc ≤ R.cells ∧ slots + ms ≤ R.slots) :
    vx_Run p l e R s m args below meth c H locs cells slots mc ms g rest (Qc (Value.ref b :: As).toArray) XC free := by
  have hK : vx_Back l R p e below s args y 3 8 (PreOf R mc ms Pc) (PostOf Qc mc ms free) (vx_Post XC mc ms free) := vx_callBack cw.1 hM hp.1
  obtain ⟨⟨-, -, -, -, -, -, hcode, -, hy, hlen, hl⟩, hin, hse⟩ := cw
  obtain ⟨hx, hb, hml, ho, -⟩ := S
  obtain ⟨-, ⟨cellB, hcB, hoB, hclB⟩, hPc⟩ := hp
  intro T hT X
  rcases vx_callV X hx (C := C) (bytes := bytes) (maxL := maxL) (ret := ret) ho hl hin hse hcode hy hK (by rw [hT]; exact hcB) hoB hclB hg (hsize.trans hml.symm) (argsL := As) (rest := rest) (fun sig h => hn.trans (hlen sig h)) hstack hW (by rw [hb]; exact hdg)
    (fun vm₁ hW₁ => ⟨hf.1, hf.2, hPc (T.setVm vm₁) hT hW₁⟩) with ⟨v, vm₁, ⟨U', l2, c2, s2⟩, hW₁, X', ⟨g', mk, t, L, e1, e2, hq, h1, hL, h2, h3⟩, st⟩ | ⟨q, vm₁, ⟨U', l2, c2, s2⟩, hW₁, X', ⟨g', mk, t, L, E, ce, e1, e2, hq, hce, hcv, hcl, h1, hL, h2, h3⟩, st⟩
  · dsimp only [Pt.U, Pt.locs, Pt.cells, Pt.slots] at X' e1 e2 h1 h2 h3 st
    subst h1; subst h2; subst h3
    exact Or.inl ⟨v, (T.setVm vm₁).calling g' mk (Value.ref b :: As).toArray, t, U', L, hT, X', hL, e1, e2, hq, st⟩
  · dsimp only [Pt.U, Pt.locs, Pt.cells, Pt.slots] at X' e1 e2 h1 h2 h3 st hcl
    subst h1; subst h2; subst h3
    exact Or.inr ⟨q, (T.setVm vm₁).calling g' mk (Value.ref b :: As).toArray, t, U', L, E, ce, hT, X', hL, e1, e2, hq, hce, hcv, vx_cls hW₁ hcl, st⟩
theorem vx_runS (S : CallFix p m c cc nL s args Ts own) (hM : vx_Met l y ws rm Pc Qc XC mc ms free) (cw : CallB R s args own index y bytes maxL ret ws rm mc ms n ∧ (Cond.static y).before args s = true) (hp : PreS s H Pc As)
    (hg : g.method = m) (hn : As.length = n) (hsize : g.locals.size = nL) (hstack : g.stack = As.reverse ++ rest) (hW : 2 * g.monitorRoom + (rest.map fun v => v.category).sum ≤ 8) (hdg : decode cc g.pc = .ok (.invokestatic index, 3)) (hf : cells + mc ≤ R.cells ∧ slots + ms ≤ R.slots) :
    vx_Run p l e R s m args below meth c H locs cells slots mc ms g rest (Qc As.toArray) XC free := by
  have hK : vx_Back l R p e below s args y 3 8 (PreOf R mc ms Pc) (PostOf Qc mc ms free) (vx_Post XC mc ms free) := vx_callBack cw.1 hM hp.1
  obtain ⟨⟨-, -, -, -, -, -, hcode, hini, hy, hlen, hl⟩, hstt⟩ := cw
  obtain ⟨hx, hb, hml, ho, -⟩ := S
  intro T hT X
  rcases vx_callS X hx (bytes := bytes) (maxL := maxL) (ret := ret) ho hl hstt hini hcode hy hK hg (hsize.trans hml.symm) (argsL := As) (rest := rest) (fun sig h => hn.trans (hlen sig h)) hstack hW (by rw [hb]; exact hdg)
    (fun vm₁ hW₁ => ⟨hf.1, hf.2, hp.2 (T.setVm vm₁) hT hW₁⟩) with ⟨v, vm₁, ⟨U', l2, c2, s2⟩, hW₁, X', ⟨g', mk, t, L, e1, e2, hq, h1, hL, h2, h3⟩, st⟩ | ⟨q, vm₁, ⟨U', l2, c2, s2⟩, hW₁, X', ⟨g', mk, t, L, E, ce, e1, e2, hq, hce, hcv, hcl, h1, hL, h2, h3⟩, st⟩
  · dsimp only [Pt.U, Pt.locs, Pt.cells, Pt.slots] at X' e1 e2 h1 h2 h3 st
    subst h1; subst h2; subst h3
    exact Or.inl ⟨v, (T.setVm vm₁).calling g' mk As.toArray, t, U', L, hT, X', hL, e1, e2, hq, st⟩
  · dsimp only [Pt.U, Pt.locs, Pt.cells, Pt.slots] at X' e1 e2 h1 h2 h3 st hcl
    subst h1; subst h2; subst h3
    exact Or.inr ⟨q, (T.setVm vm₁).calling g' mk As.toArray, t, U', L, E, ce, hT, X', hL, e1, e2, hq, hce, hcv, vx_cls hW₁ hcl, st⟩
end Runs
section Rows
variable {p : Program} {l : Launch} {e : Env} {R : Room} {s : State} {m : MethodId} {args : Array Value} {below : List Frame} {meth : Method} {c : Code} {H : Heap} {locs : List Loc} {cells slots : Nat} {Q : State → Prop}
variable {mc ms : Nat} {free : Addr → Prop} {A0 A1 : Nat → Prop} {H0 : Heap} {a : Array Value} {pc : Nat} {ls : Array Slot} {st0 rest : List Value}
theorem vx_keep {st₀ t T' : State} {L : List Loc} (h0 : st₀.heap = H) (e1 : T'.heap = t.heap) (hS : va_S A0 H0 H locs) (hA : ∀ q, q < H.size → A1 q → A0 q) (hf : ∀ q, free q → A0 q) (hL : ∀ q ∈ L, free q.base) (hF : va_F A1 st₀ t) :
    H.size ≤ T'.heap.size ∧ (∀ q : Nat, q < H.size → ¬ A1 q → T'.heap[q]? = H[q]?) ∧ va_S A0 H0 T'.heap (locs ++ L) := by
  obtain ⟨hz, hk⟩ := hF
  rw [h0] at hz hk
  exact ⟨by rw [e1]; exact hz, fun q h1 h2 => by rw [e1]; exact hk q h1 h2,
    ⟨Nat.le_trans hS.1 (by rw [e1]; exact hz), fun q h1 h2 => by rw [e1, hk q (Nat.lt_of_lt_of_le h1 hS.1) (fun z => h2 (hA q (Nat.lt_of_lt_of_le h1 hS.1) z))]; exact hS.2.1 q h1 h2, fun q hq => by
      rcases List.mem_append.mp hq with h | h
      · exact hS.2.2 q h
      · exact hf _ (hL q h)⟩⟩
theorem vx_calli {S SX : Type} {post : Int32 → S → Prop} {px : SX → Prop} {B : S → State → Prop} {BX : String → SX → State → Prop} {AX : Nat → Prop} (hr : vx_Run p l e R s m args below meth c H locs cells slots mc ms (F0 m pc ls st0) rest (va_Qi post B A1 a) (vx_X px BX AX) free) (hS : va_S A0 H0 H locs) (hA : ∀ q, q < H.size → A1 q → A0 q) (hf : ∀ q, free q → A0 q) (hAX : ∀ q, q < H.size → AX q → A0 q)
    (kx : ∀ (E : String) (ce : Cell) (q9 : Addr) (u : SX) (t : State) (H1 : Heap) (locs1 : List Loc), t.heap = H1 → s.vm.Alike t.vm → px u → BX E u t → H.size ≤ H1.size → (∀ q : Nat, q < H.size → ¬ AX q → H1[q]? = H[q]?) → va_S A0 H0 H1 locs1 → H1[q9]? = some ce → ce.vm = .none → s.vm.findClass E = some ce.cls → vx_W p l e R s m args below meth c H1 locs1 (cells + mc) (slots + ms) Q (F0 m pc ls rest) q9)
    (kk : ∀ (r : Int32) (u : S) (t : State) (H1 : Heap) (locs1 : List Loc), t.heap = H1 → s.vm.Alike t.vm → post r u → B u t → H.size ≤ H1.size → (∀ q : Nat, q < H.size → ¬ A1 q → H1[q]? = H[q]?) → va_S A0 H0 H1 locs1 → W p l e R s m args below meth c H1 locs1 (cells + mc) (slots + ms) Q (F0 m (pc + 3) ls (.int r :: rest))) : W p l e R s m args below meth c H locs cells slots Q (F0 m pc ls st0) := by
  intro T hT X
  rcases hr T hT X with ⟨v, st₀, t, T', L, h0, X', hL, e1, e2, ⟨⟨r, u, hv, hp, hb⟩, hF⟩, st⟩ | ⟨q, st₀, t, T', L, E, ce, h0, X', hL, e1, e2, ⟨u, hp, hb, hF⟩, hce, hcv, hcl, st⟩
  · cases hv
    obtain ⟨k1, k2, k3⟩ := vx_keep h0 e1 hS hA hf hL hF
    obtain ⟨t2, a1, b1⟩ := kk r u t T'.heap (locs ++ L) e1.symm (by rw [← e2]; exact X'.warmed.alike) hp hb k1 k2 k3 T' rfl X'
    exact ⟨t2, st t2 a1, b1⟩
  · obtain ⟨k1, k2, k3⟩ := vx_keep h0 e1 hS hAX hf hL hF
    obtain ⟨t2, a1, b1⟩ := kx E ce q u t T'.heap (locs ++ L) e1.symm (by rw [← e2]; exact X'.warmed.alike) hp hb k1 k2 k3 (by rw [e1]; exact hce) hcv hcl T' rfl X'
    exact ⟨t2, st.trans a1, b1⟩
theorem vx_calll {S SX : Type} {post : Int64 → S → Prop} {px : SX → Prop} {B : S → State → Prop} {BX : String → SX → State → Prop} {AX : Nat → Prop} (hr : vx_Run p l e R s m args below meth c H locs cells slots mc ms (F0 m pc ls st0) rest (va_Ql post B A1 a) (vx_X px BX AX) free) (hS : va_S A0 H0 H locs) (hA : ∀ q, q < H.size → A1 q → A0 q) (hf : ∀ q, free q → A0 q) (hAX : ∀ q, q < H.size → AX q → A0 q)
    (kx : ∀ (E : String) (ce : Cell) (q9 : Addr) (u : SX) (t : State) (H1 : Heap) (locs1 : List Loc), t.heap = H1 → s.vm.Alike t.vm → px u → BX E u t → H.size ≤ H1.size → (∀ q : Nat, q < H.size → ¬ AX q → H1[q]? = H[q]?) → va_S A0 H0 H1 locs1 → H1[q9]? = some ce → ce.vm = .none → s.vm.findClass E = some ce.cls → vx_W p l e R s m args below meth c H1 locs1 (cells + mc) (slots + ms) Q (F0 m pc ls rest) q9)
    (kk : ∀ (r : Int64) (u : S) (t : State) (H1 : Heap) (locs1 : List Loc), t.heap = H1 → s.vm.Alike t.vm → post r u → B u t → H.size ≤ H1.size → (∀ q : Nat, q < H.size → ¬ A1 q → H1[q]? = H[q]?) → va_S A0 H0 H1 locs1 → W p l e R s m args below meth c H1 locs1 (cells + mc) (slots + ms) Q (F0 m (pc + 3) ls (.long r :: rest))) : W p l e R s m args below meth c H locs cells slots Q (F0 m pc ls st0) := by
  intro T hT X
  rcases hr T hT X with ⟨v, st₀, t, T', L, h0, X', hL, e1, e2, ⟨⟨r, u, hv, hp, hb⟩, hF⟩, st⟩ | ⟨q, st₀, t, T', L, E, ce, h0, X', hL, e1, e2, ⟨u, hp, hb, hF⟩, hce, hcv, hcl, st⟩
  · cases hv
    obtain ⟨k1, k2, k3⟩ := vx_keep h0 e1 hS hA hf hL hF
    obtain ⟨t2, a1, b1⟩ := kk r u t T'.heap (locs ++ L) e1.symm (by rw [← e2]; exact X'.warmed.alike) hp hb k1 k2 k3 T' rfl X'
    exact ⟨t2, st t2 a1, b1⟩
  · obtain ⟨k1, k2, k3⟩ := vx_keep h0 e1 hS hAX hf hL hF
    obtain ⟨t2, a1, b1⟩ := kx E ce q u t T'.heap (locs ++ L) e1.symm (by rw [← e2]; exact X'.warmed.alike) hp hb k1 k2 k3 (by rw [e1]; exact hce) hcv hcl T' rfl X'
    exact ⟨t2, st.trans a1, b1⟩
theorem vx_callf {S SX : Type} {post : UInt32 → S → Prop} {px : SX → Prop} {B : S → State → Prop} {BX : String → SX → State → Prop} {AX : Nat → Prop} (hr : vx_Run p l e R s m args below meth c H locs cells slots mc ms (F0 m pc ls st0) rest (va_Qf post B A1 a) (vx_X px BX AX) free) (hS : va_S A0 H0 H locs) (hA : ∀ q, q < H.size → A1 q → A0 q) (hf : ∀ q, free q → A0 q) (hAX : ∀ q, q < H.size → AX q → A0 q)
    (kx : ∀ (E : String) (ce : Cell) (q9 : Addr) (u : SX) (t : State) (H1 : Heap) (locs1 : List Loc), t.heap = H1 → s.vm.Alike t.vm → px u → BX E u t → H.size ≤ H1.size → (∀ q : Nat, q < H.size → ¬ AX q → H1[q]? = H[q]?) → va_S A0 H0 H1 locs1 → H1[q9]? = some ce → ce.vm = .none → s.vm.findClass E = some ce.cls → vx_W p l e R s m args below meth c H1 locs1 (cells + mc) (slots + ms) Q (F0 m pc ls rest) q9)
    (kk : ∀ (r : UInt32) (u : S) (t : State) (H1 : Heap) (locs1 : List Loc), t.heap = H1 → s.vm.Alike t.vm → post r u → B u t → H.size ≤ H1.size → (∀ q : Nat, q < H.size → ¬ A1 q → H1[q]? = H[q]?) → va_S A0 H0 H1 locs1 → W p l e R s m args below meth c H1 locs1 (cells + mc) (slots + ms) Q (F0 m (pc + 3) ls (.float r :: rest))) : W p l e R s m args below meth c H locs cells slots Q (F0 m pc ls st0) := by
  intro T hT X
  rcases hr T hT X with ⟨v, st₀, t, T', L, h0, X', hL, e1, e2, ⟨⟨r, u, hv, hp, hb⟩, hF⟩, st⟩ | ⟨q, st₀, t, T', L, E, ce, h0, X', hL, e1, e2, ⟨u, hp, hb, hF⟩, hce, hcv, hcl, st⟩
  · cases hv
    obtain ⟨k1, k2, k3⟩ := vx_keep h0 e1 hS hA hf hL hF
    obtain ⟨t2, a1, b1⟩ := kk r u t T'.heap (locs ++ L) e1.symm (by rw [← e2]; exact X'.warmed.alike) hp hb k1 k2 k3 T' rfl X'
    exact ⟨t2, st t2 a1, b1⟩
  · obtain ⟨k1, k2, k3⟩ := vx_keep h0 e1 hS hAX hf hL hF
    obtain ⟨t2, a1, b1⟩ := kx E ce q u t T'.heap (locs ++ L) e1.symm (by rw [← e2]; exact X'.warmed.alike) hp hb k1 k2 k3 (by rw [e1]; exact hce) hcv hcl T' rfl X'
    exact ⟨t2, st.trans a1, b1⟩
theorem vx_calld {S SX : Type} {post : UInt64 → S → Prop} {px : SX → Prop} {B : S → State → Prop} {BX : String → SX → State → Prop} {AX : Nat → Prop} (hr : vx_Run p l e R s m args below meth c H locs cells slots mc ms (F0 m pc ls st0) rest (va_Qd post B A1 a) (vx_X px BX AX) free) (hS : va_S A0 H0 H locs) (hA : ∀ q, q < H.size → A1 q → A0 q) (hf : ∀ q, free q → A0 q) (hAX : ∀ q, q < H.size → AX q → A0 q)
    (kx : ∀ (E : String) (ce : Cell) (q9 : Addr) (u : SX) (t : State) (H1 : Heap) (locs1 : List Loc), t.heap = H1 → s.vm.Alike t.vm → px u → BX E u t → H.size ≤ H1.size → (∀ q : Nat, q < H.size → ¬ AX q → H1[q]? = H[q]?) → va_S A0 H0 H1 locs1 → H1[q9]? = some ce → ce.vm = .none → s.vm.findClass E = some ce.cls → vx_W p l e R s m args below meth c H1 locs1 (cells + mc) (slots + ms) Q (F0 m pc ls rest) q9)
    (kk : ∀ (r : UInt64) (u : S) (t : State) (H1 : Heap) (locs1 : List Loc), t.heap = H1 → s.vm.Alike t.vm → post r u → B u t → H.size ≤ H1.size → (∀ q : Nat, q < H.size → ¬ A1 q → H1[q]? = H[q]?) → va_S A0 H0 H1 locs1 → W p l e R s m args below meth c H1 locs1 (cells + mc) (slots + ms) Q (F0 m (pc + 3) ls (.double r :: rest))) : W p l e R s m args below meth c H locs cells slots Q (F0 m pc ls st0) := by
  intro T hT X
  rcases hr T hT X with ⟨v, st₀, t, T', L, h0, X', hL, e1, e2, ⟨⟨r, u, hv, hp, hb⟩, hF⟩, st⟩ | ⟨q, st₀, t, T', L, E, ce, h0, X', hL, e1, e2, ⟨u, hp, hb, hF⟩, hce, hcv, hcl, st⟩
  · cases hv
    obtain ⟨k1, k2, k3⟩ := vx_keep h0 e1 hS hA hf hL hF
    obtain ⟨t2, a1, b1⟩ := kk r u t T'.heap (locs ++ L) e1.symm (by rw [← e2]; exact X'.warmed.alike) hp hb k1 k2 k3 T' rfl X'
    exact ⟨t2, st t2 a1, b1⟩
  · obtain ⟨k1, k2, k3⟩ := vx_keep h0 e1 hS hAX hf hL hF
    obtain ⟨t2, a1, b1⟩ := kx E ce q u t T'.heap (locs ++ L) e1.symm (by rw [← e2]; exact X'.warmed.alike) hp hb k1 k2 k3 (by rw [e1]; exact hce) hcv hcl T' rfl X'
    exact ⟨t2, st.trans a1, b1⟩
theorem vx_callv {S SX : Type} {post : S → Prop} {px : SX → Prop} {B : S → State → Prop} {BX : String → SX → State → Prop} {AX : Nat → Prop} (hr : vx_Run p l e R s m args below meth c H locs cells slots mc ms (F0 m pc ls st0) rest (va_Qv post B A1 a) (vx_X px BX AX) free) (hS : va_S A0 H0 H locs) (hA : ∀ q, q < H.size → A1 q → A0 q) (hf : ∀ q, free q → A0 q) (hAX : ∀ q, q < H.size → AX q → A0 q)
    (kx : ∀ (E : String) (ce : Cell) (q9 : Addr) (u : SX) (t : State) (H1 : Heap) (locs1 : List Loc), t.heap = H1 → s.vm.Alike t.vm → px u → BX E u t → H.size ≤ H1.size → (∀ q : Nat, q < H.size → ¬ AX q → H1[q]? = H[q]?) → va_S A0 H0 H1 locs1 → H1[q9]? = some ce → ce.vm = .none → s.vm.findClass E = some ce.cls → vx_W p l e R s m args below meth c H1 locs1 (cells + mc) (slots + ms) Q (F0 m pc ls rest) q9)
    (kk : ∀ (u : S) (t : State) (H1 : Heap) (locs1 : List Loc), t.heap = H1 → s.vm.Alike t.vm → post u → B u t → H.size ≤ H1.size → (∀ q : Nat, q < H.size → ¬ A1 q → H1[q]? = H[q]?) → va_S A0 H0 H1 locs1 → W p l e R s m args below meth c H1 locs1 (cells + mc) (slots + ms) Q (F0 m (pc + 3) ls (rest))) : W p l e R s m args below meth c H locs cells slots Q (F0 m pc ls st0) := by
  intro T hT X
  rcases hr T hT X with ⟨v, st₀, t, T', L, h0, X', hL, e1, e2, ⟨⟨u, hv, hp, hb⟩, hF⟩, st⟩ | ⟨q, st₀, t, T', L, E, ce, h0, X', hL, e1, e2, ⟨u, hp, hb, hF⟩, hce, hcv, hcl, st⟩
  · cases hv
    obtain ⟨k1, k2, k3⟩ := vx_keep h0 e1 hS hA hf hL hF
    obtain ⟨t2, a1, b1⟩ := kk u t T'.heap (locs ++ L) e1.symm (by rw [← e2]; exact X'.warmed.alike) hp hb k1 k2 k3 T' rfl X'
    exact ⟨t2, st t2 a1, b1⟩
  · obtain ⟨k1, k2, k3⟩ := vx_keep h0 e1 hS hAX hf hL hF
    obtain ⟨t2, a1, b1⟩ := kx E ce q u t T'.heap (locs ++ L) e1.symm (by rw [← e2]; exact X'.warmed.alike) hp hb k1 k2 k3 (by rw [e1]; exact hce) hcv hcl T' rfl X'
    exact ⟨t2, st.trans a1, b1⟩
/-- caught by the row x of this method's table; the rows ahead don't take it -/
theorem vx_catch {own name : String} {E : String} {ce : Cell} {q : Addr} (hown : s.vm.findClass own = some m.cls) (pre : List ExceptionTableEntry) (x : ExceptionTableEntry) (suf : List ExceptionTableEntry) (hsplit : c.exceptionTable.toList = pre ++ x :: suf)
    (hpass : ∀ z ∈ pre, covers z pc = false ∨ (z.catchType ≠ 0 ∧ ∃ nm : String, (Cond.classLink own z.catchType nm).before args s = true ∧ va_Nc E nm s)) (hx : covers x pc = true) (h0 : x.catchType ≠ 0)
    (hlink : (Cond.classLink own x.catchType name).before args s = true) (hcast : (Cond.castable E name).before args s = true) (hcell : H[q]? = some ce) (hv : ce.vm = .none) (hcl : s.vm.findClass E = some ce.cls)
    (kk : W p l e R s m args below meth c H locs cells slots Q (F0 m x.handlerPc ls [.ref q])) : vx_W p l e R s m args below meth c H locs cells slots Q (F0 m pc ls rest) q := by
  intro T hT X
  have hpl : e.platform.magicAccessors = ({} : Platform).magicAccessors := by rw [X.admits.platform]
  obtain ⟨c3, c4, hc3, hc4, hasg⟩ := Cond.castable_spec hcast
  cases Option.some.inj (hc3.symm.trans hcl)
  obtain ⟨c5, hc5, hcl5⟩ := Cond.classLink_spec hown hlink e.platform hpl
  cases Option.some.inj (hc4.symm.trans hc5)
  obtain ⟨vm', X', st⟩ := X.thenCaughtThrough q (g := F0 m pc ls rest) rfl (Steps.refl _) (by rw [hT]; exact hcell) (by rw [hv]; rfl) (by obtain ⟨k9, h9, -⟩ := Vm.findClass_spec hcl; exact ⟨k9, h9⟩) pre x suf hsplit
    (fun z hz => by
      rcases hpass z hz with h | ⟨hz0, nm, hl1, hn1⟩
      · exact Or.inl h
      · obtain ⟨c6, hc6, hcl6⟩ := Cond.classLink_spec hown hl1 e.platform hpl
        obtain ⟨a8, b8, h1, h2, h3⟩ := hn1
        cases Option.some.inj (h1.symm.trans hcl)
        cases Option.some.inj (h2.symm.trans hc6)
        exact Or.inr ⟨hz0, _, hcl6, h3⟩) hx (Or.inr ⟨h0, c4, hcl5, hasg⟩)
  obtain ⟨t, a1, b1⟩ := kk (T.setVm vm') hT X'
  exact ⟨t, st.trans a1, b1⟩
end Rows
section Ends
variable {p : Program} {l : Launch} {e : Env} {R : Room} {s : State} {m : MethodId} {args : Array Value} {below : List Frame} {meth : Method} {c : Code} {H : Heap} {locs : List Loc} {cells slots : Nat} {Q : State → Prop}
variable {mc ms : Nat} {free : Addr → Prop} {A0 A1 : Nat → Prop} {H0 : Heap} {a : Array Value} {ls : Array Slot} {st0 rest : List Value}
variable {Qc : Array Value → State → Outcome → State → Prop} {XC : String → State → State → Prop}
/-- what a body that may throw owes at its end -/
def vx_MQ (below : List Frame) (Qc : Array Value → State → Outcome → State → Prop) (XC : String → State → State → Prop) (a : Array Value) (s : State) (mc ms : Nat) (free : Addr → Prop) : State → Prop := fun t =>
  ∃ o, t.status = .running ∧ Ended t below o ∧ vx_Q Qc XC mc ms free a s o t
theorem vx_ret {g : JFrame} {mc ms : Nat} (k : W p l e R s m args below meth c H locs cells slots (MQ below Qc args s mc ms free) g) : W p l e R s m args below meth c H locs cells slots (vx_MQ below Qc XC args s mc ms free) g := by
  intro T hT X
  obtain ⟨t, a1, o, b1, b2, b3, b4⟩ := k T hT X
  exact ⟨t, a1, o, b1, b2, Or.inl ⟨b3, b4⟩⟩
/-- not caught here: it goes on to the caller -/
theorem vx_widen {g : JFrame} {q : Addr} {k n : Nat} (h1 : cells ≤ k) (h2 : slots ≤ n) (kk : vx_W p l e R s m args below meth c H locs k n Q g q) : vx_W p l e R s m args below meth c H locs cells slots Q g q := fun T hT X => kk T hT (stand_widen X h1 h2)
theorem vx_out {pc : Nat} {E : String} {ce : Cell} {q : Addr} {mc ms : Nat} (hout : ∀ x ∈ c.exceptionTable.toList, covers x pc = false) (hlocks : meth.locks = false) (hcell : H[q]? = some ce) (hv : ce.vm = .none) (hcl : s.vm.findClass E = some ce.cls)
    (hx : ∀ t : State, t.heap = H → s.vm.Alike t.vm → XC E s t) (hf : ∀ z ∈ locs, free z.base) (hc : cells ≤ mc) (hs : slots ≤ ms) :
    vx_W p l e R s m args below meth c H locs cells slots (vx_MQ below Qc XC args s mc ms free) (F0 m pc ls rest) q := by
  intro T hT X
  obtain ⟨st1, hrun, hend, hW, hsm⟩ := X.leaveThrown q (g := F0 m pc ls rest) rfl rfl rfl hout hlocks
  have hcell9 : (T.setFrames (.throwing q :: below)).heap[q]? = some ce := by
    show T.heap[q]? = some ce
    rw [hT]; exact hcell
  exact ⟨_, st1, .threw q, hrun, hend, Or.inr ⟨q, rfl, E, ce, locs, hx _ hT hW.alike, hcell9, hv, hcl, hW, hsm.mono hc hs, hf⟩⟩
theorem vx_frame {U : State} {k n : Nat} (h : s.sameButNew ({ U with vm := s.vm } : State) locs k n) : s.heap.size ≤ U.heap.size ∧ ∀ q : Nat, q < s.heap.size → (∀ z ∈ locs, z.base ≠ q) → U.heap[q]? = s.heap[q]? := by
  obtain ⟨-, h2, -, -, -, h6⟩ := h
  refine ⟨h2, fun q hq hz => ?_⟩
  obtain ⟨c9, e1, e2, e3, e4⟩ := h6 q _ (Array.getElem?_eq_getElem hq)
  have hs : c9.slots = (s.heap[q]).slots := Array.ext_getElem? fun i => e4 i fun hm => hz _ hm rfl
  have h9 : c9 = s.heap[q] := by
    rw [hs] at e2
    exact e2
  have e5 : U.heap[q]? = some c9 := e1
  rw [e5, h9, Array.getElem?_eq_getElem hq]
/-- the words of a throw but the four that speak of the heap -/
def vx_no (w : Cond) : Bool := decide (w ≠ .isRef (.static Bundle.tN "UNASSIGNED_STACK" Bundle.steD)) && decide (w ≠ .isRef (.static Bundle.tN "SUPPRESSED_SENTINEL" Bundle.listD)) && decide (w ≠ .laysStatic Bundle.tN "UNASSIGNED_STACK" Bundle.steD) && decide (w ≠ .laysStatic Bundle.tN "SUPPRESSED_SENTINEL" Bundle.listD)
def vx_at0 (own : String) (ic : Nat) (X : String) (names : List String) : List Cond := (Bundle.ownAtoms0 own ic X names).filter vx_no
def vx_atS (own : String) (ic : Nat) (X : String) (names : List String) : List Cond := (Bundle.ownAtoms own ic X names).filter vx_no
/-- a word that the tables alone decide, or a good one -/
def vx_ot (w : Cond) : Bool := w.onTables || goodWord w
theorem vx_ot_at {args a' : Array Value} {s U : State} {w : Cond} (hW : s.WarmedH U.vm) (hvm : s.vm = U.vm) (hg : vx_ot w = true) (h : w.before args s = true) : w.before a' U = true := by
  simp only [vx_ot, Bool.or_eq_true] at hg
  rcases hg with hg | hg
  · exact va_tabs hg hvm h
  · exact word_at hW (good_of_word hg) h
/-- a list's words: the good ones out of the method's own list, the others by premises of their own -/
theorem vx_hat {args : Array Value} {s : State} {L B : List Cond} (h1 : ∀ w ∈ L.filter goodWord, w.before args s = true) (h2 : ∀ w ∈ L.filter (fun w => !goodWord w), w ∈ B) (h3 : ∀ w ∈ B, w.before args s = true) : ∀ w ∈ L, w.before args s = true := by
  intro w hw
  by_cases g : goodWord w = true
  · exact h1 w (List.mem_filter.mpr ⟨hw, g⟩)
  · refine h3 w (h2 w (List.mem_filter.mpr ⟨hw, ?_⟩))
    show (!goodWord w) = true
    cases hgw : goodWord w
    · rfl
    · exact absurd hgw g
theorem vx_c {args : Array Value} {s : State} {w : Cond} {B : List Cond} (h : w.before args s = true) (t : ∀ w ∈ B, w.before args s = true) : ∀ w' ∈ w :: B, w'.before args s = true := fun w' h' => (List.mem_cons.mp h').elim (fun e => by rw [e]; exact h) (t w')
theorem vx_n {args : Array Value} {s : State} : ∀ w ∈ ([] : List Cond), w.before args s = true := fun _ h => nomatch h
theorem vx_own {args : Array Value} {s : State} {L : List Cond} (h1 : ∀ w ∈ L.filter vx_no, w.before args s = true)
    (hU : (Cond.isRef (.static Bundle.tN "UNASSIGNED_STACK" Bundle.steD)).before args s = true) (hN : (Cond.isRef (.static Bundle.tN "SUPPRESSED_SENTINEL" Bundle.listD)).before args s = true)
    (lU : (Cond.laysStatic Bundle.tN "UNASSIGNED_STACK" Bundle.steD).before args s = true) (lN : (Cond.laysStatic Bundle.tN "SUPPRESSED_SENTINEL" Bundle.listD).before args s = true) : ∀ w ∈ L, w.before args s = true := by
  intro w hw
  by_cases e1 : w = .isRef (.static Bundle.tN "UNASSIGNED_STACK" Bundle.steD)
  · rw [e1]; exact hU
  · by_cases e2 : w = .isRef (.static Bundle.tN "SUPPRESSED_SENTINEL" Bundle.listD)
    · rw [e2]; exact hN
    · by_cases e3 : w = .laysStatic Bundle.tN "UNASSIGNED_STACK" Bundle.steD
      · rw [e3]; exact lU
      · by_cases e4 : w = .laysStatic Bundle.tN "SUPPRESSED_SENTINEL" Bundle.listD
        · rw [e4]; exact lN
        · exact h1 w (List.mem_filter.mpr ⟨hw, by unfold vx_no; rw [decide_eq_true e1, decide_eq_true e2, decide_eq_true e3, decide_eq_true e4]; rfl⟩)
/-- where a static field lies, its class's statics cell in H -/
def vx_L (C n d : String) (A : Nat → Prop) (U : State) (H : Heap) : Prop := ∃ (c : ClassId) (k : Class) (i : Nat) (f : Field) (a : Nat) (cell : Cell), U.vm.findClass C = some c ∧ U.fieldFound? C n d = some (c, k, i, f) ∧ f.isStatic = true ∧ k.statics = some a ∧ H[a]? = some cell ∧ cell.vm.isStatics = true ∧ cell.cls = c ∧ f.slot < cell.slots.size ∧ k.staticTypes[f.slot]? = some f.type ∧ ¬ A a
theorem vx_L.moved {C n d : String} {A : Nat → Prop} {u U : State} {H : Heap} (hvm : u.vm.Alike U.vm) (h : vx_L C n d A u H) : vx_L C n d A U H := by
  obtain ⟨c, k, i, f, a, cell, h1, h2, h3, h4, h5, h6, h7, h8, h9, h10⟩ := h
  obtain ⟨k', hi', he⟩ := State.fieldFound?_setVm hvm h2
  exact ⟨c, k', i, f, a, cell, by rw [hvm.findClass]; exact h1, hi', h3, by rw [he]; exact h4, h5, h6, h7, h8, by rw [he]; exact h9, h10⟩
theorem vx_L.kept {C n d : String} {A : Nat → Prop} {U : State} {H H1 : Heap} (h : vx_L C n d A U H) (hq : ∀ a : Nat, a < H.size → ¬ A a → H1[a]? = H[a]?) : vx_L C n d A U H1 := by
  obtain ⟨c, k, i, f, a, cell, h1, h2, h3, h4, h5, h6, h7, h8, h9, h10⟩ := h
  exact ⟨c, k, i, f, a, cell, h1, h2, h3, h4, by rw [hq a (Array.getElem?_eq_some_iff.mp h5).1 h10]; exact h5, h6, h7, h8, h9, h10⟩
theorem vx_L.narrow {C n d : String} {A B : Nat → Prop} {U : State} {H : Heap} (h : vx_L C n d A U H) (hAB : ∀ q, B q → A q) : vx_L C n d B U H := by
  obtain ⟨c, k, i, f, a, cell, h1, h2, h3, h4, h5, h6, h7, h8, h9, h10⟩ := h
  exact ⟨c, k, i, f, a, cell, h1, h2, h3, h4, h5, h6, h7, h8, h9, fun z => h10 (hAB _ z)⟩
theorem vx_L.word {C n d : String} {A : Nat → Prop} {s : State} {args : Array Value} (h : vx_L C n d A s s.heap) : (Cond.laysStatic C n d).before args s = true := by
  obtain ⟨c, k, i, f, a, cell, h1, h2, h3, h4, h5, h6, h7, h8, h9, -⟩ := h
  show (Cond.laysStatic C n d).holds args s none s [] = true
  exact Cond.laysStatic_of h1 h2 h3 h4 h5 h6 h7 h8 h9
/-- .. and what it holds: null or some reference -/
def vx_Zq (C n d : String) (A : Nat → Prop) (U : State) (H : Heap) : Prop := va_Zq C n d A U H ∧ vx_L C n d A U H
theorem vx_Zq.moved {C n d : String} {A : Nat → Prop} {u U : State} {H : Heap} (hvm : u.vm.Alike U.vm) (h : vx_Zq C n d A u H) : vx_Zq C n d A U H := ⟨va_Zq.moved hvm h.1, vx_L.moved hvm h.2⟩
theorem vx_Zq.kept {C n d : String} {A : Nat → Prop} {U : State} {H H1 : Heap} (h : vx_Zq C n d A U H) (hq : ∀ a : Nat, a < H.size → ¬ A a → H1[a]? = H[a]?) : vx_Zq C n d A U H1 := ⟨va_Zq.kept h.1 hq, vx_L.kept h.2 hq⟩
theorem vx_Zq.narrow {C n d : String} {A B : Nat → Prop} {U : State} {H : Heap} (h : vx_Zq C n d A U H) (hAB : ∀ q, B q → A q) : vx_Zq C n d B U H := ⟨va_Zq.narrow h.1 hAB, vx_L.narrow h.2 hAB⟩
theorem vx_Zqof {args : Array Value} {s : State} {C n d : String} {A : Nat → Prop} (hl : (Cond.laysStatic C n d).before args s = true) (hini : (Cond.initialized C).before args s = true) (h : (Cond.isRef (.static C n d)).before args s = true) (hA : ∀ a : Nat, a < s.heap.size → ¬ A a) : vx_Zq C n d A s s.heap := by
  refine ⟨va_Zqof hl hini h hA, ?_⟩
  obtain ⟨c, k, i, f, a, cell, h1, h2, h3, h4, h5, h6, h7, h8, h9⟩ := Cond.laysStatic_spec hl
  exact ⟨c, k, i, f, a, cell, h1, h2, h3, h4, h5, h6, h7, h8, h9, hA a (Array.getElem?_eq_some_iff.mp h5).1⟩
theorem vx_isRef {C n d : String} {v : Value} {A : Nat → Prop} {s : State} {args : Array Value} (h : va_Z C n d v A s s.heap) (hv : v.isRef = true) : (Cond.isRef (.static C n d)).before args s = true := by
  obtain ⟨cf, kf, fi, f, a, cell, h1, h2, h3, h4, h5, h6, h7, -⟩ := h
  have he : (Term.static C n d).eval args s none [] s = some v := by
    simp [Term.eval, State.fieldNamed?, h1, h2, h4, h5, h6, h7]
  simp only [Cond.before, Cond.holds, Cond.value, he]
  cases v <;> simp_all [Value.isRef]
theorem vx_isRefq {C n d : String} {A : Nat → Prop} {s : State} {args : Array Value} (h : va_Zq C n d A s s.heap) : (Cond.isRef (.static C n d)).before args s = true := by
  rcases h with h | ⟨t, h⟩
  · exact vx_isRef h rfl
  · exact vx_isRef h rfl
/-- the same frame, seen from here: as if the method were called anew in this heap -/
theorem vx_rebase {T : State} (X : Stand p l e R s m args below meth c T locs cells slots) {R' : Room} (hf : R'.frames ≤ R.frames) (hl : R'.locals ≤ R.locals) (hc : cells + R'.cells ≤ R.cells) (hs : slots + R'.slots ≤ R.slots) :
    Stand p l e R' ((T.setVm s.vm).setFrames (.invoking m args :: below)) m args below meth c T [] 0 0 := by
  have htop : (T.setVm s.vm).topJava?.isSome := X.here.top
  have hF : ((T.setVm s.vm).setFrames (.invoking m args :: below)).frames = .invoking m args :: below := State.frames_setFrames _ (State.cur_lt_of_top htop)
  obtain ⟨g₀, hg0⟩ := Option.isSome_iff_exists.mp htop
  obtain ⟨r, hr⟩ := State.topJava?_eq_some.mp hg0
  have hl9 : e.platform.stackLimits (T.setVm s.vm).me = e.platform.stackLimits s.me := X.limits
  have hb9 : (T.setVm s.vm).me.stackBytes = s.me.stackBytes := X.bytes
  refine ⟨X.admits, X.cas, X.clock, hF, ?_, X.hears, X.method, X.code, X.here, X.tail, X.warmed, ?_, ?_, ?_⟩
  · have h := X.room
    have hU : ((T.setVm s.vm).setFrames (.invoking m args :: below)).localsInUse = s.localsInUse := by
      rw [State.localsInUse_invoking hF (meth := meth) (c := c) X.method X.code, State.localsInUse_invoking X.frames X.method X.code]
    simp only [State.hasRoom, Bool.and_eq_true, decide_eq_true_eq] at h ⊢
    obtain ⟨⟨⟨⟨h1, h2, h3, h4, h5, h6⟩, h7⟩, h8⟩, h9⟩ := h
    rw [X.frames, List.length_cons] at h2 h3
    have q1 := X.heapSize
    have q2 := X.used
    simp only [hF, hU, List.length_cons, State.stackLimits_setFrames, State.stackBytes_setFrames, hl9, hb9]
    refine ⟨⟨⟨⟨by omega, by omega, by omega, by omega, by omega, h6⟩, ?_⟩, ?_⟩, X.book⟩
    · show T.heap.size + R'.cells ≤ e.platform.maxCells
      omega
    · show T.slotsUsed + R'.slots ≤ e.platform.maxSlots
      omega
  · rw [State.stackLimits_setFrames]; rfl
  · rw [State.stackBytes_setFrames]; rfl
  · refine ⟨?_, Nat.le_refl _, Nat.le_refl _, ?_, ?_, fun a c9 h9 => ⟨c9, h9, rfl, rfl, fun _ _ => rfl⟩⟩
    · obtain ⟨t, ht, -⟩ := State.frames_cons hr
      show T.setVm s.vm = { ((T.setVm s.vm).setFrames (.invoking m args :: below)).setFrames (T.setVm s.vm).frames with heap := T.heap, slotsUsed := T.slotsUsed }
      rw [State.setFrames_setFrames, State.setFrames_self ht]
      rfl
    · show T.slotsUsed = T.slotsUsed + ((T.heap.toList.drop T.heap.size).map (·.slots.size)).sum
      rw [List.drop_eq_nil_of_le (Nat.le_of_eq Array.length_toList)]
      rfl
    · show ((T.heap.toList.drop T.heap.size).map (·.slots.size)).sum ≤ 0
      rw [List.drop_eq_nil_of_le (Nat.le_of_eq Array.length_toList)]
      exact Nat.le_refl _
/-- 'throw new E()': new; dup; invokespecial; athrow -/
theorem vx_throw0 {cc : ByteArray} {pc : Nat} (hexec : p.tables.exec = Jvm.exec) (hb : c.code = cc) (hl : l.stackTraces = false) {own cls : String} {names : List String} {ik ic mc ms : Nat} {A : Nat → Prop}
    (hown : s.vm.findClass own = some m.cls) (hcls : Bundle.fit cls = true) (hnames : ∀ n ∈ names, Bundle.fit n = true)
    (hk : (Cond.classLink own ik cls).before args s = true) (hini : (Cond.initialized cls).before args s = true) (hat : ∀ w ∈ vx_at0 own ic cls names, w.before args s = true)
    (hgood : ∀ w ∈ Cond.classLink own ik cls :: Cond.initialized cls :: vx_at0 own ic cls names, vx_ot w = true)
    (hU : vx_Zq Bundle.tN "UNASSIGNED_STACK" Bundle.steD A s s.heap) (hN : vx_Zq Bundle.tN "SUPPRESSED_SENTINEL" Bundle.listD A s s.heap) (hS : va_S A s.heap H locs) (hsize : ls.size = c.maxLocals)
    (d0 : decode cc pc = .ok (.new ik, 3)) (d3 : decode cc (pc + 3) = .ok (.dup, 1)) (d4 : decode cc (pc + 4) = .ok (.invokespecial ic, 3)) (d7 : decode cc (pc + 7) = .ok (.athrow, 1))
    (hout : ∀ x ∈ c.exceptionTable.toList, covers x (pc + 7) = false)
    (hRframes : names.length + 3 < R.frames) (hRlocals : (rest.map fun v => v.category).sum + (13 * (names.length + 1) + 42) ≤ R.locals) (hRcells : cells + 1 ≤ R.cells) (hRslots : slots + 6 ≤ R.slots) (hlocks : meth.locks = false)
    (hx : ∀ t : State, s.vm.Alike t.vm → H.size ≤ t.heap.size → (∀ q : Nat, q < H.size → t.heap[q]? = H[q]?) → XC cls s t)
    (hf : ∀ z ∈ locs, free z.base) (hc : cells + 1 ≤ mc) (hs : slots + 6 ≤ ms) :
    W p l e R s m args below meth c H locs cells slots (vx_MQ below Qc XC args s mc ms free) (F0 m pc ls rest) := by
  intro T hT X
  have htr : e.platform.stackTraces = false := (show e.platform.stackTraces = l.stackTraces by rw [X.admits.platform]).trans hl
  have Y := vx_rebase X (R' := { frames := R.frames, locals := R.locals, cells := 1, slots := 6 }) (Nat.le_refl _) (Nat.le_refl _) hRcells hRslots
  obtain ⟨s', hA⟩ : ∃ z, z = (T.setVm s.vm).setFrames (.invoking m args :: below) := ⟨_, rfl⟩
  rw [← hA] at Y
  have hvm : s'.vm = s.vm := by rw [hA]; rfl
  have hhp : s'.heap = H := by rw [hA]; exact hT
  have hW0 : s.WarmedH s'.vm := by rw [hvm]; exact State.WarmedH.refl s
  have hat' : ∀ w ∈ vx_at0 own ic cls names, w.before args s' = true := fun w hw => vx_ot_at hW0 hvm.symm (hgood w (List.mem_cons_of_mem _ (List.mem_cons_of_mem _ hw))) (hat w hw)
  have hk' : (Cond.classLink own ik cls).before args s' = true := vx_ot_at hW0 hvm.symm (hgood _ List.mem_cons_self) hk
  have hini' : (Cond.initialized cls).before args s' = true := vx_ot_at hW0 hvm.symm (hgood _ (List.mem_cons_of_mem _ List.mem_cons_self)) hini
  have hU' : vx_Zq Bundle.tN "UNASSIGNED_STACK" Bundle.steD A s' s'.heap := by rw [hhp]; exact vx_Zq.moved hW0.alike (hU.kept hS.2.1)
  have hN' : vx_Zq Bundle.tN "SUPPRESSED_SENTINEL" Bundle.listD A s' s'.heap := by rw [hhp]; exact vx_Zq.moved hW0.alike (hN.kept hS.2.1)
  have h : ∀ w ∈ Bundle.ownAtoms0 own ic cls names, w.before args s' = true := vx_own hat' (vx_isRefq hU'.1) (vx_isRefq hN'.1) hU'.2.word hN'.2.word
  have hown' : s'.vm.findClass own = some m.cls := by rw [hvm]; exact hown
  have hins : (Cond.instantiable cls 6).before args s' = true := h _ (by simp [Bundle.ownAtoms0])
  obtain ⟨vm₁, cX, kX, hfX, hkX, -, -, X₁, st1⟩ := Y.newCold hexec (own := own) (C := cls) (index := ik) (n := 6) hown' hk' hins hini'
    (g := F0 m pc ls rest) rfl (by rw [hb]; exact d0) (Nat.le_refl _) (Nat.le_refl _)
  generalize hT1 : (T.setVm vm₁).pushCell { cls := cX, slots := kX.instanceTypes.map defaultValue, vm := .none } = T1 at X₁ st1
  have hcat : (Value.ref T.heap.size).category = 1 := rfl
  have hcellA : T1.heap[T.heap.size]? = some (freshCell cX kX) := by rw [← hT1]; exact State.heap_pushCell_size _ _
  have d3' : decode c.code (pc + 3) = .ok (.dup, 1) := by rw [hb]; exact d3
  obtain ⟨U, hsteps, hrun, hend, hW, hsame, ce, hce, hO⟩ := X₁.ctorThrow0 hexec htr (own := own) (cls := cls) (names := names) (ic := ic) hown' hcls hnames h (fun x hx => nomatch hx) hfX hkX hcellA (by rw [hhp, hT]; exact Nat.le_refl _)
    (g := { method := m, pc := pc + 4, locals := ls, stack := .ref T.heap.size :: .ref T.heap.size :: rest, locked := none }) rfl hsize rfl rfl (rest := rest) rfl
    (by rw [hb]; exact d4) (by rw [hb]; exact d7) hout hRframes (by simp only [List.map_cons, List.sum_cons, hcat]; omega) hlocks
  obtain ⟨f1, f2⟩ := vx_frame hsame
  rw [hhp] at f1 f2
  have hWs : s.WarmedH U.vm := State.WarmedH.trans hW0 hW
  have hcl : s.vm.findClass cls = some ce.cls := by
    have h9 := hO.cls
    rw [hvm] at h9
    exact h9
  have hall : s.sameButNew ({ U with vm := s.vm } : State) locs mc ms := by
    subst hA
    obtain ⟨e1, e2⟩ := hsame
    rw [State.setFrames_setFrames] at e1
    have h2 : (T.setVm s.vm).sameButNew ({ U with vm := s.vm } : State) [] (0 + 1) (0 + 6) := ⟨e1, e2⟩
    have h3 := X.same.trans h2
    rw [List.append_nil] at h3
    exact h3.mono hc hs
  refine ⟨U, ?_, .threw T.heap.size, hrun, hend, Or.inr ⟨T.heap.size, rfl, cls, ce, locs, hx U hWs.alike f1 (fun q hq => f2 q hq (fun z hz => nomatch hz)), hce, hO.vm, hcl, hWs, hall, hf⟩⟩
  refine st1 _ ?_
  show Steps p.tables e below (T1.setTop { method := m, pc := pc + 3, locals := ls, stack := .ref T.heap.size :: rest, locked := none }) _
  jvm_step X₁.here [X₁.here.top, hexec, d3', Value.category]
  exact hsteps
/-- 'throw new E("text")': new; dup; ldc; invokespecial; athrow -/
theorem vx_throwS {cc : ByteArray} {pc : Nat} (hexec : p.tables.exec = Jvm.exec) (hb : c.code = cc) (hl : l.stackTraces = false) {own cls text : String} {names : List String} {ik is ic mc ms sa : Nat} {A : Nat → Prop}
    (hown : s.vm.findClass own = some m.cls) (hcls : Bundle.fit cls = true) (hnames : ∀ n ∈ names, Bundle.fit n = true)
    (hk : (Cond.classLink own ik cls).before args s = true) (hini : (Cond.initialized cls).before args s = true) (hstr : vk_R own is text sa s) (hat : ∀ w ∈ vx_atS own ic cls names, w.before args s = true)
    (hgood : ∀ w ∈ Cond.classLink own ik cls :: Cond.initialized cls :: vx_atS own ic cls names, vx_ot w = true)
    (hU : vx_Zq Bundle.tN "UNASSIGNED_STACK" Bundle.steD A s s.heap) (hN : vx_Zq Bundle.tN "SUPPRESSED_SENTINEL" Bundle.listD A s s.heap) (hS : va_S A s.heap H locs) (hsize : ls.size = c.maxLocals)
    (d0 : decode cc pc = .ok (.new ik, 3)) (d3 : decode cc (pc + 3) = .ok (.dup, 1)) (d4 : decode cc (pc + 4) = .ok (.ldc is, 2)) (d6 : decode cc (pc + 6) = .ok (.invokespecial ic, 3)) (d9 : decode cc (pc + 9) = .ok (.athrow, 1))
    (hout : ∀ x ∈ c.exceptionTable.toList, covers x (pc + 9) = false)
    (hRframes : names.length + 3 < R.frames) (hRlocals : (rest.map fun v => v.category).sum + (13 * (names.length + 1) + 43) ≤ R.locals) (hRcells : cells + 1 ≤ R.cells) (hRslots : slots + 6 ≤ R.slots) (hlocks : meth.locks = false)
    (hx : ∀ t : State, s.vm.Alike t.vm → H.size ≤ t.heap.size → (∀ q : Nat, q < H.size → t.heap[q]? = H[q]?) → XC cls s t)
    (hf : ∀ z ∈ locs, free z.base) (hc : cells + 1 ≤ mc) (hs : slots + 6 ≤ ms) :
    W p l e R s m args below meth c H locs cells slots (vx_MQ below Qc XC args s mc ms free) (F0 m pc ls rest) := by
  intro T hT X
  have htr : e.platform.stackTraces = false := (show e.platform.stackTraces = l.stackTraces by rw [X.admits.platform]).trans hl
  have Y := vx_rebase X (R' := { frames := R.frames, locals := R.locals, cells := 1, slots := 6 }) (Nat.le_refl _) (Nat.le_refl _) hRcells hRslots
  obtain ⟨s', hA⟩ : ∃ z, z = (T.setVm s.vm).setFrames (.invoking m args :: below) := ⟨_, rfl⟩
  rw [← hA] at Y
  have hvm : s'.vm = s.vm := by rw [hA]; rfl
  have hhp : s'.heap = H := by rw [hA]; exact hT
  have hW0 : s.WarmedH s'.vm := by rw [hvm]; exact State.WarmedH.refl s
  have hat' : ∀ w ∈ vx_atS own ic cls names, w.before args s' = true := fun w hw => vx_ot_at hW0 hvm.symm (hgood w (List.mem_cons_of_mem _ (List.mem_cons_of_mem _ hw))) (hat w hw)
  have hk' : (Cond.classLink own ik cls).before args s' = true := vx_ot_at hW0 hvm.symm (hgood _ List.mem_cons_self) hk
  have hini' : (Cond.initialized cls).before args s' = true := vx_ot_at hW0 hvm.symm (hgood _ (List.mem_cons_of_mem _ List.mem_cons_self)) hini
  have hU' : vx_Zq Bundle.tN "UNASSIGNED_STACK" Bundle.steD A s' s'.heap := by rw [hhp]; exact vx_Zq.moved hW0.alike (hU.kept hS.2.1)
  have hN' : vx_Zq Bundle.tN "SUPPRESSED_SENTINEL" Bundle.listD A s' s'.heap := by rw [hhp]; exact vx_Zq.moved hW0.alike (hN.kept hS.2.1)
  have h : ∀ w ∈ Bundle.ownAtoms own ic cls names, w.before args s' = true := vx_own hat' (vx_isRefq hU'.1) (vx_isRefq hN'.1) hU'.2.word hN'.2.word
  have hown' : s'.vm.findClass own = some m.cls := by rw [hvm]; exact hown
  have hins : (Cond.instantiable cls 6).before args s' = true := h _ (by simp [Bundle.ownAtoms])
  obtain ⟨vm₁, cX, kX, hfX, hkX, -, -, X₁, st1⟩ := Y.newCold hexec (own := own) (C := cls) (index := ik) (n := 6) hown' hk' hins hini'
    (g := F0 m pc ls rest) rfl (by rw [hb]; exact d0) (Nat.le_refl _) (Nat.le_refl _)
  generalize hT1 : (T.setVm vm₁).pushCell { cls := cX, slots := kX.instanceTypes.map defaultValue, vm := .none } = T1 at X₁ st1
  have hcat : (Value.ref T.heap.size).category = 1 := rfl
  have hcellA : T1.heap[T.heap.size]? = some (freshCell cX kX) := by rw [← hT1]; exact State.heap_pushCell_size _ _
  have d3' : decode c.code (pc + 3) = .ok (.dup, 1) := by rw [hb]; exact d3
  have d4' : decode c.code (pc + 4) = .ok (.ldc is, 2) := by rw [hb]; exact d4
  have hstr' : vk_R own is text sa s' := vk_R.warm hW0 hstr
  obtain ⟨U, hsteps, hrun, hend, hW, hsame, ce, hce, hO⟩ := X₁.ctorThrowS hexec htr (own := own) (cls := cls) (names := names) (ic := ic) hown' hcls hnames h (fun x hx => nomatch hx) hfX hkX hcellA (by rw [hhp, hT]; exact Nat.le_refl _) (msg := .ref sa) rfl
    (g := { method := m, pc := pc + 6, locals := ls, stack := .ref sa :: .ref T.heap.size :: .ref T.heap.size :: rest, locked := none }) rfl hsize rfl rfl (rest := rest) rfl
    (by rw [hb]; exact d6) (by rw [hb]; exact d9) hout hRframes (by simp only [List.map_cons, List.sum_cons, hcat]; omega) hlocks
  obtain ⟨f1, f2⟩ := vx_frame hsame
  rw [hhp] at f1 f2
  have hWs : s.WarmedH U.vm := State.WarmedH.trans hW0 hW
  have hcl : s.vm.findClass cls = some ce.cls := by
    have h9 := hO.cls
    rw [hvm] at h9
    exact h9
  have hall : s.sameButNew ({ U with vm := s.vm } : State) locs mc ms := by
    subst hA
    obtain ⟨e1, e2⟩ := hsame
    rw [State.setFrames_setFrames] at e1
    have h2 : (T.setVm s.vm).sameButNew ({ U with vm := s.vm } : State) [] (0 + 1) (0 + 6) := ⟨e1, e2⟩
    have h3 := X.same.trans h2
    rw [List.append_nil] at h3
    exact h3.mono hc hs
  refine ⟨U, ?_, .threw T.heap.size, hrun, hend, Or.inr ⟨T.heap.size, rfl, cls, ce, locs, hx U hWs.alike f1 (fun q hq => f2 q hq (fun z hz => nomatch hz)), hce, hO.vm, hcl, hWs, hall, hf⟩⟩
  refine st1 _ ?_
  show Steps p.tables e below (T1.setTop { method := m, pc := pc + 3, locals := ls, stack := .ref T.heap.size :: rest, locked := none }) _
  jvm_step X₁.here [X₁.here.top, hexec, d3', Value.category]
  exact X₁.ldcString hexec (own := own) (text := text) (index := is) (a := sa) hown' hstr'.1 hstr'.2
    (g := { method := m, pc := pc + 4, locals := ls, stack := .ref T.heap.size :: .ref T.heap.size :: rest, locked := none }) rfl d4' _ hsteps
/-- 'throw new E("text")', the text by a wide index -/
theorem vx_throwSW {cc : ByteArray} {pc : Nat} (hexec : p.tables.exec = Jvm.exec) (hb : c.code = cc) (hl : l.stackTraces = false) {own cls text : String} {names : List String} {ik is ic mc ms sa : Nat} {A : Nat → Prop}
    (hown : s.vm.findClass own = some m.cls) (hcls : Bundle.fit cls = true) (hnames : ∀ n ∈ names, Bundle.fit n = true)
    (hk : (Cond.classLink own ik cls).before args s = true) (hini : (Cond.initialized cls).before args s = true) (hstr : vk_R own is text sa s) (hat : ∀ w ∈ vx_atS own ic cls names, w.before args s = true)
    (hgood : ∀ w ∈ Cond.classLink own ik cls :: Cond.initialized cls :: vx_atS own ic cls names, vx_ot w = true)
    (hU : vx_Zq Bundle.tN "UNASSIGNED_STACK" Bundle.steD A s s.heap) (hN : vx_Zq Bundle.tN "SUPPRESSED_SENTINEL" Bundle.listD A s s.heap) (hS : va_S A s.heap H locs) (hsize : ls.size = c.maxLocals)
    (d0 : decode cc pc = .ok (.new ik, 3)) (d3 : decode cc (pc + 3) = .ok (.dup, 1)) (d4 : decode cc (pc + 4) = .ok (.ldc_w is, 3)) (d7 : decode cc (pc + 7) = .ok (.invokespecial ic, 3)) (d10 : decode cc (pc + 10) = .ok (.athrow, 1))
    (hout : ∀ x ∈ c.exceptionTable.toList, covers x (pc + 10) = false)
    (hRframes : names.length + 3 < R.frames) (hRlocals : (rest.map fun v => v.category).sum + (13 * (names.length + 1) + 43) ≤ R.locals) (hRcells : cells + 1 ≤ R.cells) (hRslots : slots + 6 ≤ R.slots) (hlocks : meth.locks = false)
    (hx : ∀ t : State, s.vm.Alike t.vm → H.size ≤ t.heap.size → (∀ q : Nat, q < H.size → t.heap[q]? = H[q]?) → XC cls s t)
    (hf : ∀ z ∈ locs, free z.base) (hc : cells + 1 ≤ mc) (hs : slots + 6 ≤ ms) :
    W p l e R s m args below meth c H locs cells slots (vx_MQ below Qc XC args s mc ms free) (F0 m pc ls rest) := by
  intro T hT X
  have htr : e.platform.stackTraces = false := (show e.platform.stackTraces = l.stackTraces by rw [X.admits.platform]).trans hl
  have Y := vx_rebase X (R' := { frames := R.frames, locals := R.locals, cells := 1, slots := 6 }) (Nat.le_refl _) (Nat.le_refl _) hRcells hRslots
  obtain ⟨s', hA⟩ : ∃ z, z = (T.setVm s.vm).setFrames (.invoking m args :: below) := ⟨_, rfl⟩
  rw [← hA] at Y
  have hvm : s'.vm = s.vm := by rw [hA]; rfl
  have hhp : s'.heap = H := by rw [hA]; exact hT
  have hW0 : s.WarmedH s'.vm := by rw [hvm]; exact State.WarmedH.refl s
  have hat' : ∀ w ∈ vx_atS own ic cls names, w.before args s' = true := fun w hw => vx_ot_at hW0 hvm.symm (hgood w (List.mem_cons_of_mem _ (List.mem_cons_of_mem _ hw))) (hat w hw)
  have hk' : (Cond.classLink own ik cls).before args s' = true := vx_ot_at hW0 hvm.symm (hgood _ List.mem_cons_self) hk
  have hini' : (Cond.initialized cls).before args s' = true := vx_ot_at hW0 hvm.symm (hgood _ (List.mem_cons_of_mem _ List.mem_cons_self)) hini
  have hU' : vx_Zq Bundle.tN "UNASSIGNED_STACK" Bundle.steD A s' s'.heap := by rw [hhp]; exact vx_Zq.moved hW0.alike (hU.kept hS.2.1)
  have hN' : vx_Zq Bundle.tN "SUPPRESSED_SENTINEL" Bundle.listD A s' s'.heap := by rw [hhp]; exact vx_Zq.moved hW0.alike (hN.kept hS.2.1)
  have h : ∀ w ∈ Bundle.ownAtoms own ic cls names, w.before args s' = true := vx_own hat' (vx_isRefq hU'.1) (vx_isRefq hN'.1) hU'.2.word hN'.2.word
  have hown' : s'.vm.findClass own = some m.cls := by rw [hvm]; exact hown
  have hins : (Cond.instantiable cls 6).before args s' = true := h _ (by simp [Bundle.ownAtoms])
  obtain ⟨vm₁, cX, kX, hfX, hkX, -, -, X₁, st1⟩ := Y.newCold hexec (own := own) (C := cls) (index := ik) (n := 6) hown' hk' hins hini'
    (g := F0 m pc ls rest) rfl (by rw [hb]; exact d0) (Nat.le_refl _) (Nat.le_refl _)
  generalize hT1 : (T.setVm vm₁).pushCell { cls := cX, slots := kX.instanceTypes.map defaultValue, vm := .none } = T1 at X₁ st1
  have hcat : (Value.ref T.heap.size).category = 1 := rfl
  have hcellA : T1.heap[T.heap.size]? = some (freshCell cX kX) := by rw [← hT1]; exact State.heap_pushCell_size _ _
  have d3' : decode c.code (pc + 3) = .ok (.dup, 1) := by rw [hb]; exact d3
  have d4' : decode c.code (pc + 4) = .ok (.ldc_w is, 3) := by rw [hb]; exact d4
  have hstr' : vk_R own is text sa s' := vk_R.warm hW0 hstr
  obtain ⟨U, hsteps, hrun, hend, hW, hsame, ce, hce, hO⟩ := X₁.ctorThrowS hexec htr (own := own) (cls := cls) (names := names) (ic := ic) hown' hcls hnames h (fun x hx => nomatch hx) hfX hkX hcellA (by rw [hhp, hT]; exact Nat.le_refl _) (msg := .ref sa) rfl
    (g := { method := m, pc := pc + 7, locals := ls, stack := .ref sa :: .ref T.heap.size :: .ref T.heap.size :: rest, locked := none }) rfl hsize rfl rfl (rest := rest) rfl
    (by rw [hb]; exact d7) (by rw [hb]; exact d10) hout hRframes (by simp only [List.map_cons, List.sum_cons, hcat]; omega) hlocks
  obtain ⟨f1, f2⟩ := vx_frame hsame
  rw [hhp] at f1 f2
  have hWs : s.WarmedH U.vm := State.WarmedH.trans hW0 hW
  have hcl : s.vm.findClass cls = some ce.cls := by
    have h9 := hO.cls
    rw [hvm] at h9
    exact h9
  have hall : s.sameButNew ({ U with vm := s.vm } : State) locs mc ms := by
    subst hA
    obtain ⟨e1, e2⟩ := hsame
    rw [State.setFrames_setFrames] at e1
    have h2 : (T.setVm s.vm).sameButNew ({ U with vm := s.vm } : State) [] (0 + 1) (0 + 6) := ⟨e1, e2⟩
    have h3 := X.same.trans h2
    rw [List.append_nil] at h3
    exact h3.mono hc hs
  refine ⟨U, ?_, .threw T.heap.size, hrun, hend, Or.inr ⟨T.heap.size, rfl, cls, ce, locs, hx U hWs.alike f1 (fun q hq => f2 q hq (fun z hz => nomatch hz)), hce, hO.vm, hcl, hWs, hall, hf⟩⟩
  refine st1 _ ?_
  show Steps p.tables e below (T1.setTop { method := m, pc := pc + 3, locals := ls, stack := .ref T.heap.size :: rest, locked := none }) _
  jvm_step X₁.here [X₁.here.top, hexec, d3', Value.category]
  exact X₁.ldcStringW hexec (own := own) (text := text) (index := is) (a := sa) hown' hstr'.1 hstr'.2
    (g := { method := m, pc := pc + 4, locals := ls, stack := .ref T.heap.size :: .ref T.heap.size :: rest, locked := none }) rfl d4' _ hsteps
end Ends
section Bodies
variable {l : Launch}
theorem vx_ofW {y : MethodName} {ws ws' : List Cond} {rm : Room} {Pc : Array Value → State → Prop} {Qc : Array Value → State → Outcome → State → Prop} {XC : String → State → State → Prop} {mc ms : Nat} {free : Addr → Prop} {cc : ByteArray} {maxL : Nat} {ret : Option FieldType}
    (hy : plainName y.cls = true) (hw : ws = Cond.code y cc maxL ret :: ws')
    (body : ∀ p e s m args below meth c s₁, BodyLoose p l y (headSpec ws rm) cc maxL ret e s m args below meth c s₁ → c.maxLocals = maxL → (∀ x ∈ c.exceptionTable.toList, False) → Pc args s →
      W p l e (headSpec ws rm).room s m args below meth c s.heap [] 0 0 (vx_MQ below Qc XC args s mc ms free) (entryFrame m args maxL)) : vx_Met l y ws rm Pc Qc XC mc ms free := by
  refine MetFree.of_bodyS (code := cc) (maxLocals := maxL) (ret := ret) hy ?_ ?_
  · intro args s m h hn
    obtain ⟨meth, c, h1, h2, h3, h4, h5, h6, -, -⟩ := Cond.code_spec hn (atoms_spec (ws := ws) h _ (by rw [hw]; exact List.mem_cons_self))
    exact ⟨meth, c, h1, h2, h3, h4, h5, h6⟩
  · intro p e s m args below meth c s₁ B hml hP _
    have hh0 : s₁.heap = s.heap := by rw [B.state]; rfl
    have ht : ∀ x ∈ c.exceptionTable.toList, False := by
      obtain ⟨meth9, c9, h1, h2, -, -, -, -, h7, -⟩ := Cond.code_spec B.named (atoms_spec (ws := ws) B.pre _ (by rw [hw]; exact List.mem_cons_self))
      cases Option.some.inj (h1.symm.trans B.method)
      cases Option.some.inj (h2.symm.trans (Stand.of_body B).code)
      intro x hx
      rw [Array.isEmpty_iff.mp h7] at hx
      cases hx
    obtain ⟨t, a1, o, b1, b2, b3⟩ := body p e s m args below meth c s₁ B hml ht hP s₁ hh0 (Stand.of_body B)
    exact ⟨t, o, a1, b1, b2, b3⟩
/-- the table of a body with handlers -/
theorem vx_table {p : Program} {x y : MethodName} {S : Spec} {cc bytes : ByteArray} {maxL maxL' : Nat} {ret ret' : Option FieldType} {e : Env} {s s₁ : State} {m : MethodId} {args : Array Value} {below : List Frame} {meth : Method} {c : Code} {hh : List (Nat × Nat × Nat × Nat)}
    (B : BodyLoose p l y S cc maxL ret e s m args below meth c s₁) (h : (Cond.codeWith y bytes maxL' ret' hh).before args s = true) : c.exceptionTable.toList = tableOf hh := by
  obtain ⟨m9, meth9, c9, hn9, h1, h2, -, -, h6, -⟩ := Cond.codeWith_spec h
  cases Option.some.inj (hn9.symm.trans B.named)
  cases Option.some.inj (h1.symm.trans B.method)
  cases Option.some.inj (h2.symm.trans (Stand.of_body B).code)
  rw [← h6, table_eq]
end Bodies
end VXA
/-! ===== END ===== -/
/-! ===== BEGIN a static call of a method with an exception table ===== -/
section VXS
variable {p : Program} {l : Launch} {e : Env} {R : Room} {s : State} {m : MethodId} {args : Array Value} {below : List Frame} {meth : Method} {c : Code} {T : State} {H : Heap} {locs : List Loc} {cells slots : Nat}
abbrev vx_CSW (R : Room) (s : State) (args : Array Value) (own : String) (index : Nat) (y : MethodName) (bytes : ByteArray) (maxL : Nat) (ret : Option FieldType) (hh : List (Nat × Nat × Nat × Nat)) (ws : List Cond) (rm : Room) (mc ms n : Nat) : Prop :=
  (rm.cells = mc ∧ rm.slots = ms ∧ rm.frames + 1 ≤ R.frames ∧ 8 + (maxL + 11) + rm.locals ≤ R.locals ∧ (∀ w ∈ ws, ∀ (a' : Array Value) (U : State), s.WarmedH U.vm → w.before a' U = true) ∧ Cond.codeWith y bytes maxL ret hh ∈ ws) ∧
  (Cond.codeWith y bytes maxL ret hh).before args s = true ∧ (Cond.initialized y.cls).before args s = true ∧ (y.cls ≠ "java/lang/invoke/MethodHandle" ∧ y.cls ≠ "java/lang/invoke/VarHandle") ∧
  (∀ sig, parseMethodDescriptor y.desc = some sig → n = sig.parameters.length) ∧ (Cond.methodLink own index y).before args s = true ∧ (Cond.static y).before args s = true
theorem vx_cwSW {own : String} {index maxL mc ms : Nat} {y : MethodName} {bytes : ByteArray} {ret : Option FieldType} {hh : List (Nat × Nat × Nat × Nat)} {Ts ws ws' : List Cond} {rm : Room} (n : Nat) (ht : ∀ w ∈ Ts, w.before args s = true) (hT : GoodIn Ts (va_wsS own index y ws)) (hw : ws = Cond.codeWith y bytes maxL ret hh :: ws') (hrc : rm.cells = mc) (hrs : rm.slots = ms)
    (hd : y.cls ≠ "java/lang/invoke/MethodHandle" ∧ y.cls ≠ "java/lang/invoke/VarHandle" ∧ (parseMethodDescriptor y.desc).map (fun d => d.parameters.length) = some n) (hR : rm.frames + 1 ≤ R.frames ∧ 8 + (maxL + 11) + rm.locals ≤ R.locals) :
    vx_CSW R s args own index y bytes maxL ret hh ws rm mc ms n := by
  have ok : ∀ w ∈ va_wsS own index y ws, w.before args s = true := fun w h => ht w (hT w h).1
  have hG : GoodIn Ts ws := fun w h => hT w (by unfold va_wsS; exact List.mem_append_right _ h)
  have hc : Cond.codeWith y bytes maxL ret hh ∈ ws := by rw [hw]; exact List.mem_cons_self
  refine ⟨⟨hrc, hrs, hR.1, hR.2, pay_in ht hG, hc⟩, ht _ (hG _ hc).1, ok _ (by simp [va_wsS]), ⟨hd.1, hd.2.1⟩, fun sig h => ?_, ok _ (by simp [va_wsS]), ok _ (by simp [va_wsS])⟩
  have h2 := hd.2.2
  rw [h] at h2
  exact (Option.some.inj h2).symm
theorem vx_callSW (X : Stand p l e R s m args below meth c T locs cells slots) (hexec : p.tables.exec = Jvm.exec) {own : String} {index : Nat} {y : MethodName} {bytes : ByteArray} {maxL : Nat} {ret : Option FieldType} {hh : List (Nat × Nat × Nat × Nat)}
    (hown : s.vm.findClass own = some m.cls) (hlink : (Cond.methodLink own index y).before args s = true) (hstat : (Cond.static y).before args s = true) (hinit : (Cond.initialized y.cls).before args s = true)
    (hcode : (Cond.codeWith y bytes maxL ret hh).before args s = true) (hy : y.cls ≠ "java/lang/invoke/MethodHandle" ∧ y.cls ≠ "java/lang/invoke/VarHandle")
    {W9 : Nat} {Pre : Pt → Array Value → Prop} {Post : Pt → Array Value → Option Value → Pt → Prop} (hK : Back l R p e below s args y 3 W9 Pre Post)
    {g : JFrame} (hg : g.method = m) (hsize : g.locals.size = c.maxLocals) {argsL rest : List Value} (hlen : ∀ sig, parseMethodDescriptor y.desc = some sig → argsL.length = sig.parameters.length)
    (hstack : g.stack = argsL.reverse ++ rest) (hW : 2 * g.monitorRoom + (rest.map fun v => v.category).sum ≤ W9) (hdg : decode c.code g.pc = .ok (.invokestatic index, 3))
    (hpre : ∀ vm₁, s.WarmedH vm₁ → Pre ⟨T.setVm vm₁, locs, cells, slots⟩ argsL.toArray) :
    ∃ (v : Option Value) (vm₁ : Vm) (B : Pt), s.WarmedH vm₁ ∧ Stand p l e R s m args below meth c B.U B.locs B.cells B.slots ∧ Post ⟨T.setVm vm₁, locs, cells, slots⟩ argsL.toArray v B ∧
      ∀ target, Steps p.tables e below (B.U.setTop { g with pc := g.pc + 3, stack := v.toList ++ rest }) target → Steps p.tables e below (T.setTop g) target := by
  obtain ⟨mk, methM, cM, hnamed, hmethM, -, -, -, -, -, -, hsigM⟩ := Cond.codeWith_spec hcode
  have hstatic : methM.isStatic = true := Cond.static_spec hnamed hmethM hstat
  obtain ⟨kP, hkP, -⟩ := className_of_methodNamed hnamed
  have hinitP : kP.init = .initialized := Cond.initialized_spec (findClass_of_methodNamed hnamed) hkP hinit
  obtain ⟨vm₁, X₁, hstep₁⟩ := X.invokestatic hexec hown hlink hnamed hmethM hstatic hkP hinitP hy (g := g) hg (argsL := argsL) (rest := rest) (hlen _ hsigM) hstack hdg
  obtain ⟨v, B, X', hpost, hsteps⟩ := hK m meth c ⟨T.setVm vm₁, locs, cells, slots⟩ { g with stack := rest } (.invokestatic index) mk argsL.toArray X₁ hg hsize hdg hW (X₁.named hnamed) (hpre vm₁ X₁.warmed)
  exact ⟨v, vm₁, B, X₁.warmed, X', hpost, fun target h => hstep₁ _ fun acts => by rw [doInvoke_state]; exact hsteps.trans h⟩
theorem vx_runSW {y : MethodName} {bytes cc : ByteArray} {maxL nL mc ms n index : Nat} {ret : Option FieldType} {hh : List (Nat × Nat × Nat × Nat)} {ws : List Cond} {rm : Room} {Pc : Array Value → State → Prop} {Qc : Array Value → State → Outcome → State → Prop} {free : Addr → Prop} {Ts : List Cond} {own : String} {As rest : List Value} {g : JFrame}
    (S : CallFix p m c cc nL s args Ts own) (hM : Met l y ws rm Pc Qc mc ms free) (cw : vx_CSW R s args own index y bytes maxL ret hh ws rm mc ms n) (hp : PreS s H Pc As)
    (hg : g.method = m) (hn : As.length = n) (hsize : g.locals.size = nL) (hstack : g.stack = As.reverse ++ rest) (hW : 2 * g.monitorRoom + (rest.map fun v => v.category).sum ≤ 8) (hdg : decode cc g.pc = .ok (.invokestatic index, 3)) (hf : cells + mc ≤ R.cells ∧ slots + ms ≤ R.slots) :
    va_Run p l e R s m args below meth c H locs cells slots mc ms g rest (Qc As.toArray) (free) := by
  obtain ⟨⟨hrc, hrs, hfr, hlo, hws, hcw⟩, hcode, hini, hy, hlen, hl, hstt⟩ := cw
  have hK : Back l R p e below s args y 3 8 (PreOf R mc ms Pc) (PostOf Qc mc ms free) := va_backW (hh := hh) (bytes := bytes) (maxL := maxL) (ret := ret) hM hp.1 hrc hrs hfr hlo hws hcw (fun a' U hW => word_at hW (Or.inl (by first | rfl | simp [Cond.onTables, Cond.keeps, Cond.steady])) hini)
  obtain ⟨hx, hb, hml, ho, -⟩ := S
  intro T hT X
  obtain ⟨v, vm₁, ⟨U', l2, c2, s2⟩, hW₁, X', ⟨g', mk, t, L, e1, e2, hq, h1, hL, h2, h3⟩, st⟩ := vx_callSW X hx (hh := hh) (bytes := bytes) (maxL := maxL) (ret := ret) ho hl hstt hini hcode hy hK hg (hsize.trans hml.symm) (argsL := As) (rest := rest) (fun sig h => hn.trans (hlen sig h)) hstack hW (by rw [hb]; exact hdg)
    (fun vm₁ hW₁ => ⟨hf.1, hf.2, hp.2 (T.setVm vm₁) hT hW₁⟩)
  dsimp only [Pt.U, Pt.locs, Pt.cells, Pt.slots] at X' e1 e2 h1 h2 h3 st
  subst h1; subst h2; subst h3
  exact ⟨v, (T.setVm vm₁).calling g' mk As.toArray, t, U', L, hT, X', hL, e1, e2, hq, st⟩
/-- not caught here, past rows that name other classes: it goes on to the caller -/
theorem vx_outP {p : Program} {l : Launch} {e : Env} {R : Room} {s : State} {m : MethodId} {args : Array Value} {below : List Frame} {meth : Method} {c : Code} {H : Heap} {locs : List Loc} {cells slots : Nat} {free : Addr → Prop} {ls : Array Slot} {rest : List Value} {Qc : Array Value → State → Outcome → State → Prop} {XC : String → State → State → Prop}
    {pc : Nat} {own E : String} {ce : Cell} {q : Addr} {mc ms : Nat} (hown : s.vm.findClass own = some m.cls) (hlocks : meth.locks = false)
    (hpass : ∀ z ∈ c.exceptionTable.toList, covers z pc = false ∨ (z.catchType ≠ 0 ∧ ∃ nm : String, (Cond.classLink own z.catchType nm).before args s = true ∧ va_Nc E nm s)) (hcell : H[q]? = some ce) (hv : ce.vm = .none) (hcl : s.vm.findClass E = some ce.cls)
    (hx : ∀ t : State, t.heap = H → s.vm.Alike t.vm → XC E s t) (hf : ∀ z ∈ locs, free z.base) (hc : cells ≤ mc) (hs : slots ≤ ms) :
    vx_W p l e R s m args below meth c H locs cells slots (vx_MQ below Qc XC args s mc ms free) (F0 m pc ls rest) q := by
  intro T hT X
  have hpl : e.platform.magicAccessors = ({} : Platform).magicAccessors := by rw [X.admits.platform]
  obtain ⟨vm', hW', X', st⟩ := X.outThrough hlocks q (g := F0 m pc ls rest) rfl rfl rfl (cell := ce) (by rw [hT]; exact hcell) (by rw [hv]; rfl)
    (by obtain ⟨k9, h9, -⟩ := Vm.findClass_spec hcl; exact ⟨k9, h9⟩) (fun z hz => by
      rcases hpass z hz with h | ⟨hz0, nm, hl1, hn1⟩
      · exact Or.inl h
      · obtain ⟨c6, hc6, hcl6⟩ := Cond.classLink_spec hown hl1 e.platform hpl
        obtain ⟨a8, b8, h1, h2, h3⟩ := hn1
        cases Option.some.inj (h1.symm.trans hcl)
        cases Option.some.inj (h2.symm.trans hc6)
        exact Or.inr ⟨hz0, _, hcl6, h3⟩)
  obtain ⟨g₀, hfr⟩ := X'.frames_eq
  have hcell9 : ((T.setVm vm').setFrames (.throwing q :: below)).heap[q]? = some ce := by
    show T.heap[q]? = some ce
    rw [hT]; exact hcell
  have hend : Ended ((T.setVm vm').setFrames (.throwing q :: below)) below (.threw q) := State.frames_setFrames _ (State.cur_lt_of_frames hfr)
  refine ⟨(T.setVm vm').setFrames (.throwing q :: below), ?_, .threw q, X'.here.running, hend, Or.inr ⟨q, rfl, E, ce, locs, hx _ hT (X'.ends _).1.alike, hcell9, hv, hcl, (X'.ends _).1, (X'.ends _).2.mono hc hs, hf⟩⟩
  rw [X.pushThrowing_eq]
  exact st
/-- a thing of a world lies in the heap -/
theorem vx_lt {D : va_G} {cl : List vw_C} {ws : va_W} {H1 : Heap} (h : va_P D cl ws H1) {k : Nat} {q : Nat × va_E} (hk : ws[k]? = some q) : q.1 < H1.size := (h k q hk).lt
end VXS
/-! ===== END ===== -/
/-! ===== BEGIN methods with a table of their own: called by a name, returning or throwing ===== -/
section VXH
/-! vx_backW, vx_callVX, vx_callSX, vx_callVW, vx_runVW, vx_runVX, vx_runSX, vx_ofWH follow the same proofs as their sisters above (Free/Laws.lean, Shelf42/LK1.lean); vx_outP calls Shelf42/NT130.lean (outThrough). -/
section
variable {l : Launch} {R : Room} {p : Program} {e : Env} {below : List Frame} {s : State} {sargs : Array Value} {y : MethodName} {len W9 : Nat}
theorem vx_backW {ws : List Cond} {rm : Room} {Pc : Array Value → State → Prop} {Qc : Array Value → State → Outcome → State → Prop} {XC : String → State → State → Prop} {mc ms : Nat} {free : Addr → Prop} {bytes : ByteArray} {maxL : Nat} {ret : Option FieldType} {hh : List (Nat × Nat × Nat × Nat)}
    (hM : vx_Met l y ws rm Pc Qc XC mc ms free) (hblind : FrameBlind Pc) (hrc : rm.cells = mc) (hrs : rm.slots = ms)
    (hframes : rm.frames + 1 ≤ R.frames) (hlocals : W9 + (maxL + 11) + rm.locals ≤ R.locals)
    (hws : ∀ w ∈ ws, ∀ a' U, s.WarmedH U.vm → w.before a' U = true) (hcode : Cond.codeWith y bytes maxL ret hh ∈ ws) (hinit : ∀ a' U, s.WarmedH U.vm → (Cond.initialized y.cls).before a' U = true) :
    vx_Back l R p e below s sargs y len W9 (PreOf R mc ms Pc) (PostOf Qc mc ms free) (vx_Post XC mc ms free) := by
  intro m meth c A g ig mk a X hg hsize hdg hW hn hp
  have h1 : (headSpec ws rm).pre.before a A.U = true := atoms_intro fun w hw => hws w hw _ _ X.warmed
  have h2 : (Cond.codeWith y bytes maxL ret hh).before a A.U = true := hws _ hcode _ _ X.warmed
  have h3 : (Cond.initialized y.cls).before a A.U = true := hinit _ _ X.warmed
  have h4 : A.cells + (headSpec ws rm).room.cells ≤ R.cells := by rw [show (headSpec ws rm).room.cells = mc from hrc]; exact hp.1
  have h5 : A.slots + (headSpec ws rm).room.slots ≤ R.slots := by rw [show (headSpec ws rm).room.slots = ms from hrs]; exact hp.2.1
  have hPc : Pc a (A.U.calling g mk a) := hblind _ _ _ _ hp.2.2
  obtain ⟨U, Ls, c0, s0⟩ := A
  dsimp only [Pt.U, Pt.locs, Pt.cells, Pt.slots] at h1 h2 h3 h4 h5 X hn hPc ⊢
  obtain ⟨m9, methY, cY, hn9, hmY, hcY, -, hlY, -⟩ := Cond.codeWith_spec h2
  cases Option.some.inj (hn9.symm.trans hn)
  obtain ⟨kY, hkY, -⟩ := className_of_methodNamed hn
  have hinitY : kY.init = .initialized := Cond.initialized_spec (findClass_of_methodNamed hn) hkY h3
  have h : At U g.method c below := by rw [hg]; exact X.here
  have hlocals9 : W9 + (maxL + 11) + (headSpec ws rm).room.locals ≤ R.locals := hlocals
  have happ : (headSpec ws rm).appliesLoose y e.platform (U.calling g mk a) = true :=
    Spec.appliesLoose_calling (g := g) h hdg hn hkY hinitY
      (X.room_calling (g := g) (R' := (headSpec ws rm).room) hsize hmY hcY hframes (by rw [hlY]; omega) h4 h5) h1
  obtain ⟨mid, hmid⟩ := h.above
  have hfr : (U.setTop g).frames = (.java g :: mid) ++ below := by rw [State.frames_setTop' g h.top, hmid]; rfl
  obtain ⟨o, s₂, hsteps, -, hend, hq⟩ := Steps.callFree hM p X.admits X.cas X.clock (acts := []) hfr happ hPc trivial
  have hq' : vx_Q Qc XC mc ms free a (U.calling g mk a) o s₂ := hq
  rw [State.frames_setTop' g h.top] at hend
  obtain ⟨g₀, hg0⟩ := Option.isSome_iff_exists.mp h.top
  obtain ⟨r, hr⟩ := State.topJava?_eq_some.mp hg0
  have hr' : (({ U with heap := s₂.heap, slotsUsed := s₂.slotsUsed } : State).setVm s₂.vm).frames = .java g₀ :: r := hr
  rcases hq' with ⟨hqc, L, hfe, hL⟩ | ⟨q, rfl, E, ce, L, hx, hce, hcv, hcl, hW₂, hsm, hL⟩
  · obtain ⟨⟨v, rfl⟩, hW₂, e2, q2, q3, q4, q5, q6⟩ := id hfe
    have e3 : s₂ = ({ (U.calling g mk a).setFrames s₂.frames with heap := s₂.heap, slotsUsed := s₂.slotsUsed } : State).setVm s₂.vm := by
      have : s₂ = ({ s₂ with vm := (U.calling g mk a).vm } : State).setVm s₂.vm := rfl
      rw [e2] at this
      exact this
    obtain ⟨c₂, i₂, len₂, hc₂, hd₂, hf₂⟩ := hend
    have hW' : U.WarmedH s₂.vm := hW₂
    have hcc : c₂ = c := by
      have h1 : s₂.code? g.method = U.code? g.method := by
        rw [State.code?_eq, State.code?_eq, hW'.alike.method?]
      exact Option.some.inj (hc₂.symm.trans (h1.trans h.code))
    subst hcc
    have hlen : len₂ = len := by rw [hdg] at hd₂; cases hd₂; rfl
    subst hlen
    have hs₂ : s₂ = (({ U with heap := s₂.heap, slotsUsed := s₂.slotsUsed } : State).setVm s₂.vm).setTop { g with pc := g.pc + len₂, stack := v.toList ++ g.stack } := by
      refine e3.trans ?_
      rw [hf₂, State.calling_eq h.top, State.setFrames_setFrames, State.setTop_of_frames _ hr', hr]
      rfl
    have hsame : U.sameButNew ({ U with heap := s₂.heap, slotsUsed := s₂.slotsUsed } : State) L mc ms := by
      refine ⟨?_, q2, q3, q4, q5, q6⟩
      obtain ⟨t, ht, -⟩ := State.frames_cons hr
      show ({ U with heap := s₂.heap, slotsUsed := s₂.slotsUsed } : State) = { U.setFrames U.frames with heap := s₂.heap, slotsUsed := s₂.slotsUsed }
      rw [State.setFrames_self ht]
    subst hg
    refine Or.inl ⟨v, ⟨(({ U with heap := s₂.heap, slotsUsed := s₂.slotsUsed } : State).setVm s₂.vm), Ls ++ L, c0 + mc, s0 + ms⟩,
      ⟨X.admits, X.cas, X.clock, X.frames, X.room, X.hears, X.method, X.code, (X.here.setHeapUsed s₂.heap s₂.slotsUsed).setVm hW'.alike, X.tail, State.WarmedH.trans X.warmed hW', X.limits, X.bytes, X.same.trans (hsame.setVm s.vm)⟩,
      ⟨g, mk, s₂, L, rfl, rfl, hqc, rfl, hL, rfl, rfl⟩, ?_⟩
    show Steps p.tables e below _ ((({ U with heap := s₂.heap, slotsUsed := s₂.slotsUsed } : State).setVm s₂.vm).setTop { g with pc := g.pc + len₂, stack := v.toList ++ g.stack })
    rw [← hs₂]
    exact hsteps
  · obtain ⟨e2, q2, q3, q4, q5, q6⟩ := id hsm
    have e3 : s₂ = ({ (U.calling g mk a).setFrames s₂.frames with heap := s₂.heap, slotsUsed := s₂.slotsUsed } : State).setVm s₂.vm := by
      have : s₂ = ({ s₂ with vm := (U.calling g mk a).vm } : State).setVm s₂.vm := rfl
      rw [e2] at this
      exact this
    have hf₂ : s₂.frames = .throwing q :: .java g :: U.frames.tail := hend
    have hW' : U.WarmedH s₂.vm := hW₂
    have hs₂ : s₂ = ((({ U with heap := s₂.heap, slotsUsed := s₂.slotsUsed } : State).setVm s₂.vm).setTop g).pushFrame (.throwing q) := by
      refine e3.trans ?_
      rw [hf₂, State.calling_eq h.top, State.setFrames_setFrames, State.pushFrame, State.frames_setTop _ hr', State.setTop_of_frames _ hr', State.setFrames_setFrames, hr]
      rfl
    have hsame : U.sameButNew ({ U with heap := s₂.heap, slotsUsed := s₂.slotsUsed } : State) L mc ms := by
      refine ⟨?_, q2, q3, q4, q5, q6⟩
      obtain ⟨t, ht, -⟩ := State.frames_cons hr
      show ({ U with heap := s₂.heap, slotsUsed := s₂.slotsUsed } : State) = { U.setFrames U.frames with heap := s₂.heap, slotsUsed := s₂.slotsUsed }
      rw [State.setFrames_self ht]
    subst hg
    refine Or.inr ⟨q, ⟨(({ U with heap := s₂.heap, slotsUsed := s₂.slotsUsed } : State).setVm s₂.vm), Ls ++ L, c0 + mc, s0 + ms⟩,
      ⟨X.admits, X.cas, X.clock, X.frames, X.room, X.hears, X.method, X.code, (X.here.setHeapUsed s₂.heap s₂.slotsUsed).setVm hW'.alike, X.tail, State.WarmedH.trans X.warmed hW', X.limits, X.bytes, X.same.trans (hsame.setVm s.vm)⟩,
      ⟨g, mk, s₂, L, E, ce, rfl, rfl, hx, hce, hcv, hcl, rfl, hL, rfl, rfl⟩, ?_⟩
    show Steps p.tables e below _ (((({ U with heap := s₂.heap, slotsUsed := s₂.slotsUsed } : State).setVm s₂.vm).setTop g).pushFrame (.throwing q))
    rw [← hs₂]
    exact hsteps
end
variable {p : Program} {l : Launch} {e : Env} {R : Room} {s : State} {m : MethodId} {args : Array Value} {below : List Frame} {meth : Method} {c : Code} {T : State} {H : Heap} {locs : List Loc} {cells slots : Nat}
theorem vx_callVX (X : Stand p l e R s m args below meth c T locs cells slots) (hexec : p.tables.exec = Jvm.exec) {own C : String} {index : Nat} {y : MethodName} {bytes : ByteArray} {maxL : Nat} {ret : Option FieldType} {hh : List (Nat × Nat × Nat × Nat)}
    (hown : s.vm.findClass own = some m.cls) (hlink : (Cond.methodLink own index y).before args s = true) (hinst : (Cond.instanceMethod y).before args s = true) (hsel : (Cond.selects C y y).before args s = true)
    (hcode : (Cond.codeWith y bytes maxL ret hh).before args s = true) (hy : y.cls ≠ "java/lang/invoke/MethodHandle" ∧ y.cls ≠ "java/lang/invoke/VarHandle")
    {W9 : Nat} {Pre : Pt → Array Value → Prop} {Post : Pt → Array Value → Option Value → Pt → Prop} {PostX : Pt → Array Value → Addr → Pt → Prop} (hK : vx_Back l R p e below s args y 3 W9 Pre Post PostX)
    {b : Addr} {cellB : Cell} (hcell : T.heap[b]? = some cellB) (hobj : cellB.vm.isStatics = false) (hcls : s.vm.findClass C = some cellB.cls)
    {g : JFrame} (hg : g.method = m) (hsize : g.locals.size = c.maxLocals) {argsL rest : List Value} (hlen : ∀ sig, parseMethodDescriptor y.desc = some sig → argsL.length = sig.parameters.length)
    (hstack : g.stack = argsL.reverse ++ .ref b :: rest) (hW : 2 * g.monitorRoom + (rest.map fun v => v.category).sum ≤ W9) (hdg : decode c.code g.pc = .ok (.invokevirtual index, 3))
    (hpre : ∀ vm₁, s.WarmedH vm₁ → Pre ⟨T.setVm vm₁, locs, cells, slots⟩ (Value.ref b :: argsL).toArray) :
    (∃ (v : Option Value) (vm₁ : Vm) (B : Pt), s.WarmedH vm₁ ∧ Stand p l e R s m args below meth c B.U B.locs B.cells B.slots ∧ Post ⟨T.setVm vm₁, locs, cells, slots⟩ (Value.ref b :: argsL).toArray v B ∧
      ∀ target, Steps p.tables e below (B.U.setTop { g with pc := g.pc + 3, stack := v.toList ++ rest }) target → Steps p.tables e below (T.setTop g) target) ∨
    (∃ (q : Addr) (vm₁ : Vm) (B : Pt), s.WarmedH vm₁ ∧ Stand p l e R s m args below meth c B.U B.locs B.cells B.slots ∧ PostX ⟨T.setVm vm₁, locs, cells, slots⟩ (Value.ref b :: argsL).toArray q B ∧
      Steps p.tables e below (T.setTop g) ((B.U.setTop { g with stack := rest }).pushFrame (.throwing q))) := by
  obtain ⟨mk, methM, hnamed, hmethM, hstM, habM⟩ := Cond.instanceMethod_spec hinst
  obtain ⟨m8, methM', cM, hn8, hmethM', -, -, -, -, -, -, hsigM⟩ := Cond.codeWith_spec hcode
  cases Option.some.inj (hn8.symm.trans hnamed)
  cases hmethM.symm.trans hmethM'
  obtain ⟨c2, r2, m2, q1, q2, q3, q4, kP, hkP, hkPi⟩ := Cond.selects_spec hsel
  cases hcls.symm.trans q1
  cases (State.methodFound?_of_named hnamed hy).symm.trans q2
  cases hnamed.symm.trans q3
  have hselP : selectMethod e.platform s.vm cellB.cls mk = .method mk := by rw [Launch.admits_selectMethod X.admits]; exact q4
  obtain ⟨vm₁, X₁, hstep₁⟩ := X.invokevirtual hexec hown hlink hnamed hmethM hstM hkP hkPi hy (a := b) (cell := cellB) hcell
    (fun z h => by rw [h] at hobj; cases hobj) hselP hmethM habM hkP hkPi (g := g) hg (argsL := argsL) (rest := rest) (hlen _ hsigM) hstack hdg
  rcases hK m meth c ⟨T.setVm vm₁, locs, cells, slots⟩ { g with stack := rest } (.invokevirtual index) mk (Value.ref b :: argsL).toArray X₁ hg hsize hdg hW (X₁.named hnamed) (hpre vm₁ X₁.warmed) with ⟨v, B, X', hpost, hsteps⟩ | ⟨q, B, X', hpost, hsteps⟩
  · exact Or.inl ⟨v, vm₁, B, X₁.warmed, X', hpost, fun target h => hstep₁ _ fun acts => by rw [doInvoke_state]; exact hsteps.trans h⟩
  · exact Or.inr ⟨q, vm₁, B, X₁.warmed, X', hpost, hstep₁ _ fun acts => by rw [doInvoke_state]; exact hsteps⟩
theorem vx_callSX (X : Stand p l e R s m args below meth c T locs cells slots) (hexec : p.tables.exec = Jvm.exec) {own : String} {index : Nat} {y : MethodName} {bytes : ByteArray} {maxL : Nat} {ret : Option FieldType} {hh : List (Nat × Nat × Nat × Nat)}
    (hown : s.vm.findClass own = some m.cls) (hlink : (Cond.methodLink own index y).before args s = true) (hstat : (Cond.static y).before args s = true) (hinit : (Cond.initialized y.cls).before args s = true)
    (hcode : (Cond.codeWith y bytes maxL ret hh).before args s = true) (hy : y.cls ≠ "java/lang/invoke/MethodHandle" ∧ y.cls ≠ "java/lang/invoke/VarHandle")
    {W9 : Nat} {Pre : Pt → Array Value → Prop} {Post : Pt → Array Value → Option Value → Pt → Prop} {PostX : Pt → Array Value → Addr → Pt → Prop} (hK : vx_Back l R p e below s args y 3 W9 Pre Post PostX)
    {g : JFrame} (hg : g.method = m) (hsize : g.locals.size = c.maxLocals) {argsL rest : List Value} (hlen : ∀ sig, parseMethodDescriptor y.desc = some sig → argsL.length = sig.parameters.length)
    (hstack : g.stack = argsL.reverse ++ rest) (hW : 2 * g.monitorRoom + (rest.map fun v => v.category).sum ≤ W9) (hdg : decode c.code g.pc = .ok (.invokestatic index, 3))
    (hpre : ∀ vm₁, s.WarmedH vm₁ → Pre ⟨T.setVm vm₁, locs, cells, slots⟩ argsL.toArray) :
    (∃ (v : Option Value) (vm₁ : Vm) (B : Pt), s.WarmedH vm₁ ∧ Stand p l e R s m args below meth c B.U B.locs B.cells B.slots ∧ Post ⟨T.setVm vm₁, locs, cells, slots⟩ argsL.toArray v B ∧
      ∀ target, Steps p.tables e below (B.U.setTop { g with pc := g.pc + 3, stack := v.toList ++ rest }) target → Steps p.tables e below (T.setTop g) target) ∨
    (∃ (q : Addr) (vm₁ : Vm) (B : Pt), s.WarmedH vm₁ ∧ Stand p l e R s m args below meth c B.U B.locs B.cells B.slots ∧ PostX ⟨T.setVm vm₁, locs, cells, slots⟩ argsL.toArray q B ∧
      Steps p.tables e below (T.setTop g) ((B.U.setTop { g with stack := rest }).pushFrame (.throwing q))) := by
  obtain ⟨mk, methM, cM, hnamed, hmethM, -, -, -, -, -, -, hsigM⟩ := Cond.codeWith_spec hcode
  have hstatic : methM.isStatic = true := Cond.static_spec hnamed hmethM hstat
  obtain ⟨kP, hkP, -⟩ := className_of_methodNamed hnamed
  have hinitP : kP.init = .initialized := Cond.initialized_spec (findClass_of_methodNamed hnamed) hkP hinit
  obtain ⟨vm₁, X₁, hstep₁⟩ := X.invokestatic hexec hown hlink hnamed hmethM hstatic hkP hinitP hy (g := g) hg (argsL := argsL) (rest := rest) (hlen _ hsigM) hstack hdg
  rcases hK m meth c ⟨T.setVm vm₁, locs, cells, slots⟩ { g with stack := rest } (.invokestatic index) mk argsL.toArray X₁ hg hsize hdg hW (X₁.named hnamed) (hpre vm₁ X₁.warmed) with ⟨v, B, X', hpost, hsteps⟩ | ⟨q, B, X', hpost, hsteps⟩
  · exact Or.inl ⟨v, vm₁, B, X₁.warmed, X', hpost, fun target h => hstep₁ _ fun acts => by rw [doInvoke_state]; exact hsteps.trans h⟩
  · exact Or.inr ⟨q, vm₁, B, X₁.warmed, X', hpost, hstep₁ _ fun acts => by rw [doInvoke_state]; exact hsteps⟩
theorem vx_callVW (X : Stand p l e R s m args below meth c T locs cells slots) (hexec : p.tables.exec = Jvm.exec) {own C : String} {index : Nat} {y : MethodName} {bytes : ByteArray} {maxL : Nat} {ret : Option FieldType} {hh : List (Nat × Nat × Nat × Nat)}
    (hown : s.vm.findClass own = some m.cls) (hlink : (Cond.methodLink own index y).before args s = true) (hinst : (Cond.instanceMethod y).before args s = true) (hsel : (Cond.selects C y y).before args s = true)
    (hcode : (Cond.codeWith y bytes maxL ret hh).before args s = true) (hy : y.cls ≠ "java/lang/invoke/MethodHandle" ∧ y.cls ≠ "java/lang/invoke/VarHandle")
    {W9 : Nat} {Pre : Pt → Array Value → Prop} {Post : Pt → Array Value → Option Value → Pt → Prop} (hK : Back l R p e below s args y 3 W9 Pre Post)
    {b : Addr} {cellB : Cell} (hcell : T.heap[b]? = some cellB) (hobj : cellB.vm.isStatics = false) (hcls : s.vm.findClass C = some cellB.cls)
    {g : JFrame} (hg : g.method = m) (hsize : g.locals.size = c.maxLocals) {argsL rest : List Value} (hlen : ∀ sig, parseMethodDescriptor y.desc = some sig → argsL.length = sig.parameters.length)
    (hstack : g.stack = argsL.reverse ++ .ref b :: rest) (hW : 2 * g.monitorRoom + (rest.map fun v => v.category).sum ≤ W9) (hdg : decode c.code g.pc = .ok (.invokevirtual index, 3))
    (hpre : ∀ vm₁, s.WarmedH vm₁ → Pre ⟨T.setVm vm₁, locs, cells, slots⟩ (Value.ref b :: argsL).toArray) :
    ∃ (v : Option Value) (vm₁ : Vm) (B : Pt), s.WarmedH vm₁ ∧ Stand p l e R s m args below meth c B.U B.locs B.cells B.slots ∧ Post ⟨T.setVm vm₁, locs, cells, slots⟩ (Value.ref b :: argsL).toArray v B ∧
      ∀ target, Steps p.tables e below (B.U.setTop { g with pc := g.pc + 3, stack := v.toList ++ rest }) target → Steps p.tables e below (T.setTop g) target := by
  obtain ⟨mk, methM, hnamed, hmethM, hstM, habM⟩ := Cond.instanceMethod_spec hinst
  obtain ⟨m8, methM', cM, hn8, hmethM', -, -, -, -, -, -, hsigM⟩ := Cond.codeWith_spec hcode
  cases Option.some.inj (hn8.symm.trans hnamed)
  cases hmethM.symm.trans hmethM'
  obtain ⟨c2, r2, m2, q1, q2, q3, q4, kP, hkP, hkPi⟩ := Cond.selects_spec hsel
  cases hcls.symm.trans q1
  cases (State.methodFound?_of_named hnamed hy).symm.trans q2
  cases hnamed.symm.trans q3
  have hselP : selectMethod e.platform s.vm cellB.cls mk = .method mk := by rw [Launch.admits_selectMethod X.admits]; exact q4
  obtain ⟨vm₁, X₁, hstep₁⟩ := X.invokevirtual hexec hown hlink hnamed hmethM hstM hkP hkPi hy (a := b) (cell := cellB) hcell
    (fun z h => by rw [h] at hobj; cases hobj) hselP hmethM habM hkP hkPi (g := g) hg (argsL := argsL) (rest := rest) (hlen _ hsigM) hstack hdg
  obtain ⟨v, B, X', hpost, hsteps⟩ := hK m meth c ⟨T.setVm vm₁, locs, cells, slots⟩ { g with stack := rest } (.invokevirtual index) mk (Value.ref b :: argsL).toArray X₁ hg hsize hdg hW (X₁.named hnamed) (hpre vm₁ X₁.warmed)
  exact ⟨v, vm₁, B, X₁.warmed, X', hpost, fun target h => hstep₁ _ fun acts => by rw [doInvoke_state]; exact hsteps.trans h⟩
abbrev vx_CVW (R : Room) (s : State) (args : Array Value) (own C : String) (index : Nat) (y : MethodName) (bytes : ByteArray) (maxL : Nat) (ret : Option FieldType) (hh : List (Nat × Nat × Nat × Nat)) (ws : List Cond) (rm : Room) (mc ms n : Nat) : Prop :=
  (rm.cells = mc ∧ rm.slots = ms ∧ rm.frames + 1 ≤ R.frames ∧ 8 + (maxL + 11) + rm.locals ≤ R.locals ∧ (∀ w ∈ ws, ∀ (a' : Array Value) (U : State), s.WarmedH U.vm → w.before a' U = true) ∧ Cond.codeWith y bytes maxL ret hh ∈ ws) ∧
  (Cond.codeWith y bytes maxL ret hh).before args s = true ∧ (Cond.initialized y.cls).before args s = true ∧ (y.cls ≠ "java/lang/invoke/MethodHandle" ∧ y.cls ≠ "java/lang/invoke/VarHandle") ∧
  (∀ sig, parseMethodDescriptor y.desc = some sig → n = sig.parameters.length) ∧ (Cond.methodLink own index y).before args s = true ∧ (Cond.instanceMethod y).before args s = true ∧ (Cond.selects C y y).before args s = true
theorem vx_cwVW {own C : String} {index maxL mc ms : Nat} {y : MethodName} {bytes : ByteArray} {ret : Option FieldType} {hh : List (Nat × Nat × Nat × Nat)} {Ts ws ws' : List Cond} {rm : Room} (n : Nat) (ht : ∀ w ∈ Ts, w.before args s = true) (hT : GoodIn Ts (wsV own index C y ws)) (hw : ws = Cond.codeWith y bytes maxL ret hh :: ws') (hrc : rm.cells = mc) (hrs : rm.slots = ms)
    (hd : y.cls = C ∧ y.cls ≠ "java/lang/invoke/MethodHandle" ∧ y.cls ≠ "java/lang/invoke/VarHandle" ∧ (parseMethodDescriptor y.desc).map (fun d => d.parameters.length) = some n) (hR : rm.frames + 1 ≤ R.frames ∧ 8 + (maxL + 11) + rm.locals ≤ R.locals) :
    vx_CVW R s args own C index y bytes maxL ret hh ws rm mc ms n := by
  obtain ⟨hC, hd⟩ := hd
  subst hC
  have ok : ∀ w ∈ wsV own index y.cls y ws, w.before args s = true := fun w h => ht w (hT w h).1
  have hG : GoodIn Ts ws := fun w h => hT w (by unfold wsV; exact List.mem_append_right _ h)
  have hc : Cond.codeWith y bytes maxL ret hh ∈ ws := by rw [hw]; exact List.mem_cons_self
  refine ⟨⟨hrc, hrs, hR.1, hR.2, pay_in ht hG, hc⟩, ht _ (hG _ hc).1, ok _ (by simp [wsV]), ⟨hd.1, hd.2.1⟩, fun sig h => ?_, ok _ (by simp [wsV]), ok _ (by simp [wsV]), ok _ (by simp [wsV])⟩
  have h2 := hd.2.2
  rw [h] at h2
  exact (Option.some.inj h2).symm
theorem vx_runVW {y : MethodName} {bytes cc : ByteArray} {maxL nL mc ms n index : Nat} {ret : Option FieldType} {hh : List (Nat × Nat × Nat × Nat)} {ws : List Cond} {rm : Room} {Pc : Array Value → State → Prop} {Qc : Array Value → State → Outcome → State → Prop} {free : Addr → Prop} {Ts : List Cond} {own C : String} {b : Addr} {As rest : List Value} {g : JFrame}
    (S : CallFix p m c cc nL s args Ts own) (hM : Met l y ws rm Pc Qc mc ms free) (cw : vx_CVW R s args own C index y bytes maxL ret hh ws rm mc ms n) (hp : PreV s H C b Pc As)
    (hg : g.method = m) (hn : As.length = n) (hsize : g.locals.size = nL) (hstack : g.stack = As.reverse ++ .ref b :: rest) (hW : 2 * g.monitorRoom + (rest.map fun v => v.category).sum ≤ 8) (hdg : decode cc g.pc = .ok (.invokevirtual index, 3)) (hf : cells + mc ≤ R.cells ∧ slots + ms ≤ R.slots) :
    va_Run p l e R s m args below meth c H locs cells slots mc ms g rest (Qc (Value.ref b :: As).toArray) free := by
  obtain ⟨⟨hrc, hrs, hfr, hlo, hws, hcw⟩, hcode, hini, hy, hlen, hl, hin, hse⟩ := cw
  have hK : Back l R p e below s args y 3 8 (PreOf R mc ms Pc) (PostOf Qc mc ms free) := va_backW (hh := hh) (bytes := bytes) (maxL := maxL) (ret := ret) hM hp.1 hrc hrs hfr hlo hws hcw (fun a' U hW => word_at hW (Or.inl (by first | rfl | simp [Cond.onTables, Cond.keeps, Cond.steady])) hini)
  obtain ⟨hx, hb, hml, ho, -⟩ := S
  obtain ⟨-, ⟨cellB, hcB, hoB, hclB⟩, hPc⟩ := hp
  intro T hT X
  obtain ⟨v, vm₁, ⟨U', l2, c2, s2⟩, hW₁, X', ⟨g', mk, t, L, e1, e2, hq, h1, hL, h2, h3⟩, st⟩ := vx_callVW X hx (C := C) (hh := hh) (bytes := bytes) (maxL := maxL) (ret := ret) ho hl hin hse hcode hy hK (by rw [hT]; exact hcB) hoB hclB hg (hsize.trans hml.symm) (argsL := As) (rest := rest) (fun sig h => hn.trans (hlen sig h)) hstack hW (by rw [hb]; exact hdg)
    (fun vm₁ hW₁ => ⟨hf.1, hf.2, hPc (T.setVm vm₁) hT hW₁⟩)
  dsimp only [Pt.U, Pt.locs, Pt.cells, Pt.slots] at X' e1 e2 h1 h2 h3 st
  subst h1; subst h2; subst h3
  exact ⟨v, (T.setVm vm₁).calling g' mk (Value.ref b :: As).toArray, t, U', L, hT, X', hL, e1, e2, hq, st⟩
section
variable {y : MethodName} {bytes cc : ByteArray} {maxL nL mc ms n index : Nat} {ret : Option FieldType} {ws : List Cond} {rm : Room} {Pc : Array Value → State → Prop} {Qc : Array Value → State → Outcome → State → Prop} {XC : String → State → State → Prop} {free : Addr → Prop} {Ts : List Cond} {own C : String} {b : Addr} {As rest : List Value} {g : JFrame}
theorem vx_runVX {hh : List (Nat × Nat × Nat × Nat)} (S : CallFix p m c cc nL s args Ts own) (hM : vx_Met l y ws rm Pc Qc XC mc ms free) (cw : vx_CVW R s args own C index y bytes maxL ret hh ws rm mc ms n) (hp : PreV s H C b Pc As)
    (hg : g.method = m) (hn : As.length = n) (hsize : g.locals.size = nL) (hstack : g.stack = As.reverse ++ .ref b :: rest) (hW : 2 * g.monitorRoom + (rest.map fun v => v.category).sum ≤ 8) (hdg : decode cc g.pc = .ok (.invokevirtual index, 3)) (hf : cells + mc ≤ R.cells ∧ slots + ms ≤ R.slots) :
    vx_Run p l e R s m args below meth c H locs cells slots mc ms g rest (Qc (Value.ref b :: As).toArray) XC free := by
  obtain ⟨⟨hrc, hrs, hfr, hlo, hws, hcw⟩, hcode, hini, hy, hlen, hl, hin, hse⟩ := cw
  have hK : vx_Back l R p e below s args y 3 8 (PreOf R mc ms Pc) (PostOf Qc mc ms free) (vx_Post XC mc ms free) := vx_backW (hh := hh) (bytes := bytes) (maxL := maxL) (ret := ret) hM hp.1 hrc hrs hfr hlo hws hcw (fun a' U hW => word_at hW (Or.inl (by first | rfl | simp [Cond.onTables, Cond.keeps, Cond.steady])) hini)
  obtain ⟨hx, hb, hml, ho, -⟩ := S
  obtain ⟨-, ⟨cellB, hcB, hoB, hclB⟩, hPc⟩ := hp
  intro T hT X
  rcases vx_callVX X hx (C := C) (hh := hh) (bytes := bytes) (maxL := maxL) (ret := ret) ho hl hin hse hcode hy hK (by rw [hT]; exact hcB) hoB hclB hg (hsize.trans hml.symm) (argsL := As) (rest := rest) (fun sig h => hn.trans (hlen sig h)) hstack hW (by rw [hb]; exact hdg)
    (fun vm₁ hW₁ => ⟨hf.1, hf.2, hPc (T.setVm vm₁) hT hW₁⟩) with ⟨v, vm₁, ⟨U', l2, c2, s2⟩, hW₁, X', ⟨g', mk, t, L, e1, e2, hq, h1, hL, h2, h3⟩, st⟩ | ⟨q, vm₁, ⟨U', l2, c2, s2⟩, hW₁, X', ⟨g', mk, t, L, E, ce, e1, e2, hq, hce, hcv, hcl, h1, hL, h2, h3⟩, st⟩
  · dsimp only [Pt.U, Pt.locs, Pt.cells, Pt.slots] at X' e1 e2 h1 h2 h3 st
    subst h1; subst h2; subst h3
    exact Or.inl ⟨v, (T.setVm vm₁).calling g' mk (Value.ref b :: As).toArray, t, U', L, hT, X', hL, e1, e2, hq, st⟩
  · dsimp only [Pt.U, Pt.locs, Pt.cells, Pt.slots] at X' e1 e2 h1 h2 h3 st hcl
    subst h1; subst h2; subst h3
    exact Or.inr ⟨q, (T.setVm vm₁).calling g' mk (Value.ref b :: As).toArray, t, U', L, E, ce, hT, X', hL, e1, e2, hq, hce, hcv, vx_cls hW₁ hcl, st⟩
theorem vx_runSX {hh : List (Nat × Nat × Nat × Nat)} (S : CallFix p m c cc nL s args Ts own) (hM : vx_Met l y ws rm Pc Qc XC mc ms free) (cw : vx_CSW R s args own index y bytes maxL ret hh ws rm mc ms n) (hp : PreS s H Pc As)
    (hg : g.method = m) (hn : As.length = n) (hsize : g.locals.size = nL) (hstack : g.stack = As.reverse ++ rest) (hW : 2 * g.monitorRoom + (rest.map fun v => v.category).sum ≤ 8) (hdg : decode cc g.pc = .ok (.invokestatic index, 3)) (hf : cells + mc ≤ R.cells ∧ slots + ms ≤ R.slots) :
    vx_Run p l e R s m args below meth c H locs cells slots mc ms g rest (Qc As.toArray) XC free := by
  obtain ⟨⟨hrc, hrs, hfr, hlo, hws, hcw⟩, hcode, hini, hy, hlen, hl, hstt⟩ := cw
  have hK : vx_Back l R p e below s args y 3 8 (PreOf R mc ms Pc) (PostOf Qc mc ms free) (vx_Post XC mc ms free) := vx_backW (hh := hh) (bytes := bytes) (maxL := maxL) (ret := ret) hM hp.1 hrc hrs hfr hlo hws hcw (fun a' U hW => word_at hW (Or.inl (by first | rfl | simp [Cond.onTables, Cond.keeps, Cond.steady])) hini)
  obtain ⟨hx, hb, hml, ho, -⟩ := S
  intro T hT X
  rcases vx_callSX X hx (hh := hh) (bytes := bytes) (maxL := maxL) (ret := ret) ho hl hstt hini hcode hy hK hg (hsize.trans hml.symm) (argsL := As) (rest := rest) (fun sig h => hn.trans (hlen sig h)) hstack hW (by rw [hb]; exact hdg)
    (fun vm₁ hW₁ => ⟨hf.1, hf.2, hp.2 (T.setVm vm₁) hT hW₁⟩) with ⟨v, vm₁, ⟨U', l2, c2, s2⟩, hW₁, X', ⟨g', mk, t, L, e1, e2, hq, h1, hL, h2, h3⟩, st⟩ | ⟨q, vm₁, ⟨U', l2, c2, s2⟩, hW₁, X', ⟨g', mk, t, L, E, ce, e1, e2, hq, hce, hcv, hcl, h1, hL, h2, h3⟩, st⟩
  · dsimp only [Pt.U, Pt.locs, Pt.cells, Pt.slots] at X' e1 e2 h1 h2 h3 st
    subst h1; subst h2; subst h3
    exact Or.inl ⟨v, (T.setVm vm₁).calling g' mk As.toArray, t, U', L, hT, X', hL, e1, e2, hq, st⟩
  · dsimp only [Pt.U, Pt.locs, Pt.cells, Pt.slots] at X' e1 e2 h1 h2 h3 st hcl
    subst h1; subst h2; subst h3
    exact Or.inr ⟨q, (T.setVm vm₁).calling g' mk As.toArray, t, U', L, E, ce, hT, X', hL, e1, e2, hq, hce, hcv, vx_cls hW₁ hcl, st⟩
end
end VXH
theorem vx_ofWH {l : Launch} {y : MethodName} {ws ws' : List Cond} {rm : Room} {Pc : Array Value → State → Prop} {Qc : Array Value → State → Outcome → State → Prop} {XC : String → State → State → Prop} {mc ms : Nat} {free : Addr → Prop} {cc : ByteArray} {maxL : Nat} {ret : Option FieldType} {hh : List (Nat × Nat × Nat × Nat)}
    (hy : plainName y.cls = true) (hw : ws = Cond.codeWith y cc maxL ret hh :: ws')
    (body : ∀ p e s m args below meth c s₁, BodyLoose p l y (headSpec ws rm) cc maxL ret e s m args below meth c s₁ → c.maxLocals = maxL → Pc args s →
      W p l e (headSpec ws rm).room s m args below meth c s.heap [] 0 0 (vx_MQ below Qc XC args s mc ms free) (entryFrame m args maxL)) : vx_Met l y ws rm Pc Qc XC mc ms free := by
  refine MetFree.of_bodyS (code := cc) (maxLocals := maxL) (ret := ret) hy ?_ ?_
  · intro args s m h hn
    obtain ⟨m9, meth, c, hn9, h1, h2, h3, h4, -, h5, h6, -⟩ := Cond.codeWith_spec (atoms_spec (ws := ws) h _ (by rw [hw]; exact List.mem_cons_self))
    cases hn.symm.trans hn9
    exact ⟨meth, c, h1, h2, h3, h4, h5, h6⟩
  · intro p e s m args below meth c s₁ B hml hP _
    have hh0 : s₁.heap = s.heap := by rw [B.state]; rfl
    obtain ⟨t, a1, o, b1, b2, b3⟩ := body p e s m args below meth c s₁ B hml hP s₁ hh0 (Stand.of_body B)
    exact ⟨t, o, a1, b1, b2, b3⟩
/-! ===== END ===== -/
end
section
/-! ===== BEGIN printed: names, fields, word lists, decode rows ===== -/
def RX0 : String := "ReefPilot$Coast"
def TX0 : u_T := fun k => match k with
  | 0 => ("ReefPilot$Coast", "ground", "[I", true)
  | 1 => ("ReefPilot$Coast", "coral", "[I", true)
  | 2 => ("ReefPilot$Coast", "headBefore", "[Z", true)
  | _ => ("ReefPilot$Coast", "month", "I", false)
def tyX0 : Nat → FieldType := fun k => match k with
  | 0 => .array .int
  | 1 => .array .int
  | 2 => .array .boolean
  | _ => .int
abbrev wsX00 : List Cond := u_ws RX0 TX0 4
theorem nmX0 : ∀ a, a < 4 → ∀ b, b < 4 → a ≠ b → (TX0 a).2.1 ≠ (TX0 b).2.1 := by decide +kernel
theorem tyX0_ok : ∀ k, k < 4 → parseFieldDescriptor (TX0 k).2.2.1 = some (tyX0 k) := by decide +kernel
abbrev cX0_init : ByteArray := prog_2_method_1_code
def yX0_init : MethodName := ⟨RX0, "<init>", "()V"⟩
abbrev cX0_becomeLike : ByteArray := prog_2_method_2_code
def yX0_becomeLike : MethodName := ⟨RX0, "becomeLike", "(LReefPilot$Coast;)V"⟩
abbrev cX0_layGround : ByteArray := prog_2_method_3_code
def yX0_layGround : MethodName := ⟨RX0, "layGround", "(II)I"⟩
abbrev cX0_setCoral : ByteArray := prog_2_method_4_code
def yX0_setCoral : MethodName := ⟨RX0, "setCoral", "(II)I"⟩
abbrev cX0_groundOf : ByteArray := prog_2_method_5_code
def yX0_groundOf : MethodName := ⟨RX0, "groundOf", "(I)I"⟩
abbrev cX0_coralOf : ByteArray := prog_2_method_6_code
def yX0_coralOf : MethodName := ⟨RX0, "coralOf", "(I)I"⟩
abbrev cX0_depthOf : ByteArray := prog_2_method_7_code
def yX0_depthOf : MethodName := ⟨RX0, "depthOf", "(I)I"⟩
abbrev cX0_isHead : ByteArray := prog_2_method_8_code
def yX0_isHead : MethodName := ⟨RX0, "isHead", "(I)Z"⟩
abbrev cX0_monthNow : ByteArray := prog_2_method_9_code
def yX0_monthNow : MethodName := ⟨RX0, "monthNow", "()I"⟩
abbrev cX0_heads : ByteArray := prog_2_method_10_code
def yX0_heads : MethodName := ⟨RX0, "heads", "()I"⟩
abbrev cX0_allCoral : ByteArray := prog_2_method_11_code
def yX0_allCoral : MethodName := ⟨RX0, "allCoral", "()I"⟩
abbrev cX0_letMonthGo : ByteArray := prog_2_method_12_code
def yX0_letMonthGo : MethodName := ⟨RX0, "letMonthGo", "(LReefPilot$Table;)V"⟩
abbrev cX0_changeByWarmth : ByteArray := prog_2_method_13_code
def yX0_changeByWarmth : MethodName := ⟨RX0, "changeByWarmth", "(I)V"⟩
abbrev cX0_dieBack : ByteArray := prog_2_method_14_code
def yX0_dieBack : MethodName := ⟨RX0, "dieBack", "()V"⟩
abbrev cX0_grow : ByteArray := prog_2_method_15_code
def yX0_grow : MethodName := ⟨RX0, "grow", "()V"⟩
abbrev cX0_seed : ByteArray := prog_2_method_16_code
def yX0_seed : MethodName := ⟨RX0, "seed", "()V"⟩
abbrev cX0_rememberHeads : ByteArray := prog_2_method_17_code
def yX0_rememberHeads : MethodName := ⟨RX0, "rememberHeads", "()V"⟩
abbrev cX0_headsBeside : ByteArray := prog_2_method_18_code
def yX0_headsBeside : MethodName := ⟨RX0, "headsBeside", "(I)I"⟩
abbrev cX0_breakByStorm : ByteArray := prog_2_method_19_code
def yX0_breakByStorm : MethodName := ⟨RX0, "breakByStorm", "(I)V"⟩
abbrev cX0_dropRubble : ByteArray := prog_2_method_20_code
def yX0_dropRubble : MethodName := ⟨RX0, "dropRubble", "(II)V"⟩
def RX1 : String := "ReefPilot$Soundings"
def TX1 : u_T := fun k => match k with
  | 0 => ("ReefPilot$Soundings", "depth", "[I", true)
  | _ => ("ReefPilot$Soundings", "takenIn", "[I", true)
def tyX1 : Nat → FieldType := fun k => match k with
  | 0 => .array .int
  | _ => .array .int
abbrev wsX10 : List Cond := u_ws RX1 TX1 2
theorem nmX1 : ∀ a, a < 2 → ∀ b, b < 2 → a ≠ b → (TX1 a).2.1 ≠ (TX1 b).2.1 := by decide +kernel
theorem tyX1_ok : ∀ k, k < 2 → parseFieldDescriptor (TX1 k).2.2.1 = some (tyX1 k) := by decide +kernel
abbrev cX1_init : ByteArray := prog_3_method_1_code
def yX1_init : MethodName := ⟨RX1, "<init>", "()V"⟩
abbrev cX1_note : ByteArray := prog_3_method_2_code
def yX1_note : MethodName := ⟨RX1, "note", "(III)V"⟩
abbrev cX1_noted : ByteArray := prog_3_method_3_code
def yX1_noted : MethodName := ⟨RX1, "noted", "(I)I"⟩
abbrev cX1_age : ByteArray := prog_3_method_4_code
def yX1_age : MethodName := ⟨RX1, "age", "(II)I"⟩
def RX2 : String := "ReefPilot$Spread"
def TX2 : u_T := fun k => match k with
  | 0 => ("ReefPilot$Spread", "open", "[Z", true)
  | 1 => ("ReefPilot$Spread", "steps", "[I", true)
  | 2 => ("ReefPilot$Spread", "reached", "[I", true)
  | _ => ("ReefPilot$Spread", "reachedCells", "I", false)
def tyX2 : Nat → FieldType := fun k => match k with
  | 0 => .array .boolean
  | 1 => .array .int
  | 2 => .array .int
  | _ => .int
abbrev wsX20 : List Cond := u_ws RX2 TX2 4
theorem nmX2 : ∀ a, a < 4 → ∀ b, b < 4 → a ≠ b → (TX2 a).2.1 ≠ (TX2 b).2.1 := by decide +kernel
theorem tyX2_ok : ∀ k, k < 4 → parseFieldDescriptor (TX2 k).2.2.1 = some (tyX2 k) := by decide +kernel
abbrev cX2_init : ByteArray := prog_4_method_1_code
def yX2_init : MethodName := ⟨RX2, "<init>", "()V"⟩
abbrev cX2_clear : ByteArray := prog_4_method_2_code
def yX2_clear : MethodName := ⟨RX2, "clear", "()V"⟩
abbrev cX2_setOpen : ByteArray := prog_4_method_3_code
def yX2_setOpen : MethodName := ⟨RX2, "setOpen", "(IZ)V"⟩
abbrev cX2_stepsTo : ByteArray := prog_4_method_4_code
def yX2_stepsTo : MethodName := ⟨RX2, "stepsTo", "(I)I"⟩
abbrev cX2_goFromRow : ByteArray := prog_4_method_5_code
def yX2_goFromRow : MethodName := ⟨RX2, "goFromRow", "(I)V"⟩
abbrev cX2_goFromCell : ByteArray := prog_4_method_6_code
def yX2_goFromCell : MethodName := ⟨RX2, "goFromCell", "(I)I"⟩
abbrev cX2_nearerFrom : ByteArray := prog_4_method_7_code
def yX2_nearerFrom : MethodName := ⟨RX2, "nearerFrom", "(I)I"⟩
abbrev cX2_goOnFrom : ByteArray := prog_4_method_8_code
def yX2_goOnFrom : MethodName := ⟨RX2, "goOnFrom", "(I)V"⟩
abbrev cX2_reach : ByteArray := prog_4_method_9_code
def yX2_reach : MethodName := ⟨RX2, "reach", "(II)V"⟩
def RX3 : String := "ReefPilot$Table"
def TX3 : u_T := fun k => match k with
  | 0 => ("ReefPilot$Table", "warmth", "[I", true)
  | _ => ("ReefPilot$Table", "storm", "[I", true)
def tyX3 : Nat → FieldType := fun k => match k with
  | 0 => .array .int
  | _ => .array .int
abbrev wsX30 : List Cond := u_ws RX3 TX3 2
theorem nmX3 : ∀ a, a < 2 → ∀ b, b < 2 → a ≠ b → (TX3 a).2.1 ≠ (TX3 b).2.1 := by decide +kernel
theorem tyX3_ok : ∀ k, k < 2 → parseFieldDescriptor (TX3 k).2.2.1 = some (tyX3 k) := by decide +kernel
abbrev cX3_init : ByteArray := prog_5_method_1_code
def yX3_init : MethodName := ⟨RX3, "<init>", "()V"⟩
abbrev cX3_write : ByteArray := prog_5_method_2_code
def yX3_write : MethodName := ⟨RX3, "write", "(III)V"⟩
abbrev cX3_entry : ByteArray := prog_5_method_3_code
def yX3_entry : MethodName := ⟨RX3, "entry", "(I)I"⟩
abbrev cX3_warmthIn : ByteArray := prog_5_method_4_code
def yX3_warmthIn : MethodName := ⟨RX3, "warmthIn", "(I)I"⟩
abbrev cX3_stormIn : ByteArray := prog_5_method_5_code
def yX3_stormIn : MethodName := ⟨RX3, "stormIn", "(I)I"⟩
def RX4 : String := "ReefPilot"
def TX4 : u_T := fun k => match k with
  | 0 => ("ReefPilot", "table", "LReefPilot$Table;", true)
  | 1 => ("ReefPilot", "coast", "LReefPilot$Coast;", true)
  | 2 => ("ReefPilot", "ahead", "LReefPilot$Coast;", true)
  | 3 => ("ReefPilot", "soundings", "LReefPilot$Soundings;", true)
  | 4 => ("ReefPilot", "spread", "LReefPilot$Spread;", true)
  | _ => ("ReefPilot", "water", "[I", true)
def tyX4 : Nat → FieldType := fun k => match k with
  | 0 => .object "ReefPilot$Table"
  | 1 => .object "ReefPilot$Coast"
  | 2 => .object "ReefPilot$Coast"
  | 3 => .object "ReefPilot$Soundings"
  | 4 => .object "ReefPilot$Spread"
  | _ => .array .int
abbrev wsX40 : List Cond := u_ws RX4 TX4 6
theorem nmX4 : ∀ a, a < 6 → ∀ b, b < 6 → a ≠ b → (TX4 a).2.1 ≠ (TX4 b).2.1 := by decide +kernel
theorem tyX4_ok : ∀ k, k < 6 → parseFieldDescriptor (TX4 k).2.2.1 = some (tyX4 k) := by decide +kernel
abbrev cX4_init : ByteArray := prog_1_method_1_code
def yX4_init : MethodName := ⟨RX4, "<init>", "()V"⟩
abbrev cX4_setGround : ByteArray := prog_1_method_2_code
def yX4_setGround : MethodName := ⟨RX4, "setGround", "(III)I"⟩
abbrev cX4_plant : ByteArray := prog_1_method_3_code
def yX4_plant : MethodName := ⟨RX4, "plant", "(III)I"⟩
abbrev cX4_setMonth : ByteArray := prog_1_method_4_code
def yX4_setMonth : MethodName := ⟨RX4, "setMonth", "(III)I"⟩
abbrev cX4_cell : ByteArray := prog_1_method_5_code
def yX4_cell : MethodName := ⟨RX4, "cell", "(III)I"⟩
abbrev cX4_sound : ByteArray := prog_1_method_6_code
def yX4_sound : MethodName := ⟨RX4, "sound", "(II)I"⟩
abbrev cX4_chart : ByteArray := prog_1_method_7_code
def yX4_chart : MethodName := ⟨RX4, "chart", "(III)I"⟩
abbrev cX4_way : ByteArray := prog_1_method_8_code
def yX4_way : MethodName := ⟨RX4, "way", "(IZ)I"⟩
abbrev cX4_deepest : ByteArray := prog_1_method_9_code
def yX4_deepest : MethodName := ⟨RX4, "deepest", "(Z)I"⟩
abbrev cX4_harbours : ByteArray := prog_1_method_10_code
def yX4_harbours : MethodName := ⟨RX4, "harbours", "(I)I"⟩
abbrev cX4_pilot : ByteArray := prog_1_method_11_code
def yX4_pilot : MethodName := ⟨RX4, "pilot", "(I)I"⟩
abbrev cX4_pass : ByteArray := prog_1_method_12_code
def yX4_pass : MethodName := ⟨RX4, "pass", "(I)I"⟩
abbrev cX4_count : ByteArray := prog_1_method_13_code
def yX4_count : MethodName := ⟨RX4, "count", "(I)I"⟩
abbrev cX4_closes : ByteArray := prog_1_method_14_code
def yX4_closes : MethodName := ⟨RX4, "closes", "(I)I"⟩
abbrev cX4_foresee : ByteArray := prog_1_method_15_code
def yX4_foresee : MethodName := ⟨RX4, "foresee", "(II)I"⟩
abbrev cX4_advise : ByteArray := prog_1_method_16_code
def yX4_advise : MethodName := ⟨RX4, "advise", "()I"⟩
abbrev cX4_mean : ByteArray := prog_1_method_17_code
def yX4_mean : MethodName := ⟨RX4, "mean", "()D"⟩
abbrev cX4_digest : ByteArray := prog_1_method_18_code
def yX4_digest : MethodName := ⟨RX4, "digest", "()J"⟩
abbrev cX4_needCell : ByteArray := prog_1_method_19_code
def yX4_needCell : MethodName := ⟨RX4, "needCell", "(II)V"⟩
abbrev cX4_needIndex : ByteArray := prog_1_method_20_code
def yX4_needIndex : MethodName := ⟨RX4, "needIndex", "(II)V"⟩
abbrev cX4_needWithin : ByteArray := prog_1_method_21_code
def yX4_needWithin : MethodName := ⟨RX4, "needWithin", "(III)V"⟩
abbrev cX4_countAnswer : ByteArray := prog_1_method_22_code
def yX4_countAnswer : MethodName := ⟨RX4, "countAnswer", "(I)I"⟩
abbrev cX4_soundingsTaken : ByteArray := prog_1_method_23_code
def yX4_soundingsTaken : MethodName := ⟨RX4, "soundingsTaken", "()I"⟩
abbrev cX4_soundingsTooDeep : ByteArray := prog_1_method_24_code
def yX4_soundingsTooDeep : MethodName := ⟨RX4, "soundingsTooDeep", "()I"⟩
abbrev cX4_cellsWithoutDepth : ByteArray := prog_1_method_25_code
def yX4_cellsWithoutDepth : MethodName := ⟨RX4, "cellsWithoutDepth", "()I"⟩
abbrev cX4_chartAnswer : ByteArray := prog_1_method_26_code
def yX4_chartAnswer : MethodName := ⟨RX4, "chartAnswer", "(II)I"⟩
abbrev cX4_safeDepth : ByteArray := prog_1_method_27_code
def yX4_safeDepth : MethodName := ⟨RX4, "safeDepth", "(I)I"⟩
abbrev cX4_headsOfReefAt : ByteArray := prog_1_method_28_code
def yX4_headsOfReefAt : MethodName := ⟨RX4, "headsOfReefAt", "(I)I"⟩
abbrev cX4_reefsOn : ByteArray := prog_1_method_29_code
def yX4_reefsOn : MethodName := ⟨RX4, "reefsOn", "(LReefPilot$Coast;)I"⟩
abbrev cX4_headsOfLargestReef : ByteArray := prog_1_method_30_code
def yX4_headsOfLargestReef : MethodName := ⟨RX4, "headsOfLargestReef", "()I"⟩
abbrev cX4_openHeads : ByteArray := prog_1_method_31_code
def yX4_openHeads : MethodName := ⟨RX4, "openHeads", "(LReefPilot$Coast;)V"⟩
abbrev cX4_countOn : ByteArray := prog_1_method_32_code
def yX4_countOn : MethodName := ⟨RX4, "countOn", "(Z)V"⟩
abbrev cX4_countOnChart : ByteArray := prog_1_method_33_code
def yX4_countOnChart : MethodName := ⟨RX4, "countOnChart", "()V"⟩
abbrev cX4_countOnDepths : ByteArray := prog_1_method_34_code
def yX4_countOnDepths : MethodName := ⟨RX4, "countOnDepths", "(LReefPilot$Coast;)V"⟩
abbrev cX4_openWater : ByteArray := prog_1_method_35_code
def yX4_openWater : MethodName := ⟨RX4, "openWater", "(I)V"⟩
abbrev cX4_startOfShortestWay : ByteArray := prog_1_method_36_code
def yX4_startOfShortestWay : MethodName := ⟨RX4, "startOfShortestWay", "(I)I"⟩
abbrev cX4_greatestDraught : ByteArray := prog_1_method_37_code
def yX4_greatestDraught : MethodName := ⟨RX4, "greatestDraught", "()I"⟩
abbrev cX4_leadFrom : ByteArray := prog_1_method_38_code
def yX4_leadFrom : MethodName := ⟨RX4, "leadFrom", "(II)I"⟩
abbrev cX4_neighbour : ByteArray := prog_1_method_39_code
def yX4_neighbour : MethodName := ⟨RX4, "neighbour", "(II)I"⟩
def RX5 : String := "ReefPilotModel"
def TX5 : u_T := fun k => match k with
  | 0 => ("ReefPilotModel", "thrown", "I", false)
  | 1 => ("ReefPilotModel", "ground", "[I", true)
  | 2 => ("ReefPilotModel", "coral", "[I", true)
  | 3 => ("ReefPilotModel", "sounding", "[I", true)
  | 4 => ("ReefPilotModel", "taken", "[I", true)
  | 5 => ("ReefPilotModel", "warmth", "[I", true)
  | 6 => ("ReefPilotModel", "storms", "[I", true)
  | 7 => ("ReefPilotModel", "month", "I", false)
  | 8 => ("ReefPilotModel", "next", "[I", true)
  | 9 => ("ReefPilotModel", "label", "[I", true)
  | _ => ("ReefPilotModel", "far", "[I", true)
def tyX5 : Nat → FieldType := fun k => match k with
  | 0 => .int
  | 1 => .array .int
  | 2 => .array .int
  | 3 => .array .int
  | 4 => .array .int
  | 5 => .array .int
  | 6 => .array .int
  | 7 => .int
  | 8 => .array .int
  | 9 => .array .int
  | _ => .array .int
abbrev wsX50 : List Cond := u_ws RX5 TX5 11
theorem nmX5 : ∀ a, a < 11 → ∀ b, b < 11 → a ≠ b → (TX5 a).2.1 ≠ (TX5 b).2.1 := by decide +kernel
theorem tyX5_ok : ∀ k, k < 11 → parseFieldDescriptor (TX5 k).2.2.1 = some (tyX5 k) := by decide +kernel
abbrev cX5_init : ByteArray := prog_7_method_1_code
def yX5_init : MethodName := ⟨RX5, "<init>", "()V"⟩
abbrev cX5_thrown : ByteArray := prog_7_method_2_code
def yX5_thrown : MethodName := ⟨RX5, "thrown", "()I"⟩
abbrev cX5_fail : ByteArray := prog_7_method_3_code
def yX5_fail : MethodName := ⟨RX5, "fail", "(I)I"⟩
abbrev cX5_isIn : ByteArray := prog_7_method_4_code
def yX5_isIn : MethodName := ⟨RX5, "isIn", "(III)Z"⟩
abbrev cX5_isCell : ByteArray := prog_7_method_5_code
def yX5_isCell : MethodName := ⟨RX5, "isCell", "(II)Z"⟩
abbrev cX5_beside : ByteArray := prog_7_method_6_code
def yX5_beside : MethodName := ⟨RX5, "beside", "(II)I"⟩
abbrev cX5_depth : ByteArray := prog_7_method_7_code
def yX5_depth : MethodName := ⟨RX5, "depth", "(I)I"⟩
abbrev cX5_isHead : ByteArray := prog_7_method_8_code
def yX5_isHead : MethodName := ⟨RX5, "isHead", "(I)Z"⟩
abbrev cX5_headsBeside : ByteArray := prog_7_method_9_code
def yX5_headsBeside : MethodName := ⟨RX5, "headsBeside", "(I)I"⟩
abbrev cX5_setGround : ByteArray := prog_7_method_10_code
def yX5_setGround : MethodName := ⟨RX5, "setGround", "(III)I"⟩
abbrev cX5_plant : ByteArray := prog_7_method_11_code
def yX5_plant : MethodName := ⟨RX5, "plant", "(III)I"⟩
abbrev cX5_setMonth : ByteArray := prog_7_method_12_code
def yX5_setMonth : MethodName := ⟨RX5, "setMonth", "(III)I"⟩
abbrev cX5_mark : ByteArray := prog_7_method_13_code
def yX5_mark : MethodName := ⟨RX5, "mark", "()V"⟩
abbrev cX5_reefOf : ByteArray := prog_7_method_14_code
def yX5_reefOf : MethodName := ⟨RX5, "reefOf", "(I)I"⟩
abbrev cX5_cell : ByteArray := prog_7_method_15_code
def yX5_cell : MethodName := ⟨RX5, "cell", "(III)I"⟩
abbrev cX5_sound : ByteArray := prog_7_method_16_code
def yX5_sound : MethodName := ⟨RX5, "sound", "(II)I"⟩
abbrev cX5_charted : ByteArray := prog_7_method_17_code
def yX5_charted : MethodName := ⟨RX5, "charted", "(II)I"⟩
abbrev cX5_chart : ByteArray := prog_7_method_18_code
def yX5_chart : MethodName := ⟨RX5, "chart", "(III)I"⟩
abbrev cX5_spread : ByteArray := prog_7_method_19_code
def yX5_spread : MethodName := ⟨RX5, "spread", "(IZZ)V"⟩
abbrev cX5_shortest : ByteArray := prog_7_method_20_code
def yX5_shortest : MethodName := ⟨RX5, "shortest", "(IZ)I"⟩
abbrev cX5_way : ByteArray := prog_7_method_21_code
def yX5_way : MethodName := ⟨RX5, "way", "(IZ)I"⟩
abbrev cX5_most : ByteArray := prog_7_method_22_code
def yX5_most : MethodName := ⟨RX5, "most", "(Z)I"⟩
abbrev cX5_deepest : ByteArray := prog_7_method_23_code
def yX5_deepest : MethodName := ⟨RX5, "deepest", "(Z)I"⟩
abbrev cX5_harbours : ByteArray := prog_7_method_24_code
def yX5_harbours : MethodName := ⟨RX5, "harbours", "(I)I"⟩
abbrev cX5_pilot : ByteArray := prog_7_method_25_code
def yX5_pilot : MethodName := ⟨RX5, "pilot", "(I)I"⟩
abbrev cX5_grow : ByteArray := prog_7_method_26_code
def yX5_grow : MethodName := ⟨RX5, "grow", "(I)V"⟩
abbrev cX5_blow : ByteArray := prog_7_method_27_code
def yX5_blow : MethodName := ⟨RX5, "blow", "(I)V"⟩
abbrev cX5_monthOn : ByteArray := prog_7_method_28_code
def yX5_monthOn : MethodName := ⟨RX5, "monthOn", "()V"⟩
abbrev cX5_heads : ByteArray := prog_7_method_29_code
def yX5_heads : MethodName := ⟨RX5, "heads", "()I"⟩
abbrev cX5_pass : ByteArray := prog_7_method_30_code
def yX5_pass : MethodName := ⟨RX5, "pass", "(I)I"⟩
abbrev cX5_reefs : ByteArray := prog_7_method_31_code
def yX5_reefs : MethodName := ⟨RX5, "reefs", "()I"⟩
abbrev cX5_largest : ByteArray := prog_7_method_32_code
def yX5_largest : MethodName := ⟨RX5, "largest", "()I"⟩
abbrev cX5_counted : ByteArray := prog_7_method_33_code
def yX5_counted : MethodName := ⟨RX5, "counted", "(I)I"⟩
abbrev cX5_count : ByteArray := prog_7_method_34_code
def yX5_count : MethodName := ⟨RX5, "count", "(I)I"⟩
abbrev cX5_bringBack : ByteArray := prog_7_method_35_code
def yX5_bringBack : MethodName := ⟨RX5, "bringBack", "([I[II)V"⟩
abbrev cX5_closes : ByteArray := prog_7_method_36_code
def yX5_closes : MethodName := ⟨RX5, "closes", "(I)I"⟩
abbrev cX5_foresee : ByteArray := prog_7_method_37_code
def yX5_foresee : MethodName := ⟨RX5, "foresee", "(II)I"⟩
abbrev cX5_advise : ByteArray := prog_7_method_38_code
def yX5_advise : MethodName := ⟨RX5, "advise", "()I"⟩
abbrev cX5_mean : ByteArray := prog_7_method_39_code
def yX5_mean : MethodName := ⟨RX5, "mean", "()D"⟩
abbrev cX5_digest : ByteArray := prog_7_method_40_code
def yX5_digest : MethodName := ⟨RX5, "digest", "()J"⟩
def RJx145de : String := "java/io/Serializable"
def TJx145de : u_T := fun k => match k with
  | _ => ("", "", "", false)
def tyJx145de : Nat → FieldType := fun k => match k with
  | _ => .int
abbrev wsJx145de0 : List Cond := u_ws RJx145de TJx145de 0
theorem nmJx145de : ∀ a, a < 0 → ∀ b, b < 0 → a ≠ b → (TJx145de a).2.1 ≠ (TJx145de b).2.1 := by decide +kernel
theorem tyJx145de_ok : ∀ k, k < 0 → parseFieldDescriptor (TJx145de k).2.2.1 = some (tyJx145de k) := by decide +kernel
def RJx8e188 : String := "java/lang/Cloneable"
def TJx8e188 : u_T := fun k => match k with
  | _ => ("", "", "", false)
def tyJx8e188 : Nat → FieldType := fun k => match k with
  | _ => .int
abbrev wsJx8e1880 : List Cond := u_ws RJx8e188 TJx8e188 0
theorem nmJx8e188 : ∀ a, a < 0 → ∀ b, b < 0 → a ≠ b → (TJx8e188 a).2.1 ≠ (TJx8e188 b).2.1 := by decide +kernel
theorem tyJx8e188_ok : ∀ k, k < 0 → parseFieldDescriptor (TJx8e188 k).2.2.1 = some (tyJx8e188 k) := by decide +kernel
def RJ9 : String := "java/lang/Math"
def TJ9 : u_T := fun k => match k with
  | _ => ("", "", "", false)
def tyJ9 : Nat → FieldType := fun k => match k with
  | _ => .int
abbrev wsJ90 : List Cond := u_ws RJ9 TJ9 0
theorem nmJ9 : ∀ a, a < 0 → ∀ b, b < 0 → a ≠ b → (TJ9 a).2.1 ≠ (TJ9 b).2.1 := by decide +kernel
theorem tyJ9_ok : ∀ k, k < 0 → parseFieldDescriptor (TJ9 k).2.2.1 = some (tyJ9 k) := by decide +kernel
abbrev cJ9_floorMod_7cf53 : ByteArray := prog_12_method_50_code
def yJ9_floorMod_7cf53 : MethodName := ⟨RJ9, "floorMod", "(II)I"⟩
abbrev cJ9_max_7cf53 : ByteArray := prog_12_method_65_code
def yJ9_max_7cf53 : MethodName := ⟨RJ9, "max", "(II)I"⟩
abbrev cJ9_min_7cf53 : ByteArray := prog_12_method_69_code
def yJ9_min_7cf53 : MethodName := ⟨RJ9, "min", "(II)I"⟩
def RJ0 : String := "java/lang/String"
def TJ0 : u_T := fun k => match k with
  | _ => ("", "", "", false)
def tyJ0 : Nat → FieldType := fun k => match k with
  | _ => .int
abbrev wsJ00 : List Cond := u_ws RJ0 TJ0 0
theorem nmJ0 : ∀ a, a < 0 → ∀ b, b < 0 → a ≠ b → (TJ0 a).2.1 ≠ (TJ0 b).2.1 := by decide +kernel
theorem tyJ0_ok : ∀ k, k < 0 → parseFieldDescriptor (TJ0 k).2.2.1 = some (tyJ0 k) := by decide +kernel
def RJ10 : String := "java/lang/System"
def TJ10 : u_T := fun k => match k with
  | _ => ("", "", "", false)
def tyJ10 : Nat → FieldType := fun k => match k with
  | _ => .int
abbrev wsJ100 : List Cond := u_ws RJ10 TJ10 0
theorem nmJ10 : ∀ a, a < 0 → ∀ b, b < 0 → a ≠ b → (TJ10 a).2.1 ≠ (TJ10 b).2.1 := by decide +kernel
theorem tyJ10_ok : ∀ k, k < 0 → parseFieldDescriptor (TJ10 k).2.2.1 = some (tyJ10 k) := by decide +kernel
def RJ7 : String := "java/util/Arrays"
def TJ7 : u_T := fun k => match k with
  | _ => ("", "", "", false)
def tyJ7 : Nat → FieldType := fun k => match k with
  | _ => .int
abbrev wsJ70 : List Cond := u_ws RJ7 TJ7 0
theorem nmJ7 : ∀ a, a < 0 → ∀ b, b < 0 → a ≠ b → (TJ7 a).2.1 ≠ (TJ7 b).2.1 := by decide +kernel
theorem tyJ7_ok : ∀ k, k < 0 → parseFieldDescriptor (TJ7 k).2.2.1 = some (tyJ7 k) := by decide +kernel
abbrev cJ7_fill_53178 : ByteArray := prog_17_method_103_code
def yJ7_fill_53178 : MethodName := ⟨RJ7, "fill", "([II)V"⟩
def RL : String := "ReefPilotLaw"
abbrev cL_setGround : ByteArray := method_3_code
def yL_setGround : MethodName := ⟨RL, "setGround", "(LReefPilot;III[J)I"⟩
abbrev cL_plant : ByteArray := method_4_code
def yL_plant : MethodName := ⟨RL, "plant", "(LReefPilot;III[J)I"⟩
abbrev cL_setMonth : ByteArray := method_5_code
def yL_setMonth : MethodName := ⟨RL, "setMonth", "(LReefPilot;III[J)I"⟩
abbrev cL_cell : ByteArray := method_6_code
def yL_cell : MethodName := ⟨RL, "cell", "(LReefPilot;III[J)I"⟩
abbrev cL_sound : ByteArray := method_7_code
def yL_sound : MethodName := ⟨RL, "sound", "(LReefPilot;II[J)I"⟩
abbrev cL_chart : ByteArray := method_8_code
def yL_chart : MethodName := ⟨RL, "chart", "(LReefPilot;III[J)I"⟩
abbrev cL_way : ByteArray := method_9_code
def yL_way : MethodName := ⟨RL, "way", "(LReefPilot;IZ[J)I"⟩
abbrev cL_harbours : ByteArray := method_10_code
def yL_harbours : MethodName := ⟨RL, "harbours", "(LReefPilot;I[J)I"⟩
abbrev cL_pilot : ByteArray := method_11_code
def yL_pilot : MethodName := ⟨RL, "pilot", "(LReefPilot;I[J)I"⟩
abbrev cL_pass : ByteArray := method_12_code
def yL_pass : MethodName := ⟨RL, "pass", "(LReefPilot;I[J)I"⟩
abbrev cL_count : ByteArray := method_13_code
def yL_count : MethodName := ⟨RL, "count", "(LReefPilot;I[J)I"⟩
abbrev cL_closes : ByteArray := method_14_code
def yL_closes : MethodName := ⟨RL, "closes", "(LReefPilot;I[J)I"⟩
abbrev cL_foresee : ByteArray := method_15_code
def yL_foresee : MethodName := ⟨RL, "foresee", "(LReefPilot;II[J)I"⟩
abbrev cL_law : ByteArray := code
def yL_law : MethodName := ⟨RL, "law", "([I)Z"⟩
def wsJ7_fill_53178 : List Cond := .code yJ7_fill_53178 cJ7_fill_53178 4 none :: ([])
def wsX0_init : List Cond := .code yX0_init cX0_init 1 none :: ([.methodLink RX0 3 objectInit, .instanceMethod objectInit, .code objectInit ⟨#[0xb1]⟩ 1 none, .arrayClass .int, .fieldLink RX0 9 "ReefPilot$Coast" "ground" "[I", .fieldLink RX0 15 "ReefPilot$Coast" "coral" "[I", .arrayClass .boolean, .fieldLink RX0 18 "ReefPilot$Coast" "headBefore" "[Z", .methodLink RX0 22 yJ7_fill_53178, .static yJ7_fill_53178, .initialized RJ7, .code yJ7_fill_53178 cJ7_fill_53178 4 none] ++ wsX00)
def wsX0_becomeLike : List Cond := .code yX0_becomeLike cX0_becomeLike 2 none :: ([.fieldLink RX0 9 "ReefPilot$Coast" "ground" "[I", .methodLink RX0 28 arraycopyName, .native arraycopyName, .static arraycopyName, .initialized "java/lang/System", .fieldLink RX0 15 "ReefPilot$Coast" "coral" "[I", .fieldLink RX0 34 "ReefPilot$Coast" "month" "I"] ++ wsX00)
def wsX0_layGround : List Cond := .code yX0_layGround cX0_layGround 4 (some .int) :: ([.fieldLink RX0 9 "ReefPilot$Coast" "ground" "[I", .fieldLink RX0 15 "ReefPilot$Coast" "coral" "[I", .methodLink RX0 38 Lib.Math.min.name, .static Lib.Math.min.name, .initialized "java/lang/Math", .code Lib.Math.min.name Lib.Math.min.code 2 (some .int)] ++ wsX00)
def wsX0_setCoral : List Cond := .code yX0_setCoral cX0_setCoral 4 (some .int) :: ([.fieldLink RX0 15 "ReefPilot$Coast" "coral" "[I"] ++ wsX00)
def wsX0_groundOf : List Cond := .code yX0_groundOf cX0_groundOf 2 (some .int) :: ([.fieldLink RX0 9 "ReefPilot$Coast" "ground" "[I"] ++ wsX00)
def wsX0_coralOf : List Cond := .code yX0_coralOf cX0_coralOf 2 (some .int) :: ([.fieldLink RX0 15 "ReefPilot$Coast" "coral" "[I"] ++ wsX00)
def wsX0_depthOf : List Cond := .code yX0_depthOf cX0_depthOf 2 (some .int) :: ([.fieldLink RX0 9 "ReefPilot$Coast" "ground" "[I", .fieldLink RX0 15 "ReefPilot$Coast" "coral" "[I", .methodLink RX0 44 Lib.Math.max.name, .static Lib.Math.max.name, .initialized "java/lang/Math", .code Lib.Math.max.name Lib.Math.max.code 2 (some .int)] ++ wsX00)
def wsX0_isHead : List Cond := .code yX0_isHead cX0_isHead 2 (some .boolean) :: ([.fieldLink RX0 15 "ReefPilot$Coast" "coral" "[I"] ++ wsX00)
def wsX0_monthNow : List Cond := .code yX0_monthNow cX0_monthNow 1 (some .int) :: ([.fieldLink RX0 34 "ReefPilot$Coast" "month" "I"] ++ wsX00)
def wsX0_heads : List Cond := .code yX0_heads cX0_heads 3 (some .int) :: ([.methodLink RX0 47 yX0_isHead, .instanceMethod yX0_isHead, .selects RX0 yX0_isHead yX0_isHead, .initialized RX0, .code yX0_isHead cX0_isHead 2 (some .boolean), .fieldLink RX0 15 "ReefPilot$Coast" "coral" "[I"] ++ wsX00)
def wsX0_allCoral : List Cond := .code yX0_allCoral cX0_allCoral 3 (some .int) :: ([.fieldLink RX0 15 "ReefPilot$Coast" "coral" "[I"] ++ wsX00)
def wsJ9_floorMod_7cf53 : List Cond := .code yJ9_floorMod_7cf53 cJ9_floorMod_7cf53 3 (some .int) :: ([])
def wsX3_warmthIn : List Cond := .code yX3_warmthIn cX3_warmthIn 2 (some .int) :: ([.fieldLink RX3 9 "ReefPilot$Table" "warmth" "[I", .methodLink RX3 24 yJ9_floorMod_7cf53, .static yJ9_floorMod_7cf53, .initialized RJ9, .code yJ9_floorMod_7cf53 cJ9_floorMod_7cf53 3 (some .int)] ++ wsX30)
def wsX0_dieBack : List Cond := .code yX0_dieBack cX0_dieBack 2 none :: ([.fieldLink RX0 15 "ReefPilot$Coast" "coral" "[I", .methodLink RX0 44 Lib.Math.max.name, .static Lib.Math.max.name, .initialized "java/lang/Math", .code Lib.Math.max.name Lib.Math.max.code 2 (some .int)] ++ wsX00)
def wsX0_rememberHeads : List Cond := .code yX0_rememberHeads cX0_rememberHeads 2 none :: ([.fieldLink RX0 18 "ReefPilot$Coast" "headBefore" "[Z", .methodLink RX0 47 yX0_isHead, .instanceMethod yX0_isHead, .selects RX0 yX0_isHead yX0_isHead, .initialized RX0, .code yX0_isHead cX0_isHead 2 (some .boolean), .fieldLink RX0 15 "ReefPilot$Coast" "coral" "[I"] ++ wsX00)
def wsX4_neighbour : List Cond := .code yX4_neighbour cX4_neighbour 3 (some .int) :: ([])
def wsX0_headsBeside : List Cond := .code yX0_headsBeside cX0_headsBeside 5 (some .int) :: ([.fieldLink RX0 18 "ReefPilot$Coast" "headBefore" "[Z", .static yX4_neighbour, .initialized RX4, .code yX4_neighbour cX4_neighbour 3 (some .int)] ++ wsX00)
def wsX0_grow_r1 : List Cond := [Cond.fieldLink RX0 15 "ReefPilot$Coast" "coral" "[I", Cond.fieldLink RX0 9 "ReefPilot$Coast" "ground" "[I", Cond.methodLink RX0 38 Lib.Math.min.name, Cond.static Lib.Math.min.name, Cond.initialized "java/lang/Math", Cond.code Lib.Math.min.name Lib.Math.min.code 2 (some .int), Cond.methodLink RX0 76 yX0_rememberHeads, Cond.instanceMethod yX0_rememberHeads, Cond.selects RX0 yX0_rememberHeads yX0_rememberHeads, Cond.initialized RX0, Cond.code yX0_rememberHeads cX0_rememberHeads 2 none, Cond.fieldLink RX0 18 "ReefPilot$Coast" "headBefore" "[Z", Cond.methodLink RX0 47 yX0_isHead, Cond.instanceMethod yX0_isHead, Cond.selects RX0 yX0_isHead yX0_isHead, Cond.code yX0_isHead cX0_isHead 2 (some .boolean), Cond.methodLink RX0 79 yX0_depthOf, Cond.instanceMethod yX0_depthOf, Cond.selects RX0 yX0_depthOf yX0_depthOf, Cond.code yX0_depthOf cX0_depthOf 2 (some .int), Cond.methodLink RX0 44 Lib.Math.max.name, Cond.static Lib.Math.max.name, Cond.code Lib.Math.max.name Lib.Math.max.code 2 (some .int), Cond.methodLink RX0 82 yX0_headsBeside]
def wsX0_grow_r2 : List Cond := [Cond.instanceMethod yX0_headsBeside, Cond.selects RX0 yX0_headsBeside yX0_headsBeside, Cond.code yX0_headsBeside cX0_headsBeside 5 (some .int), Cond.static yX4_neighbour, Cond.initialized RX4, Cond.code yX4_neighbour cX4_neighbour 3 (some .int)]
def wsX0_grow : List Cond := .code yX0_grow cX0_grow 4 none :: ((wsX0_grow_r1 ++ wsX0_grow_r2) ++ wsX00)
def wsX0_changeByWarmth_r1 : List Cond := [Cond.methodLink RX0 70 yX0_dieBack, Cond.instanceMethod yX0_dieBack, Cond.selects RX0 yX0_dieBack yX0_dieBack, Cond.initialized RX0, Cond.code yX0_dieBack cX0_dieBack 2 none, Cond.fieldLink RX0 15 "ReefPilot$Coast" "coral" "[I", Cond.methodLink RX0 44 Lib.Math.max.name, Cond.static Lib.Math.max.name, Cond.initialized "java/lang/Math", Cond.code Lib.Math.max.name Lib.Math.max.code 2 (some .int), Cond.methodLink RX0 73 yX0_grow, Cond.instanceMethod yX0_grow, Cond.selects RX0 yX0_grow yX0_grow, Cond.code yX0_grow cX0_grow 4 none, Cond.fieldLink RX0 9 "ReefPilot$Coast" "ground" "[I", Cond.methodLink RX0 38 Lib.Math.min.name, Cond.static Lib.Math.min.name, Cond.code Lib.Math.min.name Lib.Math.min.code 2 (some .int), Cond.methodLink RX0 76 yX0_rememberHeads, Cond.instanceMethod yX0_rememberHeads, Cond.selects RX0 yX0_rememberHeads yX0_rememberHeads, Cond.code yX0_rememberHeads cX0_rememberHeads 2 none, Cond.fieldLink RX0 18 "ReefPilot$Coast" "headBefore" "[Z", Cond.methodLink RX0 47 yX0_isHead]
def wsX0_changeByWarmth_r2 : List Cond := [Cond.instanceMethod yX0_isHead, Cond.selects RX0 yX0_isHead yX0_isHead, Cond.code yX0_isHead cX0_isHead 2 (some .boolean), Cond.methodLink RX0 79 yX0_depthOf, Cond.instanceMethod yX0_depthOf, Cond.selects RX0 yX0_depthOf yX0_depthOf, Cond.code yX0_depthOf cX0_depthOf 2 (some .int), Cond.methodLink RX0 82 yX0_headsBeside, Cond.instanceMethod yX0_headsBeside, Cond.selects RX0 yX0_headsBeside yX0_headsBeside, Cond.code yX0_headsBeside cX0_headsBeside 5 (some .int), Cond.static yX4_neighbour, Cond.initialized RX4, Cond.code yX4_neighbour cX4_neighbour 3 (some .int)]
def wsX0_changeByWarmth : List Cond := .code yX0_changeByWarmth cX0_changeByWarmth 2 none :: ((wsX0_changeByWarmth_r1 ++ wsX0_changeByWarmth_r2) ++ wsX00)
def wsX0_seed : List Cond := .code yX0_seed cX0_seed 3 none :: ([.fieldLink RX0 15 "ReefPilot$Coast" "coral" "[I", .fieldLink RX0 9 "ReefPilot$Coast" "ground" "[I", .methodLink RX0 76 yX0_rememberHeads, .instanceMethod yX0_rememberHeads, .selects RX0 yX0_rememberHeads yX0_rememberHeads, .initialized RX0, .code yX0_rememberHeads cX0_rememberHeads 2 none, .fieldLink RX0 18 "ReefPilot$Coast" "headBefore" "[Z", .methodLink RX0 47 yX0_isHead, .instanceMethod yX0_isHead, .selects RX0 yX0_isHead yX0_isHead, .code yX0_isHead cX0_isHead 2 (some .boolean), .methodLink RX0 82 yX0_headsBeside, .instanceMethod yX0_headsBeside, .selects RX0 yX0_headsBeside yX0_headsBeside, .code yX0_headsBeside cX0_headsBeside 5 (some .int), .static yX4_neighbour, .initialized RX4, .code yX4_neighbour cX4_neighbour 3 (some .int)] ++ wsX00)
def wsX3_stormIn : List Cond := .code yX3_stormIn cX3_stormIn 2 (some .int) :: ([.fieldLink RX3 15 "ReefPilot$Table" "storm" "[I", .methodLink RX3 24 yJ9_floorMod_7cf53, .static yJ9_floorMod_7cf53, .initialized RJ9, .code yJ9_floorMod_7cf53 cJ9_floorMod_7cf53 3 (some .int)] ++ wsX30)
def wsX0_dropRubble : List Cond := .code yX0_dropRubble cX0_dropRubble 3 none :: ([.fieldLink RX0 9 "ReefPilot$Coast" "ground" "[I", .fieldLink RX0 15 "ReefPilot$Coast" "coral" "[I", .methodLink RX0 44 Lib.Math.max.name, .static Lib.Math.max.name, .initialized "java/lang/Math", .code Lib.Math.max.name Lib.Math.max.code 2 (some .int)] ++ wsX00)
def wsX0_breakByStorm : List Cond := .code yX0_breakByStorm cX0_breakByStorm 4 none :: ([.fieldLink RX0 15 "ReefPilot$Coast" "coral" "[I", .methodLink RX0 38 Lib.Math.min.name, .static Lib.Math.min.name, .initialized "java/lang/Math", .code Lib.Math.min.name Lib.Math.min.code 2 (some .int), .methodLink RX0 79 yX0_depthOf, .instanceMethod yX0_depthOf, .selects RX0 yX0_depthOf yX0_depthOf, .initialized RX0, .code yX0_depthOf cX0_depthOf 2 (some .int), .fieldLink RX0 9 "ReefPilot$Coast" "ground" "[I", .methodLink RX0 44 Lib.Math.max.name, .static Lib.Math.max.name, .code Lib.Math.max.name Lib.Math.max.code 2 (some .int), .methodLink RX0 88 yX0_dropRubble, .instanceMethod yX0_dropRubble, .selects RX0 yX0_dropRubble yX0_dropRubble, .code yX0_dropRubble cX0_dropRubble 3 none] ++ wsX00)
def wsX0_letMonthGo_r1 : List Cond := [Cond.fieldLink RX0 34 "ReefPilot$Coast" "month" "I", Cond.methodLink RX0 51 yX3_warmthIn, Cond.instanceMethod yX3_warmthIn, Cond.selects RX3 yX3_warmthIn yX3_warmthIn, Cond.initialized RX3, Cond.code yX3_warmthIn cX3_warmthIn 2 (some .int), Cond.fieldLink RX3 9 "ReefPilot$Table" "warmth" "[I", Cond.methodLink RX3 24 yJ9_floorMod_7cf53, Cond.static yJ9_floorMod_7cf53, Cond.initialized RJ9, Cond.code yJ9_floorMod_7cf53 cJ9_floorMod_7cf53 3 (some .int), Cond.methodLink RX0 57 yX0_changeByWarmth, Cond.instanceMethod yX0_changeByWarmth, Cond.selects RX0 yX0_changeByWarmth yX0_changeByWarmth, Cond.initialized RX0, Cond.code yX0_changeByWarmth cX0_changeByWarmth 2 none, Cond.methodLink RX0 70 yX0_dieBack, Cond.instanceMethod yX0_dieBack, Cond.selects RX0 yX0_dieBack yX0_dieBack, Cond.code yX0_dieBack cX0_dieBack 2 none, Cond.fieldLink RX0 15 "ReefPilot$Coast" "coral" "[I", Cond.methodLink RX0 44 Lib.Math.max.name, Cond.static Lib.Math.max.name, Cond.initialized "java/lang/Math"]
def wsX0_letMonthGo_r2 : List Cond := [Cond.code Lib.Math.max.name Lib.Math.max.code 2 (some .int), Cond.methodLink RX0 73 yX0_grow, Cond.instanceMethod yX0_grow, Cond.selects RX0 yX0_grow yX0_grow, Cond.code yX0_grow cX0_grow 4 none, Cond.fieldLink RX0 9 "ReefPilot$Coast" "ground" "[I", Cond.methodLink RX0 38 Lib.Math.min.name, Cond.static Lib.Math.min.name, Cond.code Lib.Math.min.name Lib.Math.min.code 2 (some .int), Cond.methodLink RX0 76 yX0_rememberHeads, Cond.instanceMethod yX0_rememberHeads, Cond.selects RX0 yX0_rememberHeads yX0_rememberHeads, Cond.code yX0_rememberHeads cX0_rememberHeads 2 none, Cond.fieldLink RX0 18 "ReefPilot$Coast" "headBefore" "[Z", Cond.methodLink RX0 47 yX0_isHead, Cond.instanceMethod yX0_isHead, Cond.selects RX0 yX0_isHead yX0_isHead, Cond.code yX0_isHead cX0_isHead 2 (some .boolean), Cond.methodLink RX0 79 yX0_depthOf, Cond.instanceMethod yX0_depthOf, Cond.selects RX0 yX0_depthOf yX0_depthOf, Cond.code yX0_depthOf cX0_depthOf 2 (some .int), Cond.methodLink RX0 82 yX0_headsBeside, Cond.instanceMethod yX0_headsBeside]
def wsX0_letMonthGo_r3 : List Cond := [Cond.selects RX0 yX0_headsBeside yX0_headsBeside, Cond.code yX0_headsBeside cX0_headsBeside 5 (some .int), Cond.static yX4_neighbour, Cond.initialized RX4, Cond.code yX4_neighbour cX4_neighbour 3 (some .int), Cond.methodLink RX0 61 yX0_seed, Cond.instanceMethod yX0_seed, Cond.selects RX0 yX0_seed yX0_seed, Cond.code yX0_seed cX0_seed 3 none, Cond.methodLink RX0 64 yX3_stormIn, Cond.instanceMethod yX3_stormIn, Cond.selects RX3 yX3_stormIn yX3_stormIn, Cond.code yX3_stormIn cX3_stormIn 2 (some .int), Cond.fieldLink RX3 15 "ReefPilot$Table" "storm" "[I", Cond.methodLink RX0 67 yX0_breakByStorm, Cond.instanceMethod yX0_breakByStorm, Cond.selects RX0 yX0_breakByStorm yX0_breakByStorm, Cond.code yX0_breakByStorm cX0_breakByStorm 4 none, Cond.methodLink RX0 88 yX0_dropRubble, Cond.instanceMethod yX0_dropRubble, Cond.selects RX0 yX0_dropRubble yX0_dropRubble, Cond.code yX0_dropRubble cX0_dropRubble 3 none]
def wsX0_letMonthGo : List Cond := .code yX0_letMonthGo cX0_letMonthGo 2 none :: ((wsX0_letMonthGo_r1 ++ (wsX0_letMonthGo_r2 ++ wsX0_letMonthGo_r3)) ++ wsX00 ++ wsX30)
def wsX1_init : List Cond := .code yX1_init cX1_init 1 none :: ([.methodLink RX1 3 objectInit, .instanceMethod objectInit, .code objectInit ⟨#[0xb1]⟩ 1 none, .arrayClass .int, .fieldLink RX1 9 "ReefPilot$Soundings" "depth" "[I", .fieldLink RX1 15 "ReefPilot$Soundings" "takenIn" "[I", .methodLink RX1 18 yJ7_fill_53178, .static yJ7_fill_53178, .initialized RJ7, .code yJ7_fill_53178 cJ7_fill_53178 4 none] ++ wsX10)
def wsX1_note : List Cond := .code yX1_note cX1_note 4 none :: ([.fieldLink RX1 9 "ReefPilot$Soundings" "depth" "[I", .fieldLink RX1 15 "ReefPilot$Soundings" "takenIn" "[I"] ++ wsX10)
def wsX1_noted : List Cond := .code yX1_noted cX1_noted 2 (some .int) :: ([.fieldLink RX1 9 "ReefPilot$Soundings" "depth" "[I"] ++ wsX10)
def wsX1_age : List Cond := .code yX1_age cX1_age 3 (some .int) :: ([.fieldLink RX1 9 "ReefPilot$Soundings" "depth" "[I", .fieldLink RX1 15 "ReefPilot$Soundings" "takenIn" "[I"] ++ wsX10)
def wsX2_init : List Cond := .code yX2_init cX2_init 1 none :: ([.methodLink RX2 3 objectInit, .instanceMethod objectInit, .code objectInit ⟨#[0xb1]⟩ 1 none, .arrayClass .boolean, .fieldLink RX2 9 "ReefPilot$Spread" "open" "[Z", .arrayClass .int, .fieldLink RX2 15 "ReefPilot$Spread" "steps" "[I", .fieldLink RX2 19 "ReefPilot$Spread" "reached" "[I"] ++ wsX20)
def wsX2_clear : List Cond := .code yX2_clear cX2_clear 1 none :: ([.fieldLink RX2 15 "ReefPilot$Spread" "steps" "[I", .fieldLink RX2 28 "ReefPilot$Spread" "reachedCells" "I", .methodLink RX2 22 yJ7_fill_53178, .static yJ7_fill_53178, .initialized RJ7, .code yJ7_fill_53178 cJ7_fill_53178 4 none] ++ wsX20)
def wsX2_setOpen : List Cond := .code yX2_setOpen cX2_setOpen 3 none :: ([.fieldLink RX2 9 "ReefPilot$Spread" "open" "[Z"] ++ wsX20)
def wsX2_stepsTo : List Cond := .code yX2_stepsTo cX2_stepsTo 2 (some .int) :: ([.fieldLink RX2 15 "ReefPilot$Spread" "steps" "[I"] ++ wsX20)
def wsX2_reach : List Cond := .code yX2_reach cX2_reach 3 none :: ([.fieldLink RX2 9 "ReefPilot$Spread" "open" "[Z", .fieldLink RX2 15 "ReefPilot$Spread" "steps" "[I", .fieldLink RX2 28 "ReefPilot$Spread" "reachedCells" "I", .fieldLink RX2 19 "ReefPilot$Spread" "reached" "[I"] ++ wsX20)
def wsX2_goOnFrom : List Cond := .code yX2_goOnFrom cX2_goOnFrom 6 none :: ([.fieldLink RX2 28 "ReefPilot$Spread" "reachedCells" "I", .fieldLink RX2 19 "ReefPilot$Spread" "reached" "[I", .fieldLink RX2 15 "ReefPilot$Spread" "steps" "[I", .static yX4_neighbour, .initialized RX4, .code yX4_neighbour cX4_neighbour 3 (some .int), .methodLink RX2 32 yX2_reach, .instanceMethod yX2_reach, .selects RX2 yX2_reach yX2_reach, .initialized RX2, .code yX2_reach cX2_reach 3 none, .fieldLink RX2 9 "ReefPilot$Spread" "open" "[Z"] ++ wsX20)
def wsX2_goFromRow : List Cond := .code yX2_goFromRow cX2_goFromRow 4 none :: ([.fieldLink RX2 28 "ReefPilot$Spread" "reachedCells" "I", .methodLink RX2 32 yX2_reach, .instanceMethod yX2_reach, .selects RX2 yX2_reach yX2_reach, .initialized RX2, .code yX2_reach cX2_reach 3 none, .fieldLink RX2 9 "ReefPilot$Spread" "open" "[Z", .fieldLink RX2 15 "ReefPilot$Spread" "steps" "[I", .fieldLink RX2 19 "ReefPilot$Spread" "reached" "[I", .methodLink RX2 36 yX2_goOnFrom, .instanceMethod yX2_goOnFrom, .selects RX2 yX2_goOnFrom yX2_goOnFrom, .code yX2_goOnFrom cX2_goOnFrom 6 none, .static yX4_neighbour, .initialized RX4, .code yX4_neighbour cX4_neighbour 3 (some .int)] ++ wsX20)
def wsX2_goFromCell : List Cond := .code yX2_goFromCell cX2_goFromCell 3 (some .int) :: ([.fieldLink RX2 28 "ReefPilot$Spread" "reachedCells" "I", .methodLink RX2 32 yX2_reach, .instanceMethod yX2_reach, .selects RX2 yX2_reach yX2_reach, .initialized RX2, .code yX2_reach cX2_reach 3 none, .fieldLink RX2 9 "ReefPilot$Spread" "open" "[Z", .fieldLink RX2 15 "ReefPilot$Spread" "steps" "[I", .fieldLink RX2 19 "ReefPilot$Spread" "reached" "[I", .methodLink RX2 36 yX2_goOnFrom, .instanceMethod yX2_goOnFrom, .selects RX2 yX2_goOnFrom yX2_goOnFrom, .code yX2_goOnFrom cX2_goOnFrom 6 none, .static yX4_neighbour, .initialized RX4, .code yX4_neighbour cX4_neighbour 3 (some .int)] ++ wsX20)
def wsX2_nearerFrom : List Cond := .code yX2_nearerFrom cX2_nearerFrom 5 (some .int) :: ([.fieldLink RX2 15 "ReefPilot$Spread" "steps" "[I", .static yX4_neighbour, .initialized RX4, .code yX4_neighbour cX4_neighbour 3 (some .int)] ++ wsX20)
def wsX3_init : List Cond := .code yX3_init cX3_init 1 none :: ([.methodLink RX3 3 objectInit, .instanceMethod objectInit, .code objectInit ⟨#[0xb1]⟩ 1 none, .arrayClass .int, .fieldLink RX3 9 "ReefPilot$Table" "warmth" "[I", .fieldLink RX3 15 "ReefPilot$Table" "storm" "[I", .methodLink RX3 18 yJ7_fill_53178, .static yJ7_fill_53178, .initialized RJ7, .code yJ7_fill_53178 cJ7_fill_53178 4 none] ++ wsX30)
def wsX3_write : List Cond := .code yX3_write cX3_write 4 none :: ([.fieldLink RX3 9 "ReefPilot$Table" "warmth" "[I", .fieldLink RX3 15 "ReefPilot$Table" "storm" "[I"] ++ wsX30)
def wsX3_entry : List Cond := .code yX3_entry cX3_entry 2 (some .int) :: ([.fieldLink RX3 9 "ReefPilot$Table" "warmth" "[I", .fieldLink RX3 15 "ReefPilot$Table" "storm" "[I"] ++ wsX30)
def wsX4_init_r1 : List Cond := [Cond.methodLink RX4 3 objectInit, Cond.instanceMethod objectInit, Cond.code objectInit ⟨#[0xb1]⟩ 1 none, Cond.classLink RX4 9 RX3, Cond.instantiable RX3 2, Cond.initialized RX3, Cond.fieldLink RX4 12 "ReefPilot" "table" "LReefPilot$Table;", Cond.classLink RX4 16 RX0, Cond.instantiable RX0 4, Cond.initialized RX0, Cond.fieldLink RX4 19 "ReefPilot" "coast" "LReefPilot$Coast;", Cond.fieldLink RX4 23 "ReefPilot" "ahead" "LReefPilot$Coast;", Cond.classLink RX4 26 RX1, Cond.instantiable RX1 2, Cond.initialized RX1, Cond.fieldLink RX4 29 "ReefPilot" "soundings" "LReefPilot$Soundings;", Cond.classLink RX4 33 RX2, Cond.instantiable RX2 4, Cond.initialized RX2, Cond.fieldLink RX4 36 "ReefPilot" "spread" "LReefPilot$Spread;", Cond.arrayClass .int, Cond.fieldLink RX4 40 "ReefPilot" "water" "[I", Cond.methodLink RX4 11 yX3_init, Cond.instanceMethod yX3_init]
def wsX4_init_r2 : List Cond := [Cond.code yX3_init cX3_init 1 none, Cond.methodLink RX3 3 objectInit, Cond.fieldLink RX3 9 "ReefPilot$Table" "warmth" "[I", Cond.fieldLink RX3 15 "ReefPilot$Table" "storm" "[I", Cond.methodLink RX3 18 yJ7_fill_53178, Cond.static yJ7_fill_53178, Cond.initialized RJ7, Cond.code yJ7_fill_53178 cJ7_fill_53178 4 none, Cond.methodLink RX4 18 yX0_init, Cond.instanceMethod yX0_init, Cond.code yX0_init cX0_init 1 none, Cond.methodLink RX0 3 objectInit, Cond.fieldLink RX0 9 "ReefPilot$Coast" "ground" "[I", Cond.fieldLink RX0 15 "ReefPilot$Coast" "coral" "[I", Cond.arrayClass .boolean, Cond.fieldLink RX0 18 "ReefPilot$Coast" "headBefore" "[Z", Cond.methodLink RX0 22 yJ7_fill_53178, Cond.methodLink RX4 28 yX1_init, Cond.instanceMethod yX1_init, Cond.code yX1_init cX1_init 1 none, Cond.methodLink RX1 3 objectInit, Cond.fieldLink RX1 9 "ReefPilot$Soundings" "depth" "[I", Cond.fieldLink RX1 15 "ReefPilot$Soundings" "takenIn" "[I", Cond.methodLink RX1 18 yJ7_fill_53178]
def wsX4_init_r3 : List Cond := [Cond.instanceMethod yX2_init, Cond.code yX2_init cX2_init 1 none, Cond.methodLink RX2 3 objectInit, Cond.fieldLink RX2 9 "ReefPilot$Spread" "open" "[Z", Cond.fieldLink RX2 15 "ReefPilot$Spread" "steps" "[I", Cond.fieldLink RX2 19 "ReefPilot$Spread" "reached" "[I"]
def wsX4_init : List Cond := .code yX4_init cX4_init 1 none :: ((wsX4_init_r1 ++ (wsX4_init_r2 ++ wsX4_init_r3)) ++ wsX30 ++ wsX40 ++ wsX00 ++ wsX10 ++ wsX20)
def wsX4_needIndex : List Cond := .code yX4_needIndex cX4_needIndex 2 none :: ([.classLink RX4 156 "java/lang/IndexOutOfBoundsException", .initialized "java/lang/IndexOutOfBoundsException"] ++ (vx_atS RX4 160 "java/lang/IndexOutOfBoundsException" ["java/lang/RuntimeException", "java/lang/Exception"]).filter goodWord)
def wsX4_needCell : List Cond := .code yX4_needCell cX4_needCell 2 none :: ([.methodLink RX4 63 yX4_needIndex, .static yX4_needIndex, .initialized RX4, .code yX4_needIndex cX4_needIndex 2 none, .classLink RX4 156 "java/lang/IndexOutOfBoundsException", .initialized "java/lang/IndexOutOfBoundsException"] ++ (vx_atS RX4 160 "java/lang/IndexOutOfBoundsException" ["java/lang/RuntimeException", "java/lang/Exception"]).filter goodWord)
def wsX4_needWithin : List Cond := .code yX4_needWithin cX4_needWithin 3 none :: ([.classLink RX4 163 "java/lang/IllegalArgumentException", .initialized "java/lang/IllegalArgumentException"] ++ (vx_atS RX4 167 "java/lang/IllegalArgumentException" ["java/lang/RuntimeException", "java/lang/Exception"]).filter goodWord)
def wsX4_setGround_r1 : List Cond := [Cond.fieldLink RX4 19 "ReefPilot" "coast" "LReefPilot$Coast;", Cond.methodLink RX4 44 yX4_needCell, Cond.static yX4_needCell, Cond.initialized RX4, Cond.code yX4_needCell cX4_needCell 2 none, Cond.methodLink RX4 63 yX4_needIndex, Cond.static yX4_needIndex, Cond.code yX4_needIndex cX4_needIndex 2 none, Cond.classLink RX4 156 "java/lang/IndexOutOfBoundsException", Cond.initialized "java/lang/IndexOutOfBoundsException", Cond.methodLink RX4 48 yX4_needWithin, Cond.static yX4_needWithin, Cond.code yX4_needWithin cX4_needWithin 3 none, Cond.classLink RX4 163 "java/lang/IllegalArgumentException", Cond.initialized "java/lang/IllegalArgumentException", Cond.methodLink RX4 52 yX0_layGround, Cond.instanceMethod yX0_layGround, Cond.selects RX0 yX0_layGround yX0_layGround, Cond.initialized RX0, Cond.code yX0_layGround cX0_layGround 4 (some .int), Cond.fieldLink RX0 9 "ReefPilot$Coast" "ground" "[I", Cond.fieldLink RX0 15 "ReefPilot$Coast" "coral" "[I", Cond.methodLink RX0 38 Lib.Math.min.name, Cond.static Lib.Math.min.name]
def wsX4_setGround_r2 : List Cond := [Cond.initialized "java/lang/Math", Cond.code Lib.Math.min.name Lib.Math.min.code 2 (some .int)]
def wsX4_setGround : List Cond := .code yX4_setGround cX4_setGround 4 (some .int) :: ((wsX4_setGround_r1 ++ wsX4_setGround_r2) ++ wsX40 ++ wsX00 ++ (vx_atS RX4 160 "java/lang/IndexOutOfBoundsException" ["java/lang/RuntimeException", "java/lang/Exception"]).filter goodWord ++ (vx_atS RX4 167 "java/lang/IllegalArgumentException" ["java/lang/RuntimeException", "java/lang/Exception"]).filter goodWord)
def wsX4_plant_r1 : List Cond := [Cond.fieldLink RX4 19 "ReefPilot" "coast" "LReefPilot$Coast;", Cond.methodLink RX4 44 yX4_needCell, Cond.static yX4_needCell, Cond.initialized RX4, Cond.code yX4_needCell cX4_needCell 2 none, Cond.methodLink RX4 63 yX4_needIndex, Cond.static yX4_needIndex, Cond.code yX4_needIndex cX4_needIndex 2 none, Cond.classLink RX4 156 "java/lang/IndexOutOfBoundsException", Cond.initialized "java/lang/IndexOutOfBoundsException", Cond.methodLink RX4 56 yX0_groundOf, Cond.instanceMethod yX0_groundOf, Cond.selects RX0 yX0_groundOf yX0_groundOf, Cond.initialized RX0, Cond.code yX0_groundOf cX0_groundOf 2 (some .int), Cond.fieldLink RX0 9 "ReefPilot$Coast" "ground" "[I", Cond.methodLink RX4 48 yX4_needWithin, Cond.static yX4_needWithin, Cond.code yX4_needWithin cX4_needWithin 3 none, Cond.classLink RX4 163 "java/lang/IllegalArgumentException", Cond.initialized "java/lang/IllegalArgumentException", Cond.methodLink RX4 60 yX0_setCoral, Cond.instanceMethod yX0_setCoral, Cond.selects RX0 yX0_setCoral yX0_setCoral]
def wsX4_plant_r2 : List Cond := [Cond.code yX0_setCoral cX0_setCoral 4 (some .int), Cond.fieldLink RX0 15 "ReefPilot$Coast" "coral" "[I"]
def wsX4_plant : List Cond := .code yX4_plant cX4_plant 4 (some .int) :: ((wsX4_plant_r1 ++ wsX4_plant_r2) ++ wsX40 ++ wsX00 ++ (vx_atS RX4 160 "java/lang/IndexOutOfBoundsException" ["java/lang/RuntimeException", "java/lang/Exception"]).filter goodWord ++ (vx_atS RX4 167 "java/lang/IllegalArgumentException" ["java/lang/RuntimeException", "java/lang/Exception"]).filter goodWord)
def wsX4_setMonth : List Cond := .code yX4_setMonth cX4_setMonth 5 (some .int) :: ([.fieldLink RX4 12 "ReefPilot" "table" "LReefPilot$Table;", .methodLink RX4 63 yX4_needIndex, .static yX4_needIndex, .initialized RX4, .code yX4_needIndex cX4_needIndex 2 none, .classLink RX4 156 "java/lang/IndexOutOfBoundsException", .initialized "java/lang/IndexOutOfBoundsException", .methodLink RX4 48 yX4_needWithin, .static yX4_needWithin, .code yX4_needWithin cX4_needWithin 3 none, .classLink RX4 163 "java/lang/IllegalArgumentException", .initialized "java/lang/IllegalArgumentException", .methodLink RX4 66 yX3_entry, .instanceMethod yX3_entry, .selects RX3 yX3_entry yX3_entry, .initialized RX3, .code yX3_entry cX3_entry 2 (some .int), .fieldLink RX3 9 "ReefPilot$Table" "warmth" "[I", .fieldLink RX3 15 "ReefPilot$Table" "storm" "[I", .methodLink RX4 69 yX3_write, .instanceMethod yX3_write, .selects RX3 yX3_write yX3_write, .code yX3_write cX3_write 4 none] ++ wsX40 ++ wsX30 ++ (vx_atS RX4 160 "java/lang/IndexOutOfBoundsException" ["java/lang/RuntimeException", "java/lang/Exception"]).filter goodWord ++ (vx_atS RX4 167 "java/lang/IllegalArgumentException" ["java/lang/RuntimeException", "java/lang/Exception"]).filter goodWord)
def wsX4_openHeads : List Cond := .code yX4_openHeads cX4_openHeads 3 none :: ([.fieldLink RX4 36 "ReefPilot" "spread" "LReefPilot$Spread;", .methodLink RX4 192 yX2_clear, .instanceMethod yX2_clear, .selects RX2 yX2_clear yX2_clear, .initialized RX2, .code yX2_clear cX2_clear 1 none, .fieldLink RX2 15 "ReefPilot$Spread" "steps" "[I", .fieldLink RX2 28 "ReefPilot$Spread" "reachedCells" "I", .methodLink RX2 22 yJ7_fill_53178, .static yJ7_fill_53178, .initialized RJ7, .code yJ7_fill_53178 cJ7_fill_53178 4 none, .methodLink RX4 78 yX0_isHead, .instanceMethod yX0_isHead, .selects RX0 yX0_isHead yX0_isHead, .initialized RX0, .code yX0_isHead cX0_isHead 2 (some .boolean), .fieldLink RX0 15 "ReefPilot$Coast" "coral" "[I", .methodLink RX4 195 yX2_setOpen, .instanceMethod yX2_setOpen, .selects RX2 yX2_setOpen yX2_setOpen, .code yX2_setOpen cX2_setOpen 3 none, .fieldLink RX2 9 "ReefPilot$Spread" "open" "[Z"] ++ wsX40 ++ wsX20 ++ wsX00)
def wsX4_headsOfReefAt_r1 : List Cond := [Cond.fieldLink RX4 19 "ReefPilot" "coast" "LReefPilot$Coast;", Cond.fieldLink RX4 36 "ReefPilot" "spread" "LReefPilot$Spread;", Cond.methodLink RX4 186 yX4_openHeads, Cond.instanceMethod yX4_openHeads, Cond.selects RX4 yX4_openHeads yX4_openHeads, Cond.initialized RX4, Cond.code yX4_openHeads cX4_openHeads 3 none, Cond.methodLink RX4 192 yX2_clear, Cond.instanceMethod yX2_clear, Cond.selects RX2 yX2_clear yX2_clear, Cond.initialized RX2, Cond.code yX2_clear cX2_clear 1 none, Cond.fieldLink RX2 15 "ReefPilot$Spread" "steps" "[I", Cond.fieldLink RX2 28 "ReefPilot$Spread" "reachedCells" "I", Cond.methodLink RX2 22 yJ7_fill_53178, Cond.static yJ7_fill_53178, Cond.initialized RJ7, Cond.code yJ7_fill_53178 cJ7_fill_53178 4 none, Cond.methodLink RX4 78 yX0_isHead, Cond.instanceMethod yX0_isHead, Cond.selects RX0 yX0_isHead yX0_isHead, Cond.initialized RX0, Cond.code yX0_isHead cX0_isHead 2 (some .boolean), Cond.fieldLink RX0 15 "ReefPilot$Coast" "coral" "[I"]
def wsX4_headsOfReefAt_r2 : List Cond := [Cond.methodLink RX4 195 yX2_setOpen, Cond.instanceMethod yX2_setOpen, Cond.selects RX2 yX2_setOpen yX2_setOpen, Cond.code yX2_setOpen cX2_setOpen 3 none, Cond.fieldLink RX2 9 "ReefPilot$Spread" "open" "[Z", Cond.methodLink RX4 189 yX2_goFromCell, Cond.instanceMethod yX2_goFromCell, Cond.selects RX2 yX2_goFromCell yX2_goFromCell, Cond.code yX2_goFromCell cX2_goFromCell 3 (some .int), Cond.methodLink RX2 32 yX2_reach, Cond.instanceMethod yX2_reach, Cond.selects RX2 yX2_reach yX2_reach, Cond.code yX2_reach cX2_reach 3 none, Cond.fieldLink RX2 19 "ReefPilot$Spread" "reached" "[I", Cond.methodLink RX2 36 yX2_goOnFrom, Cond.instanceMethod yX2_goOnFrom, Cond.selects RX2 yX2_goOnFrom yX2_goOnFrom, Cond.code yX2_goOnFrom cX2_goOnFrom 6 none, Cond.static yX4_neighbour, Cond.code yX4_neighbour cX4_neighbour 3 (some .int)]
def wsX4_headsOfReefAt : List Cond := .code yX4_headsOfReefAt cX4_headsOfReefAt 2 (some .int) :: ((wsX4_headsOfReefAt_r1 ++ wsX4_headsOfReefAt_r2) ++ wsX40 ++ wsX20 ++ wsX00)
def wsX4_cell_r1 : List Cond := [Cond.fieldLink RX4 19 "ReefPilot" "coast" "LReefPilot$Coast;", Cond.methodLink RX4 44 yX4_needCell, Cond.static yX4_needCell, Cond.initialized RX4, Cond.code yX4_needCell cX4_needCell 2 none, Cond.methodLink RX4 63 yX4_needIndex, Cond.static yX4_needIndex, Cond.code yX4_needIndex cX4_needIndex 2 none, Cond.classLink RX4 156 "java/lang/IndexOutOfBoundsException", Cond.initialized "java/lang/IndexOutOfBoundsException", Cond.methodLink RX4 56 yX0_groundOf, Cond.instanceMethod yX0_groundOf, Cond.selects RX0 yX0_groundOf yX0_groundOf, Cond.initialized RX0, Cond.code yX0_groundOf cX0_groundOf 2 (some .int), Cond.fieldLink RX0 9 "ReefPilot$Coast" "ground" "[I", Cond.methodLink RX4 72 yX0_coralOf, Cond.instanceMethod yX0_coralOf, Cond.selects RX0 yX0_coralOf yX0_coralOf, Cond.code yX0_coralOf cX0_coralOf 2 (some .int), Cond.fieldLink RX0 15 "ReefPilot$Coast" "coral" "[I", Cond.methodLink RX4 75 yX0_depthOf, Cond.instanceMethod yX0_depthOf, Cond.selects RX0 yX0_depthOf yX0_depthOf]
def wsX4_cell_r2 : List Cond := [Cond.code yX0_depthOf cX0_depthOf 2 (some .int), Cond.methodLink RX0 44 Lib.Math.max.name, Cond.static Lib.Math.max.name, Cond.initialized "java/lang/Math", Cond.code Lib.Math.max.name Lib.Math.max.code 2 (some .int), Cond.methodLink RX4 78 yX0_isHead, Cond.instanceMethod yX0_isHead, Cond.selects RX0 yX0_isHead yX0_isHead, Cond.code yX0_isHead cX0_isHead 2 (some .boolean), Cond.methodLink RX4 82 yX4_headsOfReefAt, Cond.instanceMethod yX4_headsOfReefAt, Cond.selects RX4 yX4_headsOfReefAt yX4_headsOfReefAt, Cond.code yX4_headsOfReefAt cX4_headsOfReefAt 2 (some .int), Cond.fieldLink RX4 36 "ReefPilot" "spread" "LReefPilot$Spread;", Cond.methodLink RX4 186 yX4_openHeads, Cond.instanceMethod yX4_openHeads, Cond.selects RX4 yX4_openHeads yX4_openHeads, Cond.code yX4_openHeads cX4_openHeads 3 none, Cond.methodLink RX4 192 yX2_clear, Cond.instanceMethod yX2_clear, Cond.selects RX2 yX2_clear yX2_clear, Cond.initialized RX2, Cond.code yX2_clear cX2_clear 1 none, Cond.fieldLink RX2 15 "ReefPilot$Spread" "steps" "[I"]
def wsX4_cell_r3 : List Cond := [Cond.fieldLink RX2 28 "ReefPilot$Spread" "reachedCells" "I", Cond.methodLink RX2 22 yJ7_fill_53178, Cond.static yJ7_fill_53178, Cond.initialized RJ7, Cond.code yJ7_fill_53178 cJ7_fill_53178 4 none, Cond.methodLink RX4 195 yX2_setOpen, Cond.instanceMethod yX2_setOpen, Cond.selects RX2 yX2_setOpen yX2_setOpen, Cond.code yX2_setOpen cX2_setOpen 3 none, Cond.fieldLink RX2 9 "ReefPilot$Spread" "open" "[Z", Cond.methodLink RX4 189 yX2_goFromCell, Cond.instanceMethod yX2_goFromCell, Cond.selects RX2 yX2_goFromCell yX2_goFromCell, Cond.code yX2_goFromCell cX2_goFromCell 3 (some .int), Cond.methodLink RX2 32 yX2_reach, Cond.instanceMethod yX2_reach, Cond.selects RX2 yX2_reach yX2_reach, Cond.code yX2_reach cX2_reach 3 none, Cond.fieldLink RX2 19 "ReefPilot$Spread" "reached" "[I", Cond.methodLink RX2 36 yX2_goOnFrom, Cond.instanceMethod yX2_goOnFrom, Cond.selects RX2 yX2_goOnFrom yX2_goOnFrom, Cond.code yX2_goOnFrom cX2_goOnFrom 6 none, Cond.static yX4_neighbour]
def wsX4_cell_r4 : List Cond := [Cond.code yX4_neighbour cX4_neighbour 3 (some .int)]
def wsX4_cell : List Cond := .code yX4_cell cX4_cell 5 (some .int) :: ((wsX4_cell_r1 ++ (wsX4_cell_r2 ++ (wsX4_cell_r3 ++ wsX4_cell_r4))) ++ wsX40 ++ wsX00 ++ wsX20 ++ (vx_atS RX4 160 "java/lang/IndexOutOfBoundsException" ["java/lang/RuntimeException", "java/lang/Exception"]).filter goodWord)
def wsX4_sound_r1 : List Cond := [Cond.fieldLink RX4 29 "ReefPilot" "soundings" "LReefPilot$Soundings;", Cond.fieldLink RX4 19 "ReefPilot" "coast" "LReefPilot$Coast;", Cond.methodLink RX4 44 yX4_needCell, Cond.static yX4_needCell, Cond.initialized RX4, Cond.code yX4_needCell cX4_needCell 2 none, Cond.methodLink RX4 63 yX4_needIndex, Cond.static yX4_needIndex, Cond.code yX4_needIndex cX4_needIndex 2 none, Cond.classLink RX4 156 "java/lang/IndexOutOfBoundsException", Cond.initialized "java/lang/IndexOutOfBoundsException", Cond.methodLink RX4 85 yX1_noted, Cond.instanceMethod yX1_noted, Cond.selects RX1 yX1_noted yX1_noted, Cond.initialized RX1, Cond.code yX1_noted cX1_noted 2 (some .int), Cond.fieldLink RX1 9 "ReefPilot$Soundings" "depth" "[I", Cond.methodLink RX4 75 yX0_depthOf, Cond.instanceMethod yX0_depthOf, Cond.selects RX0 yX0_depthOf yX0_depthOf, Cond.initialized RX0, Cond.code yX0_depthOf cX0_depthOf 2 (some .int), Cond.fieldLink RX0 9 "ReefPilot$Coast" "ground" "[I", Cond.fieldLink RX0 15 "ReefPilot$Coast" "coral" "[I"]
def wsX4_sound_r2 : List Cond := [Cond.methodLink RX0 44 Lib.Math.max.name, Cond.static Lib.Math.max.name, Cond.initialized "java/lang/Math", Cond.code Lib.Math.max.name Lib.Math.max.code 2 (some .int), Cond.methodLink RX4 88 yX0_monthNow, Cond.instanceMethod yX0_monthNow, Cond.selects RX0 yX0_monthNow yX0_monthNow, Cond.code yX0_monthNow cX0_monthNow 1 (some .int), Cond.fieldLink RX0 34 "ReefPilot$Coast" "month" "I", Cond.methodLink RX4 92 yX1_note, Cond.instanceMethod yX1_note, Cond.selects RX1 yX1_note yX1_note, Cond.code yX1_note cX1_note 4 none, Cond.fieldLink RX1 15 "ReefPilot$Soundings" "takenIn" "[I"]
def wsX4_sound : List Cond := .code yX4_sound cX4_sound 6 (some .int) :: ((wsX4_sound_r1 ++ wsX4_sound_r2) ++ wsX40 ++ wsX10 ++ wsX00 ++ (vx_atS RX4 160 "java/lang/IndexOutOfBoundsException" ["java/lang/RuntimeException", "java/lang/Exception"]).filter goodWord)
def wsX4_safeDepth : List Cond := .code yX4_safeDepth cX4_safeDepth 3 (some .int) :: ([.fieldLink RX4 29 "ReefPilot" "soundings" "LReefPilot$Soundings;", .fieldLink RX4 19 "ReefPilot" "coast" "LReefPilot$Coast;", .methodLink RX4 145 Lib.Math.max.name, .static Lib.Math.max.name, .initialized "java/lang/Math", .code Lib.Math.max.name Lib.Math.max.code 2 (some .int), .methodLink RX4 85 yX1_noted, .instanceMethod yX1_noted, .selects RX1 yX1_noted yX1_noted, .initialized RX1, .code yX1_noted cX1_noted 2 (some .int), .fieldLink RX1 9 "ReefPilot$Soundings" "depth" "[I", .methodLink RX4 88 yX0_monthNow, .instanceMethod yX0_monthNow, .selects RX0 yX0_monthNow yX0_monthNow, .initialized RX0, .code yX0_monthNow cX0_monthNow 1 (some .int), .fieldLink RX0 34 "ReefPilot$Coast" "month" "I", .methodLink RX4 183 yX1_age, .instanceMethod yX1_age, .selects RX1 yX1_age yX1_age, .code yX1_age cX1_age 3 (some .int), .fieldLink RX1 15 "ReefPilot$Soundings" "takenIn" "[I"] ++ wsX40 ++ wsX10 ++ wsX00)
def wsX4_chartAnswer_r1 : List Cond := [Cond.fieldLink RX4 29 "ReefPilot" "soundings" "LReefPilot$Soundings;", Cond.fieldLink RX4 19 "ReefPilot" "coast" "LReefPilot$Coast;", Cond.methodLink RX4 85 yX1_noted, Cond.instanceMethod yX1_noted, Cond.selects RX1 yX1_noted yX1_noted, Cond.initialized RX1, Cond.code yX1_noted cX1_noted 2 (some .int), Cond.fieldLink RX1 9 "ReefPilot$Soundings" "depth" "[I", Cond.methodLink RX4 88 yX0_monthNow, Cond.instanceMethod yX0_monthNow, Cond.selects RX0 yX0_monthNow yX0_monthNow, Cond.initialized RX0, Cond.code yX0_monthNow cX0_monthNow 1 (some .int), Cond.fieldLink RX0 34 "ReefPilot$Coast" "month" "I", Cond.methodLink RX4 183 yX1_age, Cond.instanceMethod yX1_age, Cond.selects RX1 yX1_age yX1_age, Cond.code yX1_age cX1_age 3 (some .int), Cond.fieldLink RX1 15 "ReefPilot$Soundings" "takenIn" "[I", Cond.methodLink RX4 142 yX4_safeDepth, Cond.instanceMethod yX4_safeDepth, Cond.selects RX4 yX4_safeDepth yX4_safeDepth, Cond.initialized RX4, Cond.code yX4_safeDepth cX4_safeDepth 3 (some .int)]
def wsX4_chartAnswer_r2 : List Cond := [Cond.methodLink RX4 145 Lib.Math.max.name, Cond.static Lib.Math.max.name, Cond.initialized "java/lang/Math", Cond.code Lib.Math.max.name Lib.Math.max.code 2 (some .int)]
def wsX4_chartAnswer : List Cond := .code yX4_chartAnswer cX4_chartAnswer 3 (some .int) :: ((wsX4_chartAnswer_r1 ++ wsX4_chartAnswer_r2) ++ wsX40 ++ wsX10 ++ wsX00)
def wsX4_chart_r1 : List Cond := [Cond.methodLink RX4 44 yX4_needCell, Cond.static yX4_needCell, Cond.initialized RX4, Cond.code yX4_needCell cX4_needCell 2 none, Cond.methodLink RX4 63 yX4_needIndex, Cond.static yX4_needIndex, Cond.code yX4_needIndex cX4_needIndex 2 none, Cond.classLink RX4 156 "java/lang/IndexOutOfBoundsException", Cond.initialized "java/lang/IndexOutOfBoundsException", Cond.methodLink RX4 95 yX4_chartAnswer, Cond.instanceMethod yX4_chartAnswer, Cond.selects RX4 yX4_chartAnswer yX4_chartAnswer, Cond.code yX4_chartAnswer cX4_chartAnswer 3 (some .int), Cond.fieldLink RX4 29 "ReefPilot" "soundings" "LReefPilot$Soundings;", Cond.fieldLink RX4 19 "ReefPilot" "coast" "LReefPilot$Coast;", Cond.methodLink RX4 85 yX1_noted, Cond.instanceMethod yX1_noted, Cond.selects RX1 yX1_noted yX1_noted, Cond.initialized RX1, Cond.code yX1_noted cX1_noted 2 (some .int), Cond.fieldLink RX1 9 "ReefPilot$Soundings" "depth" "[I", Cond.methodLink RX4 88 yX0_monthNow, Cond.instanceMethod yX0_monthNow, Cond.selects RX0 yX0_monthNow yX0_monthNow]
def wsX4_chart_r2 : List Cond := [Cond.initialized RX0, Cond.code yX0_monthNow cX0_monthNow 1 (some .int), Cond.fieldLink RX0 34 "ReefPilot$Coast" "month" "I", Cond.methodLink RX4 183 yX1_age, Cond.instanceMethod yX1_age, Cond.selects RX1 yX1_age yX1_age, Cond.code yX1_age cX1_age 3 (some .int), Cond.fieldLink RX1 15 "ReefPilot$Soundings" "takenIn" "[I", Cond.methodLink RX4 142 yX4_safeDepth, Cond.instanceMethod yX4_safeDepth, Cond.selects RX4 yX4_safeDepth yX4_safeDepth, Cond.code yX4_safeDepth cX4_safeDepth 3 (some .int), Cond.methodLink RX4 145 Lib.Math.max.name, Cond.static Lib.Math.max.name, Cond.initialized "java/lang/Math", Cond.code Lib.Math.max.name Lib.Math.max.code 2 (some .int)]
def wsX4_chart : List Cond := .code yX4_chart cX4_chart 4 (some .int) :: ((wsX4_chart_r1 ++ wsX4_chart_r2) ++ wsX40 ++ wsX10 ++ wsX00 ++ (vx_atS RX4 160 "java/lang/IndexOutOfBoundsException" ["java/lang/RuntimeException", "java/lang/Exception"]).filter goodWord)
def wsX4_countOnChart_r1 : List Cond := [Cond.fieldLink RX4 40 "ReefPilot" "water" "[I", Cond.methodLink RX4 142 yX4_safeDepth, Cond.instanceMethod yX4_safeDepth, Cond.selects RX4 yX4_safeDepth yX4_safeDepth, Cond.initialized RX4, Cond.code yX4_safeDepth cX4_safeDepth 3 (some .int), Cond.fieldLink RX4 29 "ReefPilot" "soundings" "LReefPilot$Soundings;", Cond.fieldLink RX4 19 "ReefPilot" "coast" "LReefPilot$Coast;", Cond.methodLink RX4 145 Lib.Math.max.name, Cond.static Lib.Math.max.name, Cond.initialized "java/lang/Math", Cond.code Lib.Math.max.name Lib.Math.max.code 2 (some .int), Cond.methodLink RX4 85 yX1_noted, Cond.instanceMethod yX1_noted, Cond.selects RX1 yX1_noted yX1_noted, Cond.initialized RX1, Cond.code yX1_noted cX1_noted 2 (some .int), Cond.fieldLink RX1 9 "ReefPilot$Soundings" "depth" "[I", Cond.methodLink RX4 88 yX0_monthNow, Cond.instanceMethod yX0_monthNow, Cond.selects RX0 yX0_monthNow yX0_monthNow, Cond.initialized RX0, Cond.code yX0_monthNow cX0_monthNow 1 (some .int), Cond.fieldLink RX0 34 "ReefPilot$Coast" "month" "I"]
def wsX4_countOnChart_r2 : List Cond := [Cond.methodLink RX4 183 yX1_age, Cond.instanceMethod yX1_age, Cond.selects RX1 yX1_age yX1_age, Cond.code yX1_age cX1_age 3 (some .int), Cond.fieldLink RX1 15 "ReefPilot$Soundings" "takenIn" "[I"]
def wsX4_countOnChart : List Cond := .code yX4_countOnChart cX4_countOnChart 2 none :: ((wsX4_countOnChart_r1 ++ wsX4_countOnChart_r2) ++ wsX40 ++ wsX10 ++ wsX00)
def wsX4_countOnDepths : List Cond := .code yX4_countOnDepths cX4_countOnDepths 3 none :: ([.fieldLink RX4 40 "ReefPilot" "water" "[I", .methodLink RX4 75 yX0_depthOf, .instanceMethod yX0_depthOf, .selects RX0 yX0_depthOf yX0_depthOf, .initialized RX0, .code yX0_depthOf cX0_depthOf 2 (some .int), .fieldLink RX0 9 "ReefPilot$Coast" "ground" "[I", .fieldLink RX0 15 "ReefPilot$Coast" "coral" "[I", .methodLink RX0 44 Lib.Math.max.name, .static Lib.Math.max.name, .initialized "java/lang/Math", .code Lib.Math.max.name Lib.Math.max.code 2 (some .int)] ++ wsX40 ++ wsX00)
def wsX4_countOn_r1 : List Cond := [Cond.fieldLink RX4 19 "ReefPilot" "coast" "LReefPilot$Coast;", Cond.methodLink RX4 199 yX4_countOnChart, Cond.instanceMethod yX4_countOnChart, Cond.selects RX4 yX4_countOnChart yX4_countOnChart, Cond.initialized RX4, Cond.code yX4_countOnChart cX4_countOnChart 2 none, Cond.fieldLink RX4 40 "ReefPilot" "water" "[I", Cond.methodLink RX4 142 yX4_safeDepth, Cond.instanceMethod yX4_safeDepth, Cond.selects RX4 yX4_safeDepth yX4_safeDepth, Cond.code yX4_safeDepth cX4_safeDepth 3 (some .int), Cond.fieldLink RX4 29 "ReefPilot" "soundings" "LReefPilot$Soundings;", Cond.methodLink RX4 145 Lib.Math.max.name, Cond.static Lib.Math.max.name, Cond.initialized "java/lang/Math", Cond.code Lib.Math.max.name Lib.Math.max.code 2 (some .int), Cond.methodLink RX4 85 yX1_noted, Cond.instanceMethod yX1_noted, Cond.selects RX1 yX1_noted yX1_noted, Cond.initialized RX1, Cond.code yX1_noted cX1_noted 2 (some .int), Cond.fieldLink RX1 9 "ReefPilot$Soundings" "depth" "[I", Cond.methodLink RX4 88 yX0_monthNow, Cond.instanceMethod yX0_monthNow]
def wsX4_countOn_r2 : List Cond := [Cond.selects RX0 yX0_monthNow yX0_monthNow, Cond.initialized RX0, Cond.code yX0_monthNow cX0_monthNow 1 (some .int), Cond.fieldLink RX0 34 "ReefPilot$Coast" "month" "I", Cond.methodLink RX4 183 yX1_age, Cond.instanceMethod yX1_age, Cond.selects RX1 yX1_age yX1_age, Cond.code yX1_age cX1_age 3 (some .int), Cond.fieldLink RX1 15 "ReefPilot$Soundings" "takenIn" "[I", Cond.methodLink RX4 135 yX4_countOnDepths, Cond.instanceMethod yX4_countOnDepths, Cond.selects RX4 yX4_countOnDepths yX4_countOnDepths, Cond.code yX4_countOnDepths cX4_countOnDepths 3 none, Cond.methodLink RX4 75 yX0_depthOf, Cond.instanceMethod yX0_depthOf, Cond.selects RX0 yX0_depthOf yX0_depthOf, Cond.code yX0_depthOf cX0_depthOf 2 (some .int), Cond.fieldLink RX0 9 "ReefPilot$Coast" "ground" "[I", Cond.fieldLink RX0 15 "ReefPilot$Coast" "coral" "[I", Cond.methodLink RX0 44 Lib.Math.max.name]
def wsX4_countOn : List Cond := .code yX4_countOn cX4_countOn 2 none :: ((wsX4_countOn_r1 ++ wsX4_countOn_r2) ++ wsX40 ++ wsX10 ++ wsX00)
def wsX4_openWater : List Cond := .code yX4_openWater cX4_openWater 3 none :: ([.fieldLink RX4 36 "ReefPilot" "spread" "LReefPilot$Spread;", .fieldLink RX4 40 "ReefPilot" "water" "[I", .methodLink RX4 192 yX2_clear, .instanceMethod yX2_clear, .selects RX2 yX2_clear yX2_clear, .initialized RX2, .code yX2_clear cX2_clear 1 none, .fieldLink RX2 15 "ReefPilot$Spread" "steps" "[I", .fieldLink RX2 28 "ReefPilot$Spread" "reachedCells" "I", .methodLink RX2 22 yJ7_fill_53178, .static yJ7_fill_53178, .initialized RJ7, .code yJ7_fill_53178 cJ7_fill_53178 4 none, .methodLink RX4 195 yX2_setOpen, .instanceMethod yX2_setOpen, .selects RX2 yX2_setOpen yX2_setOpen, .code yX2_setOpen cX2_setOpen 3 none, .fieldLink RX2 9 "ReefPilot$Spread" "open" "[Z"] ++ wsX40 ++ wsX20)
def wsX4_startOfShortestWay_r1 : List Cond := [Cond.fieldLink RX4 36 "ReefPilot" "spread" "LReefPilot$Spread;", Cond.methodLink RX4 111 yX4_openWater, Cond.instanceMethod yX4_openWater, Cond.selects RX4 yX4_openWater yX4_openWater, Cond.initialized RX4, Cond.code yX4_openWater cX4_openWater 3 none, Cond.fieldLink RX4 40 "ReefPilot" "water" "[I", Cond.methodLink RX4 192 yX2_clear, Cond.instanceMethod yX2_clear, Cond.selects RX2 yX2_clear yX2_clear, Cond.initialized RX2, Cond.code yX2_clear cX2_clear 1 none, Cond.fieldLink RX2 15 "ReefPilot$Spread" "steps" "[I", Cond.fieldLink RX2 28 "ReefPilot$Spread" "reachedCells" "I", Cond.methodLink RX2 22 yJ7_fill_53178, Cond.static yJ7_fill_53178, Cond.initialized RJ7, Cond.code yJ7_fill_53178 cJ7_fill_53178 4 none, Cond.methodLink RX4 195 yX2_setOpen, Cond.instanceMethod yX2_setOpen, Cond.selects RX2 yX2_setOpen yX2_setOpen, Cond.code yX2_setOpen cX2_setOpen 3 none, Cond.fieldLink RX2 9 "ReefPilot$Spread" "open" "[Z", Cond.methodLink RX4 115 yX2_goFromRow]
def wsX4_startOfShortestWay_r2 : List Cond := [Cond.instanceMethod yX2_goFromRow, Cond.selects RX2 yX2_goFromRow yX2_goFromRow, Cond.code yX2_goFromRow cX2_goFromRow 4 none, Cond.methodLink RX2 32 yX2_reach, Cond.instanceMethod yX2_reach, Cond.selects RX2 yX2_reach yX2_reach, Cond.code yX2_reach cX2_reach 3 none, Cond.fieldLink RX2 19 "ReefPilot$Spread" "reached" "[I", Cond.methodLink RX2 36 yX2_goOnFrom, Cond.instanceMethod yX2_goOnFrom, Cond.selects RX2 yX2_goOnFrom yX2_goOnFrom, Cond.code yX2_goOnFrom cX2_goOnFrom 6 none, Cond.static yX4_neighbour, Cond.code yX4_neighbour cX4_neighbour 3 (some .int), Cond.methodLink RX4 105 yX2_stepsTo, Cond.instanceMethod yX2_stepsTo, Cond.selects RX2 yX2_stepsTo yX2_stepsTo, Cond.code yX2_stepsTo cX2_stepsTo 2 (some .int)]
def wsX4_startOfShortestWay : List Cond := .code yX4_startOfShortestWay cX4_startOfShortestWay 5 (some .int) :: ((wsX4_startOfShortestWay_r1 ++ wsX4_startOfShortestWay_r2) ++ wsX40 ++ wsX20)
def wsX4_way_r1 : List Cond := [Cond.fieldLink RX4 36 "ReefPilot" "spread" "LReefPilot$Spread;", Cond.methodLink RX4 48 yX4_needWithin, Cond.static yX4_needWithin, Cond.initialized RX4, Cond.code yX4_needWithin cX4_needWithin 3 none, Cond.classLink RX4 163 "java/lang/IllegalArgumentException", Cond.initialized "java/lang/IllegalArgumentException", Cond.methodLink RX4 98 yX4_countOn, Cond.instanceMethod yX4_countOn, Cond.selects RX4 yX4_countOn yX4_countOn, Cond.code yX4_countOn cX4_countOn 2 none, Cond.fieldLink RX4 19 "ReefPilot" "coast" "LReefPilot$Coast;", Cond.methodLink RX4 199 yX4_countOnChart, Cond.instanceMethod yX4_countOnChart, Cond.selects RX4 yX4_countOnChart yX4_countOnChart, Cond.code yX4_countOnChart cX4_countOnChart 2 none, Cond.fieldLink RX4 40 "ReefPilot" "water" "[I", Cond.methodLink RX4 142 yX4_safeDepth, Cond.instanceMethod yX4_safeDepth, Cond.selects RX4 yX4_safeDepth yX4_safeDepth, Cond.code yX4_safeDepth cX4_safeDepth 3 (some .int), Cond.fieldLink RX4 29 "ReefPilot" "soundings" "LReefPilot$Soundings;", Cond.methodLink RX4 145 Lib.Math.max.name, Cond.static Lib.Math.max.name]
def wsX4_way_r2 : List Cond := [Cond.initialized "java/lang/Math", Cond.code Lib.Math.max.name Lib.Math.max.code 2 (some .int), Cond.methodLink RX4 85 yX1_noted, Cond.instanceMethod yX1_noted, Cond.selects RX1 yX1_noted yX1_noted, Cond.initialized RX1, Cond.code yX1_noted cX1_noted 2 (some .int), Cond.fieldLink RX1 9 "ReefPilot$Soundings" "depth" "[I", Cond.methodLink RX4 88 yX0_monthNow, Cond.instanceMethod yX0_monthNow, Cond.selects RX0 yX0_monthNow yX0_monthNow, Cond.initialized RX0, Cond.code yX0_monthNow cX0_monthNow 1 (some .int), Cond.fieldLink RX0 34 "ReefPilot$Coast" "month" "I", Cond.methodLink RX4 183 yX1_age, Cond.instanceMethod yX1_age, Cond.selects RX1 yX1_age yX1_age, Cond.code yX1_age cX1_age 3 (some .int), Cond.fieldLink RX1 15 "ReefPilot$Soundings" "takenIn" "[I", Cond.methodLink RX4 135 yX4_countOnDepths, Cond.instanceMethod yX4_countOnDepths, Cond.selects RX4 yX4_countOnDepths yX4_countOnDepths, Cond.code yX4_countOnDepths cX4_countOnDepths 3 none, Cond.methodLink RX4 75 yX0_depthOf]
def wsX4_way_r3 : List Cond := [Cond.instanceMethod yX0_depthOf, Cond.selects RX0 yX0_depthOf yX0_depthOf, Cond.code yX0_depthOf cX0_depthOf 2 (some .int), Cond.fieldLink RX0 9 "ReefPilot$Coast" "ground" "[I", Cond.fieldLink RX0 15 "ReefPilot$Coast" "coral" "[I", Cond.methodLink RX0 44 Lib.Math.max.name, Cond.methodLink RX4 102 yX4_startOfShortestWay, Cond.instanceMethod yX4_startOfShortestWay, Cond.selects RX4 yX4_startOfShortestWay yX4_startOfShortestWay, Cond.code yX4_startOfShortestWay cX4_startOfShortestWay 5 (some .int), Cond.methodLink RX4 111 yX4_openWater, Cond.instanceMethod yX4_openWater, Cond.selects RX4 yX4_openWater yX4_openWater, Cond.code yX4_openWater cX4_openWater 3 none, Cond.methodLink RX4 192 yX2_clear, Cond.instanceMethod yX2_clear, Cond.selects RX2 yX2_clear yX2_clear, Cond.initialized RX2, Cond.code yX2_clear cX2_clear 1 none, Cond.fieldLink RX2 15 "ReefPilot$Spread" "steps" "[I", Cond.fieldLink RX2 28 "ReefPilot$Spread" "reachedCells" "I", Cond.methodLink RX2 22 yJ7_fill_53178, Cond.static yJ7_fill_53178, Cond.initialized RJ7]
def wsX4_way_r4 : List Cond := [Cond.code yJ7_fill_53178 cJ7_fill_53178 4 none, Cond.methodLink RX4 195 yX2_setOpen, Cond.instanceMethod yX2_setOpen, Cond.selects RX2 yX2_setOpen yX2_setOpen, Cond.code yX2_setOpen cX2_setOpen 3 none, Cond.fieldLink RX2 9 "ReefPilot$Spread" "open" "[Z", Cond.methodLink RX4 115 yX2_goFromRow, Cond.instanceMethod yX2_goFromRow, Cond.selects RX2 yX2_goFromRow yX2_goFromRow, Cond.code yX2_goFromRow cX2_goFromRow 4 none, Cond.methodLink RX2 32 yX2_reach, Cond.instanceMethod yX2_reach, Cond.selects RX2 yX2_reach yX2_reach, Cond.code yX2_reach cX2_reach 3 none, Cond.fieldLink RX2 19 "ReefPilot$Spread" "reached" "[I", Cond.methodLink RX2 36 yX2_goOnFrom, Cond.instanceMethod yX2_goOnFrom, Cond.selects RX2 yX2_goOnFrom yX2_goOnFrom, Cond.code yX2_goOnFrom cX2_goOnFrom 6 none, Cond.static yX4_neighbour, Cond.code yX4_neighbour cX4_neighbour 3 (some .int), Cond.methodLink RX4 105 yX2_stepsTo, Cond.instanceMethod yX2_stepsTo, Cond.selects RX2 yX2_stepsTo yX2_stepsTo]
def wsX4_way_r5 : List Cond := [Cond.code yX2_stepsTo cX2_stepsTo 2 (some .int)]
def wsX4_way : List Cond := .code yX4_way cX4_way 4 (some .int) :: ((wsX4_way_r1 ++ (wsX4_way_r2 ++ (wsX4_way_r3 ++ (wsX4_way_r4 ++ wsX4_way_r5)))) ++ wsX40 ++ wsX10 ++ wsX00 ++ wsX20 ++ (vx_atS RX4 167 "java/lang/IllegalArgumentException" ["java/lang/RuntimeException", "java/lang/Exception"]).filter goodWord)
def wsX4_greatestDraught_r1 : List Cond := [Cond.methodLink RX4 102 yX4_startOfShortestWay, Cond.instanceMethod yX4_startOfShortestWay, Cond.selects RX4 yX4_startOfShortestWay yX4_startOfShortestWay, Cond.initialized RX4, Cond.code yX4_startOfShortestWay cX4_startOfShortestWay 5 (some .int), Cond.fieldLink RX4 36 "ReefPilot" "spread" "LReefPilot$Spread;", Cond.methodLink RX4 111 yX4_openWater, Cond.instanceMethod yX4_openWater, Cond.selects RX4 yX4_openWater yX4_openWater, Cond.code yX4_openWater cX4_openWater 3 none, Cond.fieldLink RX4 40 "ReefPilot" "water" "[I", Cond.methodLink RX4 192 yX2_clear, Cond.instanceMethod yX2_clear, Cond.selects RX2 yX2_clear yX2_clear, Cond.initialized RX2, Cond.code yX2_clear cX2_clear 1 none, Cond.fieldLink RX2 15 "ReefPilot$Spread" "steps" "[I", Cond.fieldLink RX2 28 "ReefPilot$Spread" "reachedCells" "I", Cond.methodLink RX2 22 yJ7_fill_53178, Cond.static yJ7_fill_53178, Cond.initialized RJ7, Cond.code yJ7_fill_53178 cJ7_fill_53178 4 none, Cond.methodLink RX4 195 yX2_setOpen, Cond.instanceMethod yX2_setOpen]
def wsX4_greatestDraught_r2 : List Cond := [Cond.selects RX2 yX2_setOpen yX2_setOpen, Cond.code yX2_setOpen cX2_setOpen 3 none, Cond.fieldLink RX2 9 "ReefPilot$Spread" "open" "[Z", Cond.methodLink RX4 115 yX2_goFromRow, Cond.instanceMethod yX2_goFromRow, Cond.selects RX2 yX2_goFromRow yX2_goFromRow, Cond.code yX2_goFromRow cX2_goFromRow 4 none, Cond.methodLink RX2 32 yX2_reach, Cond.instanceMethod yX2_reach, Cond.selects RX2 yX2_reach yX2_reach, Cond.code yX2_reach cX2_reach 3 none, Cond.fieldLink RX2 19 "ReefPilot$Spread" "reached" "[I", Cond.methodLink RX2 36 yX2_goOnFrom, Cond.instanceMethod yX2_goOnFrom, Cond.selects RX2 yX2_goOnFrom yX2_goOnFrom, Cond.code yX2_goOnFrom cX2_goOnFrom 6 none, Cond.static yX4_neighbour, Cond.code yX4_neighbour cX4_neighbour 3 (some .int), Cond.methodLink RX4 105 yX2_stepsTo, Cond.instanceMethod yX2_stepsTo, Cond.selects RX2 yX2_stepsTo yX2_stepsTo, Cond.code yX2_stepsTo cX2_stepsTo 2 (some .int)]
def wsX4_greatestDraught : List Cond := .code yX4_greatestDraught cX4_greatestDraught 2 (some .int) :: ((wsX4_greatestDraught_r1 ++ wsX4_greatestDraught_r2) ++ wsX40 ++ wsX20)
def wsX4_deepest_r1 : List Cond := [Cond.methodLink RX4 98 yX4_countOn, Cond.instanceMethod yX4_countOn, Cond.selects RX4 yX4_countOn yX4_countOn, Cond.initialized RX4, Cond.code yX4_countOn cX4_countOn 2 none, Cond.fieldLink RX4 19 "ReefPilot" "coast" "LReefPilot$Coast;", Cond.methodLink RX4 199 yX4_countOnChart, Cond.instanceMethod yX4_countOnChart, Cond.selects RX4 yX4_countOnChart yX4_countOnChart, Cond.code yX4_countOnChart cX4_countOnChart 2 none, Cond.fieldLink RX4 40 "ReefPilot" "water" "[I", Cond.methodLink RX4 142 yX4_safeDepth, Cond.instanceMethod yX4_safeDepth, Cond.selects RX4 yX4_safeDepth yX4_safeDepth, Cond.code yX4_safeDepth cX4_safeDepth 3 (some .int), Cond.fieldLink RX4 29 "ReefPilot" "soundings" "LReefPilot$Soundings;", Cond.methodLink RX4 145 Lib.Math.max.name, Cond.static Lib.Math.max.name, Cond.initialized "java/lang/Math", Cond.code Lib.Math.max.name Lib.Math.max.code 2 (some .int), Cond.methodLink RX4 85 yX1_noted, Cond.instanceMethod yX1_noted, Cond.selects RX1 yX1_noted yX1_noted, Cond.initialized RX1]
def wsX4_deepest_r2 : List Cond := [Cond.code yX1_noted cX1_noted 2 (some .int), Cond.fieldLink RX1 9 "ReefPilot$Soundings" "depth" "[I", Cond.methodLink RX4 88 yX0_monthNow, Cond.instanceMethod yX0_monthNow, Cond.selects RX0 yX0_monthNow yX0_monthNow, Cond.initialized RX0, Cond.code yX0_monthNow cX0_monthNow 1 (some .int), Cond.fieldLink RX0 34 "ReefPilot$Coast" "month" "I", Cond.methodLink RX4 183 yX1_age, Cond.instanceMethod yX1_age, Cond.selects RX1 yX1_age yX1_age, Cond.code yX1_age cX1_age 3 (some .int), Cond.fieldLink RX1 15 "ReefPilot$Soundings" "takenIn" "[I", Cond.methodLink RX4 135 yX4_countOnDepths, Cond.instanceMethod yX4_countOnDepths, Cond.selects RX4 yX4_countOnDepths yX4_countOnDepths, Cond.code yX4_countOnDepths cX4_countOnDepths 3 none, Cond.methodLink RX4 75 yX0_depthOf, Cond.instanceMethod yX0_depthOf, Cond.selects RX0 yX0_depthOf yX0_depthOf, Cond.code yX0_depthOf cX0_depthOf 2 (some .int), Cond.fieldLink RX0 9 "ReefPilot$Coast" "ground" "[I", Cond.fieldLink RX0 15 "ReefPilot$Coast" "coral" "[I", Cond.methodLink RX0 44 Lib.Math.max.name]
def wsX4_deepest_r3 : List Cond := [Cond.methodLink RX4 108 yX4_greatestDraught, Cond.instanceMethod yX4_greatestDraught, Cond.selects RX4 yX4_greatestDraught yX4_greatestDraught, Cond.code yX4_greatestDraught cX4_greatestDraught 2 (some .int), Cond.methodLink RX4 102 yX4_startOfShortestWay, Cond.instanceMethod yX4_startOfShortestWay, Cond.selects RX4 yX4_startOfShortestWay yX4_startOfShortestWay, Cond.code yX4_startOfShortestWay cX4_startOfShortestWay 5 (some .int), Cond.fieldLink RX4 36 "ReefPilot" "spread" "LReefPilot$Spread;", Cond.methodLink RX4 111 yX4_openWater, Cond.instanceMethod yX4_openWater, Cond.selects RX4 yX4_openWater yX4_openWater, Cond.code yX4_openWater cX4_openWater 3 none, Cond.methodLink RX4 192 yX2_clear, Cond.instanceMethod yX2_clear, Cond.selects RX2 yX2_clear yX2_clear, Cond.initialized RX2, Cond.code yX2_clear cX2_clear 1 none, Cond.fieldLink RX2 15 "ReefPilot$Spread" "steps" "[I", Cond.fieldLink RX2 28 "ReefPilot$Spread" "reachedCells" "I", Cond.methodLink RX2 22 yJ7_fill_53178, Cond.static yJ7_fill_53178, Cond.initialized RJ7, Cond.code yJ7_fill_53178 cJ7_fill_53178 4 none]
def wsX4_deepest_r4 : List Cond := [Cond.methodLink RX4 195 yX2_setOpen, Cond.instanceMethod yX2_setOpen, Cond.selects RX2 yX2_setOpen yX2_setOpen, Cond.code yX2_setOpen cX2_setOpen 3 none, Cond.fieldLink RX2 9 "ReefPilot$Spread" "open" "[Z", Cond.methodLink RX4 115 yX2_goFromRow, Cond.instanceMethod yX2_goFromRow, Cond.selects RX2 yX2_goFromRow yX2_goFromRow, Cond.code yX2_goFromRow cX2_goFromRow 4 none, Cond.methodLink RX2 32 yX2_reach, Cond.instanceMethod yX2_reach, Cond.selects RX2 yX2_reach yX2_reach, Cond.code yX2_reach cX2_reach 3 none, Cond.fieldLink RX2 19 "ReefPilot$Spread" "reached" "[I", Cond.methodLink RX2 36 yX2_goOnFrom, Cond.instanceMethod yX2_goOnFrom, Cond.selects RX2 yX2_goOnFrom yX2_goOnFrom, Cond.code yX2_goOnFrom cX2_goOnFrom 6 none, Cond.static yX4_neighbour, Cond.code yX4_neighbour cX4_neighbour 3 (some .int), Cond.methodLink RX4 105 yX2_stepsTo, Cond.instanceMethod yX2_stepsTo, Cond.selects RX2 yX2_stepsTo yX2_stepsTo, Cond.code yX2_stepsTo cX2_stepsTo 2 (some .int)]
def wsX4_deepest : List Cond := .code yX4_deepest cX4_deepest 2 (some .int) :: ((wsX4_deepest_r1 ++ (wsX4_deepest_r2 ++ (wsX4_deepest_r3 ++ wsX4_deepest_r4))) ++ wsX40 ++ wsX10 ++ wsX00 ++ wsX20)
def wsX4_harbours_r1 : List Cond := [Cond.fieldLink RX4 36 "ReefPilot" "spread" "LReefPilot$Spread;", Cond.methodLink RX4 48 yX4_needWithin, Cond.static yX4_needWithin, Cond.initialized RX4, Cond.code yX4_needWithin cX4_needWithin 3 none, Cond.classLink RX4 163 "java/lang/IllegalArgumentException", Cond.initialized "java/lang/IllegalArgumentException", Cond.methodLink RX4 98 yX4_countOn, Cond.instanceMethod yX4_countOn, Cond.selects RX4 yX4_countOn yX4_countOn, Cond.code yX4_countOn cX4_countOn 2 none, Cond.fieldLink RX4 19 "ReefPilot" "coast" "LReefPilot$Coast;", Cond.methodLink RX4 199 yX4_countOnChart, Cond.instanceMethod yX4_countOnChart, Cond.selects RX4 yX4_countOnChart yX4_countOnChart, Cond.code yX4_countOnChart cX4_countOnChart 2 none, Cond.fieldLink RX4 40 "ReefPilot" "water" "[I", Cond.methodLink RX4 142 yX4_safeDepth, Cond.instanceMethod yX4_safeDepth, Cond.selects RX4 yX4_safeDepth yX4_safeDepth, Cond.code yX4_safeDepth cX4_safeDepth 3 (some .int), Cond.fieldLink RX4 29 "ReefPilot" "soundings" "LReefPilot$Soundings;", Cond.methodLink RX4 145 Lib.Math.max.name, Cond.static Lib.Math.max.name]
def wsX4_harbours_r2 : List Cond := [Cond.initialized "java/lang/Math", Cond.code Lib.Math.max.name Lib.Math.max.code 2 (some .int), Cond.methodLink RX4 85 yX1_noted, Cond.instanceMethod yX1_noted, Cond.selects RX1 yX1_noted yX1_noted, Cond.initialized RX1, Cond.code yX1_noted cX1_noted 2 (some .int), Cond.fieldLink RX1 9 "ReefPilot$Soundings" "depth" "[I", Cond.methodLink RX4 88 yX0_monthNow, Cond.instanceMethod yX0_monthNow, Cond.selects RX0 yX0_monthNow yX0_monthNow, Cond.initialized RX0, Cond.code yX0_monthNow cX0_monthNow 1 (some .int), Cond.fieldLink RX0 34 "ReefPilot$Coast" "month" "I", Cond.methodLink RX4 183 yX1_age, Cond.instanceMethod yX1_age, Cond.selects RX1 yX1_age yX1_age, Cond.code yX1_age cX1_age 3 (some .int), Cond.fieldLink RX1 15 "ReefPilot$Soundings" "takenIn" "[I", Cond.methodLink RX4 135 yX4_countOnDepths, Cond.instanceMethod yX4_countOnDepths, Cond.selects RX4 yX4_countOnDepths yX4_countOnDepths, Cond.code yX4_countOnDepths cX4_countOnDepths 3 none, Cond.methodLink RX4 75 yX0_depthOf]
def wsX4_harbours_r3 : List Cond := [Cond.instanceMethod yX0_depthOf, Cond.selects RX0 yX0_depthOf yX0_depthOf, Cond.code yX0_depthOf cX0_depthOf 2 (some .int), Cond.fieldLink RX0 9 "ReefPilot$Coast" "ground" "[I", Cond.fieldLink RX0 15 "ReefPilot$Coast" "coral" "[I", Cond.methodLink RX0 44 Lib.Math.max.name, Cond.methodLink RX4 111 yX4_openWater, Cond.instanceMethod yX4_openWater, Cond.selects RX4 yX4_openWater yX4_openWater, Cond.code yX4_openWater cX4_openWater 3 none, Cond.methodLink RX4 192 yX2_clear, Cond.instanceMethod yX2_clear, Cond.selects RX2 yX2_clear yX2_clear, Cond.initialized RX2, Cond.code yX2_clear cX2_clear 1 none, Cond.fieldLink RX2 15 "ReefPilot$Spread" "steps" "[I", Cond.fieldLink RX2 28 "ReefPilot$Spread" "reachedCells" "I", Cond.methodLink RX2 22 yJ7_fill_53178, Cond.static yJ7_fill_53178, Cond.initialized RJ7, Cond.code yJ7_fill_53178 cJ7_fill_53178 4 none, Cond.methodLink RX4 195 yX2_setOpen, Cond.instanceMethod yX2_setOpen, Cond.selects RX2 yX2_setOpen yX2_setOpen]
def wsX4_harbours_r4 : List Cond := [Cond.code yX2_setOpen cX2_setOpen 3 none, Cond.fieldLink RX2 9 "ReefPilot$Spread" "open" "[Z", Cond.methodLink RX4 115 yX2_goFromRow, Cond.instanceMethod yX2_goFromRow, Cond.selects RX2 yX2_goFromRow yX2_goFromRow, Cond.code yX2_goFromRow cX2_goFromRow 4 none, Cond.methodLink RX2 32 yX2_reach, Cond.instanceMethod yX2_reach, Cond.selects RX2 yX2_reach yX2_reach, Cond.code yX2_reach cX2_reach 3 none, Cond.fieldLink RX2 19 "ReefPilot$Spread" "reached" "[I", Cond.methodLink RX2 36 yX2_goOnFrom, Cond.instanceMethod yX2_goOnFrom, Cond.selects RX2 yX2_goOnFrom yX2_goOnFrom, Cond.code yX2_goOnFrom cX2_goOnFrom 6 none, Cond.static yX4_neighbour, Cond.code yX4_neighbour cX4_neighbour 3 (some .int), Cond.methodLink RX4 105 yX2_stepsTo, Cond.instanceMethod yX2_stepsTo, Cond.selects RX2 yX2_stepsTo yX2_stepsTo, Cond.code yX2_stepsTo cX2_stepsTo 2 (some .int)]
def wsX4_harbours : List Cond := .code yX4_harbours cX4_harbours 4 (some .int) :: ((wsX4_harbours_r1 ++ (wsX4_harbours_r2 ++ (wsX4_harbours_r3 ++ wsX4_harbours_r4))) ++ wsX40 ++ wsX10 ++ wsX00 ++ wsX20 ++ (vx_atS RX4 167 "java/lang/IllegalArgumentException" ["java/lang/RuntimeException", "java/lang/Exception"]).filter goodWord)
def wsX4_leadFrom_r1 : List Cond := [Cond.fieldLink RX4 36 "ReefPilot" "spread" "LReefPilot$Spread;", Cond.fieldLink RX4 19 "ReefPilot" "coast" "LReefPilot$Coast;", Cond.methodLink RX4 105 yX2_stepsTo, Cond.instanceMethod yX2_stepsTo, Cond.selects RX2 yX2_stepsTo yX2_stepsTo, Cond.initialized RX2, Cond.code yX2_stepsTo cX2_stepsTo 2 (some .int), Cond.fieldLink RX2 15 "ReefPilot$Spread" "steps" "[I", Cond.methodLink RX4 75 yX0_depthOf, Cond.instanceMethod yX0_depthOf, Cond.selects RX0 yX0_depthOf yX0_depthOf, Cond.initialized RX0, Cond.code yX0_depthOf cX0_depthOf 2 (some .int), Cond.fieldLink RX0 9 "ReefPilot$Coast" "ground" "[I", Cond.fieldLink RX0 15 "ReefPilot$Coast" "coral" "[I", Cond.methodLink RX0 44 Lib.Math.max.name, Cond.static Lib.Math.max.name, Cond.initialized "java/lang/Math", Cond.code Lib.Math.max.name Lib.Math.max.code 2 (some .int), Cond.methodLink RX4 202 yX2_nearerFrom, Cond.instanceMethod yX2_nearerFrom, Cond.selects RX2 yX2_nearerFrom yX2_nearerFrom, Cond.code yX2_nearerFrom cX2_nearerFrom 5 (some .int), Cond.static yX4_neighbour]
def wsX4_leadFrom_r2 : List Cond := [Cond.initialized RX4, Cond.code yX4_neighbour cX4_neighbour 3 (some .int)]
def wsX4_leadFrom : List Cond := .code yX4_leadFrom cX4_leadFrom 5 (some .int) :: ((wsX4_leadFrom_r1 ++ wsX4_leadFrom_r2) ++ wsX40 ++ wsX20 ++ wsX00)
def wsX4_pilot_r1 : List Cond := [Cond.methodLink RX4 48 yX4_needWithin, Cond.static yX4_needWithin, Cond.initialized RX4, Cond.code yX4_needWithin cX4_needWithin 3 none, Cond.classLink RX4 163 "java/lang/IllegalArgumentException", Cond.initialized "java/lang/IllegalArgumentException", Cond.methodLink RX4 98 yX4_countOn, Cond.instanceMethod yX4_countOn, Cond.selects RX4 yX4_countOn yX4_countOn, Cond.code yX4_countOn cX4_countOn 2 none, Cond.fieldLink RX4 19 "ReefPilot" "coast" "LReefPilot$Coast;", Cond.methodLink RX4 199 yX4_countOnChart, Cond.instanceMethod yX4_countOnChart, Cond.selects RX4 yX4_countOnChart yX4_countOnChart, Cond.code yX4_countOnChart cX4_countOnChart 2 none, Cond.fieldLink RX4 40 "ReefPilot" "water" "[I", Cond.methodLink RX4 142 yX4_safeDepth, Cond.instanceMethod yX4_safeDepth, Cond.selects RX4 yX4_safeDepth yX4_safeDepth, Cond.code yX4_safeDepth cX4_safeDepth 3 (some .int), Cond.fieldLink RX4 29 "ReefPilot" "soundings" "LReefPilot$Soundings;", Cond.methodLink RX4 145 Lib.Math.max.name, Cond.static Lib.Math.max.name, Cond.initialized "java/lang/Math"]
def wsX4_pilot_r2 : List Cond := [Cond.code Lib.Math.max.name Lib.Math.max.code 2 (some .int), Cond.methodLink RX4 85 yX1_noted, Cond.instanceMethod yX1_noted, Cond.selects RX1 yX1_noted yX1_noted, Cond.initialized RX1, Cond.code yX1_noted cX1_noted 2 (some .int), Cond.fieldLink RX1 9 "ReefPilot$Soundings" "depth" "[I", Cond.methodLink RX4 88 yX0_monthNow, Cond.instanceMethod yX0_monthNow, Cond.selects RX0 yX0_monthNow yX0_monthNow, Cond.initialized RX0, Cond.code yX0_monthNow cX0_monthNow 1 (some .int), Cond.fieldLink RX0 34 "ReefPilot$Coast" "month" "I", Cond.methodLink RX4 183 yX1_age, Cond.instanceMethod yX1_age, Cond.selects RX1 yX1_age yX1_age, Cond.code yX1_age cX1_age 3 (some .int), Cond.fieldLink RX1 15 "ReefPilot$Soundings" "takenIn" "[I", Cond.methodLink RX4 135 yX4_countOnDepths, Cond.instanceMethod yX4_countOnDepths, Cond.selects RX4 yX4_countOnDepths yX4_countOnDepths, Cond.code yX4_countOnDepths cX4_countOnDepths 3 none, Cond.methodLink RX4 75 yX0_depthOf, Cond.instanceMethod yX0_depthOf]
def wsX4_pilot_r3 : List Cond := [Cond.selects RX0 yX0_depthOf yX0_depthOf, Cond.code yX0_depthOf cX0_depthOf 2 (some .int), Cond.fieldLink RX0 9 "ReefPilot$Coast" "ground" "[I", Cond.fieldLink RX0 15 "ReefPilot$Coast" "coral" "[I", Cond.methodLink RX0 44 Lib.Math.max.name, Cond.methodLink RX4 102 yX4_startOfShortestWay, Cond.instanceMethod yX4_startOfShortestWay, Cond.selects RX4 yX4_startOfShortestWay yX4_startOfShortestWay, Cond.code yX4_startOfShortestWay cX4_startOfShortestWay 5 (some .int), Cond.fieldLink RX4 36 "ReefPilot" "spread" "LReefPilot$Spread;", Cond.methodLink RX4 111 yX4_openWater, Cond.instanceMethod yX4_openWater, Cond.selects RX4 yX4_openWater yX4_openWater, Cond.code yX4_openWater cX4_openWater 3 none, Cond.methodLink RX4 192 yX2_clear, Cond.instanceMethod yX2_clear, Cond.selects RX2 yX2_clear yX2_clear, Cond.initialized RX2, Cond.code yX2_clear cX2_clear 1 none, Cond.fieldLink RX2 15 "ReefPilot$Spread" "steps" "[I", Cond.fieldLink RX2 28 "ReefPilot$Spread" "reachedCells" "I", Cond.methodLink RX2 22 yJ7_fill_53178, Cond.static yJ7_fill_53178, Cond.initialized RJ7]
def wsX4_pilot_r4 : List Cond := [Cond.code yJ7_fill_53178 cJ7_fill_53178 4 none, Cond.methodLink RX4 195 yX2_setOpen, Cond.instanceMethod yX2_setOpen, Cond.selects RX2 yX2_setOpen yX2_setOpen, Cond.code yX2_setOpen cX2_setOpen 3 none, Cond.fieldLink RX2 9 "ReefPilot$Spread" "open" "[Z", Cond.methodLink RX4 115 yX2_goFromRow, Cond.instanceMethod yX2_goFromRow, Cond.selects RX2 yX2_goFromRow yX2_goFromRow, Cond.code yX2_goFromRow cX2_goFromRow 4 none, Cond.methodLink RX2 32 yX2_reach, Cond.instanceMethod yX2_reach, Cond.selects RX2 yX2_reach yX2_reach, Cond.code yX2_reach cX2_reach 3 none, Cond.fieldLink RX2 19 "ReefPilot$Spread" "reached" "[I", Cond.methodLink RX2 36 yX2_goOnFrom, Cond.instanceMethod yX2_goOnFrom, Cond.selects RX2 yX2_goOnFrom yX2_goOnFrom, Cond.code yX2_goOnFrom cX2_goOnFrom 6 none, Cond.static yX4_neighbour, Cond.code yX4_neighbour cX4_neighbour 3 (some .int), Cond.methodLink RX4 105 yX2_stepsTo, Cond.instanceMethod yX2_stepsTo, Cond.selects RX2 yX2_stepsTo yX2_stepsTo]
def wsX4_pilot_r5 : List Cond := [Cond.code yX2_stepsTo cX2_stepsTo 2 (some .int), Cond.methodLink RX4 118 yX4_leadFrom, Cond.instanceMethod yX4_leadFrom, Cond.selects RX4 yX4_leadFrom yX4_leadFrom, Cond.code yX4_leadFrom cX4_leadFrom 5 (some .int), Cond.methodLink RX4 202 yX2_nearerFrom, Cond.instanceMethod yX2_nearerFrom, Cond.selects RX2 yX2_nearerFrom yX2_nearerFrom, Cond.code yX2_nearerFrom cX2_nearerFrom 5 (some .int)]
def wsX4_pilot : List Cond := .code yX4_pilot cX4_pilot 3 (some .int) :: ((wsX4_pilot_r1 ++ (wsX4_pilot_r2 ++ (wsX4_pilot_r3 ++ (wsX4_pilot_r4 ++ wsX4_pilot_r5)))) ++ wsX40 ++ wsX10 ++ wsX00 ++ wsX20 ++ (vx_atS RX4 167 "java/lang/IllegalArgumentException" ["java/lang/RuntimeException", "java/lang/Exception"]).filter goodWord)
def wsX4_pass_r1 : List Cond := [Cond.fieldLink RX4 19 "ReefPilot" "coast" "LReefPilot$Coast;", Cond.fieldLink RX4 12 "ReefPilot" "table" "LReefPilot$Table;", Cond.methodLink RX4 48 yX4_needWithin, Cond.static yX4_needWithin, Cond.initialized RX4, Cond.code yX4_needWithin cX4_needWithin 3 none, Cond.classLink RX4 163 "java/lang/IllegalArgumentException", Cond.initialized "java/lang/IllegalArgumentException", Cond.methodLink RX4 121 yX0_heads, Cond.instanceMethod yX0_heads, Cond.selects RX0 yX0_heads yX0_heads, Cond.initialized RX0, Cond.code yX0_heads cX0_heads 3 (some .int), Cond.methodLink RX0 47 yX0_isHead, Cond.instanceMethod yX0_isHead, Cond.selects RX0 yX0_isHead yX0_isHead, Cond.code yX0_isHead cX0_isHead 2 (some .boolean), Cond.fieldLink RX0 15 "ReefPilot$Coast" "coral" "[I", Cond.methodLink RX4 124 yX0_letMonthGo, Cond.instanceMethod yX0_letMonthGo, Cond.selects RX0 yX0_letMonthGo yX0_letMonthGo, Cond.code yX0_letMonthGo cX0_letMonthGo 2 none, Cond.fieldLink RX0 34 "ReefPilot$Coast" "month" "I", Cond.methodLink RX0 51 yX3_warmthIn]
def wsX4_pass_r2 : List Cond := [Cond.instanceMethod yX3_warmthIn, Cond.selects RX3 yX3_warmthIn yX3_warmthIn, Cond.initialized RX3, Cond.code yX3_warmthIn cX3_warmthIn 2 (some .int), Cond.fieldLink RX3 9 "ReefPilot$Table" "warmth" "[I", Cond.methodLink RX3 24 yJ9_floorMod_7cf53, Cond.static yJ9_floorMod_7cf53, Cond.initialized RJ9, Cond.code yJ9_floorMod_7cf53 cJ9_floorMod_7cf53 3 (some .int), Cond.methodLink RX0 57 yX0_changeByWarmth, Cond.instanceMethod yX0_changeByWarmth, Cond.selects RX0 yX0_changeByWarmth yX0_changeByWarmth, Cond.code yX0_changeByWarmth cX0_changeByWarmth 2 none, Cond.methodLink RX0 70 yX0_dieBack, Cond.instanceMethod yX0_dieBack, Cond.selects RX0 yX0_dieBack yX0_dieBack, Cond.code yX0_dieBack cX0_dieBack 2 none, Cond.methodLink RX0 44 Lib.Math.max.name, Cond.static Lib.Math.max.name, Cond.initialized "java/lang/Math", Cond.code Lib.Math.max.name Lib.Math.max.code 2 (some .int), Cond.methodLink RX0 73 yX0_grow, Cond.instanceMethod yX0_grow, Cond.selects RX0 yX0_grow yX0_grow]
def wsX4_pass_r3 : List Cond := [Cond.code yX0_grow cX0_grow 4 none, Cond.fieldLink RX0 9 "ReefPilot$Coast" "ground" "[I", Cond.methodLink RX0 38 Lib.Math.min.name, Cond.static Lib.Math.min.name, Cond.code Lib.Math.min.name Lib.Math.min.code 2 (some .int), Cond.methodLink RX0 76 yX0_rememberHeads, Cond.instanceMethod yX0_rememberHeads, Cond.selects RX0 yX0_rememberHeads yX0_rememberHeads, Cond.code yX0_rememberHeads cX0_rememberHeads 2 none, Cond.fieldLink RX0 18 "ReefPilot$Coast" "headBefore" "[Z", Cond.methodLink RX0 79 yX0_depthOf, Cond.instanceMethod yX0_depthOf, Cond.selects RX0 yX0_depthOf yX0_depthOf, Cond.code yX0_depthOf cX0_depthOf 2 (some .int), Cond.methodLink RX0 82 yX0_headsBeside, Cond.instanceMethod yX0_headsBeside, Cond.selects RX0 yX0_headsBeside yX0_headsBeside, Cond.code yX0_headsBeside cX0_headsBeside 5 (some .int), Cond.static yX4_neighbour, Cond.code yX4_neighbour cX4_neighbour 3 (some .int), Cond.methodLink RX0 61 yX0_seed, Cond.instanceMethod yX0_seed, Cond.selects RX0 yX0_seed yX0_seed, Cond.code yX0_seed cX0_seed 3 none]
def wsX4_pass_r4 : List Cond := [Cond.methodLink RX0 64 yX3_stormIn, Cond.instanceMethod yX3_stormIn, Cond.selects RX3 yX3_stormIn yX3_stormIn, Cond.code yX3_stormIn cX3_stormIn 2 (some .int), Cond.fieldLink RX3 15 "ReefPilot$Table" "storm" "[I", Cond.methodLink RX0 67 yX0_breakByStorm, Cond.instanceMethod yX0_breakByStorm, Cond.selects RX0 yX0_breakByStorm yX0_breakByStorm, Cond.code yX0_breakByStorm cX0_breakByStorm 4 none, Cond.methodLink RX0 88 yX0_dropRubble, Cond.instanceMethod yX0_dropRubble, Cond.selects RX0 yX0_dropRubble yX0_dropRubble, Cond.code yX0_dropRubble cX0_dropRubble 3 none]
def wsX4_pass : List Cond := .code yX4_pass cX4_pass 4 (some .int) :: ((wsX4_pass_r1 ++ (wsX4_pass_r2 ++ (wsX4_pass_r3 ++ wsX4_pass_r4))) ++ wsX40 ++ wsX00 ++ wsX30 ++ (vx_atS RX4 167 "java/lang/IllegalArgumentException" ["java/lang/RuntimeException", "java/lang/Exception"]).filter goodWord)
def wsX4_reefsOn_r1 : List Cond := [Cond.fieldLink RX4 36 "ReefPilot" "spread" "LReefPilot$Spread;", Cond.methodLink RX4 186 yX4_openHeads, Cond.instanceMethod yX4_openHeads, Cond.selects RX4 yX4_openHeads yX4_openHeads, Cond.initialized RX4, Cond.code yX4_openHeads cX4_openHeads 3 none, Cond.methodLink RX4 192 yX2_clear, Cond.instanceMethod yX2_clear, Cond.selects RX2 yX2_clear yX2_clear, Cond.initialized RX2, Cond.code yX2_clear cX2_clear 1 none, Cond.fieldLink RX2 15 "ReefPilot$Spread" "steps" "[I", Cond.fieldLink RX2 28 "ReefPilot$Spread" "reachedCells" "I", Cond.methodLink RX2 22 yJ7_fill_53178, Cond.static yJ7_fill_53178, Cond.initialized RJ7, Cond.code yJ7_fill_53178 cJ7_fill_53178 4 none, Cond.methodLink RX4 78 yX0_isHead, Cond.instanceMethod yX0_isHead, Cond.selects RX0 yX0_isHead yX0_isHead, Cond.initialized RX0, Cond.code yX0_isHead cX0_isHead 2 (some .boolean), Cond.fieldLink RX0 15 "ReefPilot$Coast" "coral" "[I", Cond.methodLink RX4 195 yX2_setOpen]
def wsX4_reefsOn_r2 : List Cond := [Cond.instanceMethod yX2_setOpen, Cond.selects RX2 yX2_setOpen yX2_setOpen, Cond.code yX2_setOpen cX2_setOpen 3 none, Cond.fieldLink RX2 9 "ReefPilot$Spread" "open" "[Z", Cond.methodLink RX4 189 yX2_goFromCell, Cond.instanceMethod yX2_goFromCell, Cond.selects RX2 yX2_goFromCell yX2_goFromCell, Cond.code yX2_goFromCell cX2_goFromCell 3 (some .int), Cond.methodLink RX2 32 yX2_reach, Cond.instanceMethod yX2_reach, Cond.selects RX2 yX2_reach yX2_reach, Cond.code yX2_reach cX2_reach 3 none, Cond.fieldLink RX2 19 "ReefPilot$Spread" "reached" "[I", Cond.methodLink RX2 36 yX2_goOnFrom, Cond.instanceMethod yX2_goOnFrom, Cond.selects RX2 yX2_goOnFrom yX2_goOnFrom, Cond.code yX2_goOnFrom cX2_goOnFrom 6 none, Cond.static yX4_neighbour, Cond.code yX4_neighbour cX4_neighbour 3 (some .int)]
def wsX4_reefsOn : List Cond := .code yX4_reefsOn cX4_reefsOn 4 (some .int) :: ((wsX4_reefsOn_r1 ++ wsX4_reefsOn_r2) ++ wsX40 ++ wsX20 ++ wsX00)
def wsX4_headsOfLargestReef_r1 : List Cond := [Cond.fieldLink RX4 19 "ReefPilot" "coast" "LReefPilot$Coast;", Cond.fieldLink RX4 36 "ReefPilot" "spread" "LReefPilot$Spread;", Cond.methodLink RX4 145 Lib.Math.max.name, Cond.static Lib.Math.max.name, Cond.initialized "java/lang/Math", Cond.code Lib.Math.max.name Lib.Math.max.code 2 (some .int), Cond.methodLink RX4 186 yX4_openHeads, Cond.instanceMethod yX4_openHeads, Cond.selects RX4 yX4_openHeads yX4_openHeads, Cond.initialized RX4, Cond.code yX4_openHeads cX4_openHeads 3 none, Cond.methodLink RX4 192 yX2_clear, Cond.instanceMethod yX2_clear, Cond.selects RX2 yX2_clear yX2_clear, Cond.initialized RX2, Cond.code yX2_clear cX2_clear 1 none, Cond.fieldLink RX2 15 "ReefPilot$Spread" "steps" "[I", Cond.fieldLink RX2 28 "ReefPilot$Spread" "reachedCells" "I", Cond.methodLink RX2 22 yJ7_fill_53178, Cond.static yJ7_fill_53178, Cond.initialized RJ7, Cond.code yJ7_fill_53178 cJ7_fill_53178 4 none, Cond.methodLink RX4 78 yX0_isHead, Cond.instanceMethod yX0_isHead]
def wsX4_headsOfLargestReef_r2 : List Cond := [Cond.selects RX0 yX0_isHead yX0_isHead, Cond.initialized RX0, Cond.code yX0_isHead cX0_isHead 2 (some .boolean), Cond.fieldLink RX0 15 "ReefPilot$Coast" "coral" "[I", Cond.methodLink RX4 195 yX2_setOpen, Cond.instanceMethod yX2_setOpen, Cond.selects RX2 yX2_setOpen yX2_setOpen, Cond.code yX2_setOpen cX2_setOpen 3 none, Cond.fieldLink RX2 9 "ReefPilot$Spread" "open" "[Z", Cond.methodLink RX4 189 yX2_goFromCell, Cond.instanceMethod yX2_goFromCell, Cond.selects RX2 yX2_goFromCell yX2_goFromCell, Cond.code yX2_goFromCell cX2_goFromCell 3 (some .int), Cond.methodLink RX2 32 yX2_reach, Cond.instanceMethod yX2_reach, Cond.selects RX2 yX2_reach yX2_reach, Cond.code yX2_reach cX2_reach 3 none, Cond.fieldLink RX2 19 "ReefPilot$Spread" "reached" "[I", Cond.methodLink RX2 36 yX2_goOnFrom, Cond.instanceMethod yX2_goOnFrom, Cond.selects RX2 yX2_goOnFrom yX2_goOnFrom, Cond.code yX2_goOnFrom cX2_goOnFrom 6 none, Cond.static yX4_neighbour, Cond.code yX4_neighbour cX4_neighbour 3 (some .int)]
def wsX4_headsOfLargestReef : List Cond := .code yX4_headsOfLargestReef cX4_headsOfLargestReef 3 (some .int) :: ((wsX4_headsOfLargestReef_r1 ++ wsX4_headsOfLargestReef_r2) ++ wsX40 ++ wsX20 ++ wsX00)
def wsX4_soundingsTaken : List Cond := .code yX4_soundingsTaken cX4_soundingsTaken 3 (some .int) :: ([.fieldLink RX4 29 "ReefPilot" "soundings" "LReefPilot$Soundings;", .methodLink RX4 85 yX1_noted, .instanceMethod yX1_noted, .selects RX1 yX1_noted yX1_noted, .initialized RX1, .code yX1_noted cX1_noted 2 (some .int), .fieldLink RX1 9 "ReefPilot$Soundings" "depth" "[I"] ++ wsX40 ++ wsX10)
def wsX4_soundingsTooDeep : List Cond := .code yX4_soundingsTooDeep cX4_soundingsTooDeep 3 (some .int) :: ([.fieldLink RX4 29 "ReefPilot" "soundings" "LReefPilot$Soundings;", .fieldLink RX4 19 "ReefPilot" "coast" "LReefPilot$Coast;", .methodLink RX4 85 yX1_noted, .instanceMethod yX1_noted, .selects RX1 yX1_noted yX1_noted, .initialized RX1, .code yX1_noted cX1_noted 2 (some .int), .fieldLink RX1 9 "ReefPilot$Soundings" "depth" "[I", .methodLink RX4 75 yX0_depthOf, .instanceMethod yX0_depthOf, .selects RX0 yX0_depthOf yX0_depthOf, .initialized RX0, .code yX0_depthOf cX0_depthOf 2 (some .int), .fieldLink RX0 9 "ReefPilot$Coast" "ground" "[I", .fieldLink RX0 15 "ReefPilot$Coast" "coral" "[I", .methodLink RX0 44 Lib.Math.max.name, .static Lib.Math.max.name, .initialized "java/lang/Math", .code Lib.Math.max.name Lib.Math.max.code 2 (some .int)] ++ wsX40 ++ wsX10 ++ wsX00)
def wsX4_cellsWithoutDepth : List Cond := .code yX4_cellsWithoutDepth cX4_cellsWithoutDepth 3 (some .int) :: ([.fieldLink RX4 19 "ReefPilot" "coast" "LReefPilot$Coast;", .methodLink RX4 75 yX0_depthOf, .instanceMethod yX0_depthOf, .selects RX0 yX0_depthOf yX0_depthOf, .initialized RX0, .code yX0_depthOf cX0_depthOf 2 (some .int), .fieldLink RX0 9 "ReefPilot$Coast" "ground" "[I", .fieldLink RX0 15 "ReefPilot$Coast" "coral" "[I", .methodLink RX0 44 Lib.Math.max.name, .static Lib.Math.max.name, .initialized "java/lang/Math", .code Lib.Math.max.name Lib.Math.max.code 2 (some .int)] ++ wsX40 ++ wsX00)
def wsX4_countAnswer_r1 : List Cond := [Cond.fieldLink RX4 19 "ReefPilot" "coast" "LReefPilot$Coast;", Cond.methodLink RX4 88 yX0_monthNow, Cond.instanceMethod yX0_monthNow, Cond.selects RX0 yX0_monthNow yX0_monthNow, Cond.initialized RX0, Cond.code yX0_monthNow cX0_monthNow 1 (some .int), Cond.fieldLink RX0 34 "ReefPilot$Coast" "month" "I", Cond.methodLink RX4 121 yX0_heads, Cond.instanceMethod yX0_heads, Cond.selects RX0 yX0_heads yX0_heads, Cond.code yX0_heads cX0_heads 3 (some .int), Cond.methodLink RX0 47 yX0_isHead, Cond.instanceMethod yX0_isHead, Cond.selects RX0 yX0_isHead yX0_isHead, Cond.code yX0_isHead cX0_isHead 2 (some .boolean), Cond.fieldLink RX0 15 "ReefPilot$Coast" "coral" "[I", Cond.methodLink RX4 138 yX4_reefsOn, Cond.instanceMethod yX4_reefsOn, Cond.selects RX4 yX4_reefsOn yX4_reefsOn, Cond.initialized RX4, Cond.code yX4_reefsOn cX4_reefsOn 4 (some .int), Cond.fieldLink RX4 36 "ReefPilot" "spread" "LReefPilot$Spread;", Cond.methodLink RX4 186 yX4_openHeads, Cond.instanceMethod yX4_openHeads]
def wsX4_countAnswer_r2 : List Cond := [Cond.selects RX4 yX4_openHeads yX4_openHeads, Cond.code yX4_openHeads cX4_openHeads 3 none, Cond.methodLink RX4 192 yX2_clear, Cond.instanceMethod yX2_clear, Cond.selects RX2 yX2_clear yX2_clear, Cond.initialized RX2, Cond.code yX2_clear cX2_clear 1 none, Cond.fieldLink RX2 15 "ReefPilot$Spread" "steps" "[I", Cond.fieldLink RX2 28 "ReefPilot$Spread" "reachedCells" "I", Cond.methodLink RX2 22 yJ7_fill_53178, Cond.static yJ7_fill_53178, Cond.initialized RJ7, Cond.code yJ7_fill_53178 cJ7_fill_53178 4 none, Cond.methodLink RX4 78 yX0_isHead, Cond.methodLink RX4 195 yX2_setOpen, Cond.instanceMethod yX2_setOpen, Cond.selects RX2 yX2_setOpen yX2_setOpen, Cond.code yX2_setOpen cX2_setOpen 3 none, Cond.fieldLink RX2 9 "ReefPilot$Spread" "open" "[Z", Cond.methodLink RX4 189 yX2_goFromCell, Cond.instanceMethod yX2_goFromCell, Cond.selects RX2 yX2_goFromCell yX2_goFromCell, Cond.code yX2_goFromCell cX2_goFromCell 3 (some .int), Cond.methodLink RX2 32 yX2_reach]
def wsX4_countAnswer_r3 : List Cond := [Cond.instanceMethod yX2_reach, Cond.selects RX2 yX2_reach yX2_reach, Cond.code yX2_reach cX2_reach 3 none, Cond.fieldLink RX2 19 "ReefPilot$Spread" "reached" "[I", Cond.methodLink RX2 36 yX2_goOnFrom, Cond.instanceMethod yX2_goOnFrom, Cond.selects RX2 yX2_goOnFrom yX2_goOnFrom, Cond.code yX2_goOnFrom cX2_goOnFrom 6 none, Cond.static yX4_neighbour, Cond.code yX4_neighbour cX4_neighbour 3 (some .int), Cond.methodLink RX4 168 yX4_headsOfLargestReef, Cond.instanceMethod yX4_headsOfLargestReef, Cond.selects RX4 yX4_headsOfLargestReef yX4_headsOfLargestReef, Cond.code yX4_headsOfLargestReef cX4_headsOfLargestReef 3 (some .int), Cond.methodLink RX4 145 Lib.Math.max.name, Cond.static Lib.Math.max.name, Cond.initialized "java/lang/Math", Cond.code Lib.Math.max.name Lib.Math.max.code 2 (some .int), Cond.methodLink RX4 171 yX0_allCoral, Cond.instanceMethod yX0_allCoral, Cond.selects RX0 yX0_allCoral yX0_allCoral, Cond.code yX0_allCoral cX0_allCoral 3 (some .int), Cond.methodLink RX4 174 yX4_soundingsTaken, Cond.instanceMethod yX4_soundingsTaken]
def wsX4_countAnswer_r4 : List Cond := [Cond.selects RX4 yX4_soundingsTaken yX4_soundingsTaken, Cond.code yX4_soundingsTaken cX4_soundingsTaken 3 (some .int), Cond.fieldLink RX4 29 "ReefPilot" "soundings" "LReefPilot$Soundings;", Cond.methodLink RX4 85 yX1_noted, Cond.instanceMethod yX1_noted, Cond.selects RX1 yX1_noted yX1_noted, Cond.initialized RX1, Cond.code yX1_noted cX1_noted 2 (some .int), Cond.fieldLink RX1 9 "ReefPilot$Soundings" "depth" "[I", Cond.methodLink RX4 177 yX4_soundingsTooDeep, Cond.instanceMethod yX4_soundingsTooDeep, Cond.selects RX4 yX4_soundingsTooDeep yX4_soundingsTooDeep, Cond.code yX4_soundingsTooDeep cX4_soundingsTooDeep 3 (some .int), Cond.methodLink RX4 75 yX0_depthOf, Cond.instanceMethod yX0_depthOf, Cond.selects RX0 yX0_depthOf yX0_depthOf, Cond.code yX0_depthOf cX0_depthOf 2 (some .int), Cond.fieldLink RX0 9 "ReefPilot$Coast" "ground" "[I", Cond.methodLink RX0 44 Lib.Math.max.name, Cond.methodLink RX4 180 yX4_cellsWithoutDepth, Cond.instanceMethod yX4_cellsWithoutDepth, Cond.selects RX4 yX4_cellsWithoutDepth yX4_cellsWithoutDepth, Cond.code yX4_cellsWithoutDepth cX4_cellsWithoutDepth 3 (some .int)]
def wsX4_countAnswer : List Cond := .code yX4_countAnswer cX4_countAnswer 2 (some .int) :: ((wsX4_countAnswer_r1 ++ (wsX4_countAnswer_r2 ++ (wsX4_countAnswer_r3 ++ wsX4_countAnswer_r4))) ++ wsX40 ++ wsX00 ++ wsX20 ++ wsX10)
def wsX4_count_r1 : List Cond := [Cond.methodLink RX4 63 yX4_needIndex, Cond.static yX4_needIndex, Cond.initialized RX4, Cond.code yX4_needIndex cX4_needIndex 2 none, Cond.classLink RX4 156 "java/lang/IndexOutOfBoundsException", Cond.initialized "java/lang/IndexOutOfBoundsException", Cond.methodLink RX4 128 yX4_countAnswer, Cond.instanceMethod yX4_countAnswer, Cond.selects RX4 yX4_countAnswer yX4_countAnswer, Cond.code yX4_countAnswer cX4_countAnswer 2 (some .int), Cond.fieldLink RX4 19 "ReefPilot" "coast" "LReefPilot$Coast;", Cond.methodLink RX4 88 yX0_monthNow, Cond.instanceMethod yX0_monthNow, Cond.selects RX0 yX0_monthNow yX0_monthNow, Cond.initialized RX0, Cond.code yX0_monthNow cX0_monthNow 1 (some .int), Cond.fieldLink RX0 34 "ReefPilot$Coast" "month" "I", Cond.methodLink RX4 121 yX0_heads, Cond.instanceMethod yX0_heads, Cond.selects RX0 yX0_heads yX0_heads, Cond.code yX0_heads cX0_heads 3 (some .int), Cond.methodLink RX0 47 yX0_isHead, Cond.instanceMethod yX0_isHead, Cond.selects RX0 yX0_isHead yX0_isHead]
def wsX4_count_r2 : List Cond := [Cond.code yX0_isHead cX0_isHead 2 (some .boolean), Cond.fieldLink RX0 15 "ReefPilot$Coast" "coral" "[I", Cond.methodLink RX4 138 yX4_reefsOn, Cond.instanceMethod yX4_reefsOn, Cond.selects RX4 yX4_reefsOn yX4_reefsOn, Cond.code yX4_reefsOn cX4_reefsOn 4 (some .int), Cond.fieldLink RX4 36 "ReefPilot" "spread" "LReefPilot$Spread;", Cond.methodLink RX4 186 yX4_openHeads, Cond.instanceMethod yX4_openHeads, Cond.selects RX4 yX4_openHeads yX4_openHeads, Cond.code yX4_openHeads cX4_openHeads 3 none, Cond.methodLink RX4 192 yX2_clear, Cond.instanceMethod yX2_clear, Cond.selects RX2 yX2_clear yX2_clear, Cond.initialized RX2, Cond.code yX2_clear cX2_clear 1 none, Cond.fieldLink RX2 15 "ReefPilot$Spread" "steps" "[I", Cond.fieldLink RX2 28 "ReefPilot$Spread" "reachedCells" "I", Cond.methodLink RX2 22 yJ7_fill_53178, Cond.static yJ7_fill_53178, Cond.initialized RJ7, Cond.code yJ7_fill_53178 cJ7_fill_53178 4 none, Cond.methodLink RX4 78 yX0_isHead, Cond.methodLink RX4 195 yX2_setOpen]
def wsX4_count_r3 : List Cond := [Cond.instanceMethod yX2_setOpen, Cond.selects RX2 yX2_setOpen yX2_setOpen, Cond.code yX2_setOpen cX2_setOpen 3 none, Cond.fieldLink RX2 9 "ReefPilot$Spread" "open" "[Z", Cond.methodLink RX4 189 yX2_goFromCell, Cond.instanceMethod yX2_goFromCell, Cond.selects RX2 yX2_goFromCell yX2_goFromCell, Cond.code yX2_goFromCell cX2_goFromCell 3 (some .int), Cond.methodLink RX2 32 yX2_reach, Cond.instanceMethod yX2_reach, Cond.selects RX2 yX2_reach yX2_reach, Cond.code yX2_reach cX2_reach 3 none, Cond.fieldLink RX2 19 "ReefPilot$Spread" "reached" "[I", Cond.methodLink RX2 36 yX2_goOnFrom, Cond.instanceMethod yX2_goOnFrom, Cond.selects RX2 yX2_goOnFrom yX2_goOnFrom, Cond.code yX2_goOnFrom cX2_goOnFrom 6 none, Cond.static yX4_neighbour, Cond.code yX4_neighbour cX4_neighbour 3 (some .int), Cond.methodLink RX4 168 yX4_headsOfLargestReef, Cond.instanceMethod yX4_headsOfLargestReef, Cond.selects RX4 yX4_headsOfLargestReef yX4_headsOfLargestReef, Cond.code yX4_headsOfLargestReef cX4_headsOfLargestReef 3 (some .int), Cond.methodLink RX4 145 Lib.Math.max.name]
def wsX4_count_r4 : List Cond := [Cond.static Lib.Math.max.name, Cond.initialized "java/lang/Math", Cond.code Lib.Math.max.name Lib.Math.max.code 2 (some .int), Cond.methodLink RX4 171 yX0_allCoral, Cond.instanceMethod yX0_allCoral, Cond.selects RX0 yX0_allCoral yX0_allCoral, Cond.code yX0_allCoral cX0_allCoral 3 (some .int), Cond.methodLink RX4 174 yX4_soundingsTaken, Cond.instanceMethod yX4_soundingsTaken, Cond.selects RX4 yX4_soundingsTaken yX4_soundingsTaken, Cond.code yX4_soundingsTaken cX4_soundingsTaken 3 (some .int), Cond.fieldLink RX4 29 "ReefPilot" "soundings" "LReefPilot$Soundings;", Cond.methodLink RX4 85 yX1_noted, Cond.instanceMethod yX1_noted, Cond.selects RX1 yX1_noted yX1_noted, Cond.initialized RX1, Cond.code yX1_noted cX1_noted 2 (some .int), Cond.fieldLink RX1 9 "ReefPilot$Soundings" "depth" "[I", Cond.methodLink RX4 177 yX4_soundingsTooDeep, Cond.instanceMethod yX4_soundingsTooDeep, Cond.selects RX4 yX4_soundingsTooDeep yX4_soundingsTooDeep, Cond.code yX4_soundingsTooDeep cX4_soundingsTooDeep 3 (some .int), Cond.methodLink RX4 75 yX0_depthOf, Cond.instanceMethod yX0_depthOf]
def wsX4_count_r5 : List Cond := [Cond.selects RX0 yX0_depthOf yX0_depthOf, Cond.code yX0_depthOf cX0_depthOf 2 (some .int), Cond.fieldLink RX0 9 "ReefPilot$Coast" "ground" "[I", Cond.methodLink RX0 44 Lib.Math.max.name, Cond.methodLink RX4 180 yX4_cellsWithoutDepth, Cond.instanceMethod yX4_cellsWithoutDepth, Cond.selects RX4 yX4_cellsWithoutDepth yX4_cellsWithoutDepth, Cond.code yX4_cellsWithoutDepth cX4_cellsWithoutDepth 3 (some .int)]
def wsX4_count : List Cond := .code yX4_count cX4_count 2 (some .int) :: ((wsX4_count_r1 ++ (wsX4_count_r2 ++ (wsX4_count_r3 ++ (wsX4_count_r4 ++ wsX4_count_r5)))) ++ wsX40 ++ wsX00 ++ wsX20 ++ wsX10 ++ (vx_atS RX4 160 "java/lang/IndexOutOfBoundsException" ["java/lang/RuntimeException", "java/lang/Exception"]).filter goodWord)
def wsX4_closes_r1 : List Cond := [Cond.fieldLink RX4 23 "ReefPilot" "ahead" "LReefPilot$Coast;", Cond.fieldLink RX4 19 "ReefPilot" "coast" "LReefPilot$Coast;", Cond.fieldLink RX4 12 "ReefPilot" "table" "LReefPilot$Table;", Cond.methodLink RX4 48 yX4_needWithin, Cond.static yX4_needWithin, Cond.initialized RX4, Cond.code yX4_needWithin cX4_needWithin 3 none, Cond.classLink RX4 163 "java/lang/IllegalArgumentException", Cond.initialized "java/lang/IllegalArgumentException", Cond.methodLink RX4 131 yX0_becomeLike, Cond.instanceMethod yX0_becomeLike, Cond.selects RX0 yX0_becomeLike yX0_becomeLike, Cond.initialized RX0, Cond.code yX0_becomeLike cX0_becomeLike 2 none, Cond.fieldLink RX0 9 "ReefPilot$Coast" "ground" "[I", Cond.methodLink RX0 28 arraycopyName, Cond.native arraycopyName, Cond.static arraycopyName, Cond.initialized "java/lang/System", Cond.fieldLink RX0 15 "ReefPilot$Coast" "coral" "[I", Cond.fieldLink RX0 34 "ReefPilot$Coast" "month" "I", Cond.methodLink RX4 135 yX4_countOnDepths, Cond.instanceMethod yX4_countOnDepths, Cond.selects RX4 yX4_countOnDepths yX4_countOnDepths]
def wsX4_closes_r2 : List Cond := [Cond.code yX4_countOnDepths cX4_countOnDepths 3 none, Cond.fieldLink RX4 40 "ReefPilot" "water" "[I", Cond.methodLink RX4 75 yX0_depthOf, Cond.instanceMethod yX0_depthOf, Cond.selects RX0 yX0_depthOf yX0_depthOf, Cond.code yX0_depthOf cX0_depthOf 2 (some .int), Cond.methodLink RX0 44 Lib.Math.max.name, Cond.static Lib.Math.max.name, Cond.initialized "java/lang/Math", Cond.code Lib.Math.max.name Lib.Math.max.code 2 (some .int), Cond.methodLink RX4 102 yX4_startOfShortestWay, Cond.instanceMethod yX4_startOfShortestWay, Cond.selects RX4 yX4_startOfShortestWay yX4_startOfShortestWay, Cond.code yX4_startOfShortestWay cX4_startOfShortestWay 5 (some .int), Cond.fieldLink RX4 36 "ReefPilot" "spread" "LReefPilot$Spread;", Cond.methodLink RX4 111 yX4_openWater, Cond.instanceMethod yX4_openWater, Cond.selects RX4 yX4_openWater yX4_openWater, Cond.code yX4_openWater cX4_openWater 3 none, Cond.methodLink RX4 192 yX2_clear, Cond.instanceMethod yX2_clear, Cond.selects RX2 yX2_clear yX2_clear, Cond.initialized RX2, Cond.code yX2_clear cX2_clear 1 none]
def wsX4_closes_r3 : List Cond := [Cond.fieldLink RX2 15 "ReefPilot$Spread" "steps" "[I", Cond.fieldLink RX2 28 "ReefPilot$Spread" "reachedCells" "I", Cond.methodLink RX2 22 yJ7_fill_53178, Cond.static yJ7_fill_53178, Cond.initialized RJ7, Cond.code yJ7_fill_53178 cJ7_fill_53178 4 none, Cond.methodLink RX4 195 yX2_setOpen, Cond.instanceMethod yX2_setOpen, Cond.selects RX2 yX2_setOpen yX2_setOpen, Cond.code yX2_setOpen cX2_setOpen 3 none, Cond.fieldLink RX2 9 "ReefPilot$Spread" "open" "[Z", Cond.methodLink RX4 115 yX2_goFromRow, Cond.instanceMethod yX2_goFromRow, Cond.selects RX2 yX2_goFromRow yX2_goFromRow, Cond.code yX2_goFromRow cX2_goFromRow 4 none, Cond.methodLink RX2 32 yX2_reach, Cond.instanceMethod yX2_reach, Cond.selects RX2 yX2_reach yX2_reach, Cond.code yX2_reach cX2_reach 3 none, Cond.fieldLink RX2 19 "ReefPilot$Spread" "reached" "[I", Cond.methodLink RX2 36 yX2_goOnFrom, Cond.instanceMethod yX2_goOnFrom, Cond.selects RX2 yX2_goOnFrom yX2_goOnFrom, Cond.code yX2_goOnFrom cX2_goOnFrom 6 none]
def wsX4_closes_r4 : List Cond := [Cond.static yX4_neighbour, Cond.code yX4_neighbour cX4_neighbour 3 (some .int), Cond.methodLink RX4 105 yX2_stepsTo, Cond.instanceMethod yX2_stepsTo, Cond.selects RX2 yX2_stepsTo yX2_stepsTo, Cond.code yX2_stepsTo cX2_stepsTo 2 (some .int), Cond.methodLink RX4 124 yX0_letMonthGo, Cond.instanceMethod yX0_letMonthGo, Cond.selects RX0 yX0_letMonthGo yX0_letMonthGo, Cond.code yX0_letMonthGo cX0_letMonthGo 2 none, Cond.methodLink RX0 51 yX3_warmthIn, Cond.instanceMethod yX3_warmthIn, Cond.selects RX3 yX3_warmthIn yX3_warmthIn, Cond.initialized RX3, Cond.code yX3_warmthIn cX3_warmthIn 2 (some .int), Cond.fieldLink RX3 9 "ReefPilot$Table" "warmth" "[I", Cond.methodLink RX3 24 yJ9_floorMod_7cf53, Cond.static yJ9_floorMod_7cf53, Cond.initialized RJ9, Cond.code yJ9_floorMod_7cf53 cJ9_floorMod_7cf53 3 (some .int), Cond.methodLink RX0 57 yX0_changeByWarmth, Cond.instanceMethod yX0_changeByWarmth, Cond.selects RX0 yX0_changeByWarmth yX0_changeByWarmth, Cond.code yX0_changeByWarmth cX0_changeByWarmth 2 none]
def wsX4_closes_r5 : List Cond := [Cond.methodLink RX0 70 yX0_dieBack, Cond.instanceMethod yX0_dieBack, Cond.selects RX0 yX0_dieBack yX0_dieBack, Cond.code yX0_dieBack cX0_dieBack 2 none, Cond.methodLink RX0 73 yX0_grow, Cond.instanceMethod yX0_grow, Cond.selects RX0 yX0_grow yX0_grow, Cond.code yX0_grow cX0_grow 4 none, Cond.methodLink RX0 38 Lib.Math.min.name, Cond.static Lib.Math.min.name, Cond.code Lib.Math.min.name Lib.Math.min.code 2 (some .int), Cond.methodLink RX0 76 yX0_rememberHeads, Cond.instanceMethod yX0_rememberHeads, Cond.selects RX0 yX0_rememberHeads yX0_rememberHeads, Cond.code yX0_rememberHeads cX0_rememberHeads 2 none, Cond.fieldLink RX0 18 "ReefPilot$Coast" "headBefore" "[Z", Cond.methodLink RX0 47 yX0_isHead, Cond.instanceMethod yX0_isHead, Cond.selects RX0 yX0_isHead yX0_isHead, Cond.code yX0_isHead cX0_isHead 2 (some .boolean), Cond.methodLink RX0 79 yX0_depthOf, Cond.methodLink RX0 82 yX0_headsBeside, Cond.instanceMethod yX0_headsBeside, Cond.selects RX0 yX0_headsBeside yX0_headsBeside]
def wsX4_closes_r6 : List Cond := [Cond.code yX0_headsBeside cX0_headsBeside 5 (some .int), Cond.methodLink RX0 61 yX0_seed, Cond.instanceMethod yX0_seed, Cond.selects RX0 yX0_seed yX0_seed, Cond.code yX0_seed cX0_seed 3 none, Cond.methodLink RX0 64 yX3_stormIn, Cond.instanceMethod yX3_stormIn, Cond.selects RX3 yX3_stormIn yX3_stormIn, Cond.code yX3_stormIn cX3_stormIn 2 (some .int), Cond.fieldLink RX3 15 "ReefPilot$Table" "storm" "[I", Cond.methodLink RX0 67 yX0_breakByStorm, Cond.instanceMethod yX0_breakByStorm, Cond.selects RX0 yX0_breakByStorm yX0_breakByStorm, Cond.code yX0_breakByStorm cX0_breakByStorm 4 none, Cond.methodLink RX0 88 yX0_dropRubble, Cond.instanceMethod yX0_dropRubble, Cond.selects RX0 yX0_dropRubble yX0_dropRubble, Cond.code yX0_dropRubble cX0_dropRubble 3 none]
def wsX4_closes : List Cond := .code yX4_closes cX4_closes 3 (some .int) :: ((wsX4_closes_r1 ++ (wsX4_closes_r2 ++ (wsX4_closes_r3 ++ (wsX4_closes_r4 ++ (wsX4_closes_r5 ++ wsX4_closes_r6))))) ++ wsX40 ++ wsX00 ++ wsX20 ++ wsX30 ++ (vx_atS RX4 167 "java/lang/IllegalArgumentException" ["java/lang/RuntimeException", "java/lang/Exception"]).filter goodWord)
def wsX4_foresee_r1 : List Cond := [Cond.fieldLink RX4 23 "ReefPilot" "ahead" "LReefPilot$Coast;", Cond.fieldLink RX4 19 "ReefPilot" "coast" "LReefPilot$Coast;", Cond.fieldLink RX4 12 "ReefPilot" "table" "LReefPilot$Table;", Cond.methodLink RX4 48 yX4_needWithin, Cond.static yX4_needWithin, Cond.initialized RX4, Cond.code yX4_needWithin cX4_needWithin 3 none, Cond.classLink RX4 163 "java/lang/IllegalArgumentException", Cond.initialized "java/lang/IllegalArgumentException", Cond.methodLink RX4 63 yX4_needIndex, Cond.static yX4_needIndex, Cond.code yX4_needIndex cX4_needIndex 2 none, Cond.classLink RX4 156 "java/lang/IndexOutOfBoundsException", Cond.initialized "java/lang/IndexOutOfBoundsException", Cond.methodLink RX4 131 yX0_becomeLike, Cond.instanceMethod yX0_becomeLike, Cond.selects RX0 yX0_becomeLike yX0_becomeLike, Cond.initialized RX0, Cond.code yX0_becomeLike cX0_becomeLike 2 none, Cond.fieldLink RX0 9 "ReefPilot$Coast" "ground" "[I", Cond.methodLink RX0 28 arraycopyName, Cond.native arraycopyName, Cond.static arraycopyName, Cond.initialized "java/lang/System"]
def wsX4_foresee_r2 : List Cond := [Cond.fieldLink RX0 15 "ReefPilot$Coast" "coral" "[I", Cond.fieldLink RX0 34 "ReefPilot$Coast" "month" "I", Cond.methodLink RX4 124 yX0_letMonthGo, Cond.instanceMethod yX0_letMonthGo, Cond.selects RX0 yX0_letMonthGo yX0_letMonthGo, Cond.code yX0_letMonthGo cX0_letMonthGo 2 none, Cond.methodLink RX0 51 yX3_warmthIn, Cond.instanceMethod yX3_warmthIn, Cond.selects RX3 yX3_warmthIn yX3_warmthIn, Cond.initialized RX3, Cond.code yX3_warmthIn cX3_warmthIn 2 (some .int), Cond.fieldLink RX3 9 "ReefPilot$Table" "warmth" "[I", Cond.methodLink RX3 24 yJ9_floorMod_7cf53, Cond.static yJ9_floorMod_7cf53, Cond.initialized RJ9, Cond.code yJ9_floorMod_7cf53 cJ9_floorMod_7cf53 3 (some .int), Cond.methodLink RX0 57 yX0_changeByWarmth, Cond.instanceMethod yX0_changeByWarmth, Cond.selects RX0 yX0_changeByWarmth yX0_changeByWarmth, Cond.code yX0_changeByWarmth cX0_changeByWarmth 2 none, Cond.methodLink RX0 70 yX0_dieBack, Cond.instanceMethod yX0_dieBack, Cond.selects RX0 yX0_dieBack yX0_dieBack, Cond.code yX0_dieBack cX0_dieBack 2 none]
def wsX4_foresee_r3 : List Cond := [Cond.methodLink RX0 44 Lib.Math.max.name, Cond.static Lib.Math.max.name, Cond.initialized "java/lang/Math", Cond.code Lib.Math.max.name Lib.Math.max.code 2 (some .int), Cond.methodLink RX0 73 yX0_grow, Cond.instanceMethod yX0_grow, Cond.selects RX0 yX0_grow yX0_grow, Cond.code yX0_grow cX0_grow 4 none, Cond.methodLink RX0 38 Lib.Math.min.name, Cond.static Lib.Math.min.name, Cond.code Lib.Math.min.name Lib.Math.min.code 2 (some .int), Cond.methodLink RX0 76 yX0_rememberHeads, Cond.instanceMethod yX0_rememberHeads, Cond.selects RX0 yX0_rememberHeads yX0_rememberHeads, Cond.code yX0_rememberHeads cX0_rememberHeads 2 none, Cond.fieldLink RX0 18 "ReefPilot$Coast" "headBefore" "[Z", Cond.methodLink RX0 47 yX0_isHead, Cond.instanceMethod yX0_isHead, Cond.selects RX0 yX0_isHead yX0_isHead, Cond.code yX0_isHead cX0_isHead 2 (some .boolean), Cond.methodLink RX0 79 yX0_depthOf, Cond.instanceMethod yX0_depthOf, Cond.selects RX0 yX0_depthOf yX0_depthOf, Cond.code yX0_depthOf cX0_depthOf 2 (some .int)]
def wsX4_foresee_r4 : List Cond := [Cond.methodLink RX0 82 yX0_headsBeside, Cond.instanceMethod yX0_headsBeside, Cond.selects RX0 yX0_headsBeside yX0_headsBeside, Cond.code yX0_headsBeside cX0_headsBeside 5 (some .int), Cond.static yX4_neighbour, Cond.code yX4_neighbour cX4_neighbour 3 (some .int), Cond.methodLink RX0 61 yX0_seed, Cond.instanceMethod yX0_seed, Cond.selects RX0 yX0_seed yX0_seed, Cond.code yX0_seed cX0_seed 3 none, Cond.methodLink RX0 64 yX3_stormIn, Cond.instanceMethod yX3_stormIn, Cond.selects RX3 yX3_stormIn yX3_stormIn, Cond.code yX3_stormIn cX3_stormIn 2 (some .int), Cond.fieldLink RX3 15 "ReefPilot$Table" "storm" "[I", Cond.methodLink RX0 67 yX0_breakByStorm, Cond.instanceMethod yX0_breakByStorm, Cond.selects RX0 yX0_breakByStorm yX0_breakByStorm, Cond.code yX0_breakByStorm cX0_breakByStorm 4 none, Cond.methodLink RX0 88 yX0_dropRubble, Cond.instanceMethod yX0_dropRubble, Cond.selects RX0 yX0_dropRubble yX0_dropRubble, Cond.code yX0_dropRubble cX0_dropRubble 3 none, Cond.methodLink RX4 121 yX0_heads]
def wsX4_foresee_r5 : List Cond := [Cond.instanceMethod yX0_heads, Cond.selects RX0 yX0_heads yX0_heads, Cond.code yX0_heads cX0_heads 3 (some .int), Cond.methodLink RX4 138 yX4_reefsOn, Cond.instanceMethod yX4_reefsOn, Cond.selects RX4 yX4_reefsOn yX4_reefsOn, Cond.code yX4_reefsOn cX4_reefsOn 4 (some .int), Cond.fieldLink RX4 36 "ReefPilot" "spread" "LReefPilot$Spread;", Cond.methodLink RX4 186 yX4_openHeads, Cond.instanceMethod yX4_openHeads, Cond.selects RX4 yX4_openHeads yX4_openHeads, Cond.code yX4_openHeads cX4_openHeads 3 none, Cond.methodLink RX4 192 yX2_clear, Cond.instanceMethod yX2_clear, Cond.selects RX2 yX2_clear yX2_clear, Cond.initialized RX2, Cond.code yX2_clear cX2_clear 1 none, Cond.fieldLink RX2 15 "ReefPilot$Spread" "steps" "[I", Cond.fieldLink RX2 28 "ReefPilot$Spread" "reachedCells" "I", Cond.methodLink RX2 22 yJ7_fill_53178, Cond.static yJ7_fill_53178, Cond.initialized RJ7, Cond.code yJ7_fill_53178 cJ7_fill_53178 4 none, Cond.methodLink RX4 78 yX0_isHead]
def wsX4_foresee_r6 : List Cond := [Cond.methodLink RX4 195 yX2_setOpen, Cond.instanceMethod yX2_setOpen, Cond.selects RX2 yX2_setOpen yX2_setOpen, Cond.code yX2_setOpen cX2_setOpen 3 none, Cond.fieldLink RX2 9 "ReefPilot$Spread" "open" "[Z", Cond.methodLink RX4 189 yX2_goFromCell, Cond.instanceMethod yX2_goFromCell, Cond.selects RX2 yX2_goFromCell yX2_goFromCell, Cond.code yX2_goFromCell cX2_goFromCell 3 (some .int), Cond.methodLink RX2 32 yX2_reach, Cond.instanceMethod yX2_reach, Cond.selects RX2 yX2_reach yX2_reach, Cond.code yX2_reach cX2_reach 3 none, Cond.fieldLink RX2 19 "ReefPilot$Spread" "reached" "[I", Cond.methodLink RX2 36 yX2_goOnFrom, Cond.instanceMethod yX2_goOnFrom, Cond.selects RX2 yX2_goOnFrom yX2_goOnFrom, Cond.code yX2_goOnFrom cX2_goOnFrom 6 none, Cond.methodLink RX4 135 yX4_countOnDepths, Cond.instanceMethod yX4_countOnDepths, Cond.selects RX4 yX4_countOnDepths yX4_countOnDepths, Cond.code yX4_countOnDepths cX4_countOnDepths 3 none, Cond.fieldLink RX4 40 "ReefPilot" "water" "[I", Cond.methodLink RX4 75 yX0_depthOf]
def wsX4_foresee_r7 : List Cond := [Cond.methodLink RX4 108 yX4_greatestDraught, Cond.instanceMethod yX4_greatestDraught, Cond.selects RX4 yX4_greatestDraught yX4_greatestDraught, Cond.code yX4_greatestDraught cX4_greatestDraught 2 (some .int), Cond.methodLink RX4 102 yX4_startOfShortestWay, Cond.instanceMethod yX4_startOfShortestWay, Cond.selects RX4 yX4_startOfShortestWay yX4_startOfShortestWay, Cond.code yX4_startOfShortestWay cX4_startOfShortestWay 5 (some .int), Cond.methodLink RX4 111 yX4_openWater, Cond.instanceMethod yX4_openWater, Cond.selects RX4 yX4_openWater yX4_openWater, Cond.code yX4_openWater cX4_openWater 3 none, Cond.methodLink RX4 115 yX2_goFromRow, Cond.instanceMethod yX2_goFromRow, Cond.selects RX2 yX2_goFromRow yX2_goFromRow, Cond.code yX2_goFromRow cX2_goFromRow 4 none, Cond.methodLink RX4 105 yX2_stepsTo, Cond.instanceMethod yX2_stepsTo, Cond.selects RX2 yX2_stepsTo yX2_stepsTo, Cond.code yX2_stepsTo cX2_stepsTo 2 (some .int)]
def wsX4_foresee : List Cond := .code yX4_foresee cX4_foresee 4 (some .int) :: ((wsX4_foresee_r1 ++ (wsX4_foresee_r2 ++ (wsX4_foresee_r3 ++ (wsX4_foresee_r4 ++ (wsX4_foresee_r5 ++ (wsX4_foresee_r6 ++ wsX4_foresee_r7)))))) ++ wsX40 ++ wsX00 ++ wsX30 ++ wsX20 ++ (vx_atS RX4 167 "java/lang/IllegalArgumentException" ["java/lang/RuntimeException", "java/lang/Exception"]).filter goodWord ++ (vx_atS RX4 160 "java/lang/IndexOutOfBoundsException" ["java/lang/RuntimeException", "java/lang/Exception"]).filter goodWord)
def wsX4_advise_r1 : List Cond := [Cond.methodLink RX4 145 Lib.Math.max.name, Cond.static Lib.Math.max.name, Cond.initialized "java/lang/Math", Cond.code Lib.Math.max.name Lib.Math.max.code 2 (some .int), Cond.fieldLink RX4 19 "ReefPilot" "coast" "LReefPilot$Coast;", Cond.methodLink RX4 142 yX4_safeDepth, Cond.instanceMethod yX4_safeDepth, Cond.selects RX4 yX4_safeDepth yX4_safeDepth, Cond.initialized RX4, Cond.code yX4_safeDepth cX4_safeDepth 3 (some .int), Cond.fieldLink RX4 29 "ReefPilot" "soundings" "LReefPilot$Soundings;", Cond.methodLink RX4 85 yX1_noted, Cond.instanceMethod yX1_noted, Cond.selects RX1 yX1_noted yX1_noted, Cond.initialized RX1, Cond.code yX1_noted cX1_noted 2 (some .int), Cond.fieldLink RX1 9 "ReefPilot$Soundings" "depth" "[I", Cond.methodLink RX4 88 yX0_monthNow, Cond.instanceMethod yX0_monthNow, Cond.selects RX0 yX0_monthNow yX0_monthNow, Cond.initialized RX0, Cond.code yX0_monthNow cX0_monthNow 1 (some .int), Cond.fieldLink RX0 34 "ReefPilot$Coast" "month" "I", Cond.methodLink RX4 183 yX1_age]
def wsX4_advise_r2 : List Cond := [Cond.instanceMethod yX1_age, Cond.selects RX1 yX1_age yX1_age, Cond.code yX1_age cX1_age 3 (some .int), Cond.fieldLink RX1 15 "ReefPilot$Soundings" "takenIn" "[I", Cond.methodLink RX4 75 yX0_depthOf, Cond.instanceMethod yX0_depthOf, Cond.selects RX0 yX0_depthOf yX0_depthOf, Cond.code yX0_depthOf cX0_depthOf 2 (some .int), Cond.fieldLink RX0 9 "ReefPilot$Coast" "ground" "[I", Cond.fieldLink RX0 15 "ReefPilot$Coast" "coral" "[I", Cond.methodLink RX0 44 Lib.Math.max.name]
def wsX4_advise : List Cond := .code yX4_advise cX4_advise 6 (some .int) :: ((wsX4_advise_r1 ++ wsX4_advise_r2) ++ wsX40 ++ wsX10 ++ wsX00)
def wsX4_mean : List Cond := .code yX4_mean cX4_mean 3 (some .double) :: ([.fieldLink RX4 19 "ReefPilot" "coast" "LReefPilot$Coast;", .constantDouble RX4 150 (4635400285215260672), .methodLink RX4 75 yX0_depthOf, .instanceMethod yX0_depthOf, .selects RX0 yX0_depthOf yX0_depthOf, .initialized RX0, .code yX0_depthOf cX0_depthOf 2 (some .int), .fieldLink RX0 9 "ReefPilot$Coast" "ground" "[I", .fieldLink RX0 15 "ReefPilot$Coast" "coral" "[I", .methodLink RX0 44 Lib.Math.max.name, .static Lib.Math.max.name, .initialized "java/lang/Math", .code Lib.Math.max.name Lib.Math.max.code 2 (some .int)] ++ wsX40 ++ wsX00)
def wsX4_digest_r1 : List Cond := [Cond.constantLong RX4 152 (787), Cond.constantLong RX4 154 (31), Cond.fieldLink RX4 12 "ReefPilot" "table" "LReefPilot$Table;", Cond.fieldLink RX4 19 "ReefPilot" "coast" "LReefPilot$Coast;", Cond.methodLink RX4 128 yX4_countAnswer, Cond.instanceMethod yX4_countAnswer, Cond.selects RX4 yX4_countAnswer yX4_countAnswer, Cond.initialized RX4, Cond.code yX4_countAnswer cX4_countAnswer 2 (some .int), Cond.methodLink RX4 88 yX0_monthNow, Cond.instanceMethod yX0_monthNow, Cond.selects RX0 yX0_monthNow yX0_monthNow, Cond.initialized RX0, Cond.code yX0_monthNow cX0_monthNow 1 (some .int), Cond.fieldLink RX0 34 "ReefPilot$Coast" "month" "I", Cond.methodLink RX4 121 yX0_heads, Cond.instanceMethod yX0_heads, Cond.selects RX0 yX0_heads yX0_heads, Cond.code yX0_heads cX0_heads 3 (some .int), Cond.methodLink RX0 47 yX0_isHead, Cond.instanceMethod yX0_isHead, Cond.selects RX0 yX0_isHead yX0_isHead, Cond.code yX0_isHead cX0_isHead 2 (some .boolean), Cond.fieldLink RX0 15 "ReefPilot$Coast" "coral" "[I"]
def wsX4_digest_r2 : List Cond := [Cond.methodLink RX4 138 yX4_reefsOn, Cond.instanceMethod yX4_reefsOn, Cond.selects RX4 yX4_reefsOn yX4_reefsOn, Cond.code yX4_reefsOn cX4_reefsOn 4 (some .int), Cond.fieldLink RX4 36 "ReefPilot" "spread" "LReefPilot$Spread;", Cond.methodLink RX4 186 yX4_openHeads, Cond.instanceMethod yX4_openHeads, Cond.selects RX4 yX4_openHeads yX4_openHeads, Cond.code yX4_openHeads cX4_openHeads 3 none, Cond.methodLink RX4 192 yX2_clear, Cond.instanceMethod yX2_clear, Cond.selects RX2 yX2_clear yX2_clear, Cond.initialized RX2, Cond.code yX2_clear cX2_clear 1 none, Cond.fieldLink RX2 15 "ReefPilot$Spread" "steps" "[I", Cond.fieldLink RX2 28 "ReefPilot$Spread" "reachedCells" "I", Cond.methodLink RX2 22 yJ7_fill_53178, Cond.static yJ7_fill_53178, Cond.initialized RJ7, Cond.code yJ7_fill_53178 cJ7_fill_53178 4 none, Cond.methodLink RX4 78 yX0_isHead, Cond.methodLink RX4 195 yX2_setOpen, Cond.instanceMethod yX2_setOpen, Cond.selects RX2 yX2_setOpen yX2_setOpen]
def wsX4_digest_r3 : List Cond := [Cond.code yX2_setOpen cX2_setOpen 3 none, Cond.fieldLink RX2 9 "ReefPilot$Spread" "open" "[Z", Cond.methodLink RX4 189 yX2_goFromCell, Cond.instanceMethod yX2_goFromCell, Cond.selects RX2 yX2_goFromCell yX2_goFromCell, Cond.code yX2_goFromCell cX2_goFromCell 3 (some .int), Cond.methodLink RX2 32 yX2_reach, Cond.instanceMethod yX2_reach, Cond.selects RX2 yX2_reach yX2_reach, Cond.code yX2_reach cX2_reach 3 none, Cond.fieldLink RX2 19 "ReefPilot$Spread" "reached" "[I", Cond.methodLink RX2 36 yX2_goOnFrom, Cond.instanceMethod yX2_goOnFrom, Cond.selects RX2 yX2_goOnFrom yX2_goOnFrom, Cond.code yX2_goOnFrom cX2_goOnFrom 6 none, Cond.static yX4_neighbour, Cond.code yX4_neighbour cX4_neighbour 3 (some .int), Cond.methodLink RX4 168 yX4_headsOfLargestReef, Cond.instanceMethod yX4_headsOfLargestReef, Cond.selects RX4 yX4_headsOfLargestReef yX4_headsOfLargestReef, Cond.code yX4_headsOfLargestReef cX4_headsOfLargestReef 3 (some .int), Cond.methodLink RX4 145 Lib.Math.max.name, Cond.static Lib.Math.max.name, Cond.initialized "java/lang/Math"]
def wsX4_digest_r4 : List Cond := [Cond.code Lib.Math.max.name Lib.Math.max.code 2 (some .int), Cond.methodLink RX4 171 yX0_allCoral, Cond.instanceMethod yX0_allCoral, Cond.selects RX0 yX0_allCoral yX0_allCoral, Cond.code yX0_allCoral cX0_allCoral 3 (some .int), Cond.methodLink RX4 174 yX4_soundingsTaken, Cond.instanceMethod yX4_soundingsTaken, Cond.selects RX4 yX4_soundingsTaken yX4_soundingsTaken, Cond.code yX4_soundingsTaken cX4_soundingsTaken 3 (some .int), Cond.fieldLink RX4 29 "ReefPilot" "soundings" "LReefPilot$Soundings;", Cond.methodLink RX4 85 yX1_noted, Cond.instanceMethod yX1_noted, Cond.selects RX1 yX1_noted yX1_noted, Cond.initialized RX1, Cond.code yX1_noted cX1_noted 2 (some .int), Cond.fieldLink RX1 9 "ReefPilot$Soundings" "depth" "[I", Cond.methodLink RX4 177 yX4_soundingsTooDeep, Cond.instanceMethod yX4_soundingsTooDeep, Cond.selects RX4 yX4_soundingsTooDeep yX4_soundingsTooDeep, Cond.code yX4_soundingsTooDeep cX4_soundingsTooDeep 3 (some .int), Cond.methodLink RX4 75 yX0_depthOf, Cond.instanceMethod yX0_depthOf, Cond.selects RX0 yX0_depthOf yX0_depthOf, Cond.code yX0_depthOf cX0_depthOf 2 (some .int)]
def wsX4_digest_r5 : List Cond := [Cond.fieldLink RX0 9 "ReefPilot$Coast" "ground" "[I", Cond.methodLink RX0 44 Lib.Math.max.name, Cond.methodLink RX4 180 yX4_cellsWithoutDepth, Cond.instanceMethod yX4_cellsWithoutDepth, Cond.selects RX4 yX4_cellsWithoutDepth yX4_cellsWithoutDepth, Cond.code yX4_cellsWithoutDepth cX4_cellsWithoutDepth 3 (some .int), Cond.methodLink RX4 66 yX3_entry, Cond.instanceMethod yX3_entry, Cond.selects RX3 yX3_entry yX3_entry, Cond.initialized RX3, Cond.code yX3_entry cX3_entry 2 (some .int), Cond.fieldLink RX3 9 "ReefPilot$Table" "warmth" "[I", Cond.fieldLink RX3 15 "ReefPilot$Table" "storm" "[I", Cond.methodLink RX4 56 yX0_groundOf, Cond.instanceMethod yX0_groundOf, Cond.selects RX0 yX0_groundOf yX0_groundOf, Cond.code yX0_groundOf cX0_groundOf 2 (some .int), Cond.methodLink RX4 72 yX0_coralOf, Cond.instanceMethod yX0_coralOf, Cond.selects RX0 yX0_coralOf yX0_coralOf, Cond.code yX0_coralOf cX0_coralOf 2 (some .int), Cond.methodLink RX4 95 yX4_chartAnswer, Cond.instanceMethod yX4_chartAnswer, Cond.selects RX4 yX4_chartAnswer yX4_chartAnswer]
def wsX4_digest_r6 : List Cond := [Cond.code yX4_chartAnswer cX4_chartAnswer 3 (some .int), Cond.methodLink RX4 183 yX1_age, Cond.instanceMethod yX1_age, Cond.selects RX1 yX1_age yX1_age, Cond.code yX1_age cX1_age 3 (some .int), Cond.fieldLink RX1 15 "ReefPilot$Soundings" "takenIn" "[I", Cond.methodLink RX4 142 yX4_safeDepth, Cond.instanceMethod yX4_safeDepth, Cond.selects RX4 yX4_safeDepth yX4_safeDepth, Cond.code yX4_safeDepth cX4_safeDepth 3 (some .int)]
def wsX4_digest : List Cond := .code yX4_digest cX4_digest 5 (some .long) :: ((wsX4_digest_r1 ++ (wsX4_digest_r2 ++ (wsX4_digest_r3 ++ (wsX4_digest_r4 ++ (wsX4_digest_r5 ++ wsX4_digest_r6))))) ++ wsX40 ++ wsX00 ++ wsX20 ++ wsX10 ++ wsX30)
def wsX5_init : List Cond := .code yX5_init cX5_init 2 none :: ([.methodLink RX5 1 objectInit, .instanceMethod objectInit, .code objectInit ⟨#[0xb1]⟩ 1 none, .arrayClass .int, .fieldLink RX5 9 "ReefPilotModel" "ground" "[I", .fieldLink RX5 13 "ReefPilotModel" "coral" "[I", .fieldLink RX5 16 "ReefPilotModel" "sounding" "[I", .fieldLink RX5 19 "ReefPilotModel" "taken" "[I", .fieldLink RX5 22 "ReefPilotModel" "warmth" "[I", .fieldLink RX5 25 "ReefPilotModel" "storms" "[I", .fieldLink RX5 28 "ReefPilotModel" "next" "[I", .fieldLink RX5 31 "ReefPilotModel" "label" "[I", .fieldLink RX5 34 "ReefPilotModel" "far" "[I"] ++ wsX50)
def wsX5_thrown : List Cond := .code yX5_thrown cX5_thrown 1 (some .int) :: ([.fieldLink RX5 37 "ReefPilotModel" "thrown" "I"] ++ wsX50)
def wsX5_fail : List Cond := .code yX5_fail cX5_fail 2 (some .int) :: ([.fieldLink RX5 37 "ReefPilotModel" "thrown" "I"] ++ wsX50)
def wsX5_isIn : List Cond := .code yX5_isIn cX5_isIn 3 (some .boolean) :: ([])
def wsX5_isCell : List Cond := .code yX5_isCell cX5_isCell 2 (some .boolean) :: ([.methodLink RX5 41 yX5_isIn, .static yX5_isIn, .initialized RX5, .code yX5_isIn cX5_isIn 3 (some .boolean)])
def wsX5_beside : List Cond := .code yX5_beside cX5_beside 2 (some .int) :: ([])
def wsX5_depth : List Cond := .code yX5_depth cX5_depth 2 (some .int) :: ([.fieldLink RX5 9 "ReefPilotModel" "ground" "[I", .fieldLink RX5 13 "ReefPilotModel" "coral" "[I", .methodLink RX5 45 Lib.Math.max.name, .static Lib.Math.max.name, .initialized "java/lang/Math", .code Lib.Math.max.name Lib.Math.max.code 2 (some .int)] ++ wsX50)
def wsX5_isHead : List Cond := .code yX5_isHead cX5_isHead 2 (some .boolean) :: ([.fieldLink RX5 13 "ReefPilotModel" "coral" "[I"] ++ wsX50)
def wsX5_headsBeside : List Cond := .code yX5_headsBeside cX5_headsBeside 4 (some .int) :: ([.methodLink RX5 51 yX5_beside, .static yX5_beside, .initialized RX5, .code yX5_beside cX5_beside 2 (some .int), .methodLink RX5 54 yX5_isHead, .instanceMethod yX5_isHead, .selects RX5 yX5_isHead yX5_isHead, .code yX5_isHead cX5_isHead 2 (some .boolean), .fieldLink RX5 13 "ReefPilotModel" "coral" "[I"] ++ wsX50)
def wsX5_setGround : List Cond := .code yX5_setGround cX5_setGround 6 (some .int) :: ([.fieldLink RX5 37 "ReefPilotModel" "thrown" "I", .fieldLink RX5 9 "ReefPilotModel" "ground" "[I", .fieldLink RX5 13 "ReefPilotModel" "coral" "[I", .methodLink RX5 66 Lib.Math.min.name, .static Lib.Math.min.name, .initialized "java/lang/Math", .code Lib.Math.min.name Lib.Math.min.code 2 (some .int), .methodLink RX5 58 yX5_isCell, .static yX5_isCell, .initialized RX5, .code yX5_isCell cX5_isCell 2 (some .boolean), .methodLink RX5 41 yX5_isIn, .static yX5_isIn, .code yX5_isIn cX5_isIn 3 (some .boolean), .methodLink RX5 62 yX5_fail, .instanceMethod yX5_fail, .selects RX5 yX5_fail yX5_fail, .code yX5_fail cX5_fail 2 (some .int)] ++ wsX50)
def wsX5_plant : List Cond := .code yX5_plant cX5_plant 6 (some .int) :: ([.fieldLink RX5 37 "ReefPilotModel" "thrown" "I", .fieldLink RX5 9 "ReefPilotModel" "ground" "[I", .fieldLink RX5 13 "ReefPilotModel" "coral" "[I", .methodLink RX5 58 yX5_isCell, .static yX5_isCell, .initialized RX5, .code yX5_isCell cX5_isCell 2 (some .boolean), .methodLink RX5 41 yX5_isIn, .static yX5_isIn, .code yX5_isIn cX5_isIn 3 (some .boolean), .methodLink RX5 62 yX5_fail, .instanceMethod yX5_fail, .selects RX5 yX5_fail yX5_fail, .code yX5_fail cX5_fail 2 (some .int)] ++ wsX50)
def wsX5_setMonth : List Cond := .code yX5_setMonth cX5_setMonth 5 (some .int) :: ([.fieldLink RX5 37 "ReefPilotModel" "thrown" "I", .fieldLink RX5 22 "ReefPilotModel" "warmth" "[I", .fieldLink RX5 25 "ReefPilotModel" "storms" "[I", .methodLink RX5 41 yX5_isIn, .static yX5_isIn, .initialized RX5, .code yX5_isIn cX5_isIn 3 (some .boolean), .methodLink RX5 62 yX5_fail, .instanceMethod yX5_fail, .selects RX5 yX5_fail yX5_fail, .code yX5_fail cX5_fail 2 (some .int)] ++ wsX50)
def wsX5_mark : List Cond := .code yX5_mark cX5_mark 5 none :: ([.fieldLink RX5 31 "ReefPilotModel" "label" "[I", .methodLink RX5 54 yX5_isHead, .instanceMethod yX5_isHead, .selects RX5 yX5_isHead yX5_isHead, .initialized RX5, .code yX5_isHead cX5_isHead 2 (some .boolean), .fieldLink RX5 13 "ReefPilotModel" "coral" "[I", .methodLink RX5 51 yX5_beside, .static yX5_beside, .code yX5_beside cX5_beside 2 (some .int)] ++ wsX50)
def wsX5_reefOf : List Cond := .code yX5_reefOf cX5_reefOf 4 (some .int) :: ([.fieldLink RX5 31 "ReefPilotModel" "label" "[I", .methodLink RX5 54 yX5_isHead, .instanceMethod yX5_isHead, .selects RX5 yX5_isHead yX5_isHead, .initialized RX5, .code yX5_isHead cX5_isHead 2 (some .boolean), .fieldLink RX5 13 "ReefPilotModel" "coral" "[I", .methodLink RX5 69 yX5_mark, .instanceMethod yX5_mark, .selects RX5 yX5_mark yX5_mark, .code yX5_mark cX5_mark 5 none, .methodLink RX5 51 yX5_beside, .static yX5_beside, .code yX5_beside cX5_beside 2 (some .int)] ++ wsX50)
def wsX5_cell_r1 : List Cond := [Cond.fieldLink RX5 37 "ReefPilotModel" "thrown" "I", Cond.fieldLink RX5 9 "ReefPilotModel" "ground" "[I", Cond.fieldLink RX5 13 "ReefPilotModel" "coral" "[I", Cond.methodLink RX5 58 yX5_isCell, Cond.static yX5_isCell, Cond.initialized RX5, Cond.code yX5_isCell cX5_isCell 2 (some .boolean), Cond.methodLink RX5 41 yX5_isIn, Cond.static yX5_isIn, Cond.code yX5_isIn cX5_isIn 3 (some .boolean), Cond.methodLink RX5 62 yX5_fail, Cond.instanceMethod yX5_fail, Cond.selects RX5 yX5_fail yX5_fail, Cond.code yX5_fail cX5_fail 2 (some .int), Cond.methodLink RX5 72 yX5_depth, Cond.instanceMethod yX5_depth, Cond.selects RX5 yX5_depth yX5_depth, Cond.code yX5_depth cX5_depth 2 (some .int), Cond.methodLink RX5 45 Lib.Math.max.name, Cond.static Lib.Math.max.name, Cond.initialized "java/lang/Math", Cond.code Lib.Math.max.name Lib.Math.max.code 2 (some .int), Cond.methodLink RX5 54 yX5_isHead, Cond.instanceMethod yX5_isHead]
def wsX5_cell_r2 : List Cond := [Cond.selects RX5 yX5_isHead yX5_isHead, Cond.code yX5_isHead cX5_isHead 2 (some .boolean), Cond.methodLink RX5 75 yX5_reefOf, Cond.instanceMethod yX5_reefOf, Cond.selects RX5 yX5_reefOf yX5_reefOf, Cond.code yX5_reefOf cX5_reefOf 4 (some .int), Cond.fieldLink RX5 31 "ReefPilotModel" "label" "[I", Cond.methodLink RX5 69 yX5_mark, Cond.instanceMethod yX5_mark, Cond.selects RX5 yX5_mark yX5_mark, Cond.code yX5_mark cX5_mark 5 none, Cond.methodLink RX5 51 yX5_beside, Cond.static yX5_beside, Cond.code yX5_beside cX5_beside 2 (some .int)]
def wsX5_cell : List Cond := .code yX5_cell cX5_cell 5 (some .int) :: ((wsX5_cell_r1 ++ wsX5_cell_r2) ++ wsX50)
def wsX5_sound_r1 : List Cond := [Cond.fieldLink RX5 37 "ReefPilotModel" "thrown" "I", Cond.fieldLink RX5 16 "ReefPilotModel" "sounding" "[I", Cond.fieldLink RX5 19 "ReefPilotModel" "taken" "[I", Cond.fieldLink RX5 78 "ReefPilotModel" "month" "I", Cond.methodLink RX5 58 yX5_isCell, Cond.static yX5_isCell, Cond.initialized RX5, Cond.code yX5_isCell cX5_isCell 2 (some .boolean), Cond.methodLink RX5 41 yX5_isIn, Cond.static yX5_isIn, Cond.code yX5_isIn cX5_isIn 3 (some .boolean), Cond.methodLink RX5 62 yX5_fail, Cond.instanceMethod yX5_fail, Cond.selects RX5 yX5_fail yX5_fail, Cond.code yX5_fail cX5_fail 2 (some .int), Cond.methodLink RX5 72 yX5_depth, Cond.instanceMethod yX5_depth, Cond.selects RX5 yX5_depth yX5_depth, Cond.code yX5_depth cX5_depth 2 (some .int), Cond.fieldLink RX5 9 "ReefPilotModel" "ground" "[I", Cond.fieldLink RX5 13 "ReefPilotModel" "coral" "[I", Cond.methodLink RX5 45 Lib.Math.max.name, Cond.static Lib.Math.max.name, Cond.initialized "java/lang/Math"]
def wsX5_sound_r2 : List Cond := [Cond.code Lib.Math.max.name Lib.Math.max.code 2 (some .int)]
def wsX5_sound : List Cond := .code yX5_sound cX5_sound 5 (some .int) :: ((wsX5_sound_r1 ++ wsX5_sound_r2) ++ wsX50)
def wsX5_charted : List Cond := .code yX5_charted cX5_charted 4 (some .int) :: ([.fieldLink RX5 16 "ReefPilotModel" "sounding" "[I", .fieldLink RX5 78 "ReefPilotModel" "month" "I", .fieldLink RX5 19 "ReefPilotModel" "taken" "[I", .methodLink RX5 45 Lib.Math.max.name, .static Lib.Math.max.name, .initialized "java/lang/Math", .code Lib.Math.max.name Lib.Math.max.code 2 (some .int)] ++ wsX50)
def wsX5_chart : List Cond := .code yX5_chart cX5_chart 4 (some .int) :: ([.fieldLink RX5 37 "ReefPilotModel" "thrown" "I", .methodLink RX5 58 yX5_isCell, .static yX5_isCell, .initialized RX5, .code yX5_isCell cX5_isCell 2 (some .boolean), .methodLink RX5 41 yX5_isIn, .static yX5_isIn, .code yX5_isIn cX5_isIn 3 (some .boolean), .methodLink RX5 81 yX5_charted, .instanceMethod yX5_charted, .selects RX5 yX5_charted yX5_charted, .code yX5_charted cX5_charted 4 (some .int), .fieldLink RX5 16 "ReefPilotModel" "sounding" "[I", .fieldLink RX5 78 "ReefPilotModel" "month" "I", .fieldLink RX5 19 "ReefPilotModel" "taken" "[I", .methodLink RX5 45 Lib.Math.max.name, .static Lib.Math.max.name, .initialized "java/lang/Math", .code Lib.Math.max.name Lib.Math.max.code 2 (some .int), .methodLink RX5 62 yX5_fail, .instanceMethod yX5_fail, .selects RX5 yX5_fail yX5_fail, .code yX5_fail cX5_fail 2 (some .int)] ++ wsX50)
def wsX5_spread_r1 : List Cond := [Cond.fieldLink RX5 34 "ReefPilotModel" "far" "[I", Cond.methodLink RX5 66 Lib.Math.min.name, Cond.static Lib.Math.min.name, Cond.initialized "java/lang/Math", Cond.code Lib.Math.min.name Lib.Math.min.code 2 (some .int), Cond.methodLink RX5 81 yX5_charted, Cond.instanceMethod yX5_charted, Cond.selects RX5 yX5_charted yX5_charted, Cond.initialized RX5, Cond.code yX5_charted cX5_charted 4 (some .int), Cond.fieldLink RX5 16 "ReefPilotModel" "sounding" "[I", Cond.fieldLink RX5 78 "ReefPilotModel" "month" "I", Cond.fieldLink RX5 19 "ReefPilotModel" "taken" "[I", Cond.methodLink RX5 45 Lib.Math.max.name, Cond.static Lib.Math.max.name, Cond.code Lib.Math.max.name Lib.Math.max.code 2 (some .int), Cond.methodLink RX5 72 yX5_depth, Cond.instanceMethod yX5_depth, Cond.selects RX5 yX5_depth yX5_depth, Cond.code yX5_depth cX5_depth 2 (some .int), Cond.fieldLink RX5 9 "ReefPilotModel" "ground" "[I", Cond.fieldLink RX5 13 "ReefPilotModel" "coral" "[I", Cond.methodLink RX5 51 yX5_beside, Cond.static yX5_beside]
def wsX5_spread_r2 : List Cond := [Cond.code yX5_beside cX5_beside 2 (some .int)]
def wsX5_spread : List Cond := .code yX5_spread cX5_spread 8 none :: ((wsX5_spread_r1 ++ wsX5_spread_r2) ++ wsX50)
def wsX5_shortest_r1 : List Cond := [Cond.fieldLink RX5 34 "ReefPilotModel" "far" "[I", Cond.methodLink RX5 66 Lib.Math.min.name, Cond.static Lib.Math.min.name, Cond.initialized "java/lang/Math", Cond.code Lib.Math.min.name Lib.Math.min.code 2 (some .int), Cond.methodLink RX5 84 yX5_spread, Cond.instanceMethod yX5_spread, Cond.selects RX5 yX5_spread yX5_spread, Cond.initialized RX5, Cond.code yX5_spread cX5_spread 8 none, Cond.methodLink RX5 81 yX5_charted, Cond.instanceMethod yX5_charted, Cond.selects RX5 yX5_charted yX5_charted, Cond.code yX5_charted cX5_charted 4 (some .int), Cond.fieldLink RX5 16 "ReefPilotModel" "sounding" "[I", Cond.fieldLink RX5 78 "ReefPilotModel" "month" "I", Cond.fieldLink RX5 19 "ReefPilotModel" "taken" "[I", Cond.methodLink RX5 45 Lib.Math.max.name, Cond.static Lib.Math.max.name, Cond.code Lib.Math.max.name Lib.Math.max.code 2 (some .int), Cond.methodLink RX5 72 yX5_depth, Cond.instanceMethod yX5_depth, Cond.selects RX5 yX5_depth yX5_depth, Cond.code yX5_depth cX5_depth 2 (some .int)]
def wsX5_shortest_r2 : List Cond := [Cond.fieldLink RX5 9 "ReefPilotModel" "ground" "[I", Cond.fieldLink RX5 13 "ReefPilotModel" "coral" "[I", Cond.methodLink RX5 51 yX5_beside, Cond.static yX5_beside, Cond.code yX5_beside cX5_beside 2 (some .int)]
def wsX5_shortest : List Cond := .code yX5_shortest cX5_shortest 5 (some .int) :: ((wsX5_shortest_r1 ++ wsX5_shortest_r2) ++ wsX50)
def wsX5_way_r1 : List Cond := [Cond.fieldLink RX5 37 "ReefPilotModel" "thrown" "I", Cond.methodLink RX5 41 yX5_isIn, Cond.static yX5_isIn, Cond.initialized RX5, Cond.code yX5_isIn cX5_isIn 3 (some .boolean), Cond.methodLink RX5 88 yX5_shortest, Cond.instanceMethod yX5_shortest, Cond.selects RX5 yX5_shortest yX5_shortest, Cond.code yX5_shortest cX5_shortest 5 (some .int), Cond.fieldLink RX5 34 "ReefPilotModel" "far" "[I", Cond.methodLink RX5 66 Lib.Math.min.name, Cond.static Lib.Math.min.name, Cond.initialized "java/lang/Math", Cond.code Lib.Math.min.name Lib.Math.min.code 2 (some .int), Cond.methodLink RX5 84 yX5_spread, Cond.instanceMethod yX5_spread, Cond.selects RX5 yX5_spread yX5_spread, Cond.code yX5_spread cX5_spread 8 none, Cond.methodLink RX5 81 yX5_charted, Cond.instanceMethod yX5_charted, Cond.selects RX5 yX5_charted yX5_charted, Cond.code yX5_charted cX5_charted 4 (some .int), Cond.fieldLink RX5 16 "ReefPilotModel" "sounding" "[I", Cond.fieldLink RX5 78 "ReefPilotModel" "month" "I"]
def wsX5_way_r2 : List Cond := [Cond.fieldLink RX5 19 "ReefPilotModel" "taken" "[I", Cond.methodLink RX5 45 Lib.Math.max.name, Cond.static Lib.Math.max.name, Cond.code Lib.Math.max.name Lib.Math.max.code 2 (some .int), Cond.methodLink RX5 72 yX5_depth, Cond.instanceMethod yX5_depth, Cond.selects RX5 yX5_depth yX5_depth, Cond.code yX5_depth cX5_depth 2 (some .int), Cond.fieldLink RX5 9 "ReefPilotModel" "ground" "[I", Cond.fieldLink RX5 13 "ReefPilotModel" "coral" "[I", Cond.methodLink RX5 51 yX5_beside, Cond.static yX5_beside, Cond.code yX5_beside cX5_beside 2 (some .int), Cond.methodLink RX5 62 yX5_fail, Cond.instanceMethod yX5_fail, Cond.selects RX5 yX5_fail yX5_fail, Cond.code yX5_fail cX5_fail 2 (some .int)]
def wsX5_way : List Cond := .code yX5_way cX5_way 3 (some .int) :: ((wsX5_way_r1 ++ wsX5_way_r2) ++ wsX50)
def wsX5_most_r1 : List Cond := [Cond.methodLink RX5 88 yX5_shortest, Cond.instanceMethod yX5_shortest, Cond.selects RX5 yX5_shortest yX5_shortest, Cond.initialized RX5, Cond.code yX5_shortest cX5_shortest 5 (some .int), Cond.fieldLink RX5 34 "ReefPilotModel" "far" "[I", Cond.methodLink RX5 66 Lib.Math.min.name, Cond.static Lib.Math.min.name, Cond.initialized "java/lang/Math", Cond.code Lib.Math.min.name Lib.Math.min.code 2 (some .int), Cond.methodLink RX5 84 yX5_spread, Cond.instanceMethod yX5_spread, Cond.selects RX5 yX5_spread yX5_spread, Cond.code yX5_spread cX5_spread 8 none, Cond.methodLink RX5 81 yX5_charted, Cond.instanceMethod yX5_charted, Cond.selects RX5 yX5_charted yX5_charted, Cond.code yX5_charted cX5_charted 4 (some .int), Cond.fieldLink RX5 16 "ReefPilotModel" "sounding" "[I", Cond.fieldLink RX5 78 "ReefPilotModel" "month" "I", Cond.fieldLink RX5 19 "ReefPilotModel" "taken" "[I", Cond.methodLink RX5 45 Lib.Math.max.name, Cond.static Lib.Math.max.name, Cond.code Lib.Math.max.name Lib.Math.max.code 2 (some .int)]
def wsX5_most_r2 : List Cond := [Cond.methodLink RX5 72 yX5_depth, Cond.instanceMethod yX5_depth, Cond.selects RX5 yX5_depth yX5_depth, Cond.code yX5_depth cX5_depth 2 (some .int), Cond.fieldLink RX5 9 "ReefPilotModel" "ground" "[I", Cond.fieldLink RX5 13 "ReefPilotModel" "coral" "[I", Cond.methodLink RX5 51 yX5_beside, Cond.static yX5_beside, Cond.code yX5_beside cX5_beside 2 (some .int)]
def wsX5_most : List Cond := .code yX5_most cX5_most 3 (some .int) :: ((wsX5_most_r1 ++ wsX5_most_r2) ++ wsX50)
def wsX5_deepest_r1 : List Cond := [Cond.fieldLink RX5 37 "ReefPilotModel" "thrown" "I", Cond.methodLink RX5 92 yX5_most, Cond.instanceMethod yX5_most, Cond.selects RX5 yX5_most yX5_most, Cond.initialized RX5, Cond.code yX5_most cX5_most 3 (some .int), Cond.methodLink RX5 88 yX5_shortest, Cond.instanceMethod yX5_shortest, Cond.selects RX5 yX5_shortest yX5_shortest, Cond.code yX5_shortest cX5_shortest 5 (some .int), Cond.fieldLink RX5 34 "ReefPilotModel" "far" "[I", Cond.methodLink RX5 66 Lib.Math.min.name, Cond.static Lib.Math.min.name, Cond.initialized "java/lang/Math", Cond.code Lib.Math.min.name Lib.Math.min.code 2 (some .int), Cond.methodLink RX5 84 yX5_spread, Cond.instanceMethod yX5_spread, Cond.selects RX5 yX5_spread yX5_spread, Cond.code yX5_spread cX5_spread 8 none, Cond.methodLink RX5 81 yX5_charted, Cond.instanceMethod yX5_charted, Cond.selects RX5 yX5_charted yX5_charted, Cond.code yX5_charted cX5_charted 4 (some .int), Cond.fieldLink RX5 16 "ReefPilotModel" "sounding" "[I"]
def wsX5_deepest_r2 : List Cond := [Cond.fieldLink RX5 78 "ReefPilotModel" "month" "I", Cond.fieldLink RX5 19 "ReefPilotModel" "taken" "[I", Cond.methodLink RX5 45 Lib.Math.max.name, Cond.static Lib.Math.max.name, Cond.code Lib.Math.max.name Lib.Math.max.code 2 (some .int), Cond.methodLink RX5 72 yX5_depth, Cond.instanceMethod yX5_depth, Cond.selects RX5 yX5_depth yX5_depth, Cond.code yX5_depth cX5_depth 2 (some .int), Cond.fieldLink RX5 9 "ReefPilotModel" "ground" "[I", Cond.fieldLink RX5 13 "ReefPilotModel" "coral" "[I", Cond.methodLink RX5 51 yX5_beside, Cond.static yX5_beside, Cond.code yX5_beside cX5_beside 2 (some .int)]
def wsX5_deepest : List Cond := .code yX5_deepest cX5_deepest 2 (some .int) :: ((wsX5_deepest_r1 ++ wsX5_deepest_r2) ++ wsX50)
def wsX5_harbours_r1 : List Cond := [Cond.fieldLink RX5 37 "ReefPilotModel" "thrown" "I", Cond.fieldLink RX5 34 "ReefPilotModel" "far" "[I", Cond.methodLink RX5 41 yX5_isIn, Cond.static yX5_isIn, Cond.initialized RX5, Cond.code yX5_isIn cX5_isIn 3 (some .boolean), Cond.methodLink RX5 62 yX5_fail, Cond.instanceMethod yX5_fail, Cond.selects RX5 yX5_fail yX5_fail, Cond.code yX5_fail cX5_fail 2 (some .int), Cond.methodLink RX5 84 yX5_spread, Cond.instanceMethod yX5_spread, Cond.selects RX5 yX5_spread yX5_spread, Cond.code yX5_spread cX5_spread 8 none, Cond.methodLink RX5 66 Lib.Math.min.name, Cond.static Lib.Math.min.name, Cond.initialized "java/lang/Math", Cond.code Lib.Math.min.name Lib.Math.min.code 2 (some .int), Cond.methodLink RX5 81 yX5_charted, Cond.instanceMethod yX5_charted, Cond.selects RX5 yX5_charted yX5_charted, Cond.code yX5_charted cX5_charted 4 (some .int), Cond.fieldLink RX5 16 "ReefPilotModel" "sounding" "[I", Cond.fieldLink RX5 78 "ReefPilotModel" "month" "I"]
def wsX5_harbours_r2 : List Cond := [Cond.fieldLink RX5 19 "ReefPilotModel" "taken" "[I", Cond.methodLink RX5 45 Lib.Math.max.name, Cond.static Lib.Math.max.name, Cond.code Lib.Math.max.name Lib.Math.max.code 2 (some .int), Cond.methodLink RX5 72 yX5_depth, Cond.instanceMethod yX5_depth, Cond.selects RX5 yX5_depth yX5_depth, Cond.code yX5_depth cX5_depth 2 (some .int), Cond.fieldLink RX5 9 "ReefPilotModel" "ground" "[I", Cond.fieldLink RX5 13 "ReefPilotModel" "coral" "[I", Cond.methodLink RX5 51 yX5_beside, Cond.static yX5_beside, Cond.code yX5_beside cX5_beside 2 (some .int)]
def wsX5_harbours : List Cond := .code yX5_harbours cX5_harbours 4 (some .int) :: ((wsX5_harbours_r1 ++ wsX5_harbours_r2) ++ wsX50)
def wsX5_pilot_r1 : List Cond := [Cond.fieldLink RX5 37 "ReefPilotModel" "thrown" "I", Cond.fieldLink RX5 34 "ReefPilotModel" "far" "[I", Cond.methodLink RX5 41 yX5_isIn, Cond.static yX5_isIn, Cond.initialized RX5, Cond.code yX5_isIn cX5_isIn 3 (some .boolean), Cond.methodLink RX5 62 yX5_fail, Cond.instanceMethod yX5_fail, Cond.selects RX5 yX5_fail yX5_fail, Cond.code yX5_fail cX5_fail 2 (some .int), Cond.methodLink RX5 88 yX5_shortest, Cond.instanceMethod yX5_shortest, Cond.selects RX5 yX5_shortest yX5_shortest, Cond.code yX5_shortest cX5_shortest 5 (some .int), Cond.methodLink RX5 66 Lib.Math.min.name, Cond.static Lib.Math.min.name, Cond.initialized "java/lang/Math", Cond.code Lib.Math.min.name Lib.Math.min.code 2 (some .int), Cond.methodLink RX5 84 yX5_spread, Cond.instanceMethod yX5_spread, Cond.selects RX5 yX5_spread yX5_spread, Cond.code yX5_spread cX5_spread 8 none, Cond.methodLink RX5 81 yX5_charted, Cond.instanceMethod yX5_charted]
def wsX5_pilot_r2 : List Cond := [Cond.selects RX5 yX5_charted yX5_charted, Cond.code yX5_charted cX5_charted 4 (some .int), Cond.fieldLink RX5 16 "ReefPilotModel" "sounding" "[I", Cond.fieldLink RX5 78 "ReefPilotModel" "month" "I", Cond.fieldLink RX5 19 "ReefPilotModel" "taken" "[I", Cond.methodLink RX5 45 Lib.Math.max.name, Cond.static Lib.Math.max.name, Cond.code Lib.Math.max.name Lib.Math.max.code 2 (some .int), Cond.methodLink RX5 72 yX5_depth, Cond.instanceMethod yX5_depth, Cond.selects RX5 yX5_depth yX5_depth, Cond.code yX5_depth cX5_depth 2 (some .int), Cond.fieldLink RX5 9 "ReefPilotModel" "ground" "[I", Cond.fieldLink RX5 13 "ReefPilotModel" "coral" "[I", Cond.methodLink RX5 51 yX5_beside, Cond.static yX5_beside, Cond.code yX5_beside cX5_beside 2 (some .int)]
def wsX5_pilot : List Cond := .code yX5_pilot cX5_pilot 6 (some .int) :: ((wsX5_pilot_r1 ++ wsX5_pilot_r2) ++ wsX50)
def wsX5_grow_r1 : List Cond := [Cond.fieldLink RX5 28 "ReefPilotModel" "next" "[I", Cond.fieldLink RX5 13 "ReefPilotModel" "coral" "[I", Cond.fieldLink RX5 9 "ReefPilotModel" "ground" "[I", Cond.methodLink RX5 66 Lib.Math.min.name, Cond.static Lib.Math.min.name, Cond.initialized "java/lang/Math", Cond.code Lib.Math.min.name Lib.Math.min.code 2 (some .int), Cond.methodLink RX5 45 Lib.Math.max.name, Cond.static Lib.Math.max.name, Cond.code Lib.Math.max.name Lib.Math.max.code 2 (some .int), Cond.methodLink RX5 99 arraycopyName, Cond.native arraycopyName, Cond.static arraycopyName, Cond.initialized "java/lang/System", Cond.methodLink RX5 72 yX5_depth, Cond.instanceMethod yX5_depth, Cond.selects RX5 yX5_depth yX5_depth, Cond.initialized RX5, Cond.code yX5_depth cX5_depth 2 (some .int), Cond.methodLink RX5 41 yX5_isIn, Cond.static yX5_isIn, Cond.code yX5_isIn cX5_isIn 3 (some .boolean), Cond.methodLink RX5 96 yX5_headsBeside, Cond.instanceMethod yX5_headsBeside]
def wsX5_grow_r2 : List Cond := [Cond.selects RX5 yX5_headsBeside yX5_headsBeside, Cond.code yX5_headsBeside cX5_headsBeside 4 (some .int), Cond.methodLink RX5 51 yX5_beside, Cond.static yX5_beside, Cond.code yX5_beside cX5_beside 2 (some .int), Cond.methodLink RX5 54 yX5_isHead, Cond.instanceMethod yX5_isHead, Cond.selects RX5 yX5_isHead yX5_isHead, Cond.code yX5_isHead cX5_isHead 2 (some .boolean)]
def wsX5_grow : List Cond := .code yX5_grow cX5_grow 4 none :: ((wsX5_grow_r1 ++ wsX5_grow_r2) ++ wsX50)
def wsX5_blow : List Cond := .code yX5_blow cX5_blow 5 none :: ([.fieldLink RX5 13 "ReefPilotModel" "coral" "[I", .methodLink RX5 66 Lib.Math.min.name, .static Lib.Math.min.name, .initialized "java/lang/Math", .code Lib.Math.min.name Lib.Math.min.code 2 (some .int), .fieldLink RX5 9 "ReefPilotModel" "ground" "[I", .methodLink RX5 45 Lib.Math.max.name, .static Lib.Math.max.name, .code Lib.Math.max.name Lib.Math.max.code 2 (some .int), .methodLink RX5 72 yX5_depth, .instanceMethod yX5_depth, .selects RX5 yX5_depth yX5_depth, .initialized RX5, .code yX5_depth cX5_depth 2 (some .int), .methodLink RX5 51 yX5_beside, .static yX5_beside, .code yX5_beside cX5_beside 2 (some .int)] ++ wsX50)
def wsX5_monthOn_r1 : List Cond := [Cond.fieldLink RX5 78 "ReefPilotModel" "month" "I", Cond.fieldLink RX5 22 "ReefPilotModel" "warmth" "[I", Cond.fieldLink RX5 25 "ReefPilotModel" "storms" "[I", Cond.methodLink RX5 105 yX5_grow, Cond.instanceMethod yX5_grow, Cond.selects RX5 yX5_grow yX5_grow, Cond.initialized RX5, Cond.code yX5_grow cX5_grow 4 none, Cond.fieldLink RX5 28 "ReefPilotModel" "next" "[I", Cond.fieldLink RX5 13 "ReefPilotModel" "coral" "[I", Cond.fieldLink RX5 9 "ReefPilotModel" "ground" "[I", Cond.methodLink RX5 66 Lib.Math.min.name, Cond.static Lib.Math.min.name, Cond.initialized "java/lang/Math", Cond.code Lib.Math.min.name Lib.Math.min.code 2 (some .int), Cond.methodLink RX5 45 Lib.Math.max.name, Cond.static Lib.Math.max.name, Cond.code Lib.Math.max.name Lib.Math.max.code 2 (some .int), Cond.methodLink RX5 99 arraycopyName, Cond.native arraycopyName, Cond.static arraycopyName, Cond.initialized "java/lang/System", Cond.methodLink RX5 72 yX5_depth, Cond.instanceMethod yX5_depth]
def wsX5_monthOn_r2 : List Cond := [Cond.selects RX5 yX5_depth yX5_depth, Cond.code yX5_depth cX5_depth 2 (some .int), Cond.methodLink RX5 41 yX5_isIn, Cond.static yX5_isIn, Cond.code yX5_isIn cX5_isIn 3 (some .boolean), Cond.methodLink RX5 96 yX5_headsBeside, Cond.instanceMethod yX5_headsBeside, Cond.selects RX5 yX5_headsBeside yX5_headsBeside, Cond.code yX5_headsBeside cX5_headsBeside 4 (some .int), Cond.methodLink RX5 51 yX5_beside, Cond.static yX5_beside, Cond.code yX5_beside cX5_beside 2 (some .int), Cond.methodLink RX5 54 yX5_isHead, Cond.instanceMethod yX5_isHead, Cond.selects RX5 yX5_isHead yX5_isHead, Cond.code yX5_isHead cX5_isHead 2 (some .boolean), Cond.methodLink RX5 109 yX5_blow, Cond.instanceMethod yX5_blow, Cond.selects RX5 yX5_blow yX5_blow, Cond.code yX5_blow cX5_blow 5 none]
def wsX5_monthOn : List Cond := .code yX5_monthOn cX5_monthOn 2 none :: ((wsX5_monthOn_r1 ++ wsX5_monthOn_r2) ++ wsX50)
def wsX5_heads : List Cond := .code yX5_heads cX5_heads 3 (some .int) :: ([.methodLink RX5 54 yX5_isHead, .instanceMethod yX5_isHead, .selects RX5 yX5_isHead yX5_isHead, .initialized RX5, .code yX5_isHead cX5_isHead 2 (some .boolean), .fieldLink RX5 13 "ReefPilotModel" "coral" "[I"] ++ wsX50)
def wsX5_pass_r1 : List Cond := [Cond.fieldLink RX5 37 "ReefPilotModel" "thrown" "I", Cond.methodLink RX5 41 yX5_isIn, Cond.static yX5_isIn, Cond.initialized RX5, Cond.code yX5_isIn cX5_isIn 3 (some .boolean), Cond.methodLink RX5 62 yX5_fail, Cond.instanceMethod yX5_fail, Cond.selects RX5 yX5_fail yX5_fail, Cond.code yX5_fail cX5_fail 2 (some .int), Cond.methodLink RX5 112 yX5_heads, Cond.instanceMethod yX5_heads, Cond.selects RX5 yX5_heads yX5_heads, Cond.code yX5_heads cX5_heads 3 (some .int), Cond.methodLink RX5 54 yX5_isHead, Cond.instanceMethod yX5_isHead, Cond.selects RX5 yX5_isHead yX5_isHead, Cond.code yX5_isHead cX5_isHead 2 (some .boolean), Cond.fieldLink RX5 13 "ReefPilotModel" "coral" "[I", Cond.methodLink RX5 116 yX5_monthOn, Cond.instanceMethod yX5_monthOn, Cond.selects RX5 yX5_monthOn yX5_monthOn, Cond.code yX5_monthOn cX5_monthOn 2 none, Cond.fieldLink RX5 78 "ReefPilotModel" "month" "I", Cond.fieldLink RX5 22 "ReefPilotModel" "warmth" "[I"]
def wsX5_pass_r2 : List Cond := [Cond.fieldLink RX5 25 "ReefPilotModel" "storms" "[I", Cond.methodLink RX5 105 yX5_grow, Cond.instanceMethod yX5_grow, Cond.selects RX5 yX5_grow yX5_grow, Cond.code yX5_grow cX5_grow 4 none, Cond.fieldLink RX5 28 "ReefPilotModel" "next" "[I", Cond.fieldLink RX5 9 "ReefPilotModel" "ground" "[I", Cond.methodLink RX5 66 Lib.Math.min.name, Cond.static Lib.Math.min.name, Cond.initialized "java/lang/Math", Cond.code Lib.Math.min.name Lib.Math.min.code 2 (some .int), Cond.methodLink RX5 45 Lib.Math.max.name, Cond.static Lib.Math.max.name, Cond.code Lib.Math.max.name Lib.Math.max.code 2 (some .int), Cond.methodLink RX5 99 arraycopyName, Cond.native arraycopyName, Cond.static arraycopyName, Cond.initialized "java/lang/System", Cond.methodLink RX5 72 yX5_depth, Cond.instanceMethod yX5_depth, Cond.selects RX5 yX5_depth yX5_depth, Cond.code yX5_depth cX5_depth 2 (some .int), Cond.methodLink RX5 96 yX5_headsBeside, Cond.instanceMethod yX5_headsBeside]
def wsX5_pass_r3 : List Cond := [Cond.selects RX5 yX5_headsBeside yX5_headsBeside, Cond.code yX5_headsBeside cX5_headsBeside 4 (some .int), Cond.methodLink RX5 51 yX5_beside, Cond.static yX5_beside, Cond.code yX5_beside cX5_beside 2 (some .int), Cond.methodLink RX5 109 yX5_blow, Cond.instanceMethod yX5_blow, Cond.selects RX5 yX5_blow yX5_blow, Cond.code yX5_blow cX5_blow 5 none]
def wsX5_pass : List Cond := .code yX5_pass cX5_pass 4 (some .int) :: ((wsX5_pass_r1 ++ (wsX5_pass_r2 ++ wsX5_pass_r3)) ++ wsX50)
def wsX5_reefs : List Cond := .code yX5_reefs cX5_reefs 3 (some .int) :: ([.fieldLink RX5 31 "ReefPilotModel" "label" "[I", .methodLink RX5 69 yX5_mark, .instanceMethod yX5_mark, .selects RX5 yX5_mark yX5_mark, .initialized RX5, .code yX5_mark cX5_mark 5 none, .methodLink RX5 54 yX5_isHead, .instanceMethod yX5_isHead, .selects RX5 yX5_isHead yX5_isHead, .code yX5_isHead cX5_isHead 2 (some .boolean), .fieldLink RX5 13 "ReefPilotModel" "coral" "[I", .methodLink RX5 51 yX5_beside, .static yX5_beside, .code yX5_beside cX5_beside 2 (some .int)] ++ wsX50)
def wsX5_largest : List Cond := .code yX5_largest cX5_largest 5 (some .int) :: ([.fieldLink RX5 31 "ReefPilotModel" "label" "[I", .methodLink RX5 45 Lib.Math.max.name, .static Lib.Math.max.name, .initialized "java/lang/Math", .code Lib.Math.max.name Lib.Math.max.code 2 (some .int), .methodLink RX5 69 yX5_mark, .instanceMethod yX5_mark, .selects RX5 yX5_mark yX5_mark, .initialized RX5, .code yX5_mark cX5_mark 5 none, .methodLink RX5 54 yX5_isHead, .instanceMethod yX5_isHead, .selects RX5 yX5_isHead yX5_isHead, .code yX5_isHead cX5_isHead 2 (some .boolean), .fieldLink RX5 13 "ReefPilotModel" "coral" "[I", .methodLink RX5 51 yX5_beside, .static yX5_beside, .code yX5_beside cX5_beside 2 (some .int)] ++ wsX50)
def wsX5_counted_r1 : List Cond := [Cond.fieldLink RX5 78 "ReefPilotModel" "month" "I", Cond.fieldLink RX5 13 "ReefPilotModel" "coral" "[I", Cond.fieldLink RX5 16 "ReefPilotModel" "sounding" "[I", Cond.methodLink RX5 112 yX5_heads, Cond.instanceMethod yX5_heads, Cond.selects RX5 yX5_heads yX5_heads, Cond.initialized RX5, Cond.code yX5_heads cX5_heads 3 (some .int), Cond.methodLink RX5 54 yX5_isHead, Cond.instanceMethod yX5_isHead, Cond.selects RX5 yX5_isHead yX5_isHead, Cond.code yX5_isHead cX5_isHead 2 (some .boolean), Cond.methodLink RX5 119 yX5_reefs, Cond.instanceMethod yX5_reefs, Cond.selects RX5 yX5_reefs yX5_reefs, Cond.code yX5_reefs cX5_reefs 3 (some .int), Cond.fieldLink RX5 31 "ReefPilotModel" "label" "[I", Cond.methodLink RX5 69 yX5_mark, Cond.instanceMethod yX5_mark, Cond.selects RX5 yX5_mark yX5_mark, Cond.code yX5_mark cX5_mark 5 none, Cond.methodLink RX5 51 yX5_beside, Cond.static yX5_beside, Cond.code yX5_beside cX5_beside 2 (some .int)]
def wsX5_counted_r2 : List Cond := [Cond.methodLink RX5 122 yX5_largest, Cond.instanceMethod yX5_largest, Cond.selects RX5 yX5_largest yX5_largest, Cond.code yX5_largest cX5_largest 5 (some .int), Cond.methodLink RX5 45 Lib.Math.max.name, Cond.static Lib.Math.max.name, Cond.initialized "java/lang/Math", Cond.code Lib.Math.max.name Lib.Math.max.code 2 (some .int), Cond.methodLink RX5 72 yX5_depth, Cond.instanceMethod yX5_depth, Cond.selects RX5 yX5_depth yX5_depth, Cond.code yX5_depth cX5_depth 2 (some .int), Cond.fieldLink RX5 9 "ReefPilotModel" "ground" "[I"]
def wsX5_counted : List Cond := .code yX5_counted cX5_counted 7 (some .int) :: ((wsX5_counted_r1 ++ wsX5_counted_r2) ++ wsX50)
def wsX5_count_r1 : List Cond := [Cond.fieldLink RX5 37 "ReefPilotModel" "thrown" "I", Cond.methodLink RX5 41 yX5_isIn, Cond.static yX5_isIn, Cond.initialized RX5, Cond.code yX5_isIn cX5_isIn 3 (some .boolean), Cond.methodLink RX5 125 yX5_counted, Cond.instanceMethod yX5_counted, Cond.selects RX5 yX5_counted yX5_counted, Cond.code yX5_counted cX5_counted 7 (some .int), Cond.fieldLink RX5 78 "ReefPilotModel" "month" "I", Cond.fieldLink RX5 13 "ReefPilotModel" "coral" "[I", Cond.fieldLink RX5 16 "ReefPilotModel" "sounding" "[I", Cond.methodLink RX5 112 yX5_heads, Cond.instanceMethod yX5_heads, Cond.selects RX5 yX5_heads yX5_heads, Cond.code yX5_heads cX5_heads 3 (some .int), Cond.methodLink RX5 54 yX5_isHead, Cond.instanceMethod yX5_isHead, Cond.selects RX5 yX5_isHead yX5_isHead, Cond.code yX5_isHead cX5_isHead 2 (some .boolean), Cond.methodLink RX5 119 yX5_reefs, Cond.instanceMethod yX5_reefs, Cond.selects RX5 yX5_reefs yX5_reefs, Cond.code yX5_reefs cX5_reefs 3 (some .int)]
def wsX5_count_r2 : List Cond := [Cond.fieldLink RX5 31 "ReefPilotModel" "label" "[I", Cond.methodLink RX5 69 yX5_mark, Cond.instanceMethod yX5_mark, Cond.selects RX5 yX5_mark yX5_mark, Cond.code yX5_mark cX5_mark 5 none, Cond.methodLink RX5 51 yX5_beside, Cond.static yX5_beside, Cond.code yX5_beside cX5_beside 2 (some .int), Cond.methodLink RX5 122 yX5_largest, Cond.instanceMethod yX5_largest, Cond.selects RX5 yX5_largest yX5_largest, Cond.code yX5_largest cX5_largest 5 (some .int), Cond.methodLink RX5 45 Lib.Math.max.name, Cond.static Lib.Math.max.name, Cond.initialized "java/lang/Math", Cond.code Lib.Math.max.name Lib.Math.max.code 2 (some .int), Cond.methodLink RX5 72 yX5_depth, Cond.instanceMethod yX5_depth, Cond.selects RX5 yX5_depth yX5_depth, Cond.code yX5_depth cX5_depth 2 (some .int), Cond.fieldLink RX5 9 "ReefPilotModel" "ground" "[I", Cond.methodLink RX5 62 yX5_fail, Cond.instanceMethod yX5_fail, Cond.selects RX5 yX5_fail yX5_fail]
def wsX5_count_r3 : List Cond := [Cond.code yX5_fail cX5_fail 2 (some .int)]
def wsX5_count : List Cond := .code yX5_count cX5_count 2 (some .int) :: ((wsX5_count_r1 ++ (wsX5_count_r2 ++ wsX5_count_r3)) ++ wsX50)
def wsX5_bringBack : List Cond := .code yX5_bringBack cX5_bringBack 4 none :: ([.fieldLink RX5 9 "ReefPilotModel" "ground" "[I", .methodLink RX5 99 arraycopyName, .native arraycopyName, .static arraycopyName, .initialized "java/lang/System", .fieldLink RX5 13 "ReefPilotModel" "coral" "[I", .fieldLink RX5 78 "ReefPilotModel" "month" "I"] ++ wsX50)
def wsX5_closes_r1 : List Cond := [Cond.fieldLink RX5 37 "ReefPilotModel" "thrown" "I", Cond.fieldLink RX5 9 "ReefPilotModel" "ground" "[I", Cond.methodLink RX5 128 ⟨"[I", "clone", "()Ljava/lang/Object;"⟩, Cond.sameMethod "[I" "java/lang/Object" "clone" "()Ljava/lang/Object;", Cond.native ⟨"java/lang/Object", "clone", "()Ljava/lang/Object;"⟩, Cond.instanceMethod ⟨"java/lang/Object", "clone", "()Ljava/lang/Object;"⟩, Cond.selects "[I" ⟨"[I", "clone", "()Ljava/lang/Object;"⟩ ⟨"java/lang/Object", "clone", "()Ljava/lang/Object;"⟩, Cond.classLink RX5 129 "[I", Cond.fieldLink RX5 13 "ReefPilotModel" "coral" "[I", Cond.fieldLink RX5 78 "ReefPilotModel" "month" "I", Cond.methodLink RX5 41 yX5_isIn, Cond.static yX5_isIn, Cond.initialized RX5, Cond.code yX5_isIn cX5_isIn 3 (some .boolean), Cond.methodLink RX5 62 yX5_fail, Cond.instanceMethod yX5_fail, Cond.selects RX5 yX5_fail yX5_fail, Cond.code yX5_fail cX5_fail 2 (some .int), Cond.methodLink RX5 88 yX5_shortest, Cond.instanceMethod yX5_shortest, Cond.selects RX5 yX5_shortest yX5_shortest, Cond.code yX5_shortest cX5_shortest 5 (some .int), Cond.fieldLink RX5 34 "ReefPilotModel" "far" "[I", Cond.methodLink RX5 66 Lib.Math.min.name]
def wsX5_closes_r2 : List Cond := [Cond.static Lib.Math.min.name, Cond.initialized "java/lang/Math", Cond.code Lib.Math.min.name Lib.Math.min.code 2 (some .int), Cond.methodLink RX5 84 yX5_spread, Cond.instanceMethod yX5_spread, Cond.selects RX5 yX5_spread yX5_spread, Cond.code yX5_spread cX5_spread 8 none, Cond.methodLink RX5 81 yX5_charted, Cond.instanceMethod yX5_charted, Cond.selects RX5 yX5_charted yX5_charted, Cond.code yX5_charted cX5_charted 4 (some .int), Cond.fieldLink RX5 16 "ReefPilotModel" "sounding" "[I", Cond.fieldLink RX5 19 "ReefPilotModel" "taken" "[I", Cond.methodLink RX5 45 Lib.Math.max.name, Cond.static Lib.Math.max.name, Cond.code Lib.Math.max.name Lib.Math.max.code 2 (some .int), Cond.methodLink RX5 72 yX5_depth, Cond.instanceMethod yX5_depth, Cond.selects RX5 yX5_depth yX5_depth, Cond.code yX5_depth cX5_depth 2 (some .int), Cond.methodLink RX5 51 yX5_beside, Cond.static yX5_beside, Cond.code yX5_beside cX5_beside 2 (some .int), Cond.methodLink RX5 116 yX5_monthOn]
def wsX5_closes_r3 : List Cond := [Cond.instanceMethod yX5_monthOn, Cond.selects RX5 yX5_monthOn yX5_monthOn, Cond.code yX5_monthOn cX5_monthOn 2 none, Cond.fieldLink RX5 22 "ReefPilotModel" "warmth" "[I", Cond.fieldLink RX5 25 "ReefPilotModel" "storms" "[I", Cond.methodLink RX5 105 yX5_grow, Cond.instanceMethod yX5_grow, Cond.selects RX5 yX5_grow yX5_grow, Cond.code yX5_grow cX5_grow 4 none, Cond.fieldLink RX5 28 "ReefPilotModel" "next" "[I", Cond.methodLink RX5 99 arraycopyName, Cond.native arraycopyName, Cond.static arraycopyName, Cond.initialized "java/lang/System", Cond.methodLink RX5 96 yX5_headsBeside, Cond.instanceMethod yX5_headsBeside, Cond.selects RX5 yX5_headsBeside yX5_headsBeside, Cond.code yX5_headsBeside cX5_headsBeside 4 (some .int), Cond.methodLink RX5 54 yX5_isHead, Cond.instanceMethod yX5_isHead, Cond.selects RX5 yX5_isHead yX5_isHead, Cond.code yX5_isHead cX5_isHead 2 (some .boolean), Cond.methodLink RX5 109 yX5_blow, Cond.instanceMethod yX5_blow]
def wsX5_closes_r4 : List Cond := [Cond.selects RX5 yX5_blow yX5_blow, Cond.code yX5_blow cX5_blow 5 none, Cond.methodLink RX5 133 yX5_bringBack, Cond.instanceMethod yX5_bringBack, Cond.selects RX5 yX5_bringBack yX5_bringBack, Cond.code yX5_bringBack cX5_bringBack 4 none]
def wsX5_closes : List Cond := .code yX5_closes cX5_closes 6 (some .int) :: ((wsX5_closes_r1 ++ (wsX5_closes_r2 ++ (wsX5_closes_r3 ++ wsX5_closes_r4))) ++ wsX50)
def wsX5_foresee_r1 : List Cond := [Cond.fieldLink RX5 37 "ReefPilotModel" "thrown" "I", Cond.fieldLink RX5 9 "ReefPilotModel" "ground" "[I", Cond.methodLink RX5 128 ⟨"[I", "clone", "()Ljava/lang/Object;"⟩, Cond.sameMethod "[I" "java/lang/Object" "clone" "()Ljava/lang/Object;", Cond.native ⟨"java/lang/Object", "clone", "()Ljava/lang/Object;"⟩, Cond.instanceMethod ⟨"java/lang/Object", "clone", "()Ljava/lang/Object;"⟩, Cond.selects "[I" ⟨"[I", "clone", "()Ljava/lang/Object;"⟩ ⟨"java/lang/Object", "clone", "()Ljava/lang/Object;"⟩, Cond.classLink RX5 129 "[I", Cond.fieldLink RX5 13 "ReefPilotModel" "coral" "[I", Cond.fieldLink RX5 78 "ReefPilotModel" "month" "I", Cond.methodLink RX5 41 yX5_isIn, Cond.static yX5_isIn, Cond.initialized RX5, Cond.code yX5_isIn cX5_isIn 3 (some .boolean), Cond.methodLink RX5 62 yX5_fail, Cond.instanceMethod yX5_fail, Cond.selects RX5 yX5_fail yX5_fail, Cond.code yX5_fail cX5_fail 2 (some .int), Cond.methodLink RX5 116 yX5_monthOn, Cond.instanceMethod yX5_monthOn, Cond.selects RX5 yX5_monthOn yX5_monthOn, Cond.code yX5_monthOn cX5_monthOn 2 none, Cond.fieldLink RX5 22 "ReefPilotModel" "warmth" "[I", Cond.fieldLink RX5 25 "ReefPilotModel" "storms" "[I"]
def wsX5_foresee_r2 : List Cond := [Cond.methodLink RX5 105 yX5_grow, Cond.instanceMethod yX5_grow, Cond.selects RX5 yX5_grow yX5_grow, Cond.code yX5_grow cX5_grow 4 none, Cond.fieldLink RX5 28 "ReefPilotModel" "next" "[I", Cond.methodLink RX5 66 Lib.Math.min.name, Cond.static Lib.Math.min.name, Cond.initialized "java/lang/Math", Cond.code Lib.Math.min.name Lib.Math.min.code 2 (some .int), Cond.methodLink RX5 45 Lib.Math.max.name, Cond.static Lib.Math.max.name, Cond.code Lib.Math.max.name Lib.Math.max.code 2 (some .int), Cond.methodLink RX5 99 arraycopyName, Cond.native arraycopyName, Cond.static arraycopyName, Cond.initialized "java/lang/System", Cond.methodLink RX5 72 yX5_depth, Cond.instanceMethod yX5_depth, Cond.selects RX5 yX5_depth yX5_depth, Cond.code yX5_depth cX5_depth 2 (some .int), Cond.methodLink RX5 96 yX5_headsBeside, Cond.instanceMethod yX5_headsBeside, Cond.selects RX5 yX5_headsBeside yX5_headsBeside, Cond.code yX5_headsBeside cX5_headsBeside 4 (some .int)]
def wsX5_foresee_r3 : List Cond := [Cond.methodLink RX5 51 yX5_beside, Cond.static yX5_beside, Cond.code yX5_beside cX5_beside 2 (some .int), Cond.methodLink RX5 54 yX5_isHead, Cond.instanceMethod yX5_isHead, Cond.selects RX5 yX5_isHead yX5_isHead, Cond.code yX5_isHead cX5_isHead 2 (some .boolean), Cond.methodLink RX5 109 yX5_blow, Cond.instanceMethod yX5_blow, Cond.selects RX5 yX5_blow yX5_blow, Cond.code yX5_blow cX5_blow 5 none, Cond.methodLink RX5 112 yX5_heads, Cond.instanceMethod yX5_heads, Cond.selects RX5 yX5_heads yX5_heads, Cond.code yX5_heads cX5_heads 3 (some .int), Cond.methodLink RX5 119 yX5_reefs, Cond.instanceMethod yX5_reefs, Cond.selects RX5 yX5_reefs yX5_reefs, Cond.code yX5_reefs cX5_reefs 3 (some .int), Cond.fieldLink RX5 31 "ReefPilotModel" "label" "[I", Cond.methodLink RX5 69 yX5_mark, Cond.instanceMethod yX5_mark, Cond.selects RX5 yX5_mark yX5_mark, Cond.code yX5_mark cX5_mark 5 none]
def wsX5_foresee_r4 : List Cond := [Cond.methodLink RX5 92 yX5_most, Cond.instanceMethod yX5_most, Cond.selects RX5 yX5_most yX5_most, Cond.code yX5_most cX5_most 3 (some .int), Cond.methodLink RX5 88 yX5_shortest, Cond.instanceMethod yX5_shortest, Cond.selects RX5 yX5_shortest yX5_shortest, Cond.code yX5_shortest cX5_shortest 5 (some .int), Cond.fieldLink RX5 34 "ReefPilotModel" "far" "[I", Cond.methodLink RX5 84 yX5_spread, Cond.instanceMethod yX5_spread, Cond.selects RX5 yX5_spread yX5_spread, Cond.code yX5_spread cX5_spread 8 none, Cond.methodLink RX5 81 yX5_charted, Cond.instanceMethod yX5_charted, Cond.selects RX5 yX5_charted yX5_charted, Cond.code yX5_charted cX5_charted 4 (some .int), Cond.fieldLink RX5 16 "ReefPilotModel" "sounding" "[I", Cond.fieldLink RX5 19 "ReefPilotModel" "taken" "[I", Cond.methodLink RX5 133 yX5_bringBack, Cond.instanceMethod yX5_bringBack, Cond.selects RX5 yX5_bringBack yX5_bringBack, Cond.code yX5_bringBack cX5_bringBack 4 none]
def wsX5_foresee : List Cond := .code yX5_foresee cX5_foresee 7 (some .int) :: ((wsX5_foresee_r1 ++ (wsX5_foresee_r2 ++ (wsX5_foresee_r3 ++ wsX5_foresee_r4))) ++ wsX50)
def wsX5_advise : List Cond := .code yX5_advise cX5_advise 5 (some .int) :: ([.fieldLink RX5 37 "ReefPilotModel" "thrown" "I", .methodLink RX5 45 Lib.Math.max.name, .static Lib.Math.max.name, .initialized "java/lang/Math", .code Lib.Math.max.name Lib.Math.max.code 2 (some .int), .methodLink RX5 81 yX5_charted, .instanceMethod yX5_charted, .selects RX5 yX5_charted yX5_charted, .initialized RX5, .code yX5_charted cX5_charted 4 (some .int), .fieldLink RX5 16 "ReefPilotModel" "sounding" "[I", .fieldLink RX5 78 "ReefPilotModel" "month" "I", .fieldLink RX5 19 "ReefPilotModel" "taken" "[I", .methodLink RX5 72 yX5_depth, .instanceMethod yX5_depth, .selects RX5 yX5_depth yX5_depth, .code yX5_depth cX5_depth 2 (some .int), .fieldLink RX5 9 "ReefPilotModel" "ground" "[I", .fieldLink RX5 13 "ReefPilotModel" "coral" "[I"] ++ wsX50)
def wsX5_mean : List Cond := .code yX5_mean cX5_mean 3 (some .double) :: ([.fieldLink RX5 37 "ReefPilotModel" "thrown" "I", .constantDouble RX5 137 (4635400285215260672), .methodLink RX5 72 yX5_depth, .instanceMethod yX5_depth, .selects RX5 yX5_depth yX5_depth, .initialized RX5, .code yX5_depth cX5_depth 2 (some .int), .fieldLink RX5 9 "ReefPilotModel" "ground" "[I", .fieldLink RX5 13 "ReefPilotModel" "coral" "[I", .methodLink RX5 45 Lib.Math.max.name, .static Lib.Math.max.name, .initialized "java/lang/Math", .code Lib.Math.max.name Lib.Math.max.code 2 (some .int)] ++ wsX50)
def wsX5_digest_r1 : List Cond := [Cond.fieldLink RX5 37 "ReefPilotModel" "thrown" "I", Cond.constantLong RX5 139 (787), Cond.constantLong RX5 141 (31), Cond.fieldLink RX5 22 "ReefPilotModel" "warmth" "[I", Cond.fieldLink RX5 25 "ReefPilotModel" "storms" "[I", Cond.fieldLink RX5 9 "ReefPilotModel" "ground" "[I", Cond.fieldLink RX5 13 "ReefPilotModel" "coral" "[I", Cond.methodLink RX5 125 yX5_counted, Cond.instanceMethod yX5_counted, Cond.selects RX5 yX5_counted yX5_counted, Cond.initialized RX5, Cond.code yX5_counted cX5_counted 7 (some .int), Cond.fieldLink RX5 78 "ReefPilotModel" "month" "I", Cond.fieldLink RX5 16 "ReefPilotModel" "sounding" "[I", Cond.methodLink RX5 112 yX5_heads, Cond.instanceMethod yX5_heads, Cond.selects RX5 yX5_heads yX5_heads, Cond.code yX5_heads cX5_heads 3 (some .int), Cond.methodLink RX5 54 yX5_isHead, Cond.instanceMethod yX5_isHead, Cond.selects RX5 yX5_isHead yX5_isHead, Cond.code yX5_isHead cX5_isHead 2 (some .boolean), Cond.methodLink RX5 119 yX5_reefs, Cond.instanceMethod yX5_reefs]
def wsX5_digest_r2 : List Cond := [Cond.selects RX5 yX5_reefs yX5_reefs, Cond.code yX5_reefs cX5_reefs 3 (some .int), Cond.fieldLink RX5 31 "ReefPilotModel" "label" "[I", Cond.methodLink RX5 69 yX5_mark, Cond.instanceMethod yX5_mark, Cond.selects RX5 yX5_mark yX5_mark, Cond.code yX5_mark cX5_mark 5 none, Cond.methodLink RX5 51 yX5_beside, Cond.static yX5_beside, Cond.code yX5_beside cX5_beside 2 (some .int), Cond.methodLink RX5 122 yX5_largest, Cond.instanceMethod yX5_largest, Cond.selects RX5 yX5_largest yX5_largest, Cond.code yX5_largest cX5_largest 5 (some .int), Cond.methodLink RX5 45 Lib.Math.max.name, Cond.static Lib.Math.max.name, Cond.initialized "java/lang/Math", Cond.code Lib.Math.max.name Lib.Math.max.code 2 (some .int), Cond.methodLink RX5 72 yX5_depth, Cond.instanceMethod yX5_depth, Cond.selects RX5 yX5_depth yX5_depth, Cond.code yX5_depth cX5_depth 2 (some .int), Cond.methodLink RX5 81 yX5_charted, Cond.instanceMethod yX5_charted]
def wsX5_digest_r3 : List Cond := [Cond.selects RX5 yX5_charted yX5_charted, Cond.code yX5_charted cX5_charted 4 (some .int), Cond.fieldLink RX5 19 "ReefPilotModel" "taken" "[I"]
def wsX5_digest : List Cond := .code yX5_digest cX5_digest 5 (some .long) :: ((wsX5_digest_r1 ++ (wsX5_digest_r2 ++ wsX5_digest_r3)) ++ wsX50)
def wsJ9_max_7cf53 : List Cond := .code yJ9_max_7cf53 cJ9_max_7cf53 2 (some .int) :: ([])
def wsJ9_min_7cf53 : List Cond := .code yJ9_min_7cf53 cJ9_min_7cf53 2 (some .int) :: ([])
def wsL_setGround_r1 : List Cond := [Cond.classLink RL 13 "java/lang/IndexOutOfBoundsException", Cond.classLink RL 15 "java/lang/IllegalArgumentException", Cond.methodLink RL 7 yX4_setGround, Cond.instanceMethod yX4_setGround, Cond.selects RX4 yX4_setGround yX4_setGround, Cond.initialized RX4, Cond.code yX4_setGround cX4_setGround 4 (some .int), Cond.fieldLink RX4 19 "ReefPilot" "coast" "LReefPilot$Coast;", Cond.methodLink RX4 44 yX4_needCell, Cond.static yX4_needCell, Cond.code yX4_needCell cX4_needCell 2 none, Cond.methodLink RX4 63 yX4_needIndex, Cond.static yX4_needIndex, Cond.code yX4_needIndex cX4_needIndex 2 none, Cond.classLink RX4 156 "java/lang/IndexOutOfBoundsException", Cond.initialized "java/lang/IndexOutOfBoundsException", Cond.methodLink RX4 48 yX4_needWithin, Cond.static yX4_needWithin, Cond.code yX4_needWithin cX4_needWithin 3 none, Cond.classLink RX4 163 "java/lang/IllegalArgumentException", Cond.initialized "java/lang/IllegalArgumentException", Cond.methodLink RX4 52 yX0_layGround, Cond.instanceMethod yX0_layGround, Cond.selects RX0 yX0_layGround yX0_layGround]
def wsL_setGround_r2 : List Cond := [Cond.initialized RX0, Cond.code yX0_layGround cX0_layGround 4 (some .int), Cond.fieldLink RX0 9 "ReefPilot$Coast" "ground" "[I", Cond.fieldLink RX0 15 "ReefPilot$Coast" "coral" "[I", Cond.methodLink RX0 38 Lib.Math.min.name, Cond.static Lib.Math.min.name, Cond.initialized "java/lang/Math", Cond.code Lib.Math.min.name Lib.Math.min.code 2 (some .int)]
def wsL_setGround : List Cond := .codeWith yL_setGround cL_setGround 6 (some .int) [(0, 12, 15, 13), (0, 12, 19, 15)] :: ((wsL_setGround_r1 ++ wsL_setGround_r2) ++ wsX40 ++ wsX00 ++ (vx_atS RX4 160 "java/lang/IndexOutOfBoundsException" ["java/lang/RuntimeException", "java/lang/Exception"]).filter goodWord ++ (vx_atS RX4 167 "java/lang/IllegalArgumentException" ["java/lang/RuntimeException", "java/lang/Exception"]).filter goodWord)
def wsL_plant_r1 : List Cond := [Cond.classLink RL 13 "java/lang/IndexOutOfBoundsException", Cond.classLink RL 15 "java/lang/IllegalArgumentException", Cond.methodLink RL 17 yX4_plant, Cond.instanceMethod yX4_plant, Cond.selects RX4 yX4_plant yX4_plant, Cond.initialized RX4, Cond.code yX4_plant cX4_plant 4 (some .int), Cond.fieldLink RX4 19 "ReefPilot" "coast" "LReefPilot$Coast;", Cond.methodLink RX4 44 yX4_needCell, Cond.static yX4_needCell, Cond.code yX4_needCell cX4_needCell 2 none, Cond.methodLink RX4 63 yX4_needIndex, Cond.static yX4_needIndex, Cond.code yX4_needIndex cX4_needIndex 2 none, Cond.classLink RX4 156 "java/lang/IndexOutOfBoundsException", Cond.initialized "java/lang/IndexOutOfBoundsException", Cond.methodLink RX4 56 yX0_groundOf, Cond.instanceMethod yX0_groundOf, Cond.selects RX0 yX0_groundOf yX0_groundOf, Cond.initialized RX0, Cond.code yX0_groundOf cX0_groundOf 2 (some .int), Cond.fieldLink RX0 9 "ReefPilot$Coast" "ground" "[I", Cond.methodLink RX4 48 yX4_needWithin, Cond.static yX4_needWithin]
def wsL_plant_r2 : List Cond := [Cond.code yX4_needWithin cX4_needWithin 3 none, Cond.classLink RX4 163 "java/lang/IllegalArgumentException", Cond.initialized "java/lang/IllegalArgumentException", Cond.methodLink RX4 60 yX0_setCoral, Cond.instanceMethod yX0_setCoral, Cond.selects RX0 yX0_setCoral yX0_setCoral, Cond.code yX0_setCoral cX0_setCoral 4 (some .int), Cond.fieldLink RX0 15 "ReefPilot$Coast" "coral" "[I"]
def wsL_plant : List Cond := .codeWith yL_plant cL_plant 6 (some .int) [(0, 12, 15, 13), (0, 12, 19, 15)] :: ((wsL_plant_r1 ++ wsL_plant_r2) ++ wsX40 ++ wsX00 ++ (vx_atS RX4 160 "java/lang/IndexOutOfBoundsException" ["java/lang/RuntimeException", "java/lang/Exception"]).filter goodWord ++ (vx_atS RX4 167 "java/lang/IllegalArgumentException" ["java/lang/RuntimeException", "java/lang/Exception"]).filter goodWord)
def wsL_setMonth_r1 : List Cond := [Cond.classLink RL 13 "java/lang/IndexOutOfBoundsException", Cond.classLink RL 15 "java/lang/IllegalArgumentException", Cond.methodLink RL 20 yX4_setMonth, Cond.instanceMethod yX4_setMonth, Cond.selects RX4 yX4_setMonth yX4_setMonth, Cond.initialized RX4, Cond.code yX4_setMonth cX4_setMonth 5 (some .int), Cond.fieldLink RX4 12 "ReefPilot" "table" "LReefPilot$Table;", Cond.methodLink RX4 63 yX4_needIndex, Cond.static yX4_needIndex, Cond.code yX4_needIndex cX4_needIndex 2 none, Cond.classLink RX4 156 "java/lang/IndexOutOfBoundsException", Cond.initialized "java/lang/IndexOutOfBoundsException", Cond.methodLink RX4 48 yX4_needWithin, Cond.static yX4_needWithin, Cond.code yX4_needWithin cX4_needWithin 3 none, Cond.classLink RX4 163 "java/lang/IllegalArgumentException", Cond.initialized "java/lang/IllegalArgumentException", Cond.methodLink RX4 66 yX3_entry, Cond.instanceMethod yX3_entry, Cond.selects RX3 yX3_entry yX3_entry, Cond.initialized RX3, Cond.code yX3_entry cX3_entry 2 (some .int), Cond.fieldLink RX3 9 "ReefPilot$Table" "warmth" "[I"]
def wsL_setMonth_r2 : List Cond := [Cond.fieldLink RX3 15 "ReefPilot$Table" "storm" "[I", Cond.methodLink RX4 69 yX3_write, Cond.instanceMethod yX3_write, Cond.selects RX3 yX3_write yX3_write, Cond.code yX3_write cX3_write 4 none]
def wsL_setMonth : List Cond := .codeWith yL_setMonth cL_setMonth 6 (some .int) [(0, 12, 15, 13), (0, 12, 19, 15)] :: ((wsL_setMonth_r1 ++ wsL_setMonth_r2) ++ wsX40 ++ wsX30 ++ (vx_atS RX4 160 "java/lang/IndexOutOfBoundsException" ["java/lang/RuntimeException", "java/lang/Exception"]).filter goodWord ++ (vx_atS RX4 167 "java/lang/IllegalArgumentException" ["java/lang/RuntimeException", "java/lang/Exception"]).filter goodWord)
def wsL_cell_r1 : List Cond := [Cond.classLink RL 13 "java/lang/IndexOutOfBoundsException", Cond.methodLink RL 23 yX4_cell, Cond.instanceMethod yX4_cell, Cond.selects RX4 yX4_cell yX4_cell, Cond.initialized RX4, Cond.code yX4_cell cX4_cell 5 (some .int), Cond.fieldLink RX4 19 "ReefPilot" "coast" "LReefPilot$Coast;", Cond.methodLink RX4 44 yX4_needCell, Cond.static yX4_needCell, Cond.code yX4_needCell cX4_needCell 2 none, Cond.methodLink RX4 63 yX4_needIndex, Cond.static yX4_needIndex, Cond.code yX4_needIndex cX4_needIndex 2 none, Cond.classLink RX4 156 "java/lang/IndexOutOfBoundsException", Cond.initialized "java/lang/IndexOutOfBoundsException", Cond.methodLink RX4 56 yX0_groundOf, Cond.instanceMethod yX0_groundOf, Cond.selects RX0 yX0_groundOf yX0_groundOf, Cond.initialized RX0, Cond.code yX0_groundOf cX0_groundOf 2 (some .int), Cond.fieldLink RX0 9 "ReefPilot$Coast" "ground" "[I", Cond.methodLink RX4 72 yX0_coralOf, Cond.instanceMethod yX0_coralOf, Cond.selects RX0 yX0_coralOf yX0_coralOf]
def wsL_cell_r2 : List Cond := [Cond.code yX0_coralOf cX0_coralOf 2 (some .int), Cond.fieldLink RX0 15 "ReefPilot$Coast" "coral" "[I", Cond.methodLink RX4 75 yX0_depthOf, Cond.instanceMethod yX0_depthOf, Cond.selects RX0 yX0_depthOf yX0_depthOf, Cond.code yX0_depthOf cX0_depthOf 2 (some .int), Cond.methodLink RX0 44 Lib.Math.max.name, Cond.static Lib.Math.max.name, Cond.initialized "java/lang/Math", Cond.code Lib.Math.max.name Lib.Math.max.code 2 (some .int), Cond.methodLink RX4 78 yX0_isHead, Cond.instanceMethod yX0_isHead, Cond.selects RX0 yX0_isHead yX0_isHead, Cond.code yX0_isHead cX0_isHead 2 (some .boolean), Cond.methodLink RX4 82 yX4_headsOfReefAt, Cond.instanceMethod yX4_headsOfReefAt, Cond.selects RX4 yX4_headsOfReefAt yX4_headsOfReefAt, Cond.code yX4_headsOfReefAt cX4_headsOfReefAt 2 (some .int), Cond.fieldLink RX4 36 "ReefPilot" "spread" "LReefPilot$Spread;", Cond.methodLink RX4 186 yX4_openHeads, Cond.instanceMethod yX4_openHeads, Cond.selects RX4 yX4_openHeads yX4_openHeads, Cond.code yX4_openHeads cX4_openHeads 3 none, Cond.methodLink RX4 192 yX2_clear]
def wsL_cell_r3 : List Cond := [Cond.instanceMethod yX2_clear, Cond.selects RX2 yX2_clear yX2_clear, Cond.initialized RX2, Cond.code yX2_clear cX2_clear 1 none, Cond.fieldLink RX2 15 "ReefPilot$Spread" "steps" "[I", Cond.fieldLink RX2 28 "ReefPilot$Spread" "reachedCells" "I", Cond.methodLink RX2 22 yJ7_fill_53178, Cond.static yJ7_fill_53178, Cond.initialized RJ7, Cond.code yJ7_fill_53178 cJ7_fill_53178 4 none, Cond.methodLink RX4 195 yX2_setOpen, Cond.instanceMethod yX2_setOpen, Cond.selects RX2 yX2_setOpen yX2_setOpen, Cond.code yX2_setOpen cX2_setOpen 3 none, Cond.fieldLink RX2 9 "ReefPilot$Spread" "open" "[Z", Cond.methodLink RX4 189 yX2_goFromCell, Cond.instanceMethod yX2_goFromCell, Cond.selects RX2 yX2_goFromCell yX2_goFromCell, Cond.code yX2_goFromCell cX2_goFromCell 3 (some .int), Cond.methodLink RX2 32 yX2_reach, Cond.instanceMethod yX2_reach, Cond.selects RX2 yX2_reach yX2_reach, Cond.code yX2_reach cX2_reach 3 none, Cond.fieldLink RX2 19 "ReefPilot$Spread" "reached" "[I"]
def wsL_cell_r4 : List Cond := [Cond.methodLink RX2 36 yX2_goOnFrom, Cond.instanceMethod yX2_goOnFrom, Cond.selects RX2 yX2_goOnFrom yX2_goOnFrom, Cond.code yX2_goOnFrom cX2_goOnFrom 6 none, Cond.static yX4_neighbour, Cond.code yX4_neighbour cX4_neighbour 3 (some .int)]
def wsL_cell : List Cond := .codeWith yL_cell cL_cell 6 (some .int) [(0, 12, 15, 13)] :: ((wsL_cell_r1 ++ (wsL_cell_r2 ++ (wsL_cell_r3 ++ wsL_cell_r4))) ++ wsX40 ++ wsX00 ++ wsX20 ++ (vx_atS RX4 160 "java/lang/IndexOutOfBoundsException" ["java/lang/RuntimeException", "java/lang/Exception"]).filter goodWord)
def wsL_sound_r1 : List Cond := [Cond.classLink RL 13 "java/lang/IndexOutOfBoundsException", Cond.methodLink RL 26 yX4_sound, Cond.instanceMethod yX4_sound, Cond.selects RX4 yX4_sound yX4_sound, Cond.initialized RX4, Cond.code yX4_sound cX4_sound 6 (some .int), Cond.fieldLink RX4 29 "ReefPilot" "soundings" "LReefPilot$Soundings;", Cond.fieldLink RX4 19 "ReefPilot" "coast" "LReefPilot$Coast;", Cond.methodLink RX4 44 yX4_needCell, Cond.static yX4_needCell, Cond.code yX4_needCell cX4_needCell 2 none, Cond.methodLink RX4 63 yX4_needIndex, Cond.static yX4_needIndex, Cond.code yX4_needIndex cX4_needIndex 2 none, Cond.classLink RX4 156 "java/lang/IndexOutOfBoundsException", Cond.initialized "java/lang/IndexOutOfBoundsException", Cond.methodLink RX4 85 yX1_noted, Cond.instanceMethod yX1_noted, Cond.selects RX1 yX1_noted yX1_noted, Cond.initialized RX1, Cond.code yX1_noted cX1_noted 2 (some .int), Cond.fieldLink RX1 9 "ReefPilot$Soundings" "depth" "[I", Cond.methodLink RX4 75 yX0_depthOf, Cond.instanceMethod yX0_depthOf]
def wsL_sound_r2 : List Cond := [Cond.selects RX0 yX0_depthOf yX0_depthOf, Cond.initialized RX0, Cond.code yX0_depthOf cX0_depthOf 2 (some .int), Cond.fieldLink RX0 9 "ReefPilot$Coast" "ground" "[I", Cond.fieldLink RX0 15 "ReefPilot$Coast" "coral" "[I", Cond.methodLink RX0 44 Lib.Math.max.name, Cond.static Lib.Math.max.name, Cond.initialized "java/lang/Math", Cond.code Lib.Math.max.name Lib.Math.max.code 2 (some .int), Cond.methodLink RX4 88 yX0_monthNow, Cond.instanceMethod yX0_monthNow, Cond.selects RX0 yX0_monthNow yX0_monthNow, Cond.code yX0_monthNow cX0_monthNow 1 (some .int), Cond.fieldLink RX0 34 "ReefPilot$Coast" "month" "I", Cond.methodLink RX4 92 yX1_note, Cond.instanceMethod yX1_note, Cond.selects RX1 yX1_note yX1_note, Cond.code yX1_note cX1_note 4 none, Cond.fieldLink RX1 15 "ReefPilot$Soundings" "takenIn" "[I"]
def wsL_sound : List Cond := .codeWith yL_sound cL_sound 5 (some .int) [(0, 10, 13, 13)] :: ((wsL_sound_r1 ++ wsL_sound_r2) ++ wsX40 ++ wsX10 ++ wsX00 ++ (vx_atS RX4 160 "java/lang/IndexOutOfBoundsException" ["java/lang/RuntimeException", "java/lang/Exception"]).filter goodWord)
def wsL_chart_r1 : List Cond := [Cond.classLink RL 13 "java/lang/IndexOutOfBoundsException", Cond.methodLink RL 30 yX4_chart, Cond.instanceMethod yX4_chart, Cond.selects RX4 yX4_chart yX4_chart, Cond.initialized RX4, Cond.code yX4_chart cX4_chart 4 (some .int), Cond.methodLink RX4 44 yX4_needCell, Cond.static yX4_needCell, Cond.code yX4_needCell cX4_needCell 2 none, Cond.methodLink RX4 63 yX4_needIndex, Cond.static yX4_needIndex, Cond.code yX4_needIndex cX4_needIndex 2 none, Cond.classLink RX4 156 "java/lang/IndexOutOfBoundsException", Cond.initialized "java/lang/IndexOutOfBoundsException", Cond.methodLink RX4 95 yX4_chartAnswer, Cond.instanceMethod yX4_chartAnswer, Cond.selects RX4 yX4_chartAnswer yX4_chartAnswer, Cond.code yX4_chartAnswer cX4_chartAnswer 3 (some .int), Cond.fieldLink RX4 29 "ReefPilot" "soundings" "LReefPilot$Soundings;", Cond.fieldLink RX4 19 "ReefPilot" "coast" "LReefPilot$Coast;", Cond.methodLink RX4 85 yX1_noted, Cond.instanceMethod yX1_noted, Cond.selects RX1 yX1_noted yX1_noted, Cond.initialized RX1]
def wsL_chart_r2 : List Cond := [Cond.code yX1_noted cX1_noted 2 (some .int), Cond.fieldLink RX1 9 "ReefPilot$Soundings" "depth" "[I", Cond.methodLink RX4 88 yX0_monthNow, Cond.instanceMethod yX0_monthNow, Cond.selects RX0 yX0_monthNow yX0_monthNow, Cond.initialized RX0, Cond.code yX0_monthNow cX0_monthNow 1 (some .int), Cond.fieldLink RX0 34 "ReefPilot$Coast" "month" "I", Cond.methodLink RX4 183 yX1_age, Cond.instanceMethod yX1_age, Cond.selects RX1 yX1_age yX1_age, Cond.code yX1_age cX1_age 3 (some .int), Cond.fieldLink RX1 15 "ReefPilot$Soundings" "takenIn" "[I", Cond.methodLink RX4 142 yX4_safeDepth, Cond.instanceMethod yX4_safeDepth, Cond.selects RX4 yX4_safeDepth yX4_safeDepth, Cond.code yX4_safeDepth cX4_safeDepth 3 (some .int), Cond.methodLink RX4 145 Lib.Math.max.name, Cond.static Lib.Math.max.name, Cond.initialized "java/lang/Math", Cond.code Lib.Math.max.name Lib.Math.max.code 2 (some .int)]
def wsL_chart : List Cond := .codeWith yL_chart cL_chart 6 (some .int) [(0, 12, 15, 13)] :: ((wsL_chart_r1 ++ wsL_chart_r2) ++ wsX40 ++ wsX10 ++ wsX00 ++ (vx_atS RX4 160 "java/lang/IndexOutOfBoundsException" ["java/lang/RuntimeException", "java/lang/Exception"]).filter goodWord)
def wsL_way_r1 : List Cond := [Cond.classLink RL 15 "java/lang/IllegalArgumentException", Cond.methodLink RL 33 yX4_way, Cond.instanceMethod yX4_way, Cond.selects RX4 yX4_way yX4_way, Cond.initialized RX4, Cond.code yX4_way cX4_way 4 (some .int), Cond.fieldLink RX4 36 "ReefPilot" "spread" "LReefPilot$Spread;", Cond.methodLink RX4 48 yX4_needWithin, Cond.static yX4_needWithin, Cond.code yX4_needWithin cX4_needWithin 3 none, Cond.classLink RX4 163 "java/lang/IllegalArgumentException", Cond.initialized "java/lang/IllegalArgumentException", Cond.methodLink RX4 98 yX4_countOn, Cond.instanceMethod yX4_countOn, Cond.selects RX4 yX4_countOn yX4_countOn, Cond.code yX4_countOn cX4_countOn 2 none, Cond.fieldLink RX4 19 "ReefPilot" "coast" "LReefPilot$Coast;", Cond.methodLink RX4 199 yX4_countOnChart, Cond.instanceMethod yX4_countOnChart, Cond.selects RX4 yX4_countOnChart yX4_countOnChart, Cond.code yX4_countOnChart cX4_countOnChart 2 none, Cond.fieldLink RX4 40 "ReefPilot" "water" "[I", Cond.methodLink RX4 142 yX4_safeDepth, Cond.instanceMethod yX4_safeDepth]
def wsL_way_r2 : List Cond := [Cond.selects RX4 yX4_safeDepth yX4_safeDepth, Cond.code yX4_safeDepth cX4_safeDepth 3 (some .int), Cond.fieldLink RX4 29 "ReefPilot" "soundings" "LReefPilot$Soundings;", Cond.methodLink RX4 145 Lib.Math.max.name, Cond.static Lib.Math.max.name, Cond.initialized "java/lang/Math", Cond.code Lib.Math.max.name Lib.Math.max.code 2 (some .int), Cond.methodLink RX4 85 yX1_noted, Cond.instanceMethod yX1_noted, Cond.selects RX1 yX1_noted yX1_noted, Cond.initialized RX1, Cond.code yX1_noted cX1_noted 2 (some .int), Cond.fieldLink RX1 9 "ReefPilot$Soundings" "depth" "[I", Cond.methodLink RX4 88 yX0_monthNow, Cond.instanceMethod yX0_monthNow, Cond.selects RX0 yX0_monthNow yX0_monthNow, Cond.initialized RX0, Cond.code yX0_monthNow cX0_monthNow 1 (some .int), Cond.fieldLink RX0 34 "ReefPilot$Coast" "month" "I", Cond.methodLink RX4 183 yX1_age, Cond.instanceMethod yX1_age, Cond.selects RX1 yX1_age yX1_age, Cond.code yX1_age cX1_age 3 (some .int), Cond.fieldLink RX1 15 "ReefPilot$Soundings" "takenIn" "[I"]
def wsL_way_r3 : List Cond := [Cond.methodLink RX4 135 yX4_countOnDepths, Cond.instanceMethod yX4_countOnDepths, Cond.selects RX4 yX4_countOnDepths yX4_countOnDepths, Cond.code yX4_countOnDepths cX4_countOnDepths 3 none, Cond.methodLink RX4 75 yX0_depthOf, Cond.instanceMethod yX0_depthOf, Cond.selects RX0 yX0_depthOf yX0_depthOf, Cond.code yX0_depthOf cX0_depthOf 2 (some .int), Cond.fieldLink RX0 9 "ReefPilot$Coast" "ground" "[I", Cond.fieldLink RX0 15 "ReefPilot$Coast" "coral" "[I", Cond.methodLink RX0 44 Lib.Math.max.name, Cond.methodLink RX4 102 yX4_startOfShortestWay, Cond.instanceMethod yX4_startOfShortestWay, Cond.selects RX4 yX4_startOfShortestWay yX4_startOfShortestWay, Cond.code yX4_startOfShortestWay cX4_startOfShortestWay 5 (some .int), Cond.methodLink RX4 111 yX4_openWater, Cond.instanceMethod yX4_openWater, Cond.selects RX4 yX4_openWater yX4_openWater, Cond.code yX4_openWater cX4_openWater 3 none, Cond.methodLink RX4 192 yX2_clear, Cond.instanceMethod yX2_clear, Cond.selects RX2 yX2_clear yX2_clear, Cond.initialized RX2, Cond.code yX2_clear cX2_clear 1 none]
def wsL_way_r4 : List Cond := [Cond.fieldLink RX2 15 "ReefPilot$Spread" "steps" "[I", Cond.fieldLink RX2 28 "ReefPilot$Spread" "reachedCells" "I", Cond.methodLink RX2 22 yJ7_fill_53178, Cond.static yJ7_fill_53178, Cond.initialized RJ7, Cond.code yJ7_fill_53178 cJ7_fill_53178 4 none, Cond.methodLink RX4 195 yX2_setOpen, Cond.instanceMethod yX2_setOpen, Cond.selects RX2 yX2_setOpen yX2_setOpen, Cond.code yX2_setOpen cX2_setOpen 3 none, Cond.fieldLink RX2 9 "ReefPilot$Spread" "open" "[Z", Cond.methodLink RX4 115 yX2_goFromRow, Cond.instanceMethod yX2_goFromRow, Cond.selects RX2 yX2_goFromRow yX2_goFromRow, Cond.code yX2_goFromRow cX2_goFromRow 4 none, Cond.methodLink RX2 32 yX2_reach, Cond.instanceMethod yX2_reach, Cond.selects RX2 yX2_reach yX2_reach, Cond.code yX2_reach cX2_reach 3 none, Cond.fieldLink RX2 19 "ReefPilot$Spread" "reached" "[I", Cond.methodLink RX2 36 yX2_goOnFrom, Cond.instanceMethod yX2_goOnFrom, Cond.selects RX2 yX2_goOnFrom yX2_goOnFrom, Cond.code yX2_goOnFrom cX2_goOnFrom 6 none]
def wsL_way_r5 : List Cond := [Cond.static yX4_neighbour, Cond.code yX4_neighbour cX4_neighbour 3 (some .int), Cond.methodLink RX4 105 yX2_stepsTo, Cond.instanceMethod yX2_stepsTo, Cond.selects RX2 yX2_stepsTo yX2_stepsTo, Cond.code yX2_stepsTo cX2_stepsTo 2 (some .int)]
def wsL_way : List Cond := .codeWith yL_way cL_way 5 (some .int) [(0, 10, 13, 15)] :: ((wsL_way_r1 ++ (wsL_way_r2 ++ (wsL_way_r3 ++ (wsL_way_r4 ++ wsL_way_r5)))) ++ wsX40 ++ wsX10 ++ wsX00 ++ wsX20 ++ (vx_atS RX4 167 "java/lang/IllegalArgumentException" ["java/lang/RuntimeException", "java/lang/Exception"]).filter goodWord)
def wsL_harbours_r1 : List Cond := [Cond.classLink RL 15 "java/lang/IllegalArgumentException", Cond.methodLink RL 37 yX4_harbours, Cond.instanceMethod yX4_harbours, Cond.selects RX4 yX4_harbours yX4_harbours, Cond.initialized RX4, Cond.code yX4_harbours cX4_harbours 4 (some .int), Cond.fieldLink RX4 36 "ReefPilot" "spread" "LReefPilot$Spread;", Cond.methodLink RX4 48 yX4_needWithin, Cond.static yX4_needWithin, Cond.code yX4_needWithin cX4_needWithin 3 none, Cond.classLink RX4 163 "java/lang/IllegalArgumentException", Cond.initialized "java/lang/IllegalArgumentException", Cond.methodLink RX4 98 yX4_countOn, Cond.instanceMethod yX4_countOn, Cond.selects RX4 yX4_countOn yX4_countOn, Cond.code yX4_countOn cX4_countOn 2 none, Cond.fieldLink RX4 19 "ReefPilot" "coast" "LReefPilot$Coast;", Cond.methodLink RX4 199 yX4_countOnChart, Cond.instanceMethod yX4_countOnChart, Cond.selects RX4 yX4_countOnChart yX4_countOnChart, Cond.code yX4_countOnChart cX4_countOnChart 2 none, Cond.fieldLink RX4 40 "ReefPilot" "water" "[I", Cond.methodLink RX4 142 yX4_safeDepth, Cond.instanceMethod yX4_safeDepth]
def wsL_harbours_r2 : List Cond := [Cond.selects RX4 yX4_safeDepth yX4_safeDepth, Cond.code yX4_safeDepth cX4_safeDepth 3 (some .int), Cond.fieldLink RX4 29 "ReefPilot" "soundings" "LReefPilot$Soundings;", Cond.methodLink RX4 145 Lib.Math.max.name, Cond.static Lib.Math.max.name, Cond.initialized "java/lang/Math", Cond.code Lib.Math.max.name Lib.Math.max.code 2 (some .int), Cond.methodLink RX4 85 yX1_noted, Cond.instanceMethod yX1_noted, Cond.selects RX1 yX1_noted yX1_noted, Cond.initialized RX1, Cond.code yX1_noted cX1_noted 2 (some .int), Cond.fieldLink RX1 9 "ReefPilot$Soundings" "depth" "[I", Cond.methodLink RX4 88 yX0_monthNow, Cond.instanceMethod yX0_monthNow, Cond.selects RX0 yX0_monthNow yX0_monthNow, Cond.initialized RX0, Cond.code yX0_monthNow cX0_monthNow 1 (some .int), Cond.fieldLink RX0 34 "ReefPilot$Coast" "month" "I", Cond.methodLink RX4 183 yX1_age, Cond.instanceMethod yX1_age, Cond.selects RX1 yX1_age yX1_age, Cond.code yX1_age cX1_age 3 (some .int), Cond.fieldLink RX1 15 "ReefPilot$Soundings" "takenIn" "[I"]
def wsL_harbours_r3 : List Cond := [Cond.methodLink RX4 135 yX4_countOnDepths, Cond.instanceMethod yX4_countOnDepths, Cond.selects RX4 yX4_countOnDepths yX4_countOnDepths, Cond.code yX4_countOnDepths cX4_countOnDepths 3 none, Cond.methodLink RX4 75 yX0_depthOf, Cond.instanceMethod yX0_depthOf, Cond.selects RX0 yX0_depthOf yX0_depthOf, Cond.code yX0_depthOf cX0_depthOf 2 (some .int), Cond.fieldLink RX0 9 "ReefPilot$Coast" "ground" "[I", Cond.fieldLink RX0 15 "ReefPilot$Coast" "coral" "[I", Cond.methodLink RX0 44 Lib.Math.max.name, Cond.methodLink RX4 111 yX4_openWater, Cond.instanceMethod yX4_openWater, Cond.selects RX4 yX4_openWater yX4_openWater, Cond.code yX4_openWater cX4_openWater 3 none, Cond.methodLink RX4 192 yX2_clear, Cond.instanceMethod yX2_clear, Cond.selects RX2 yX2_clear yX2_clear, Cond.initialized RX2, Cond.code yX2_clear cX2_clear 1 none, Cond.fieldLink RX2 15 "ReefPilot$Spread" "steps" "[I", Cond.fieldLink RX2 28 "ReefPilot$Spread" "reachedCells" "I", Cond.methodLink RX2 22 yJ7_fill_53178, Cond.static yJ7_fill_53178]
def wsL_harbours_r4 : List Cond := [Cond.initialized RJ7, Cond.code yJ7_fill_53178 cJ7_fill_53178 4 none, Cond.methodLink RX4 195 yX2_setOpen, Cond.instanceMethod yX2_setOpen, Cond.selects RX2 yX2_setOpen yX2_setOpen, Cond.code yX2_setOpen cX2_setOpen 3 none, Cond.fieldLink RX2 9 "ReefPilot$Spread" "open" "[Z", Cond.methodLink RX4 115 yX2_goFromRow, Cond.instanceMethod yX2_goFromRow, Cond.selects RX2 yX2_goFromRow yX2_goFromRow, Cond.code yX2_goFromRow cX2_goFromRow 4 none, Cond.methodLink RX2 32 yX2_reach, Cond.instanceMethod yX2_reach, Cond.selects RX2 yX2_reach yX2_reach, Cond.code yX2_reach cX2_reach 3 none, Cond.fieldLink RX2 19 "ReefPilot$Spread" "reached" "[I", Cond.methodLink RX2 36 yX2_goOnFrom, Cond.instanceMethod yX2_goOnFrom, Cond.selects RX2 yX2_goOnFrom yX2_goOnFrom, Cond.code yX2_goOnFrom cX2_goOnFrom 6 none, Cond.static yX4_neighbour, Cond.code yX4_neighbour cX4_neighbour 3 (some .int), Cond.methodLink RX4 105 yX2_stepsTo, Cond.instanceMethod yX2_stepsTo]
def wsL_harbours_r5 : List Cond := [Cond.selects RX2 yX2_stepsTo yX2_stepsTo, Cond.code yX2_stepsTo cX2_stepsTo 2 (some .int)]
def wsL_harbours : List Cond := .codeWith yL_harbours cL_harbours 4 (some .int) [(0, 9, 12, 15)] :: ((wsL_harbours_r1 ++ (wsL_harbours_r2 ++ (wsL_harbours_r3 ++ (wsL_harbours_r4 ++ wsL_harbours_r5)))) ++ wsX40 ++ wsX10 ++ wsX00 ++ wsX20 ++ (vx_atS RX4 167 "java/lang/IllegalArgumentException" ["java/lang/RuntimeException", "java/lang/Exception"]).filter goodWord)
def wsL_pilot_r1 : List Cond := [Cond.classLink RL 15 "java/lang/IllegalArgumentException", Cond.methodLink RL 41 yX4_pilot, Cond.instanceMethod yX4_pilot, Cond.selects RX4 yX4_pilot yX4_pilot, Cond.initialized RX4, Cond.code yX4_pilot cX4_pilot 3 (some .int), Cond.methodLink RX4 48 yX4_needWithin, Cond.static yX4_needWithin, Cond.code yX4_needWithin cX4_needWithin 3 none, Cond.classLink RX4 163 "java/lang/IllegalArgumentException", Cond.initialized "java/lang/IllegalArgumentException", Cond.methodLink RX4 98 yX4_countOn, Cond.instanceMethod yX4_countOn, Cond.selects RX4 yX4_countOn yX4_countOn, Cond.code yX4_countOn cX4_countOn 2 none, Cond.fieldLink RX4 19 "ReefPilot" "coast" "LReefPilot$Coast;", Cond.methodLink RX4 199 yX4_countOnChart, Cond.instanceMethod yX4_countOnChart, Cond.selects RX4 yX4_countOnChart yX4_countOnChart, Cond.code yX4_countOnChart cX4_countOnChart 2 none, Cond.fieldLink RX4 40 "ReefPilot" "water" "[I", Cond.methodLink RX4 142 yX4_safeDepth, Cond.instanceMethod yX4_safeDepth, Cond.selects RX4 yX4_safeDepth yX4_safeDepth]
def wsL_pilot_r2 : List Cond := [Cond.code yX4_safeDepth cX4_safeDepth 3 (some .int), Cond.fieldLink RX4 29 "ReefPilot" "soundings" "LReefPilot$Soundings;", Cond.methodLink RX4 145 Lib.Math.max.name, Cond.static Lib.Math.max.name, Cond.initialized "java/lang/Math", Cond.code Lib.Math.max.name Lib.Math.max.code 2 (some .int), Cond.methodLink RX4 85 yX1_noted, Cond.instanceMethod yX1_noted, Cond.selects RX1 yX1_noted yX1_noted, Cond.initialized RX1, Cond.code yX1_noted cX1_noted 2 (some .int), Cond.fieldLink RX1 9 "ReefPilot$Soundings" "depth" "[I", Cond.methodLink RX4 88 yX0_monthNow, Cond.instanceMethod yX0_monthNow, Cond.selects RX0 yX0_monthNow yX0_monthNow, Cond.initialized RX0, Cond.code yX0_monthNow cX0_monthNow 1 (some .int), Cond.fieldLink RX0 34 "ReefPilot$Coast" "month" "I", Cond.methodLink RX4 183 yX1_age, Cond.instanceMethod yX1_age, Cond.selects RX1 yX1_age yX1_age, Cond.code yX1_age cX1_age 3 (some .int), Cond.fieldLink RX1 15 "ReefPilot$Soundings" "takenIn" "[I", Cond.methodLink RX4 135 yX4_countOnDepths]
def wsL_pilot_r3 : List Cond := [Cond.instanceMethod yX4_countOnDepths, Cond.selects RX4 yX4_countOnDepths yX4_countOnDepths, Cond.code yX4_countOnDepths cX4_countOnDepths 3 none, Cond.methodLink RX4 75 yX0_depthOf, Cond.instanceMethod yX0_depthOf, Cond.selects RX0 yX0_depthOf yX0_depthOf, Cond.code yX0_depthOf cX0_depthOf 2 (some .int), Cond.fieldLink RX0 9 "ReefPilot$Coast" "ground" "[I", Cond.fieldLink RX0 15 "ReefPilot$Coast" "coral" "[I", Cond.methodLink RX0 44 Lib.Math.max.name, Cond.methodLink RX4 102 yX4_startOfShortestWay, Cond.instanceMethod yX4_startOfShortestWay, Cond.selects RX4 yX4_startOfShortestWay yX4_startOfShortestWay, Cond.code yX4_startOfShortestWay cX4_startOfShortestWay 5 (some .int), Cond.fieldLink RX4 36 "ReefPilot" "spread" "LReefPilot$Spread;", Cond.methodLink RX4 111 yX4_openWater, Cond.instanceMethod yX4_openWater, Cond.selects RX4 yX4_openWater yX4_openWater, Cond.code yX4_openWater cX4_openWater 3 none, Cond.methodLink RX4 192 yX2_clear, Cond.instanceMethod yX2_clear, Cond.selects RX2 yX2_clear yX2_clear, Cond.initialized RX2, Cond.code yX2_clear cX2_clear 1 none]
def wsL_pilot_r4 : List Cond := [Cond.fieldLink RX2 15 "ReefPilot$Spread" "steps" "[I", Cond.fieldLink RX2 28 "ReefPilot$Spread" "reachedCells" "I", Cond.methodLink RX2 22 yJ7_fill_53178, Cond.static yJ7_fill_53178, Cond.initialized RJ7, Cond.code yJ7_fill_53178 cJ7_fill_53178 4 none, Cond.methodLink RX4 195 yX2_setOpen, Cond.instanceMethod yX2_setOpen, Cond.selects RX2 yX2_setOpen yX2_setOpen, Cond.code yX2_setOpen cX2_setOpen 3 none, Cond.fieldLink RX2 9 "ReefPilot$Spread" "open" "[Z", Cond.methodLink RX4 115 yX2_goFromRow, Cond.instanceMethod yX2_goFromRow, Cond.selects RX2 yX2_goFromRow yX2_goFromRow, Cond.code yX2_goFromRow cX2_goFromRow 4 none, Cond.methodLink RX2 32 yX2_reach, Cond.instanceMethod yX2_reach, Cond.selects RX2 yX2_reach yX2_reach, Cond.code yX2_reach cX2_reach 3 none, Cond.fieldLink RX2 19 "ReefPilot$Spread" "reached" "[I", Cond.methodLink RX2 36 yX2_goOnFrom, Cond.instanceMethod yX2_goOnFrom, Cond.selects RX2 yX2_goOnFrom yX2_goOnFrom, Cond.code yX2_goOnFrom cX2_goOnFrom 6 none]
def wsL_pilot_r5 : List Cond := [Cond.static yX4_neighbour, Cond.code yX4_neighbour cX4_neighbour 3 (some .int), Cond.methodLink RX4 105 yX2_stepsTo, Cond.instanceMethod yX2_stepsTo, Cond.selects RX2 yX2_stepsTo yX2_stepsTo, Cond.code yX2_stepsTo cX2_stepsTo 2 (some .int), Cond.methodLink RX4 118 yX4_leadFrom, Cond.instanceMethod yX4_leadFrom, Cond.selects RX4 yX4_leadFrom yX4_leadFrom, Cond.code yX4_leadFrom cX4_leadFrom 5 (some .int), Cond.methodLink RX4 202 yX2_nearerFrom, Cond.instanceMethod yX2_nearerFrom, Cond.selects RX2 yX2_nearerFrom yX2_nearerFrom, Cond.code yX2_nearerFrom cX2_nearerFrom 5 (some .int)]
def wsL_pilot : List Cond := .codeWith yL_pilot cL_pilot 4 (some .int) [(0, 9, 12, 15)] :: ((wsL_pilot_r1 ++ (wsL_pilot_r2 ++ (wsL_pilot_r3 ++ (wsL_pilot_r4 ++ wsL_pilot_r5)))) ++ wsX40 ++ wsX10 ++ wsX00 ++ wsX20 ++ (vx_atS RX4 167 "java/lang/IllegalArgumentException" ["java/lang/RuntimeException", "java/lang/Exception"]).filter goodWord)
def wsL_pass_r1 : List Cond := [Cond.classLink RL 15 "java/lang/IllegalArgumentException", Cond.methodLink RL 44 yX4_pass, Cond.instanceMethod yX4_pass, Cond.selects RX4 yX4_pass yX4_pass, Cond.initialized RX4, Cond.code yX4_pass cX4_pass 4 (some .int), Cond.fieldLink RX4 19 "ReefPilot" "coast" "LReefPilot$Coast;", Cond.fieldLink RX4 12 "ReefPilot" "table" "LReefPilot$Table;", Cond.methodLink RX4 48 yX4_needWithin, Cond.static yX4_needWithin, Cond.code yX4_needWithin cX4_needWithin 3 none, Cond.classLink RX4 163 "java/lang/IllegalArgumentException", Cond.initialized "java/lang/IllegalArgumentException", Cond.methodLink RX4 121 yX0_heads, Cond.instanceMethod yX0_heads, Cond.selects RX0 yX0_heads yX0_heads, Cond.initialized RX0, Cond.code yX0_heads cX0_heads 3 (some .int), Cond.methodLink RX0 47 yX0_isHead, Cond.instanceMethod yX0_isHead, Cond.selects RX0 yX0_isHead yX0_isHead, Cond.code yX0_isHead cX0_isHead 2 (some .boolean), Cond.fieldLink RX0 15 "ReefPilot$Coast" "coral" "[I", Cond.methodLink RX4 124 yX0_letMonthGo]
def wsL_pass_r2 : List Cond := [Cond.instanceMethod yX0_letMonthGo, Cond.selects RX0 yX0_letMonthGo yX0_letMonthGo, Cond.code yX0_letMonthGo cX0_letMonthGo 2 none, Cond.fieldLink RX0 34 "ReefPilot$Coast" "month" "I", Cond.methodLink RX0 51 yX3_warmthIn, Cond.instanceMethod yX3_warmthIn, Cond.selects RX3 yX3_warmthIn yX3_warmthIn, Cond.initialized RX3, Cond.code yX3_warmthIn cX3_warmthIn 2 (some .int), Cond.fieldLink RX3 9 "ReefPilot$Table" "warmth" "[I", Cond.methodLink RX3 24 yJ9_floorMod_7cf53, Cond.static yJ9_floorMod_7cf53, Cond.initialized RJ9, Cond.code yJ9_floorMod_7cf53 cJ9_floorMod_7cf53 3 (some .int), Cond.methodLink RX0 57 yX0_changeByWarmth, Cond.instanceMethod yX0_changeByWarmth, Cond.selects RX0 yX0_changeByWarmth yX0_changeByWarmth, Cond.code yX0_changeByWarmth cX0_changeByWarmth 2 none, Cond.methodLink RX0 70 yX0_dieBack, Cond.instanceMethod yX0_dieBack, Cond.selects RX0 yX0_dieBack yX0_dieBack, Cond.code yX0_dieBack cX0_dieBack 2 none, Cond.methodLink RX0 44 Lib.Math.max.name, Cond.static Lib.Math.max.name]
def wsL_pass_r3 : List Cond := [Cond.initialized "java/lang/Math", Cond.code Lib.Math.max.name Lib.Math.max.code 2 (some .int), Cond.methodLink RX0 73 yX0_grow, Cond.instanceMethod yX0_grow, Cond.selects RX0 yX0_grow yX0_grow, Cond.code yX0_grow cX0_grow 4 none, Cond.fieldLink RX0 9 "ReefPilot$Coast" "ground" "[I", Cond.methodLink RX0 38 Lib.Math.min.name, Cond.static Lib.Math.min.name, Cond.code Lib.Math.min.name Lib.Math.min.code 2 (some .int), Cond.methodLink RX0 76 yX0_rememberHeads, Cond.instanceMethod yX0_rememberHeads, Cond.selects RX0 yX0_rememberHeads yX0_rememberHeads, Cond.code yX0_rememberHeads cX0_rememberHeads 2 none, Cond.fieldLink RX0 18 "ReefPilot$Coast" "headBefore" "[Z", Cond.methodLink RX0 79 yX0_depthOf, Cond.instanceMethod yX0_depthOf, Cond.selects RX0 yX0_depthOf yX0_depthOf, Cond.code yX0_depthOf cX0_depthOf 2 (some .int), Cond.methodLink RX0 82 yX0_headsBeside, Cond.instanceMethod yX0_headsBeside, Cond.selects RX0 yX0_headsBeside yX0_headsBeside, Cond.code yX0_headsBeside cX0_headsBeside 5 (some .int), Cond.static yX4_neighbour]
def wsL_pass_r4 : List Cond := [Cond.code yX4_neighbour cX4_neighbour 3 (some .int), Cond.methodLink RX0 61 yX0_seed, Cond.instanceMethod yX0_seed, Cond.selects RX0 yX0_seed yX0_seed, Cond.code yX0_seed cX0_seed 3 none, Cond.methodLink RX0 64 yX3_stormIn, Cond.instanceMethod yX3_stormIn, Cond.selects RX3 yX3_stormIn yX3_stormIn, Cond.code yX3_stormIn cX3_stormIn 2 (some .int), Cond.fieldLink RX3 15 "ReefPilot$Table" "storm" "[I", Cond.methodLink RX0 67 yX0_breakByStorm, Cond.instanceMethod yX0_breakByStorm, Cond.selects RX0 yX0_breakByStorm yX0_breakByStorm, Cond.code yX0_breakByStorm cX0_breakByStorm 4 none, Cond.methodLink RX0 88 yX0_dropRubble, Cond.instanceMethod yX0_dropRubble, Cond.selects RX0 yX0_dropRubble yX0_dropRubble, Cond.code yX0_dropRubble cX0_dropRubble 3 none]
def wsL_pass : List Cond := .codeWith yL_pass cL_pass 4 (some .int) [(0, 9, 12, 15)] :: ((wsL_pass_r1 ++ (wsL_pass_r2 ++ (wsL_pass_r3 ++ wsL_pass_r4))) ++ wsX40 ++ wsX00 ++ wsX30 ++ (vx_atS RX4 167 "java/lang/IllegalArgumentException" ["java/lang/RuntimeException", "java/lang/Exception"]).filter goodWord)
def wsL_count_r1 : List Cond := [Cond.classLink RL 13 "java/lang/IndexOutOfBoundsException", Cond.methodLink RL 47 yX4_count, Cond.instanceMethod yX4_count, Cond.selects RX4 yX4_count yX4_count, Cond.initialized RX4, Cond.code yX4_count cX4_count 2 (some .int), Cond.methodLink RX4 63 yX4_needIndex, Cond.static yX4_needIndex, Cond.code yX4_needIndex cX4_needIndex 2 none, Cond.classLink RX4 156 "java/lang/IndexOutOfBoundsException", Cond.initialized "java/lang/IndexOutOfBoundsException", Cond.methodLink RX4 128 yX4_countAnswer, Cond.instanceMethod yX4_countAnswer, Cond.selects RX4 yX4_countAnswer yX4_countAnswer, Cond.code yX4_countAnswer cX4_countAnswer 2 (some .int), Cond.fieldLink RX4 19 "ReefPilot" "coast" "LReefPilot$Coast;", Cond.methodLink RX4 88 yX0_monthNow, Cond.instanceMethod yX0_monthNow, Cond.selects RX0 yX0_monthNow yX0_monthNow, Cond.initialized RX0, Cond.code yX0_monthNow cX0_monthNow 1 (some .int), Cond.fieldLink RX0 34 "ReefPilot$Coast" "month" "I", Cond.methodLink RX4 121 yX0_heads, Cond.instanceMethod yX0_heads]
def wsL_count_r2 : List Cond := [Cond.selects RX0 yX0_heads yX0_heads, Cond.code yX0_heads cX0_heads 3 (some .int), Cond.methodLink RX0 47 yX0_isHead, Cond.instanceMethod yX0_isHead, Cond.selects RX0 yX0_isHead yX0_isHead, Cond.code yX0_isHead cX0_isHead 2 (some .boolean), Cond.fieldLink RX0 15 "ReefPilot$Coast" "coral" "[I", Cond.methodLink RX4 138 yX4_reefsOn, Cond.instanceMethod yX4_reefsOn, Cond.selects RX4 yX4_reefsOn yX4_reefsOn, Cond.code yX4_reefsOn cX4_reefsOn 4 (some .int), Cond.fieldLink RX4 36 "ReefPilot" "spread" "LReefPilot$Spread;", Cond.methodLink RX4 186 yX4_openHeads, Cond.instanceMethod yX4_openHeads, Cond.selects RX4 yX4_openHeads yX4_openHeads, Cond.code yX4_openHeads cX4_openHeads 3 none, Cond.methodLink RX4 192 yX2_clear, Cond.instanceMethod yX2_clear, Cond.selects RX2 yX2_clear yX2_clear, Cond.initialized RX2, Cond.code yX2_clear cX2_clear 1 none, Cond.fieldLink RX2 15 "ReefPilot$Spread" "steps" "[I", Cond.fieldLink RX2 28 "ReefPilot$Spread" "reachedCells" "I", Cond.methodLink RX2 22 yJ7_fill_53178]
def wsL_count_r3 : List Cond := [Cond.static yJ7_fill_53178, Cond.initialized RJ7, Cond.code yJ7_fill_53178 cJ7_fill_53178 4 none, Cond.methodLink RX4 78 yX0_isHead, Cond.methodLink RX4 195 yX2_setOpen, Cond.instanceMethod yX2_setOpen, Cond.selects RX2 yX2_setOpen yX2_setOpen, Cond.code yX2_setOpen cX2_setOpen 3 none, Cond.fieldLink RX2 9 "ReefPilot$Spread" "open" "[Z", Cond.methodLink RX4 189 yX2_goFromCell, Cond.instanceMethod yX2_goFromCell, Cond.selects RX2 yX2_goFromCell yX2_goFromCell, Cond.code yX2_goFromCell cX2_goFromCell 3 (some .int), Cond.methodLink RX2 32 yX2_reach, Cond.instanceMethod yX2_reach, Cond.selects RX2 yX2_reach yX2_reach, Cond.code yX2_reach cX2_reach 3 none, Cond.fieldLink RX2 19 "ReefPilot$Spread" "reached" "[I", Cond.methodLink RX2 36 yX2_goOnFrom, Cond.instanceMethod yX2_goOnFrom, Cond.selects RX2 yX2_goOnFrom yX2_goOnFrom, Cond.code yX2_goOnFrom cX2_goOnFrom 6 none, Cond.static yX4_neighbour, Cond.code yX4_neighbour cX4_neighbour 3 (some .int)]
def wsL_count_r4 : List Cond := [Cond.methodLink RX4 168 yX4_headsOfLargestReef, Cond.instanceMethod yX4_headsOfLargestReef, Cond.selects RX4 yX4_headsOfLargestReef yX4_headsOfLargestReef, Cond.code yX4_headsOfLargestReef cX4_headsOfLargestReef 3 (some .int), Cond.methodLink RX4 145 Lib.Math.max.name, Cond.static Lib.Math.max.name, Cond.initialized "java/lang/Math", Cond.code Lib.Math.max.name Lib.Math.max.code 2 (some .int), Cond.methodLink RX4 171 yX0_allCoral, Cond.instanceMethod yX0_allCoral, Cond.selects RX0 yX0_allCoral yX0_allCoral, Cond.code yX0_allCoral cX0_allCoral 3 (some .int), Cond.methodLink RX4 174 yX4_soundingsTaken, Cond.instanceMethod yX4_soundingsTaken, Cond.selects RX4 yX4_soundingsTaken yX4_soundingsTaken, Cond.code yX4_soundingsTaken cX4_soundingsTaken 3 (some .int), Cond.fieldLink RX4 29 "ReefPilot" "soundings" "LReefPilot$Soundings;", Cond.methodLink RX4 85 yX1_noted, Cond.instanceMethod yX1_noted, Cond.selects RX1 yX1_noted yX1_noted, Cond.initialized RX1, Cond.code yX1_noted cX1_noted 2 (some .int), Cond.fieldLink RX1 9 "ReefPilot$Soundings" "depth" "[I", Cond.methodLink RX4 177 yX4_soundingsTooDeep]
def wsL_count_r5 : List Cond := [Cond.instanceMethod yX4_soundingsTooDeep, Cond.selects RX4 yX4_soundingsTooDeep yX4_soundingsTooDeep, Cond.code yX4_soundingsTooDeep cX4_soundingsTooDeep 3 (some .int), Cond.methodLink RX4 75 yX0_depthOf, Cond.instanceMethod yX0_depthOf, Cond.selects RX0 yX0_depthOf yX0_depthOf, Cond.code yX0_depthOf cX0_depthOf 2 (some .int), Cond.fieldLink RX0 9 "ReefPilot$Coast" "ground" "[I", Cond.methodLink RX0 44 Lib.Math.max.name, Cond.methodLink RX4 180 yX4_cellsWithoutDepth, Cond.instanceMethod yX4_cellsWithoutDepth, Cond.selects RX4 yX4_cellsWithoutDepth yX4_cellsWithoutDepth, Cond.code yX4_cellsWithoutDepth cX4_cellsWithoutDepth 3 (some .int)]
def wsL_count : List Cond := .codeWith yL_count cL_count 4 (some .int) [(0, 9, 12, 13)] :: ((wsL_count_r1 ++ (wsL_count_r2 ++ (wsL_count_r3 ++ (wsL_count_r4 ++ wsL_count_r5)))) ++ wsX40 ++ wsX00 ++ wsX20 ++ wsX10 ++ (vx_atS RX4 160 "java/lang/IndexOutOfBoundsException" ["java/lang/RuntimeException", "java/lang/Exception"]).filter goodWord)
def wsL_closes_r1 : List Cond := [Cond.classLink RL 15 "java/lang/IllegalArgumentException", Cond.methodLink RL 50 yX4_closes, Cond.instanceMethod yX4_closes, Cond.selects RX4 yX4_closes yX4_closes, Cond.initialized RX4, Cond.code yX4_closes cX4_closes 3 (some .int), Cond.fieldLink RX4 23 "ReefPilot" "ahead" "LReefPilot$Coast;", Cond.fieldLink RX4 19 "ReefPilot" "coast" "LReefPilot$Coast;", Cond.fieldLink RX4 12 "ReefPilot" "table" "LReefPilot$Table;", Cond.methodLink RX4 48 yX4_needWithin, Cond.static yX4_needWithin, Cond.code yX4_needWithin cX4_needWithin 3 none, Cond.classLink RX4 163 "java/lang/IllegalArgumentException", Cond.initialized "java/lang/IllegalArgumentException", Cond.methodLink RX4 131 yX0_becomeLike, Cond.instanceMethod yX0_becomeLike, Cond.selects RX0 yX0_becomeLike yX0_becomeLike, Cond.initialized RX0, Cond.code yX0_becomeLike cX0_becomeLike 2 none, Cond.fieldLink RX0 9 "ReefPilot$Coast" "ground" "[I", Cond.methodLink RX0 28 arraycopyName, Cond.native arraycopyName, Cond.static arraycopyName, Cond.initialized "java/lang/System"]
def wsL_closes_r2 : List Cond := [Cond.fieldLink RX0 15 "ReefPilot$Coast" "coral" "[I", Cond.fieldLink RX0 34 "ReefPilot$Coast" "month" "I", Cond.methodLink RX4 135 yX4_countOnDepths, Cond.instanceMethod yX4_countOnDepths, Cond.selects RX4 yX4_countOnDepths yX4_countOnDepths, Cond.code yX4_countOnDepths cX4_countOnDepths 3 none, Cond.fieldLink RX4 40 "ReefPilot" "water" "[I", Cond.methodLink RX4 75 yX0_depthOf, Cond.instanceMethod yX0_depthOf, Cond.selects RX0 yX0_depthOf yX0_depthOf, Cond.code yX0_depthOf cX0_depthOf 2 (some .int), Cond.methodLink RX0 44 Lib.Math.max.name, Cond.static Lib.Math.max.name, Cond.initialized "java/lang/Math", Cond.code Lib.Math.max.name Lib.Math.max.code 2 (some .int), Cond.methodLink RX4 102 yX4_startOfShortestWay, Cond.instanceMethod yX4_startOfShortestWay, Cond.selects RX4 yX4_startOfShortestWay yX4_startOfShortestWay, Cond.code yX4_startOfShortestWay cX4_startOfShortestWay 5 (some .int), Cond.fieldLink RX4 36 "ReefPilot" "spread" "LReefPilot$Spread;", Cond.methodLink RX4 111 yX4_openWater, Cond.instanceMethod yX4_openWater, Cond.selects RX4 yX4_openWater yX4_openWater, Cond.code yX4_openWater cX4_openWater 3 none]
def wsL_closes_r3 : List Cond := [Cond.methodLink RX4 192 yX2_clear, Cond.instanceMethod yX2_clear, Cond.selects RX2 yX2_clear yX2_clear, Cond.initialized RX2, Cond.code yX2_clear cX2_clear 1 none, Cond.fieldLink RX2 15 "ReefPilot$Spread" "steps" "[I", Cond.fieldLink RX2 28 "ReefPilot$Spread" "reachedCells" "I", Cond.methodLink RX2 22 yJ7_fill_53178, Cond.static yJ7_fill_53178, Cond.initialized RJ7, Cond.code yJ7_fill_53178 cJ7_fill_53178 4 none, Cond.methodLink RX4 195 yX2_setOpen, Cond.instanceMethod yX2_setOpen, Cond.selects RX2 yX2_setOpen yX2_setOpen, Cond.code yX2_setOpen cX2_setOpen 3 none, Cond.fieldLink RX2 9 "ReefPilot$Spread" "open" "[Z", Cond.methodLink RX4 115 yX2_goFromRow, Cond.instanceMethod yX2_goFromRow, Cond.selects RX2 yX2_goFromRow yX2_goFromRow, Cond.code yX2_goFromRow cX2_goFromRow 4 none, Cond.methodLink RX2 32 yX2_reach, Cond.instanceMethod yX2_reach, Cond.selects RX2 yX2_reach yX2_reach, Cond.code yX2_reach cX2_reach 3 none]
def wsL_closes_r4 : List Cond := [Cond.fieldLink RX2 19 "ReefPilot$Spread" "reached" "[I", Cond.methodLink RX2 36 yX2_goOnFrom, Cond.instanceMethod yX2_goOnFrom, Cond.selects RX2 yX2_goOnFrom yX2_goOnFrom, Cond.code yX2_goOnFrom cX2_goOnFrom 6 none, Cond.static yX4_neighbour, Cond.code yX4_neighbour cX4_neighbour 3 (some .int), Cond.methodLink RX4 105 yX2_stepsTo, Cond.instanceMethod yX2_stepsTo, Cond.selects RX2 yX2_stepsTo yX2_stepsTo, Cond.code yX2_stepsTo cX2_stepsTo 2 (some .int), Cond.methodLink RX4 124 yX0_letMonthGo, Cond.instanceMethod yX0_letMonthGo, Cond.selects RX0 yX0_letMonthGo yX0_letMonthGo, Cond.code yX0_letMonthGo cX0_letMonthGo 2 none, Cond.methodLink RX0 51 yX3_warmthIn, Cond.instanceMethod yX3_warmthIn, Cond.selects RX3 yX3_warmthIn yX3_warmthIn, Cond.initialized RX3, Cond.code yX3_warmthIn cX3_warmthIn 2 (some .int), Cond.fieldLink RX3 9 "ReefPilot$Table" "warmth" "[I", Cond.methodLink RX3 24 yJ9_floorMod_7cf53, Cond.static yJ9_floorMod_7cf53, Cond.initialized RJ9]
def wsL_closes_r5 : List Cond := [Cond.code yJ9_floorMod_7cf53 cJ9_floorMod_7cf53 3 (some .int), Cond.methodLink RX0 57 yX0_changeByWarmth, Cond.instanceMethod yX0_changeByWarmth, Cond.selects RX0 yX0_changeByWarmth yX0_changeByWarmth, Cond.code yX0_changeByWarmth cX0_changeByWarmth 2 none, Cond.methodLink RX0 70 yX0_dieBack, Cond.instanceMethod yX0_dieBack, Cond.selects RX0 yX0_dieBack yX0_dieBack, Cond.code yX0_dieBack cX0_dieBack 2 none, Cond.methodLink RX0 73 yX0_grow, Cond.instanceMethod yX0_grow, Cond.selects RX0 yX0_grow yX0_grow, Cond.code yX0_grow cX0_grow 4 none, Cond.methodLink RX0 38 Lib.Math.min.name, Cond.static Lib.Math.min.name, Cond.code Lib.Math.min.name Lib.Math.min.code 2 (some .int), Cond.methodLink RX0 76 yX0_rememberHeads, Cond.instanceMethod yX0_rememberHeads, Cond.selects RX0 yX0_rememberHeads yX0_rememberHeads, Cond.code yX0_rememberHeads cX0_rememberHeads 2 none, Cond.fieldLink RX0 18 "ReefPilot$Coast" "headBefore" "[Z", Cond.methodLink RX0 47 yX0_isHead, Cond.instanceMethod yX0_isHead, Cond.selects RX0 yX0_isHead yX0_isHead]
def wsL_closes_r6 : List Cond := [Cond.code yX0_isHead cX0_isHead 2 (some .boolean), Cond.methodLink RX0 79 yX0_depthOf, Cond.methodLink RX0 82 yX0_headsBeside, Cond.instanceMethod yX0_headsBeside, Cond.selects RX0 yX0_headsBeside yX0_headsBeside, Cond.code yX0_headsBeside cX0_headsBeside 5 (some .int), Cond.methodLink RX0 61 yX0_seed, Cond.instanceMethod yX0_seed, Cond.selects RX0 yX0_seed yX0_seed, Cond.code yX0_seed cX0_seed 3 none, Cond.methodLink RX0 64 yX3_stormIn, Cond.instanceMethod yX3_stormIn, Cond.selects RX3 yX3_stormIn yX3_stormIn, Cond.code yX3_stormIn cX3_stormIn 2 (some .int), Cond.fieldLink RX3 15 "ReefPilot$Table" "storm" "[I", Cond.methodLink RX0 67 yX0_breakByStorm, Cond.instanceMethod yX0_breakByStorm, Cond.selects RX0 yX0_breakByStorm yX0_breakByStorm, Cond.code yX0_breakByStorm cX0_breakByStorm 4 none, Cond.methodLink RX0 88 yX0_dropRubble, Cond.instanceMethod yX0_dropRubble, Cond.selects RX0 yX0_dropRubble yX0_dropRubble, Cond.code yX0_dropRubble cX0_dropRubble 3 none]
def wsL_closes : List Cond := .codeWith yL_closes cL_closes 4 (some .int) [(0, 9, 12, 15)] :: ((wsL_closes_r1 ++ (wsL_closes_r2 ++ (wsL_closes_r3 ++ (wsL_closes_r4 ++ (wsL_closes_r5 ++ wsL_closes_r6))))) ++ wsX40 ++ wsX00 ++ wsX20 ++ wsX30 ++ (vx_atS RX4 167 "java/lang/IllegalArgumentException" ["java/lang/RuntimeException", "java/lang/Exception"]).filter goodWord)
def wsL_foresee_r1 : List Cond := [Cond.classLink RL 15 "java/lang/IllegalArgumentException", Cond.classLink RL 13 "java/lang/IndexOutOfBoundsException", Cond.methodLink RL 53 yX4_foresee, Cond.instanceMethod yX4_foresee, Cond.selects RX4 yX4_foresee yX4_foresee, Cond.initialized RX4, Cond.code yX4_foresee cX4_foresee 4 (some .int), Cond.fieldLink RX4 23 "ReefPilot" "ahead" "LReefPilot$Coast;", Cond.fieldLink RX4 19 "ReefPilot" "coast" "LReefPilot$Coast;", Cond.fieldLink RX4 12 "ReefPilot" "table" "LReefPilot$Table;", Cond.methodLink RX4 48 yX4_needWithin, Cond.static yX4_needWithin, Cond.code yX4_needWithin cX4_needWithin 3 none, Cond.classLink RX4 163 "java/lang/IllegalArgumentException", Cond.initialized "java/lang/IllegalArgumentException", Cond.methodLink RX4 63 yX4_needIndex, Cond.static yX4_needIndex, Cond.code yX4_needIndex cX4_needIndex 2 none, Cond.classLink RX4 156 "java/lang/IndexOutOfBoundsException", Cond.initialized "java/lang/IndexOutOfBoundsException", Cond.methodLink RX4 131 yX0_becomeLike, Cond.instanceMethod yX0_becomeLike, Cond.selects RX0 yX0_becomeLike yX0_becomeLike, Cond.initialized RX0]
def wsL_foresee_r2 : List Cond := [Cond.code yX0_becomeLike cX0_becomeLike 2 none, Cond.fieldLink RX0 9 "ReefPilot$Coast" "ground" "[I", Cond.methodLink RX0 28 arraycopyName, Cond.native arraycopyName, Cond.static arraycopyName, Cond.initialized "java/lang/System", Cond.fieldLink RX0 15 "ReefPilot$Coast" "coral" "[I", Cond.fieldLink RX0 34 "ReefPilot$Coast" "month" "I", Cond.methodLink RX4 124 yX0_letMonthGo, Cond.instanceMethod yX0_letMonthGo, Cond.selects RX0 yX0_letMonthGo yX0_letMonthGo, Cond.code yX0_letMonthGo cX0_letMonthGo 2 none, Cond.methodLink RX0 51 yX3_warmthIn, Cond.instanceMethod yX3_warmthIn, Cond.selects RX3 yX3_warmthIn yX3_warmthIn, Cond.initialized RX3, Cond.code yX3_warmthIn cX3_warmthIn 2 (some .int), Cond.fieldLink RX3 9 "ReefPilot$Table" "warmth" "[I", Cond.methodLink RX3 24 yJ9_floorMod_7cf53, Cond.static yJ9_floorMod_7cf53, Cond.initialized RJ9, Cond.code yJ9_floorMod_7cf53 cJ9_floorMod_7cf53 3 (some .int), Cond.methodLink RX0 57 yX0_changeByWarmth, Cond.instanceMethod yX0_changeByWarmth]
def wsL_foresee_r3 : List Cond := [Cond.selects RX0 yX0_changeByWarmth yX0_changeByWarmth, Cond.code yX0_changeByWarmth cX0_changeByWarmth 2 none, Cond.methodLink RX0 70 yX0_dieBack, Cond.instanceMethod yX0_dieBack, Cond.selects RX0 yX0_dieBack yX0_dieBack, Cond.code yX0_dieBack cX0_dieBack 2 none, Cond.methodLink RX0 44 Lib.Math.max.name, Cond.static Lib.Math.max.name, Cond.initialized "java/lang/Math", Cond.code Lib.Math.max.name Lib.Math.max.code 2 (some .int), Cond.methodLink RX0 73 yX0_grow, Cond.instanceMethod yX0_grow, Cond.selects RX0 yX0_grow yX0_grow, Cond.code yX0_grow cX0_grow 4 none, Cond.methodLink RX0 38 Lib.Math.min.name, Cond.static Lib.Math.min.name, Cond.code Lib.Math.min.name Lib.Math.min.code 2 (some .int), Cond.methodLink RX0 76 yX0_rememberHeads, Cond.instanceMethod yX0_rememberHeads, Cond.selects RX0 yX0_rememberHeads yX0_rememberHeads, Cond.code yX0_rememberHeads cX0_rememberHeads 2 none, Cond.fieldLink RX0 18 "ReefPilot$Coast" "headBefore" "[Z", Cond.methodLink RX0 47 yX0_isHead, Cond.instanceMethod yX0_isHead]
def wsL_foresee_r4 : List Cond := [Cond.selects RX0 yX0_isHead yX0_isHead, Cond.code yX0_isHead cX0_isHead 2 (some .boolean), Cond.methodLink RX0 79 yX0_depthOf, Cond.instanceMethod yX0_depthOf, Cond.selects RX0 yX0_depthOf yX0_depthOf, Cond.code yX0_depthOf cX0_depthOf 2 (some .int), Cond.methodLink RX0 82 yX0_headsBeside, Cond.instanceMethod yX0_headsBeside, Cond.selects RX0 yX0_headsBeside yX0_headsBeside, Cond.code yX0_headsBeside cX0_headsBeside 5 (some .int), Cond.static yX4_neighbour, Cond.code yX4_neighbour cX4_neighbour 3 (some .int), Cond.methodLink RX0 61 yX0_seed, Cond.instanceMethod yX0_seed, Cond.selects RX0 yX0_seed yX0_seed, Cond.code yX0_seed cX0_seed 3 none, Cond.methodLink RX0 64 yX3_stormIn, Cond.instanceMethod yX3_stormIn, Cond.selects RX3 yX3_stormIn yX3_stormIn, Cond.code yX3_stormIn cX3_stormIn 2 (some .int), Cond.fieldLink RX3 15 "ReefPilot$Table" "storm" "[I", Cond.methodLink RX0 67 yX0_breakByStorm, Cond.instanceMethod yX0_breakByStorm, Cond.selects RX0 yX0_breakByStorm yX0_breakByStorm]
def wsL_foresee_r5 : List Cond := [Cond.code yX0_breakByStorm cX0_breakByStorm 4 none, Cond.methodLink RX0 88 yX0_dropRubble, Cond.instanceMethod yX0_dropRubble, Cond.selects RX0 yX0_dropRubble yX0_dropRubble, Cond.code yX0_dropRubble cX0_dropRubble 3 none, Cond.methodLink RX4 121 yX0_heads, Cond.instanceMethod yX0_heads, Cond.selects RX0 yX0_heads yX0_heads, Cond.code yX0_heads cX0_heads 3 (some .int), Cond.methodLink RX4 138 yX4_reefsOn, Cond.instanceMethod yX4_reefsOn, Cond.selects RX4 yX4_reefsOn yX4_reefsOn, Cond.code yX4_reefsOn cX4_reefsOn 4 (some .int), Cond.fieldLink RX4 36 "ReefPilot" "spread" "LReefPilot$Spread;", Cond.methodLink RX4 186 yX4_openHeads, Cond.instanceMethod yX4_openHeads, Cond.selects RX4 yX4_openHeads yX4_openHeads, Cond.code yX4_openHeads cX4_openHeads 3 none, Cond.methodLink RX4 192 yX2_clear, Cond.instanceMethod yX2_clear, Cond.selects RX2 yX2_clear yX2_clear, Cond.initialized RX2, Cond.code yX2_clear cX2_clear 1 none, Cond.fieldLink RX2 15 "ReefPilot$Spread" "steps" "[I"]
def wsL_foresee_r6 : List Cond := [Cond.fieldLink RX2 28 "ReefPilot$Spread" "reachedCells" "I", Cond.methodLink RX2 22 yJ7_fill_53178, Cond.static yJ7_fill_53178, Cond.initialized RJ7, Cond.code yJ7_fill_53178 cJ7_fill_53178 4 none, Cond.methodLink RX4 78 yX0_isHead, Cond.methodLink RX4 195 yX2_setOpen, Cond.instanceMethod yX2_setOpen, Cond.selects RX2 yX2_setOpen yX2_setOpen, Cond.code yX2_setOpen cX2_setOpen 3 none, Cond.fieldLink RX2 9 "ReefPilot$Spread" "open" "[Z", Cond.methodLink RX4 189 yX2_goFromCell, Cond.instanceMethod yX2_goFromCell, Cond.selects RX2 yX2_goFromCell yX2_goFromCell, Cond.code yX2_goFromCell cX2_goFromCell 3 (some .int), Cond.methodLink RX2 32 yX2_reach, Cond.instanceMethod yX2_reach, Cond.selects RX2 yX2_reach yX2_reach, Cond.code yX2_reach cX2_reach 3 none, Cond.fieldLink RX2 19 "ReefPilot$Spread" "reached" "[I", Cond.methodLink RX2 36 yX2_goOnFrom, Cond.instanceMethod yX2_goOnFrom, Cond.selects RX2 yX2_goOnFrom yX2_goOnFrom, Cond.code yX2_goOnFrom cX2_goOnFrom 6 none]
def wsL_foresee_r7 : List Cond := [Cond.methodLink RX4 135 yX4_countOnDepths, Cond.instanceMethod yX4_countOnDepths, Cond.selects RX4 yX4_countOnDepths yX4_countOnDepths, Cond.code yX4_countOnDepths cX4_countOnDepths 3 none, Cond.fieldLink RX4 40 "ReefPilot" "water" "[I", Cond.methodLink RX4 75 yX0_depthOf, Cond.methodLink RX4 108 yX4_greatestDraught, Cond.instanceMethod yX4_greatestDraught, Cond.selects RX4 yX4_greatestDraught yX4_greatestDraught, Cond.code yX4_greatestDraught cX4_greatestDraught 2 (some .int), Cond.methodLink RX4 102 yX4_startOfShortestWay, Cond.instanceMethod yX4_startOfShortestWay, Cond.selects RX4 yX4_startOfShortestWay yX4_startOfShortestWay, Cond.code yX4_startOfShortestWay cX4_startOfShortestWay 5 (some .int), Cond.methodLink RX4 111 yX4_openWater, Cond.instanceMethod yX4_openWater, Cond.selects RX4 yX4_openWater yX4_openWater, Cond.code yX4_openWater cX4_openWater 3 none, Cond.methodLink RX4 115 yX2_goFromRow, Cond.instanceMethod yX2_goFromRow, Cond.selects RX2 yX2_goFromRow yX2_goFromRow, Cond.code yX2_goFromRow cX2_goFromRow 4 none, Cond.methodLink RX4 105 yX2_stepsTo, Cond.instanceMethod yX2_stepsTo]
def wsL_foresee_r8 : List Cond := [Cond.selects RX2 yX2_stepsTo yX2_stepsTo, Cond.code yX2_stepsTo cX2_stepsTo 2 (some .int)]
def wsL_foresee : List Cond := .codeWith yL_foresee cL_foresee 5 (some .int) [(0, 10, 13, 15), (0, 10, 17, 13)] :: ((wsL_foresee_r1 ++ (wsL_foresee_r2 ++ (wsL_foresee_r3 ++ (wsL_foresee_r4 ++ (wsL_foresee_r5 ++ (wsL_foresee_r6 ++ (wsL_foresee_r7 ++ wsL_foresee_r8))))))) ++ wsX40 ++ wsX00 ++ wsX30 ++ wsX20 ++ (vx_atS RX4 167 "java/lang/IllegalArgumentException" ["java/lang/RuntimeException", "java/lang/Exception"]).filter goodWord ++ (vx_atS RX4 160 "java/lang/IndexOutOfBoundsException" ["java/lang/RuntimeException", "java/lang/Exception"]).filter goodWord)
abbrev vwCl : List vw_C := [(RX0, TX0, 4), (RX1, TX1, 2), (RX2, TX2, 4), (RX3, TX3, 2), (RX4, TX4, 6), (RX5, TX5, 11)]

theorem dJ9_floorMod_7cf53_0 : decode cJ9_floorMod_7cf53 0 = .ok (.iload_n 0, 1) := by decide +kernel
theorem dJ9_floorMod_7cf53_1 : decode cJ9_floorMod_7cf53 1 = .ok (.iload_n 1, 1) := by decide +kernel
theorem dJ9_floorMod_7cf53_2 : decode cJ9_floorMod_7cf53 2 = .ok (.irem, 1) := by decide +kernel
theorem dJ9_floorMod_7cf53_3 : decode cJ9_floorMod_7cf53 3 = .ok (.istore_n 2, 1) := by decide +kernel
theorem dJ9_floorMod_7cf53_4 : decode cJ9_floorMod_7cf53 4 = .ok (.iload_n 0, 1) := by decide +kernel
theorem dJ9_floorMod_7cf53_5 : decode cJ9_floorMod_7cf53 5 = .ok (.iload_n 1, 1) := by decide +kernel
theorem dJ9_floorMod_7cf53_6 : decode cJ9_floorMod_7cf53 6 = .ok (.ixor, 1) := by decide +kernel
theorem dJ9_floorMod_7cf53_7 : decode cJ9_floorMod_7cf53 7 = .ok (.ifCond .ge 11, 3) := by decide +kernel
theorem dJ9_floorMod_7cf53_10 : decode cJ9_floorMod_7cf53 10 = .ok (.iload_n 2, 1) := by decide +kernel
theorem dJ9_floorMod_7cf53_11 : decode cJ9_floorMod_7cf53 11 = .ok (.ifCond .eq 7, 3) := by decide +kernel
theorem dJ9_floorMod_7cf53_14 : decode cJ9_floorMod_7cf53 14 = .ok (.iload_n 2, 1) := by decide +kernel
theorem dJ9_floorMod_7cf53_15 : decode cJ9_floorMod_7cf53 15 = .ok (.iload_n 1, 1) := by decide +kernel
theorem dJ9_floorMod_7cf53_16 : decode cJ9_floorMod_7cf53 16 = .ok (.iadd, 1) := by decide +kernel
theorem dJ9_floorMod_7cf53_17 : decode cJ9_floorMod_7cf53 17 = .ok (.ireturn, 1) := by decide +kernel
theorem dJ9_floorMod_7cf53_18 : decode cJ9_floorMod_7cf53 18 = .ok (.iload_n 2, 1) := by decide +kernel
theorem dJ9_floorMod_7cf53_19 : decode cJ9_floorMod_7cf53 19 = .ok (.ireturn, 1) := by decide +kernel
theorem dJ9_max_7cf53_0 : decode cJ9_max_7cf53 0 = .ok (.iload_n 0, 1) := by decide +kernel
theorem dJ9_max_7cf53_1 : decode cJ9_max_7cf53 1 = .ok (.iload_n 1, 1) := by decide +kernel
theorem dJ9_max_7cf53_2 : decode cJ9_max_7cf53 2 = .ok (.if_icmp .lt 7, 3) := by decide +kernel
theorem dJ9_max_7cf53_5 : decode cJ9_max_7cf53 5 = .ok (.iload_n 0, 1) := by decide +kernel
theorem dJ9_max_7cf53_6 : decode cJ9_max_7cf53 6 = .ok (.goto 4, 3) := by decide +kernel
theorem dJ9_max_7cf53_9 : decode cJ9_max_7cf53 9 = .ok (.iload_n 1, 1) := by decide +kernel
theorem dJ9_max_7cf53_10 : decode cJ9_max_7cf53 10 = .ok (.ireturn, 1) := by decide +kernel
theorem dJ9_min_7cf53_0 : decode cJ9_min_7cf53 0 = .ok (.iload_n 0, 1) := by decide +kernel
theorem dJ9_min_7cf53_1 : decode cJ9_min_7cf53 1 = .ok (.iload_n 1, 1) := by decide +kernel
theorem dJ9_min_7cf53_2 : decode cJ9_min_7cf53 2 = .ok (.if_icmp .gt 7, 3) := by decide +kernel
theorem dJ9_min_7cf53_5 : decode cJ9_min_7cf53 5 = .ok (.iload_n 0, 1) := by decide +kernel
theorem dJ9_min_7cf53_6 : decode cJ9_min_7cf53 6 = .ok (.goto 4, 3) := by decide +kernel
theorem dJ9_min_7cf53_9 : decode cJ9_min_7cf53 9 = .ok (.iload_n 1, 1) := by decide +kernel
theorem dJ9_min_7cf53_10 : decode cJ9_min_7cf53 10 = .ok (.ireturn, 1) := by decide +kernel
theorem dJ7_fill_53178_0 : decode cJ7_fill_53178 0 = .ok (.iconst 0, 1) := by decide +kernel
theorem dJ7_fill_53178_1 : decode cJ7_fill_53178 1 = .ok (.istore_n 2, 1) := by decide +kernel
theorem dJ7_fill_53178_2 : decode cJ7_fill_53178 2 = .ok (.aload_n 0, 1) := by decide +kernel
theorem dJ7_fill_53178_3 : decode cJ7_fill_53178 3 = .ok (.arraylength, 1) := by decide +kernel
theorem dJ7_fill_53178_4 : decode cJ7_fill_53178 4 = .ok (.istore_n 3, 1) := by decide +kernel
theorem dJ7_fill_53178_5 : decode cJ7_fill_53178 5 = .ok (.iload_n 2, 1) := by decide +kernel
theorem dJ7_fill_53178_6 : decode cJ7_fill_53178 6 = .ok (.iload_n 3, 1) := by decide +kernel
theorem dJ7_fill_53178_7 : decode cJ7_fill_53178 7 = .ok (.if_icmp .ge 13, 3) := by decide +kernel
theorem dJ7_fill_53178_10 : decode cJ7_fill_53178 10 = .ok (.aload_n 0, 1) := by decide +kernel
theorem dJ7_fill_53178_11 : decode cJ7_fill_53178 11 = .ok (.iload_n 2, 1) := by decide +kernel
theorem dJ7_fill_53178_12 : decode cJ7_fill_53178 12 = .ok (.iload_n 1, 1) := by decide +kernel
theorem dJ7_fill_53178_13 : decode cJ7_fill_53178 13 = .ok (.iastore, 1) := by decide +kernel
theorem dJ7_fill_53178_14 : decode cJ7_fill_53178 14 = .ok (.iinc 2 1, 3) := by decide +kernel
theorem dJ7_fill_53178_17 : decode cJ7_fill_53178 17 = .ok (.goto (-12), 3) := by decide +kernel
theorem dJ7_fill_53178_20 : decode cJ7_fill_53178 20 = .ok (.return_, 1) := by decide +kernel
end
section
set_option maxRecDepth 20000 in
theorem ggX0_init_J7_fill_53178 : GoodIn wsX0_init wsJ7_fill_53178 := goodIn_r _ [12] (by decide +kernel) (by decide +kernel)
set_option maxRecDepth 20000 in
theorem gX0_init_J7_fill_53178 : GoodIn wsX0_init (va_wsS RX0 22 yJ7_fill_53178 wsJ7_fill_53178) := goodIn_app (goodIn_of _ (by decide +kernel)) ggX0_init_J7_fill_53178
theorem dX0_init_0 : decode cX0_init 0 = .ok (.aload_n 0, 1) := by decide +kernel
theorem dX0_init_1 : decode cX0_init 1 = .ok (.invokespecial 3, 3) := by decide +kernel
theorem dX0_init_4 : decode cX0_init 4 = .ok (.aload_n 0, 1) := by decide +kernel
theorem dX0_init_5 : decode cX0_init 5 = .ok (.bipush 81, 2) := by decide +kernel
theorem dX0_init_7 : decode cX0_init 7 = .ok (.newarray .int, 2) := by decide +kernel
theorem dX0_init_9 : decode cX0_init 9 = .ok (.putfield 9, 3) := by decide +kernel
theorem dX0_init_12 : decode cX0_init 12 = .ok (.aload_n 0, 1) := by decide +kernel
theorem dX0_init_13 : decode cX0_init 13 = .ok (.bipush 81, 2) := by decide +kernel
theorem dX0_init_15 : decode cX0_init 15 = .ok (.newarray .int, 2) := by decide +kernel
theorem dX0_init_17 : decode cX0_init 17 = .ok (.putfield 15, 3) := by decide +kernel
theorem dX0_init_20 : decode cX0_init 20 = .ok (.aload_n 0, 1) := by decide +kernel
theorem dX0_init_21 : decode cX0_init 21 = .ok (.bipush 81, 2) := by decide +kernel
theorem dX0_init_23 : decode cX0_init 23 = .ok (.newarray .boolean, 2) := by decide +kernel
theorem dX0_init_25 : decode cX0_init 25 = .ok (.putfield 18, 3) := by decide +kernel
theorem dX0_init_28 : decode cX0_init 28 = .ok (.aload_n 0, 1) := by decide +kernel
theorem dX0_init_29 : decode cX0_init 29 = .ok (.getfield 9, 3) := by decide +kernel
theorem dX0_init_32 : decode cX0_init 32 = .ok (.bipush 20, 2) := by decide +kernel
theorem dX0_init_34 : decode cX0_init 34 = .ok (.invokestatic 22, 3) := by decide +kernel
theorem dX0_init_37 : decode cX0_init 37 = .ok (.return_, 1) := by decide +kernel
theorem dX0_becomeLike_0 : decode cX0_becomeLike 0 = .ok (.aload_n 1, 1) := by decide +kernel
theorem dX0_becomeLike_1 : decode cX0_becomeLike 1 = .ok (.getfield 9, 3) := by decide +kernel
theorem dX0_becomeLike_4 : decode cX0_becomeLike 4 = .ok (.iconst 0, 1) := by decide +kernel
theorem dX0_becomeLike_5 : decode cX0_becomeLike 5 = .ok (.aload_n 0, 1) := by decide +kernel
theorem dX0_becomeLike_6 : decode cX0_becomeLike 6 = .ok (.getfield 9, 3) := by decide +kernel
theorem dX0_becomeLike_9 : decode cX0_becomeLike 9 = .ok (.iconst 0, 1) := by decide +kernel
theorem dX0_becomeLike_10 : decode cX0_becomeLike 10 = .ok (.bipush 81, 2) := by decide +kernel
theorem dX0_becomeLike_12 : decode cX0_becomeLike 12 = .ok (.invokestatic 28, 3) := by decide +kernel
theorem dX0_becomeLike_15 : decode cX0_becomeLike 15 = .ok (.aload_n 1, 1) := by decide +kernel
theorem dX0_becomeLike_16 : decode cX0_becomeLike 16 = .ok (.getfield 15, 3) := by decide +kernel
theorem dX0_becomeLike_19 : decode cX0_becomeLike 19 = .ok (.iconst 0, 1) := by decide +kernel
theorem dX0_becomeLike_20 : decode cX0_becomeLike 20 = .ok (.aload_n 0, 1) := by decide +kernel
theorem dX0_becomeLike_21 : decode cX0_becomeLike 21 = .ok (.getfield 15, 3) := by decide +kernel
theorem dX0_becomeLike_24 : decode cX0_becomeLike 24 = .ok (.iconst 0, 1) := by decide +kernel
theorem dX0_becomeLike_25 : decode cX0_becomeLike 25 = .ok (.bipush 81, 2) := by decide +kernel
theorem dX0_becomeLike_27 : decode cX0_becomeLike 27 = .ok (.invokestatic 28, 3) := by decide +kernel
theorem dX0_becomeLike_30 : decode cX0_becomeLike 30 = .ok (.aload_n 0, 1) := by decide +kernel
theorem dX0_becomeLike_31 : decode cX0_becomeLike 31 = .ok (.aload_n 1, 1) := by decide +kernel
theorem dX0_becomeLike_32 : decode cX0_becomeLike 32 = .ok (.getfield 34, 3) := by decide +kernel
theorem dX0_becomeLike_35 : decode cX0_becomeLike 35 = .ok (.putfield 34, 3) := by decide +kernel
theorem dX0_becomeLike_38 : decode cX0_becomeLike 38 = .ok (.return_, 1) := by decide +kernel
theorem dX0_layGround_0 : decode cX0_layGround 0 = .ok (.aload_n 0, 1) := by decide +kernel
theorem dX0_layGround_1 : decode cX0_layGround 1 = .ok (.getfield 9, 3) := by decide +kernel
theorem dX0_layGround_4 : decode cX0_layGround 4 = .ok (.iload_n 1, 1) := by decide +kernel
theorem dX0_layGround_5 : decode cX0_layGround 5 = .ok (.iaload, 1) := by decide +kernel
theorem dX0_layGround_6 : decode cX0_layGround 6 = .ok (.istore_n 3, 1) := by decide +kernel
theorem dX0_layGround_7 : decode cX0_layGround 7 = .ok (.aload_n 0, 1) := by decide +kernel
theorem dX0_layGround_8 : decode cX0_layGround 8 = .ok (.getfield 9, 3) := by decide +kernel
theorem dX0_layGround_11 : decode cX0_layGround 11 = .ok (.iload_n 1, 1) := by decide +kernel
theorem dX0_layGround_12 : decode cX0_layGround 12 = .ok (.iload_n 2, 1) := by decide +kernel
theorem dX0_layGround_13 : decode cX0_layGround 13 = .ok (.iastore, 1) := by decide +kernel
theorem dX0_layGround_14 : decode cX0_layGround 14 = .ok (.aload_n 0, 1) := by decide +kernel
theorem dX0_layGround_15 : decode cX0_layGround 15 = .ok (.getfield 15, 3) := by decide +kernel
theorem dX0_layGround_18 : decode cX0_layGround 18 = .ok (.iload_n 1, 1) := by decide +kernel
theorem dX0_layGround_19 : decode cX0_layGround 19 = .ok (.aload_n 0, 1) := by decide +kernel
theorem dX0_layGround_20 : decode cX0_layGround 20 = .ok (.getfield 15, 3) := by decide +kernel
theorem dX0_layGround_23 : decode cX0_layGround 23 = .ok (.iload_n 1, 1) := by decide +kernel
theorem dX0_layGround_24 : decode cX0_layGround 24 = .ok (.iaload, 1) := by decide +kernel
theorem dX0_layGround_25 : decode cX0_layGround 25 = .ok (.iload_n 2, 1) := by decide +kernel
theorem dX0_layGround_26 : decode cX0_layGround 26 = .ok (.invokestatic 38, 3) := by decide +kernel
theorem dX0_layGround_29 : decode cX0_layGround 29 = .ok (.iastore, 1) := by decide +kernel
theorem dX0_layGround_30 : decode cX0_layGround 30 = .ok (.iload_n 3, 1) := by decide +kernel
theorem dX0_layGround_31 : decode cX0_layGround 31 = .ok (.ireturn, 1) := by decide +kernel
theorem dX0_setCoral_0 : decode cX0_setCoral 0 = .ok (.aload_n 0, 1) := by decide +kernel
theorem dX0_setCoral_1 : decode cX0_setCoral 1 = .ok (.getfield 15, 3) := by decide +kernel
theorem dX0_setCoral_4 : decode cX0_setCoral 4 = .ok (.iload_n 1, 1) := by decide +kernel
theorem dX0_setCoral_5 : decode cX0_setCoral 5 = .ok (.iaload, 1) := by decide +kernel
theorem dX0_setCoral_6 : decode cX0_setCoral 6 = .ok (.istore_n 3, 1) := by decide +kernel
theorem dX0_setCoral_7 : decode cX0_setCoral 7 = .ok (.aload_n 0, 1) := by decide +kernel
theorem dX0_setCoral_8 : decode cX0_setCoral 8 = .ok (.getfield 15, 3) := by decide +kernel
theorem dX0_setCoral_11 : decode cX0_setCoral 11 = .ok (.iload_n 1, 1) := by decide +kernel
theorem dX0_setCoral_12 : decode cX0_setCoral 12 = .ok (.iload_n 2, 1) := by decide +kernel
theorem dX0_setCoral_13 : decode cX0_setCoral 13 = .ok (.iastore, 1) := by decide +kernel
theorem dX0_setCoral_14 : decode cX0_setCoral 14 = .ok (.iload_n 3, 1) := by decide +kernel
theorem dX0_setCoral_15 : decode cX0_setCoral 15 = .ok (.ireturn, 1) := by decide +kernel
theorem dX0_groundOf_0 : decode cX0_groundOf 0 = .ok (.aload_n 0, 1) := by decide +kernel
theorem dX0_groundOf_1 : decode cX0_groundOf 1 = .ok (.getfield 9, 3) := by decide +kernel
theorem dX0_groundOf_4 : decode cX0_groundOf 4 = .ok (.iload_n 1, 1) := by decide +kernel
theorem dX0_groundOf_5 : decode cX0_groundOf 5 = .ok (.iaload, 1) := by decide +kernel
theorem dX0_groundOf_6 : decode cX0_groundOf 6 = .ok (.ireturn, 1) := by decide +kernel
theorem dX0_coralOf_0 : decode cX0_coralOf 0 = .ok (.aload_n 0, 1) := by decide +kernel
theorem dX0_coralOf_1 : decode cX0_coralOf 1 = .ok (.getfield 15, 3) := by decide +kernel
theorem dX0_coralOf_4 : decode cX0_coralOf 4 = .ok (.iload_n 1, 1) := by decide +kernel
theorem dX0_coralOf_5 : decode cX0_coralOf 5 = .ok (.iaload, 1) := by decide +kernel
theorem dX0_coralOf_6 : decode cX0_coralOf 6 = .ok (.ireturn, 1) := by decide +kernel
theorem dX0_depthOf_0 : decode cX0_depthOf 0 = .ok (.aload_n 0, 1) := by decide +kernel
theorem dX0_depthOf_1 : decode cX0_depthOf 1 = .ok (.getfield 9, 3) := by decide +kernel
theorem dX0_depthOf_4 : decode cX0_depthOf 4 = .ok (.iload_n 1, 1) := by decide +kernel
theorem dX0_depthOf_5 : decode cX0_depthOf 5 = .ok (.iaload, 1) := by decide +kernel
theorem dX0_depthOf_6 : decode cX0_depthOf 6 = .ok (.aload_n 0, 1) := by decide +kernel
theorem dX0_depthOf_7 : decode cX0_depthOf 7 = .ok (.getfield 15, 3) := by decide +kernel
theorem dX0_depthOf_10 : decode cX0_depthOf 10 = .ok (.iload_n 1, 1) := by decide +kernel
theorem dX0_depthOf_11 : decode cX0_depthOf 11 = .ok (.iaload, 1) := by decide +kernel
theorem dX0_depthOf_12 : decode cX0_depthOf 12 = .ok (.isub, 1) := by decide +kernel
theorem dX0_depthOf_13 : decode cX0_depthOf 13 = .ok (.iconst 0, 1) := by decide +kernel
theorem dX0_depthOf_14 : decode cX0_depthOf 14 = .ok (.invokestatic 44, 3) := by decide +kernel
theorem dX0_depthOf_17 : decode cX0_depthOf 17 = .ok (.ireturn, 1) := by decide +kernel
theorem dX0_isHead_0 : decode cX0_isHead 0 = .ok (.aload_n 0, 1) := by decide +kernel
theorem dX0_isHead_1 : decode cX0_isHead 1 = .ok (.getfield 15, 3) := by decide +kernel
theorem dX0_isHead_4 : decode cX0_isHead 4 = .ok (.iload_n 1, 1) := by decide +kernel
theorem dX0_isHead_5 : decode cX0_isHead 5 = .ok (.iaload, 1) := by decide +kernel
theorem dX0_isHead_6 : decode cX0_isHead 6 = .ok (.iconst 5, 1) := by decide +kernel
theorem dX0_isHead_7 : decode cX0_isHead 7 = .ok (.if_icmp .lt 7, 3) := by decide +kernel
theorem dX0_isHead_10 : decode cX0_isHead 10 = .ok (.iconst 1, 1) := by decide +kernel
theorem dX0_isHead_11 : decode cX0_isHead 11 = .ok (.goto 4, 3) := by decide +kernel
theorem dX0_isHead_14 : decode cX0_isHead 14 = .ok (.iconst 0, 1) := by decide +kernel
theorem dX0_isHead_15 : decode cX0_isHead 15 = .ok (.ireturn, 1) := by decide +kernel
theorem dX0_monthNow_0 : decode cX0_monthNow 0 = .ok (.aload_n 0, 1) := by decide +kernel
theorem dX0_monthNow_1 : decode cX0_monthNow 1 = .ok (.getfield 34, 3) := by decide +kernel
theorem dX0_monthNow_4 : decode cX0_monthNow 4 = .ok (.ireturn, 1) := by decide +kernel
set_option maxRecDepth 20000 in
theorem ggX0_heads_X0_isHead : GoodIn wsX0_heads wsX0_isHead := goodIn_r _ [5, 6, 7, 8, 9, 10] (by decide +kernel) (by decide +kernel)
set_option maxRecDepth 20000 in
theorem gX0_heads_X0_isHead : GoodIn wsX0_heads (wsV RX0 47 RX0 yX0_isHead wsX0_isHead) := goodIn_app (goodIn_of _ (by decide +kernel)) ggX0_heads_X0_isHead
theorem dX0_heads_0 : decode cX0_heads 0 = .ok (.iconst 0, 1) := by decide +kernel
theorem dX0_heads_1 : decode cX0_heads 1 = .ok (.istore_n 1, 1) := by decide +kernel
theorem dX0_heads_2 : decode cX0_heads 2 = .ok (.iconst 0, 1) := by decide +kernel
theorem dX0_heads_3 : decode cX0_heads 3 = .ok (.istore_n 2, 1) := by decide +kernel
theorem dX0_heads_4 : decode cX0_heads 4 = .ok (.iload_n 2, 1) := by decide +kernel
theorem dX0_heads_5 : decode cX0_heads 5 = .ok (.bipush 81, 2) := by decide +kernel
theorem dX0_heads_7 : decode cX0_heads 7 = .ok (.if_icmp .ge 20, 3) := by decide +kernel
theorem dX0_heads_10 : decode cX0_heads 10 = .ok (.aload_n 0, 1) := by decide +kernel
theorem dX0_heads_11 : decode cX0_heads 11 = .ok (.iload_n 2, 1) := by decide +kernel
theorem dX0_heads_12 : decode cX0_heads 12 = .ok (.invokevirtual 47, 3) := by decide +kernel
theorem dX0_heads_15 : decode cX0_heads 15 = .ok (.ifCond .eq 6, 3) := by decide +kernel
theorem dX0_heads_18 : decode cX0_heads 18 = .ok (.iinc 1 1, 3) := by decide +kernel
theorem dX0_heads_21 : decode cX0_heads 21 = .ok (.iinc 2 1, 3) := by decide +kernel
theorem dX0_heads_24 : decode cX0_heads 24 = .ok (.goto (-20), 3) := by decide +kernel
theorem dX0_heads_27 : decode cX0_heads 27 = .ok (.iload_n 1, 1) := by decide +kernel
theorem dX0_heads_28 : decode cX0_heads 28 = .ok (.ireturn, 1) := by decide +kernel
theorem dX0_allCoral_0 : decode cX0_allCoral 0 = .ok (.iconst 0, 1) := by decide +kernel
theorem dX0_allCoral_1 : decode cX0_allCoral 1 = .ok (.istore_n 1, 1) := by decide +kernel
theorem dX0_allCoral_2 : decode cX0_allCoral 2 = .ok (.iconst 0, 1) := by decide +kernel
theorem dX0_allCoral_3 : decode cX0_allCoral 3 = .ok (.istore_n 2, 1) := by decide +kernel
theorem dX0_allCoral_4 : decode cX0_allCoral 4 = .ok (.iload_n 2, 1) := by decide +kernel
theorem dX0_allCoral_5 : decode cX0_allCoral 5 = .ok (.bipush 81, 2) := by decide +kernel
theorem dX0_allCoral_7 : decode cX0_allCoral 7 = .ok (.if_icmp .ge 18, 3) := by decide +kernel
theorem dX0_allCoral_10 : decode cX0_allCoral 10 = .ok (.iload_n 1, 1) := by decide +kernel
theorem dX0_allCoral_11 : decode cX0_allCoral 11 = .ok (.aload_n 0, 1) := by decide +kernel
theorem dX0_allCoral_12 : decode cX0_allCoral 12 = .ok (.getfield 15, 3) := by decide +kernel
theorem dX0_allCoral_15 : decode cX0_allCoral 15 = .ok (.iload_n 2, 1) := by decide +kernel
theorem dX0_allCoral_16 : decode cX0_allCoral 16 = .ok (.iaload, 1) := by decide +kernel
theorem dX0_allCoral_17 : decode cX0_allCoral 17 = .ok (.iadd, 1) := by decide +kernel
theorem dX0_allCoral_18 : decode cX0_allCoral 18 = .ok (.istore_n 1, 1) := by decide +kernel
theorem dX0_allCoral_19 : decode cX0_allCoral 19 = .ok (.iinc 2 1, 3) := by decide +kernel
theorem dX0_allCoral_22 : decode cX0_allCoral 22 = .ok (.goto (-18), 3) := by decide +kernel
theorem dX0_allCoral_25 : decode cX0_allCoral 25 = .ok (.iload_n 1, 1) := by decide +kernel
theorem dX0_allCoral_26 : decode cX0_allCoral 26 = .ok (.ireturn, 1) := by decide +kernel
set_option maxRecDepth 20000 in
theorem ggX0_letMonthGo_X3_warmthIn : GoodIn wsX0_letMonthGo wsX3_warmthIn := goodIn_r _ [6, 7, 8, 9, 10, 11, 75, 76] (by decide +kernel) (by decide +kernel)
set_option maxRecDepth 20000 in
theorem gX0_letMonthGo_X3_warmthIn : GoodIn wsX0_letMonthGo (wsV RX0 51 RX3 yX3_warmthIn wsX3_warmthIn) := goodIn_app (goodIn_of _ (by decide +kernel)) ggX0_letMonthGo_X3_warmthIn
set_option maxRecDepth 20000 in
theorem ggX0_letMonthGo_X0_changeByWarmth : GoodIn wsX0_letMonthGo wsX0_changeByWarmth := goodIn_r _ [16, 17, 18, 19, 15, 20, 21, 22, 23, 24, 25, 26, 27, 28, 29, 30, 31, 32, 33, 34, 35, 36, 37, 38, 39, 40, 41, 42, 43, 44, 45, 46, 47, 48, 49, 50, 51, 52, 53, 71, 72, 73, 74] (by decide +kernel) (by decide +kernel)
set_option maxRecDepth 20000 in
theorem gX0_letMonthGo_X0_changeByWarmth : GoodIn wsX0_letMonthGo (wsV RX0 57 RX0 yX0_changeByWarmth wsX0_changeByWarmth) := goodIn_app (goodIn_of _ (by decide +kernel)) ggX0_letMonthGo_X0_changeByWarmth
set_option maxRecDepth 20000 in
theorem ggX0_letMonthGo_X0_seed : GoodIn wsX0_letMonthGo wsX0_seed := goodIn_r _ [57, 21, 30, 34, 35, 36, 15, 37, 38, 39, 40, 41, 42, 47, 48, 49, 50, 51, 52, 53, 71, 72, 73, 74] (by decide +kernel) (by decide +kernel)
set_option maxRecDepth 20000 in
theorem gX0_letMonthGo_X0_seed : GoodIn wsX0_letMonthGo (wsV RX0 61 RX0 yX0_seed wsX0_seed) := goodIn_app (goodIn_of _ (by decide +kernel)) ggX0_letMonthGo_X0_seed
set_option maxRecDepth 20000 in
theorem ggX0_letMonthGo_X3_stormIn : GoodIn wsX0_letMonthGo wsX3_stormIn := goodIn_r _ [61, 62, 8, 9, 10, 11, 75, 76] (by decide +kernel) (by decide +kernel)
set_option maxRecDepth 20000 in
theorem gX0_letMonthGo_X3_stormIn : GoodIn wsX0_letMonthGo (wsV RX0 64 RX3 yX3_stormIn wsX3_stormIn) := goodIn_app (goodIn_of _ (by decide +kernel)) ggX0_letMonthGo_X3_stormIn
set_option maxRecDepth 20000 in
theorem ggX0_letMonthGo_X0_breakByStorm : GoodIn wsX0_letMonthGo wsX0_breakByStorm := goodIn_r _ [66, 21, 31, 32, 24, 33, 43, 44, 45, 15, 46, 30, 22, 23, 25, 67, 68, 69, 70, 71, 72, 73, 74] (by decide +kernel) (by decide +kernel)
set_option maxRecDepth 20000 in
theorem gX0_letMonthGo_X0_breakByStorm : GoodIn wsX0_letMonthGo (wsV RX0 67 RX0 yX0_breakByStorm wsX0_breakByStorm) := goodIn_app (goodIn_of _ (by decide +kernel)) ggX0_letMonthGo_X0_breakByStorm
theorem dX0_letMonthGo_0 : decode cX0_letMonthGo 0 = .ok (.aload_n 0, 1) := by decide +kernel
theorem dX0_letMonthGo_1 : decode cX0_letMonthGo 1 = .ok (.aload_n 1, 1) := by decide +kernel
theorem dX0_letMonthGo_2 : decode cX0_letMonthGo 2 = .ok (.aload_n 0, 1) := by decide +kernel
theorem dX0_letMonthGo_3 : decode cX0_letMonthGo 3 = .ok (.getfield 34, 3) := by decide +kernel
theorem dX0_letMonthGo_6 : decode cX0_letMonthGo 6 = .ok (.invokevirtual 51, 3) := by decide +kernel
theorem dX0_letMonthGo_9 : decode cX0_letMonthGo 9 = .ok (.invokevirtual 57, 3) := by decide +kernel
theorem dX0_letMonthGo_12 : decode cX0_letMonthGo 12 = .ok (.aload_n 0, 1) := by decide +kernel
theorem dX0_letMonthGo_13 : decode cX0_letMonthGo 13 = .ok (.invokevirtual 61, 3) := by decide +kernel
theorem dX0_letMonthGo_16 : decode cX0_letMonthGo 16 = .ok (.aload_n 0, 1) := by decide +kernel
theorem dX0_letMonthGo_17 : decode cX0_letMonthGo 17 = .ok (.aload_n 1, 1) := by decide +kernel
theorem dX0_letMonthGo_18 : decode cX0_letMonthGo 18 = .ok (.aload_n 0, 1) := by decide +kernel
theorem dX0_letMonthGo_19 : decode cX0_letMonthGo 19 = .ok (.getfield 34, 3) := by decide +kernel
theorem dX0_letMonthGo_22 : decode cX0_letMonthGo 22 = .ok (.invokevirtual 64, 3) := by decide +kernel
theorem dX0_letMonthGo_25 : decode cX0_letMonthGo 25 = .ok (.invokevirtual 67, 3) := by decide +kernel
theorem dX0_letMonthGo_28 : decode cX0_letMonthGo 28 = .ok (.aload_n 0, 1) := by decide +kernel
theorem dX0_letMonthGo_29 : decode cX0_letMonthGo 29 = .ok (.dup, 1) := by decide +kernel
theorem dX0_letMonthGo_30 : decode cX0_letMonthGo 30 = .ok (.getfield 34, 3) := by decide +kernel
theorem dX0_letMonthGo_33 : decode cX0_letMonthGo 33 = .ok (.iconst 1, 1) := by decide +kernel
theorem dX0_letMonthGo_34 : decode cX0_letMonthGo 34 = .ok (.iadd, 1) := by decide +kernel
theorem dX0_letMonthGo_35 : decode cX0_letMonthGo 35 = .ok (.putfield 34, 3) := by decide +kernel
theorem dX0_letMonthGo_38 : decode cX0_letMonthGo 38 = .ok (.return_, 1) := by decide +kernel
set_option maxRecDepth 20000 in
theorem ggX0_changeByWarmth_X0_dieBack : GoodIn wsX0_changeByWarmth wsX0_dieBack := goodIn_r _ [5, 6, 7, 8, 9, 10, 39, 40, 41, 42] (by decide +kernel) (by decide +kernel)
set_option maxRecDepth 20000 in
theorem gX0_changeByWarmth_X0_dieBack : GoodIn wsX0_changeByWarmth (wsV RX0 70 RX0 yX0_dieBack wsX0_dieBack) := goodIn_app (goodIn_of _ (by decide +kernel)) ggX0_changeByWarmth_X0_dieBack
set_option maxRecDepth 20000 in
theorem ggX0_changeByWarmth_X0_grow : GoodIn wsX0_changeByWarmth wsX0_grow := goodIn_r _ [14, 6, 15, 16, 17, 9, 18, 19, 20, 21, 4, 22, 23, 24, 25, 26, 27, 28, 29, 30, 31, 7, 8, 10, 32, 33, 34, 35, 36, 37, 38, 39, 40, 41, 42] (by decide +kernel) (by decide +kernel)
set_option maxRecDepth 20000 in
theorem gX0_changeByWarmth_X0_grow : GoodIn wsX0_changeByWarmth (wsV RX0 73 RX0 yX0_grow wsX0_grow) := goodIn_app (goodIn_of _ (by decide +kernel)) ggX0_changeByWarmth_X0_grow
theorem dX0_changeByWarmth_0 : decode cX0_changeByWarmth 0 = .ok (.iload_n 1, 1) := by decide +kernel
theorem dX0_changeByWarmth_1 : decode cX0_changeByWarmth 1 = .ok (.bipush 8, 2) := by decide +kernel
theorem dX0_changeByWarmth_3 : decode cX0_changeByWarmth 3 = .ok (.if_icmp .lt 10, 3) := by decide +kernel
theorem dX0_changeByWarmth_6 : decode cX0_changeByWarmth 6 = .ok (.aload_n 0, 1) := by decide +kernel
theorem dX0_changeByWarmth_7 : decode cX0_changeByWarmth 7 = .ok (.invokevirtual 70, 3) := by decide +kernel
theorem dX0_changeByWarmth_10 : decode cX0_changeByWarmth 10 = .ok (.goto 12, 3) := by decide +kernel
theorem dX0_changeByWarmth_13 : decode cX0_changeByWarmth 13 = .ok (.iload_n 1, 1) := by decide +kernel
theorem dX0_changeByWarmth_14 : decode cX0_changeByWarmth 14 = .ok (.iconst 3, 1) := by decide +kernel
theorem dX0_changeByWarmth_15 : decode cX0_changeByWarmth 15 = .ok (.if_icmp .lt 7, 3) := by decide +kernel
theorem dX0_changeByWarmth_18 : decode cX0_changeByWarmth 18 = .ok (.aload_n 0, 1) := by decide +kernel
theorem dX0_changeByWarmth_19 : decode cX0_changeByWarmth 19 = .ok (.invokevirtual 73, 3) := by decide +kernel
theorem dX0_changeByWarmth_22 : decode cX0_changeByWarmth 22 = .ok (.return_, 1) := by decide +kernel
theorem dX0_dieBack_0 : decode cX0_dieBack 0 = .ok (.iconst 0, 1) := by decide +kernel
theorem dX0_dieBack_1 : decode cX0_dieBack 1 = .ok (.istore_n 1, 1) := by decide +kernel
theorem dX0_dieBack_2 : decode cX0_dieBack 2 = .ok (.iload_n 1, 1) := by decide +kernel
theorem dX0_dieBack_3 : decode cX0_dieBack 3 = .ok (.bipush 81, 2) := by decide +kernel
theorem dX0_dieBack_5 : decode cX0_dieBack 5 = .ok (.if_icmp .ge 27, 3) := by decide +kernel
theorem dX0_dieBack_8 : decode cX0_dieBack 8 = .ok (.aload_n 0, 1) := by decide +kernel
theorem dX0_dieBack_9 : decode cX0_dieBack 9 = .ok (.getfield 15, 3) := by decide +kernel
theorem dX0_dieBack_12 : decode cX0_dieBack 12 = .ok (.iload_n 1, 1) := by decide +kernel
theorem dX0_dieBack_13 : decode cX0_dieBack 13 = .ok (.aload_n 0, 1) := by decide +kernel
theorem dX0_dieBack_14 : decode cX0_dieBack 14 = .ok (.getfield 15, 3) := by decide +kernel
theorem dX0_dieBack_17 : decode cX0_dieBack 17 = .ok (.iload_n 1, 1) := by decide +kernel
theorem dX0_dieBack_18 : decode cX0_dieBack 18 = .ok (.iaload, 1) := by decide +kernel
theorem dX0_dieBack_19 : decode cX0_dieBack 19 = .ok (.iconst 1, 1) := by decide +kernel
theorem dX0_dieBack_20 : decode cX0_dieBack 20 = .ok (.isub, 1) := by decide +kernel
theorem dX0_dieBack_21 : decode cX0_dieBack 21 = .ok (.iconst 0, 1) := by decide +kernel
theorem dX0_dieBack_22 : decode cX0_dieBack 22 = .ok (.invokestatic 44, 3) := by decide +kernel
theorem dX0_dieBack_25 : decode cX0_dieBack 25 = .ok (.iastore, 1) := by decide +kernel
theorem dX0_dieBack_26 : decode cX0_dieBack 26 = .ok (.iinc 1 1, 3) := by decide +kernel
theorem dX0_dieBack_29 : decode cX0_dieBack 29 = .ok (.goto (-27), 3) := by decide +kernel
theorem dX0_dieBack_32 : decode cX0_dieBack 32 = .ok (.return_, 1) := by decide +kernel
set_option maxRecDepth 20000 in
theorem ggX0_grow_X0_rememberHeads : GoodIn wsX0_grow wsX0_rememberHeads := goodIn_r _ [11, 12, 13, 14, 15, 10, 16, 1, 31, 32, 33, 34] (by decide +kernel) (by decide +kernel)
set_option maxRecDepth 20000 in
theorem gX0_grow_X0_rememberHeads : GoodIn wsX0_grow (wsV RX0 76 RX0 yX0_rememberHeads wsX0_rememberHeads) := goodIn_app (goodIn_of _ (by decide +kernel)) ggX0_grow_X0_rememberHeads
set_option maxRecDepth 20000 in
theorem ggX0_grow_X0_depthOf : GoodIn wsX0_grow wsX0_depthOf := goodIn_r _ [20, 2, 1, 21, 22, 5, 23, 31, 32, 33, 34] (by decide +kernel) (by decide +kernel)
set_option maxRecDepth 20000 in
theorem gX0_grow_X0_depthOf : GoodIn wsX0_grow (wsV RX0 79 RX0 yX0_depthOf wsX0_depthOf) := goodIn_app (goodIn_of _ (by decide +kernel)) ggX0_grow_X0_depthOf
set_option maxRecDepth 20000 in
theorem ggX0_grow_X0_headsBeside : GoodIn wsX0_grow wsX0_headsBeside := goodIn_r _ [27, 12, 28, 29, 30, 31, 32, 33, 34] (by decide +kernel) (by decide +kernel)
set_option maxRecDepth 20000 in
theorem gX0_grow_X0_headsBeside : GoodIn wsX0_grow (wsV RX0 82 RX0 yX0_headsBeside wsX0_headsBeside) := goodIn_app (goodIn_of _ (by decide +kernel)) ggX0_grow_X0_headsBeside
theorem dX0_grow_0 : decode cX0_grow 0 = .ok (.aload_n 0, 1) := by decide +kernel
theorem dX0_grow_1 : decode cX0_grow 1 = .ok (.invokevirtual 76, 3) := by decide +kernel
theorem dX0_grow_4 : decode cX0_grow 4 = .ok (.iconst 0, 1) := by decide +kernel
theorem dX0_grow_5 : decode cX0_grow 5 = .ok (.istore_n 1, 1) := by decide +kernel
theorem dX0_grow_6 : decode cX0_grow 6 = .ok (.iload_n 1, 1) := by decide +kernel
theorem dX0_grow_7 : decode cX0_grow 7 = .ok (.bipush 81, 2) := by decide +kernel
theorem dX0_grow_9 : decode cX0_grow 9 = .ok (.if_icmp .ge 75, 3) := by decide +kernel
theorem dX0_grow_12 : decode cX0_grow 12 = .ok (.aload_n 0, 1) := by decide +kernel
theorem dX0_grow_13 : decode cX0_grow 13 = .ok (.iload_n 1, 1) := by decide +kernel
theorem dX0_grow_14 : decode cX0_grow 14 = .ok (.invokevirtual 79, 3) := by decide +kernel
theorem dX0_grow_17 : decode cX0_grow 17 = .ok (.istore_n 2, 1) := by decide +kernel
theorem dX0_grow_18 : decode cX0_grow 18 = .ok (.aload_n 0, 1) := by decide +kernel
theorem dX0_grow_19 : decode cX0_grow 19 = .ok (.getfield 15, 3) := by decide +kernel
theorem dX0_grow_22 : decode cX0_grow 22 = .ok (.iload_n 1, 1) := by decide +kernel
theorem dX0_grow_23 : decode cX0_grow 23 = .ok (.iaload, 1) := by decide +kernel
theorem dX0_grow_24 : decode cX0_grow 24 = .ok (.ifCond .le 54, 3) := by decide +kernel
theorem dX0_grow_27 : decode cX0_grow 27 = .ok (.iload_n 2, 1) := by decide +kernel
theorem dX0_grow_28 : decode cX0_grow 28 = .ok (.iconst 2, 1) := by decide +kernel
theorem dX0_grow_29 : decode cX0_grow 29 = .ok (.if_icmp .lt 49, 3) := by decide +kernel
theorem dX0_grow_32 : decode cX0_grow 32 = .ok (.iload_n 2, 1) := by decide +kernel
theorem dX0_grow_33 : decode cX0_grow 33 = .ok (.bipush 15, 2) := by decide +kernel
theorem dX0_grow_35 : decode cX0_grow 35 = .ok (.if_icmp .gt 43, 3) := by decide +kernel
theorem dX0_grow_38 : decode cX0_grow 38 = .ok (.aload_n 0, 1) := by decide +kernel
theorem dX0_grow_39 : decode cX0_grow 39 = .ok (.iload_n 1, 1) := by decide +kernel
theorem dX0_grow_40 : decode cX0_grow 40 = .ok (.invokevirtual 82, 3) := by decide +kernel
theorem dX0_grow_43 : decode cX0_grow 43 = .ok (.iconst 2, 1) := by decide +kernel
theorem dX0_grow_44 : decode cX0_grow 44 = .ok (.if_icmp .lt 7, 3) := by decide +kernel
theorem dX0_grow_47 : decode cX0_grow 47 = .ok (.iconst 2, 1) := by decide +kernel
theorem dX0_grow_48 : decode cX0_grow 48 = .ok (.goto 4, 3) := by decide +kernel
theorem dX0_grow_51 : decode cX0_grow 51 = .ok (.iconst 1, 1) := by decide +kernel
theorem dX0_grow_52 : decode cX0_grow 52 = .ok (.istore_n 3, 1) := by decide +kernel
theorem dX0_grow_53 : decode cX0_grow 53 = .ok (.aload_n 0, 1) := by decide +kernel
theorem dX0_grow_54 : decode cX0_grow 54 = .ok (.getfield 15, 3) := by decide +kernel
theorem dX0_grow_57 : decode cX0_grow 57 = .ok (.iload_n 1, 1) := by decide +kernel
theorem dX0_grow_58 : decode cX0_grow 58 = .ok (.aload_n 0, 1) := by decide +kernel
theorem dX0_grow_59 : decode cX0_grow 59 = .ok (.getfield 15, 3) := by decide +kernel
theorem dX0_grow_62 : decode cX0_grow 62 = .ok (.iload_n 1, 1) := by decide +kernel
theorem dX0_grow_63 : decode cX0_grow 63 = .ok (.iaload, 1) := by decide +kernel
theorem dX0_grow_64 : decode cX0_grow 64 = .ok (.iload_n 3, 1) := by decide +kernel
theorem dX0_grow_65 : decode cX0_grow 65 = .ok (.iadd, 1) := by decide +kernel
theorem dX0_grow_66 : decode cX0_grow 66 = .ok (.aload_n 0, 1) := by decide +kernel
theorem dX0_grow_67 : decode cX0_grow 67 = .ok (.getfield 9, 3) := by decide +kernel
theorem dX0_grow_70 : decode cX0_grow 70 = .ok (.iload_n 1, 1) := by decide +kernel
theorem dX0_grow_71 : decode cX0_grow 71 = .ok (.iaload, 1) := by decide +kernel
theorem dX0_grow_72 : decode cX0_grow 72 = .ok (.iconst 1, 1) := by decide +kernel
theorem dX0_grow_73 : decode cX0_grow 73 = .ok (.isub, 1) := by decide +kernel
theorem dX0_grow_74 : decode cX0_grow 74 = .ok (.invokestatic 38, 3) := by decide +kernel
theorem dX0_grow_77 : decode cX0_grow 77 = .ok (.iastore, 1) := by decide +kernel
theorem dX0_grow_78 : decode cX0_grow 78 = .ok (.iinc 1 1, 3) := by decide +kernel
theorem dX0_grow_81 : decode cX0_grow 81 = .ok (.goto (-75), 3) := by decide +kernel
theorem dX0_grow_84 : decode cX0_grow 84 = .ok (.return_, 1) := by decide +kernel
set_option maxRecDepth 20000 in
theorem ggX0_seed_X0_rememberHeads : GoodIn wsX0_seed wsX0_rememberHeads := goodIn_r _ [7, 8, 9, 10, 11, 6, 12, 1, 20, 21, 22, 23] (by decide +kernel) (by decide +kernel)
set_option maxRecDepth 20000 in
theorem gX0_seed_X0_rememberHeads : GoodIn wsX0_seed (wsV RX0 76 RX0 yX0_rememberHeads wsX0_rememberHeads) := goodIn_app (goodIn_of _ (by decide +kernel)) ggX0_seed_X0_rememberHeads
set_option maxRecDepth 20000 in
theorem ggX0_seed_X0_headsBeside : GoodIn wsX0_seed wsX0_headsBeside := goodIn_r _ [16, 8, 17, 18, 19, 20, 21, 22, 23] (by decide +kernel) (by decide +kernel)
set_option maxRecDepth 20000 in
theorem gX0_seed_X0_headsBeside : GoodIn wsX0_seed (wsV RX0 82 RX0 yX0_headsBeside wsX0_headsBeside) := goodIn_app (goodIn_of _ (by decide +kernel)) ggX0_seed_X0_headsBeside
theorem dX0_seed_0 : decode cX0_seed 0 = .ok (.aload_n 0, 1) := by decide +kernel
theorem dX0_seed_1 : decode cX0_seed 1 = .ok (.invokevirtual 76, 3) := by decide +kernel
theorem dX0_seed_4 : decode cX0_seed 4 = .ok (.iconst 0, 1) := by decide +kernel
theorem dX0_seed_5 : decode cX0_seed 5 = .ok (.istore_n 1, 1) := by decide +kernel
theorem dX0_seed_6 : decode cX0_seed 6 = .ok (.iload_n 1, 1) := by decide +kernel
theorem dX0_seed_7 : decode cX0_seed 7 = .ok (.bipush 81, 2) := by decide +kernel
theorem dX0_seed_9 : decode cX0_seed 9 = .ok (.if_icmp .ge 64, 3) := by decide +kernel
theorem dX0_seed_12 : decode cX0_seed 12 = .ok (.aload_n 0, 1) := by decide +kernel
theorem dX0_seed_13 : decode cX0_seed 13 = .ok (.getfield 15, 3) := by decide +kernel
theorem dX0_seed_16 : decode cX0_seed 16 = .ok (.iload_n 1, 1) := by decide +kernel
theorem dX0_seed_17 : decode cX0_seed 17 = .ok (.iaload, 1) := by decide +kernel
theorem dX0_seed_18 : decode cX0_seed 18 = .ok (.ifCond .ne 28, 3) := by decide +kernel
theorem dX0_seed_21 : decode cX0_seed 21 = .ok (.aload_n 0, 1) := by decide +kernel
theorem dX0_seed_22 : decode cX0_seed 22 = .ok (.getfield 9, 3) := by decide +kernel
theorem dX0_seed_25 : decode cX0_seed 25 = .ok (.iload_n 1, 1) := by decide +kernel
theorem dX0_seed_26 : decode cX0_seed 26 = .ok (.iaload, 1) := by decide +kernel
theorem dX0_seed_27 : decode cX0_seed 27 = .ok (.iconst 3, 1) := by decide +kernel
theorem dX0_seed_28 : decode cX0_seed 28 = .ok (.if_icmp .lt 18, 3) := by decide +kernel
theorem dX0_seed_31 : decode cX0_seed 31 = .ok (.aload_n 0, 1) := by decide +kernel
theorem dX0_seed_32 : decode cX0_seed 32 = .ok (.getfield 9, 3) := by decide +kernel
theorem dX0_seed_35 : decode cX0_seed 35 = .ok (.iload_n 1, 1) := by decide +kernel
theorem dX0_seed_36 : decode cX0_seed 36 = .ok (.iaload, 1) := by decide +kernel
theorem dX0_seed_37 : decode cX0_seed 37 = .ok (.bipush 15, 2) := by decide +kernel
theorem dX0_seed_39 : decode cX0_seed 39 = .ok (.if_icmp .gt 7, 3) := by decide +kernel
theorem dX0_seed_42 : decode cX0_seed 42 = .ok (.iconst 1, 1) := by decide +kernel
theorem dX0_seed_43 : decode cX0_seed 43 = .ok (.goto 4, 3) := by decide +kernel
theorem dX0_seed_46 : decode cX0_seed 46 = .ok (.iconst 0, 1) := by decide +kernel
theorem dX0_seed_47 : decode cX0_seed 47 = .ok (.istore_n 2, 1) := by decide +kernel
theorem dX0_seed_48 : decode cX0_seed 48 = .ok (.iload_n 2, 1) := by decide +kernel
theorem dX0_seed_49 : decode cX0_seed 49 = .ok (.ifCond .eq 18, 3) := by decide +kernel
theorem dX0_seed_52 : decode cX0_seed 52 = .ok (.aload_n 0, 1) := by decide +kernel
theorem dX0_seed_53 : decode cX0_seed 53 = .ok (.iload_n 1, 1) := by decide +kernel
theorem dX0_seed_54 : decode cX0_seed 54 = .ok (.invokevirtual 82, 3) := by decide +kernel
theorem dX0_seed_57 : decode cX0_seed 57 = .ok (.ifCond .le 10, 3) := by decide +kernel
theorem dX0_seed_60 : decode cX0_seed 60 = .ok (.aload_n 0, 1) := by decide +kernel
theorem dX0_seed_61 : decode cX0_seed 61 = .ok (.getfield 15, 3) := by decide +kernel
theorem dX0_seed_64 : decode cX0_seed 64 = .ok (.iload_n 1, 1) := by decide +kernel
theorem dX0_seed_65 : decode cX0_seed 65 = .ok (.iconst 1, 1) := by decide +kernel
theorem dX0_seed_66 : decode cX0_seed 66 = .ok (.iastore, 1) := by decide +kernel
theorem dX0_seed_67 : decode cX0_seed 67 = .ok (.iinc 1 1, 3) := by decide +kernel
theorem dX0_seed_70 : decode cX0_seed 70 = .ok (.goto (-64), 3) := by decide +kernel
theorem dX0_seed_73 : decode cX0_seed 73 = .ok (.return_, 1) := by decide +kernel
set_option maxRecDepth 20000 in
theorem ggX0_rememberHeads_X0_isHead : GoodIn wsX0_rememberHeads wsX0_isHead := goodIn_r _ [6, 7, 8, 9, 10, 11] (by decide +kernel) (by decide +kernel)
set_option maxRecDepth 20000 in
theorem gX0_rememberHeads_X0_isHead : GoodIn wsX0_rememberHeads (wsV RX0 47 RX0 yX0_isHead wsX0_isHead) := goodIn_app (goodIn_of _ (by decide +kernel)) ggX0_rememberHeads_X0_isHead
theorem dX0_rememberHeads_0 : decode cX0_rememberHeads 0 = .ok (.iconst 0, 1) := by decide +kernel
theorem dX0_rememberHeads_1 : decode cX0_rememberHeads 1 = .ok (.istore_n 1, 1) := by decide +kernel
theorem dX0_rememberHeads_2 : decode cX0_rememberHeads 2 = .ok (.iload_n 1, 1) := by decide +kernel
theorem dX0_rememberHeads_3 : decode cX0_rememberHeads 3 = .ok (.bipush 81, 2) := by decide +kernel
theorem dX0_rememberHeads_5 : decode cX0_rememberHeads 5 = .ok (.if_icmp .ge 20, 3) := by decide +kernel
theorem dX0_rememberHeads_8 : decode cX0_rememberHeads 8 = .ok (.aload_n 0, 1) := by decide +kernel
theorem dX0_rememberHeads_9 : decode cX0_rememberHeads 9 = .ok (.getfield 18, 3) := by decide +kernel
theorem dX0_rememberHeads_12 : decode cX0_rememberHeads 12 = .ok (.iload_n 1, 1) := by decide +kernel
theorem dX0_rememberHeads_13 : decode cX0_rememberHeads 13 = .ok (.aload_n 0, 1) := by decide +kernel
theorem dX0_rememberHeads_14 : decode cX0_rememberHeads 14 = .ok (.iload_n 1, 1) := by decide +kernel
theorem dX0_rememberHeads_15 : decode cX0_rememberHeads 15 = .ok (.invokevirtual 47, 3) := by decide +kernel
theorem dX0_rememberHeads_18 : decode cX0_rememberHeads 18 = .ok (.bastore, 1) := by decide +kernel
theorem dX0_rememberHeads_19 : decode cX0_rememberHeads 19 = .ok (.iinc 1 1, 3) := by decide +kernel
theorem dX0_rememberHeads_22 : decode cX0_rememberHeads 22 = .ok (.goto (-20), 3) := by decide +kernel
theorem dX0_rememberHeads_25 : decode cX0_rememberHeads 25 = .ok (.return_, 1) := by decide +kernel
set_option maxRecDepth 20000 in
theorem ggX0_headsBeside_X4_neighbour : GoodIn wsX0_headsBeside wsX4_neighbour := goodIn_r _ [4] (by decide +kernel) (by decide +kernel)
set_option maxRecDepth 20000 in
theorem gX0_headsBeside_X4_neighbour_n85 : GoodIn wsX0_headsBeside (wsX4_neighbour) := ggX0_headsBeside_X4_neighbour
theorem dX0_headsBeside_0 : decode cX0_headsBeside 0 = .ok (.iconst 0, 1) := by decide +kernel
theorem dX0_headsBeside_1 : decode cX0_headsBeside 1 = .ok (.istore_n 2, 1) := by decide +kernel
theorem dX0_headsBeside_2 : decode cX0_headsBeside 2 = .ok (.iconst 0, 1) := by decide +kernel
theorem dX0_headsBeside_3 : decode cX0_headsBeside 3 = .ok (.istore_n 3, 1) := by decide +kernel
theorem dX0_headsBeside_4 : decode cX0_headsBeside 4 = .ok (.iload_n 3, 1) := by decide +kernel
theorem dX0_headsBeside_5 : decode cX0_headsBeside 5 = .ok (.iconst 4, 1) := by decide +kernel
theorem dX0_headsBeside_6 : decode cX0_headsBeside 6 = .ok (.if_icmp .ge 35, 3) := by decide +kernel
theorem dX0_headsBeside_9 : decode cX0_headsBeside 9 = .ok (.iload_n 1, 1) := by decide +kernel
theorem dX0_headsBeside_10 : decode cX0_headsBeside 10 = .ok (.iload_n 3, 1) := by decide +kernel
theorem dX0_headsBeside_11 : decode cX0_headsBeside 11 = .ok (.invokestatic 85, 3) := by decide +kernel
theorem dX0_headsBeside_14 : decode cX0_headsBeside 14 = .ok (.istore 4, 2) := by decide +kernel
theorem dX0_headsBeside_16 : decode cX0_headsBeside 16 = .ok (.iload 4, 2) := by decide +kernel
theorem dX0_headsBeside_18 : decode cX0_headsBeside 18 = .ok (.iconst (-1), 1) := by decide +kernel
theorem dX0_headsBeside_19 : decode cX0_headsBeside 19 = .ok (.if_icmp .eq 16, 3) := by decide +kernel
theorem dX0_headsBeside_22 : decode cX0_headsBeside 22 = .ok (.aload_n 0, 1) := by decide +kernel
theorem dX0_headsBeside_23 : decode cX0_headsBeside 23 = .ok (.getfield 18, 3) := by decide +kernel
theorem dX0_headsBeside_26 : decode cX0_headsBeside 26 = .ok (.iload 4, 2) := by decide +kernel
theorem dX0_headsBeside_28 : decode cX0_headsBeside 28 = .ok (.baload, 1) := by decide +kernel
theorem dX0_headsBeside_29 : decode cX0_headsBeside 29 = .ok (.ifCond .eq 6, 3) := by decide +kernel
theorem dX0_headsBeside_32 : decode cX0_headsBeside 32 = .ok (.iinc 2 1, 3) := by decide +kernel
theorem dX0_headsBeside_35 : decode cX0_headsBeside 35 = .ok (.iinc 3 1, 3) := by decide +kernel
theorem dX0_headsBeside_38 : decode cX0_headsBeside 38 = .ok (.goto (-34), 3) := by decide +kernel
theorem dX0_headsBeside_41 : decode cX0_headsBeside 41 = .ok (.iload_n 2, 1) := by decide +kernel
theorem dX0_headsBeside_42 : decode cX0_headsBeside 42 = .ok (.ireturn, 1) := by decide +kernel
set_option maxRecDepth 20000 in
theorem ggX0_breakByStorm_X0_depthOf : GoodIn wsX0_breakByStorm wsX0_depthOf := goodIn_r _ [10, 11, 1, 12, 13, 4, 14, 19, 20, 21, 22] (by decide +kernel) (by decide +kernel)
set_option maxRecDepth 20000 in
theorem gX0_breakByStorm_X0_depthOf : GoodIn wsX0_breakByStorm (wsV RX0 79 RX0 yX0_depthOf wsX0_depthOf) := goodIn_app (goodIn_of _ (by decide +kernel)) ggX0_breakByStorm_X0_depthOf
set_option maxRecDepth 20000 in
theorem ggX0_breakByStorm_X0_dropRubble : GoodIn wsX0_breakByStorm wsX0_dropRubble := goodIn_r _ [18, 11, 1, 12, 13, 4, 14, 19, 20, 21, 22] (by decide +kernel) (by decide +kernel)
set_option maxRecDepth 20000 in
theorem gX0_breakByStorm_X0_dropRubble : GoodIn wsX0_breakByStorm (wsV RX0 88 RX0 yX0_dropRubble wsX0_dropRubble) := goodIn_app (goodIn_of _ (by decide +kernel)) ggX0_breakByStorm_X0_dropRubble
theorem dX0_breakByStorm_0 : decode cX0_breakByStorm 0 = .ok (.iconst 0, 1) := by decide +kernel
theorem dX0_breakByStorm_1 : decode cX0_breakByStorm 1 = .ok (.istore_n 2, 1) := by decide +kernel
theorem dX0_breakByStorm_2 : decode cX0_breakByStorm 2 = .ok (.iload_n 2, 1) := by decide +kernel
theorem dX0_breakByStorm_3 : decode cX0_breakByStorm 3 = .ok (.bipush 81, 2) := by decide +kernel
theorem dX0_breakByStorm_5 : decode cX0_breakByStorm 5 = .ok (.if_icmp .ge 52, 3) := by decide +kernel
theorem dX0_breakByStorm_8 : decode cX0_breakByStorm 8 = .ok (.aload_n 0, 1) := by decide +kernel
theorem dX0_breakByStorm_9 : decode cX0_breakByStorm 9 = .ok (.iload_n 2, 1) := by decide +kernel
theorem dX0_breakByStorm_10 : decode cX0_breakByStorm 10 = .ok (.invokevirtual 79, 3) := by decide +kernel
theorem dX0_breakByStorm_13 : decode cX0_breakByStorm 13 = .ok (.iload_n 1, 1) := by decide +kernel
theorem dX0_breakByStorm_14 : decode cX0_breakByStorm 14 = .ok (.iconst 2, 1) := by decide +kernel
theorem dX0_breakByStorm_15 : decode cX0_breakByStorm 15 = .ok (.idiv, 1) := by decide +kernel
theorem dX0_breakByStorm_16 : decode cX0_breakByStorm 16 = .ok (.if_icmp .ge 35, 3) := by decide +kernel
theorem dX0_breakByStorm_19 : decode cX0_breakByStorm 19 = .ok (.iload_n 1, 1) := by decide +kernel
theorem dX0_breakByStorm_20 : decode cX0_breakByStorm 20 = .ok (.iconst 3, 1) := by decide +kernel
theorem dX0_breakByStorm_21 : decode cX0_breakByStorm 21 = .ok (.idiv, 1) := by decide +kernel
theorem dX0_breakByStorm_22 : decode cX0_breakByStorm 22 = .ok (.aload_n 0, 1) := by decide +kernel
theorem dX0_breakByStorm_23 : decode cX0_breakByStorm 23 = .ok (.getfield 15, 3) := by decide +kernel
theorem dX0_breakByStorm_26 : decode cX0_breakByStorm 26 = .ok (.iload_n 2, 1) := by decide +kernel
theorem dX0_breakByStorm_27 : decode cX0_breakByStorm 27 = .ok (.iaload, 1) := by decide +kernel
theorem dX0_breakByStorm_28 : decode cX0_breakByStorm 28 = .ok (.invokestatic 38, 3) := by decide +kernel
theorem dX0_breakByStorm_31 : decode cX0_breakByStorm 31 = .ok (.istore_n 3, 1) := by decide +kernel
theorem dX0_breakByStorm_32 : decode cX0_breakByStorm 32 = .ok (.aload_n 0, 1) := by decide +kernel
theorem dX0_breakByStorm_33 : decode cX0_breakByStorm 33 = .ok (.getfield 15, 3) := by decide +kernel
theorem dX0_breakByStorm_36 : decode cX0_breakByStorm 36 = .ok (.iload_n 2, 1) := by decide +kernel
theorem dX0_breakByStorm_37 : decode cX0_breakByStorm 37 = .ok (.dup2, 1) := by decide +kernel
theorem dX0_breakByStorm_38 : decode cX0_breakByStorm 38 = .ok (.iaload, 1) := by decide +kernel
theorem dX0_breakByStorm_39 : decode cX0_breakByStorm 39 = .ok (.iload_n 3, 1) := by decide +kernel
theorem dX0_breakByStorm_40 : decode cX0_breakByStorm 40 = .ok (.isub, 1) := by decide +kernel
theorem dX0_breakByStorm_41 : decode cX0_breakByStorm 41 = .ok (.iastore, 1) := by decide +kernel
theorem dX0_breakByStorm_42 : decode cX0_breakByStorm 42 = .ok (.aload_n 0, 1) := by decide +kernel
theorem dX0_breakByStorm_43 : decode cX0_breakByStorm 43 = .ok (.iload_n 2, 1) := by decide +kernel
theorem dX0_breakByStorm_44 : decode cX0_breakByStorm 44 = .ok (.bipush 9, 2) := by decide +kernel
theorem dX0_breakByStorm_46 : decode cX0_breakByStorm 46 = .ok (.iadd, 1) := by decide +kernel
theorem dX0_breakByStorm_47 : decode cX0_breakByStorm 47 = .ok (.iload_n 3, 1) := by decide +kernel
theorem dX0_breakByStorm_48 : decode cX0_breakByStorm 48 = .ok (.invokevirtual 88, 3) := by decide +kernel
theorem dX0_breakByStorm_51 : decode cX0_breakByStorm 51 = .ok (.iinc 2 1, 3) := by decide +kernel
theorem dX0_breakByStorm_54 : decode cX0_breakByStorm 54 = .ok (.goto (-52), 3) := by decide +kernel
theorem dX0_breakByStorm_57 : decode cX0_breakByStorm 57 = .ok (.return_, 1) := by decide +kernel
theorem dX0_dropRubble_0 : decode cX0_dropRubble 0 = .ok (.iload_n 1, 1) := by decide +kernel
theorem dX0_dropRubble_1 : decode cX0_dropRubble 1 = .ok (.bipush 81, 2) := by decide +kernel
theorem dX0_dropRubble_3 : decode cX0_dropRubble 3 = .ok (.if_icmp .ge 26, 3) := by decide +kernel
theorem dX0_dropRubble_6 : decode cX0_dropRubble 6 = .ok (.aload_n 0, 1) := by decide +kernel
theorem dX0_dropRubble_7 : decode cX0_dropRubble 7 = .ok (.getfield 9, 3) := by decide +kernel
theorem dX0_dropRubble_10 : decode cX0_dropRubble 10 = .ok (.iload_n 1, 1) := by decide +kernel
theorem dX0_dropRubble_11 : decode cX0_dropRubble 11 = .ok (.aload_n 0, 1) := by decide +kernel
theorem dX0_dropRubble_12 : decode cX0_dropRubble 12 = .ok (.getfield 9, 3) := by decide +kernel
theorem dX0_dropRubble_15 : decode cX0_dropRubble 15 = .ok (.iload_n 1, 1) := by decide +kernel
theorem dX0_dropRubble_16 : decode cX0_dropRubble 16 = .ok (.iaload, 1) := by decide +kernel
theorem dX0_dropRubble_17 : decode cX0_dropRubble 17 = .ok (.iload_n 2, 1) := by decide +kernel
theorem dX0_dropRubble_18 : decode cX0_dropRubble 18 = .ok (.isub, 1) := by decide +kernel
theorem dX0_dropRubble_19 : decode cX0_dropRubble 19 = .ok (.aload_n 0, 1) := by decide +kernel
theorem dX0_dropRubble_20 : decode cX0_dropRubble 20 = .ok (.getfield 15, 3) := by decide +kernel
theorem dX0_dropRubble_23 : decode cX0_dropRubble 23 = .ok (.iload_n 1, 1) := by decide +kernel
theorem dX0_dropRubble_24 : decode cX0_dropRubble 24 = .ok (.iaload, 1) := by decide +kernel
theorem dX0_dropRubble_25 : decode cX0_dropRubble 25 = .ok (.invokestatic 44, 3) := by decide +kernel
theorem dX0_dropRubble_28 : decode cX0_dropRubble 28 = .ok (.iastore, 1) := by decide +kernel
theorem dX0_dropRubble_29 : decode cX0_dropRubble 29 = .ok (.return_, 1) := by decide +kernel
set_option maxRecDepth 20000 in
theorem ggX1_init_J7_fill_53178 : GoodIn wsX1_init wsJ7_fill_53178 := goodIn_r _ [10] (by decide +kernel) (by decide +kernel)
set_option maxRecDepth 20000 in
theorem gX1_init_J7_fill_53178 : GoodIn wsX1_init (va_wsS RX1 18 yJ7_fill_53178 wsJ7_fill_53178) := goodIn_app (goodIn_of _ (by decide +kernel)) ggX1_init_J7_fill_53178
theorem dX1_init_0 : decode cX1_init 0 = .ok (.aload_n 0, 1) := by decide +kernel
theorem dX1_init_1 : decode cX1_init 1 = .ok (.invokespecial 3, 3) := by decide +kernel
theorem dX1_init_4 : decode cX1_init 4 = .ok (.aload_n 0, 1) := by decide +kernel
theorem dX1_init_5 : decode cX1_init 5 = .ok (.bipush 81, 2) := by decide +kernel
theorem dX1_init_7 : decode cX1_init 7 = .ok (.newarray .int, 2) := by decide +kernel
theorem dX1_init_9 : decode cX1_init 9 = .ok (.putfield 9, 3) := by decide +kernel
theorem dX1_init_12 : decode cX1_init 12 = .ok (.aload_n 0, 1) := by decide +kernel
theorem dX1_init_13 : decode cX1_init 13 = .ok (.bipush 81, 2) := by decide +kernel
theorem dX1_init_15 : decode cX1_init 15 = .ok (.newarray .int, 2) := by decide +kernel
theorem dX1_init_17 : decode cX1_init 17 = .ok (.putfield 15, 3) := by decide +kernel
theorem dX1_init_20 : decode cX1_init 20 = .ok (.aload_n 0, 1) := by decide +kernel
theorem dX1_init_21 : decode cX1_init 21 = .ok (.getfield 9, 3) := by decide +kernel
theorem dX1_init_24 : decode cX1_init 24 = .ok (.iconst (-1), 1) := by decide +kernel
theorem dX1_init_25 : decode cX1_init 25 = .ok (.invokestatic 18, 3) := by decide +kernel
theorem dX1_init_28 : decode cX1_init 28 = .ok (.return_, 1) := by decide +kernel
theorem dX1_note_0 : decode cX1_note 0 = .ok (.aload_n 0, 1) := by decide +kernel
theorem dX1_note_1 : decode cX1_note 1 = .ok (.getfield 9, 3) := by decide +kernel
theorem dX1_note_4 : decode cX1_note 4 = .ok (.iload_n 1, 1) := by decide +kernel
theorem dX1_note_5 : decode cX1_note 5 = .ok (.iload_n 2, 1) := by decide +kernel
theorem dX1_note_6 : decode cX1_note 6 = .ok (.iastore, 1) := by decide +kernel
theorem dX1_note_7 : decode cX1_note 7 = .ok (.aload_n 0, 1) := by decide +kernel
theorem dX1_note_8 : decode cX1_note 8 = .ok (.getfield 15, 3) := by decide +kernel
theorem dX1_note_11 : decode cX1_note 11 = .ok (.iload_n 1, 1) := by decide +kernel
theorem dX1_note_12 : decode cX1_note 12 = .ok (.iload_n 3, 1) := by decide +kernel
theorem dX1_note_13 : decode cX1_note 13 = .ok (.iastore, 1) := by decide +kernel
theorem dX1_note_14 : decode cX1_note 14 = .ok (.return_, 1) := by decide +kernel
theorem dX1_noted_0 : decode cX1_noted 0 = .ok (.aload_n 0, 1) := by decide +kernel
theorem dX1_noted_1 : decode cX1_noted 1 = .ok (.getfield 9, 3) := by decide +kernel
theorem dX1_noted_4 : decode cX1_noted 4 = .ok (.iload_n 1, 1) := by decide +kernel
theorem dX1_noted_5 : decode cX1_noted 5 = .ok (.iaload, 1) := by decide +kernel
theorem dX1_noted_6 : decode cX1_noted 6 = .ok (.ireturn, 1) := by decide +kernel
theorem dX1_age_0 : decode cX1_age 0 = .ok (.aload_n 0, 1) := by decide +kernel
theorem dX1_age_1 : decode cX1_age 1 = .ok (.getfield 9, 3) := by decide +kernel
theorem dX1_age_4 : decode cX1_age 4 = .ok (.iload_n 1, 1) := by decide +kernel
theorem dX1_age_5 : decode cX1_age 5 = .ok (.iaload, 1) := by decide +kernel
theorem dX1_age_6 : decode cX1_age 6 = .ok (.iconst (-1), 1) := by decide +kernel
theorem dX1_age_7 : decode cX1_age 7 = .ok (.if_icmp .ne 7, 3) := by decide +kernel
theorem dX1_age_10 : decode cX1_age 10 = .ok (.iconst (-1), 1) := by decide +kernel
theorem dX1_age_11 : decode cX1_age 11 = .ok (.goto 11, 3) := by decide +kernel
theorem dX1_age_14 : decode cX1_age 14 = .ok (.iload_n 2, 1) := by decide +kernel
theorem dX1_age_15 : decode cX1_age 15 = .ok (.aload_n 0, 1) := by decide +kernel
theorem dX1_age_16 : decode cX1_age 16 = .ok (.getfield 15, 3) := by decide +kernel
theorem dX1_age_19 : decode cX1_age 19 = .ok (.iload_n 1, 1) := by decide +kernel
theorem dX1_age_20 : decode cX1_age 20 = .ok (.iaload, 1) := by decide +kernel
theorem dX1_age_21 : decode cX1_age 21 = .ok (.isub, 1) := by decide +kernel
theorem dX1_age_22 : decode cX1_age 22 = .ok (.ireturn, 1) := by decide +kernel
theorem dX2_init_0 : decode cX2_init 0 = .ok (.aload_n 0, 1) := by decide +kernel
theorem dX2_init_1 : decode cX2_init 1 = .ok (.invokespecial 3, 3) := by decide +kernel
theorem dX2_init_4 : decode cX2_init 4 = .ok (.aload_n 0, 1) := by decide +kernel
theorem dX2_init_5 : decode cX2_init 5 = .ok (.bipush 81, 2) := by decide +kernel
theorem dX2_init_7 : decode cX2_init 7 = .ok (.newarray .boolean, 2) := by decide +kernel
theorem dX2_init_9 : decode cX2_init 9 = .ok (.putfield 9, 3) := by decide +kernel
theorem dX2_init_12 : decode cX2_init 12 = .ok (.aload_n 0, 1) := by decide +kernel
theorem dX2_init_13 : decode cX2_init 13 = .ok (.bipush 81, 2) := by decide +kernel
theorem dX2_init_15 : decode cX2_init 15 = .ok (.newarray .int, 2) := by decide +kernel
theorem dX2_init_17 : decode cX2_init 17 = .ok (.putfield 15, 3) := by decide +kernel
theorem dX2_init_20 : decode cX2_init 20 = .ok (.aload_n 0, 1) := by decide +kernel
theorem dX2_init_21 : decode cX2_init 21 = .ok (.bipush 81, 2) := by decide +kernel
theorem dX2_init_23 : decode cX2_init 23 = .ok (.newarray .int, 2) := by decide +kernel
theorem dX2_init_25 : decode cX2_init 25 = .ok (.putfield 19, 3) := by decide +kernel
theorem dX2_init_28 : decode cX2_init 28 = .ok (.return_, 1) := by decide +kernel
set_option maxRecDepth 20000 in
theorem ggX2_clear_J7_fill_53178 : GoodIn wsX2_clear wsJ7_fill_53178 := goodIn_r _ [6] (by decide +kernel) (by decide +kernel)
set_option maxRecDepth 20000 in
theorem gX2_clear_J7_fill_53178 : GoodIn wsX2_clear (va_wsS RX2 22 yJ7_fill_53178 wsJ7_fill_53178) := goodIn_app (goodIn_of _ (by decide +kernel)) ggX2_clear_J7_fill_53178
theorem dX2_clear_0 : decode cX2_clear 0 = .ok (.aload_n 0, 1) := by decide +kernel
theorem dX2_clear_1 : decode cX2_clear 1 = .ok (.getfield 15, 3) := by decide +kernel
theorem dX2_clear_4 : decode cX2_clear 4 = .ok (.iconst 0, 1) := by decide +kernel
theorem dX2_clear_5 : decode cX2_clear 5 = .ok (.invokestatic 22, 3) := by decide +kernel
theorem dX2_clear_8 : decode cX2_clear 8 = .ok (.aload_n 0, 1) := by decide +kernel
theorem dX2_clear_9 : decode cX2_clear 9 = .ok (.iconst 0, 1) := by decide +kernel
theorem dX2_clear_10 : decode cX2_clear 10 = .ok (.putfield 28, 3) := by decide +kernel
theorem dX2_clear_13 : decode cX2_clear 13 = .ok (.return_, 1) := by decide +kernel
theorem dX2_setOpen_0 : decode cX2_setOpen 0 = .ok (.aload_n 0, 1) := by decide +kernel
theorem dX2_setOpen_1 : decode cX2_setOpen 1 = .ok (.getfield 9, 3) := by decide +kernel
theorem dX2_setOpen_4 : decode cX2_setOpen 4 = .ok (.iload_n 1, 1) := by decide +kernel
theorem dX2_setOpen_5 : decode cX2_setOpen 5 = .ok (.iload_n 2, 1) := by decide +kernel
theorem dX2_setOpen_6 : decode cX2_setOpen 6 = .ok (.bastore, 1) := by decide +kernel
theorem dX2_setOpen_7 : decode cX2_setOpen 7 = .ok (.return_, 1) := by decide +kernel
theorem dX2_stepsTo_0 : decode cX2_stepsTo 0 = .ok (.aload_n 0, 1) := by decide +kernel
theorem dX2_stepsTo_1 : decode cX2_stepsTo 1 = .ok (.getfield 15, 3) := by decide +kernel
theorem dX2_stepsTo_4 : decode cX2_stepsTo 4 = .ok (.iload_n 1, 1) := by decide +kernel
theorem dX2_stepsTo_5 : decode cX2_stepsTo 5 = .ok (.iaload, 1) := by decide +kernel
theorem dX2_stepsTo_6 : decode cX2_stepsTo 6 = .ok (.ireturn, 1) := by decide +kernel
set_option maxRecDepth 20000 in
theorem ggX2_goFromRow_X2_reach : GoodIn wsX2_goFromRow wsX2_reach := goodIn_r _ [6, 7, 8, 1, 9, 17, 18, 19, 20] (by decide +kernel) (by decide +kernel)
set_option maxRecDepth 20000 in
theorem gX2_goFromRow_X2_reach : GoodIn wsX2_goFromRow (wsV RX2 32 RX2 yX2_reach wsX2_reach) := goodIn_app (goodIn_of _ (by decide +kernel)) ggX2_goFromRow_X2_reach
set_option maxRecDepth 20000 in
theorem ggX2_goFromRow_X2_goOnFrom : GoodIn wsX2_goFromRow wsX2_goOnFrom := goodIn_r _ [13, 1, 9, 8, 14, 15, 16, 2, 3, 4, 5, 6, 7, 17, 18, 19, 20] (by decide +kernel) (by decide +kernel)
set_option maxRecDepth 20000 in
theorem gX2_goFromRow_X2_goOnFrom : GoodIn wsX2_goFromRow (wsV RX2 36 RX2 yX2_goOnFrom wsX2_goOnFrom) := goodIn_app (goodIn_of _ (by decide +kernel)) ggX2_goFromRow_X2_goOnFrom
theorem dX2_goFromRow_0 : decode cX2_goFromRow 0 = .ok (.aload_n 0, 1) := by decide +kernel
theorem dX2_goFromRow_1 : decode cX2_goFromRow 1 = .ok (.getfield 28, 3) := by decide +kernel
theorem dX2_goFromRow_4 : decode cX2_goFromRow 4 = .ok (.istore_n 2, 1) := by decide +kernel
theorem dX2_goFromRow_5 : decode cX2_goFromRow 5 = .ok (.iconst 0, 1) := by decide +kernel
theorem dX2_goFromRow_6 : decode cX2_goFromRow 6 = .ok (.istore_n 3, 1) := by decide +kernel
theorem dX2_goFromRow_7 : decode cX2_goFromRow 7 = .ok (.iload_n 3, 1) := by decide +kernel
theorem dX2_goFromRow_8 : decode cX2_goFromRow 8 = .ok (.bipush 9, 2) := by decide +kernel
theorem dX2_goFromRow_10 : decode cX2_goFromRow 10 = .ok (.if_icmp .ge 17, 3) := by decide +kernel
theorem dX2_goFromRow_13 : decode cX2_goFromRow 13 = .ok (.aload_n 0, 1) := by decide +kernel
theorem dX2_goFromRow_14 : decode cX2_goFromRow 14 = .ok (.iload_n 1, 1) := by decide +kernel
theorem dX2_goFromRow_15 : decode cX2_goFromRow 15 = .ok (.iload_n 3, 1) := by decide +kernel
theorem dX2_goFromRow_16 : decode cX2_goFromRow 16 = .ok (.iadd, 1) := by decide +kernel
theorem dX2_goFromRow_17 : decode cX2_goFromRow 17 = .ok (.iconst 1, 1) := by decide +kernel
theorem dX2_goFromRow_18 : decode cX2_goFromRow 18 = .ok (.invokevirtual 32, 3) := by decide +kernel
theorem dX2_goFromRow_21 : decode cX2_goFromRow 21 = .ok (.iinc 3 1, 3) := by decide +kernel
theorem dX2_goFromRow_24 : decode cX2_goFromRow 24 = .ok (.goto (-17), 3) := by decide +kernel
theorem dX2_goFromRow_27 : decode cX2_goFromRow 27 = .ok (.aload_n 0, 1) := by decide +kernel
theorem dX2_goFromRow_28 : decode cX2_goFromRow 28 = .ok (.iload_n 2, 1) := by decide +kernel
theorem dX2_goFromRow_29 : decode cX2_goFromRow 29 = .ok (.invokevirtual 36, 3) := by decide +kernel
theorem dX2_goFromRow_32 : decode cX2_goFromRow 32 = .ok (.return_, 1) := by decide +kernel
set_option maxRecDepth 20000 in
theorem ggX2_goFromCell_X2_reach : GoodIn wsX2_goFromCell wsX2_reach := goodIn_r _ [6, 7, 8, 1, 9, 17, 18, 19, 20] (by decide +kernel) (by decide +kernel)
set_option maxRecDepth 20000 in
theorem gX2_goFromCell_X2_reach : GoodIn wsX2_goFromCell (wsV RX2 32 RX2 yX2_reach wsX2_reach) := goodIn_app (goodIn_of _ (by decide +kernel)) ggX2_goFromCell_X2_reach
set_option maxRecDepth 20000 in
theorem ggX2_goFromCell_X2_goOnFrom : GoodIn wsX2_goFromCell wsX2_goOnFrom := goodIn_r _ [13, 1, 9, 8, 14, 15, 16, 2, 3, 4, 5, 6, 7, 17, 18, 19, 20] (by decide +kernel) (by decide +kernel)
set_option maxRecDepth 20000 in
theorem gX2_goFromCell_X2_goOnFrom : GoodIn wsX2_goFromCell (wsV RX2 36 RX2 yX2_goOnFrom wsX2_goOnFrom) := goodIn_app (goodIn_of _ (by decide +kernel)) ggX2_goFromCell_X2_goOnFrom
theorem dX2_goFromCell_0 : decode cX2_goFromCell 0 = .ok (.aload_n 0, 1) := by decide +kernel
theorem dX2_goFromCell_1 : decode cX2_goFromCell 1 = .ok (.getfield 28, 3) := by decide +kernel
theorem dX2_goFromCell_4 : decode cX2_goFromCell 4 = .ok (.istore_n 2, 1) := by decide +kernel
theorem dX2_goFromCell_5 : decode cX2_goFromCell 5 = .ok (.aload_n 0, 1) := by decide +kernel
theorem dX2_goFromCell_6 : decode cX2_goFromCell 6 = .ok (.iload_n 1, 1) := by decide +kernel
theorem dX2_goFromCell_7 : decode cX2_goFromCell 7 = .ok (.iconst 1, 1) := by decide +kernel
theorem dX2_goFromCell_8 : decode cX2_goFromCell 8 = .ok (.invokevirtual 32, 3) := by decide +kernel
theorem dX2_goFromCell_11 : decode cX2_goFromCell 11 = .ok (.aload_n 0, 1) := by decide +kernel
theorem dX2_goFromCell_12 : decode cX2_goFromCell 12 = .ok (.iload_n 2, 1) := by decide +kernel
theorem dX2_goFromCell_13 : decode cX2_goFromCell 13 = .ok (.invokevirtual 36, 3) := by decide +kernel
theorem dX2_goFromCell_16 : decode cX2_goFromCell 16 = .ok (.aload_n 0, 1) := by decide +kernel
theorem dX2_goFromCell_17 : decode cX2_goFromCell 17 = .ok (.getfield 28, 3) := by decide +kernel
theorem dX2_goFromCell_20 : decode cX2_goFromCell 20 = .ok (.iload_n 2, 1) := by decide +kernel
theorem dX2_goFromCell_21 : decode cX2_goFromCell 21 = .ok (.isub, 1) := by decide +kernel
theorem dX2_goFromCell_22 : decode cX2_goFromCell 22 = .ok (.ireturn, 1) := by decide +kernel
set_option maxRecDepth 20000 in
theorem ggX2_nearerFrom_X4_neighbour : GoodIn wsX2_nearerFrom wsX4_neighbour := goodIn_r _ [4] (by decide +kernel) (by decide +kernel)
set_option maxRecDepth 20000 in
theorem gX2_nearerFrom_X4_neighbour_n40 : GoodIn wsX2_nearerFrom (wsX4_neighbour) := ggX2_nearerFrom_X4_neighbour
theorem dX2_nearerFrom_0 : decode cX2_nearerFrom 0 = .ok (.iload_n 1, 1) := by decide +kernel
theorem dX2_nearerFrom_1 : decode cX2_nearerFrom 1 = .ok (.istore_n 2, 1) := by decide +kernel
theorem dX2_nearerFrom_2 : decode cX2_nearerFrom 2 = .ok (.iconst 0, 1) := by decide +kernel
theorem dX2_nearerFrom_3 : decode cX2_nearerFrom 3 = .ok (.istore_n 3, 1) := by decide +kernel
theorem dX2_nearerFrom_4 : decode cX2_nearerFrom 4 = .ok (.iload_n 3, 1) := by decide +kernel
theorem dX2_nearerFrom_5 : decode cX2_nearerFrom 5 = .ok (.iconst 4, 1) := by decide +kernel
theorem dX2_nearerFrom_6 : decode cX2_nearerFrom 6 = .ok (.if_icmp .ge 51, 3) := by decide +kernel
theorem dX2_nearerFrom_9 : decode cX2_nearerFrom 9 = .ok (.iload_n 1, 1) := by decide +kernel
theorem dX2_nearerFrom_10 : decode cX2_nearerFrom 10 = .ok (.iload_n 3, 1) := by decide +kernel
theorem dX2_nearerFrom_11 : decode cX2_nearerFrom 11 = .ok (.invokestatic 40, 3) := by decide +kernel
theorem dX2_nearerFrom_14 : decode cX2_nearerFrom 14 = .ok (.istore 4, 2) := by decide +kernel
theorem dX2_nearerFrom_16 : decode cX2_nearerFrom 16 = .ok (.iload 4, 2) := by decide +kernel
theorem dX2_nearerFrom_18 : decode cX2_nearerFrom 18 = .ok (.iconst (-1), 1) := by decide +kernel
theorem dX2_nearerFrom_19 : decode cX2_nearerFrom 19 = .ok (.if_icmp .eq 32, 3) := by decide +kernel
theorem dX2_nearerFrom_22 : decode cX2_nearerFrom 22 = .ok (.aload_n 0, 1) := by decide +kernel
theorem dX2_nearerFrom_23 : decode cX2_nearerFrom 23 = .ok (.getfield 15, 3) := by decide +kernel
theorem dX2_nearerFrom_26 : decode cX2_nearerFrom 26 = .ok (.iload 4, 2) := by decide +kernel
theorem dX2_nearerFrom_28 : decode cX2_nearerFrom 28 = .ok (.iaload, 1) := by decide +kernel
theorem dX2_nearerFrom_29 : decode cX2_nearerFrom 29 = .ok (.ifCond .le 22, 3) := by decide +kernel
theorem dX2_nearerFrom_32 : decode cX2_nearerFrom 32 = .ok (.aload_n 0, 1) := by decide +kernel
theorem dX2_nearerFrom_33 : decode cX2_nearerFrom 33 = .ok (.getfield 15, 3) := by decide +kernel
theorem dX2_nearerFrom_36 : decode cX2_nearerFrom 36 = .ok (.iload 4, 2) := by decide +kernel
theorem dX2_nearerFrom_38 : decode cX2_nearerFrom 38 = .ok (.iaload, 1) := by decide +kernel
theorem dX2_nearerFrom_39 : decode cX2_nearerFrom 39 = .ok (.aload_n 0, 1) := by decide +kernel
theorem dX2_nearerFrom_40 : decode cX2_nearerFrom 40 = .ok (.getfield 15, 3) := by decide +kernel
theorem dX2_nearerFrom_43 : decode cX2_nearerFrom 43 = .ok (.iload_n 2, 1) := by decide +kernel
theorem dX2_nearerFrom_44 : decode cX2_nearerFrom 44 = .ok (.iaload, 1) := by decide +kernel
theorem dX2_nearerFrom_45 : decode cX2_nearerFrom 45 = .ok (.if_icmp .ge 6, 3) := by decide +kernel
theorem dX2_nearerFrom_48 : decode cX2_nearerFrom 48 = .ok (.iload 4, 2) := by decide +kernel
theorem dX2_nearerFrom_50 : decode cX2_nearerFrom 50 = .ok (.istore_n 2, 1) := by decide +kernel
theorem dX2_nearerFrom_51 : decode cX2_nearerFrom 51 = .ok (.iinc 3 1, 3) := by decide +kernel
theorem dX2_nearerFrom_54 : decode cX2_nearerFrom 54 = .ok (.goto (-50), 3) := by decide +kernel
theorem dX2_nearerFrom_57 : decode cX2_nearerFrom 57 = .ok (.iload_n 2, 1) := by decide +kernel
theorem dX2_nearerFrom_58 : decode cX2_nearerFrom 58 = .ok (.ireturn, 1) := by decide +kernel
set_option maxRecDepth 20000 in
theorem ggX2_goOnFrom_X4_neighbour : GoodIn wsX2_goOnFrom wsX4_neighbour := goodIn_r _ [6] (by decide +kernel) (by decide +kernel)
set_option maxRecDepth 20000 in
theorem gX2_goOnFrom_X4_neighbour_n40 : GoodIn wsX2_goOnFrom (wsX4_neighbour) := ggX2_goOnFrom_X4_neighbour
set_option maxRecDepth 20000 in
theorem ggX2_goOnFrom_X2_reach : GoodIn wsX2_goOnFrom wsX2_reach := goodIn_r _ [11, 12, 3, 1, 2, 13, 14, 15, 16] (by decide +kernel) (by decide +kernel)
set_option maxRecDepth 20000 in
theorem gX2_goOnFrom_X2_reach : GoodIn wsX2_goOnFrom (wsV RX2 32 RX2 yX2_reach wsX2_reach) := goodIn_app (goodIn_of _ (by decide +kernel)) ggX2_goOnFrom_X2_reach
theorem dX2_goOnFrom_0 : decode cX2_goOnFrom 0 = .ok (.iload_n 1, 1) := by decide +kernel
theorem dX2_goOnFrom_1 : decode cX2_goOnFrom 1 = .ok (.istore_n 2, 1) := by decide +kernel
theorem dX2_goOnFrom_2 : decode cX2_goOnFrom 2 = .ok (.iload_n 2, 1) := by decide +kernel
theorem dX2_goOnFrom_3 : decode cX2_goOnFrom 3 = .ok (.bipush 81, 2) := by decide +kernel
theorem dX2_goOnFrom_5 : decode cX2_goOnFrom 5 = .ok (.if_icmp .ge 67, 3) := by decide +kernel
theorem dX2_goOnFrom_8 : decode cX2_goOnFrom 8 = .ok (.iload_n 2, 1) := by decide +kernel
theorem dX2_goOnFrom_9 : decode cX2_goOnFrom 9 = .ok (.aload_n 0, 1) := by decide +kernel
theorem dX2_goOnFrom_10 : decode cX2_goOnFrom 10 = .ok (.getfield 28, 3) := by decide +kernel
theorem dX2_goOnFrom_13 : decode cX2_goOnFrom 13 = .ok (.if_icmp .ge 59, 3) := by decide +kernel
theorem dX2_goOnFrom_16 : decode cX2_goOnFrom 16 = .ok (.aload_n 0, 1) := by decide +kernel
theorem dX2_goOnFrom_17 : decode cX2_goOnFrom 17 = .ok (.getfield 19, 3) := by decide +kernel
theorem dX2_goOnFrom_20 : decode cX2_goOnFrom 20 = .ok (.iload_n 2, 1) := by decide +kernel
theorem dX2_goOnFrom_21 : decode cX2_goOnFrom 21 = .ok (.iaload, 1) := by decide +kernel
theorem dX2_goOnFrom_22 : decode cX2_goOnFrom 22 = .ok (.istore_n 3, 1) := by decide +kernel
theorem dX2_goOnFrom_23 : decode cX2_goOnFrom 23 = .ok (.iconst 0, 1) := by decide +kernel
theorem dX2_goOnFrom_24 : decode cX2_goOnFrom 24 = .ok (.istore 4, 2) := by decide +kernel
theorem dX2_goOnFrom_26 : decode cX2_goOnFrom 26 = .ok (.iload 4, 2) := by decide +kernel
theorem dX2_goOnFrom_28 : decode cX2_goOnFrom 28 = .ok (.iconst 4, 1) := by decide +kernel
theorem dX2_goOnFrom_29 : decode cX2_goOnFrom 29 = .ok (.if_icmp .ge 37, 3) := by decide +kernel
theorem dX2_goOnFrom_32 : decode cX2_goOnFrom 32 = .ok (.iload_n 3, 1) := by decide +kernel
theorem dX2_goOnFrom_33 : decode cX2_goOnFrom 33 = .ok (.iload 4, 2) := by decide +kernel
theorem dX2_goOnFrom_35 : decode cX2_goOnFrom 35 = .ok (.invokestatic 40, 3) := by decide +kernel
theorem dX2_goOnFrom_38 : decode cX2_goOnFrom 38 = .ok (.istore 5, 2) := by decide +kernel
theorem dX2_goOnFrom_40 : decode cX2_goOnFrom 40 = .ok (.iload 5, 2) := by decide +kernel
theorem dX2_goOnFrom_42 : decode cX2_goOnFrom 42 = .ok (.iconst (-1), 1) := by decide +kernel
theorem dX2_goOnFrom_43 : decode cX2_goOnFrom 43 = .ok (.if_icmp .eq 17, 3) := by decide +kernel
theorem dX2_goOnFrom_46 : decode cX2_goOnFrom 46 = .ok (.aload_n 0, 1) := by decide +kernel
theorem dX2_goOnFrom_47 : decode cX2_goOnFrom 47 = .ok (.iload 5, 2) := by decide +kernel
theorem dX2_goOnFrom_49 : decode cX2_goOnFrom 49 = .ok (.aload_n 0, 1) := by decide +kernel
theorem dX2_goOnFrom_50 : decode cX2_goOnFrom 50 = .ok (.getfield 15, 3) := by decide +kernel
theorem dX2_goOnFrom_53 : decode cX2_goOnFrom 53 = .ok (.iload_n 3, 1) := by decide +kernel
theorem dX2_goOnFrom_54 : decode cX2_goOnFrom 54 = .ok (.iaload, 1) := by decide +kernel
theorem dX2_goOnFrom_55 : decode cX2_goOnFrom 55 = .ok (.iconst 1, 1) := by decide +kernel
theorem dX2_goOnFrom_56 : decode cX2_goOnFrom 56 = .ok (.iadd, 1) := by decide +kernel
theorem dX2_goOnFrom_57 : decode cX2_goOnFrom 57 = .ok (.invokevirtual 32, 3) := by decide +kernel
theorem dX2_goOnFrom_60 : decode cX2_goOnFrom 60 = .ok (.iinc 4 1, 3) := by decide +kernel
theorem dX2_goOnFrom_63 : decode cX2_goOnFrom 63 = .ok (.goto (-37), 3) := by decide +kernel
theorem dX2_goOnFrom_66 : decode cX2_goOnFrom 66 = .ok (.iinc 2 1, 3) := by decide +kernel
theorem dX2_goOnFrom_69 : decode cX2_goOnFrom 69 = .ok (.goto (-67), 3) := by decide +kernel
theorem dX2_goOnFrom_72 : decode cX2_goOnFrom 72 = .ok (.return_, 1) := by decide +kernel
theorem dX2_reach_0 : decode cX2_reach 0 = .ok (.aload_n 0, 1) := by decide +kernel
theorem dX2_reach_1 : decode cX2_reach 1 = .ok (.getfield 9, 3) := by decide +kernel
theorem dX2_reach_4 : decode cX2_reach 4 = .ok (.iload_n 1, 1) := by decide +kernel
theorem dX2_reach_5 : decode cX2_reach 5 = .ok (.baload, 1) := by decide +kernel
theorem dX2_reach_6 : decode cX2_reach 6 = .ok (.ifCond .eq 48, 3) := by decide +kernel
theorem dX2_reach_9 : decode cX2_reach 9 = .ok (.aload_n 0, 1) := by decide +kernel
theorem dX2_reach_10 : decode cX2_reach 10 = .ok (.getfield 15, 3) := by decide +kernel
theorem dX2_reach_13 : decode cX2_reach 13 = .ok (.iload_n 1, 1) := by decide +kernel
theorem dX2_reach_14 : decode cX2_reach 14 = .ok (.iaload, 1) := by decide +kernel
theorem dX2_reach_15 : decode cX2_reach 15 = .ok (.ifCond .ne 39, 3) := by decide +kernel
theorem dX2_reach_18 : decode cX2_reach 18 = .ok (.aload_n 0, 1) := by decide +kernel
theorem dX2_reach_19 : decode cX2_reach 19 = .ok (.getfield 28, 3) := by decide +kernel
theorem dX2_reach_22 : decode cX2_reach 22 = .ok (.bipush 81, 2) := by decide +kernel
theorem dX2_reach_24 : decode cX2_reach 24 = .ok (.if_icmp .ge 30, 3) := by decide +kernel
theorem dX2_reach_27 : decode cX2_reach 27 = .ok (.aload_n 0, 1) := by decide +kernel
theorem dX2_reach_28 : decode cX2_reach 28 = .ok (.getfield 15, 3) := by decide +kernel
theorem dX2_reach_31 : decode cX2_reach 31 = .ok (.iload_n 1, 1) := by decide +kernel
theorem dX2_reach_32 : decode cX2_reach 32 = .ok (.iload_n 2, 1) := by decide +kernel
theorem dX2_reach_33 : decode cX2_reach 33 = .ok (.iastore, 1) := by decide +kernel
theorem dX2_reach_34 : decode cX2_reach 34 = .ok (.aload_n 0, 1) := by decide +kernel
theorem dX2_reach_35 : decode cX2_reach 35 = .ok (.getfield 19, 3) := by decide +kernel
theorem dX2_reach_38 : decode cX2_reach 38 = .ok (.aload_n 0, 1) := by decide +kernel
theorem dX2_reach_39 : decode cX2_reach 39 = .ok (.getfield 28, 3) := by decide +kernel
theorem dX2_reach_42 : decode cX2_reach 42 = .ok (.iload_n 1, 1) := by decide +kernel
theorem dX2_reach_43 : decode cX2_reach 43 = .ok (.iastore, 1) := by decide +kernel
theorem dX2_reach_44 : decode cX2_reach 44 = .ok (.aload_n 0, 1) := by decide +kernel
theorem dX2_reach_45 : decode cX2_reach 45 = .ok (.dup, 1) := by decide +kernel
theorem dX2_reach_46 : decode cX2_reach 46 = .ok (.getfield 28, 3) := by decide +kernel
theorem dX2_reach_49 : decode cX2_reach 49 = .ok (.iconst 1, 1) := by decide +kernel
theorem dX2_reach_50 : decode cX2_reach 50 = .ok (.iadd, 1) := by decide +kernel
theorem dX2_reach_51 : decode cX2_reach 51 = .ok (.putfield 28, 3) := by decide +kernel
theorem dX2_reach_54 : decode cX2_reach 54 = .ok (.return_, 1) := by decide +kernel
set_option maxRecDepth 20000 in
theorem ggX3_init_J7_fill_53178 : GoodIn wsX3_init wsJ7_fill_53178 := goodIn_r _ [10] (by decide +kernel) (by decide +kernel)
set_option maxRecDepth 20000 in
theorem gX3_init_J7_fill_53178 : GoodIn wsX3_init (va_wsS RX3 18 yJ7_fill_53178 wsJ7_fill_53178) := goodIn_app (goodIn_of _ (by decide +kernel)) ggX3_init_J7_fill_53178
theorem dX3_init_0 : decode cX3_init 0 = .ok (.aload_n 0, 1) := by decide +kernel
theorem dX3_init_1 : decode cX3_init 1 = .ok (.invokespecial 3, 3) := by decide +kernel
theorem dX3_init_4 : decode cX3_init 4 = .ok (.aload_n 0, 1) := by decide +kernel
theorem dX3_init_5 : decode cX3_init 5 = .ok (.bipush 12, 2) := by decide +kernel
theorem dX3_init_7 : decode cX3_init 7 = .ok (.newarray .int, 2) := by decide +kernel
theorem dX3_init_9 : decode cX3_init 9 = .ok (.putfield 9, 3) := by decide +kernel
theorem dX3_init_12 : decode cX3_init 12 = .ok (.aload_n 0, 1) := by decide +kernel
theorem dX3_init_13 : decode cX3_init 13 = .ok (.bipush 12, 2) := by decide +kernel
theorem dX3_init_15 : decode cX3_init 15 = .ok (.newarray .int, 2) := by decide +kernel
theorem dX3_init_17 : decode cX3_init 17 = .ok (.putfield 15, 3) := by decide +kernel
theorem dX3_init_20 : decode cX3_init 20 = .ok (.aload_n 0, 1) := by decide +kernel
theorem dX3_init_21 : decode cX3_init 21 = .ok (.getfield 9, 3) := by decide +kernel
theorem dX3_init_24 : decode cX3_init 24 = .ok (.iconst 4, 1) := by decide +kernel
theorem dX3_init_25 : decode cX3_init 25 = .ok (.invokestatic 18, 3) := by decide +kernel
theorem dX3_init_28 : decode cX3_init 28 = .ok (.return_, 1) := by decide +kernel
theorem dX3_write_0 : decode cX3_write 0 = .ok (.aload_n 0, 1) := by decide +kernel
theorem dX3_write_1 : decode cX3_write 1 = .ok (.getfield 9, 3) := by decide +kernel
theorem dX3_write_4 : decode cX3_write 4 = .ok (.iload_n 1, 1) := by decide +kernel
theorem dX3_write_5 : decode cX3_write 5 = .ok (.iload_n 2, 1) := by decide +kernel
theorem dX3_write_6 : decode cX3_write 6 = .ok (.iastore, 1) := by decide +kernel
theorem dX3_write_7 : decode cX3_write 7 = .ok (.aload_n 0, 1) := by decide +kernel
theorem dX3_write_8 : decode cX3_write 8 = .ok (.getfield 15, 3) := by decide +kernel
theorem dX3_write_11 : decode cX3_write 11 = .ok (.iload_n 1, 1) := by decide +kernel
theorem dX3_write_12 : decode cX3_write 12 = .ok (.iload_n 3, 1) := by decide +kernel
theorem dX3_write_13 : decode cX3_write 13 = .ok (.iastore, 1) := by decide +kernel
theorem dX3_write_14 : decode cX3_write 14 = .ok (.return_, 1) := by decide +kernel
theorem dX3_entry_0 : decode cX3_entry 0 = .ok (.bipush 10, 2) := by decide +kernel
theorem dX3_entry_2 : decode cX3_entry 2 = .ok (.aload_n 0, 1) := by decide +kernel
theorem dX3_entry_3 : decode cX3_entry 3 = .ok (.getfield 9, 3) := by decide +kernel
theorem dX3_entry_6 : decode cX3_entry 6 = .ok (.iload_n 1, 1) := by decide +kernel
theorem dX3_entry_7 : decode cX3_entry 7 = .ok (.iaload, 1) := by decide +kernel
theorem dX3_entry_8 : decode cX3_entry 8 = .ok (.imul, 1) := by decide +kernel
theorem dX3_entry_9 : decode cX3_entry 9 = .ok (.aload_n 0, 1) := by decide +kernel
theorem dX3_entry_10 : decode cX3_entry 10 = .ok (.getfield 15, 3) := by decide +kernel
theorem dX3_entry_13 : decode cX3_entry 13 = .ok (.iload_n 1, 1) := by decide +kernel
theorem dX3_entry_14 : decode cX3_entry 14 = .ok (.iaload, 1) := by decide +kernel
theorem dX3_entry_15 : decode cX3_entry 15 = .ok (.iadd, 1) := by decide +kernel
theorem dX3_entry_16 : decode cX3_entry 16 = .ok (.ireturn, 1) := by decide +kernel
set_option maxRecDepth 20000 in
theorem ggX3_warmthIn_J9_floorMod_7cf53 : GoodIn wsX3_warmthIn wsJ9_floorMod_7cf53 := goodIn_r _ [5] (by decide +kernel) (by decide +kernel)
set_option maxRecDepth 20000 in
theorem gX3_warmthIn_J9_floorMod_7cf53 : GoodIn wsX3_warmthIn (va_wsS RX3 24 yJ9_floorMod_7cf53 wsJ9_floorMod_7cf53) := goodIn_app (goodIn_of _ (by decide +kernel)) ggX3_warmthIn_J9_floorMod_7cf53
theorem dX3_warmthIn_0 : decode cX3_warmthIn 0 = .ok (.aload_n 0, 1) := by decide +kernel
theorem dX3_warmthIn_1 : decode cX3_warmthIn 1 = .ok (.getfield 9, 3) := by decide +kernel
theorem dX3_warmthIn_4 : decode cX3_warmthIn 4 = .ok (.iload_n 1, 1) := by decide +kernel
theorem dX3_warmthIn_5 : decode cX3_warmthIn 5 = .ok (.bipush 12, 2) := by decide +kernel
theorem dX3_warmthIn_7 : decode cX3_warmthIn 7 = .ok (.invokestatic 24, 3) := by decide +kernel
theorem dX3_warmthIn_10 : decode cX3_warmthIn 10 = .ok (.iaload, 1) := by decide +kernel
theorem dX3_warmthIn_11 : decode cX3_warmthIn 11 = .ok (.ireturn, 1) := by decide +kernel
set_option maxRecDepth 20000 in
theorem ggX3_stormIn_J9_floorMod_7cf53 : GoodIn wsX3_stormIn wsJ9_floorMod_7cf53 := goodIn_r _ [5] (by decide +kernel) (by decide +kernel)
set_option maxRecDepth 20000 in
theorem gX3_stormIn_J9_floorMod_7cf53 : GoodIn wsX3_stormIn (va_wsS RX3 24 yJ9_floorMod_7cf53 wsJ9_floorMod_7cf53) := goodIn_app (goodIn_of _ (by decide +kernel)) ggX3_stormIn_J9_floorMod_7cf53
theorem dX3_stormIn_0 : decode cX3_stormIn 0 = .ok (.aload_n 0, 1) := by decide +kernel
theorem dX3_stormIn_1 : decode cX3_stormIn 1 = .ok (.getfield 15, 3) := by decide +kernel
theorem dX3_stormIn_4 : decode cX3_stormIn 4 = .ok (.iload_n 1, 1) := by decide +kernel
theorem dX3_stormIn_5 : decode cX3_stormIn 5 = .ok (.bipush 12, 2) := by decide +kernel
theorem dX3_stormIn_7 : decode cX3_stormIn 7 = .ok (.invokestatic 24, 3) := by decide +kernel
theorem dX3_stormIn_10 : decode cX3_stormIn 10 = .ok (.iaload, 1) := by decide +kernel
theorem dX3_stormIn_11 : decode cX3_stormIn 11 = .ok (.ireturn, 1) := by decide +kernel
set_option maxRecDepth 20000 in
theorem ggX4_init_X3_init : GoodIn wsX4_init wsX3_init := goodIn_r _ [25, 26, 2, 3, 21, 27, 28, 29, 30, 31, 32, 55, 56] (by decide +kernel) (by decide +kernel)
set_option maxRecDepth 20000 in
theorem gX4_init_X3_init : GoodIn wsX4_init (wsX3_init) := ggX4_init_X3_init
set_option maxRecDepth 20000 in
theorem ggX4_init_X0_init : GoodIn wsX4_init wsX0_init := goodIn_r _ [35, 36, 2, 3, 21, 37, 38, 39, 40, 41, 30, 31, 32, 63, 64, 65, 66] (by decide +kernel) (by decide +kernel)
set_option maxRecDepth 20000 in
theorem gX4_init_X0_init : GoodIn wsX4_init (wsX0_init) := ggX4_init_X0_init
set_option maxRecDepth 20000 in
theorem ggX4_init_X1_init : GoodIn wsX4_init wsX1_init := goodIn_r _ [44, 45, 2, 3, 21, 46, 47, 48, 30, 31, 32, 67, 68] (by decide +kernel) (by decide +kernel)
set_option maxRecDepth 20000 in
theorem gX4_init_X1_init : GoodIn wsX4_init (wsX1_init) := ggX4_init_X1_init
set_option maxRecDepth 20000 in
theorem ggX4_init_X2_init : GoodIn wsX4_init wsX2_init := goodIn_r _ [50, 51, 2, 3, 39, 52, 21, 53, 54, 69, 70, 71, 72] (by decide +kernel) (by decide +kernel)
set_option maxRecDepth 20000 in
theorem gX4_init_X2_init_n35 : GoodIn wsX4_init (wsX2_init) := ggX4_init_X2_init
theorem dX4_init_0 : decode cX4_init 0 = .ok (.aload_n 0, 1) := by decide +kernel
theorem dX4_init_1 : decode cX4_init 1 = .ok (.invokespecial 3, 3) := by decide +kernel
theorem dX4_init_4 : decode cX4_init 4 = .ok (.aload_n 0, 1) := by decide +kernel
theorem dX4_init_5 : decode cX4_init 5 = .ok (.new 9, 3) := by decide +kernel
theorem dX4_init_8 : decode cX4_init 8 = .ok (.dup, 1) := by decide +kernel
theorem dX4_init_9 : decode cX4_init 9 = .ok (.invokespecial 11, 3) := by decide +kernel
theorem dX4_init_12 : decode cX4_init 12 = .ok (.putfield 12, 3) := by decide +kernel
theorem dX4_init_15 : decode cX4_init 15 = .ok (.aload_n 0, 1) := by decide +kernel
theorem dX4_init_16 : decode cX4_init 16 = .ok (.new 16, 3) := by decide +kernel
theorem dX4_init_19 : decode cX4_init 19 = .ok (.dup, 1) := by decide +kernel
theorem dX4_init_20 : decode cX4_init 20 = .ok (.invokespecial 18, 3) := by decide +kernel
theorem dX4_init_23 : decode cX4_init 23 = .ok (.putfield 19, 3) := by decide +kernel
theorem dX4_init_26 : decode cX4_init 26 = .ok (.aload_n 0, 1) := by decide +kernel
theorem dX4_init_27 : decode cX4_init 27 = .ok (.new 16, 3) := by decide +kernel
theorem dX4_init_30 : decode cX4_init 30 = .ok (.dup, 1) := by decide +kernel
theorem dX4_init_31 : decode cX4_init 31 = .ok (.invokespecial 18, 3) := by decide +kernel
theorem dX4_init_34 : decode cX4_init 34 = .ok (.putfield 23, 3) := by decide +kernel
theorem dX4_init_37 : decode cX4_init 37 = .ok (.aload_n 0, 1) := by decide +kernel
theorem dX4_init_38 : decode cX4_init 38 = .ok (.new 26, 3) := by decide +kernel
theorem dX4_init_41 : decode cX4_init 41 = .ok (.dup, 1) := by decide +kernel
theorem dX4_init_42 : decode cX4_init 42 = .ok (.invokespecial 28, 3) := by decide +kernel
theorem dX4_init_45 : decode cX4_init 45 = .ok (.putfield 29, 3) := by decide +kernel
theorem dX4_init_48 : decode cX4_init 48 = .ok (.aload_n 0, 1) := by decide +kernel
theorem dX4_init_49 : decode cX4_init 49 = .ok (.new 33, 3) := by decide +kernel
theorem dX4_init_52 : decode cX4_init 52 = .ok (.dup, 1) := by decide +kernel
theorem dX4_init_53 : decode cX4_init 53 = .ok (.invokespecial 35, 3) := by decide +kernel
theorem dX4_init_56 : decode cX4_init 56 = .ok (.putfield 36, 3) := by decide +kernel
theorem dX4_init_59 : decode cX4_init 59 = .ok (.aload_n 0, 1) := by decide +kernel
theorem dX4_init_60 : decode cX4_init 60 = .ok (.bipush 81, 2) := by decide +kernel
theorem dX4_init_62 : decode cX4_init 62 = .ok (.newarray .int, 2) := by decide +kernel
theorem dX4_init_64 : decode cX4_init 64 = .ok (.putfield 40, 3) := by decide +kernel
theorem dX4_init_67 : decode cX4_init 67 = .ok (.return_, 1) := by decide +kernel
set_option maxRecDepth 20000 in
theorem ggX4_setGround_X4_needCell : GoodIn wsX4_setGround wsX4_needCell := goodIn_ca (goodIn_r _ [5, 6, 7, 4, 8, 9, 10] (by decide +kernel) (by decide +kernel)) (goodIn_sub (fun _ h => List.mem_cons_of_mem _ (List.mem_append_left _ (List.mem_append_right _ h))) (by decide +kernel))
set_option maxRecDepth 20000 in
theorem gX4_setGround_X4_needCell : GoodIn wsX4_setGround (va_wsS RX4 44 yX4_needCell wsX4_needCell) := goodIn_app (goodIn_of _ (by decide +kernel)) ggX4_setGround_X4_needCell
set_option maxRecDepth 20000 in
theorem ggX4_setGround_X4_needWithin : GoodIn wsX4_setGround wsX4_needWithin := goodIn_ca (goodIn_r _ [13, 14, 15] (by decide +kernel) (by decide +kernel)) (goodIn_sub (fun _ h => List.mem_cons_of_mem _ (List.mem_append_right _ h)) (by decide +kernel))
set_option maxRecDepth 20000 in
theorem gX4_setGround_X4_needWithin : GoodIn wsX4_setGround (va_wsS RX4 48 yX4_needWithin wsX4_needWithin) := goodIn_app (goodIn_of _ (by decide +kernel)) ggX4_setGround_X4_needWithin
set_option maxRecDepth 20000 in
theorem ggX4_setGround_X0_layGround : GoodIn wsX4_setGround wsX0_layGround := goodIn_r _ [20, 21, 22, 23, 24, 25, 26, 33, 34, 35, 36] (by decide +kernel) (by decide +kernel)
set_option maxRecDepth 20000 in
theorem gX4_setGround_X0_layGround : GoodIn wsX4_setGround (wsV RX4 52 RX0 yX0_layGround wsX0_layGround) := goodIn_app (goodIn_of _ (by decide +kernel)) ggX4_setGround_X0_layGround
theorem dX4_setGround_0 : decode cX4_setGround 0 = .ok (.iload_n 1, 1) := by decide +kernel
theorem dX4_setGround_1 : decode cX4_setGround 1 = .ok (.iload_n 2, 1) := by decide +kernel
theorem dX4_setGround_2 : decode cX4_setGround 2 = .ok (.invokestatic 44, 3) := by decide +kernel
theorem dX4_setGround_5 : decode cX4_setGround 5 = .ok (.iload_n 3, 1) := by decide +kernel
theorem dX4_setGround_6 : decode cX4_setGround 6 = .ok (.iconst 0, 1) := by decide +kernel
theorem dX4_setGround_7 : decode cX4_setGround 7 = .ok (.bipush 40, 2) := by decide +kernel
theorem dX4_setGround_9 : decode cX4_setGround 9 = .ok (.invokestatic 48, 3) := by decide +kernel
theorem dX4_setGround_12 : decode cX4_setGround 12 = .ok (.aload_n 0, 1) := by decide +kernel
theorem dX4_setGround_13 : decode cX4_setGround 13 = .ok (.getfield 19, 3) := by decide +kernel
theorem dX4_setGround_16 : decode cX4_setGround 16 = .ok (.bipush 9, 2) := by decide +kernel
theorem dX4_setGround_18 : decode cX4_setGround 18 = .ok (.iload_n 2, 1) := by decide +kernel
theorem dX4_setGround_19 : decode cX4_setGround 19 = .ok (.imul, 1) := by decide +kernel
theorem dX4_setGround_20 : decode cX4_setGround 20 = .ok (.iload_n 1, 1) := by decide +kernel
theorem dX4_setGround_21 : decode cX4_setGround 21 = .ok (.iadd, 1) := by decide +kernel
theorem dX4_setGround_22 : decode cX4_setGround 22 = .ok (.iload_n 3, 1) := by decide +kernel
theorem dX4_setGround_23 : decode cX4_setGround 23 = .ok (.invokevirtual 52, 3) := by decide +kernel
theorem dX4_setGround_26 : decode cX4_setGround 26 = .ok (.ireturn, 1) := by decide +kernel
set_option maxRecDepth 20000 in
theorem ggX4_plant_X4_needCell : GoodIn wsX4_plant wsX4_needCell := goodIn_ca (goodIn_r _ [5, 6, 7, 4, 8, 9, 10] (by decide +kernel) (by decide +kernel)) (goodIn_sub (fun _ h => List.mem_cons_of_mem _ (List.mem_append_left _ (List.mem_append_right _ h))) (by decide +kernel))
set_option maxRecDepth 20000 in
theorem gX4_plant_X4_needCell : GoodIn wsX4_plant (va_wsS RX4 44 yX4_needCell wsX4_needCell) := goodIn_app (goodIn_of _ (by decide +kernel)) ggX4_plant_X4_needCell
set_option maxRecDepth 20000 in
theorem ggX4_plant_X0_groundOf : GoodIn wsX4_plant wsX0_groundOf := goodIn_r _ [15, 16, 33, 34, 35, 36] (by decide +kernel) (by decide +kernel)
set_option maxRecDepth 20000 in
theorem gX4_plant_X0_groundOf : GoodIn wsX4_plant (wsV RX4 56 RX0 yX0_groundOf wsX0_groundOf) := goodIn_app (goodIn_of _ (by decide +kernel)) ggX4_plant_X0_groundOf
set_option maxRecDepth 20000 in
theorem ggX4_plant_X4_needWithin : GoodIn wsX4_plant wsX4_needWithin := goodIn_ca (goodIn_r _ [19, 20, 21] (by decide +kernel) (by decide +kernel)) (goodIn_sub (fun _ h => List.mem_cons_of_mem _ (List.mem_append_right _ h)) (by decide +kernel))
set_option maxRecDepth 20000 in
theorem gX4_plant_X4_needWithin : GoodIn wsX4_plant (va_wsS RX4 48 yX4_needWithin wsX4_needWithin) := goodIn_app (goodIn_of _ (by decide +kernel)) ggX4_plant_X4_needWithin
set_option maxRecDepth 20000 in
theorem ggX4_plant_X0_setCoral : GoodIn wsX4_plant wsX0_setCoral := goodIn_r _ [25, 26, 33, 34, 35, 36] (by decide +kernel) (by decide +kernel)
set_option maxRecDepth 20000 in
theorem gX4_plant_X0_setCoral : GoodIn wsX4_plant (wsV RX4 60 RX0 yX0_setCoral wsX0_setCoral) := goodIn_app (goodIn_of _ (by decide +kernel)) ggX4_plant_X0_setCoral
theorem dX4_plant_0 : decode cX4_plant 0 = .ok (.iload_n 1, 1) := by decide +kernel
theorem dX4_plant_1 : decode cX4_plant 1 = .ok (.iload_n 2, 1) := by decide +kernel
theorem dX4_plant_2 : decode cX4_plant 2 = .ok (.invokestatic 44, 3) := by decide +kernel
theorem dX4_plant_5 : decode cX4_plant 5 = .ok (.iload_n 3, 1) := by decide +kernel
theorem dX4_plant_6 : decode cX4_plant 6 = .ok (.iconst 0, 1) := by decide +kernel
theorem dX4_plant_7 : decode cX4_plant 7 = .ok (.aload_n 0, 1) := by decide +kernel
theorem dX4_plant_8 : decode cX4_plant 8 = .ok (.getfield 19, 3) := by decide +kernel
theorem dX4_plant_11 : decode cX4_plant 11 = .ok (.bipush 9, 2) := by decide +kernel
theorem dX4_plant_13 : decode cX4_plant 13 = .ok (.iload_n 2, 1) := by decide +kernel
theorem dX4_plant_14 : decode cX4_plant 14 = .ok (.imul, 1) := by decide +kernel
theorem dX4_plant_15 : decode cX4_plant 15 = .ok (.iload_n 1, 1) := by decide +kernel
theorem dX4_plant_16 : decode cX4_plant 16 = .ok (.iadd, 1) := by decide +kernel
theorem dX4_plant_17 : decode cX4_plant 17 = .ok (.invokevirtual 56, 3) := by decide +kernel
theorem dX4_plant_20 : decode cX4_plant 20 = .ok (.invokestatic 48, 3) := by decide +kernel
theorem dX4_plant_23 : decode cX4_plant 23 = .ok (.aload_n 0, 1) := by decide +kernel
theorem dX4_plant_24 : decode cX4_plant 24 = .ok (.getfield 19, 3) := by decide +kernel
theorem dX4_plant_27 : decode cX4_plant 27 = .ok (.bipush 9, 2) := by decide +kernel
theorem dX4_plant_29 : decode cX4_plant 29 = .ok (.iload_n 2, 1) := by decide +kernel
theorem dX4_plant_30 : decode cX4_plant 30 = .ok (.imul, 1) := by decide +kernel
theorem dX4_plant_31 : decode cX4_plant 31 = .ok (.iload_n 1, 1) := by decide +kernel
theorem dX4_plant_32 : decode cX4_plant 32 = .ok (.iadd, 1) := by decide +kernel
theorem dX4_plant_33 : decode cX4_plant 33 = .ok (.iload_n 3, 1) := by decide +kernel
theorem dX4_plant_34 : decode cX4_plant 34 = .ok (.invokevirtual 60, 3) := by decide +kernel
theorem dX4_plant_37 : decode cX4_plant 37 = .ok (.ireturn, 1) := by decide +kernel
set_option maxRecDepth 20000 in
theorem ggX4_setMonth_X4_needIndex : GoodIn wsX4_setMonth wsX4_needIndex := goodIn_ca (goodIn_r _ [5, 6, 7] (by decide +kernel) (by decide +kernel)) (goodIn_sub (fun _ h => List.mem_cons_of_mem _ (List.mem_append_left _ (List.mem_append_right _ h))) (by decide +kernel))
set_option maxRecDepth 20000 in
theorem gX4_setMonth_X4_needIndex : GoodIn wsX4_setMonth (va_wsS RX4 63 yX4_needIndex wsX4_needIndex) := goodIn_app (goodIn_of _ (by decide +kernel)) ggX4_setMonth_X4_needIndex
set_option maxRecDepth 20000 in
theorem ggX4_setMonth_X4_needWithin : GoodIn wsX4_setMonth wsX4_needWithin := goodIn_ca (goodIn_r _ [10, 11, 12] (by decide +kernel) (by decide +kernel)) (goodIn_sub (fun _ h => List.mem_cons_of_mem _ (List.mem_append_right _ h)) (by decide +kernel))
set_option maxRecDepth 20000 in
theorem gX4_setMonth_X4_needWithin : GoodIn wsX4_setMonth (va_wsS RX4 48 yX4_needWithin wsX4_needWithin) := goodIn_app (goodIn_of _ (by decide +kernel)) ggX4_setMonth_X4_needWithin
set_option maxRecDepth 20000 in
theorem ggX4_setMonth_X3_entry : GoodIn wsX4_setMonth wsX3_entry := goodIn_r _ [17, 18, 19, 30, 31] (by decide +kernel) (by decide +kernel)
set_option maxRecDepth 20000 in
theorem gX4_setMonth_X3_entry : GoodIn wsX4_setMonth (wsV RX4 66 RX3 yX3_entry wsX3_entry) := goodIn_app (goodIn_of _ (by decide +kernel)) ggX4_setMonth_X3_entry
set_option maxRecDepth 20000 in
theorem ggX4_setMonth_X3_write : GoodIn wsX4_setMonth wsX3_write := goodIn_r _ [23, 18, 19, 30, 31] (by decide +kernel) (by decide +kernel)
set_option maxRecDepth 20000 in
theorem gX4_setMonth_X3_write : GoodIn wsX4_setMonth (wsV RX4 69 RX3 yX3_write wsX3_write) := goodIn_app (goodIn_of _ (by decide +kernel)) ggX4_setMonth_X3_write
theorem dX4_setMonth_0 : decode cX4_setMonth 0 = .ok (.iload_n 1, 1) := by decide +kernel
theorem dX4_setMonth_1 : decode cX4_setMonth 1 = .ok (.bipush 12, 2) := by decide +kernel
theorem dX4_setMonth_3 : decode cX4_setMonth 3 = .ok (.invokestatic 63, 3) := by decide +kernel
theorem dX4_setMonth_6 : decode cX4_setMonth 6 = .ok (.iload_n 2, 1) := by decide +kernel
theorem dX4_setMonth_7 : decode cX4_setMonth 7 = .ok (.iconst 0, 1) := by decide +kernel
theorem dX4_setMonth_8 : decode cX4_setMonth 8 = .ok (.bipush 9, 2) := by decide +kernel
theorem dX4_setMonth_10 : decode cX4_setMonth 10 = .ok (.invokestatic 48, 3) := by decide +kernel
theorem dX4_setMonth_13 : decode cX4_setMonth 13 = .ok (.iload_n 3, 1) := by decide +kernel
theorem dX4_setMonth_14 : decode cX4_setMonth 14 = .ok (.iconst 0, 1) := by decide +kernel
theorem dX4_setMonth_15 : decode cX4_setMonth 15 = .ok (.bipush 9, 2) := by decide +kernel
theorem dX4_setMonth_17 : decode cX4_setMonth 17 = .ok (.invokestatic 48, 3) := by decide +kernel
theorem dX4_setMonth_20 : decode cX4_setMonth 20 = .ok (.aload_n 0, 1) := by decide +kernel
theorem dX4_setMonth_21 : decode cX4_setMonth 21 = .ok (.getfield 12, 3) := by decide +kernel
theorem dX4_setMonth_24 : decode cX4_setMonth 24 = .ok (.iload_n 1, 1) := by decide +kernel
theorem dX4_setMonth_25 : decode cX4_setMonth 25 = .ok (.invokevirtual 66, 3) := by decide +kernel
theorem dX4_setMonth_28 : decode cX4_setMonth 28 = .ok (.istore 4, 2) := by decide +kernel
theorem dX4_setMonth_30 : decode cX4_setMonth 30 = .ok (.aload_n 0, 1) := by decide +kernel
theorem dX4_setMonth_31 : decode cX4_setMonth 31 = .ok (.getfield 12, 3) := by decide +kernel
theorem dX4_setMonth_34 : decode cX4_setMonth 34 = .ok (.iload_n 1, 1) := by decide +kernel
theorem dX4_setMonth_35 : decode cX4_setMonth 35 = .ok (.iload_n 2, 1) := by decide +kernel
theorem dX4_setMonth_36 : decode cX4_setMonth 36 = .ok (.iload_n 3, 1) := by decide +kernel
theorem dX4_setMonth_37 : decode cX4_setMonth 37 = .ok (.invokevirtual 69, 3) := by decide +kernel
theorem dX4_setMonth_40 : decode cX4_setMonth 40 = .ok (.iload 4, 2) := by decide +kernel
theorem dX4_setMonth_42 : decode cX4_setMonth 42 = .ok (.ireturn, 1) := by decide +kernel
set_option maxRecDepth 20000 in
theorem ggX4_cell_X4_needCell : GoodIn wsX4_cell wsX4_needCell := goodIn_ca (goodIn_r _ [5, 6, 7, 4, 8, 9, 10] (by decide +kernel) (by decide +kernel)) (goodIn_sub (fun _ h => List.mem_cons_of_mem _ (List.mem_append_right _ h)) (by decide +kernel))
set_option maxRecDepth 20000 in
theorem gX4_cell_X4_needCell : GoodIn wsX4_cell (va_wsS RX4 44 yX4_needCell wsX4_needCell) := goodIn_app (goodIn_of _ (by decide +kernel)) ggX4_cell_X4_needCell
set_option maxRecDepth 20000 in
theorem ggX4_cell_X4_needIndex : GoodIn wsX4_cell wsX4_needIndex := goodIn_ca (goodIn_r _ [8, 9, 10] (by decide +kernel) (by decide +kernel)) (goodIn_sub (fun _ h => List.mem_cons_of_mem _ (List.mem_append_right _ h)) (by decide +kernel))
set_option maxRecDepth 20000 in
theorem gX4_cell_X4_needIndex : GoodIn wsX4_cell (va_wsS RX4 63 yX4_needIndex wsX4_needIndex) := goodIn_app (goodIn_of _ (by decide +kernel)) ggX4_cell_X4_needIndex
set_option maxRecDepth 20000 in
theorem ggX4_cell_X0_groundOf : GoodIn wsX4_cell wsX0_groundOf := goodIn_r _ [15, 16, 80, 81, 82, 83] (by decide +kernel) (by decide +kernel)
set_option maxRecDepth 20000 in
theorem gX4_cell_X0_groundOf : GoodIn wsX4_cell (wsV RX4 56 RX0 yX0_groundOf wsX0_groundOf) := goodIn_app (goodIn_of _ (by decide +kernel)) ggX4_cell_X0_groundOf
set_option maxRecDepth 20000 in
theorem ggX4_cell_X0_coralOf : GoodIn wsX4_cell wsX0_coralOf := goodIn_r _ [20, 21, 80, 81, 82, 83] (by decide +kernel) (by decide +kernel)
set_option maxRecDepth 20000 in
theorem gX4_cell_X0_coralOf : GoodIn wsX4_cell (wsV RX4 72 RX0 yX0_coralOf wsX0_coralOf) := goodIn_app (goodIn_of _ (by decide +kernel)) ggX4_cell_X0_coralOf
set_option maxRecDepth 20000 in
theorem ggX4_cell_X0_depthOf : GoodIn wsX4_cell wsX0_depthOf := goodIn_r _ [25, 16, 21, 26, 27, 28, 29, 80, 81, 82, 83] (by decide +kernel) (by decide +kernel)
set_option maxRecDepth 20000 in
theorem gX4_cell_X0_depthOf : GoodIn wsX4_cell (wsV RX4 75 RX0 yX0_depthOf wsX0_depthOf) := goodIn_app (goodIn_of _ (by decide +kernel)) ggX4_cell_X0_depthOf
set_option maxRecDepth 20000 in
theorem ggX4_cell_X0_isHead : GoodIn wsX4_cell wsX0_isHead := goodIn_r _ [33, 21, 80, 81, 82, 83] (by decide +kernel) (by decide +kernel)
set_option maxRecDepth 20000 in
theorem gX4_cell_X0_isHead : GoodIn wsX4_cell (wsV RX4 78 RX0 yX0_isHead wsX0_isHead) := goodIn_app (goodIn_of _ (by decide +kernel)) ggX4_cell_X0_isHead
set_option maxRecDepth 20000 in
theorem ggX4_cell_X4_headsOfReefAt : GoodIn wsX4_cell wsX4_headsOfReefAt := goodIn_r _ [37, 1, 38, 39, 40, 41, 4, 42, 43, 44, 45, 46, 47, 48, 49, 50, 51, 52, 53, 30, 31, 32, 14, 33, 21, 54, 55, 56, 57, 58, 59, 60, 61, 62, 63, 64, 65, 66, 67, 68, 69, 70, 71, 72, 73, 74, 75, 76, 77, 78, 79, 84, 85, 86, 87, 80, 81, 82, 83] (by decide +kernel) (by decide +kernel)
set_option maxRecDepth 20000 in
theorem gX4_cell_X4_headsOfReefAt : GoodIn wsX4_cell (wsV RX4 82 RX4 yX4_headsOfReefAt wsX4_headsOfReefAt) := goodIn_app (goodIn_of _ (by decide +kernel)) ggX4_cell_X4_headsOfReefAt
theorem dX4_cell_0 : decode cX4_cell 0 = .ok (.iload_n 1, 1) := by decide +kernel
theorem dX4_cell_1 : decode cX4_cell 1 = .ok (.iload_n 2, 1) := by decide +kernel
theorem dX4_cell_2 : decode cX4_cell 2 = .ok (.invokestatic 44, 3) := by decide +kernel
theorem dX4_cell_5 : decode cX4_cell 5 = .ok (.iload_n 3, 1) := by decide +kernel
theorem dX4_cell_6 : decode cX4_cell 6 = .ok (.iconst 5, 1) := by decide +kernel
theorem dX4_cell_7 : decode cX4_cell 7 = .ok (.invokestatic 63, 3) := by decide +kernel
theorem dX4_cell_10 : decode cX4_cell 10 = .ok (.bipush 9, 2) := by decide +kernel
theorem dX4_cell_12 : decode cX4_cell 12 = .ok (.iload_n 2, 1) := by decide +kernel
theorem dX4_cell_13 : decode cX4_cell 13 = .ok (.imul, 1) := by decide +kernel
theorem dX4_cell_14 : decode cX4_cell 14 = .ok (.iload_n 1, 1) := by decide +kernel
theorem dX4_cell_15 : decode cX4_cell 15 = .ok (.iadd, 1) := by decide +kernel
theorem dX4_cell_16 : decode cX4_cell 16 = .ok (.istore 4, 2) := by decide +kernel
theorem dX4_cell_18 : decode cX4_cell 18 = .ok (.iload_n 3, 1) := by decide +kernel
theorem dX4_cell_19 : decode cX4_cell 19 = .ok (.tableswitch 77 0 3 #[29, 39, 49, 59], 29) := by decide +kernel
theorem dX4_cell_48 : decode cX4_cell 48 = .ok (.aload_n 0, 1) := by decide +kernel
theorem dX4_cell_49 : decode cX4_cell 49 = .ok (.getfield 19, 3) := by decide +kernel
theorem dX4_cell_52 : decode cX4_cell 52 = .ok (.iload 4, 2) := by decide +kernel
theorem dX4_cell_54 : decode cX4_cell 54 = .ok (.invokevirtual 56, 3) := by decide +kernel
theorem dX4_cell_57 : decode cX4_cell 57 = .ok (.ireturn, 1) := by decide +kernel
theorem dX4_cell_58 : decode cX4_cell 58 = .ok (.aload_n 0, 1) := by decide +kernel
theorem dX4_cell_59 : decode cX4_cell 59 = .ok (.getfield 19, 3) := by decide +kernel
theorem dX4_cell_62 : decode cX4_cell 62 = .ok (.iload 4, 2) := by decide +kernel
theorem dX4_cell_64 : decode cX4_cell 64 = .ok (.invokevirtual 72, 3) := by decide +kernel
theorem dX4_cell_67 : decode cX4_cell 67 = .ok (.ireturn, 1) := by decide +kernel
theorem dX4_cell_68 : decode cX4_cell 68 = .ok (.aload_n 0, 1) := by decide +kernel
theorem dX4_cell_69 : decode cX4_cell 69 = .ok (.getfield 19, 3) := by decide +kernel
theorem dX4_cell_72 : decode cX4_cell 72 = .ok (.iload 4, 2) := by decide +kernel
theorem dX4_cell_74 : decode cX4_cell 74 = .ok (.invokevirtual 75, 3) := by decide +kernel
theorem dX4_cell_77 : decode cX4_cell 77 = .ok (.ireturn, 1) := by decide +kernel
theorem dX4_cell_78 : decode cX4_cell 78 = .ok (.aload_n 0, 1) := by decide +kernel
theorem dX4_cell_79 : decode cX4_cell 79 = .ok (.getfield 19, 3) := by decide +kernel
theorem dX4_cell_82 : decode cX4_cell 82 = .ok (.iload 4, 2) := by decide +kernel
theorem dX4_cell_84 : decode cX4_cell 84 = .ok (.invokevirtual 78, 3) := by decide +kernel
theorem dX4_cell_87 : decode cX4_cell 87 = .ok (.ifCond .eq 7, 3) := by decide +kernel
theorem dX4_cell_90 : decode cX4_cell 90 = .ok (.iconst 1, 1) := by decide +kernel
theorem dX4_cell_91 : decode cX4_cell 91 = .ok (.goto 4, 3) := by decide +kernel
theorem dX4_cell_94 : decode cX4_cell 94 = .ok (.iconst 0, 1) := by decide +kernel
theorem dX4_cell_95 : decode cX4_cell 95 = .ok (.ireturn, 1) := by decide +kernel
theorem dX4_cell_96 : decode cX4_cell 96 = .ok (.aload_n 0, 1) := by decide +kernel
theorem dX4_cell_97 : decode cX4_cell 97 = .ok (.iload 4, 2) := by decide +kernel
theorem dX4_cell_99 : decode cX4_cell 99 = .ok (.invokevirtual 82, 3) := by decide +kernel
theorem dX4_cell_102 : decode cX4_cell 102 = .ok (.ireturn, 1) := by decide +kernel
set_option maxRecDepth 20000 in
theorem ggX4_sound_X4_needCell : GoodIn wsX4_sound wsX4_needCell := goodIn_ca (goodIn_r _ [6, 7, 8, 5, 9, 10, 11] (by decide +kernel) (by decide +kernel)) (goodIn_sub (fun _ h => List.mem_cons_of_mem _ (List.mem_append_right _ h)) (by decide +kernel))
set_option maxRecDepth 20000 in
theorem gX4_sound_X4_needCell : GoodIn wsX4_sound (va_wsS RX4 44 yX4_needCell wsX4_needCell) := goodIn_app (goodIn_of _ (by decide +kernel)) ggX4_sound_X4_needCell
set_option maxRecDepth 20000 in
theorem ggX4_sound_X1_noted : GoodIn wsX4_sound wsX1_noted := goodIn_r _ [16, 17, 45, 46] (by decide +kernel) (by decide +kernel)
set_option maxRecDepth 20000 in
theorem gX4_sound_X1_noted : GoodIn wsX4_sound (wsV RX4 85 RX1 yX1_noted wsX1_noted) := goodIn_app (goodIn_of _ (by decide +kernel)) ggX4_sound_X1_noted
set_option maxRecDepth 20000 in
theorem ggX4_sound_X0_depthOf : GoodIn wsX4_sound wsX0_depthOf := goodIn_r _ [22, 23, 24, 25, 26, 27, 28, 47, 48, 49, 50] (by decide +kernel) (by decide +kernel)
set_option maxRecDepth 20000 in
theorem gX4_sound_X0_depthOf : GoodIn wsX4_sound (wsV RX4 75 RX0 yX0_depthOf wsX0_depthOf) := goodIn_app (goodIn_of _ (by decide +kernel)) ggX4_sound_X0_depthOf
set_option maxRecDepth 20000 in
theorem ggX4_sound_X0_monthNow : GoodIn wsX4_sound wsX0_monthNow := goodIn_r _ [32, 33, 47, 48, 49, 50] (by decide +kernel) (by decide +kernel)
set_option maxRecDepth 20000 in
theorem gX4_sound_X0_monthNow : GoodIn wsX4_sound (wsV RX4 88 RX0 yX0_monthNow wsX0_monthNow) := goodIn_app (goodIn_of _ (by decide +kernel)) ggX4_sound_X0_monthNow
set_option maxRecDepth 20000 in
theorem ggX4_sound_X1_note : GoodIn wsX4_sound wsX1_note := goodIn_r _ [37, 17, 38, 45, 46] (by decide +kernel) (by decide +kernel)
set_option maxRecDepth 20000 in
theorem gX4_sound_X1_note : GoodIn wsX4_sound (wsV RX4 92 RX1 yX1_note wsX1_note) := goodIn_app (goodIn_of _ (by decide +kernel)) ggX4_sound_X1_note
theorem dX4_sound_0 : decode cX4_sound 0 = .ok (.iload_n 1, 1) := by decide +kernel
theorem dX4_sound_1 : decode cX4_sound 1 = .ok (.iload_n 2, 1) := by decide +kernel
theorem dX4_sound_2 : decode cX4_sound 2 = .ok (.invokestatic 44, 3) := by decide +kernel
theorem dX4_sound_5 : decode cX4_sound 5 = .ok (.bipush 9, 2) := by decide +kernel
theorem dX4_sound_7 : decode cX4_sound 7 = .ok (.iload_n 2, 1) := by decide +kernel
theorem dX4_sound_8 : decode cX4_sound 8 = .ok (.imul, 1) := by decide +kernel
theorem dX4_sound_9 : decode cX4_sound 9 = .ok (.iload_n 1, 1) := by decide +kernel
theorem dX4_sound_10 : decode cX4_sound 10 = .ok (.iadd, 1) := by decide +kernel
theorem dX4_sound_11 : decode cX4_sound 11 = .ok (.istore_n 3, 1) := by decide +kernel
theorem dX4_sound_12 : decode cX4_sound 12 = .ok (.aload_n 0, 1) := by decide +kernel
theorem dX4_sound_13 : decode cX4_sound 13 = .ok (.getfield 29, 3) := by decide +kernel
theorem dX4_sound_16 : decode cX4_sound 16 = .ok (.iload_n 3, 1) := by decide +kernel
theorem dX4_sound_17 : decode cX4_sound 17 = .ok (.invokevirtual 85, 3) := by decide +kernel
theorem dX4_sound_20 : decode cX4_sound 20 = .ok (.istore 4, 2) := by decide +kernel
theorem dX4_sound_22 : decode cX4_sound 22 = .ok (.aload_n 0, 1) := by decide +kernel
theorem dX4_sound_23 : decode cX4_sound 23 = .ok (.getfield 19, 3) := by decide +kernel
theorem dX4_sound_26 : decode cX4_sound 26 = .ok (.iload_n 3, 1) := by decide +kernel
theorem dX4_sound_27 : decode cX4_sound 27 = .ok (.invokevirtual 75, 3) := by decide +kernel
theorem dX4_sound_30 : decode cX4_sound 30 = .ok (.istore 5, 2) := by decide +kernel
theorem dX4_sound_32 : decode cX4_sound 32 = .ok (.aload_n 0, 1) := by decide +kernel
theorem dX4_sound_33 : decode cX4_sound 33 = .ok (.getfield 29, 3) := by decide +kernel
theorem dX4_sound_36 : decode cX4_sound 36 = .ok (.iload_n 3, 1) := by decide +kernel
theorem dX4_sound_37 : decode cX4_sound 37 = .ok (.iload 5, 2) := by decide +kernel
theorem dX4_sound_39 : decode cX4_sound 39 = .ok (.aload_n 0, 1) := by decide +kernel
theorem dX4_sound_40 : decode cX4_sound 40 = .ok (.getfield 19, 3) := by decide +kernel
theorem dX4_sound_43 : decode cX4_sound 43 = .ok (.invokevirtual 88, 3) := by decide +kernel
theorem dX4_sound_46 : decode cX4_sound 46 = .ok (.invokevirtual 92, 3) := by decide +kernel
theorem dX4_sound_49 : decode cX4_sound 49 = .ok (.iload 4, 2) := by decide +kernel
theorem dX4_sound_51 : decode cX4_sound 51 = .ok (.iconst (-1), 1) := by decide +kernel
theorem dX4_sound_52 : decode cX4_sound 52 = .ok (.if_icmp .ne 7, 3) := by decide +kernel
theorem dX4_sound_55 : decode cX4_sound 55 = .ok (.iconst 0, 1) := by decide +kernel
theorem dX4_sound_56 : decode cX4_sound 56 = .ok (.goto 8, 3) := by decide +kernel
theorem dX4_sound_59 : decode cX4_sound 59 = .ok (.iload 5, 2) := by decide +kernel
theorem dX4_sound_61 : decode cX4_sound 61 = .ok (.iload 4, 2) := by decide +kernel
theorem dX4_sound_63 : decode cX4_sound 63 = .ok (.isub, 1) := by decide +kernel
theorem dX4_sound_64 : decode cX4_sound 64 = .ok (.ireturn, 1) := by decide +kernel
set_option maxRecDepth 20000 in
theorem ggX4_chart_X4_needCell : GoodIn wsX4_chart wsX4_needCell := goodIn_ca (goodIn_r _ [4, 5, 6, 3, 7, 8, 9] (by decide +kernel) (by decide +kernel)) (goodIn_sub (fun _ h => List.mem_cons_of_mem _ (List.mem_append_right _ h)) (by decide +kernel))
set_option maxRecDepth 20000 in
theorem gX4_chart_X4_needCell : GoodIn wsX4_chart (va_wsS RX4 44 yX4_needCell wsX4_needCell) := goodIn_app (goodIn_of _ (by decide +kernel)) ggX4_chart_X4_needCell
set_option maxRecDepth 20000 in
theorem ggX4_chart_X4_needIndex : GoodIn wsX4_chart wsX4_needIndex := goodIn_ca (goodIn_r _ [7, 8, 9] (by decide +kernel) (by decide +kernel)) (goodIn_sub (fun _ h => List.mem_cons_of_mem _ (List.mem_append_right _ h)) (by decide +kernel))
set_option maxRecDepth 20000 in
theorem gX4_chart_X4_needIndex : GoodIn wsX4_chart (va_wsS RX4 63 yX4_needIndex wsX4_needIndex) := goodIn_app (goodIn_of _ (by decide +kernel)) ggX4_chart_X4_needIndex
set_option maxRecDepth 20000 in
theorem ggX4_chart_X4_chartAnswer : GoodIn wsX4_chart wsX4_chartAnswer := goodIn_r _ [13, 14, 15, 16, 17, 18, 19, 20, 21, 22, 23, 24, 25, 26, 27, 28, 29, 30, 31, 32, 33, 34, 35, 3, 36, 37, 38, 39, 40, 41, 42, 43, 44, 45, 46, 47, 48, 49, 50, 51, 52] (by decide +kernel) (by decide +kernel)
set_option maxRecDepth 20000 in
theorem gX4_chart_X4_chartAnswer : GoodIn wsX4_chart (wsV RX4 95 RX4 yX4_chartAnswer wsX4_chartAnswer) := goodIn_app (goodIn_of _ (by decide +kernel)) ggX4_chart_X4_chartAnswer
theorem dX4_chart_0 : decode cX4_chart 0 = .ok (.iload_n 1, 1) := by decide +kernel
theorem dX4_chart_1 : decode cX4_chart 1 = .ok (.iload_n 2, 1) := by decide +kernel
theorem dX4_chart_2 : decode cX4_chart 2 = .ok (.invokestatic 44, 3) := by decide +kernel
theorem dX4_chart_5 : decode cX4_chart 5 = .ok (.iload_n 3, 1) := by decide +kernel
theorem dX4_chart_6 : decode cX4_chart 6 = .ok (.iconst 3, 1) := by decide +kernel
theorem dX4_chart_7 : decode cX4_chart 7 = .ok (.invokestatic 63, 3) := by decide +kernel
theorem dX4_chart_10 : decode cX4_chart 10 = .ok (.aload_n 0, 1) := by decide +kernel
theorem dX4_chart_11 : decode cX4_chart 11 = .ok (.bipush 9, 2) := by decide +kernel
theorem dX4_chart_13 : decode cX4_chart 13 = .ok (.iload_n 2, 1) := by decide +kernel
theorem dX4_chart_14 : decode cX4_chart 14 = .ok (.imul, 1) := by decide +kernel
theorem dX4_chart_15 : decode cX4_chart 15 = .ok (.iload_n 1, 1) := by decide +kernel
theorem dX4_chart_16 : decode cX4_chart 16 = .ok (.iadd, 1) := by decide +kernel
theorem dX4_chart_17 : decode cX4_chart 17 = .ok (.iload_n 3, 1) := by decide +kernel
theorem dX4_chart_18 : decode cX4_chart 18 = .ok (.invokevirtual 95, 3) := by decide +kernel
theorem dX4_chart_21 : decode cX4_chart 21 = .ok (.ireturn, 1) := by decide +kernel
set_option maxRecDepth 20000 in
theorem ggX4_way_X4_needWithin : GoodIn wsX4_way wsX4_needWithin := goodIn_ca (goodIn_r _ [5, 6, 7] (by decide +kernel) (by decide +kernel)) (goodIn_sub (fun _ h => List.mem_cons_of_mem _ (List.mem_append_right _ h)) (by decide +kernel))
set_option maxRecDepth 20000 in
theorem gX4_way_X4_needWithin : GoodIn wsX4_way (va_wsS RX4 48 yX4_needWithin wsX4_needWithin) := goodIn_app (goodIn_of _ (by decide +kernel)) ggX4_way_X4_needWithin
set_option maxRecDepth 20000 in
theorem ggX4_way_X4_countOn : GoodIn wsX4_way wsX4_countOn := goodIn_r _ [11, 12, 13, 14, 15, 4, 16, 17, 18, 19, 20, 21, 22, 23, 24, 25, 26, 27, 28, 29, 30, 31, 32, 33, 34, 35, 36, 37, 38, 39, 40, 41, 42, 43, 44, 45, 46, 47, 48, 49, 50, 51, 52, 53, 54, 98, 99, 100, 101, 102, 103, 104, 105, 106, 107, 108, 109] (by decide +kernel) (by decide +kernel)
set_option maxRecDepth 20000 in
theorem gX4_way_X4_countOn : GoodIn wsX4_way (wsV RX4 98 RX4 yX4_countOn wsX4_countOn) := goodIn_app (goodIn_of _ (by decide +kernel)) ggX4_way_X4_countOn
set_option maxRecDepth 20000 in
theorem ggX4_way_X4_startOfShortestWay : GoodIn wsX4_way wsX4_startOfShortestWay := goodIn_r _ [58, 1, 59, 60, 61, 4, 62, 17, 63, 64, 65, 66, 67, 68, 69, 70, 71, 72, 73, 74, 75, 76, 77, 78, 79, 80, 81, 82, 83, 84, 85, 86, 87, 88, 89, 90, 91, 92, 93, 94, 95, 96, 97, 98, 99, 100, 101, 102, 103, 110, 111, 112, 113] (by decide +kernel) (by decide +kernel)
set_option maxRecDepth 20000 in
theorem gX4_way_X4_startOfShortestWay : GoodIn wsX4_way (wsV RX4 102 RX4 yX4_startOfShortestWay wsX4_startOfShortestWay) := goodIn_app (goodIn_of _ (by decide +kernel)) ggX4_way_X4_startOfShortestWay
set_option maxRecDepth 20000 in
theorem ggX4_way_X2_stepsTo : GoodIn wsX4_way wsX2_stepsTo := goodIn_r _ [97, 68, 110, 111, 112, 113] (by decide +kernel) (by decide +kernel)
set_option maxRecDepth 20000 in
theorem gX4_way_X2_stepsTo : GoodIn wsX4_way (wsV RX4 105 RX2 yX2_stepsTo wsX2_stepsTo) := goodIn_app (goodIn_of _ (by decide +kernel)) ggX4_way_X2_stepsTo
theorem dX4_way_0 : decode cX4_way 0 = .ok (.iload_n 1, 1) := by decide +kernel
theorem dX4_way_1 : decode cX4_way 1 = .ok (.iconst 0, 1) := by decide +kernel
theorem dX4_way_2 : decode cX4_way 2 = .ok (.bipush 39, 2) := by decide +kernel
theorem dX4_way_4 : decode cX4_way 4 = .ok (.invokestatic 48, 3) := by decide +kernel
theorem dX4_way_7 : decode cX4_way 7 = .ok (.aload_n 0, 1) := by decide +kernel
theorem dX4_way_8 : decode cX4_way 8 = .ok (.iload_n 2, 1) := by decide +kernel
theorem dX4_way_9 : decode cX4_way 9 = .ok (.invokevirtual 98, 3) := by decide +kernel
theorem dX4_way_12 : decode cX4_way 12 = .ok (.aload_n 0, 1) := by decide +kernel
theorem dX4_way_13 : decode cX4_way 13 = .ok (.iload_n 1, 1) := by decide +kernel
theorem dX4_way_14 : decode cX4_way 14 = .ok (.invokevirtual 102, 3) := by decide +kernel
theorem dX4_way_17 : decode cX4_way 17 = .ok (.istore_n 3, 1) := by decide +kernel
theorem dX4_way_18 : decode cX4_way 18 = .ok (.iload_n 3, 1) := by decide +kernel
theorem dX4_way_19 : decode cX4_way 19 = .ok (.iconst (-1), 1) := by decide +kernel
theorem dX4_way_20 : decode cX4_way 20 = .ok (.if_icmp .ne 7, 3) := by decide +kernel
theorem dX4_way_23 : decode cX4_way 23 = .ok (.iconst (-1), 1) := by decide +kernel
theorem dX4_way_24 : decode cX4_way 24 = .ok (.goto 11, 3) := by decide +kernel
theorem dX4_way_27 : decode cX4_way 27 = .ok (.aload_n 0, 1) := by decide +kernel
theorem dX4_way_28 : decode cX4_way 28 = .ok (.getfield 36, 3) := by decide +kernel
theorem dX4_way_31 : decode cX4_way 31 = .ok (.iload_n 3, 1) := by decide +kernel
theorem dX4_way_32 : decode cX4_way 32 = .ok (.invokevirtual 105, 3) := by decide +kernel
theorem dX4_way_35 : decode cX4_way 35 = .ok (.ireturn, 1) := by decide +kernel
set_option maxRecDepth 20000 in
theorem ggX4_deepest_X4_countOn : GoodIn wsX4_deepest wsX4_countOn := goodIn_r _ [5, 6, 7, 8, 9, 4, 10, 11, 12, 13, 14, 15, 16, 17, 18, 19, 20, 21, 22, 23, 24, 25, 26, 27, 28, 29, 30, 31, 32, 33, 34, 35, 36, 37, 38, 39, 40, 41, 42, 43, 44, 45, 46, 47, 48, 97, 98, 99, 100, 101, 102, 103, 104, 105, 106, 107, 108] (by decide +kernel) (by decide +kernel)
set_option maxRecDepth 20000 in
theorem gX4_deepest_X4_countOn : GoodIn wsX4_deepest (wsV RX4 98 RX4 yX4_countOn wsX4_countOn) := goodIn_app (goodIn_of _ (by decide +kernel)) ggX4_deepest_X4_countOn
set_option maxRecDepth 20000 in
theorem ggX4_deepest_X4_greatestDraught : GoodIn wsX4_deepest wsX4_greatestDraught := goodIn_r _ [52, 53, 54, 55, 4, 56, 57, 58, 59, 60, 61, 11, 62, 63, 64, 65, 66, 67, 68, 69, 70, 71, 72, 73, 74, 75, 76, 77, 78, 79, 80, 81, 82, 83, 84, 85, 86, 87, 88, 89, 90, 91, 92, 93, 94, 95, 96, 97, 98, 99, 100, 101, 102, 109, 110, 111, 112] (by decide +kernel) (by decide +kernel)
set_option maxRecDepth 20000 in
theorem gX4_deepest_X4_greatestDraught : GoodIn wsX4_deepest (wsV RX4 108 RX4 yX4_greatestDraught wsX4_greatestDraught) := goodIn_app (goodIn_of _ (by decide +kernel)) ggX4_deepest_X4_greatestDraught
theorem dX4_deepest_0 : decode cX4_deepest 0 = .ok (.aload_n 0, 1) := by decide +kernel
theorem dX4_deepest_1 : decode cX4_deepest 1 = .ok (.iload_n 1, 1) := by decide +kernel
theorem dX4_deepest_2 : decode cX4_deepest 2 = .ok (.invokevirtual 98, 3) := by decide +kernel
theorem dX4_deepest_5 : decode cX4_deepest 5 = .ok (.aload_n 0, 1) := by decide +kernel
theorem dX4_deepest_6 : decode cX4_deepest 6 = .ok (.invokevirtual 108, 3) := by decide +kernel
theorem dX4_deepest_9 : decode cX4_deepest 9 = .ok (.ireturn, 1) := by decide +kernel
set_option maxRecDepth 20000 in
theorem ggX4_harbours_X4_needWithin : GoodIn wsX4_harbours wsX4_needWithin := goodIn_ca (goodIn_r _ [5, 6, 7] (by decide +kernel) (by decide +kernel)) (goodIn_sub (fun _ h => List.mem_cons_of_mem _ (List.mem_append_right _ h)) (by decide +kernel))
set_option maxRecDepth 20000 in
theorem gX4_harbours_X4_needWithin : GoodIn wsX4_harbours (va_wsS RX4 48 yX4_needWithin wsX4_needWithin) := goodIn_app (goodIn_of _ (by decide +kernel)) ggX4_harbours_X4_needWithin
set_option maxRecDepth 20000 in
theorem ggX4_harbours_X4_countOn : GoodIn wsX4_harbours wsX4_countOn := goodIn_r _ [11, 12, 13, 14, 15, 4, 16, 17, 18, 19, 20, 21, 22, 23, 24, 25, 26, 27, 28, 29, 30, 31, 32, 33, 34, 35, 36, 37, 38, 39, 40, 41, 42, 43, 44, 45, 46, 47, 48, 49, 50, 51, 52, 53, 54, 94, 95, 96, 97, 98, 99, 100, 101, 102, 103, 104, 105] (by decide +kernel) (by decide +kernel)
set_option maxRecDepth 20000 in
theorem gX4_harbours_X4_countOn : GoodIn wsX4_harbours (wsV RX4 98 RX4 yX4_countOn wsX4_countOn) := goodIn_app (goodIn_of _ (by decide +kernel)) ggX4_harbours_X4_countOn
set_option maxRecDepth 20000 in
theorem ggX4_harbours_X4_openWater : GoodIn wsX4_harbours wsX4_openWater := goodIn_r _ [58, 1, 17, 59, 60, 61, 62, 63, 64, 65, 66, 67, 68, 69, 70, 71, 72, 73, 74, 94, 95, 96, 97, 98, 99, 106, 107, 108, 109] (by decide +kernel) (by decide +kernel)
set_option maxRecDepth 20000 in
theorem gX4_harbours_X4_openWater : GoodIn wsX4_harbours (wsV RX4 111 RX4 yX4_openWater wsX4_openWater) := goodIn_app (goodIn_of _ (by decide +kernel)) ggX4_harbours_X4_openWater
set_option maxRecDepth 20000 in
theorem ggX4_harbours_X2_goFromRow : GoodIn wsX4_harbours wsX2_goFromRow := goodIn_r _ [78, 65, 79, 80, 81, 62, 82, 74, 64, 83, 84, 85, 86, 87, 88, 4, 89, 106, 107, 108, 109] (by decide +kernel) (by decide +kernel)
set_option maxRecDepth 20000 in
theorem gX4_harbours_X2_goFromRow : GoodIn wsX4_harbours (wsV RX4 115 RX2 yX2_goFromRow wsX2_goFromRow) := goodIn_app (goodIn_of _ (by decide +kernel)) ggX4_harbours_X2_goFromRow
set_option maxRecDepth 20000 in
theorem ggX4_harbours_X2_stepsTo : GoodIn wsX4_harbours wsX2_stepsTo := goodIn_r _ [93, 64, 106, 107, 108, 109] (by decide +kernel) (by decide +kernel)
set_option maxRecDepth 20000 in
theorem gX4_harbours_X2_stepsTo : GoodIn wsX4_harbours (wsV RX4 105 RX2 yX2_stepsTo wsX2_stepsTo) := goodIn_app (goodIn_of _ (by decide +kernel)) ggX4_harbours_X2_stepsTo
theorem dX4_harbours_0 : decode cX4_harbours 0 = .ok (.iload_n 1, 1) := by decide +kernel
theorem dX4_harbours_1 : decode cX4_harbours 1 = .ok (.iconst 0, 1) := by decide +kernel
theorem dX4_harbours_2 : decode cX4_harbours 2 = .ok (.bipush 39, 2) := by decide +kernel
theorem dX4_harbours_4 : decode cX4_harbours 4 = .ok (.invokestatic 48, 3) := by decide +kernel
theorem dX4_harbours_7 : decode cX4_harbours 7 = .ok (.aload_n 0, 1) := by decide +kernel
theorem dX4_harbours_8 : decode cX4_harbours 8 = .ok (.iconst 0, 1) := by decide +kernel
theorem dX4_harbours_9 : decode cX4_harbours 9 = .ok (.invokevirtual 98, 3) := by decide +kernel
theorem dX4_harbours_12 : decode cX4_harbours 12 = .ok (.aload_n 0, 1) := by decide +kernel
theorem dX4_harbours_13 : decode cX4_harbours 13 = .ok (.iload_n 1, 1) := by decide +kernel
theorem dX4_harbours_14 : decode cX4_harbours 14 = .ok (.invokevirtual 111, 3) := by decide +kernel
theorem dX4_harbours_17 : decode cX4_harbours 17 = .ok (.aload_n 0, 1) := by decide +kernel
theorem dX4_harbours_18 : decode cX4_harbours 18 = .ok (.getfield 36, 3) := by decide +kernel
theorem dX4_harbours_21 : decode cX4_harbours 21 = .ok (.iconst 0, 1) := by decide +kernel
theorem dX4_harbours_22 : decode cX4_harbours 22 = .ok (.invokevirtual 115, 3) := by decide +kernel
theorem dX4_harbours_25 : decode cX4_harbours 25 = .ok (.iconst 0, 1) := by decide +kernel
theorem dX4_harbours_26 : decode cX4_harbours 26 = .ok (.istore_n 2, 1) := by decide +kernel
theorem dX4_harbours_27 : decode cX4_harbours 27 = .ok (.bipush 72, 2) := by decide +kernel
theorem dX4_harbours_29 : decode cX4_harbours 29 = .ok (.istore_n 3, 1) := by decide +kernel
theorem dX4_harbours_30 : decode cX4_harbours 30 = .ok (.iload_n 3, 1) := by decide +kernel
theorem dX4_harbours_31 : decode cX4_harbours 31 = .ok (.bipush 81, 2) := by decide +kernel
theorem dX4_harbours_33 : decode cX4_harbours 33 = .ok (.if_icmp .ge 23, 3) := by decide +kernel
theorem dX4_harbours_36 : decode cX4_harbours 36 = .ok (.aload_n 0, 1) := by decide +kernel
theorem dX4_harbours_37 : decode cX4_harbours 37 = .ok (.getfield 36, 3) := by decide +kernel
theorem dX4_harbours_40 : decode cX4_harbours 40 = .ok (.iload_n 3, 1) := by decide +kernel
theorem dX4_harbours_41 : decode cX4_harbours 41 = .ok (.invokevirtual 105, 3) := by decide +kernel
theorem dX4_harbours_44 : decode cX4_harbours 44 = .ok (.ifCond .le 6, 3) := by decide +kernel
theorem dX4_harbours_47 : decode cX4_harbours 47 = .ok (.iinc 2 1, 3) := by decide +kernel
theorem dX4_harbours_50 : decode cX4_harbours 50 = .ok (.iinc 3 1, 3) := by decide +kernel
theorem dX4_harbours_53 : decode cX4_harbours 53 = .ok (.goto (-23), 3) := by decide +kernel
theorem dX4_harbours_56 : decode cX4_harbours 56 = .ok (.iload_n 2, 1) := by decide +kernel
theorem dX4_harbours_57 : decode cX4_harbours 57 = .ok (.ireturn, 1) := by decide +kernel
set_option maxRecDepth 20000 in
theorem ggX4_pilot_X4_needWithin : GoodIn wsX4_pilot wsX4_needWithin := goodIn_ca (goodIn_r _ [4, 5, 6] (by decide +kernel) (by decide +kernel)) (goodIn_sub (fun _ h => List.mem_cons_of_mem _ (List.mem_append_right _ h)) (by decide +kernel))
set_option maxRecDepth 20000 in
theorem gX4_pilot_X4_needWithin : GoodIn wsX4_pilot (va_wsS RX4 48 yX4_needWithin wsX4_needWithin) := goodIn_app (goodIn_of _ (by decide +kernel)) ggX4_pilot_X4_needWithin
set_option maxRecDepth 20000 in
theorem ggX4_pilot_X4_countOn : GoodIn wsX4_pilot wsX4_countOn := goodIn_r _ [10, 11, 12, 13, 14, 3, 15, 16, 17, 18, 19, 20, 21, 22, 23, 24, 25, 26, 27, 28, 29, 30, 31, 32, 33, 34, 35, 36, 37, 38, 39, 40, 41, 42, 43, 44, 45, 46, 47, 48, 49, 50, 51, 52, 53, 106, 107, 108, 109, 110, 111, 112, 113, 114, 115, 116, 117] (by decide +kernel) (by decide +kernel)
set_option maxRecDepth 20000 in
theorem gX4_pilot_X4_countOn : GoodIn wsX4_pilot (wsV RX4 98 RX4 yX4_countOn wsX4_countOn) := goodIn_app (goodIn_of _ (by decide +kernel)) ggX4_pilot_X4_countOn
set_option maxRecDepth 20000 in
theorem ggX4_pilot_X4_startOfShortestWay : GoodIn wsX4_pilot wsX4_startOfShortestWay := goodIn_r _ [57, 58, 59, 60, 61, 3, 62, 16, 63, 64, 65, 66, 67, 68, 69, 70, 71, 72, 73, 74, 75, 76, 77, 78, 79, 80, 81, 82, 83, 84, 85, 86, 87, 88, 89, 90, 91, 92, 93, 94, 95, 96, 97, 106, 107, 108, 109, 110, 111, 118, 119, 120, 121] (by decide +kernel) (by decide +kernel)
set_option maxRecDepth 20000 in
theorem gX4_pilot_X4_startOfShortestWay : GoodIn wsX4_pilot (wsV RX4 102 RX4 yX4_startOfShortestWay wsX4_startOfShortestWay) := goodIn_app (goodIn_of _ (by decide +kernel)) ggX4_pilot_X4_startOfShortestWay
set_option maxRecDepth 20000 in
theorem ggX4_pilot_X4_leadFrom : GoodIn wsX4_pilot wsX4_leadFrom := goodIn_r _ [101, 58, 11, 94, 95, 96, 66, 97, 68, 47, 48, 49, 35, 50, 51, 52, 53, 23, 24, 25, 102, 103, 104, 105, 92, 3, 93, 106, 107, 108, 109, 110, 111, 118, 119, 120, 121, 114, 115, 116, 117] (by decide +kernel) (by decide +kernel)
set_option maxRecDepth 20000 in
theorem gX4_pilot_X4_leadFrom : GoodIn wsX4_pilot (wsV RX4 118 RX4 yX4_leadFrom wsX4_leadFrom) := goodIn_app (goodIn_of _ (by decide +kernel)) ggX4_pilot_X4_leadFrom
theorem dX4_pilot_0 : decode cX4_pilot 0 = .ok (.iload_n 1, 1) := by decide +kernel
theorem dX4_pilot_1 : decode cX4_pilot 1 = .ok (.iconst 0, 1) := by decide +kernel
theorem dX4_pilot_2 : decode cX4_pilot 2 = .ok (.bipush 39, 2) := by decide +kernel
theorem dX4_pilot_4 : decode cX4_pilot 4 = .ok (.invokestatic 48, 3) := by decide +kernel
theorem dX4_pilot_7 : decode cX4_pilot 7 = .ok (.aload_n 0, 1) := by decide +kernel
theorem dX4_pilot_8 : decode cX4_pilot 8 = .ok (.iconst 1, 1) := by decide +kernel
theorem dX4_pilot_9 : decode cX4_pilot 9 = .ok (.invokevirtual 98, 3) := by decide +kernel
theorem dX4_pilot_12 : decode cX4_pilot 12 = .ok (.aload_n 0, 1) := by decide +kernel
theorem dX4_pilot_13 : decode cX4_pilot 13 = .ok (.iload_n 1, 1) := by decide +kernel
theorem dX4_pilot_14 : decode cX4_pilot 14 = .ok (.invokevirtual 102, 3) := by decide +kernel
theorem dX4_pilot_17 : decode cX4_pilot 17 = .ok (.istore_n 2, 1) := by decide +kernel
theorem dX4_pilot_18 : decode cX4_pilot 18 = .ok (.iload_n 2, 1) := by decide +kernel
theorem dX4_pilot_19 : decode cX4_pilot 19 = .ok (.iconst (-1), 1) := by decide +kernel
theorem dX4_pilot_20 : decode cX4_pilot 20 = .ok (.if_icmp .ne 7, 3) := by decide +kernel
theorem dX4_pilot_23 : decode cX4_pilot 23 = .ok (.iconst (-1), 1) := by decide +kernel
theorem dX4_pilot_24 : decode cX4_pilot 24 = .ok (.goto 9, 3) := by decide +kernel
theorem dX4_pilot_27 : decode cX4_pilot 27 = .ok (.aload_n 0, 1) := by decide +kernel
theorem dX4_pilot_28 : decode cX4_pilot 28 = .ok (.iload_n 2, 1) := by decide +kernel
theorem dX4_pilot_29 : decode cX4_pilot 29 = .ok (.iload_n 1, 1) := by decide +kernel
theorem dX4_pilot_30 : decode cX4_pilot 30 = .ok (.invokevirtual 118, 3) := by decide +kernel
theorem dX4_pilot_33 : decode cX4_pilot 33 = .ok (.ireturn, 1) := by decide +kernel
set_option maxRecDepth 20000 in
theorem ggX4_pass_X4_needWithin : GoodIn wsX4_pass wsX4_needWithin := goodIn_ca (goodIn_r _ [6, 7, 8] (by decide +kernel) (by decide +kernel)) (goodIn_sub (fun _ h => List.mem_cons_of_mem _ (List.mem_append_right _ h)) (by decide +kernel))
set_option maxRecDepth 20000 in
theorem gX4_pass_X4_needWithin : GoodIn wsX4_pass (va_wsS RX4 48 yX4_needWithin wsX4_needWithin) := goodIn_app (goodIn_of _ (by decide +kernel)) ggX4_pass_X4_needWithin
set_option maxRecDepth 20000 in
theorem ggX4_pass_X0_heads : GoodIn wsX4_pass wsX0_heads := goodIn_r _ [13, 14, 15, 16, 12, 17, 18, 92, 93, 94, 95] (by decide +kernel) (by decide +kernel)
set_option maxRecDepth 20000 in
theorem gX4_pass_X0_heads : GoodIn wsX4_pass (wsV RX4 121 RX0 yX0_heads wsX0_heads) := goodIn_app (goodIn_of _ (by decide +kernel)) ggX4_pass_X0_heads
set_option maxRecDepth 20000 in
theorem ggX4_pass_X0_letMonthGo : GoodIn wsX4_pass wsX0_letMonthGo := goodIn_r _ [22, 23, 24, 25, 26, 27, 28, 29, 30, 31, 32, 33, 34, 35, 36, 12, 37, 38, 39, 40, 41, 18, 42, 43, 44, 45, 46, 47, 48, 49, 50, 51, 52, 53, 54, 55, 56, 57, 58, 14, 15, 16, 17, 59, 60, 61, 62, 63, 64, 65, 66, 67, 5, 68, 69, 70, 71, 72, 73, 74, 75, 76, 77, 78, 79, 80, 81, 82, 83, 84, 85, 92, 93, 94, 95, 96, 97] (by decide +kernel) (by decide +kernel)
set_option maxRecDepth 20000 in
theorem gX4_pass_X0_letMonthGo : GoodIn wsX4_pass (wsV RX4 124 RX0 yX0_letMonthGo wsX0_letMonthGo) := goodIn_app (goodIn_of _ (by decide +kernel)) ggX4_pass_X0_letMonthGo
theorem dX4_pass_0 : decode cX4_pass 0 = .ok (.iload_n 1, 1) := by decide +kernel
theorem dX4_pass_1 : decode cX4_pass 1 = .ok (.iconst 1, 1) := by decide +kernel
theorem dX4_pass_2 : decode cX4_pass 2 = .ok (.bipush 120, 2) := by decide +kernel
theorem dX4_pass_4 : decode cX4_pass 4 = .ok (.invokestatic 48, 3) := by decide +kernel
theorem dX4_pass_7 : decode cX4_pass 7 = .ok (.aload_n 0, 1) := by decide +kernel
theorem dX4_pass_8 : decode cX4_pass 8 = .ok (.getfield 19, 3) := by decide +kernel
theorem dX4_pass_11 : decode cX4_pass 11 = .ok (.invokevirtual 121, 3) := by decide +kernel
theorem dX4_pass_14 : decode cX4_pass 14 = .ok (.istore_n 2, 1) := by decide +kernel
theorem dX4_pass_15 : decode cX4_pass 15 = .ok (.iconst 0, 1) := by decide +kernel
theorem dX4_pass_16 : decode cX4_pass 16 = .ok (.istore_n 3, 1) := by decide +kernel
theorem dX4_pass_17 : decode cX4_pass 17 = .ok (.iload_n 3, 1) := by decide +kernel
theorem dX4_pass_18 : decode cX4_pass 18 = .ok (.iload_n 1, 1) := by decide +kernel
theorem dX4_pass_19 : decode cX4_pass 19 = .ok (.if_icmp .ge 20, 3) := by decide +kernel
theorem dX4_pass_22 : decode cX4_pass 22 = .ok (.aload_n 0, 1) := by decide +kernel
theorem dX4_pass_23 : decode cX4_pass 23 = .ok (.getfield 19, 3) := by decide +kernel
theorem dX4_pass_26 : decode cX4_pass 26 = .ok (.aload_n 0, 1) := by decide +kernel
theorem dX4_pass_27 : decode cX4_pass 27 = .ok (.getfield 12, 3) := by decide +kernel
theorem dX4_pass_30 : decode cX4_pass 30 = .ok (.invokevirtual 124, 3) := by decide +kernel
theorem dX4_pass_33 : decode cX4_pass 33 = .ok (.iinc 3 1, 3) := by decide +kernel
theorem dX4_pass_36 : decode cX4_pass 36 = .ok (.goto (-19), 3) := by decide +kernel
theorem dX4_pass_39 : decode cX4_pass 39 = .ok (.aload_n 0, 1) := by decide +kernel
theorem dX4_pass_40 : decode cX4_pass 40 = .ok (.getfield 19, 3) := by decide +kernel
theorem dX4_pass_43 : decode cX4_pass 43 = .ok (.invokevirtual 121, 3) := by decide +kernel
theorem dX4_pass_46 : decode cX4_pass 46 = .ok (.iload_n 2, 1) := by decide +kernel
theorem dX4_pass_47 : decode cX4_pass 47 = .ok (.isub, 1) := by decide +kernel
theorem dX4_pass_48 : decode cX4_pass 48 = .ok (.ireturn, 1) := by decide +kernel
set_option maxRecDepth 20000 in
theorem ggX4_count_X4_needIndex : GoodIn wsX4_count wsX4_needIndex := goodIn_ca (goodIn_r _ [4, 5, 6] (by decide +kernel) (by decide +kernel)) (goodIn_sub (fun _ h => List.mem_cons_of_mem _ (List.mem_append_right _ h)) (by decide +kernel))
set_option maxRecDepth 20000 in
theorem gX4_count_X4_needIndex : GoodIn wsX4_count (va_wsS RX4 63 yX4_needIndex wsX4_needIndex) := goodIn_app (goodIn_of _ (by decide +kernel)) ggX4_count_X4_needIndex
set_option maxRecDepth 20000 in
theorem ggX4_count_X4_countAnswer : GoodIn wsX4_count wsX4_countAnswer := goodIn_r _ [10, 11, 12, 13, 14, 15, 16, 17, 18, 19, 20, 21, 22, 23, 24, 25, 26, 27, 28, 29, 3, 30, 31, 32, 33, 34, 35, 36, 37, 38, 39, 40, 41, 42, 43, 44, 45, 46, 47, 48, 49, 50, 51, 52, 53, 54, 55, 56, 57, 58, 59, 60, 61, 62, 63, 64, 65, 66, 67, 68, 69, 70, 71, 72, 73, 74, 75, 76, 77, 78, 79, 80, 81, 82, 83, 84, 85, 86, 87, 88, 89, 90, 91, 92, 93, 94, 95, 96, 97, 98, 99, 100, 101, 102, 103, 104, 105, 106, 107, 108, 109, 110, 111, 112, 113, 114, 115, 116, 117, 118, 119, 120] (by decide +kernel) (by decide +kernel)
set_option maxRecDepth 20000 in
theorem gX4_count_X4_countAnswer : GoodIn wsX4_count (wsV RX4 128 RX4 yX4_countAnswer wsX4_countAnswer) := goodIn_app (goodIn_of _ (by decide +kernel)) ggX4_count_X4_countAnswer
theorem dX4_count_0 : decode cX4_count 0 = .ok (.iload_n 1, 1) := by decide +kernel
theorem dX4_count_1 : decode cX4_count 1 = .ok (.bipush 8, 2) := by decide +kernel
theorem dX4_count_3 : decode cX4_count 3 = .ok (.invokestatic 63, 3) := by decide +kernel
theorem dX4_count_6 : decode cX4_count 6 = .ok (.aload_n 0, 1) := by decide +kernel
theorem dX4_count_7 : decode cX4_count 7 = .ok (.iload_n 1, 1) := by decide +kernel
theorem dX4_count_8 : decode cX4_count 8 = .ok (.invokevirtual 128, 3) := by decide +kernel
theorem dX4_count_11 : decode cX4_count 11 = .ok (.ireturn, 1) := by decide +kernel
set_option maxRecDepth 20000 in
theorem ggX4_closes_X4_needWithin : GoodIn wsX4_closes wsX4_needWithin := goodIn_ca (goodIn_r _ [7, 8, 9] (by decide +kernel) (by decide +kernel)) (goodIn_sub (fun _ h => List.mem_cons_of_mem _ (List.mem_append_right _ h)) (by decide +kernel))
set_option maxRecDepth 20000 in
theorem gX4_closes_X4_needWithin : GoodIn wsX4_closes (va_wsS RX4 48 yX4_needWithin wsX4_needWithin) := goodIn_app (goodIn_of _ (by decide +kernel)) ggX4_closes_X4_needWithin
set_option maxRecDepth 20000 in
theorem ggX4_closes_X0_becomeLike : GoodIn wsX4_closes wsX0_becomeLike := goodIn_r _ [14, 15, 16, 17, 18, 19, 20, 21, 145, 146, 147, 148] (by decide +kernel) (by decide +kernel)
set_option maxRecDepth 20000 in
theorem gX4_closes_X0_becomeLike : GoodIn wsX4_closes (wsV RX4 131 RX0 yX0_becomeLike wsX0_becomeLike) := goodIn_app (goodIn_of _ (by decide +kernel)) ggX4_closes_X0_becomeLike
set_option maxRecDepth 20000 in
theorem ggX4_closes_X4_countOnDepths : GoodIn wsX4_closes wsX4_countOnDepths := goodIn_r _ [25, 26, 27, 28, 29, 13, 30, 15, 20, 31, 32, 33, 34, 139, 140, 141, 142, 143, 144, 145, 146, 147, 148] (by decide +kernel) (by decide +kernel)
set_option maxRecDepth 20000 in
theorem gX4_closes_X4_countOnDepths : GoodIn wsX4_closes (wsV RX4 135 RX4 yX4_countOnDepths wsX4_countOnDepths) := goodIn_app (goodIn_of _ (by decide +kernel)) ggX4_closes_X4_countOnDepths
set_option maxRecDepth 20000 in
theorem ggX4_closes_X4_startOfShortestWay : GoodIn wsX4_closes wsX4_startOfShortestWay := goodIn_r _ [38, 39, 40, 41, 42, 6, 43, 26, 44, 45, 46, 47, 48, 49, 50, 51, 52, 53, 54, 55, 56, 57, 58, 59, 60, 61, 62, 63, 64, 65, 66, 67, 68, 69, 70, 71, 72, 73, 74, 75, 76, 77, 78, 139, 140, 141, 142, 143, 144, 149, 150, 151, 152] (by decide +kernel) (by decide +kernel)
set_option maxRecDepth 20000 in
theorem gX4_closes_X4_startOfShortestWay : GoodIn wsX4_closes (wsV RX4 102 RX4 yX4_startOfShortestWay wsX4_startOfShortestWay) := goodIn_app (goodIn_of _ (by decide +kernel)) ggX4_closes_X4_startOfShortestWay
set_option maxRecDepth 20000 in
theorem ggX4_closes_X0_letMonthGo : GoodIn wsX4_closes wsX0_letMonthGo := goodIn_r _ [82, 21, 83, 84, 85, 86, 87, 88, 89, 90, 91, 92, 93, 94, 95, 13, 96, 97, 98, 99, 100, 20, 31, 32, 33, 34, 101, 102, 103, 104, 15, 105, 106, 107, 108, 109, 110, 111, 112, 113, 114, 115, 116, 117, 28, 29, 30, 118, 119, 120, 121, 73, 6, 74, 122, 123, 124, 125, 126, 127, 128, 129, 130, 131, 132, 133, 134, 135, 136, 137, 138, 145, 146, 147, 148, 153, 154] (by decide +kernel) (by decide +kernel)
set_option maxRecDepth 20000 in
theorem gX4_closes_X0_letMonthGo : GoodIn wsX4_closes (wsV RX4 124 RX0 yX0_letMonthGo wsX0_letMonthGo) := goodIn_app (goodIn_of _ (by decide +kernel)) ggX4_closes_X0_letMonthGo
theorem dX4_closes_0 : decode cX4_closes 0 = .ok (.iload_n 1, 1) := by decide +kernel
theorem dX4_closes_1 : decode cX4_closes 1 = .ok (.iconst 0, 1) := by decide +kernel
theorem dX4_closes_2 : decode cX4_closes 2 = .ok (.bipush 39, 2) := by decide +kernel
theorem dX4_closes_4 : decode cX4_closes 4 = .ok (.invokestatic 48, 3) := by decide +kernel
theorem dX4_closes_7 : decode cX4_closes 7 = .ok (.aload_n 0, 1) := by decide +kernel
theorem dX4_closes_8 : decode cX4_closes 8 = .ok (.getfield 23, 3) := by decide +kernel
theorem dX4_closes_11 : decode cX4_closes 11 = .ok (.aload_n 0, 1) := by decide +kernel
theorem dX4_closes_12 : decode cX4_closes 12 = .ok (.getfield 19, 3) := by decide +kernel
theorem dX4_closes_15 : decode cX4_closes 15 = .ok (.invokevirtual 131, 3) := by decide +kernel
theorem dX4_closes_18 : decode cX4_closes 18 = .ok (.iconst 0, 1) := by decide +kernel
theorem dX4_closes_19 : decode cX4_closes 19 = .ok (.istore_n 2, 1) := by decide +kernel
theorem dX4_closes_20 : decode cX4_closes 20 = .ok (.iload_n 2, 1) := by decide +kernel
theorem dX4_closes_21 : decode cX4_closes 21 = .ok (.bipush 100, 2) := by decide +kernel
theorem dX4_closes_23 : decode cX4_closes 23 = .ok (.if_icmp .gt 39, 3) := by decide +kernel
theorem dX4_closes_26 : decode cX4_closes 26 = .ok (.aload_n 0, 1) := by decide +kernel
theorem dX4_closes_27 : decode cX4_closes 27 = .ok (.aload_n 0, 1) := by decide +kernel
theorem dX4_closes_28 : decode cX4_closes 28 = .ok (.getfield 23, 3) := by decide +kernel
theorem dX4_closes_31 : decode cX4_closes 31 = .ok (.invokevirtual 135, 3) := by decide +kernel
theorem dX4_closes_34 : decode cX4_closes 34 = .ok (.aload_n 0, 1) := by decide +kernel
theorem dX4_closes_35 : decode cX4_closes 35 = .ok (.iload_n 1, 1) := by decide +kernel
theorem dX4_closes_36 : decode cX4_closes 36 = .ok (.invokevirtual 102, 3) := by decide +kernel
theorem dX4_closes_39 : decode cX4_closes 39 = .ok (.iconst (-1), 1) := by decide +kernel
theorem dX4_closes_40 : decode cX4_closes 40 = .ok (.if_icmp .ne 5, 3) := by decide +kernel
theorem dX4_closes_43 : decode cX4_closes 43 = .ok (.iload_n 2, 1) := by decide +kernel
theorem dX4_closes_44 : decode cX4_closes 44 = .ok (.ireturn, 1) := by decide +kernel
theorem dX4_closes_45 : decode cX4_closes 45 = .ok (.aload_n 0, 1) := by decide +kernel
theorem dX4_closes_46 : decode cX4_closes 46 = .ok (.getfield 23, 3) := by decide +kernel
theorem dX4_closes_49 : decode cX4_closes 49 = .ok (.aload_n 0, 1) := by decide +kernel
theorem dX4_closes_50 : decode cX4_closes 50 = .ok (.getfield 12, 3) := by decide +kernel
theorem dX4_closes_53 : decode cX4_closes 53 = .ok (.invokevirtual 124, 3) := by decide +kernel
theorem dX4_closes_56 : decode cX4_closes 56 = .ok (.iinc 2 1, 3) := by decide +kernel
theorem dX4_closes_59 : decode cX4_closes 59 = .ok (.goto (-39), 3) := by decide +kernel
theorem dX4_closes_62 : decode cX4_closes 62 = .ok (.iconst (-1), 1) := by decide +kernel
theorem dX4_closes_63 : decode cX4_closes 63 = .ok (.ireturn, 1) := by decide +kernel
set_option maxRecDepth 20000 in
theorem ggX4_foresee_X4_needWithin : GoodIn wsX4_foresee wsX4_needWithin := goodIn_ca (goodIn_r _ [7, 8, 9] (by decide +kernel) (by decide +kernel)) (goodIn_sub (fun _ h => List.mem_cons_of_mem _ (List.mem_append_left _ (List.mem_append_right _ h))) (by decide +kernel))
set_option maxRecDepth 20000 in
theorem gX4_foresee_X4_needWithin : GoodIn wsX4_foresee (va_wsS RX4 48 yX4_needWithin wsX4_needWithin) := goodIn_app (goodIn_of _ (by decide +kernel)) ggX4_foresee_X4_needWithin
set_option maxRecDepth 20000 in
theorem ggX4_foresee_X4_needIndex : GoodIn wsX4_foresee wsX4_needIndex := goodIn_ca (goodIn_r _ [12, 13, 14] (by decide +kernel) (by decide +kernel)) (goodIn_sub (fun _ h => List.mem_cons_of_mem _ (List.mem_append_right _ h)) (by decide +kernel))
set_option maxRecDepth 20000 in
theorem gX4_foresee_X4_needIndex : GoodIn wsX4_foresee (va_wsS RX4 63 yX4_needIndex wsX4_needIndex) := goodIn_app (goodIn_of _ (by decide +kernel)) ggX4_foresee_X4_needIndex
set_option maxRecDepth 20000 in
theorem ggX4_foresee_X0_becomeLike : GoodIn wsX4_foresee wsX0_becomeLike := goodIn_r _ [19, 20, 21, 22, 23, 24, 25, 26, 171, 172, 173, 174] (by decide +kernel) (by decide +kernel)
set_option maxRecDepth 20000 in
theorem gX4_foresee_X0_becomeLike : GoodIn wsX4_foresee (wsV RX4 131 RX0 yX0_becomeLike wsX0_becomeLike) := goodIn_app (goodIn_of _ (by decide +kernel)) ggX4_foresee_X0_becomeLike
set_option maxRecDepth 20000 in
theorem ggX4_foresee_X0_letMonthGo : GoodIn wsX4_foresee wsX0_letMonthGo := goodIn_r _ [30, 26, 31, 32, 33, 34, 35, 36, 37, 38, 39, 40, 41, 42, 43, 18, 44, 45, 46, 47, 48, 25, 49, 50, 51, 52, 53, 54, 55, 56, 20, 57, 58, 59, 60, 61, 62, 63, 64, 65, 66, 67, 68, 69, 70, 71, 72, 73, 74, 75, 76, 77, 6, 78, 79, 80, 81, 82, 83, 84, 85, 86, 87, 88, 89, 90, 91, 92, 93, 94, 95, 171, 172, 173, 174, 175, 176] (by decide +kernel) (by decide +kernel)
set_option maxRecDepth 20000 in
theorem gX4_foresee_X0_letMonthGo : GoodIn wsX4_foresee (wsV RX4 124 RX0 yX0_letMonthGo wsX0_letMonthGo) := goodIn_app (goodIn_of _ (by decide +kernel)) ggX4_foresee_X0_letMonthGo
set_option maxRecDepth 20000 in
theorem ggX4_foresee_X0_heads : GoodIn wsX4_foresee wsX0_heads := goodIn_r _ [99, 65, 66, 67, 18, 68, 25, 171, 172, 173, 174] (by decide +kernel) (by decide +kernel)
set_option maxRecDepth 20000 in
theorem gX4_foresee_X0_heads : GoodIn wsX4_foresee (wsV RX4 121 RX0 yX0_heads wsX0_heads) := goodIn_app (goodIn_of _ (by decide +kernel)) ggX4_foresee_X0_heads
set_option maxRecDepth 20000 in
theorem ggX4_foresee_X4_reefsOn : GoodIn wsX4_foresee wsX4_reefsOn := goodIn_r _ [103, 104, 105, 106, 107, 6, 108, 109, 110, 111, 112, 113, 114, 115, 116, 117, 118, 119, 120, 66, 67, 18, 68, 25, 121, 122, 123, 124, 125, 126, 127, 128, 129, 130, 131, 132, 133, 134, 135, 136, 137, 138, 77, 78, 165, 166, 167, 168, 169, 170, 177, 178, 179, 180, 171, 172, 173, 174] (by decide +kernel) (by decide +kernel)
set_option maxRecDepth 20000 in
theorem gX4_foresee_X4_reefsOn : GoodIn wsX4_foresee (wsV RX4 138 RX4 yX4_reefsOn wsX4_reefsOn) := goodIn_app (goodIn_of _ (by decide +kernel)) ggX4_foresee_X4_reefsOn
set_option maxRecDepth 20000 in
theorem ggX4_foresee_X4_countOnDepths : GoodIn wsX4_foresee wsX4_countOnDepths := goodIn_r _ [142, 143, 144, 70, 71, 18, 72, 20, 25, 49, 50, 51, 52, 165, 166, 167, 168, 169, 170, 171, 172, 173, 174] (by decide +kernel) (by decide +kernel)
set_option maxRecDepth 20000 in
theorem gX4_foresee_X4_countOnDepths : GoodIn wsX4_foresee (wsV RX4 135 RX4 yX4_countOnDepths wsX4_countOnDepths) := goodIn_app (goodIn_of _ (by decide +kernel)) ggX4_foresee_X4_countOnDepths
set_option maxRecDepth 20000 in
theorem ggX4_foresee_X4_greatestDraught : GoodIn wsX4_foresee wsX4_greatestDraught := goodIn_r _ [148, 149, 150, 151, 6, 152, 104, 153, 154, 155, 156, 143, 109, 110, 111, 112, 113, 114, 115, 116, 117, 118, 119, 121, 122, 123, 124, 125, 157, 158, 159, 160, 130, 131, 132, 133, 134, 135, 136, 137, 138, 77, 78, 161, 162, 163, 164, 165, 166, 167, 168, 169, 170, 177, 178, 179, 180] (by decide +kernel) (by decide +kernel)
set_option maxRecDepth 20000 in
theorem gX4_foresee_X4_greatestDraught : GoodIn wsX4_foresee (wsV RX4 108 RX4 yX4_greatestDraught wsX4_greatestDraught) := goodIn_app (goodIn_of _ (by decide +kernel)) ggX4_foresee_X4_greatestDraught
theorem dX4_foresee_0 : decode cX4_foresee 0 = .ok (.iload_n 1, 1) := by decide +kernel
theorem dX4_foresee_1 : decode cX4_foresee 1 = .ok (.iconst 1, 1) := by decide +kernel
theorem dX4_foresee_2 : decode cX4_foresee 2 = .ok (.bipush 100, 2) := by decide +kernel
theorem dX4_foresee_4 : decode cX4_foresee 4 = .ok (.invokestatic 48, 3) := by decide +kernel
theorem dX4_foresee_7 : decode cX4_foresee 7 = .ok (.iload_n 2, 1) := by decide +kernel
theorem dX4_foresee_8 : decode cX4_foresee 8 = .ok (.iconst 3, 1) := by decide +kernel
theorem dX4_foresee_9 : decode cX4_foresee 9 = .ok (.invokestatic 63, 3) := by decide +kernel
theorem dX4_foresee_12 : decode cX4_foresee 12 = .ok (.aload_n 0, 1) := by decide +kernel
theorem dX4_foresee_13 : decode cX4_foresee 13 = .ok (.getfield 23, 3) := by decide +kernel
theorem dX4_foresee_16 : decode cX4_foresee 16 = .ok (.aload_n 0, 1) := by decide +kernel
theorem dX4_foresee_17 : decode cX4_foresee 17 = .ok (.getfield 19, 3) := by decide +kernel
theorem dX4_foresee_20 : decode cX4_foresee 20 = .ok (.invokevirtual 131, 3) := by decide +kernel
theorem dX4_foresee_23 : decode cX4_foresee 23 = .ok (.iconst 0, 1) := by decide +kernel
theorem dX4_foresee_24 : decode cX4_foresee 24 = .ok (.istore_n 3, 1) := by decide +kernel
theorem dX4_foresee_25 : decode cX4_foresee 25 = .ok (.iload_n 3, 1) := by decide +kernel
theorem dX4_foresee_26 : decode cX4_foresee 26 = .ok (.iload_n 1, 1) := by decide +kernel
theorem dX4_foresee_27 : decode cX4_foresee 27 = .ok (.if_icmp .ge 20, 3) := by decide +kernel
theorem dX4_foresee_30 : decode cX4_foresee 30 = .ok (.aload_n 0, 1) := by decide +kernel
theorem dX4_foresee_31 : decode cX4_foresee 31 = .ok (.getfield 23, 3) := by decide +kernel
theorem dX4_foresee_34 : decode cX4_foresee 34 = .ok (.aload_n 0, 1) := by decide +kernel
theorem dX4_foresee_35 : decode cX4_foresee 35 = .ok (.getfield 12, 3) := by decide +kernel
theorem dX4_foresee_38 : decode cX4_foresee 38 = .ok (.invokevirtual 124, 3) := by decide +kernel
theorem dX4_foresee_41 : decode cX4_foresee 41 = .ok (.iinc 3 1, 3) := by decide +kernel
theorem dX4_foresee_44 : decode cX4_foresee 44 = .ok (.goto (-19), 3) := by decide +kernel
theorem dX4_foresee_47 : decode cX4_foresee 47 = .ok (.iload_n 2, 1) := by decide +kernel
theorem dX4_foresee_48 : decode cX4_foresee 48 = .ok (.lookupswitch 45 #[(0, 28), (1, 36)], 28) := by decide +kernel
theorem dX4_foresee_76 : decode cX4_foresee 76 = .ok (.aload_n 0, 1) := by decide +kernel
theorem dX4_foresee_77 : decode cX4_foresee 77 = .ok (.getfield 23, 3) := by decide +kernel
theorem dX4_foresee_80 : decode cX4_foresee 80 = .ok (.invokevirtual 121, 3) := by decide +kernel
theorem dX4_foresee_83 : decode cX4_foresee 83 = .ok (.ireturn, 1) := by decide +kernel
theorem dX4_foresee_84 : decode cX4_foresee 84 = .ok (.aload_n 0, 1) := by decide +kernel
theorem dX4_foresee_85 : decode cX4_foresee 85 = .ok (.aload_n 0, 1) := by decide +kernel
theorem dX4_foresee_86 : decode cX4_foresee 86 = .ok (.getfield 23, 3) := by decide +kernel
theorem dX4_foresee_89 : decode cX4_foresee 89 = .ok (.invokevirtual 138, 3) := by decide +kernel
theorem dX4_foresee_92 : decode cX4_foresee 92 = .ok (.ireturn, 1) := by decide +kernel
theorem dX4_foresee_93 : decode cX4_foresee 93 = .ok (.aload_n 0, 1) := by decide +kernel
theorem dX4_foresee_94 : decode cX4_foresee 94 = .ok (.aload_n 0, 1) := by decide +kernel
theorem dX4_foresee_95 : decode cX4_foresee 95 = .ok (.getfield 23, 3) := by decide +kernel
theorem dX4_foresee_98 : decode cX4_foresee 98 = .ok (.invokevirtual 135, 3) := by decide +kernel
theorem dX4_foresee_101 : decode cX4_foresee 101 = .ok (.aload_n 0, 1) := by decide +kernel
theorem dX4_foresee_102 : decode cX4_foresee 102 = .ok (.invokevirtual 108, 3) := by decide +kernel
theorem dX4_foresee_105 : decode cX4_foresee 105 = .ok (.ireturn, 1) := by decide +kernel
set_option maxRecDepth 20000 in
theorem ggX4_advise_X4_safeDepth : GoodIn wsX4_advise wsX4_safeDepth := goodIn_r _ [10, 11, 5, 1, 2, 3, 4, 12, 13, 14, 15, 16, 17, 18, 19, 20, 21, 22, 23, 24, 25, 26, 27, 28, 36, 37, 38, 39, 40, 41, 42, 43, 44, 45, 46, 47] (by decide +kernel) (by decide +kernel)
set_option maxRecDepth 20000 in
theorem gX4_advise_X4_safeDepth : GoodIn wsX4_advise (wsV RX4 142 RX4 yX4_safeDepth wsX4_safeDepth) := goodIn_app (goodIn_of _ (by decide +kernel)) ggX4_advise_X4_safeDepth
set_option maxRecDepth 20000 in
theorem ggX4_advise_X0_depthOf : GoodIn wsX4_advise wsX0_depthOf := goodIn_r _ [32, 33, 34, 35, 2, 3, 4, 44, 45, 46, 47] (by decide +kernel) (by decide +kernel)
set_option maxRecDepth 20000 in
theorem gX4_advise_X0_depthOf : GoodIn wsX4_advise (wsV RX4 75 RX0 yX0_depthOf wsX0_depthOf) := goodIn_app (goodIn_of _ (by decide +kernel)) ggX4_advise_X0_depthOf
theorem dX4_advise_0 : decode cX4_advise 0 = .ok (.iconst (-1), 1) := by decide +kernel
theorem dX4_advise_1 : decode cX4_advise 1 = .ok (.istore_n 1, 1) := by decide +kernel
theorem dX4_advise_2 : decode cX4_advise 2 = .ok (.iconst 0, 1) := by decide +kernel
theorem dX4_advise_3 : decode cX4_advise 3 = .ok (.istore_n 2, 1) := by decide +kernel
theorem dX4_advise_4 : decode cX4_advise 4 = .ok (.iconst 0, 1) := by decide +kernel
theorem dX4_advise_5 : decode cX4_advise 5 = .ok (.istore_n 3, 1) := by decide +kernel
theorem dX4_advise_6 : decode cX4_advise 6 = .ok (.iload_n 3, 1) := by decide +kernel
theorem dX4_advise_7 : decode cX4_advise 7 = .ok (.bipush 81, 2) := by decide +kernel
theorem dX4_advise_9 : decode cX4_advise 9 = .ok (.if_icmp .ge 44, 3) := by decide +kernel
theorem dX4_advise_12 : decode cX4_advise 12 = .ok (.aload_n 0, 1) := by decide +kernel
theorem dX4_advise_13 : decode cX4_advise 13 = .ok (.iload_n 3, 1) := by decide +kernel
theorem dX4_advise_14 : decode cX4_advise 14 = .ok (.invokevirtual 142, 3) := by decide +kernel
theorem dX4_advise_17 : decode cX4_advise 17 = .ok (.iconst 0, 1) := by decide +kernel
theorem dX4_advise_18 : decode cX4_advise 18 = .ok (.invokestatic 145, 3) := by decide +kernel
theorem dX4_advise_21 : decode cX4_advise 21 = .ok (.istore 4, 2) := by decide +kernel
theorem dX4_advise_23 : decode cX4_advise 23 = .ok (.iload 4, 2) := by decide +kernel
theorem dX4_advise_25 : decode cX4_advise 25 = .ok (.aload_n 0, 1) := by decide +kernel
theorem dX4_advise_26 : decode cX4_advise 26 = .ok (.getfield 19, 3) := by decide +kernel
theorem dX4_advise_29 : decode cX4_advise 29 = .ok (.iload_n 3, 1) := by decide +kernel
theorem dX4_advise_30 : decode cX4_advise 30 = .ok (.invokevirtual 75, 3) := by decide +kernel
theorem dX4_advise_33 : decode cX4_advise 33 = .ok (.isub, 1) := by decide +kernel
theorem dX4_advise_34 : decode cX4_advise 34 = .ok (.istore 5, 2) := by decide +kernel
theorem dX4_advise_36 : decode cX4_advise 36 = .ok (.iload 5, 2) := by decide +kernel
theorem dX4_advise_38 : decode cX4_advise 38 = .ok (.iload_n 2, 1) := by decide +kernel
theorem dX4_advise_39 : decode cX4_advise 39 = .ok (.if_icmp .le 8, 3) := by decide +kernel
theorem dX4_advise_42 : decode cX4_advise 42 = .ok (.iload 5, 2) := by decide +kernel
theorem dX4_advise_44 : decode cX4_advise 44 = .ok (.istore_n 2, 1) := by decide +kernel
theorem dX4_advise_45 : decode cX4_advise 45 = .ok (.iload_n 3, 1) := by decide +kernel
theorem dX4_advise_46 : decode cX4_advise 46 = .ok (.istore_n 1, 1) := by decide +kernel
theorem dX4_advise_47 : decode cX4_advise 47 = .ok (.iinc 3 1, 3) := by decide +kernel
theorem dX4_advise_50 : decode cX4_advise 50 = .ok (.goto (-44), 3) := by decide +kernel
theorem dX4_advise_53 : decode cX4_advise 53 = .ok (.iload_n 1, 1) := by decide +kernel
theorem dX4_advise_54 : decode cX4_advise 54 = .ok (.ireturn, 1) := by decide +kernel
set_option maxRecDepth 20000 in
theorem ggX4_mean_X0_depthOf : GoodIn wsX4_mean wsX0_depthOf := goodIn_r _ [7, 8, 9, 10, 11, 12, 13, 20, 21, 22, 23] (by decide +kernel) (by decide +kernel)
set_option maxRecDepth 20000 in
theorem gX4_mean_X0_depthOf : GoodIn wsX4_mean (wsV RX4 75 RX0 yX0_depthOf wsX0_depthOf) := goodIn_app (goodIn_of _ (by decide +kernel)) ggX4_mean_X0_depthOf
theorem dX4_mean_0 : decode cX4_mean 0 = .ok (.iconst 0, 1) := by decide +kernel
theorem dX4_mean_1 : decode cX4_mean 1 = .ok (.istore_n 1, 1) := by decide +kernel
theorem dX4_mean_2 : decode cX4_mean 2 = .ok (.iconst 0, 1) := by decide +kernel
theorem dX4_mean_3 : decode cX4_mean 3 = .ok (.istore_n 2, 1) := by decide +kernel
theorem dX4_mean_4 : decode cX4_mean 4 = .ok (.iload_n 2, 1) := by decide +kernel
theorem dX4_mean_5 : decode cX4_mean 5 = .ok (.bipush 81, 2) := by decide +kernel
theorem dX4_mean_7 : decode cX4_mean 7 = .ok (.if_icmp .ge 20, 3) := by decide +kernel
theorem dX4_mean_10 : decode cX4_mean 10 = .ok (.iload_n 1, 1) := by decide +kernel
theorem dX4_mean_11 : decode cX4_mean 11 = .ok (.aload_n 0, 1) := by decide +kernel
theorem dX4_mean_12 : decode cX4_mean 12 = .ok (.getfield 19, 3) := by decide +kernel
theorem dX4_mean_15 : decode cX4_mean 15 = .ok (.iload_n 2, 1) := by decide +kernel
theorem dX4_mean_16 : decode cX4_mean 16 = .ok (.invokevirtual 75, 3) := by decide +kernel
theorem dX4_mean_19 : decode cX4_mean 19 = .ok (.iadd, 1) := by decide +kernel
theorem dX4_mean_20 : decode cX4_mean 20 = .ok (.istore_n 1, 1) := by decide +kernel
theorem dX4_mean_21 : decode cX4_mean 21 = .ok (.iinc 2 1, 3) := by decide +kernel
theorem dX4_mean_24 : decode cX4_mean 24 = .ok (.goto (-20), 3) := by decide +kernel
theorem dX4_mean_27 : decode cX4_mean 27 = .ok (.iload_n 1, 1) := by decide +kernel
theorem dX4_mean_28 : decode cX4_mean 28 = .ok (.i2d, 1) := by decide +kernel
theorem dX4_mean_29 : decode cX4_mean 29 = .ok (.ldc2_w 150, 3) := by decide +kernel
theorem dX4_mean_32 : decode cX4_mean 32 = .ok (.ddiv, 1) := by decide +kernel
theorem dX4_mean_33 : decode cX4_mean 33 = .ok (.dreturn, 1) := by decide +kernel
set_option maxRecDepth 20000 in
theorem ggX4_digest_X4_countAnswer : GoodIn wsX4_digest wsX4_countAnswer := goodIn_r _ [9, 4, 10, 11, 12, 13, 14, 15, 16, 17, 18, 19, 20, 21, 22, 23, 24, 25, 26, 27, 8, 28, 29, 30, 31, 32, 33, 34, 35, 36, 37, 38, 39, 40, 41, 42, 43, 44, 45, 46, 47, 48, 49, 50, 51, 52, 53, 54, 55, 56, 57, 58, 59, 60, 61, 62, 63, 64, 65, 66, 67, 68, 69, 70, 71, 72, 73, 74, 75, 76, 77, 78, 79, 80, 81, 82, 83, 84, 85, 86, 87, 88, 89, 90, 91, 92, 93, 94, 95, 96, 97, 98, 99, 100, 101, 102, 131, 132, 133, 134, 135, 136, 137, 138, 139, 140, 141, 142, 143, 144, 145, 146] (by decide +kernel) (by decide +kernel)
set_option maxRecDepth 20000 in
theorem gX4_digest_X4_countAnswer : GoodIn wsX4_digest (wsV RX4 128 RX4 yX4_countAnswer wsX4_countAnswer) := goodIn_app (goodIn_of _ (by decide +kernel)) ggX4_digest_X4_countAnswer
set_option maxRecDepth 20000 in
theorem ggX4_digest_X3_entry : GoodIn wsX4_digest wsX3_entry := goodIn_r _ [107, 108, 109, 147, 148] (by decide +kernel) (by decide +kernel)
set_option maxRecDepth 20000 in
theorem gX4_digest_X3_entry : GoodIn wsX4_digest (wsV RX4 66 RX3 yX3_entry wsX3_entry) := goodIn_app (goodIn_of _ (by decide +kernel)) ggX4_digest_X3_entry
set_option maxRecDepth 20000 in
theorem ggX4_digest_X0_groundOf : GoodIn wsX4_digest wsX0_groundOf := goodIn_r _ [113, 97, 137, 138, 139, 140] (by decide +kernel) (by decide +kernel)
set_option maxRecDepth 20000 in
theorem gX4_digest_X0_groundOf : GoodIn wsX4_digest (wsV RX4 56 RX0 yX0_groundOf wsX0_groundOf) := goodIn_app (goodIn_of _ (by decide +kernel)) ggX4_digest_X0_groundOf
set_option maxRecDepth 20000 in
theorem ggX4_digest_X0_coralOf : GoodIn wsX4_digest wsX0_coralOf := goodIn_r _ [117, 24, 137, 138, 139, 140] (by decide +kernel) (by decide +kernel)
set_option maxRecDepth 20000 in
theorem gX4_digest_X0_coralOf : GoodIn wsX4_digest (wsV RX4 72 RX0 yX0_coralOf wsX0_coralOf) := goodIn_app (goodIn_of _ (by decide +kernel)) ggX4_digest_X0_coralOf
set_option maxRecDepth 20000 in
theorem ggX4_digest_X4_chartAnswer : GoodIn wsX4_digest wsX4_chartAnswer := goodIn_r _ [121, 82, 4, 83, 84, 85, 86, 87, 88, 10, 11, 12, 13, 14, 15, 122, 123, 124, 125, 126, 127, 128, 129, 8, 130, 70, 71, 72, 73, 131, 132, 133, 134, 135, 136, 145, 146, 137, 138, 139, 140] (by decide +kernel) (by decide +kernel)
set_option maxRecDepth 20000 in
theorem gX4_digest_X4_chartAnswer : GoodIn wsX4_digest (wsV RX4 95 RX4 yX4_chartAnswer wsX4_chartAnswer) := goodIn_app (goodIn_of _ (by decide +kernel)) ggX4_digest_X4_chartAnswer
theorem dX4_digest_0 : decode cX4_digest 0 = .ok (.ldc2_w 152, 3) := by decide +kernel
theorem dX4_digest_3 : decode cX4_digest 3 = .ok (.lstore_n 1, 1) := by decide +kernel
theorem dX4_digest_4 : decode cX4_digest 4 = .ok (.iconst 0, 1) := by decide +kernel
theorem dX4_digest_5 : decode cX4_digest 5 = .ok (.istore_n 3, 1) := by decide +kernel
theorem dX4_digest_6 : decode cX4_digest 6 = .ok (.iload_n 3, 1) := by decide +kernel
theorem dX4_digest_7 : decode cX4_digest 7 = .ok (.bipush 8, 2) := by decide +kernel
theorem dX4_digest_9 : decode cX4_digest 9 = .ok (.if_icmp .ge 22, 3) := by decide +kernel
theorem dX4_digest_12 : decode cX4_digest 12 = .ok (.lload_n 1, 1) := by decide +kernel
theorem dX4_digest_13 : decode cX4_digest 13 = .ok (.ldc2_w 154, 3) := by decide +kernel
theorem dX4_digest_16 : decode cX4_digest 16 = .ok (.lmul, 1) := by decide +kernel
theorem dX4_digest_17 : decode cX4_digest 17 = .ok (.aload_n 0, 1) := by decide +kernel
theorem dX4_digest_18 : decode cX4_digest 18 = .ok (.iload_n 3, 1) := by decide +kernel
theorem dX4_digest_19 : decode cX4_digest 19 = .ok (.invokevirtual 128, 3) := by decide +kernel
theorem dX4_digest_22 : decode cX4_digest 22 = .ok (.i2l, 1) := by decide +kernel
theorem dX4_digest_23 : decode cX4_digest 23 = .ok (.ladd, 1) := by decide +kernel
theorem dX4_digest_24 : decode cX4_digest 24 = .ok (.lstore_n 1, 1) := by decide +kernel
theorem dX4_digest_25 : decode cX4_digest 25 = .ok (.iinc 3 1, 3) := by decide +kernel
theorem dX4_digest_28 : decode cX4_digest 28 = .ok (.goto (-22), 3) := by decide +kernel
theorem dX4_digest_31 : decode cX4_digest 31 = .ok (.iconst 0, 1) := by decide +kernel
theorem dX4_digest_32 : decode cX4_digest 32 = .ok (.istore_n 3, 1) := by decide +kernel
theorem dX4_digest_33 : decode cX4_digest 33 = .ok (.iload_n 3, 1) := by decide +kernel
theorem dX4_digest_34 : decode cX4_digest 34 = .ok (.bipush 12, 2) := by decide +kernel
theorem dX4_digest_36 : decode cX4_digest 36 = .ok (.if_icmp .ge 25, 3) := by decide +kernel
theorem dX4_digest_39 : decode cX4_digest 39 = .ok (.lload_n 1, 1) := by decide +kernel
theorem dX4_digest_40 : decode cX4_digest 40 = .ok (.ldc2_w 154, 3) := by decide +kernel
theorem dX4_digest_43 : decode cX4_digest 43 = .ok (.lmul, 1) := by decide +kernel
theorem dX4_digest_44 : decode cX4_digest 44 = .ok (.aload_n 0, 1) := by decide +kernel
theorem dX4_digest_45 : decode cX4_digest 45 = .ok (.getfield 12, 3) := by decide +kernel
theorem dX4_digest_48 : decode cX4_digest 48 = .ok (.iload_n 3, 1) := by decide +kernel
theorem dX4_digest_49 : decode cX4_digest 49 = .ok (.invokevirtual 66, 3) := by decide +kernel
theorem dX4_digest_52 : decode cX4_digest 52 = .ok (.i2l, 1) := by decide +kernel
theorem dX4_digest_53 : decode cX4_digest 53 = .ok (.ladd, 1) := by decide +kernel
theorem dX4_digest_54 : decode cX4_digest 54 = .ok (.lstore_n 1, 1) := by decide +kernel
theorem dX4_digest_55 : decode cX4_digest 55 = .ok (.iinc 3 1, 3) := by decide +kernel
theorem dX4_digest_58 : decode cX4_digest 58 = .ok (.goto (-25), 3) := by decide +kernel
theorem dX4_digest_61 : decode cX4_digest 61 = .ok (.iconst 0, 1) := by decide +kernel
theorem dX4_digest_62 : decode cX4_digest 62 = .ok (.istore_n 3, 1) := by decide +kernel
theorem dX4_digest_63 : decode cX4_digest 63 = .ok (.iload_n 3, 1) := by decide +kernel
theorem dX4_digest_64 : decode cX4_digest 64 = .ok (.bipush 81, 2) := by decide +kernel
theorem dX4_digest_66 : decode cX4_digest 66 = .ok (.if_icmp .ge 71, 3) := by decide +kernel
theorem dX4_digest_69 : decode cX4_digest 69 = .ok (.lload_n 1, 1) := by decide +kernel
theorem dX4_digest_70 : decode cX4_digest 70 = .ok (.ldc2_w 154, 3) := by decide +kernel
theorem dX4_digest_73 : decode cX4_digest 73 = .ok (.lmul, 1) := by decide +kernel
theorem dX4_digest_74 : decode cX4_digest 74 = .ok (.aload_n 0, 1) := by decide +kernel
theorem dX4_digest_75 : decode cX4_digest 75 = .ok (.getfield 19, 3) := by decide +kernel
theorem dX4_digest_78 : decode cX4_digest 78 = .ok (.iload_n 3, 1) := by decide +kernel
theorem dX4_digest_79 : decode cX4_digest 79 = .ok (.invokevirtual 56, 3) := by decide +kernel
theorem dX4_digest_82 : decode cX4_digest 82 = .ok (.i2l, 1) := by decide +kernel
theorem dX4_digest_83 : decode cX4_digest 83 = .ok (.ladd, 1) := by decide +kernel
theorem dX4_digest_84 : decode cX4_digest 84 = .ok (.lstore_n 1, 1) := by decide +kernel
theorem dX4_digest_85 : decode cX4_digest 85 = .ok (.lload_n 1, 1) := by decide +kernel
theorem dX4_digest_86 : decode cX4_digest 86 = .ok (.ldc2_w 154, 3) := by decide +kernel
theorem dX4_digest_89 : decode cX4_digest 89 = .ok (.lmul, 1) := by decide +kernel
theorem dX4_digest_90 : decode cX4_digest 90 = .ok (.aload_n 0, 1) := by decide +kernel
theorem dX4_digest_91 : decode cX4_digest 91 = .ok (.getfield 19, 3) := by decide +kernel
theorem dX4_digest_94 : decode cX4_digest 94 = .ok (.iload_n 3, 1) := by decide +kernel
theorem dX4_digest_95 : decode cX4_digest 95 = .ok (.invokevirtual 72, 3) := by decide +kernel
theorem dX4_digest_98 : decode cX4_digest 98 = .ok (.i2l, 1) := by decide +kernel
theorem dX4_digest_99 : decode cX4_digest 99 = .ok (.ladd, 1) := by decide +kernel
theorem dX4_digest_100 : decode cX4_digest 100 = .ok (.lstore_n 1, 1) := by decide +kernel
theorem dX4_digest_101 : decode cX4_digest 101 = .ok (.iconst 0, 1) := by decide +kernel
theorem dX4_digest_102 : decode cX4_digest 102 = .ok (.istore 4, 2) := by decide +kernel
theorem dX4_digest_104 : decode cX4_digest 104 = .ok (.iload 4, 2) := by decide +kernel
theorem dX4_digest_106 : decode cX4_digest 106 = .ok (.iconst 3, 1) := by decide +kernel
theorem dX4_digest_107 : decode cX4_digest 107 = .ok (.if_icmp .ge 24, 3) := by decide +kernel
theorem dX4_digest_110 : decode cX4_digest 110 = .ok (.lload_n 1, 1) := by decide +kernel
theorem dX4_digest_111 : decode cX4_digest 111 = .ok (.ldc2_w 154, 3) := by decide +kernel
theorem dX4_digest_114 : decode cX4_digest 114 = .ok (.lmul, 1) := by decide +kernel
theorem dX4_digest_115 : decode cX4_digest 115 = .ok (.aload_n 0, 1) := by decide +kernel
theorem dX4_digest_116 : decode cX4_digest 116 = .ok (.iload_n 3, 1) := by decide +kernel
theorem dX4_digest_117 : decode cX4_digest 117 = .ok (.iload 4, 2) := by decide +kernel
theorem dX4_digest_119 : decode cX4_digest 119 = .ok (.invokevirtual 95, 3) := by decide +kernel
theorem dX4_digest_122 : decode cX4_digest 122 = .ok (.i2l, 1) := by decide +kernel
theorem dX4_digest_123 : decode cX4_digest 123 = .ok (.ladd, 1) := by decide +kernel
theorem dX4_digest_124 : decode cX4_digest 124 = .ok (.lstore_n 1, 1) := by decide +kernel
theorem dX4_digest_125 : decode cX4_digest 125 = .ok (.iinc 4 1, 3) := by decide +kernel
theorem dX4_digest_128 : decode cX4_digest 128 = .ok (.goto (-24), 3) := by decide +kernel
theorem dX4_digest_131 : decode cX4_digest 131 = .ok (.iinc 3 1, 3) := by decide +kernel
theorem dX4_digest_134 : decode cX4_digest 134 = .ok (.goto (-71), 3) := by decide +kernel
theorem dX4_digest_137 : decode cX4_digest 137 = .ok (.lload_n 1, 1) := by decide +kernel
theorem dX4_digest_138 : decode cX4_digest 138 = .ok (.lreturn, 1) := by decide +kernel
set_option maxRecDepth 20000 in
theorem ggX4_needCell_X4_needIndex : GoodIn wsX4_needCell wsX4_needIndex := goodIn_ca (goodIn_r _ [4, 5, 6] (by decide +kernel) (by decide +kernel)) (goodIn_sub (fun _ h => List.mem_cons_of_mem _ (List.mem_append_right _ h)) (by decide +kernel))
set_option maxRecDepth 20000 in
theorem gX4_needCell_X4_needIndex : GoodIn wsX4_needCell (va_wsS RX4 63 yX4_needIndex wsX4_needIndex) := goodIn_app (goodIn_of _ (by decide +kernel)) ggX4_needCell_X4_needIndex
theorem dX4_needCell_0 : decode cX4_needCell 0 = .ok (.iload_n 0, 1) := by decide +kernel
theorem dX4_needCell_1 : decode cX4_needCell 1 = .ok (.bipush 9, 2) := by decide +kernel
theorem dX4_needCell_3 : decode cX4_needCell 3 = .ok (.invokestatic 63, 3) := by decide +kernel
theorem dX4_needCell_6 : decode cX4_needCell 6 = .ok (.iload_n 1, 1) := by decide +kernel
theorem dX4_needCell_7 : decode cX4_needCell 7 = .ok (.bipush 9, 2) := by decide +kernel
theorem dX4_needCell_9 : decode cX4_needCell 9 = .ok (.invokestatic 63, 3) := by decide +kernel
theorem dX4_needCell_12 : decode cX4_needCell 12 = .ok (.return_, 1) := by decide +kernel
theorem dX4_needIndex_0 : decode cX4_needIndex 0 = .ok (.iload_n 0, 1) := by decide +kernel
theorem dX4_needIndex_1 : decode cX4_needIndex 1 = .ok (.ifCond .lt 8, 3) := by decide +kernel
theorem dX4_needIndex_4 : decode cX4_needIndex 4 = .ok (.iload_n 0, 1) := by decide +kernel
theorem dX4_needIndex_5 : decode cX4_needIndex 5 = .ok (.iload_n 1, 1) := by decide +kernel
theorem dX4_needIndex_6 : decode cX4_needIndex 6 = .ok (.if_icmp .lt 13, 3) := by decide +kernel
theorem dX4_needIndex_9 : decode cX4_needIndex 9 = .ok (.new 156, 3) := by decide +kernel
theorem dX4_needIndex_12 : decode cX4_needIndex 12 = .ok (.dup, 1) := by decide +kernel
theorem dX4_needIndex_13 : decode cX4_needIndex 13 = .ok (.ldc 158, 2) := by decide +kernel
theorem dX4_needIndex_15 : decode cX4_needIndex 15 = .ok (.invokespecial 160, 3) := by decide +kernel
theorem dX4_needIndex_18 : decode cX4_needIndex 18 = .ok (.athrow, 1) := by decide +kernel
theorem dX4_needIndex_19 : decode cX4_needIndex 19 = .ok (.return_, 1) := by decide +kernel
theorem dX4_needWithin_0 : decode cX4_needWithin 0 = .ok (.iload_n 0, 1) := by decide +kernel
theorem dX4_needWithin_1 : decode cX4_needWithin 1 = .ok (.iload_n 1, 1) := by decide +kernel
theorem dX4_needWithin_2 : decode cX4_needWithin 2 = .ok (.if_icmp .lt 8, 3) := by decide +kernel
theorem dX4_needWithin_5 : decode cX4_needWithin 5 = .ok (.iload_n 0, 1) := by decide +kernel
theorem dX4_needWithin_6 : decode cX4_needWithin 6 = .ok (.iload_n 2, 1) := by decide +kernel
theorem dX4_needWithin_7 : decode cX4_needWithin 7 = .ok (.if_icmp .le 13, 3) := by decide +kernel
theorem dX4_needWithin_10 : decode cX4_needWithin 10 = .ok (.new 163, 3) := by decide +kernel
theorem dX4_needWithin_13 : decode cX4_needWithin 13 = .ok (.dup, 1) := by decide +kernel
theorem dX4_needWithin_14 : decode cX4_needWithin 14 = .ok (.ldc 165, 2) := by decide +kernel
theorem dX4_needWithin_16 : decode cX4_needWithin 16 = .ok (.invokespecial 167, 3) := by decide +kernel
theorem dX4_needWithin_19 : decode cX4_needWithin 19 = .ok (.athrow, 1) := by decide +kernel
theorem dX4_needWithin_20 : decode cX4_needWithin 20 = .ok (.return_, 1) := by decide +kernel
set_option maxRecDepth 20000 in
theorem ggX4_countAnswer_X0_monthNow : GoodIn wsX4_countAnswer wsX0_monthNow := goodIn_r _ [6, 7, 102, 103, 104, 105] (by decide +kernel) (by decide +kernel)
set_option maxRecDepth 20000 in
theorem gX4_countAnswer_X0_monthNow : GoodIn wsX4_countAnswer (wsV RX4 88 RX0 yX0_monthNow wsX0_monthNow) := goodIn_app (goodIn_of _ (by decide +kernel)) ggX4_countAnswer_X0_monthNow
set_option maxRecDepth 20000 in
theorem ggX4_countAnswer_X0_heads : GoodIn wsX4_countAnswer wsX0_heads := goodIn_r _ [11, 12, 13, 14, 5, 15, 16, 102, 103, 104, 105] (by decide +kernel) (by decide +kernel)
set_option maxRecDepth 20000 in
theorem gX4_countAnswer_X0_heads : GoodIn wsX4_countAnswer (wsV RX4 121 RX0 yX0_heads wsX0_heads) := goodIn_app (goodIn_of _ (by decide +kernel)) ggX4_countAnswer_X0_heads
set_option maxRecDepth 20000 in
theorem ggX4_countAnswer_X4_reefsOn : GoodIn wsX4_countAnswer wsX4_reefsOn := goodIn_r _ [21, 22, 23, 24, 25, 20, 26, 27, 28, 29, 30, 31, 32, 33, 34, 35, 36, 37, 38, 13, 14, 5, 15, 16, 39, 40, 41, 42, 43, 44, 45, 46, 47, 48, 49, 50, 51, 52, 53, 54, 55, 56, 57, 58, 96, 97, 98, 99, 100, 101, 106, 107, 108, 109, 102, 103, 104, 105] (by decide +kernel) (by decide +kernel)
set_option maxRecDepth 20000 in
theorem gX4_countAnswer_X4_reefsOn : GoodIn wsX4_countAnswer (wsV RX4 138 RX4 yX4_reefsOn wsX4_reefsOn) := goodIn_app (goodIn_of _ (by decide +kernel)) ggX4_countAnswer_X4_reefsOn
set_option maxRecDepth 20000 in
theorem ggX4_countAnswer_X4_headsOfLargestReef : GoodIn wsX4_countAnswer wsX4_headsOfLargestReef := goodIn_r _ [62, 1, 22, 63, 64, 65, 66, 23, 24, 25, 20, 26, 27, 28, 29, 30, 31, 32, 33, 34, 35, 36, 37, 38, 13, 14, 5, 15, 16, 39, 40, 41, 42, 43, 44, 45, 46, 47, 48, 49, 50, 51, 52, 53, 54, 55, 56, 57, 58, 96, 97, 98, 99, 100, 101, 106, 107, 108, 109, 102, 103, 104, 105] (by decide +kernel) (by decide +kernel)
set_option maxRecDepth 20000 in
theorem gX4_countAnswer_X4_headsOfLargestReef : GoodIn wsX4_countAnswer (wsV RX4 168 RX4 yX4_headsOfLargestReef wsX4_headsOfLargestReef) := goodIn_app (goodIn_of _ (by decide +kernel)) ggX4_countAnswer_X4_headsOfLargestReef
set_option maxRecDepth 20000 in
theorem ggX4_countAnswer_X0_allCoral : GoodIn wsX4_countAnswer wsX0_allCoral := goodIn_r _ [70, 16, 102, 103, 104, 105] (by decide +kernel) (by decide +kernel)
set_option maxRecDepth 20000 in
theorem gX4_countAnswer_X0_allCoral : GoodIn wsX4_countAnswer (wsV RX4 171 RX0 yX0_allCoral wsX0_allCoral) := goodIn_app (goodIn_of _ (by decide +kernel)) ggX4_countAnswer_X0_allCoral
set_option maxRecDepth 20000 in
theorem ggX4_countAnswer_X4_soundingsTaken : GoodIn wsX4_countAnswer wsX4_soundingsTaken := goodIn_r _ [74, 75, 76, 77, 78, 79, 80, 81, 96, 97, 98, 99, 100, 101, 110, 111] (by decide +kernel) (by decide +kernel)
set_option maxRecDepth 20000 in
theorem gX4_countAnswer_X4_soundingsTaken : GoodIn wsX4_countAnswer (wsV RX4 174 RX4 yX4_soundingsTaken wsX4_soundingsTaken) := goodIn_app (goodIn_of _ (by decide +kernel)) ggX4_countAnswer_X4_soundingsTaken
set_option maxRecDepth 20000 in
theorem ggX4_countAnswer_X4_soundingsTooDeep : GoodIn wsX4_countAnswer wsX4_soundingsTooDeep := goodIn_r _ [85, 75, 1, 76, 77, 78, 79, 80, 81, 86, 87, 88, 5, 89, 90, 16, 91, 64, 65, 66, 96, 97, 98, 99, 100, 101, 110, 111, 102, 103, 104, 105] (by decide +kernel) (by decide +kernel)
set_option maxRecDepth 20000 in
theorem gX4_countAnswer_X4_soundingsTooDeep : GoodIn wsX4_countAnswer (wsV RX4 177 RX4 yX4_soundingsTooDeep wsX4_soundingsTooDeep) := goodIn_app (goodIn_of _ (by decide +kernel)) ggX4_countAnswer_X4_soundingsTooDeep
set_option maxRecDepth 20000 in
theorem ggX4_countAnswer_X4_cellsWithoutDepth : GoodIn wsX4_countAnswer wsX4_cellsWithoutDepth := goodIn_r _ [95, 1, 86, 87, 88, 5, 89, 90, 16, 91, 64, 65, 66, 96, 97, 98, 99, 100, 101, 102, 103, 104, 105] (by decide +kernel) (by decide +kernel)
set_option maxRecDepth 20000 in
theorem gX4_countAnswer_X4_cellsWithoutDepth : GoodIn wsX4_countAnswer (wsV RX4 180 RX4 yX4_cellsWithoutDepth wsX4_cellsWithoutDepth) := goodIn_app (goodIn_of _ (by decide +kernel)) ggX4_countAnswer_X4_cellsWithoutDepth
theorem dX4_countAnswer_0 : decode cX4_countAnswer 0 = .ok (.iload_n 1, 1) := by decide +kernel
theorem dX4_countAnswer_1 : decode cX4_countAnswer 1 = .ok (.tableswitch 91 0 6 #[43, 51, 59, 68, 73, 81, 86], 43) := by decide +kernel
theorem dX4_countAnswer_44 : decode cX4_countAnswer 44 = .ok (.aload_n 0, 1) := by decide +kernel
theorem dX4_countAnswer_45 : decode cX4_countAnswer 45 = .ok (.getfield 19, 3) := by decide +kernel
theorem dX4_countAnswer_48 : decode cX4_countAnswer 48 = .ok (.invokevirtual 88, 3) := by decide +kernel
theorem dX4_countAnswer_51 : decode cX4_countAnswer 51 = .ok (.ireturn, 1) := by decide +kernel
theorem dX4_countAnswer_52 : decode cX4_countAnswer 52 = .ok (.aload_n 0, 1) := by decide +kernel
theorem dX4_countAnswer_53 : decode cX4_countAnswer 53 = .ok (.getfield 19, 3) := by decide +kernel
theorem dX4_countAnswer_56 : decode cX4_countAnswer 56 = .ok (.invokevirtual 121, 3) := by decide +kernel
theorem dX4_countAnswer_59 : decode cX4_countAnswer 59 = .ok (.ireturn, 1) := by decide +kernel
theorem dX4_countAnswer_60 : decode cX4_countAnswer 60 = .ok (.aload_n 0, 1) := by decide +kernel
theorem dX4_countAnswer_61 : decode cX4_countAnswer 61 = .ok (.aload_n 0, 1) := by decide +kernel
theorem dX4_countAnswer_62 : decode cX4_countAnswer 62 = .ok (.getfield 19, 3) := by decide +kernel
theorem dX4_countAnswer_65 : decode cX4_countAnswer 65 = .ok (.invokevirtual 138, 3) := by decide +kernel
theorem dX4_countAnswer_68 : decode cX4_countAnswer 68 = .ok (.ireturn, 1) := by decide +kernel
theorem dX4_countAnswer_69 : decode cX4_countAnswer 69 = .ok (.aload_n 0, 1) := by decide +kernel
theorem dX4_countAnswer_70 : decode cX4_countAnswer 70 = .ok (.invokevirtual 168, 3) := by decide +kernel
theorem dX4_countAnswer_73 : decode cX4_countAnswer 73 = .ok (.ireturn, 1) := by decide +kernel
theorem dX4_countAnswer_74 : decode cX4_countAnswer 74 = .ok (.aload_n 0, 1) := by decide +kernel
theorem dX4_countAnswer_75 : decode cX4_countAnswer 75 = .ok (.getfield 19, 3) := by decide +kernel
theorem dX4_countAnswer_78 : decode cX4_countAnswer 78 = .ok (.invokevirtual 171, 3) := by decide +kernel
theorem dX4_countAnswer_81 : decode cX4_countAnswer 81 = .ok (.ireturn, 1) := by decide +kernel
theorem dX4_countAnswer_82 : decode cX4_countAnswer 82 = .ok (.aload_n 0, 1) := by decide +kernel
theorem dX4_countAnswer_83 : decode cX4_countAnswer 83 = .ok (.invokevirtual 174, 3) := by decide +kernel
theorem dX4_countAnswer_86 : decode cX4_countAnswer 86 = .ok (.ireturn, 1) := by decide +kernel
theorem dX4_countAnswer_87 : decode cX4_countAnswer 87 = .ok (.aload_n 0, 1) := by decide +kernel
theorem dX4_countAnswer_88 : decode cX4_countAnswer 88 = .ok (.invokevirtual 177, 3) := by decide +kernel
theorem dX4_countAnswer_91 : decode cX4_countAnswer 91 = .ok (.ireturn, 1) := by decide +kernel
theorem dX4_countAnswer_92 : decode cX4_countAnswer 92 = .ok (.aload_n 0, 1) := by decide +kernel
theorem dX4_countAnswer_93 : decode cX4_countAnswer 93 = .ok (.invokevirtual 180, 3) := by decide +kernel
theorem dX4_countAnswer_96 : decode cX4_countAnswer 96 = .ok (.ireturn, 1) := by decide +kernel
set_option maxRecDepth 20000 in
theorem ggX4_soundingsTaken_X1_noted : GoodIn wsX4_soundingsTaken wsX1_noted := goodIn_r _ [6, 7, 14, 15] (by decide +kernel) (by decide +kernel)
set_option maxRecDepth 20000 in
theorem gX4_soundingsTaken_X1_noted : GoodIn wsX4_soundingsTaken (wsV RX4 85 RX1 yX1_noted wsX1_noted) := goodIn_app (goodIn_of _ (by decide +kernel)) ggX4_soundingsTaken_X1_noted
theorem dX4_soundingsTaken_0 : decode cX4_soundingsTaken 0 = .ok (.iconst 0, 1) := by decide +kernel
theorem dX4_soundingsTaken_1 : decode cX4_soundingsTaken 1 = .ok (.istore_n 1, 1) := by decide +kernel
theorem dX4_soundingsTaken_2 : decode cX4_soundingsTaken 2 = .ok (.iconst 0, 1) := by decide +kernel
theorem dX4_soundingsTaken_3 : decode cX4_soundingsTaken 3 = .ok (.istore_n 2, 1) := by decide +kernel
theorem dX4_soundingsTaken_4 : decode cX4_soundingsTaken 4 = .ok (.iload_n 2, 1) := by decide +kernel
theorem dX4_soundingsTaken_5 : decode cX4_soundingsTaken 5 = .ok (.bipush 81, 2) := by decide +kernel
theorem dX4_soundingsTaken_7 : decode cX4_soundingsTaken 7 = .ok (.if_icmp .ge 24, 3) := by decide +kernel
theorem dX4_soundingsTaken_10 : decode cX4_soundingsTaken 10 = .ok (.aload_n 0, 1) := by decide +kernel
theorem dX4_soundingsTaken_11 : decode cX4_soundingsTaken 11 = .ok (.getfield 29, 3) := by decide +kernel
theorem dX4_soundingsTaken_14 : decode cX4_soundingsTaken 14 = .ok (.iload_n 2, 1) := by decide +kernel
theorem dX4_soundingsTaken_15 : decode cX4_soundingsTaken 15 = .ok (.invokevirtual 85, 3) := by decide +kernel
theorem dX4_soundingsTaken_18 : decode cX4_soundingsTaken 18 = .ok (.iconst (-1), 1) := by decide +kernel
theorem dX4_soundingsTaken_19 : decode cX4_soundingsTaken 19 = .ok (.if_icmp .eq 6, 3) := by decide +kernel
theorem dX4_soundingsTaken_22 : decode cX4_soundingsTaken 22 = .ok (.iinc 1 1, 3) := by decide +kernel
theorem dX4_soundingsTaken_25 : decode cX4_soundingsTaken 25 = .ok (.iinc 2 1, 3) := by decide +kernel
theorem dX4_soundingsTaken_28 : decode cX4_soundingsTaken 28 = .ok (.goto (-24), 3) := by decide +kernel
theorem dX4_soundingsTaken_31 : decode cX4_soundingsTaken 31 = .ok (.iload_n 1, 1) := by decide +kernel
theorem dX4_soundingsTaken_32 : decode cX4_soundingsTaken 32 = .ok (.ireturn, 1) := by decide +kernel
set_option maxRecDepth 20000 in
theorem ggX4_soundingsTooDeep_X1_noted : GoodIn wsX4_soundingsTooDeep wsX1_noted := goodIn_r _ [7, 8, 26, 27] (by decide +kernel) (by decide +kernel)
set_option maxRecDepth 20000 in
theorem gX4_soundingsTooDeep_X1_noted : GoodIn wsX4_soundingsTooDeep (wsV RX4 85 RX1 yX1_noted wsX1_noted) := goodIn_app (goodIn_of _ (by decide +kernel)) ggX4_soundingsTooDeep_X1_noted
set_option maxRecDepth 20000 in
theorem ggX4_soundingsTooDeep_X0_depthOf : GoodIn wsX4_soundingsTooDeep wsX0_depthOf := goodIn_r _ [13, 14, 15, 16, 17, 18, 19, 28, 29, 30, 31] (by decide +kernel) (by decide +kernel)
set_option maxRecDepth 20000 in
theorem gX4_soundingsTooDeep_X0_depthOf : GoodIn wsX4_soundingsTooDeep (wsV RX4 75 RX0 yX0_depthOf wsX0_depthOf) := goodIn_app (goodIn_of _ (by decide +kernel)) ggX4_soundingsTooDeep_X0_depthOf
theorem dX4_soundingsTooDeep_0 : decode cX4_soundingsTooDeep 0 = .ok (.iconst 0, 1) := by decide +kernel
theorem dX4_soundingsTooDeep_1 : decode cX4_soundingsTooDeep 1 = .ok (.istore_n 1, 1) := by decide +kernel
theorem dX4_soundingsTooDeep_2 : decode cX4_soundingsTooDeep 2 = .ok (.iconst 0, 1) := by decide +kernel
theorem dX4_soundingsTooDeep_3 : decode cX4_soundingsTooDeep 3 = .ok (.istore_n 2, 1) := by decide +kernel
theorem dX4_soundingsTooDeep_4 : decode cX4_soundingsTooDeep 4 = .ok (.iload_n 2, 1) := by decide +kernel
theorem dX4_soundingsTooDeep_5 : decode cX4_soundingsTooDeep 5 = .ok (.bipush 81, 2) := by decide +kernel
theorem dX4_soundingsTooDeep_7 : decode cX4_soundingsTooDeep 7 = .ok (.if_icmp .ge 31, 3) := by decide +kernel
theorem dX4_soundingsTooDeep_10 : decode cX4_soundingsTooDeep 10 = .ok (.aload_n 0, 1) := by decide +kernel
theorem dX4_soundingsTooDeep_11 : decode cX4_soundingsTooDeep 11 = .ok (.getfield 29, 3) := by decide +kernel
theorem dX4_soundingsTooDeep_14 : decode cX4_soundingsTooDeep 14 = .ok (.iload_n 2, 1) := by decide +kernel
theorem dX4_soundingsTooDeep_15 : decode cX4_soundingsTooDeep 15 = .ok (.invokevirtual 85, 3) := by decide +kernel
theorem dX4_soundingsTooDeep_18 : decode cX4_soundingsTooDeep 18 = .ok (.aload_n 0, 1) := by decide +kernel
theorem dX4_soundingsTooDeep_19 : decode cX4_soundingsTooDeep 19 = .ok (.getfield 19, 3) := by decide +kernel
theorem dX4_soundingsTooDeep_22 : decode cX4_soundingsTooDeep 22 = .ok (.iload_n 2, 1) := by decide +kernel
theorem dX4_soundingsTooDeep_23 : decode cX4_soundingsTooDeep 23 = .ok (.invokevirtual 75, 3) := by decide +kernel
theorem dX4_soundingsTooDeep_26 : decode cX4_soundingsTooDeep 26 = .ok (.if_icmp .le 6, 3) := by decide +kernel
theorem dX4_soundingsTooDeep_29 : decode cX4_soundingsTooDeep 29 = .ok (.iinc 1 1, 3) := by decide +kernel
theorem dX4_soundingsTooDeep_32 : decode cX4_soundingsTooDeep 32 = .ok (.iinc 2 1, 3) := by decide +kernel
theorem dX4_soundingsTooDeep_35 : decode cX4_soundingsTooDeep 35 = .ok (.goto (-31), 3) := by decide +kernel
theorem dX4_soundingsTooDeep_38 : decode cX4_soundingsTooDeep 38 = .ok (.iload_n 1, 1) := by decide +kernel
theorem dX4_soundingsTooDeep_39 : decode cX4_soundingsTooDeep 39 = .ok (.ireturn, 1) := by decide +kernel
set_option maxRecDepth 20000 in
theorem ggX4_cellsWithoutDepth_X0_depthOf : GoodIn wsX4_cellsWithoutDepth wsX0_depthOf := goodIn_r _ [6, 7, 8, 9, 10, 11, 12, 19, 20, 21, 22] (by decide +kernel) (by decide +kernel)
set_option maxRecDepth 20000 in
theorem gX4_cellsWithoutDepth_X0_depthOf : GoodIn wsX4_cellsWithoutDepth (wsV RX4 75 RX0 yX0_depthOf wsX0_depthOf) := goodIn_app (goodIn_of _ (by decide +kernel)) ggX4_cellsWithoutDepth_X0_depthOf
theorem dX4_cellsWithoutDepth_0 : decode cX4_cellsWithoutDepth 0 = .ok (.iconst 0, 1) := by decide +kernel
theorem dX4_cellsWithoutDepth_1 : decode cX4_cellsWithoutDepth 1 = .ok (.istore_n 1, 1) := by decide +kernel
theorem dX4_cellsWithoutDepth_2 : decode cX4_cellsWithoutDepth 2 = .ok (.iconst 0, 1) := by decide +kernel
theorem dX4_cellsWithoutDepth_3 : decode cX4_cellsWithoutDepth 3 = .ok (.istore_n 2, 1) := by decide +kernel
theorem dX4_cellsWithoutDepth_4 : decode cX4_cellsWithoutDepth 4 = .ok (.iload_n 2, 1) := by decide +kernel
theorem dX4_cellsWithoutDepth_5 : decode cX4_cellsWithoutDepth 5 = .ok (.bipush 81, 2) := by decide +kernel
theorem dX4_cellsWithoutDepth_7 : decode cX4_cellsWithoutDepth 7 = .ok (.if_icmp .ge 23, 3) := by decide +kernel
theorem dX4_cellsWithoutDepth_10 : decode cX4_cellsWithoutDepth 10 = .ok (.aload_n 0, 1) := by decide +kernel
theorem dX4_cellsWithoutDepth_11 : decode cX4_cellsWithoutDepth 11 = .ok (.getfield 19, 3) := by decide +kernel
theorem dX4_cellsWithoutDepth_14 : decode cX4_cellsWithoutDepth 14 = .ok (.iload_n 2, 1) := by decide +kernel
theorem dX4_cellsWithoutDepth_15 : decode cX4_cellsWithoutDepth 15 = .ok (.invokevirtual 75, 3) := by decide +kernel
theorem dX4_cellsWithoutDepth_18 : decode cX4_cellsWithoutDepth 18 = .ok (.ifCond .ne 6, 3) := by decide +kernel
theorem dX4_cellsWithoutDepth_21 : decode cX4_cellsWithoutDepth 21 = .ok (.iinc 1 1, 3) := by decide +kernel
theorem dX4_cellsWithoutDepth_24 : decode cX4_cellsWithoutDepth 24 = .ok (.iinc 2 1, 3) := by decide +kernel
theorem dX4_cellsWithoutDepth_27 : decode cX4_cellsWithoutDepth 27 = .ok (.goto (-23), 3) := by decide +kernel
theorem dX4_cellsWithoutDepth_30 : decode cX4_cellsWithoutDepth 30 = .ok (.iload_n 1, 1) := by decide +kernel
theorem dX4_cellsWithoutDepth_31 : decode cX4_cellsWithoutDepth 31 = .ok (.ireturn, 1) := by decide +kernel
set_option maxRecDepth 20000 in
theorem ggX4_chartAnswer_X1_noted : GoodIn wsX4_chartAnswer wsX1_noted := goodIn_r _ [7, 8, 35, 36] (by decide +kernel) (by decide +kernel)
set_option maxRecDepth 20000 in
theorem gX4_chartAnswer_X1_noted : GoodIn wsX4_chartAnswer (wsV RX4 85 RX1 yX1_noted wsX1_noted) := goodIn_app (goodIn_of _ (by decide +kernel)) ggX4_chartAnswer_X1_noted
set_option maxRecDepth 20000 in
theorem ggX4_chartAnswer_X0_monthNow : GoodIn wsX4_chartAnswer wsX0_monthNow := goodIn_r _ [13, 14, 37, 38, 39, 40] (by decide +kernel) (by decide +kernel)
set_option maxRecDepth 20000 in
theorem gX4_chartAnswer_X0_monthNow : GoodIn wsX4_chartAnswer (wsV RX4 88 RX0 yX0_monthNow wsX0_monthNow) := goodIn_app (goodIn_of _ (by decide +kernel)) ggX4_chartAnswer_X0_monthNow
set_option maxRecDepth 20000 in
theorem ggX4_chartAnswer_X1_age : GoodIn wsX4_chartAnswer wsX1_age := goodIn_r _ [18, 8, 19, 35, 36] (by decide +kernel) (by decide +kernel)
set_option maxRecDepth 20000 in
theorem gX4_chartAnswer_X1_age : GoodIn wsX4_chartAnswer (wsV RX4 183 RX1 yX1_age wsX1_age) := goodIn_app (goodIn_of _ (by decide +kernel)) ggX4_chartAnswer_X1_age
set_option maxRecDepth 20000 in
theorem ggX4_chartAnswer_X4_safeDepth : GoodIn wsX4_chartAnswer wsX4_safeDepth := goodIn_r _ [24, 1, 2, 25, 26, 27, 28, 3, 4, 5, 6, 7, 8, 9, 10, 11, 12, 13, 14, 15, 16, 17, 18, 19, 29, 30, 31, 32, 33, 34, 35, 36, 37, 38, 39, 40] (by decide +kernel) (by decide +kernel)
set_option maxRecDepth 20000 in
theorem gX4_chartAnswer_X4_safeDepth : GoodIn wsX4_chartAnswer (wsV RX4 142 RX4 yX4_safeDepth wsX4_safeDepth) := goodIn_app (goodIn_of _ (by decide +kernel)) ggX4_chartAnswer_X4_safeDepth
theorem dX4_chartAnswer_0 : decode cX4_chartAnswer 0 = .ok (.iload_n 2, 1) := by decide +kernel
theorem dX4_chartAnswer_1 : decode cX4_chartAnswer 1 = .ok (.lookupswitch 52 #[(0, 27), (1, 36)], 27) := by decide +kernel
theorem dX4_chartAnswer_28 : decode cX4_chartAnswer 28 = .ok (.aload_n 0, 1) := by decide +kernel
theorem dX4_chartAnswer_29 : decode cX4_chartAnswer 29 = .ok (.getfield 29, 3) := by decide +kernel
theorem dX4_chartAnswer_32 : decode cX4_chartAnswer 32 = .ok (.iload_n 1, 1) := by decide +kernel
theorem dX4_chartAnswer_33 : decode cX4_chartAnswer 33 = .ok (.invokevirtual 85, 3) := by decide +kernel
theorem dX4_chartAnswer_36 : decode cX4_chartAnswer 36 = .ok (.ireturn, 1) := by decide +kernel
theorem dX4_chartAnswer_37 : decode cX4_chartAnswer 37 = .ok (.aload_n 0, 1) := by decide +kernel
theorem dX4_chartAnswer_38 : decode cX4_chartAnswer 38 = .ok (.getfield 29, 3) := by decide +kernel
theorem dX4_chartAnswer_41 : decode cX4_chartAnswer 41 = .ok (.iload_n 1, 1) := by decide +kernel
theorem dX4_chartAnswer_42 : decode cX4_chartAnswer 42 = .ok (.aload_n 0, 1) := by decide +kernel
theorem dX4_chartAnswer_43 : decode cX4_chartAnswer 43 = .ok (.getfield 19, 3) := by decide +kernel
theorem dX4_chartAnswer_46 : decode cX4_chartAnswer 46 = .ok (.invokevirtual 88, 3) := by decide +kernel
theorem dX4_chartAnswer_49 : decode cX4_chartAnswer 49 = .ok (.invokevirtual 183, 3) := by decide +kernel
theorem dX4_chartAnswer_52 : decode cX4_chartAnswer 52 = .ok (.ireturn, 1) := by decide +kernel
theorem dX4_chartAnswer_53 : decode cX4_chartAnswer 53 = .ok (.aload_n 0, 1) := by decide +kernel
theorem dX4_chartAnswer_54 : decode cX4_chartAnswer 54 = .ok (.iload_n 1, 1) := by decide +kernel
theorem dX4_chartAnswer_55 : decode cX4_chartAnswer 55 = .ok (.invokevirtual 142, 3) := by decide +kernel
theorem dX4_chartAnswer_58 : decode cX4_chartAnswer 58 = .ok (.ireturn, 1) := by decide +kernel
set_option maxRecDepth 20000 in
theorem ggX4_safeDepth_X1_noted : GoodIn wsX4_safeDepth wsX1_noted := goodIn_r _ [11, 12, 30, 31] (by decide +kernel) (by decide +kernel)
set_option maxRecDepth 20000 in
theorem gX4_safeDepth_X1_noted : GoodIn wsX4_safeDepth (wsV RX4 85 RX1 yX1_noted wsX1_noted) := goodIn_app (goodIn_of _ (by decide +kernel)) ggX4_safeDepth_X1_noted
set_option maxRecDepth 20000 in
theorem ggX4_safeDepth_X0_monthNow : GoodIn wsX4_safeDepth wsX0_monthNow := goodIn_r _ [17, 18, 32, 33, 34, 35] (by decide +kernel) (by decide +kernel)
set_option maxRecDepth 20000 in
theorem gX4_safeDepth_X0_monthNow : GoodIn wsX4_safeDepth (wsV RX4 88 RX0 yX0_monthNow wsX0_monthNow) := goodIn_app (goodIn_of _ (by decide +kernel)) ggX4_safeDepth_X0_monthNow
set_option maxRecDepth 20000 in
theorem ggX4_safeDepth_X1_age : GoodIn wsX4_safeDepth wsX1_age := goodIn_r _ [22, 12, 23, 30, 31] (by decide +kernel) (by decide +kernel)
set_option maxRecDepth 20000 in
theorem gX4_safeDepth_X1_age : GoodIn wsX4_safeDepth (wsV RX4 183 RX1 yX1_age wsX1_age) := goodIn_app (goodIn_of _ (by decide +kernel)) ggX4_safeDepth_X1_age
theorem dX4_safeDepth_0 : decode cX4_safeDepth 0 = .ok (.aload_n 0, 1) := by decide +kernel
theorem dX4_safeDepth_1 : decode cX4_safeDepth 1 = .ok (.getfield 29, 3) := by decide +kernel
theorem dX4_safeDepth_4 : decode cX4_safeDepth 4 = .ok (.iload_n 1, 1) := by decide +kernel
theorem dX4_safeDepth_5 : decode cX4_safeDepth 5 = .ok (.invokevirtual 85, 3) := by decide +kernel
theorem dX4_safeDepth_8 : decode cX4_safeDepth 8 = .ok (.istore_n 2, 1) := by decide +kernel
theorem dX4_safeDepth_9 : decode cX4_safeDepth 9 = .ok (.iload_n 2, 1) := by decide +kernel
theorem dX4_safeDepth_10 : decode cX4_safeDepth 10 = .ok (.iconst (-1), 1) := by decide +kernel
theorem dX4_safeDepth_11 : decode cX4_safeDepth 11 = .ok (.if_icmp .ne 5, 3) := by decide +kernel
theorem dX4_safeDepth_14 : decode cX4_safeDepth 14 = .ok (.iconst (-1), 1) := by decide +kernel
theorem dX4_safeDepth_15 : decode cX4_safeDepth 15 = .ok (.ireturn, 1) := by decide +kernel
theorem dX4_safeDepth_16 : decode cX4_safeDepth 16 = .ok (.iload_n 2, 1) := by decide +kernel
theorem dX4_safeDepth_17 : decode cX4_safeDepth 17 = .ok (.aload_n 0, 1) := by decide +kernel
theorem dX4_safeDepth_18 : decode cX4_safeDepth 18 = .ok (.getfield 29, 3) := by decide +kernel
theorem dX4_safeDepth_21 : decode cX4_safeDepth 21 = .ok (.iload_n 1, 1) := by decide +kernel
theorem dX4_safeDepth_22 : decode cX4_safeDepth 22 = .ok (.aload_n 0, 1) := by decide +kernel
theorem dX4_safeDepth_23 : decode cX4_safeDepth 23 = .ok (.getfield 19, 3) := by decide +kernel
theorem dX4_safeDepth_26 : decode cX4_safeDepth 26 = .ok (.invokevirtual 88, 3) := by decide +kernel
theorem dX4_safeDepth_29 : decode cX4_safeDepth 29 = .ok (.invokevirtual 183, 3) := by decide +kernel
theorem dX4_safeDepth_32 : decode cX4_safeDepth 32 = .ok (.iconst 2, 1) := by decide +kernel
theorem dX4_safeDepth_33 : decode cX4_safeDepth 33 = .ok (.idiv, 1) := by decide +kernel
theorem dX4_safeDepth_34 : decode cX4_safeDepth 34 = .ok (.isub, 1) := by decide +kernel
theorem dX4_safeDepth_35 : decode cX4_safeDepth 35 = .ok (.iconst 0, 1) := by decide +kernel
theorem dX4_safeDepth_36 : decode cX4_safeDepth 36 = .ok (.invokestatic 145, 3) := by decide +kernel
theorem dX4_safeDepth_39 : decode cX4_safeDepth 39 = .ok (.ireturn, 1) := by decide +kernel
set_option maxRecDepth 20000 in
theorem ggX4_headsOfReefAt_X4_openHeads : GoodIn wsX4_headsOfReefAt wsX4_openHeads := goodIn_r _ [7, 2, 8, 9, 10, 11, 12, 13, 14, 15, 16, 17, 18, 19, 20, 21, 22, 23, 24, 25, 26, 27, 28, 29, 45, 46, 47, 48, 49, 50, 51, 52, 53, 54, 55, 56, 57, 58] (by decide +kernel) (by decide +kernel)
set_option maxRecDepth 20000 in
theorem gX4_headsOfReefAt_X4_openHeads : GoodIn wsX4_headsOfReefAt (wsV RX4 186 RX4 yX4_openHeads wsX4_openHeads) := goodIn_app (goodIn_of _ (by decide +kernel)) ggX4_headsOfReefAt_X4_openHeads
set_option maxRecDepth 20000 in
theorem ggX4_headsOfReefAt_X2_goFromCell : GoodIn wsX4_headsOfReefAt wsX2_goFromCell := goodIn_r _ [33, 14, 34, 35, 36, 11, 37, 29, 13, 38, 39, 40, 41, 42, 43, 6, 44, 51, 52, 53, 54] (by decide +kernel) (by decide +kernel)
set_option maxRecDepth 20000 in
theorem gX4_headsOfReefAt_X2_goFromCell : GoodIn wsX4_headsOfReefAt (wsV RX4 189 RX2 yX2_goFromCell wsX2_goFromCell) := goodIn_app (goodIn_of _ (by decide +kernel)) ggX4_headsOfReefAt_X2_goFromCell
theorem dX4_headsOfReefAt_0 : decode cX4_headsOfReefAt 0 = .ok (.aload_n 0, 1) := by decide +kernel
theorem dX4_headsOfReefAt_1 : decode cX4_headsOfReefAt 1 = .ok (.aload_n 0, 1) := by decide +kernel
theorem dX4_headsOfReefAt_2 : decode cX4_headsOfReefAt 2 = .ok (.getfield 19, 3) := by decide +kernel
theorem dX4_headsOfReefAt_5 : decode cX4_headsOfReefAt 5 = .ok (.invokevirtual 186, 3) := by decide +kernel
theorem dX4_headsOfReefAt_8 : decode cX4_headsOfReefAt 8 = .ok (.aload_n 0, 1) := by decide +kernel
theorem dX4_headsOfReefAt_9 : decode cX4_headsOfReefAt 9 = .ok (.getfield 36, 3) := by decide +kernel
theorem dX4_headsOfReefAt_12 : decode cX4_headsOfReefAt 12 = .ok (.iload_n 1, 1) := by decide +kernel
theorem dX4_headsOfReefAt_13 : decode cX4_headsOfReefAt 13 = .ok (.invokevirtual 189, 3) := by decide +kernel
theorem dX4_headsOfReefAt_16 : decode cX4_headsOfReefAt 16 = .ok (.ireturn, 1) := by decide +kernel
set_option maxRecDepth 20000 in
theorem ggX4_reefsOn_X4_openHeads : GoodIn wsX4_reefsOn wsX4_openHeads := goodIn_r _ [6, 1, 7, 8, 9, 10, 11, 12, 13, 14, 15, 16, 17, 18, 19, 20, 21, 22, 23, 24, 25, 26, 27, 28, 44, 45, 46, 47, 48, 49, 50, 51, 52, 53, 54, 55, 56, 57] (by decide +kernel) (by decide +kernel)
set_option maxRecDepth 20000 in
theorem gX4_reefsOn_X4_openHeads : GoodIn wsX4_reefsOn (wsV RX4 186 RX4 yX4_openHeads wsX4_openHeads) := goodIn_app (goodIn_of _ (by decide +kernel)) ggX4_reefsOn_X4_openHeads
set_option maxRecDepth 20000 in
theorem ggX4_reefsOn_X2_goFromCell : GoodIn wsX4_reefsOn wsX2_goFromCell := goodIn_r _ [32, 13, 33, 34, 35, 10, 36, 28, 12, 37, 38, 39, 40, 41, 42, 5, 43, 50, 51, 52, 53] (by decide +kernel) (by decide +kernel)
set_option maxRecDepth 20000 in
theorem gX4_reefsOn_X2_goFromCell : GoodIn wsX4_reefsOn (wsV RX4 189 RX2 yX2_goFromCell wsX2_goFromCell) := goodIn_app (goodIn_of _ (by decide +kernel)) ggX4_reefsOn_X2_goFromCell
theorem dX4_reefsOn_0 : decode cX4_reefsOn 0 = .ok (.aload_n 0, 1) := by decide +kernel
theorem dX4_reefsOn_1 : decode cX4_reefsOn 1 = .ok (.aload_n 1, 1) := by decide +kernel
theorem dX4_reefsOn_2 : decode cX4_reefsOn 2 = .ok (.invokevirtual 186, 3) := by decide +kernel
theorem dX4_reefsOn_5 : decode cX4_reefsOn 5 = .ok (.iconst 0, 1) := by decide +kernel
theorem dX4_reefsOn_6 : decode cX4_reefsOn 6 = .ok (.istore_n 2, 1) := by decide +kernel
theorem dX4_reefsOn_7 : decode cX4_reefsOn 7 = .ok (.iconst 0, 1) := by decide +kernel
theorem dX4_reefsOn_8 : decode cX4_reefsOn 8 = .ok (.istore_n 3, 1) := by decide +kernel
theorem dX4_reefsOn_9 : decode cX4_reefsOn 9 = .ok (.iload_n 3, 1) := by decide +kernel
theorem dX4_reefsOn_10 : decode cX4_reefsOn 10 = .ok (.bipush 81, 2) := by decide +kernel
theorem dX4_reefsOn_12 : decode cX4_reefsOn 12 = .ok (.if_icmp .ge 23, 3) := by decide +kernel
theorem dX4_reefsOn_15 : decode cX4_reefsOn 15 = .ok (.aload_n 0, 1) := by decide +kernel
theorem dX4_reefsOn_16 : decode cX4_reefsOn 16 = .ok (.getfield 36, 3) := by decide +kernel
theorem dX4_reefsOn_19 : decode cX4_reefsOn 19 = .ok (.iload_n 3, 1) := by decide +kernel
theorem dX4_reefsOn_20 : decode cX4_reefsOn 20 = .ok (.invokevirtual 189, 3) := by decide +kernel
theorem dX4_reefsOn_23 : decode cX4_reefsOn 23 = .ok (.ifCond .le 6, 3) := by decide +kernel
theorem dX4_reefsOn_26 : decode cX4_reefsOn 26 = .ok (.iinc 2 1, 3) := by decide +kernel
theorem dX4_reefsOn_29 : decode cX4_reefsOn 29 = .ok (.iinc 3 1, 3) := by decide +kernel
theorem dX4_reefsOn_32 : decode cX4_reefsOn 32 = .ok (.goto (-23), 3) := by decide +kernel
theorem dX4_reefsOn_35 : decode cX4_reefsOn 35 = .ok (.iload_n 2, 1) := by decide +kernel
theorem dX4_reefsOn_36 : decode cX4_reefsOn 36 = .ok (.ireturn, 1) := by decide +kernel
set_option maxRecDepth 20000 in
theorem ggX4_headsOfLargestReef_X4_openHeads : GoodIn wsX4_headsOfLargestReef wsX4_openHeads := goodIn_r _ [11, 2, 12, 13, 14, 15, 16, 17, 18, 19, 20, 21, 22, 23, 24, 25, 26, 27, 28, 29, 30, 31, 32, 33, 49, 50, 51, 52, 53, 54, 55, 56, 57, 58, 59, 60, 61, 62] (by decide +kernel) (by decide +kernel)
set_option maxRecDepth 20000 in
theorem gX4_headsOfLargestReef_X4_openHeads : GoodIn wsX4_headsOfLargestReef (wsV RX4 186 RX4 yX4_openHeads wsX4_openHeads) := goodIn_app (goodIn_of _ (by decide +kernel)) ggX4_headsOfLargestReef_X4_openHeads
set_option maxRecDepth 20000 in
theorem ggX4_headsOfLargestReef_X2_goFromCell : GoodIn wsX4_headsOfLargestReef wsX2_goFromCell := goodIn_r _ [37, 18, 38, 39, 40, 15, 41, 33, 17, 42, 43, 44, 45, 46, 47, 10, 48, 55, 56, 57, 58] (by decide +kernel) (by decide +kernel)
set_option maxRecDepth 20000 in
theorem gX4_headsOfLargestReef_X2_goFromCell : GoodIn wsX4_headsOfLargestReef (wsV RX4 189 RX2 yX2_goFromCell wsX2_goFromCell) := goodIn_app (goodIn_of _ (by decide +kernel)) ggX4_headsOfLargestReef_X2_goFromCell
theorem dX4_headsOfLargestReef_0 : decode cX4_headsOfLargestReef 0 = .ok (.aload_n 0, 1) := by decide +kernel
theorem dX4_headsOfLargestReef_1 : decode cX4_headsOfLargestReef 1 = .ok (.aload_n 0, 1) := by decide +kernel
theorem dX4_headsOfLargestReef_2 : decode cX4_headsOfLargestReef 2 = .ok (.getfield 19, 3) := by decide +kernel
theorem dX4_headsOfLargestReef_5 : decode cX4_headsOfLargestReef 5 = .ok (.invokevirtual 186, 3) := by decide +kernel
theorem dX4_headsOfLargestReef_8 : decode cX4_headsOfLargestReef 8 = .ok (.iconst 0, 1) := by decide +kernel
theorem dX4_headsOfLargestReef_9 : decode cX4_headsOfLargestReef 9 = .ok (.istore_n 1, 1) := by decide +kernel
theorem dX4_headsOfLargestReef_10 : decode cX4_headsOfLargestReef 10 = .ok (.iconst 0, 1) := by decide +kernel
theorem dX4_headsOfLargestReef_11 : decode cX4_headsOfLargestReef 11 = .ok (.istore_n 2, 1) := by decide +kernel
theorem dX4_headsOfLargestReef_12 : decode cX4_headsOfLargestReef 12 = .ok (.iload_n 2, 1) := by decide +kernel
theorem dX4_headsOfLargestReef_13 : decode cX4_headsOfLargestReef 13 = .ok (.bipush 81, 2) := by decide +kernel
theorem dX4_headsOfLargestReef_15 : decode cX4_headsOfLargestReef 15 = .ok (.if_icmp .ge 22, 3) := by decide +kernel
theorem dX4_headsOfLargestReef_18 : decode cX4_headsOfLargestReef 18 = .ok (.iload_n 1, 1) := by decide +kernel
theorem dX4_headsOfLargestReef_19 : decode cX4_headsOfLargestReef 19 = .ok (.aload_n 0, 1) := by decide +kernel
theorem dX4_headsOfLargestReef_20 : decode cX4_headsOfLargestReef 20 = .ok (.getfield 36, 3) := by decide +kernel
theorem dX4_headsOfLargestReef_23 : decode cX4_headsOfLargestReef 23 = .ok (.iload_n 2, 1) := by decide +kernel
theorem dX4_headsOfLargestReef_24 : decode cX4_headsOfLargestReef 24 = .ok (.invokevirtual 189, 3) := by decide +kernel
theorem dX4_headsOfLargestReef_27 : decode cX4_headsOfLargestReef 27 = .ok (.invokestatic 145, 3) := by decide +kernel
theorem dX4_headsOfLargestReef_30 : decode cX4_headsOfLargestReef 30 = .ok (.istore_n 1, 1) := by decide +kernel
theorem dX4_headsOfLargestReef_31 : decode cX4_headsOfLargestReef 31 = .ok (.iinc 2 1, 3) := by decide +kernel
theorem dX4_headsOfLargestReef_34 : decode cX4_headsOfLargestReef 34 = .ok (.goto (-22), 3) := by decide +kernel
theorem dX4_headsOfLargestReef_37 : decode cX4_headsOfLargestReef 37 = .ok (.iload_n 1, 1) := by decide +kernel
theorem dX4_headsOfLargestReef_38 : decode cX4_headsOfLargestReef 38 = .ok (.ireturn, 1) := by decide +kernel
set_option maxRecDepth 20000 in
theorem ggX4_openHeads_X2_clear : GoodIn wsX4_openHeads wsX2_clear := goodIn_r _ [6, 7, 8, 9, 10, 11, 12, 30, 31, 32, 33] (by decide +kernel) (by decide +kernel)
set_option maxRecDepth 20000 in
theorem gX4_openHeads_X2_clear : GoodIn wsX4_openHeads (wsV RX4 192 RX2 yX2_clear wsX2_clear) := goodIn_app (goodIn_of _ (by decide +kernel)) ggX4_openHeads_X2_clear
set_option maxRecDepth 20000 in
theorem ggX4_openHeads_X0_isHead : GoodIn wsX4_openHeads wsX0_isHead := goodIn_r _ [17, 18, 34, 35, 36, 37] (by decide +kernel) (by decide +kernel)
set_option maxRecDepth 20000 in
theorem gX4_openHeads_X0_isHead : GoodIn wsX4_openHeads (wsV RX4 78 RX0 yX0_isHead wsX0_isHead) := goodIn_app (goodIn_of _ (by decide +kernel)) ggX4_openHeads_X0_isHead
set_option maxRecDepth 20000 in
theorem ggX4_openHeads_X2_setOpen : GoodIn wsX4_openHeads wsX2_setOpen := goodIn_r _ [22, 23, 30, 31, 32, 33] (by decide +kernel) (by decide +kernel)
set_option maxRecDepth 20000 in
theorem gX4_openHeads_X2_setOpen : GoodIn wsX4_openHeads (wsV RX4 195 RX2 yX2_setOpen wsX2_setOpen) := goodIn_app (goodIn_of _ (by decide +kernel)) ggX4_openHeads_X2_setOpen
theorem dX4_openHeads_0 : decode cX4_openHeads 0 = .ok (.aload_n 0, 1) := by decide +kernel
theorem dX4_openHeads_1 : decode cX4_openHeads 1 = .ok (.getfield 36, 3) := by decide +kernel
theorem dX4_openHeads_4 : decode cX4_openHeads 4 = .ok (.invokevirtual 192, 3) := by decide +kernel
theorem dX4_openHeads_7 : decode cX4_openHeads 7 = .ok (.iconst 0, 1) := by decide +kernel
theorem dX4_openHeads_8 : decode cX4_openHeads 8 = .ok (.istore_n 2, 1) := by decide +kernel
theorem dX4_openHeads_9 : decode cX4_openHeads 9 = .ok (.iload_n 2, 1) := by decide +kernel
theorem dX4_openHeads_10 : decode cX4_openHeads 10 = .ok (.bipush 81, 2) := by decide +kernel
theorem dX4_openHeads_12 : decode cX4_openHeads 12 = .ok (.if_icmp .ge 22, 3) := by decide +kernel
theorem dX4_openHeads_15 : decode cX4_openHeads 15 = .ok (.aload_n 0, 1) := by decide +kernel
theorem dX4_openHeads_16 : decode cX4_openHeads 16 = .ok (.getfield 36, 3) := by decide +kernel
theorem dX4_openHeads_19 : decode cX4_openHeads 19 = .ok (.iload_n 2, 1) := by decide +kernel
theorem dX4_openHeads_20 : decode cX4_openHeads 20 = .ok (.aload_n 1, 1) := by decide +kernel
theorem dX4_openHeads_21 : decode cX4_openHeads 21 = .ok (.iload_n 2, 1) := by decide +kernel
theorem dX4_openHeads_22 : decode cX4_openHeads 22 = .ok (.invokevirtual 78, 3) := by decide +kernel
theorem dX4_openHeads_25 : decode cX4_openHeads 25 = .ok (.invokevirtual 195, 3) := by decide +kernel
theorem dX4_openHeads_28 : decode cX4_openHeads 28 = .ok (.iinc 2 1, 3) := by decide +kernel
theorem dX4_openHeads_31 : decode cX4_openHeads 31 = .ok (.goto (-22), 3) := by decide +kernel
theorem dX4_openHeads_34 : decode cX4_openHeads 34 = .ok (.return_, 1) := by decide +kernel
set_option maxRecDepth 20000 in
theorem ggX4_countOn_X4_countOnChart : GoodIn wsX4_countOn wsX4_countOnChart := goodIn_r _ [6, 7, 8, 9, 10, 5, 11, 12, 1, 13, 14, 15, 16, 17, 18, 19, 20, 21, 22, 23, 24, 25, 26, 27, 28, 29, 30, 31, 32, 33, 45, 46, 47, 48, 49, 50, 51, 52, 53, 54, 55, 56] (by decide +kernel) (by decide +kernel)
set_option maxRecDepth 20000 in
theorem gX4_countOn_X4_countOnChart : GoodIn wsX4_countOn (wsV RX4 199 RX4 yX4_countOnChart wsX4_countOnChart) := goodIn_app (goodIn_of _ (by decide +kernel)) ggX4_countOn_X4_countOnChart
set_option maxRecDepth 20000 in
theorem ggX4_countOn_X4_countOnDepths : GoodIn wsX4_countOn wsX4_countOnDepths := goodIn_r _ [37, 7, 38, 39, 40, 26, 41, 42, 43, 44, 14, 15, 16, 45, 46, 47, 48, 49, 50, 53, 54, 55, 56] (by decide +kernel) (by decide +kernel)
set_option maxRecDepth 20000 in
theorem gX4_countOn_X4_countOnDepths : GoodIn wsX4_countOn (wsV RX4 135 RX4 yX4_countOnDepths wsX4_countOnDepths) := goodIn_app (goodIn_of _ (by decide +kernel)) ggX4_countOn_X4_countOnDepths
theorem dX4_countOn_0 : decode cX4_countOn 0 = .ok (.iload_n 1, 1) := by decide +kernel
theorem dX4_countOn_1 : decode cX4_countOn 1 = .ok (.ifCond .eq 10, 3) := by decide +kernel
theorem dX4_countOn_4 : decode cX4_countOn 4 = .ok (.aload_n 0, 1) := by decide +kernel
theorem dX4_countOn_5 : decode cX4_countOn 5 = .ok (.invokevirtual 199, 3) := by decide +kernel
theorem dX4_countOn_8 : decode cX4_countOn 8 = .ok (.goto 11, 3) := by decide +kernel
theorem dX4_countOn_11 : decode cX4_countOn 11 = .ok (.aload_n 0, 1) := by decide +kernel
theorem dX4_countOn_12 : decode cX4_countOn 12 = .ok (.aload_n 0, 1) := by decide +kernel
theorem dX4_countOn_13 : decode cX4_countOn 13 = .ok (.getfield 19, 3) := by decide +kernel
theorem dX4_countOn_16 : decode cX4_countOn 16 = .ok (.invokevirtual 135, 3) := by decide +kernel
theorem dX4_countOn_19 : decode cX4_countOn 19 = .ok (.return_, 1) := by decide +kernel
set_option maxRecDepth 20000 in
theorem ggX4_countOnChart_X4_safeDepth : GoodIn wsX4_countOnChart wsX4_safeDepth := goodIn_r _ [6, 7, 8, 9, 10, 11, 12, 13, 14, 15, 16, 17, 18, 19, 20, 21, 22, 23, 24, 25, 26, 27, 28, 29, 30, 31, 32, 33, 34, 35, 36, 37, 38, 39, 40, 41] (by decide +kernel) (by decide +kernel)
set_option maxRecDepth 20000 in
theorem gX4_countOnChart_X4_safeDepth : GoodIn wsX4_countOnChart (wsV RX4 142 RX4 yX4_safeDepth wsX4_safeDepth) := goodIn_app (goodIn_of _ (by decide +kernel)) ggX4_countOnChart_X4_safeDepth
theorem dX4_countOnChart_0 : decode cX4_countOnChart 0 = .ok (.iconst 0, 1) := by decide +kernel
theorem dX4_countOnChart_1 : decode cX4_countOnChart 1 = .ok (.istore_n 1, 1) := by decide +kernel
theorem dX4_countOnChart_2 : decode cX4_countOnChart 2 = .ok (.iload_n 1, 1) := by decide +kernel
theorem dX4_countOnChart_3 : decode cX4_countOnChart 3 = .ok (.bipush 81, 2) := by decide +kernel
theorem dX4_countOnChart_5 : decode cX4_countOnChart 5 = .ok (.if_icmp .ge 20, 3) := by decide +kernel
theorem dX4_countOnChart_8 : decode cX4_countOnChart 8 = .ok (.aload_n 0, 1) := by decide +kernel
theorem dX4_countOnChart_9 : decode cX4_countOnChart 9 = .ok (.getfield 40, 3) := by decide +kernel
theorem dX4_countOnChart_12 : decode cX4_countOnChart 12 = .ok (.iload_n 1, 1) := by decide +kernel
theorem dX4_countOnChart_13 : decode cX4_countOnChart 13 = .ok (.aload_n 0, 1) := by decide +kernel
theorem dX4_countOnChart_14 : decode cX4_countOnChart 14 = .ok (.iload_n 1, 1) := by decide +kernel
theorem dX4_countOnChart_15 : decode cX4_countOnChart 15 = .ok (.invokevirtual 142, 3) := by decide +kernel
theorem dX4_countOnChart_18 : decode cX4_countOnChart 18 = .ok (.iastore, 1) := by decide +kernel
theorem dX4_countOnChart_19 : decode cX4_countOnChart 19 = .ok (.iinc 1 1, 3) := by decide +kernel
theorem dX4_countOnChart_22 : decode cX4_countOnChart 22 = .ok (.goto (-20), 3) := by decide +kernel
theorem dX4_countOnChart_25 : decode cX4_countOnChart 25 = .ok (.return_, 1) := by decide +kernel
set_option maxRecDepth 20000 in
theorem ggX4_countOnDepths_X0_depthOf : GoodIn wsX4_countOnDepths wsX0_depthOf := goodIn_r _ [6, 7, 8, 9, 10, 11, 12, 19, 20, 21, 22] (by decide +kernel) (by decide +kernel)
set_option maxRecDepth 20000 in
theorem gX4_countOnDepths_X0_depthOf : GoodIn wsX4_countOnDepths (wsV RX4 75 RX0 yX0_depthOf wsX0_depthOf) := goodIn_app (goodIn_of _ (by decide +kernel)) ggX4_countOnDepths_X0_depthOf
theorem dX4_countOnDepths_0 : decode cX4_countOnDepths 0 = .ok (.iconst 0, 1) := by decide +kernel
theorem dX4_countOnDepths_1 : decode cX4_countOnDepths 1 = .ok (.istore_n 2, 1) := by decide +kernel
theorem dX4_countOnDepths_2 : decode cX4_countOnDepths 2 = .ok (.iload_n 2, 1) := by decide +kernel
theorem dX4_countOnDepths_3 : decode cX4_countOnDepths 3 = .ok (.bipush 81, 2) := by decide +kernel
theorem dX4_countOnDepths_5 : decode cX4_countOnDepths 5 = .ok (.if_icmp .ge 20, 3) := by decide +kernel
theorem dX4_countOnDepths_8 : decode cX4_countOnDepths 8 = .ok (.aload_n 0, 1) := by decide +kernel
theorem dX4_countOnDepths_9 : decode cX4_countOnDepths 9 = .ok (.getfield 40, 3) := by decide +kernel
theorem dX4_countOnDepths_12 : decode cX4_countOnDepths 12 = .ok (.iload_n 2, 1) := by decide +kernel
theorem dX4_countOnDepths_13 : decode cX4_countOnDepths 13 = .ok (.aload_n 1, 1) := by decide +kernel
theorem dX4_countOnDepths_14 : decode cX4_countOnDepths 14 = .ok (.iload_n 2, 1) := by decide +kernel
theorem dX4_countOnDepths_15 : decode cX4_countOnDepths 15 = .ok (.invokevirtual 75, 3) := by decide +kernel
theorem dX4_countOnDepths_18 : decode cX4_countOnDepths 18 = .ok (.iastore, 1) := by decide +kernel
theorem dX4_countOnDepths_19 : decode cX4_countOnDepths 19 = .ok (.iinc 2 1, 3) := by decide +kernel
theorem dX4_countOnDepths_22 : decode cX4_countOnDepths 22 = .ok (.goto (-20), 3) := by decide +kernel
theorem dX4_countOnDepths_25 : decode cX4_countOnDepths 25 = .ok (.return_, 1) := by decide +kernel
set_option maxRecDepth 20000 in
theorem ggX4_openWater_X2_clear : GoodIn wsX4_openWater wsX2_clear := goodIn_r _ [7, 8, 9, 10, 11, 12, 13, 25, 26, 27, 28] (by decide +kernel) (by decide +kernel)
set_option maxRecDepth 20000 in
theorem gX4_openWater_X2_clear : GoodIn wsX4_openWater (wsV RX4 192 RX2 yX2_clear wsX2_clear) := goodIn_app (goodIn_of _ (by decide +kernel)) ggX4_openWater_X2_clear
set_option maxRecDepth 20000 in
theorem ggX4_openWater_X2_setOpen : GoodIn wsX4_openWater wsX2_setOpen := goodIn_r _ [17, 18, 25, 26, 27, 28] (by decide +kernel) (by decide +kernel)
set_option maxRecDepth 20000 in
theorem gX4_openWater_X2_setOpen : GoodIn wsX4_openWater (wsV RX4 195 RX2 yX2_setOpen wsX2_setOpen) := goodIn_app (goodIn_of _ (by decide +kernel)) ggX4_openWater_X2_setOpen
theorem dX4_openWater_0 : decode cX4_openWater 0 = .ok (.aload_n 0, 1) := by decide +kernel
theorem dX4_openWater_1 : decode cX4_openWater 1 = .ok (.getfield 36, 3) := by decide +kernel
theorem dX4_openWater_4 : decode cX4_openWater 4 = .ok (.invokevirtual 192, 3) := by decide +kernel
theorem dX4_openWater_7 : decode cX4_openWater 7 = .ok (.iconst 0, 1) := by decide +kernel
theorem dX4_openWater_8 : decode cX4_openWater 8 = .ok (.istore_n 2, 1) := by decide +kernel
theorem dX4_openWater_9 : decode cX4_openWater 9 = .ok (.iload_n 2, 1) := by decide +kernel
theorem dX4_openWater_10 : decode cX4_openWater 10 = .ok (.bipush 81, 2) := by decide +kernel
theorem dX4_openWater_12 : decode cX4_openWater 12 = .ok (.if_icmp .ge 32, 3) := by decide +kernel
theorem dX4_openWater_15 : decode cX4_openWater 15 = .ok (.aload_n 0, 1) := by decide +kernel
theorem dX4_openWater_16 : decode cX4_openWater 16 = .ok (.getfield 36, 3) := by decide +kernel
theorem dX4_openWater_19 : decode cX4_openWater 19 = .ok (.iload_n 2, 1) := by decide +kernel
theorem dX4_openWater_20 : decode cX4_openWater 20 = .ok (.aload_n 0, 1) := by decide +kernel
theorem dX4_openWater_21 : decode cX4_openWater 21 = .ok (.getfield 40, 3) := by decide +kernel
theorem dX4_openWater_24 : decode cX4_openWater 24 = .ok (.iload_n 2, 1) := by decide +kernel
theorem dX4_openWater_25 : decode cX4_openWater 25 = .ok (.iaload, 1) := by decide +kernel
theorem dX4_openWater_26 : decode cX4_openWater 26 = .ok (.iload_n 1, 1) := by decide +kernel
theorem dX4_openWater_27 : decode cX4_openWater 27 = .ok (.if_icmp .le 7, 3) := by decide +kernel
theorem dX4_openWater_30 : decode cX4_openWater 30 = .ok (.iconst 1, 1) := by decide +kernel
theorem dX4_openWater_31 : decode cX4_openWater 31 = .ok (.goto 4, 3) := by decide +kernel
theorem dX4_openWater_34 : decode cX4_openWater 34 = .ok (.iconst 0, 1) := by decide +kernel
theorem dX4_openWater_35 : decode cX4_openWater 35 = .ok (.invokevirtual 195, 3) := by decide +kernel
theorem dX4_openWater_38 : decode cX4_openWater 38 = .ok (.iinc 2 1, 3) := by decide +kernel
theorem dX4_openWater_41 : decode cX4_openWater 41 = .ok (.goto (-32), 3) := by decide +kernel
theorem dX4_openWater_44 : decode cX4_openWater 44 = .ok (.return_, 1) := by decide +kernel
set_option maxRecDepth 20000 in
theorem ggX4_startOfShortestWay_X4_openWater : GoodIn wsX4_startOfShortestWay wsX4_openWater := goodIn_r _ [6, 1, 7, 8, 9, 10, 11, 12, 13, 14, 15, 16, 17, 18, 19, 20, 21, 22, 23, 43, 44, 45, 46, 47, 48, 49, 50, 51, 52] (by decide +kernel) (by decide +kernel)
set_option maxRecDepth 20000 in
theorem gX4_startOfShortestWay_X4_openWater : GoodIn wsX4_startOfShortestWay (wsV RX4 111 RX4 yX4_openWater wsX4_openWater) := goodIn_app (goodIn_of _ (by decide +kernel)) ggX4_startOfShortestWay_X4_openWater
set_option maxRecDepth 20000 in
theorem ggX4_startOfShortestWay_X2_goFromRow : GoodIn wsX4_startOfShortestWay wsX2_goFromRow := goodIn_r _ [27, 14, 28, 29, 30, 11, 31, 23, 13, 32, 33, 34, 35, 36, 37, 5, 38, 49, 50, 51, 52] (by decide +kernel) (by decide +kernel)
set_option maxRecDepth 20000 in
theorem gX4_startOfShortestWay_X2_goFromRow : GoodIn wsX4_startOfShortestWay (wsV RX4 115 RX2 yX2_goFromRow wsX2_goFromRow) := goodIn_app (goodIn_of _ (by decide +kernel)) ggX4_startOfShortestWay_X2_goFromRow
set_option maxRecDepth 20000 in
theorem ggX4_startOfShortestWay_X2_stepsTo : GoodIn wsX4_startOfShortestWay wsX2_stepsTo := goodIn_r _ [42, 13, 49, 50, 51, 52] (by decide +kernel) (by decide +kernel)
set_option maxRecDepth 20000 in
theorem gX4_startOfShortestWay_X2_stepsTo : GoodIn wsX4_startOfShortestWay (wsV RX4 105 RX2 yX2_stepsTo wsX2_stepsTo) := goodIn_app (goodIn_of _ (by decide +kernel)) ggX4_startOfShortestWay_X2_stepsTo
theorem dX4_startOfShortestWay_0 : decode cX4_startOfShortestWay 0 = .ok (.aload_n 0, 1) := by decide +kernel
theorem dX4_startOfShortestWay_1 : decode cX4_startOfShortestWay 1 = .ok (.iload_n 1, 1) := by decide +kernel
theorem dX4_startOfShortestWay_2 : decode cX4_startOfShortestWay 2 = .ok (.invokevirtual 111, 3) := by decide +kernel
theorem dX4_startOfShortestWay_5 : decode cX4_startOfShortestWay 5 = .ok (.aload_n 0, 1) := by decide +kernel
theorem dX4_startOfShortestWay_6 : decode cX4_startOfShortestWay 6 = .ok (.getfield 36, 3) := by decide +kernel
theorem dX4_startOfShortestWay_9 : decode cX4_startOfShortestWay 9 = .ok (.bipush 72, 2) := by decide +kernel
theorem dX4_startOfShortestWay_11 : decode cX4_startOfShortestWay 11 = .ok (.invokevirtual 115, 3) := by decide +kernel
theorem dX4_startOfShortestWay_14 : decode cX4_startOfShortestWay 14 = .ok (.iconst (-1), 1) := by decide +kernel
theorem dX4_startOfShortestWay_15 : decode cX4_startOfShortestWay 15 = .ok (.istore_n 2, 1) := by decide +kernel
theorem dX4_startOfShortestWay_16 : decode cX4_startOfShortestWay 16 = .ok (.iconst 0, 1) := by decide +kernel
theorem dX4_startOfShortestWay_17 : decode cX4_startOfShortestWay 17 = .ok (.istore_n 3, 1) := by decide +kernel
theorem dX4_startOfShortestWay_18 : decode cX4_startOfShortestWay 18 = .ok (.iload_n 3, 1) := by decide +kernel
theorem dX4_startOfShortestWay_19 : decode cX4_startOfShortestWay 19 = .ok (.bipush 9, 2) := by decide +kernel
theorem dX4_startOfShortestWay_21 : decode cX4_startOfShortestWay 21 = .ok (.if_icmp .ge 44, 3) := by decide +kernel
theorem dX4_startOfShortestWay_24 : decode cX4_startOfShortestWay 24 = .ok (.aload_n 0, 1) := by decide +kernel
theorem dX4_startOfShortestWay_25 : decode cX4_startOfShortestWay 25 = .ok (.getfield 36, 3) := by decide +kernel
theorem dX4_startOfShortestWay_28 : decode cX4_startOfShortestWay 28 = .ok (.iload_n 3, 1) := by decide +kernel
theorem dX4_startOfShortestWay_29 : decode cX4_startOfShortestWay 29 = .ok (.invokevirtual 105, 3) := by decide +kernel
theorem dX4_startOfShortestWay_32 : decode cX4_startOfShortestWay 32 = .ok (.istore 4, 2) := by decide +kernel
theorem dX4_startOfShortestWay_34 : decode cX4_startOfShortestWay 34 = .ok (.iload 4, 2) := by decide +kernel
theorem dX4_startOfShortestWay_36 : decode cX4_startOfShortestWay 36 = .ok (.ifCond .le 23, 3) := by decide +kernel
theorem dX4_startOfShortestWay_39 : decode cX4_startOfShortestWay 39 = .ok (.iload_n 2, 1) := by decide +kernel
theorem dX4_startOfShortestWay_40 : decode cX4_startOfShortestWay 40 = .ok (.iconst (-1), 1) := by decide +kernel
theorem dX4_startOfShortestWay_41 : decode cX4_startOfShortestWay 41 = .ok (.if_icmp .eq 16, 3) := by decide +kernel
theorem dX4_startOfShortestWay_44 : decode cX4_startOfShortestWay 44 = .ok (.iload 4, 2) := by decide +kernel
theorem dX4_startOfShortestWay_46 : decode cX4_startOfShortestWay 46 = .ok (.aload_n 0, 1) := by decide +kernel
theorem dX4_startOfShortestWay_47 : decode cX4_startOfShortestWay 47 = .ok (.getfield 36, 3) := by decide +kernel
theorem dX4_startOfShortestWay_50 : decode cX4_startOfShortestWay 50 = .ok (.iload_n 2, 1) := by decide +kernel
theorem dX4_startOfShortestWay_51 : decode cX4_startOfShortestWay 51 = .ok (.invokevirtual 105, 3) := by decide +kernel
theorem dX4_startOfShortestWay_54 : decode cX4_startOfShortestWay 54 = .ok (.if_icmp .ge 5, 3) := by decide +kernel
theorem dX4_startOfShortestWay_57 : decode cX4_startOfShortestWay 57 = .ok (.iload_n 3, 1) := by decide +kernel
theorem dX4_startOfShortestWay_58 : decode cX4_startOfShortestWay 58 = .ok (.istore_n 2, 1) := by decide +kernel
theorem dX4_startOfShortestWay_59 : decode cX4_startOfShortestWay 59 = .ok (.iinc 3 1, 3) := by decide +kernel
theorem dX4_startOfShortestWay_62 : decode cX4_startOfShortestWay 62 = .ok (.goto (-44), 3) := by decide +kernel
theorem dX4_startOfShortestWay_65 : decode cX4_startOfShortestWay 65 = .ok (.iload_n 2, 1) := by decide +kernel
theorem dX4_startOfShortestWay_66 : decode cX4_startOfShortestWay 66 = .ok (.ireturn, 1) := by decide +kernel
set_option maxRecDepth 20000 in
theorem ggX4_greatestDraught_X4_startOfShortestWay : GoodIn wsX4_greatestDraught wsX4_startOfShortestWay := goodIn_r _ [5, 6, 7, 8, 9, 4, 10, 11, 12, 13, 14, 15, 16, 17, 18, 19, 20, 21, 22, 23, 24, 25, 26, 27, 28, 29, 30, 31, 32, 33, 34, 35, 36, 37, 38, 39, 40, 41, 42, 43, 44, 45, 46, 47, 48, 49, 50, 51, 52, 53, 54, 55, 56] (by decide +kernel) (by decide +kernel)
set_option maxRecDepth 20000 in
theorem gX4_greatestDraught_X4_startOfShortestWay : GoodIn wsX4_greatestDraught (wsV RX4 102 RX4 yX4_startOfShortestWay wsX4_startOfShortestWay) := goodIn_app (goodIn_of _ (by decide +kernel)) ggX4_greatestDraught_X4_startOfShortestWay
theorem dX4_greatestDraught_0 : decode cX4_greatestDraught 0 = .ok (.bipush 39, 2) := by decide +kernel
theorem dX4_greatestDraught_2 : decode cX4_greatestDraught 2 = .ok (.istore_n 1, 1) := by decide +kernel
theorem dX4_greatestDraught_3 : decode cX4_greatestDraught 3 = .ok (.iload_n 1, 1) := by decide +kernel
theorem dX4_greatestDraught_4 : decode cX4_greatestDraught 4 = .ok (.ifCond .lt 20, 3) := by decide +kernel
theorem dX4_greatestDraught_7 : decode cX4_greatestDraught 7 = .ok (.aload_n 0, 1) := by decide +kernel
theorem dX4_greatestDraught_8 : decode cX4_greatestDraught 8 = .ok (.iload_n 1, 1) := by decide +kernel
theorem dX4_greatestDraught_9 : decode cX4_greatestDraught 9 = .ok (.invokevirtual 102, 3) := by decide +kernel
theorem dX4_greatestDraught_12 : decode cX4_greatestDraught 12 = .ok (.iconst (-1), 1) := by decide +kernel
theorem dX4_greatestDraught_13 : decode cX4_greatestDraught 13 = .ok (.if_icmp .eq 5, 3) := by decide +kernel
theorem dX4_greatestDraught_16 : decode cX4_greatestDraught 16 = .ok (.iload_n 1, 1) := by decide +kernel
theorem dX4_greatestDraught_17 : decode cX4_greatestDraught 17 = .ok (.ireturn, 1) := by decide +kernel
theorem dX4_greatestDraught_18 : decode cX4_greatestDraught 18 = .ok (.iinc 1 (-1), 3) := by decide +kernel
theorem dX4_greatestDraught_21 : decode cX4_greatestDraught 21 = .ok (.goto (-18), 3) := by decide +kernel
theorem dX4_greatestDraught_24 : decode cX4_greatestDraught 24 = .ok (.iconst (-1), 1) := by decide +kernel
theorem dX4_greatestDraught_25 : decode cX4_greatestDraught 25 = .ok (.ireturn, 1) := by decide +kernel
set_option maxRecDepth 20000 in
theorem ggX4_leadFrom_X2_stepsTo : GoodIn wsX4_leadFrom wsX2_stepsTo := goodIn_r _ [7, 8, 33, 34, 35, 36] (by decide +kernel) (by decide +kernel)
set_option maxRecDepth 20000 in
theorem gX4_leadFrom_X2_stepsTo : GoodIn wsX4_leadFrom (wsV RX4 105 RX2 yX2_stepsTo wsX2_stepsTo) := goodIn_app (goodIn_of _ (by decide +kernel)) ggX4_leadFrom_X2_stepsTo
set_option maxRecDepth 20000 in
theorem ggX4_leadFrom_X0_depthOf : GoodIn wsX4_leadFrom wsX0_depthOf := goodIn_r _ [13, 14, 15, 16, 17, 18, 19, 37, 38, 39, 40] (by decide +kernel) (by decide +kernel)
set_option maxRecDepth 20000 in
theorem gX4_leadFrom_X0_depthOf : GoodIn wsX4_leadFrom (wsV RX4 75 RX0 yX0_depthOf wsX0_depthOf) := goodIn_app (goodIn_of _ (by decide +kernel)) ggX4_leadFrom_X0_depthOf
set_option maxRecDepth 20000 in
theorem ggX4_leadFrom_X2_nearerFrom : GoodIn wsX4_leadFrom wsX2_nearerFrom := goodIn_r _ [23, 8, 24, 25, 26, 33, 34, 35, 36] (by decide +kernel) (by decide +kernel)
set_option maxRecDepth 20000 in
theorem gX4_leadFrom_X2_nearerFrom : GoodIn wsX4_leadFrom (wsV RX4 202 RX2 yX2_nearerFrom wsX2_nearerFrom) := goodIn_app (goodIn_of _ (by decide +kernel)) ggX4_leadFrom_X2_nearerFrom
theorem dX4_leadFrom_0 : decode cX4_leadFrom 0 = .ok (.iload_n 1, 1) := by decide +kernel
theorem dX4_leadFrom_1 : decode cX4_leadFrom 1 = .ok (.istore_n 3, 1) := by decide +kernel
theorem dX4_leadFrom_2 : decode cX4_leadFrom 2 = .ok (.aload_n 0, 1) := by decide +kernel
theorem dX4_leadFrom_3 : decode cX4_leadFrom 3 = .ok (.getfield 36, 3) := by decide +kernel
theorem dX4_leadFrom_6 : decode cX4_leadFrom 6 = .ok (.iload_n 1, 1) := by decide +kernel
theorem dX4_leadFrom_7 : decode cX4_leadFrom 7 = .ok (.invokevirtual 105, 3) := by decide +kernel
theorem dX4_leadFrom_10 : decode cX4_leadFrom 10 = .ok (.istore 4, 2) := by decide +kernel
theorem dX4_leadFrom_12 : decode cX4_leadFrom 12 = .ok (.iload 4, 2) := by decide +kernel
theorem dX4_leadFrom_14 : decode cX4_leadFrom 14 = .ok (.ifCond .le 32, 3) := by decide +kernel
theorem dX4_leadFrom_17 : decode cX4_leadFrom 17 = .ok (.aload_n 0, 1) := by decide +kernel
theorem dX4_leadFrom_18 : decode cX4_leadFrom 18 = .ok (.getfield 19, 3) := by decide +kernel
theorem dX4_leadFrom_21 : decode cX4_leadFrom 21 = .ok (.iload_n 3, 1) := by decide +kernel
theorem dX4_leadFrom_22 : decode cX4_leadFrom 22 = .ok (.invokevirtual 75, 3) := by decide +kernel
theorem dX4_leadFrom_25 : decode cX4_leadFrom 25 = .ok (.iload_n 2, 1) := by decide +kernel
theorem dX4_leadFrom_26 : decode cX4_leadFrom 26 = .ok (.if_icmp .gt 5, 3) := by decide +kernel
theorem dX4_leadFrom_29 : decode cX4_leadFrom 29 = .ok (.iload_n 3, 1) := by decide +kernel
theorem dX4_leadFrom_30 : decode cX4_leadFrom 30 = .ok (.ireturn, 1) := by decide +kernel
theorem dX4_leadFrom_31 : decode cX4_leadFrom 31 = .ok (.aload_n 0, 1) := by decide +kernel
theorem dX4_leadFrom_32 : decode cX4_leadFrom 32 = .ok (.getfield 36, 3) := by decide +kernel
theorem dX4_leadFrom_35 : decode cX4_leadFrom 35 = .ok (.iload_n 3, 1) := by decide +kernel
theorem dX4_leadFrom_36 : decode cX4_leadFrom 36 = .ok (.invokevirtual 202, 3) := by decide +kernel
theorem dX4_leadFrom_39 : decode cX4_leadFrom 39 = .ok (.istore_n 3, 1) := by decide +kernel
theorem dX4_leadFrom_40 : decode cX4_leadFrom 40 = .ok (.iinc 4 (-1), 3) := by decide +kernel
theorem dX4_leadFrom_43 : decode cX4_leadFrom 43 = .ok (.goto (-31), 3) := by decide +kernel
theorem dX4_leadFrom_46 : decode cX4_leadFrom 46 = .ok (.bipush 81, 2) := by decide +kernel
theorem dX4_leadFrom_48 : decode cX4_leadFrom 48 = .ok (.ireturn, 1) := by decide +kernel
theorem dX4_neighbour_0 : decode cX4_neighbour 0 = .ok (.iload_n 0, 1) := by decide +kernel
theorem dX4_neighbour_1 : decode cX4_neighbour 1 = .ok (.bipush 9, 2) := by decide +kernel
theorem dX4_neighbour_3 : decode cX4_neighbour 3 = .ok (.irem, 1) := by decide +kernel
theorem dX4_neighbour_4 : decode cX4_neighbour 4 = .ok (.istore_n 2, 1) := by decide +kernel
theorem dX4_neighbour_5 : decode cX4_neighbour 5 = .ok (.iload_n 1, 1) := by decide +kernel
theorem dX4_neighbour_6 : decode cX4_neighbour 6 = .ok (.tableswitch 67 0 2 #[26, 41, 53], 26) := by decide +kernel
theorem dX4_neighbour_32 : decode cX4_neighbour 32 = .ok (.iload_n 0, 1) := by decide +kernel
theorem dX4_neighbour_33 : decode cX4_neighbour 33 = .ok (.bipush 9, 2) := by decide +kernel
theorem dX4_neighbour_35 : decode cX4_neighbour 35 = .ok (.if_icmp .lt 10, 3) := by decide +kernel
theorem dX4_neighbour_38 : decode cX4_neighbour 38 = .ok (.iload_n 0, 1) := by decide +kernel
theorem dX4_neighbour_39 : decode cX4_neighbour 39 = .ok (.bipush 9, 2) := by decide +kernel
theorem dX4_neighbour_41 : decode cX4_neighbour 41 = .ok (.isub, 1) := by decide +kernel
theorem dX4_neighbour_42 : decode cX4_neighbour 42 = .ok (.goto 4, 3) := by decide +kernel
theorem dX4_neighbour_45 : decode cX4_neighbour 45 = .ok (.iconst (-1), 1) := by decide +kernel
theorem dX4_neighbour_46 : decode cX4_neighbour 46 = .ok (.ireturn, 1) := by decide +kernel
theorem dX4_neighbour_47 : decode cX4_neighbour 47 = .ok (.iload_n 2, 1) := by decide +kernel
theorem dX4_neighbour_48 : decode cX4_neighbour 48 = .ok (.ifCond .le 9, 3) := by decide +kernel
theorem dX4_neighbour_51 : decode cX4_neighbour 51 = .ok (.iload_n 0, 1) := by decide +kernel
theorem dX4_neighbour_52 : decode cX4_neighbour 52 = .ok (.iconst 1, 1) := by decide +kernel
theorem dX4_neighbour_53 : decode cX4_neighbour 53 = .ok (.isub, 1) := by decide +kernel
theorem dX4_neighbour_54 : decode cX4_neighbour 54 = .ok (.goto 4, 3) := by decide +kernel
theorem dX4_neighbour_57 : decode cX4_neighbour 57 = .ok (.iconst (-1), 1) := by decide +kernel
theorem dX4_neighbour_58 : decode cX4_neighbour 58 = .ok (.ireturn, 1) := by decide +kernel
theorem dX4_neighbour_59 : decode cX4_neighbour 59 = .ok (.iload_n 2, 1) := by decide +kernel
theorem dX4_neighbour_60 : decode cX4_neighbour 60 = .ok (.bipush 8, 2) := by decide +kernel
theorem dX4_neighbour_62 : decode cX4_neighbour 62 = .ok (.if_icmp .ge 9, 3) := by decide +kernel
theorem dX4_neighbour_65 : decode cX4_neighbour 65 = .ok (.iload_n 0, 1) := by decide +kernel
theorem dX4_neighbour_66 : decode cX4_neighbour 66 = .ok (.iconst 1, 1) := by decide +kernel
theorem dX4_neighbour_67 : decode cX4_neighbour 67 = .ok (.iadd, 1) := by decide +kernel
theorem dX4_neighbour_68 : decode cX4_neighbour 68 = .ok (.goto 4, 3) := by decide +kernel
theorem dX4_neighbour_71 : decode cX4_neighbour 71 = .ok (.iconst (-1), 1) := by decide +kernel
theorem dX4_neighbour_72 : decode cX4_neighbour 72 = .ok (.ireturn, 1) := by decide +kernel
theorem dX4_neighbour_73 : decode cX4_neighbour 73 = .ok (.iload_n 0, 1) := by decide +kernel
theorem dX4_neighbour_74 : decode cX4_neighbour 74 = .ok (.bipush 72, 2) := by decide +kernel
theorem dX4_neighbour_76 : decode cX4_neighbour 76 = .ok (.if_icmp .ge 10, 3) := by decide +kernel
theorem dX4_neighbour_79 : decode cX4_neighbour 79 = .ok (.iload_n 0, 1) := by decide +kernel
theorem dX4_neighbour_80 : decode cX4_neighbour 80 = .ok (.bipush 9, 2) := by decide +kernel
theorem dX4_neighbour_82 : decode cX4_neighbour 82 = .ok (.iadd, 1) := by decide +kernel
theorem dX4_neighbour_83 : decode cX4_neighbour 83 = .ok (.goto 4, 3) := by decide +kernel
theorem dX4_neighbour_86 : decode cX4_neighbour 86 = .ok (.iconst (-1), 1) := by decide +kernel
theorem dX4_neighbour_87 : decode cX4_neighbour 87 = .ok (.ireturn, 1) := by decide +kernel
end
section
/-! plain facts to paste, each family by itself; over the kit's nI, lN and upd -/
/-! ===== drawers: more things than places ===== -/
theorem fb_holes : ∀ (m n : Nat) (f : Nat → Nat), (∀ i, i < n → f i < m) → (∀ i j, i < j → j < n → f i ≠ f j) → n ≤ m := by
  intro m
  induction m with
  | zero =>
    intro n f h1 _
    rcases Nat.eq_zero_or_pos n with h | h
    · omega
    · exact absurd (h1 0 h) (Nat.not_lt_zero _)
  | succ m ih =>
    intro n f h1 h2
    by_cases hx : ∃ i, i < n ∧ f i = m
    · obtain ⟨a, ha, hfa⟩ := hx
      have hg := ih (n - 1) (fun i => if i < a then f i else f (i + 1)) (by
        intro i hi
        by_cases q : i < a
        · simp only [if_pos q]
          have b1 := h1 i (by omega)
          have b2 := h2 i a q ha
          omega
        · simp only [if_neg q]
          have b1 := h1 (i + 1) (by omega)
          have b2 := h2 a (i + 1) (by omega) (by omega)
          omega) (by
        intro i j hij hj
        by_cases q : i < a
        · by_cases r : j < a
          · simp only [if_pos q, if_pos r]
            exact h2 i j hij (by omega)
          · simp only [if_pos q, if_neg r]
            exact h2 i (j + 1) (by omega) (by omega)
        · have r : ¬ j < a := by omega
          simp only [if_neg q, if_neg r]
          exact h2 (i + 1) (j + 1) (by omega) (by omega))
      omega
    · have hg := ih n f (fun i hi => by
        have b1 := h1 i hi
        have b2 : f i ≠ m := fun e => hx ⟨i, hi, e⟩
        omega) h2
      omega
/-- two of them in one place -/
theorem fb_twice {m n : Nat} {f : Nat → Nat} (h : ∀ i, i < n → f i < m) (hm : m < n) : ∃ i j, i < j ∧ j < n ∧ f i = f j := by
  refine Classical.byContradiction fun hx => ?_
  have := fb_holes m n f h (fun i j hij hj e => hx ⟨i, j, hij, hj, e⟩)
  omega
/-- as many as places, none twice: each place is taken -/
theorem fb_onto {n : Nat} {f : Nat → Nat} (h : ∀ i, i < n → f i < n) (h2 : ∀ i j, i < j → j < n → f i ≠ f j) {y : Nat} (hy : y < n) : ∃ i, i < n ∧ f i = y := by
  refine Classical.byContradiction fun hx => ?_
  have hne : ∀ i, i < n → f i ≠ y := fun i hi e => hx ⟨i, hi, e⟩
  have := fb_holes (n - 1) n (fun i => if f i < y then f i else f i - 1) (by
    intro i hi
    have b1 := h i hi
    have b2 := hne i hi
    by_cases q : f i < y
    · simp only [if_pos q]; omega
    · simp only [if_neg q]; omega) (by
    intro i j hij hj
    have b1 := hne i (by omega)
    have b2 := hne j hj
    have b3 := h2 i j hij hj
    by_cases q : f i < y
    · by_cases r : f j < y
      · simp only [if_pos q, if_pos r]; exact b3
      · simp only [if_pos q, if_neg r]; omega
    · by_cases r : f j < y
      · simp only [if_neg q, if_pos r]; omega
      · simp only [if_neg q, if_neg r]; omega)
  omega
/-! ===== how many places have a property ===== -/
def fb_ct (p : Nat → Bool) : Nat → Nat
  | 0 => 0
  | n + 1 => fb_ct p n + (if p n then 1 else 0)
theorem fb_ct_succ (p : Nat → Bool) (n : Nat) : fb_ct p (n + 1) = fb_ct p n + (if p n then 1 else 0) := rfl
theorem fb_ct_le (p : Nat → Bool) : ∀ n, fb_ct p n ≤ n
  | 0 => Nat.le_refl _
  | n + 1 => by
    have h := fb_ct_le p n
    rw [fb_ct_succ]
    split <;> omega
theorem fb_ct_step (p : Nat → Bool) (m : Nat) : ∀ n, fb_ct p m ≤ fb_ct p (m + n)
  | 0 => Nat.le_refl _
  | n + 1 => by
    have h := fb_ct_step p m n
    show fb_ct p m ≤ fb_ct p (m + n + 1)
    rw [fb_ct_succ]
    omega
theorem fb_ct_mono (p : Nat → Bool) {m n : Nat} (h : m ≤ n) : fb_ct p m ≤ fb_ct p n := by
  have := fb_ct_step p m (n - m)
  rwa [Nat.add_sub_cancel' h] at this
theorem fb_ct_cong {p q : Nat → Bool} : ∀ {n : Nat}, (∀ k, k < n → p k = q k) → fb_ct p n = fb_ct q n
  | 0, _ => rfl
  | n + 1, h => by
    rw [fb_ct_succ, fb_ct_succ, fb_ct_cong (fun k hk => h k (by omega)), h n (by omega)]
/-- one place changed -/
theorem fb_ct_out (p : Nat → Bool) (b : Bool) {i n : Nat} (h : n ≤ i) : fb_ct (fun k => if k = i then b else p k) n = fb_ct p n :=
  fb_ct_cong fun k hk => if_neg (by omega)
theorem fb_ct_upd (p : Nat → Bool) (b : Bool) {i : Nat} : ∀ {n : Nat}, i < n → fb_ct (fun k => if k = i then b else p k) n + (if p i then 1 else 0) = fb_ct p n + (if b then 1 else 0)
  | 0, h => absurd h (Nat.not_lt_zero i)
  | n + 1, h => by
    rw [fb_ct_succ, fb_ct_succ]
    rcases Nat.lt_or_ge i n with q | q
    · have := fb_ct_upd p b q
      have e : (if n = i then b else p n) = p n := if_neg (by omega)
      rw [e]
      omega
    · have e : i = n := by omega
      subst e
      rw [fb_ct_out p b (Nat.le_refl _)]
      simp only [if_true]
      omega
theorem fb_ct_sub {p q : Nat → Bool} : ∀ {n : Nat}, (∀ k, k < n → p k = true → q k = true) → fb_ct p n ≤ fb_ct q n
  | 0, _ => Nat.le_refl _
  | n + 1, h => by
    have h1 := fb_ct_sub (n := n) (p := p) (q := q) (fun k hk => h k (by omega))
    have h2 := h n (by omega)
    rw [fb_ct_succ, fb_ct_succ]
    cases hp : p n <;> cases hq : q n <;> simp_all <;> omega
theorem fb_ct_or {p q : Nat → Bool} : ∀ {n : Nat}, (∀ k, k < n → ¬ (p k = true ∧ q k = true)) → fb_ct (fun k => p k || q k) n = fb_ct p n + fb_ct q n
  | 0, _ => rfl
  | n + 1, h => by
    have h1 := fb_ct_or (n := n) (p := p) (q := q) (fun k hk => h k (by omega))
    have h2 := h n (by omega)
    rw [fb_ct_succ, fb_ct_succ, fb_ct_succ, h1]
    cases hp : p n <;> cases hq : q n <;> simp_all <;> omega
theorem fb_ct_not (p : Nat → Bool) : ∀ n, fb_ct p n + fb_ct (fun k => !p k) n = n
  | 0 => rfl
  | n + 1 => by
    have h := fb_ct_not p n
    rw [fb_ct_succ, fb_ct_succ]
    cases p n <;> simp <;> omega
theorem fb_ct_split (p : Nat → Bool) (m : Nat) : ∀ n, fb_ct p (m + n) = fb_ct p m + fb_ct (fun k => p (m + k)) n
  | 0 => rfl
  | n + 1 => by
    have h := fb_ct_split p m n
    show fb_ct p (m + n + 1) = _
    rw [fb_ct_succ, fb_ct_succ, h, Nat.add_assoc]
theorem fb_ct_zero {p : Nat → Bool} : ∀ {n : Nat}, fb_ct p n = 0 ↔ ∀ k, k < n → p k = false
  | 0 => ⟨fun _ k hk => absurd hk (Nat.not_lt_zero k), fun _ => rfl⟩
  | n + 1 => by
    have h := fb_ct_zero (p := p) (n := n)
    rw [fb_ct_succ]
    constructor
    · intro e k hk
      have e1 : fb_ct p n = 0 := by omega
      rcases Nat.lt_or_ge k n with q | q
      · exact h.mp e1 k q
      · have ek : k = n := by omega
        subst ek
        cases hp : p k
        · rfl
        · simp [hp] at e
    · intro a
      rw [h.mpr (fun k hk => a k (by omega)), a n (by omega)]
      rfl
theorem fb_ct_pos {p : Nat → Bool} {n : Nat} : 0 < fb_ct p n ↔ ∃ k, k < n ∧ p k = true := by
  constructor
  · intro h
    refine Classical.byContradiction fun hx => ?_
    have := fb_ct_zero.mpr (fun k hk => by
      cases hp : p k
      · rfl
      · exact absurd ⟨k, hk, hp⟩ hx : ∀ k, k < n → p k = false)
    omega
  · rintro ⟨k, hk, hp⟩
    rcases Nat.eq_zero_or_pos (fb_ct p n) with e | e
    · have := fb_ct_zero.mp e k hk
      rw [this] at hp
      cases hp
    · exact e
theorem fb_ct_all {p : Nat → Bool} {n : Nat} : fb_ct p n = n ↔ ∀ k, k < n → p k = true := by
  have h := fb_ct_not p n
  constructor
  · intro e k hk
    have z : fb_ct (fun k => !p k) n = 0 := by omega
    have := fb_ct_zero.mp z k hk
    cases hp : p k
    · simp [hp] at this
    · rfl
  · intro a
    have z : fb_ct (fun k => !p k) n = 0 := fb_ct_zero.mpr (fun k hk => by simp [a k hk])
    omega
/-- the k-th place with the property -/
theorem fb_ct_kth {p : Nat → Bool} {k : Nat} : ∀ {n : Nat}, k < fb_ct p n → ∃ i, i < n ∧ p i = true ∧ fb_ct p i = k
  | 0, h => absurd h (Nat.not_lt_zero k)
  | n + 1, h => by
    rcases Nat.lt_or_ge k (fb_ct p n) with q | q
    · obtain ⟨i, h1, h2⟩ := fb_ct_kth q
      exact ⟨i, by omega, h2⟩
    · rw [fb_ct_succ] at h
      cases hp : p n
      · simp [hp] at h; omega
      · simp [hp] at h
        exact ⟨n, by omega, hp, by omega⟩
theorem fb_ct_kth_one {p : Nat → Bool} {i j : Nat} (hi : p i = true) (hj : p j = true) (e : fb_ct p i = fb_ct p j) : i = j := by
  have key : ∀ a b : Nat, a < b → p a = true → fb_ct p a < fb_ct p b := by
    intro a b hab ha
    have h := fb_ct_mono p (show a + 1 ≤ b from hab)
    rw [fb_ct_succ, ha] at h
    simp at h
    omega
  rcases Nat.lt_trichotomy i j with q | q | q
  · have := key i j q hi; omega
  · exact q
  · have := key j i q hj; omega
/-! ===== sums over a range: one place changed, parts, bounds ===== -/
def fb_sm (f : Nat → Nat) : Nat → Nat
  | 0 => 0
  | n + 1 => fb_sm f n + f n
theorem fb_sm_succ (f : Nat → Nat) (n : Nat) : fb_sm f (n + 1) = fb_sm f n + f n := rfl
theorem fb_sm_cong {f g : Nat → Nat} : ∀ {n : Nat}, (∀ k, k < n → f k = g k) → fb_sm f n = fb_sm g n
  | 0, _ => rfl
  | n + 1, h => by rw [fb_sm_succ, fb_sm_succ, fb_sm_cong (fun k hk => h k (by omega)), h n (by omega)]
theorem fb_sm_out (f : Nat → Nat) (v : Nat) {i n : Nat} (h : n ≤ i) : fb_sm (fun k => if k = i then v else f k) n = fb_sm f n :=
  fb_sm_cong fun k hk => if_neg (by omega)
theorem fb_sm_upd (f : Nat → Nat) (v : Nat) {i : Nat} : ∀ {n : Nat}, i < n → fb_sm (fun k => if k = i then v else f k) n + f i = fb_sm f n + v
  | 0, h => absurd h (Nat.not_lt_zero i)
  | n + 1, h => by
    rw [fb_sm_succ, fb_sm_succ]
    rcases Nat.lt_or_ge i n with q | q
    · have := fb_sm_upd f v q
      have e : (if n = i then v else f n) = f n := if_neg (by omega)
      rw [e]
      omega
    · have e : i = n := by omega
      subst e
      rw [fb_sm_out f v (Nat.le_refl _)]
      simp only [if_true]
      omega
theorem fb_sm_add (f g : Nat → Nat) : ∀ n, fb_sm (fun k => f k + g k) n = fb_sm f n + fb_sm g n
  | 0 => rfl
  | n + 1 => by
    have h := fb_sm_add f g n
    rw [fb_sm_succ, fb_sm_succ, fb_sm_succ, h]
    omega
theorem fb_sm_le {f g : Nat → Nat} : ∀ {n : Nat}, (∀ k, k < n → f k ≤ g k) → fb_sm f n ≤ fb_sm g n
  | 0, _ => Nat.le_refl _
  | n + 1, h => by
    have h1 := fb_sm_le (n := n) (f := f) (g := g) (fun k hk => h k (by omega))
    have h2 := h n (by omega)
    rw [fb_sm_succ, fb_sm_succ]
    omega
theorem fb_sm_const (c : Nat) : ∀ n, fb_sm (fun _ => c) n = n * c
  | 0 => by rw [Nat.zero_mul]; rfl
  | n + 1 => by rw [fb_sm_succ, fb_sm_const c n, Nat.succ_mul]
theorem fb_sm_bound {f : Nat → Nat} {c n : Nat} (h : ∀ k, k < n → f k ≤ c) : fb_sm f n ≤ n * c := by
  rw [← fb_sm_const c n]
  exact fb_sm_le h
theorem fb_sm_mono (f : Nat → Nat) (m : Nat) : ∀ n, fb_sm f m ≤ fb_sm f (m + n)
  | 0 => Nat.le_refl _
  | n + 1 => by
    have h := fb_sm_mono f m n
    show fb_sm f m ≤ fb_sm f (m + n + 1)
    rw [fb_sm_succ]
    omega
theorem fb_sm_part (f : Nat → Nat) {i n : Nat} (h : i < n) : fb_sm f i + f i ≤ fb_sm f n := by
  have := fb_sm_mono f (i + 1) (n - (i + 1))
  rw [fb_sm_succ, show i + 1 + (n - (i + 1)) = n by omega] at this
  exact this
theorem fb_sm_split (f : Nat → Nat) (m : Nat) : ∀ n, fb_sm f (m + n) = fb_sm f m + fb_sm (fun k => f (m + k)) n
  | 0 => rfl
  | n + 1 => by
    have h := fb_sm_split f m n
    show fb_sm f (m + n + 1) = _
    rw [fb_sm_succ, fb_sm_succ, h, Nat.add_assoc]
theorem fb_sm_zero {f : Nat → Nat} {n : Nat} (h : fb_sm f n = 0) : ∀ k, k < n → f k = 0 := fun k hk => by
  have := fb_sm_part f hk
  omega
/-- the same over whole numbers -/
def fb_si (f : Nat → Int) : Nat → Int
  | 0 => 0
  | n + 1 => fb_si f n + f n
theorem fb_si_succ (f : Nat → Int) (n : Nat) : fb_si f (n + 1) = fb_si f n + f n := rfl
theorem fb_si_cong {f g : Nat → Int} : ∀ {n : Nat}, (∀ k, k < n → f k = g k) → fb_si f n = fb_si g n
  | 0, _ => rfl
  | n + 1, h => by rw [fb_si_succ, fb_si_succ, fb_si_cong (fun k hk => h k (by omega)), h n (by omega)]
theorem fb_si_out (f : Nat → Int) (v : Int) {i n : Nat} (h : n ≤ i) : fb_si (fun k => if k = i then v else f k) n = fb_si f n :=
  fb_si_cong fun k hk => if_neg (by omega)
theorem fb_si_upd (f : Nat → Int) (v : Int) {i : Nat} : ∀ {n : Nat}, i < n → fb_si (fun k => if k = i then v else f k) n = fb_si f n - f i + v
  | 0, h => absurd h (Nat.not_lt_zero i)
  | n + 1, h => by
    rw [fb_si_succ, fb_si_succ]
    rcases Nat.lt_or_ge i n with q | q
    · have := fb_si_upd f v q
      have e : (if n = i then v else f n) = f n := if_neg (by omega)
      rw [e]
      omega
    · have e : i = n := by omega
      subst e
      rw [fb_si_out f v (Nat.le_refl _)]
      simp only [if_true]
      omega
theorem fb_si_add (f g : Nat → Int) : ∀ n, fb_si (fun k => f k + g k) n = fb_si f n + fb_si g n
  | 0 => rfl
  | n + 1 => by
    have h := fb_si_add f g n
    rw [fb_si_succ, fb_si_succ, fb_si_succ, h]
    omega
theorem fb_si_sub (f g : Nat → Int) : ∀ n, fb_si (fun k => f k - g k) n = fb_si f n - fb_si g n
  | 0 => rfl
  | n + 1 => by
    have h := fb_si_sub f g n
    rw [fb_si_succ, fb_si_succ, fb_si_succ, h]
    omega
theorem fb_si_mul (c : Int) (f : Nat → Int) : ∀ n, fb_si (fun k => c * f k) n = c * fb_si f n
  | 0 => (Int.mul_zero c).symm
  | n + 1 => by
    have h := fb_si_mul c f n
    rw [fb_si_succ, fb_si_succ, h, Int.mul_add]
theorem fb_si_split (f : Nat → Int) (m : Nat) : ∀ n, fb_si f (m + n) = fb_si f m + fb_si (fun k => f (m + k)) n
  | 0 => (Int.add_zero _).symm
  | n + 1 => by
    have h := fb_si_split f m n
    show fb_si f (m + n + 1) = _
    rw [fb_si_succ, fb_si_succ, h, Int.add_assoc]
theorem fb_si_nat (f : Nat → Nat) : ∀ n, fb_si (fun k => (f k : Int)) n = (fb_sm f n : Int)
  | 0 => rfl
  | n + 1 => by
    have h := fb_si_nat f n
    rw [fb_si_succ, fb_sm_succ, h]
    omega
theorem fb_si_bound {f : Nat → Int} {c : Int} (hc : 0 ≤ c) : ∀ {n : Nat}, (∀ k, k < n → -c ≤ f k ∧ f k ≤ c) → -(n * c) ≤ fb_si f n ∧ fb_si f n ≤ n * c
  | 0, _ => by simp [fb_si]
  | n + 1, h => by
    have h1 := fb_si_bound (n := n) (f := f) hc (fun k hk => h k (by omega))
    have h2 := h n (by omega)
    have e : ((n + 1 : Nat) : Int) * c = n * c + c := by rw [Int.natCast_add, Int.add_mul]; simp
    rw [fb_si_succ, e]
    omega
/-! ===== bits of a long that isn't negative ===== -/
theorem fb_andL (a b : Nat) : lN a &&& lN b = lN (a &&& b) := by
  apply Int64.toBitVec_inj.1
  show BitVec.ofNat 64 a &&& BitVec.ofNat 64 b = BitVec.ofNat 64 (a &&& b)
  apply BitVec.eq_of_getLsbD_eq
  intro i hi
  simp [hi]
theorem fb_orL (a b : Nat) : lN a ||| lN b = lN (a ||| b) := by
  apply Int64.toBitVec_inj.1
  show BitVec.ofNat 64 a ||| BitVec.ofNat 64 b = BitVec.ofNat 64 (a ||| b)
  apply BitVec.eq_of_getLsbD_eq
  intro i hi
  simp [hi]
theorem fb_xorL (a b : Nat) : lN a ^^^ lN b = lN (a ^^^ b) := by
  apply Int64.toBitVec_inj.1
  show BitVec.ofNat 64 a ^^^ BitVec.ofNat 64 b = BitVec.ofNat 64 (a ^^^ b)
  apply BitVec.eq_of_getLsbD_eq
  intro i hi
  simp [hi]
theorem fb_xorI (a b : Nat) : nI a ^^^ nI b = nI (a ^^^ b) := by
  apply Int32.toBitVec_inj.1
  show BitVec.ofNat 32 a ^^^ BitVec.ofNat 32 b = BitVec.ofNat 32 (a ^^^ b)
  apply BitVec.eq_of_getLsbD_eq
  intro i hi
  simp [hi]
theorem fb_maskL (n k : Nat) : lN n &&& lN (2 ^ k - 1) = lN (n % 2 ^ k) := by rw [fb_andL, Nat.and_two_pow_sub_one_eq_mod]
theorem fb_or_sumL {a k : Nat} (b : Nat) (h : a < 2 ^ k) : lN (2 ^ k * b) ||| lN a = lN (2 ^ k * b + a) := by rw [fb_orL, Nat.two_pow_add_eq_or_of_lt h]
theorem fb_lN_inj {a b : Nat} (ha : a < 2 ^ 63) (hb : b < 2 ^ 63) : lN a = lN b ↔ a = b := by
  constructor
  · intro h
    have h1 : (BitVec.ofNat 64 a).toNat = (BitVec.ofNat 64 b).toNat := congrArg (fun x : Int64 => x.toBitVec.toNat) h
    rw [BitVec.toNat_ofNat, BitVec.toNat_ofNat, Nat.mod_eq_of_lt (by omega), Nat.mod_eq_of_lt (by omega)] at h1
    exact h1
  · rintro rfl; rfl
theorem fb_bit_nat (n j : Nat) : n &&& 2 ^ j = 0 ↔ n.testBit j = false := by
  constructor
  · intro h
    have h1 : (n &&& 2 ^ j).testBit j = false := by rw [h]; simp
    rw [Nat.testBit_and] at h1
    simpa using h1
  · intro h
    apply Nat.eq_of_testBit_eq
    intro i
    rw [Nat.testBit_and]
    by_cases hi : j = i
    · subst hi; simp [h]
    · first | (simp [Nat.testBit_two_pow, hi]; done) | (simp [Nat.testBit_two_pow_of_ne hi]; done)
/-- one bit of a long -/
theorem fb_bitL {n j : Nat} (hj : j < 63) : lN n &&& lN (2 ^ j) = 0 ↔ n.testBit j = false := by
  have h2 : (2 : Nat) ^ j < 2 ^ 63 := Nat.pow_lt_pow_right (by decide) hj
  have hle : n &&& 2 ^ j ≤ 2 ^ j := Nat.and_le_right
  rw [fb_andL, ← fb_bit_nat, show (0 : Int64) = lN 0 from rfl]
  exact fb_lN_inj (by omega) (by decide)
/-- a bit set, a bit taken off -/
theorem fb_bit_set (n j i : Nat) : (n ||| 2 ^ j).testBit i = (n.testBit i || decide (i = j)) := by
  rw [Nat.testBit_or]
  by_cases h : j = i
  · subst h; simp
  · have h2 : ¬ i = j := fun e => h e.symm
    first | (simp [Nat.testBit_two_pow, h, h2]; done) | (simp [Nat.testBit_two_pow_of_ne h, h2]; done)
theorem fb_bit_flip (n j i : Nat) : (n ^^^ 2 ^ j).testBit i = (n.testBit i ^^ decide (i = j)) := by
  rw [Nat.testBit_xor]
  by_cases h : j = i
  · subst h; simp
  · have h2 : ¬ i = j := fun e => h e.symm
    first | (simp [Nat.testBit_two_pow, h, h2]; done) | (simp [Nat.testBit_two_pow_of_ne h, h2]; done)
/-! ===== a stretch of an array written over by a function ===== -/
def fb_put {α : Type} (f g : Nat → α) (a n : Nat) : Nat → α := fun k => if a ≤ k ∧ k < a + n then g (k - a) else f k
theorem fb_put_0 {α : Type} (f g : Nat → α) (a : Nat) : fb_put f g a 0 = f := funext fun k => if_neg (by omega)
theorem fb_put_in {α : Type} {f g : Nat → α} {a n k : Nat} (h1 : a ≤ k) (h2 : k < a + n) : fb_put f g a n k = g (k - a) := if_pos ⟨h1, h2⟩
theorem fb_put_out {α : Type} {f g : Nat → α} {a n k : Nat} (h : k < a ∨ a + n ≤ k) : fb_put f g a n k = f k := if_neg (by omega)
theorem fb_put_succ (f g : Nat → Int32) (a n : Nat) : upd (fb_put f g a n) (a + n) (g n) = fb_put f g a (n + 1) := by
  funext k
  by_cases h : k = a + n
  · subst h
    simp [upd, fb_put]
  · by_cases h1 : a ≤ k ∧ k < a + n
    · have h2 : a ≤ k ∧ k < a + (n + 1) := by omega
      simp only [upd, fb_put, if_neg h, if_pos h1, if_pos h2]
    · have h2 : ¬ (a ≤ k ∧ k < a + (n + 1)) := by omega
      simp only [upd, fb_put, if_neg h, if_neg h1, if_neg h2]
/-- .. from the far end down -/
theorem fb_put_down (f g : Nat → Int32) {a n m : Nat} (h : m < n) : upd (fb_put f (fun k => g (k + (m + 1))) (a + (m + 1)) (n - (m + 1))) (a + m) (g m) = fb_put f (fun k => g (k + m)) (a + m) (n - m) := by
  funext k
  by_cases h0 : k = a + m
  · subst h0
    simp only [upd, if_true]
    rw [fb_put_in (by omega) (by omega)]
    exact congrArg g (by omega)
  · simp only [upd, if_neg h0]
    by_cases h1 : a + (m + 1) ≤ k ∧ k < a + (m + 1) + (n - (m + 1))
    · rw [fb_put_in h1.1 h1.2, fb_put_in (by omega) (by omega)]
      exact congrArg g (by omega)
    · rw [fb_put_out (by omega), fb_put_out (by omega)]
theorem fb_put_cong {α : Type} {f f2 g g2 : Nat → α} {a n : Nat} (hf : ∀ k, (k < a ∨ a + n ≤ k) → f k = f2 k) (hg : ∀ k, k < n → g k = g2 k) : fb_put f g a n = fb_put f2 g2 a n := by
  funext k
  by_cases h : a ≤ k ∧ k < a + n
  · rw [fb_put_in h.1 h.2, fb_put_in h.1 h.2, hg _ (by omega)]
  · rw [fb_put_out (by omega), fb_put_out (by omega), hf _ (by omega)]
/-! ===== the least, the first, the best so far; that there is one alone ===== -/
theorem fb_first {p : Nat → Prop} [DecidablePred p] : ∀ {n : Nat}, (∃ i, i < n ∧ p i) → ∃ i, i < n ∧ p i ∧ ∀ j, j < i → ¬ p j
  | 0, h => by obtain ⟨i, hi, -⟩ := h; exact absurd hi (Nat.not_lt_zero i)
  | n + 1, h => by
    by_cases q : ∃ i, i < n ∧ p i
    · obtain ⟨i, h1, h2⟩ := fb_first q
      exact ⟨i, by omega, h2⟩
    · obtain ⟨i, h1, h2⟩ := h
      have e : i = n := by
        rcases Nat.lt_or_ge i n with r | r
        · exact absurd ⟨i, r, h2⟩ q
        · omega
      subst e
      exact ⟨i, by omega, h2, fun j hj hp => q ⟨j, hj, hp⟩⟩
theorem fb_first_one {p : Nat → Prop} {i j : Nat} (hi : p i) (hi2 : ∀ k, k < i → ¬ p k) (hj : p j) (hj2 : ∀ k, k < j → ¬ p k) : i = j := by
  rcases Nat.lt_trichotomy i j with q | q | q
  · exact absurd hi (hj2 i q)
  · exact q
  · exact absurd hj (hi2 j q)
theorem fb_last {p : Nat → Prop} [DecidablePred p] : ∀ {n : Nat}, (∃ i, i < n ∧ p i) → ∃ i, i < n ∧ p i ∧ ∀ j, i < j → j < n → ¬ p j
  | 0, h => by obtain ⟨i, hi, -⟩ := h; exact absurd hi (Nat.not_lt_zero i)
  | n + 1, h => by
    by_cases q : p n
    · exact ⟨n, by omega, q, fun j h1 h2 => by omega⟩
    · obtain ⟨i, h1, h2⟩ := h
      have hi : i < n := by
        rcases Nat.lt_or_ge i n with r | r
        · exact r
        · have e : i = n := by omega
          subst e
          exact absurd h2 q
      obtain ⟨i2, a1, a2, a3⟩ := fb_last (n := n) ⟨i, hi, h2⟩
      refine ⟨i2, by omega, a2, fun j b1 b2 => ?_⟩
      rcases Nat.lt_or_ge j n with r | r
      · exact a3 j b1 r
      · have e : j = n := by omega
        subst e
        exact q
/-- the first greatest -/
theorem fb_best (f : Nat → Int) : ∀ {n : Nat}, 0 < n → ∃ i, i < n ∧ (∀ j, j < n → f j ≤ f i) ∧ ∀ j, j < i → f j < f i
  | 0, h => absurd h (Nat.lt_irrefl 0)
  | 1, _ => ⟨0, by omega, fun j hj => by have e : j = 0 := by omega
                                         subst e; exact Int.le_refl _, fun j hj => absurd hj (Nat.not_lt_zero j)⟩
  | n + 2, _ => by
    obtain ⟨i, h1, h2, h3⟩ := fb_best f (n := n + 1) (by omega)
    by_cases q : f i < f (n + 1)
    · refine ⟨n + 1, by omega, fun j hj => ?_, fun j hj => ?_⟩
      · rcases Nat.lt_or_ge j (n + 1) with r | r
        · have := h2 j r; omega
        · have e : j = n + 1 := by omega
          subst e; exact Int.le_refl _
      · have := h2 j hj; omega
    · refine ⟨i, by omega, fun j hj => ?_, h3⟩
      rcases Nat.lt_or_ge j (n + 1) with r | r
      · exact h2 j r
      · have e : j = n + 1 := by omega
        subst e; omega
theorem fb_best_one {f : Nat → Int} {n i j : Nat} (hi : i < n) (hi2 : ∀ k, k < n → f k ≤ f i) (hi3 : ∀ k, k < i → f k < f i) (hj : j < n) (hj2 : ∀ k, k < n → f k ≤ f j) (hj3 : ∀ k, k < j → f k < f j) : i = j := by
  rcases Nat.lt_trichotomy i j with q | q | q
  · have a := hj3 i q
    have b := hi2 j hj
    omega
  · exact q
  · have a := hi3 j q
    have b := hj2 i hi
    omega
/-- the first least -/
theorem fb_low (f : Nat → Int) {n : Nat} (h : 0 < n) : ∃ i, i < n ∧ (∀ j, j < n → f i ≤ f j) ∧ ∀ j, j < i → f i < f j := by
  obtain ⟨i, h1, h2, h3⟩ := fb_best (fun k => -f k) h
  exact ⟨i, h1, fun j hj => by have := h2 j hj; omega, fun j hj => by have := h3 j hj; omega⟩
/-! ===== signed ints as whole numbers, within bounds ===== -/
theorem fb_rng (x : Int32) : -2147483648 ≤ x.toInt ∧ x.toInt < 2147483648 := by
  have h1 := Int32.le_toInt x
  have h2 := Int32.toInt_lt x
  omega
theorem fb_bmod {z : Int} (h1 : -2147483648 ≤ z) (h2 : z < 2147483648) : z.bmod (2 ^ 32) = z := by
  rw [Int.bmod_eq_of_le (by omega) (by omega)]
theorem fb_addI {x y : Int32} (h1 : -2147483648 ≤ x.toInt + y.toInt) (h2 : x.toInt + y.toInt < 2147483648) : (x + y).toInt = x.toInt + y.toInt := by
  rw [Int32.toInt_add, fb_bmod h1 h2]
theorem fb_subI {x y : Int32} (h1 : -2147483648 ≤ x.toInt - y.toInt) (h2 : x.toInt - y.toInt < 2147483648) : (x - y).toInt = x.toInt - y.toInt := by
  rw [Int32.toInt_sub, fb_bmod h1 h2]
theorem fb_mulI {x y : Int32} (h1 : -2147483648 ≤ x.toInt * y.toInt) (h2 : x.toInt * y.toInt < 2147483648) : (x * y).toInt = x.toInt * y.toInt := by
  rw [Int32.toInt_mul, fb_bmod h1 h2]
theorem fb_negI {x : Int32} (h : x.toInt ≠ -2147483648) : (-x).toInt = -x.toInt := by
  have := fb_rng x
  rw [Int32.toInt_neg, fb_bmod (by omega) (by omega)]
theorem fb_ofI {z : Int} (h1 : -2147483648 ≤ z) (h2 : z < 2147483648) : (Int32.ofInt z).toInt = z := by
  rw [Int32.toInt_ofInt, fb_bmod h1 h2]
theorem fb_asI (x : Int32) : Int32.ofInt x.toInt = x := Int32.ofInt_toInt x
theorem fb_rngL (x : Int64) : -9223372036854775808 ≤ x.toInt ∧ x.toInt < 9223372036854775808 := by
  have h1 := Int64.le_toInt x
  have h2 := Int64.toInt_lt x
  omega
theorem fb_bmodL {z : Int} (h1 : -9223372036854775808 ≤ z) (h2 : z < 9223372036854775808) : z.bmod (2 ^ 64) = z := by
  rw [Int.bmod_eq_of_le (by omega) (by omega)]
theorem fb_addL {x y : Int64} (h1 : -9223372036854775808 ≤ x.toInt + y.toInt) (h2 : x.toInt + y.toInt < 9223372036854775808) : (x + y).toInt = x.toInt + y.toInt := by
  rw [Int64.toInt_add, fb_bmodL h1 h2]
theorem fb_subL {x y : Int64} (h1 : -9223372036854775808 ≤ x.toInt - y.toInt) (h2 : x.toInt - y.toInt < 9223372036854775808) : (x - y).toInt = x.toInt - y.toInt := by
  rw [Int64.toInt_sub, fb_bmodL h1 h2]
theorem fb_mulL {x y : Int64} (h1 : -9223372036854775808 ≤ x.toInt * y.toInt) (h2 : x.toInt * y.toInt < 9223372036854775808) : (x * y).toInt = x.toInt * y.toInt := by
  rw [Int64.toInt_mul, fb_bmodL h1 h2]
/-! ===== cuts of what is narrow already ===== -/
theorem fb_byte {x : Int32} (h1 : -128 ≤ x.toInt) (h2 : x.toInt < 128) : x.toInt8.toInt32 = x := by
  apply Int32.toInt_inj.1
  rw [Int8.toInt_toInt32, Int32.toInt_toInt8, Int.bmod_eq_of_le (by omega) (by omega)]
theorem fb_short {x : Int32} (h1 : -32768 ≤ x.toInt) (h2 : x.toInt < 32768) : x.toInt16.toInt32 = x := by
  apply Int32.toInt_inj.1
  rw [Int16.toInt_toInt32, Int32.toInt_toInt16, Int.bmod_eq_of_le (by omega) (by omega)]
theorem fb_byte_rng (x : Int32) : -128 ≤ x.toInt8.toInt32.toInt ∧ x.toInt8.toInt32.toInt < 128 := by
  rw [Int8.toInt_toInt32]
  have h1 := Int8.le_toInt x.toInt8
  have h2 := Int8.toInt_lt x.toInt8
  omega
theorem fb_short_rng (x : Int32) : -32768 ≤ x.toInt16.toInt32.toInt ∧ x.toInt16.toInt32.toInt < 32768 := by
  rw [Int16.toInt_toInt32]
  have h1 := Int16.le_toInt x.toInt16
  have h2 := Int16.toInt_lt x.toInt16
  omega
theorem fb_byte_twice (x : Int32) : x.toInt8.toInt32.toInt8.toInt32 = x.toInt8.toInt32 := fb_byte (fb_byte_rng x).1 (fb_byte_rng x).2
theorem fb_short_twice (x : Int32) : x.toInt16.toInt32.toInt16.toInt32 = x.toInt16.toInt32 := fb_short (fb_short_rng x).1 (fb_short_rng x).2
theorem fb_char {n : Nat} (h : n < 65536) : (nI n).toUInt32.toUInt16.toUInt32.toInt32 = nI n := by
  apply Int32.toBitVec_inj.1
  apply BitVec.eq_of_toNat_eq
  have e1 : (nI n).toBitVec.toNat = n := by
    show (BitVec.ofNat 32 n).toNat = n
    rw [BitVec.toNat_ofNat, Nat.mod_eq_of_lt (by omega)]
  have e2 : ((nI n).toUInt32.toUInt16.toUInt32).toNat = n := by
    rw [UInt16.toNat_toUInt32, UInt32.toNat_toUInt16]
    show (nI n).toBitVec.toNat % 2 ^ 16 = n
    rw [e1, Nat.mod_eq_of_lt (by omega)]
  rw [e1]
  exact e2
end
section
/-! ===== the layer that all methods stand on: one shape of contract, its start, its ends, its calls ===== -/
/-- the tables' part of a run: classes and slots, the array types of int, boolean, long -/
abbrev eT : Type := va_G × ClassId × ClassId × ClassId
abbrev eTy (E : eT) : List (ClassId × FieldType) := [(E.2.1, .int), (E.2.2.1, .boolean), (E.2.2.2, .long)]
def eK (E : eT) (U : State) : Prop := va_K E.1 vwCl (eTy E) U ∧ va_Nw (.methodLinkNest RX0 85 yX4_neighbour RX4) U ∧ va_Nw (.methodLinkNest RX2 40 yX4_neighbour RX4) U ∧ va_Nw (.methodLinkNest RX4 35 yX2_init RX4) U
theorem eK.warm {E : eT} {s U : State} (hW : s.WarmedH U.vm) (h : eK E s) : eK E U := ⟨va_K.moved hW.alike h.1, va_Nw.warmM hW h.2.1, va_Nw.warmM hW h.2.2.1, va_Nw.warmM hW h.2.2.2⟩
theorem eK.same {E : eT} {s U : State} (hvm : s.vm = U.vm) (h : eK E s) : eK E U := ⟨va_K.moved (by rw [hvm]; exact Vm.Alike.refl U.vm) h.1, va_Nw.same rfl hvm h.2.1, va_Nw.same rfl hvm h.2.2.1, va_Nw.same rfl hvm h.2.2.2⟩
def cP (E : eT) (W0 : va_W) (sz : Nat) (av : List Value) : Array Value → State → Prop := fun v U => v = av.toArray ∧ U.heap.size = sz ∧ va_P E.1 vwCl W0 U.heap ∧ eK E U ∧ va_D (fun _ => True) W0
def cQ {S : Type} (E : eT) (A : Nat → Prop) (rv : S → Option Value) (post : S → Prop) (W' : S → va_W) : Array Value → State → Outcome → State → Prop := fun _ st oc t => (∃ u : S, oc = .returned (rv u) ∧ post u ∧ va_P E.1 vwCl (W' u) t.heap ∧ va_D A (W' u)) ∧ va_F A st t
/-- THE CONTRACT: over the world W0 it returns 'rv u' for some u of 'post', and W0 has become 'W' u' -/
def cM {S : Type} (l : Launch) (y : MethodName) (ws : List Cond) (rm : Room) (E : eT) (sz : Nat) (av : List Value) (W0 : va_W) (rv : S → Option Value) (post : S → Prop) (W' : S → va_W) : Prop :=
  Met l y ws rm (cP E W0 sz av) (cQ E (va_A W0 sz) rv post W') rm.cells rm.slots (va_A W0 sz)
theorem cP_blind {E : eT} {W0 : va_W} {sz : Nat} {av : List Value} : FrameBlind (cP E W0 sz av) := by
  intro a U g mk h
  obtain ⟨h1, h2, h3, h4, h5⟩ := h
  exact ⟨h1, h2, h3, eK.same rfl h4, h5⟩
theorem cP_of {E : eT} {W0 : va_W} {av : List Value} {s : State} {H : Heap} {A : Nat → Prop} (hK : eK E s) (hP : va_P E.1 vwCl W0 H) (hD : va_D A W0) : ∀ U : State, U.heap = H → s.WarmedH U.vm → cP E W0 H.size av av.toArray U :=
  fun U hU hW => ⟨rfl, by rw [hU], by rw [hU]; exact hP, eK.warm hW hK, hD.weaken (fun _ _ _ _ => trivial)⟩
/-- the kit's Met.ofW, for a method of any class that is no native one's -/
theorem Met_ofW {l : Launch} {y : MethodName} {ws ws' : List Cond} {rm : Room} {Pc : Array Value → State → Prop} {Qc : Array Value → State → Outcome → State → Prop} {mc ms : Nat} {free : Addr → Prop} {cc : ByteArray} {maxL : Nat} {ret : Option FieldType}
    (hy : plainFor y = true) (hw : ws = Cond.code y cc maxL ret :: ws')
    (body : ∀ p e s m args below meth c s₁, BodyLoose p l y (headSpec ws rm) cc maxL ret e s m args below meth c s₁ → c.maxLocals = maxL → Pc args s →
      W p l e (headSpec ws rm).room s m args below meth c s.heap [] 0 0 (MQ below Qc args s mc ms free) (entryFrame m args maxL)) : Met l y ws rm Pc Qc mc ms free := by
  refine MetFree.of_bodySF (code := cc) (maxLocals := maxL) (ret := ret) hy ?_ ?_
  · intro args s m h hn
    obtain ⟨meth, c, h1, h2, h3, h4, h5, h6, -, -⟩ := Cond.code_spec hn (atoms_spec (ws := ws) h _ (by rw [hw]; exact List.mem_cons_self))
    exact ⟨meth, c, h1, h2, h3, h4, h5, h6⟩
  · intro p e s m args below meth c s₁ B hml hP _
    have hh0 : s₁.heap = s.heap := by rw [B.state]; rfl
    obtain ⟨t, a1, o, b1, b2, b3⟩ := body p e s m args below meth c s₁ B hml hP s₁ hh0 (Stand.of_body B)
    exact ⟨t, o, a1, b1, b2, ⟨b3.1, b3.2⟩⟩
theorem cM_intro {S : Type} {l : Launch} {y : MethodName} {ws ws' : List Cond} {rm : Room} {E : eT} {sz : Nat} {av : List Value} {W0 : va_W} {rv : S → Option Value} {post : S → Prop} {W' : S → va_W} {cc : ByteArray} {maxL : Nat} {ret : Option FieldType}
    (hy : plainFor y = true) (hw : ws = Cond.code y cc maxL ret :: ws') (hn : (lg_sl av).length ≤ maxL)
    (body : ∀ (p : Program) (e : Env) (s : State) (m : MethodId) (args : Array Value) (below : List Frame) (meth : Method) (c : Code), p.tables.exec = Jvm.exec → c.code = cc → meth.sig.returnType = ret → c.maxLocals = maxL → s.vm.findClass y.cls = some m.cls → meth.locks = false →
      (∀ w ∈ ws, w.before args s = true) → meth.name = y.name → eK E s → s.heap.size = sz → va_P E.1 vwCl W0 s.heap → ∀ A : Nat → Prop, va_D A W0 → (∀ q : Nat, s.heap.size ≤ q → A q) → ∀ Q : State → Prop, Q = MQ below (cQ E A rv post W') args s rm.cells rm.slots A → ∀ ls : Array Slot, lv_has ls maxL (lv_args 0 av) →
      W p l e rm s m args below meth c s.heap [] 0 0 Q (F0 m 0 ls [])) : cM l y ws rm E sz av W0 rv post W' := by
  refine Met_ofW (cc := cc) (maxL := maxL) (ret := ret) hy hw ?_
  intro p e s m args below meth c s₁ B hml hv
  obtain ⟨rfl, hsz, hP, hK, hD⟩ := hv
  rw [lg_entry_eq]
  have hD1 : va_D (va_A W0 sz) W0 := hD.self
  exact body p e s m _ below meth c B.exec B.bytes B.returns hml (findClass_of_methodNamed B.named) B.notSynchronized (atoms_spec (ws := ws) B.pre) (name_of_methodNamed B.named B.method).1 hK hsz hP _ hD1 (fun q h => Or.inr (by omega)) _ rfl _ (lv_entry av hn)
section EENDS
variable {S : Type} {p : Program} {l : Launch} {e : Env} {R : Room} {s : State} {m : MethodId} {args : Array Value} {below : List Frame} {meth : Method} {c : Code} {H : Heap} {locs : List Loc} {cells slots mc ms : Nat} {Q : State → Prop} {E : eT} {A : Nat → Prop} {rv : S → Option Value} {post : S → Prop} {W' : S → va_W} {cc : ByteArray} {pc : Nat} {ls : Array Slot}
theorem e_q {u : S} (hP : va_P E.1 vwCl (W' u) H) (hD : va_D A (W' u)) (hS : va_S A s.heap H locs) (hpost : post u) {v : Option Value} (hrv : rv u = v) : ∀ t : State, t.heap = H → s.WarmedH t.vm → cQ E A rv post W' args s (.returned v) t :=
  fun t ht _ => ⟨⟨u, by rw [hrv], hpost, by rw [ht]; exact hP, hD⟩, hS.F ht⟩
theorem e_iret (u : S) (hQ : Q = MQ below (cQ E A rv post W') args s mc ms A) (hx : p.tables.exec = Jvm.exec) (hb : c.code = cc) (hr : meth.sig.returnType = some .int) (hlocks : meth.locks = false) (hP : va_P E.1 vwCl (W' u) H) (hD : va_D A (W' u)) (hS : va_S A s.heap H locs) {v : Int32}
    (hdg : decode cc pc = .ok (.ireturn, 1)) (hrv : rv u = some (.int v)) (hc : cells ≤ mc) (hs : slots ≤ ms) (hpost : post u) : W p l e R s m args below meth c H locs cells slots Q (F0 m pc ls [.int v]) := by
  subst hQ
  refine W.widen hc hs ?_
  exact W.iret hx hb hr (e_q hP hD hS hpost hrv) hS.2.2 hdg hlocks
theorem e_zret (u : S) (hQ : Q = MQ below (cQ E A rv post W') args s mc ms A) (hx : p.tables.exec = Jvm.exec) (hb : c.code = cc) (hr : meth.sig.returnType = some .boolean) (hlocks : meth.locks = false) (hP : va_P E.1 vwCl (W' u) H) (hD : va_D A (W' u)) (hS : va_S A s.heap H locs) {v : Int32}
    (hdg : decode cc pc = .ok (.ireturn, 1)) (hrv : rv u = some (.int v)) (hc : cells ≤ mc) (hs : slots ≤ ms) (hn : narrow .boolean (.int v) = .int v) (hpost : post u) : W p l e R s m args below meth c H locs cells slots Q (F0 m pc ls [.int v]) := by
  subst hQ
  refine W.widen hc hs ?_
  exact W.zret hx hb hr hn (e_q hP hD hS hpost hrv) hS.2.2 hdg hlocks
theorem e_vret (u : S) (hQ : Q = MQ below (cQ E A rv post W') args s mc ms A) (hx : p.tables.exec = Jvm.exec) (hb : c.code = cc) (hr : meth.sig.returnType = none) (hlocks : meth.locks = false) (hP : va_P E.1 vwCl (W' u) H) (hD : va_D A (W' u)) (hS : va_S A s.heap H locs)
    (hdg : decode cc pc = .ok (.return_, 1)) (hrv : rv u = none) (hc : cells ≤ mc) (hs : slots ≤ ms) (hpost : post u) : W p l e R s m args below meth c H locs cells slots Q (F0 m pc ls []) := by
  subst hQ
  refine W.widen hc hs ?_
  exact W.vret hx hb hr (e_q hP hD hS hpost hrv) hS.2.2 hdg hlocks
theorem e_lret (u : S) (hQ : Q = MQ below (cQ E A rv post W') args s mc ms A) (hx : p.tables.exec = Jvm.exec) (hb : c.code = cc) (hr : meth.sig.returnType = some .long) (hlocks : meth.locks = false) (hP : va_P E.1 vwCl (W' u) H) (hD : va_D A (W' u)) (hS : va_S A s.heap H locs) {v : Int64}
    (hdg : decode cc pc = .ok (.lreturn, 1)) (hrv : rv u = some (.long v)) (hc : cells ≤ mc) (hs : slots ≤ ms) (hpost : post u) : W p l e R s m args below meth c H locs cells slots Q (F0 m pc ls [.long v]) := by
  subst hQ
  refine W.widen hc hs ?_
  exact W.lret hx hb hr (e_q hP hD hS hpost hrv) hS.2.2 hdg hlocks
theorem e_dret (u : S) (hQ : Q = MQ below (cQ E A rv post W') args s mc ms A) (hx : p.tables.exec = Jvm.exec) (hb : c.code = cc) (hr : meth.sig.returnType = some .double) (hlocks : meth.locks = false) (hP : va_P E.1 vwCl (W' u) H) (hD : va_D A (W' u)) (hS : va_S A s.heap H locs) {v : UInt64}
    (hdg : decode cc pc = .ok (.dreturn, 1)) (hrv : rv u = some (.double v)) (hc : cells ≤ mc) (hs : slots ≤ ms) (hpost : post u) : W p l e R s m args below meth c H locs cells slots Q (F0 m pc ls [.double v]) := by
  subst hQ
  refine W.widen hc hs ?_
  exact W.dret hx hb hr (e_q hP hD hS hpost hrv) hS.2.2 hdg hlocks
end EENDS
section ECALL
variable {S : Type} {p : Program} {l : Launch} {e : Env} {R : Room} {s : State} {m : MethodId} {args : Array Value} {below : List Frame} {meth : Method} {c : Code} {H H0 : Heap} {locs : List Loc} {cells slots mc ms : Nat} {Q : State → Prop} {E : eT} {A : Nat → Prop} {rv : S → Option Value} {post : S → Prop} {W' : S → va_W} {ws wc : va_W} {cc : ByteArray} {pc : Nat} {ls : Array Slot} {st0 rest : List Value} {a : Array Value}
/-- behind a call: what was not handed over (by places isR), then the callee's world -/
theorem e_back (hr : va_Run p l e R s m args below meth c H locs cells slots mc ms (F0 m pc ls st0) rest (cQ E (va_A wc H.size) rv post W' a) (va_A wc H.size)) (hP : va_P E.1 vwCl ws H) (hD : va_D A ws) (hS : va_S A H0 H locs) (hA : ∀ q : Nat, H0.size ≤ q → A q)
    (isC isR : List Nat) (hC : isC.map (fun i => ws[i]?) = wc.map some) (hR : isR.map (fun i => ws[i]?) = (isR.filterMap (fun i => ws[i]?)).map some) (hn : va_nd isR = true) (hdis : ∀ i ∈ isR, i ∉ isC)
    (kk : ∀ (u : S) (H1 : Heap) (locs1 : List Loc), post u → H.size ≤ H1.size → va_P E.1 vwCl (isR.filterMap (fun i => ws[i]?) ++ W' u) H1 → va_D A (isR.filterMap (fun i => ws[i]?) ++ W' u) → va_S A H0 H1 locs1 → W p l e R s m args below meth c H1 locs1 (cells + mc) (slots + ms) Q (F0 m (pc + 3) ls ((rv u).toList ++ rest))) : W p l e R s m args below meth c H locs cells slots Q (F0 m pc ls st0) := by
  intro T hT X
  have hF := va_free (wc := wc) hD hS hA isC hC
  obtain ⟨v, st₀, t, T', L, h0, X', hL, e1, e2, ⟨⟨u, hv, hp, hPu, hDu⟩, hz, hk⟩, st⟩ := hr T hT X
  cases hv
  rw [h0] at hz hk
  rw [← e1] at hz hPu
  have hk' : ∀ q : Nat, q < H.size → ¬ va_A wc H.size q → T'.heap[q]? = H[q]? := fun q h1 h2 => by rw [e1]; exact hk q h1 h2
  obtain ⟨hP1, hD1⟩ := va_join (wr := isR.filterMap (fun i => ws[i]?)) hP hD isC isR hC hR hn hdis hk' hF hPu hDu
  obtain ⟨t2, a1, b1⟩ := kk u T'.heap (locs ++ L) hp hz hP1 hD1
    ⟨Nat.le_trans hS.1 hz, fun q h1 h2 => by rw [hk' q (Nat.lt_of_lt_of_le h1 hS.1) (fun z => h2 (hF q z))]; exact hS.2.1 q h1 h2, fun q hq => by
      rcases List.mem_append.mp hq with h | h
      · exact hS.2.2 q h
      · exact hF _ (hL q h)⟩ T' rfl X'
  exact ⟨t2, st t2 a1, b1⟩
variable {y : MethodName} {bytes : ByteArray} {maxL nL n index : Nat} {ret : Option FieldType} {wsY : List Cond} {rm : Room} {Ts : List Cond} {own C host : String} {b : Addr} {As : List Value}
theorem e_sub (hP : va_P E.1 vwCl ws H) (isC : List Nat) (hC : isC.map (fun i => ws[i]?) = wc.map some) : va_P E.1 vwCl wc H := by
  intro k q hk
  have h1 : (isC.map (fun i => ws[i]?))[k]? = some (some q) := by rw [hC, List.getElem?_map, hk]; rfl
  rw [List.getElem?_map] at h1
  cases hi : isC[k]? with
  | none => rw [hi] at h1; cases h1
  | some i => rw [hi] at h1; exact hP i q (Option.some.inj h1)
/-- invokevirtual -/
theorem e_callV (F : CallFix p m c cc nL s args Ts own) (hK : eK E s) (hP : va_P E.1 vwCl ws H) (hD : va_D A ws) (hS : va_S A H0 H locs) (hA : ∀ q : Nat, H0.size ≤ q → A q) (hl : ls.size = nL)
    (hM : cM l y wsY rm E H.size (.ref b :: As) wc rv post W') (cw : CallW R s args own C index y bytes maxL ret wsY rm rm.cells rm.slots n)
    (isC isR : List Nat) (hnC : va_nd isC = true) (hC : isC.map (fun i => ws[i]?) = wc.map some) (hR : isR.map (fun i => ws[i]?) = (isR.filterMap (fun i => ws[i]?)).map some) (hn : va_nd isR = true) (hdis : ∀ i ∈ isR, i ∉ isC)
    {q0 ci : Nat} {fs : List Value} {T : u_T} {N : Nat} (he : ws[q0]? = some (b, .inr (ci, fs))) (hc : vwCl[ci]? = some (C, T, N))
    (hst : st0 = As.reverse ++ .ref b :: rest) (hln : As.length = n) (hcat : (rest.map fun v => v.category).sum ≤ 8) (hdg : decode cc pc = .ok (.invokevirtual index, 3)) (hf : cells + rm.cells ≤ R.cells ∧ slots + rm.slots ≤ R.slots)
    (kk : ∀ (u : S) (H1 : Heap) (locs1 : List Loc), post u → H.size ≤ H1.size → va_P E.1 vwCl (isR.filterMap (fun i => ws[i]?) ++ W' u) H1 → va_D A (isR.filterMap (fun i => ws[i]?) ++ W' u) → va_S A H0 H1 locs1 → W p l e R s m args below meth c H1 locs1 (cells + rm.cells) (slots + rm.slots) Q (F0 m (pc + 3) ls ((rv u).toList ++ rest))) : W p l e R s m args below meth c H locs cells slots Q (F0 m pc ls st0) := by
  subst hst
  have hPc : va_P E.1 vwCl wc H := e_sub hP isC hC
  have hDc : va_D A wc := hD.sub isC hnC hC
  exact e_back (va_runV F hM cw ⟨cP_blind, va_recv hK.1 hP hc he, cP_of hK hPc hDc⟩ rfl hln hl rfl (lv_room hcat) hdg hf) hP hD hS hA isC isR hC hR hn hdis kk
/-- invokespecial <init> -/
theorem e_callI (F : CallFix p m c cc nL s args Ts own) (hK : eK E s) (hP : va_P E.1 vwCl ws H) (hD : va_D A ws) (hS : va_S A H0 H locs) (hA : ∀ q : Nat, H0.size ≤ q → A q) (hl : ls.size = nL)
    (hM : cM l y wsY rm E H.size (.ref b :: As) wc rv post W') (cw : CallB R s args own index y bytes maxL none wsY rm rm.cells rm.slots n ∧ y.name = "<init>" ∧ (Cond.instanceMethod y).before args s = true)
    (isC isR : List Nat) (hnC : va_nd isC = true) (hC : isC.map (fun i => ws[i]?) = wc.map some) (hR : isR.map (fun i => ws[i]?) = (isR.filterMap (fun i => ws[i]?)).map some) (hn : va_nd isR = true) (hdis : ∀ i ∈ isR, i ∉ isC)
    (hst : st0 = As.reverse ++ .ref b :: rest) (hln : As.length = n) (hcat : (rest.map fun v => v.category).sum ≤ 8) (hdg : decode cc pc = .ok (.invokespecial index, 3)) (hf : cells + rm.cells ≤ R.cells ∧ slots + rm.slots ≤ R.slots)
    (kk : ∀ (u : S) (H1 : Heap) (locs1 : List Loc), post u → H.size ≤ H1.size → va_P E.1 vwCl (isR.filterMap (fun i => ws[i]?) ++ W' u) H1 → va_D A (isR.filterMap (fun i => ws[i]?) ++ W' u) → va_S A H0 H1 locs1 → W p l e R s m args below meth c H1 locs1 (cells + rm.cells) (slots + rm.slots) Q (F0 m (pc + 3) ls ((rv u).toList ++ rest))) : W p l e R s m args below meth c H locs cells slots Q (F0 m pc ls st0) := by
  subst hst
  have hPc : va_P E.1 vwCl wc H := e_sub hP isC hC
  have hDc : va_D A wc := hD.sub isC hnC hC
  exact e_back (va_runI F hM cw ⟨cP_blind, cP_of hK hPc hDc⟩ rfl hln hl rfl (lv_room hcat) hdg hf) hP hD hS hA isC isR hC hR hn hdis kk
/-- invokespecial <init> of a nest mate -/
theorem e_callIN (F : CallFix p m c cc nL s args Ts own) (hK : eK E s) (hP : va_P E.1 vwCl ws H) (hD : va_D A ws) (hS : va_S A H0 H locs) (hA : ∀ q : Nat, H0.size ≤ q → A q) (hl : ls.size = nL)
    (hM : cM l y wsY rm E H.size (.ref b :: As) wc rv post W') (cw : va_CN R s args own index y host bytes maxL none wsY rm rm.cells rm.slots n ∧ y.name = "<init>" ∧ (Cond.instanceMethod y).before args s = true)
    (isC isR : List Nat) (hnC : va_nd isC = true) (hC : isC.map (fun i => ws[i]?) = wc.map some) (hR : isR.map (fun i => ws[i]?) = (isR.filterMap (fun i => ws[i]?)).map some) (hn : va_nd isR = true) (hdis : ∀ i ∈ isR, i ∉ isC)
    (hst : st0 = As.reverse ++ .ref b :: rest) (hln : As.length = n) (hcat : (rest.map fun v => v.category).sum ≤ 8) (hdg : decode cc pc = .ok (.invokespecial index, 3)) (hf : cells + rm.cells ≤ R.cells ∧ slots + rm.slots ≤ R.slots)
    (kk : ∀ (u : S) (H1 : Heap) (locs1 : List Loc), post u → H.size ≤ H1.size → va_P E.1 vwCl (isR.filterMap (fun i => ws[i]?) ++ W' u) H1 → va_D A (isR.filterMap (fun i => ws[i]?) ++ W' u) → va_S A H0 H1 locs1 → W p l e R s m args below meth c H1 locs1 (cells + rm.cells) (slots + rm.slots) Q (F0 m (pc + 3) ls ((rv u).toList ++ rest))) : W p l e R s m args below meth c H locs cells slots Q (F0 m pc ls st0) := by
  subst hst
  have hPc : va_P E.1 vwCl wc H := e_sub hP isC hC
  have hDc : va_D A wc := hD.sub isC hnC hC
  exact e_back (va_runIN F hM cw ⟨cP_blind, cP_of hK hPc hDc⟩ rfl hln hl rfl (lv_room hcat) hdg hf) hP hD hS hA isC isR hC hR hn hdis kk
/-- invokestatic -/
theorem e_callS (F : CallFix p m c cc nL s args Ts own) (hK : eK E s) (hP : va_P E.1 vwCl ws H) (hD : va_D A ws) (hS : va_S A H0 H locs) (hA : ∀ q : Nat, H0.size ≤ q → A q) (hl : ls.size = nL)
    (hM : cM l y wsY rm E H.size (As) wc rv post W') (cw : CallB R s args own index y bytes maxL ret wsY rm rm.cells rm.slots n ∧ (Cond.static y).before args s = true)
    (isC isR : List Nat) (hnC : va_nd isC = true) (hC : isC.map (fun i => ws[i]?) = wc.map some) (hR : isR.map (fun i => ws[i]?) = (isR.filterMap (fun i => ws[i]?)).map some) (hn : va_nd isR = true) (hdis : ∀ i ∈ isR, i ∉ isC)
    (hst : st0 = As.reverse ++ rest) (hln : As.length = n) (hcat : (rest.map fun v => v.category).sum ≤ 8) (hdg : decode cc pc = .ok (.invokestatic index, 3)) (hf : cells + rm.cells ≤ R.cells ∧ slots + rm.slots ≤ R.slots)
    (kk : ∀ (u : S) (H1 : Heap) (locs1 : List Loc), post u → H.size ≤ H1.size → va_P E.1 vwCl (isR.filterMap (fun i => ws[i]?) ++ W' u) H1 → va_D A (isR.filterMap (fun i => ws[i]?) ++ W' u) → va_S A H0 H1 locs1 → W p l e R s m args below meth c H1 locs1 (cells + rm.cells) (slots + rm.slots) Q (F0 m (pc + 3) ls ((rv u).toList ++ rest))) : W p l e R s m args below meth c H locs cells slots Q (F0 m pc ls st0) := by
  subst hst
  have hPc : va_P E.1 vwCl wc H := e_sub hP isC hC
  have hDc : va_D A wc := hD.sub isC hnC hC
  exact e_back (va_runS F hM cw ⟨cP_blind, cP_of hK hPc hDc⟩ rfl hln hl rfl (lv_room hcat) hdg hf) hP hD hS hA isC isR hC hR hn hdis kk
/-- invokestatic, a nest mate's private method -/
theorem e_callSN (F : CallFix p m c cc nL s args Ts own) (hK : eK E s) (hP : va_P E.1 vwCl ws H) (hD : va_D A ws) (hS : va_S A H0 H locs) (hA : ∀ q : Nat, H0.size ≤ q → A q) (hl : ls.size = nL)
    (hM : cM l y wsY rm E H.size (As) wc rv post W') (cw : va_CN R s args own index y host bytes maxL ret wsY rm rm.cells rm.slots n ∧ (Cond.static y).before args s = true ∧ True)
    (isC isR : List Nat) (hnC : va_nd isC = true) (hC : isC.map (fun i => ws[i]?) = wc.map some) (hR : isR.map (fun i => ws[i]?) = (isR.filterMap (fun i => ws[i]?)).map some) (hn : va_nd isR = true) (hdis : ∀ i ∈ isR, i ∉ isC)
    (hst : st0 = As.reverse ++ rest) (hln : As.length = n) (hcat : (rest.map fun v => v.category).sum ≤ 8) (hdg : decode cc pc = .ok (.invokestatic index, 3)) (hf : cells + rm.cells ≤ R.cells ∧ slots + rm.slots ≤ R.slots)
    (kk : ∀ (u : S) (H1 : Heap) (locs1 : List Loc), post u → H.size ≤ H1.size → va_P E.1 vwCl (isR.filterMap (fun i => ws[i]?) ++ W' u) H1 → va_D A (isR.filterMap (fun i => ws[i]?) ++ W' u) → va_S A H0 H1 locs1 → W p l e R s m args below meth c H1 locs1 (cells + rm.cells) (slots + rm.slots) Q (F0 m (pc + 3) ls ((rv u).toList ++ rest))) : W p l e R s m args below meth c H locs cells slots Q (F0 m pc ls st0) := by
  subst hst
  have hPc : va_P E.1 vwCl wc H := e_sub hP isC hC
  have hDc : va_D A wc := hD.sub isC hnC hC
  exact e_back (va_runSN F hM cw ⟨cP_blind, cP_of hK hPc hDc⟩ rfl hln hl rfl (lv_room hcat) hdg hf) hP hD hS hA isC isR hC hR hn hdis kk
end ECALL
/-! ===== rows of arrays with an index that is a number ===== -/
section EARR
variable {p : Program} {l : Launch} {e : Env} {R : Room} {s : State} {m : MethodId} {args : Array Value} {below : List Frame} {meth : Method} {c : Code} {H H0 : Heap} {locs : List Loc} {cells slots : Nat} {Q : State → Prop} {E : eT} {A : Nat → Prop} {ws : va_W} {cc : ByteArray} {pc : Nat} {ls : Array Slot} {rest : List Value} {a : Nat}
def b2i (b : Bool) : Int32 := if b then 1 else 0
theorem b2i_nar (b : Bool) : vp_nar .boolean (b2i b) = b2i b := by cases b <;> decide +kernel
theorem b2i_narrow (b : Bool) : narrow .boolean (.int (b2i b)) = .int (b2i b) := by cases b <;> decide +kernel
theorem b2i_ne (b : Bool) : b2i b ≠ 0 ↔ b = true := by cases b <;> decide +kernel
theorem b2i_eq (b : Bool) : b2i b = 0 ↔ b = false := by cases b <;> decide +kernel
def updB (f : Nat → Bool) (k : Nat) (x : Bool) : Nat → Bool := fun j => if j = k then x else f j
theorem updB_b2i (f : Nat → Bool) (k : Nat) (x : Bool) : upd (fun j => b2i (f j)) k (b2i x) = fun j => b2i (updB f k x j) := by
  funext j
  unfold upd updB
  by_cases h : j = k
  · rw [if_pos h, if_pos h]
  · rw [if_neg h, if_neg h]
theorem e_iald (hK : eK E s) (hP : va_P E.1 vwCl ws H) (q0 : Nat) {n : Nat} {f : Nat → Int32} (ha : ws[q0]? = some (a, .inl (E.2.1, n, .inl f))) (j : Nat) (hj : j < n) (hn : n < 2 ^ 31) (hx : p.tables.exec = Jvm.exec) (hb : c.code = cc) (hdg : decode cc pc = .ok (.iaload, 1))
    (kk : W p l e R s m args below meth c H locs cells slots Q (F0 m (pc + 1) ls (.int (f j) :: rest))) : W p l e R s m args below meth c H locs cells slots Q (F0 m pc ls (.int (nI j) :: .ref a :: rest)) := by
  refine va_iald hx hb hK.1 hP q0 0 ha rfl (vp_in_nI hj hn) hdg ?_
  rw [nI_clamp (by omega)]
  exact kk
theorem e_zald (hK : eK E s) (hP : va_P E.1 vwCl ws H) (q0 : Nat) {n : Nat} {f : Nat → Bool} (ha : ws[q0]? = some (a, .inl (E.2.2.1, n, .inl (fun k => b2i (f k))))) (j : Nat) (hj : j < n) (hn : n < 2 ^ 31) (hx : p.tables.exec = Jvm.exec) (hb : c.code = cc) (hdg : decode cc pc = .ok (.baload, 1))
    (kk : W p l e R s m args below meth c H locs cells slots Q (F0 m (pc + 1) ls (.int (b2i (f j)) :: rest))) : W p l e R s m args below meth c H locs cells slots Q (F0 m pc ls (.int (nI j) :: .ref a :: rest)) := by
  refine va_zald hx hb hK.1 hP q0 1 ha rfl (vp_in_nI hj hn) hdg ?_
  rw [nI_clamp (by omega)]
  exact kk
theorem e_lald (hK : eK E s) (hP : va_P E.1 vwCl ws H) (q0 : Nat) {n : Nat} {f : Nat → Int64} (ha : ws[q0]? = some (a, .inl (E.2.2.2, n, .inr (.inl f)))) (j : Nat) (hj : j < n) (hn : n < 2 ^ 31) (hx : p.tables.exec = Jvm.exec) (hb : c.code = cc) (hdg : decode cc pc = .ok (.laload, 1))
    (kk : W p l e R s m args below meth c H locs cells slots Q (F0 m (pc + 1) ls (.long (f j) :: rest))) : W p l e R s m args below meth c H locs cells slots Q (F0 m pc ls (.int (nI j) :: .ref a :: rest)) := by
  refine va_lald hx hb hK.1 hP q0 2 ha rfl (vp_in_nI hj hn) hdg ?_
  rw [nI_clamp (by omega)]
  exact kk
theorem e_iast (hK : eK E s) (hP : va_P E.1 vwCl ws H) (hD : va_D A ws) (hS : va_S A H0 H locs) (q0 : Nat) {n : Nat} {f : Nat → Int32} (ha : ws[q0]? = some (a, .inl (E.2.1, n, .inl f))) (j : Nat) (hj : j < n) (hn : n < 2 ^ 31) (hx : p.tables.exec = Jvm.exec) (hb : c.code = cc) {x : Int32} (hdg : decode cc pc = .ok (.iastore, 1))
    (kk : ∀ (H1 : Heap) (locs1 : List Loc), va_P E.1 vwCl (ws.set q0 (a, .inl (E.2.1, n, .inl (upd f j x)))) H1 → va_D A (ws.set q0 (a, .inl (E.2.1, n, .inl (upd f j x)))) → va_S A H0 H1 locs1 → W p l e R s m args below meth c H1 locs1 cells slots Q (F0 m (pc + 1) ls rest)) : W p l e R s m args below meth c H locs cells slots Q (F0 m pc ls (.int x :: .int (nI j) :: .ref a :: rest)) := by
  refine va_iast hx hb hK.1 hP hD hS q0 0 ha rfl (vp_in_nI hj hn) hdg ?_
  rw [nI_clamp (by omega)]
  exact kk
theorem e_zast (hK : eK E s) (hP : va_P E.1 vwCl ws H) (hD : va_D A ws) (hS : va_S A H0 H locs) (q0 : Nat) {n : Nat} {f : Nat → Bool} (ha : ws[q0]? = some (a, .inl (E.2.2.1, n, .inl (fun k => b2i (f k))))) (j : Nat) (hj : j < n) (hn : n < 2 ^ 31) (hx : p.tables.exec = Jvm.exec) (hb : c.code = cc) {x : Bool} (hdg : decode cc pc = .ok (.bastore, 1))
    (kk : ∀ (H1 : Heap) (locs1 : List Loc), va_P E.1 vwCl (ws.set q0 (a, .inl (E.2.2.1, n, .inl (fun k => b2i (updB f j x k))))) H1 → va_D A (ws.set q0 (a, .inl (E.2.2.1, n, .inl (fun k => b2i (updB f j x k))))) → va_S A H0 H1 locs1 → W p l e R s m args below meth c H1 locs1 cells slots Q (F0 m (pc + 1) ls rest)) : W p l e R s m args below meth c H locs cells slots Q (F0 m pc ls (.int (b2i x) :: .int (nI j) :: .ref a :: rest)) := by
  refine va_zast hx hb hK.1 hP hD hS q0 1 ha rfl (vp_in_nI hj hn) hdg ?_
  rw [nI_clamp (by omega), b2i_nar, updB_b2i]
  exact kk
theorem e_last (hK : eK E s) (hP : va_P E.1 vwCl ws H) (hD : va_D A ws) (hS : va_S A H0 H locs) (q0 : Nat) {n : Nat} {f : Nat → Int64} (ha : ws[q0]? = some (a, .inl (E.2.2.2, n, .inr (.inl f)))) (j : Nat) (hj : j < n) (hn : n < 2 ^ 31) (hx : p.tables.exec = Jvm.exec) (hb : c.code = cc) {x : Int64} (hdg : decode cc pc = .ok (.lastore, 1))
    (kk : ∀ (H1 : Heap) (locs1 : List Loc), va_P E.1 vwCl (ws.set q0 (a, .inl (E.2.2.2, n, .inr (.inl (vp_updL f j x))))) H1 → va_D A (ws.set q0 (a, .inl (E.2.2.2, n, .inr (.inl (vp_updL f j x))))) → va_S A H0 H1 locs1 → W p l e R s m args below meth c H1 locs1 cells slots Q (F0 m (pc + 1) ls rest)) : W p l e R s m args below meth c H locs cells slots Q (F0 m pc ls (.long x :: .int (nI j) :: .ref a :: rest)) := by
  refine va_last hx hb hK.1 hP hD hS q0 2 ha rfl (vp_in_nI hj hn) hdg ?_
  rw [nI_clamp (by omega)]
  exact kk
/-- the number on the stack, by another writing of it -/
theorem e_top {x y : Int32} (h : x = y) (k : W p l e R s m args below meth c H locs cells slots Q (F0 m pc ls (.int y :: rest))) : W p l e R s m args below meth c H locs cells slots Q (F0 m pc ls (.int x :: rest)) := by rw [h]; exact k
theorem e_topL {x y : Int64} (h : x = y) (k : W p l e R s m args below meth c H locs cells slots Q (F0 m pc ls (.long y :: rest))) : W p l e R s m args below meth c H locs cells slots Q (F0 m pc ls (.long x :: rest)) := by rw [h]; exact k
/-- a new array: its class is the one that the tables name -/
theorem e_uniq {s : State} {cA cB : ClassId} {ty : FieldType} (hty : ty = .int ∨ ty = .boolean ∨ ty = .long) (h1 : va_RA s cA ty) (h2 : va_RA s cB ty) : cA = cB := by
  rcases hty with rfl | rfl | rfl
  all_goals
    have a1 : s.vm.findClass _ = some cA := h1
    have a2 : s.vm.findClass _ = some cB := h2
    exact Option.some.inj (a1.symm.trans a2)
theorem e_newI (hK : eK E s) (hP : va_P E.1 vwCl ws H) (hD : va_D A ws) (hS : va_S A H0 H locs) (hA : ∀ q : Nat, H0.size ≤ q → A q) (hx : p.tables.exec = Jvm.exec) (hb : c.code = cc) (harr : (Cond.arrayClass .int).before args s = true) (n : Nat) (hn : n < 1000) {x : Int32} (hxn : x = nI n) (hcells : cells + 1 ≤ R.cells) (hslots : slots + n ≤ R.slots) (hdg : decode cc pc = .ok (.newarray .int, 2))
    (kk : ∀ (q : Nat) (H1 : Heap), va_P E.1 vwCl (ws ++ [(q, .inl (E.2.1, n, .inl (fun _ => 0)))]) H1 → va_D A (ws ++ [(q, .inl (E.2.1, n, .inl (fun _ => 0)))]) → va_S A H0 H1 locs → W p l e R s m args below meth c H1 locs (cells + 1) (slots + n) Q (F0 m (pc + 2) ls (.ref q :: rest))) : W p l e R s m args below meth c H locs cells slots Q (F0 m pc ls (.int x :: rest)) := by
  subst hxn
  refine va_newa (atype := .int) hx hb harr (ty := .int) rfl hK.1 hP hD hS hA (n := nI n) (N' := n) (a0 := (n, .inl (fun _ => 0))) (fun cA => rfl) (nI_pos (by omega)) (nI_clamp (by omega)) (by show n * 4 ≤ _; omega) hcells hslots hdg (fun q cA H1 hK1 hP1 hD1 hS1 => ?_)
  have e1 : cA = E.2.1 := e_uniq (Or.inl rfl) (hK1.2 3 _ rfl).2 (hK.1.2 0 _ rfl).2
  subst e1
  exact kk q H1 hP1 hD1 hS1
theorem e_newZ (hK : eK E s) (hP : va_P E.1 vwCl ws H) (hD : va_D A ws) (hS : va_S A H0 H locs) (hA : ∀ q : Nat, H0.size ≤ q → A q) (hx : p.tables.exec = Jvm.exec) (hb : c.code = cc) (harr : (Cond.arrayClass .boolean).before args s = true) (n : Nat) (hn : n < 1000) {x : Int32} (hxn : x = nI n) (hcells : cells + 1 ≤ R.cells) (hslots : slots + n ≤ R.slots) (hdg : decode cc pc = .ok (.newarray .boolean, 2))
    (kk : ∀ (q : Nat) (H1 : Heap), va_P E.1 vwCl (ws ++ [(q, .inl (E.2.2.1, n, .inl (fun _ => b2i false)))]) H1 → va_D A (ws ++ [(q, .inl (E.2.2.1, n, .inl (fun _ => b2i false)))]) → va_S A H0 H1 locs → W p l e R s m args below meth c H1 locs (cells + 1) (slots + n) Q (F0 m (pc + 2) ls (.ref q :: rest))) : W p l e R s m args below meth c H locs cells slots Q (F0 m pc ls (.int x :: rest)) := by
  subst hxn
  refine va_newa (atype := .boolean) hx hb harr (ty := .boolean) rfl hK.1 hP hD hS hA (n := nI n) (N' := n) (a0 := (n, .inl (fun _ => b2i false))) (fun cA => rfl) (nI_pos (by omega)) (nI_clamp (by omega)) (by show n * 1 ≤ _; omega) hcells hslots hdg (fun q cA H1 hK1 hP1 hD1 hS1 => ?_)
  have e1 : cA = E.2.2.1 := e_uniq (Or.inr (Or.inl rfl)) (hK1.2 3 _ rfl).2 (hK.1.2 1 _ rfl).2
  subst e1
  exact kk q H1 hP1 hD1 hS1
theorem e_newL (hK : eK E s) (hP : va_P E.1 vwCl ws H) (hD : va_D A ws) (hS : va_S A H0 H locs) (hA : ∀ q : Nat, H0.size ≤ q → A q) (hx : p.tables.exec = Jvm.exec) (hb : c.code = cc) (harr : (Cond.arrayClass .long).before args s = true) (n : Nat) (hn : n < 1000) {x : Int32} (hxn : x = nI n) (hcells : cells + 1 ≤ R.cells) (hslots : slots + n ≤ R.slots) (hdg : decode cc pc = .ok (.newarray .long, 2))
    (kk : ∀ (q : Nat) (H1 : Heap), va_P E.1 vwCl (ws ++ [(q, .inl (E.2.2.2, n, .inr (.inl (fun _ => 0))))]) H1 → va_D A (ws ++ [(q, .inl (E.2.2.2, n, .inr (.inl (fun _ => 0))))]) → va_S A H0 H1 locs → W p l e R s m args below meth c H1 locs (cells + 1) (slots + n) Q (F0 m (pc + 2) ls (.ref q :: rest))) : W p l e R s m args below meth c H locs cells slots Q (F0 m pc ls (.int x :: rest)) := by
  subst hxn
  refine va_newa (atype := .long) hx hb harr (ty := .long) rfl hK.1 hP hD hS hA (n := nI n) (N' := n) (a0 := (n, .inr (.inl (fun _ => 0)))) (fun cA => rfl) (nI_pos (by omega)) (nI_clamp (by omega)) (by show n * 8 ≤ _; omega) hcells hslots hdg (fun q cA H1 hK1 hP1 hD1 hS1 => ?_)
  have e1 : cA = E.2.2.2 := e_uniq (Or.inr (Or.inr rfl)) (hK1.2 3 _ rfl).2 (hK.1.2 2 _ rfl).2
  subst e1
  exact kk q H1 hP1 hD1 hS1
end EARR
end
section
/-! ===== branches over numbers, over truth values, over a place or none ===== -/
section EBR
variable {p : Program} {l : Launch} {e : Env} {R : Room} {s : State} {m : MethodId} {args : Array Value} {below : List Frame} {meth : Method} {c : Code} {H H0 : Heap} {locs : List Loc} {cells slots : Nat} {Q : State → Prop} {E : eT} {A : Nat → Prop} {ws : va_W} {cc : ByteArray} {pc : Nat} {ls : Array Slot} {rest : List Value} {a : Nat}
def oI : Option Nat → Int32
  | none => -1
  | some q => nI q
theorem oI_ne {q : Nat} (h : q < 2 ^ 31) : ¬ nI q = -1 := by
  intro h1
  have h2 := congrArg Int32.toInt h1
  rw [nI_toInt h] at h2
  have h3 : (-1 : Int32).toInt = -1 := by decide +kernel
  rw [h3] at h2
  omega
theorem n_icmp_lt {x y : Nat} (ha : x < 2 ^ 31) (hb : y < 2 ^ 31) (hx : p.tables.exec = Jvm.exec) (hbd : c.code = cc) {off : Int} {tgt : Nat} (hdg : decode cc pc = .ok (.if_icmp .lt off, 3)) (ht : (pc : Int) + off = (tgt : Int))
    (kt : x < y → W p l e R s m args below meth c H locs cells slots Q (F0 m tgt ls rest)) (kf : y ≤ x → W p l e R s m args below meth c H locs cells slots Q (F0 m (pc + 3) ls rest)) : W p l e R s m args below meth c H locs cells slots Q (F0 m pc ls (.int (nI y) :: .int (nI x) :: rest)) :=
  lv_icmp_lt hx hbd hdg ht (fun h => kt ((nI_ltI ha hb).mp h)) (fun h => kf (Nat.not_lt.mp (fun z => h ((nI_ltI ha hb).mpr z))))
theorem n_icmp_ge {x y : Nat} (ha : x < 2 ^ 31) (hb : y < 2 ^ 31) (hx : p.tables.exec = Jvm.exec) (hbd : c.code = cc) {off : Int} {tgt : Nat} (hdg : decode cc pc = .ok (.if_icmp .ge off, 3)) (ht : (pc : Int) + off = (tgt : Int))
    (kt : y ≤ x → W p l e R s m args below meth c H locs cells slots Q (F0 m tgt ls rest)) (kf : x < y → W p l e R s m args below meth c H locs cells slots Q (F0 m (pc + 3) ls rest)) : W p l e R s m args below meth c H locs cells slots Q (F0 m pc ls (.int (nI y) :: .int (nI x) :: rest)) :=
  lv_icmp_ge hx hbd hdg ht (fun h => kt ((nI_leI hb ha).mp h)) (fun h => kf (Nat.not_le.mp (fun z => h ((nI_leI hb ha).mpr z))))
theorem n_icmp_gt {x y : Nat} (ha : x < 2 ^ 31) (hb : y < 2 ^ 31) (hx : p.tables.exec = Jvm.exec) (hbd : c.code = cc) {off : Int} {tgt : Nat} (hdg : decode cc pc = .ok (.if_icmp .gt off, 3)) (ht : (pc : Int) + off = (tgt : Int))
    (kt : y < x → W p l e R s m args below meth c H locs cells slots Q (F0 m tgt ls rest)) (kf : x ≤ y → W p l e R s m args below meth c H locs cells slots Q (F0 m (pc + 3) ls rest)) : W p l e R s m args below meth c H locs cells slots Q (F0 m pc ls (.int (nI y) :: .int (nI x) :: rest)) :=
  lv_icmp_gt hx hbd hdg ht (fun h => kt ((nI_ltI hb ha).mp h)) (fun h => kf (Nat.not_lt.mp (fun z => h ((nI_ltI hb ha).mpr z))))
theorem n_icmp_le {x y : Nat} (ha : x < 2 ^ 31) (hb : y < 2 ^ 31) (hx : p.tables.exec = Jvm.exec) (hbd : c.code = cc) {off : Int} {tgt : Nat} (hdg : decode cc pc = .ok (.if_icmp .le off, 3)) (ht : (pc : Int) + off = (tgt : Int))
    (kt : x ≤ y → W p l e R s m args below meth c H locs cells slots Q (F0 m tgt ls rest)) (kf : y < x → W p l e R s m args below meth c H locs cells slots Q (F0 m (pc + 3) ls rest)) : W p l e R s m args below meth c H locs cells slots Q (F0 m pc ls (.int (nI y) :: .int (nI x) :: rest)) :=
  lv_icmp_le hx hbd hdg ht (fun h => kt ((nI_leI ha hb).mp h)) (fun h => kf (Nat.not_le.mp (fun z => h ((nI_leI ha hb).mpr z))))
theorem n_icmp_eq {x y : Nat} (ha : x < 2 ^ 31) (hb : y < 2 ^ 31) (hx : p.tables.exec = Jvm.exec) (hbd : c.code = cc) {off : Int} {tgt : Nat} (hdg : decode cc pc = .ok (.if_icmp .eq off, 3)) (ht : (pc : Int) + off = (tgt : Int))
    (kt : x = y → W p l e R s m args below meth c H locs cells slots Q (F0 m tgt ls rest)) (kf : ¬ x = y → W p l e R s m args below meth c H locs cells slots Q (F0 m (pc + 3) ls rest)) : W p l e R s m args below meth c H locs cells slots Q (F0 m pc ls (.int (nI y) :: .int (nI x) :: rest)) :=
  lv_icmp_eq hx hbd hdg ht (fun h => kt ((nI_eq ha hb).mp h)) (fun h => kf (fun z => h ((nI_eq ha hb).mpr z)))
theorem n_icmp_ne {x y : Nat} (ha : x < 2 ^ 31) (hb : y < 2 ^ 31) (hx : p.tables.exec = Jvm.exec) (hbd : c.code = cc) {off : Int} {tgt : Nat} (hdg : decode cc pc = .ok (.if_icmp .ne off, 3)) (ht : (pc : Int) + off = (tgt : Int))
    (kt : ¬ x = y → W p l e R s m args below meth c H locs cells slots Q (F0 m tgt ls rest)) (kf : x = y → W p l e R s m args below meth c H locs cells slots Q (F0 m (pc + 3) ls rest)) : W p l e R s m args below meth c H locs cells slots Q (F0 m pc ls (.int (nI y) :: .int (nI x) :: rest)) :=
  lv_icmp_ne hx hbd hdg ht (fun h => kt (fun z => h ((nI_eq ha hb).mpr z))) (fun h => kf ((nI_eq ha hb).mp h))
theorem n_if_eq {x : Nat} (ha : x < 2 ^ 31) (hx : p.tables.exec = Jvm.exec) (hbd : c.code = cc) {off : Int} {tgt : Nat} (hdg : decode cc pc = .ok (.ifCond .eq off, 3)) (ht : (pc : Int) + off = (tgt : Int))
    (kt : x = 0 → W p l e R s m args below meth c H locs cells slots Q (F0 m tgt ls rest)) (kf : ¬ x = 0 → W p l e R s m args below meth c H locs cells slots Q (F0 m (pc + 3) ls rest)) : W p l e R s m args below meth c H locs cells slots Q (F0 m pc ls (.int (nI x) :: rest)) :=
  lv_if_eq hx hbd hdg ht (fun h => kt ((nI_eq (b := 0) ha (by decide)).mp h)) (fun h => kf (fun z => h ((nI_eq (b := 0) ha (by decide)).mpr z)))
theorem n_if_ne {x : Nat} (ha : x < 2 ^ 31) (hx : p.tables.exec = Jvm.exec) (hbd : c.code = cc) {off : Int} {tgt : Nat} (hdg : decode cc pc = .ok (.ifCond .ne off, 3)) (ht : (pc : Int) + off = (tgt : Int))
    (kt : ¬ x = 0 → W p l e R s m args below meth c H locs cells slots Q (F0 m tgt ls rest)) (kf : x = 0 → W p l e R s m args below meth c H locs cells slots Q (F0 m (pc + 3) ls rest)) : W p l e R s m args below meth c H locs cells slots Q (F0 m pc ls (.int (nI x) :: rest)) :=
  lv_if_ne hx hbd hdg ht (fun h => kt (fun z => h ((nI_eq (b := 0) ha (by decide)).mpr z))) (fun h => kf ((nI_eq (b := 0) ha (by decide)).mp h))
theorem n_if_le {x : Nat} (ha : x < 2 ^ 31) (hx : p.tables.exec = Jvm.exec) (hbd : c.code = cc) {off : Int} {tgt : Nat} (hdg : decode cc pc = .ok (.ifCond .le off, 3)) (ht : (pc : Int) + off = (tgt : Int))
    (kt : x = 0 → W p l e R s m args below meth c H locs cells slots Q (F0 m tgt ls rest)) (kf : 0 < x → W p l e R s m args below meth c H locs cells slots Q (F0 m (pc + 3) ls rest)) : W p l e R s m args below meth c H locs cells slots Q (F0 m pc ls (.int (nI x) :: rest)) :=
  lv_if_le hx hbd hdg ht (fun h => kt (by rcases Nat.eq_zero_or_pos x with z | z; exact z; exact absurd h (nI_nle z ha))) (fun h => kf (by rcases Nat.eq_zero_or_pos x with z | z; subst z; exact absurd (nI_le (Nat.le_refl 0) (by decide)) h; exact z))
theorem n_if_gt {x : Nat} (ha : x < 2 ^ 31) (hx : p.tables.exec = Jvm.exec) (hbd : c.code = cc) {off : Int} {tgt : Nat} (hdg : decode cc pc = .ok (.ifCond .gt off, 3)) (ht : (pc : Int) + off = (tgt : Int))
    (kt : 0 < x → W p l e R s m args below meth c H locs cells slots Q (F0 m tgt ls rest)) (kf : x = 0 → W p l e R s m args below meth c H locs cells slots Q (F0 m (pc + 3) ls rest)) : W p l e R s m args below meth c H locs cells slots Q (F0 m pc ls (.int (nI x) :: rest)) :=
  lv_if_gt hx hbd hdg ht (fun h => kt ((nI_ltI (a := 0) (by decide) ha).mp h)) (fun h => kf (by rcases Nat.eq_zero_or_pos x with z | z; exact z; exact absurd ((nI_ltI (a := 0) (by decide) ha).mpr z) h))
theorem b_if_eq {x : Bool} (hx : p.tables.exec = Jvm.exec) (hbd : c.code = cc) {off : Int} {tgt : Nat} (hdg : decode cc pc = .ok (.ifCond .eq off, 3)) (ht : (pc : Int) + off = (tgt : Int))
    (kt : x = false → W p l e R s m args below meth c H locs cells slots Q (F0 m tgt ls rest)) (kf : x = true → W p l e R s m args below meth c H locs cells slots Q (F0 m (pc + 3) ls rest)) : W p l e R s m args below meth c H locs cells slots Q (F0 m pc ls (.int (b2i x) :: rest)) :=
  lv_if_eq hx hbd hdg ht (fun h => kt ((b2i_eq x).mp h)) (fun h => kf ((b2i_ne x).mp h))
theorem b_if_ne {x : Bool} (hx : p.tables.exec = Jvm.exec) (hbd : c.code = cc) {off : Int} {tgt : Nat} (hdg : decode cc pc = .ok (.ifCond .ne off, 3)) (ht : (pc : Int) + off = (tgt : Int))
    (kt : x = true → W p l e R s m args below meth c H locs cells slots Q (F0 m tgt ls rest)) (kf : x = false → W p l e R s m args below meth c H locs cells slots Q (F0 m (pc + 3) ls rest)) : W p l e R s m args below meth c H locs cells slots Q (F0 m pc ls (.int (b2i x) :: rest)) :=
  lv_if_ne hx hbd hdg ht (fun h => kt ((b2i_ne x).mp h)) (fun h => kf ((b2i_eq x).mp h))
theorem o_icmp_eq {x : Option Nat} (ha : ∀ q, x = some q → q < 2 ^ 31) (hx : p.tables.exec = Jvm.exec) (hbd : c.code = cc) {off : Int} {tgt : Nat} (hdg : decode cc pc = .ok (.if_icmp .eq off, 3)) (ht : (pc : Int) + off = (tgt : Int))
    (kt : x = none → W p l e R s m args below meth c H locs cells slots Q (F0 m tgt ls rest)) (kf : ∀ q, x = some q → W p l e R s m args below meth c H locs cells slots Q (F0 m (pc + 3) ls rest)) : W p l e R s m args below meth c H locs cells slots Q (F0 m pc ls (.int (-1) :: .int (oI x) :: rest)) := by
  cases x with
  | none => exact lv_icmp_eq hx hbd hdg ht (fun _ => kt rfl) (fun h => absurd rfl h)
  | some q => exact lv_icmp_eq hx hbd hdg ht (fun h => absurd h (oI_ne (ha q rfl))) (fun _ => kf q rfl)
theorem o_icmp_ne {x : Option Nat} (ha : ∀ q, x = some q → q < 2 ^ 31) (hx : p.tables.exec = Jvm.exec) (hbd : c.code = cc) {off : Int} {tgt : Nat} (hdg : decode cc pc = .ok (.if_icmp .ne off, 3)) (ht : (pc : Int) + off = (tgt : Int))
    (kt : ∀ q, x = some q → W p l e R s m args below meth c H locs cells slots Q (F0 m tgt ls rest)) (kf : x = none → W p l e R s m args below meth c H locs cells slots Q (F0 m (pc + 3) ls rest)) : W p l e R s m args below meth c H locs cells slots Q (F0 m pc ls (.int (-1) :: .int (oI x) :: rest)) := by
  cases x with
  | none => exact lv_icmp_ne hx hbd hdg ht (fun h => absurd rfl h) (fun _ => kf rfl)
  | some q => exact lv_icmp_ne hx hbd hdg ht (fun _ => kt q rfl) (fun h => absurd h (oI_ne (ha q rfl)))
end EBR
/-! ===== numbers ===== -/
def iMax (x y : Int32) : Int32 := if x < y then y else x
def iMin (x y : Int32) : Int32 := if y < x then y else x
theorem i_lt (a b : Int32) : a < b ↔ a.toInt < b.toInt := Int32.lt_iff_toInt_lt
theorem i_le (a b : Int32) : a ≤ b ↔ a.toInt ≤ b.toInt := Int32.le_iff_toInt_le
theorem i_ext {a b : Int32} (h : a.toInt = b.toInt) : a = b := Int32.toInt_inj.mp h
theorem i_nle {a b : Int32} (h : a < b) : ¬ b ≤ a := by rw [i_lt] at h; rw [i_le]; omega
theorem i_nlt {a b : Int32} (h : ¬ a < b) : b ≤ a := by rw [i_lt] at h; rw [i_le]; omega
theorem iMax_comm (x y : Int32) : iMax x y = iMax y x := by
  unfold iMax
  by_cases h : x < y
  · have h2 : ¬ y < x := by rw [i_lt] at h ⊢; omega
    rw [if_pos h, if_neg h2]
  · rw [if_neg h]
    by_cases h2 : y < x
    · rw [if_pos h2]
    · rw [if_neg h2]
      rw [i_lt] at h h2
      exact i_ext (by omega)
theorem iMin_comm (x y : Int32) : iMin x y = iMin y x := by
  unfold iMin
  by_cases h : x < y
  · have h2 : ¬ y < x := by rw [i_lt] at h ⊢; omega
    rw [if_pos h, if_neg h2]
  · rw [if_neg h]
    by_cases h2 : y < x
    · rw [if_pos h2]
    · rw [if_neg h2]
      rw [i_lt] at h h2
      exact i_ext (by omega)
theorem iMax_toInt (x y : Int32) : (iMax x y).toInt = if x.toInt < y.toInt then y.toInt else x.toInt := by
  unfold iMax
  by_cases h : x < y
  · rw [if_pos h, if_pos ((i_lt _ _).mp h)]
  · rw [if_neg h, if_neg (fun z => h ((i_lt _ _).mpr z))]
theorem iMin_toInt (x y : Int32) : (iMin x y).toInt = if y.toInt < x.toInt then y.toInt else x.toInt := by
  unfold iMin
  by_cases h : y < x
  · rw [if_pos h, if_pos ((i_lt _ _).mp h)]
  · rw [if_neg h, if_neg (fun z => h ((i_lt _ _).mpr z))]
end
section
/-! ===== the cells of each kind of thing ===== -/
def wTb (E : eT) (o a b : Nat) (wm st : Nat → Int32) : va_W := [(o, .inr (3, [.ref a, .ref b])), (a, .inl (E.2.1, 12, .inl wm)), (b, .inl (E.2.1, 12, .inl st))]
def wCo (E : eT) (o a b d : Nat) (gr co : Nat → Int32) (hb : Nat → Bool) (mo : Int32) : va_W := [(o, .inr (0, [.ref a, .ref b, .ref d, .int mo])), (a, .inl (E.2.1, 81, .inl gr)), (b, .inl (E.2.1, 81, .inl co)), (d, .inl (E.2.2.1, 81, .inl (fun k => b2i (hb k))))]
def wSo (E : eT) (o a b : Nat) (sd tk : Nat → Int32) : va_W := [(o, .inr (1, [.ref a, .ref b])), (a, .inl (E.2.1, 81, .inl sd)), (b, .inl (E.2.1, 81, .inl tk))]
def wSp (E : eT) (o a b d : Nat) (op : Nat → Bool) (sp rc : Nat → Nat) (rn : Nat) : va_W := [(o, .inr (2, [.ref a, .ref b, .ref d, .int (nI rn)])), (a, .inl (E.2.2.1, 81, .inl (fun k => b2i (op k)))), (b, .inl (E.2.1, 81, .inl (fun k => nI (sp k)))), (d, .inl (E.2.1, 81, .inl (fun k => nI (rc k))))]
def wPi (E : eT) (o : Nat) (ad : Nat → Nat) : va_W := [(o, .inr (4, [.ref (ad 0), .ref (ad 3), .ref (ad 7), .ref (ad 11), .ref (ad 14), .ref (ad 18)]))]
def wWa (E : eT) (a : Nat) (wa : Nat → Int32) : va_W := [(a, .inl (E.2.1, 81, .inl wa))]
/-- the pilot with all that it owns: table ad 0.., coast ad 3.., ahead ad 7.., soundings ad 11.., spread ad 14.., water ad 18 -/
def wAll (E : eT) (o : Nat) (ad : Nat → Nat) (wm st gr co : Nat → Int32) (hb : Nat → Bool) (mo : Int32) (ga ca : Nat → Int32) (ha : Nat → Bool) (ma : Int32) (sd tk : Nat → Int32) (op : Nat → Bool) (sp rc : Nat → Nat) (rn : Nat) (wa : Nat → Int32) : va_W :=
  [(o, .inr (4, [.ref (ad 0), .ref (ad 3), .ref (ad 7), .ref (ad 11), .ref (ad 14), .ref (ad 18)])),
   (ad 0, .inr (3, [.ref (ad 1), .ref (ad 2)])), (ad 1, .inl (E.2.1, 12, .inl wm)), (ad 2, .inl (E.2.1, 12, .inl st)),
   (ad 3, .inr (0, [.ref (ad 4), .ref (ad 5), .ref (ad 6), .int mo])), (ad 4, .inl (E.2.1, 81, .inl gr)), (ad 5, .inl (E.2.1, 81, .inl co)), (ad 6, .inl (E.2.2.1, 81, .inl (fun k => b2i (hb k)))),
   (ad 7, .inr (0, [.ref (ad 8), .ref (ad 9), .ref (ad 10), .int ma])), (ad 8, .inl (E.2.1, 81, .inl ga)), (ad 9, .inl (E.2.1, 81, .inl ca)), (ad 10, .inl (E.2.2.1, 81, .inl (fun k => b2i (ha k)))),
   (ad 11, .inr (1, [.ref (ad 12), .ref (ad 13)])), (ad 12, .inl (E.2.1, 81, .inl sd)), (ad 13, .inl (E.2.1, 81, .inl tk)),
   (ad 14, .inr (2, [.ref (ad 15), .ref (ad 16), .ref (ad 17), .int (nI rn)])), (ad 15, .inl (E.2.2.1, 81, .inl (fun k => b2i (op k)))), (ad 16, .inl (E.2.1, 81, .inl (fun k => nI (sp k)))), (ad 17, .inl (E.2.1, 81, .inl (fun k => nI (rc k)))),
   (ad 18, .inl (E.2.1, 81, .inl wa))]
/-- the reference: its object and its nine rows, ad 0 .. ad 8 -/
def wMo (E : eT) (o : Nat) (ad : Nat → Nat) (th : Int32) (gr co sd tk wm st : Nat → Int32) (mo : Int32) (nx : Nat → Int32) (lb : Nat → Option Nat) (fr : Nat → Nat) : va_W :=
  [(o, .inr (5, [.int th, .ref (ad 0), .ref (ad 1), .ref (ad 2), .ref (ad 3), .ref (ad 4), .ref (ad 5), .int mo, .ref (ad 6), .ref (ad 7), .ref (ad 8)])),
   (ad 0, .inl (E.2.1, 81, .inl gr)), (ad 1, .inl (E.2.1, 81, .inl co)), (ad 2, .inl (E.2.1, 81, .inl sd)), (ad 3, .inl (E.2.1, 81, .inl tk)), (ad 4, .inl (E.2.1, 12, .inl wm)), (ad 5, .inl (E.2.1, 12, .inl st)),
   (ad 6, .inl (E.2.1, 81, .inl nx)), (ad 7, .inl (E.2.1, 81, .inl (fun k => oI (lb k)))), (ad 8, .inl (E.2.1, 81, .inl (fun k => nI (fr k))))]
/-! rows of numbers, of places or none -/
section ENO
variable {p : Program} {l : Launch} {e : Env} {R : Room} {s : State} {m : MethodId} {args : Array Value} {below : List Frame} {meth : Method} {c : Code} {H H0 : Heap} {locs : List Loc} {cells slots : Nat} {Q : State → Prop} {E : eT} {A : Nat → Prop} {ws : va_W} {cc : ByteArray} {pc : Nat} {ls : Array Slot} {rest : List Value} {a : Nat}
theorem upN (f : Nat → Nat) (k x : Nat) : upd (fun j => nI (f j)) k (nI x) = fun j => nI (va_up f k x j) := by
  funext j
  unfold upd va_up
  by_cases h : j = k
  · rw [if_pos h, if_pos h]
  · rw [if_neg h, if_neg h]
theorem upO (f : Nat → Option Nat) (k : Nat) (x : Option Nat) : upd (fun j => oI (f j)) k (oI x) = fun j => oI (va_up f k x j) := by
  funext j
  unfold upd va_up
  by_cases h : j = k
  · rw [if_pos h, if_pos h]
  · rw [if_neg h, if_neg h]
theorem e_nald (hK : eK E s) (hP : va_P E.1 vwCl ws H) (q0 : Nat) {n : Nat} {f : Nat → Nat} (ha : ws[q0]? = some (a, .inl (E.2.1, n, .inl (fun k => nI (f k))))) (j : Nat) (hj : j < n) (hn : n < 2 ^ 31) (hx : p.tables.exec = Jvm.exec) (hb : c.code = cc) (hdg : decode cc pc = .ok (.iaload, 1))
    (kk : W p l e R s m args below meth c H locs cells slots Q (F0 m (pc + 1) ls (.int (nI (f j)) :: rest))) : W p l e R s m args below meth c H locs cells slots Q (F0 m pc ls (.int (nI j) :: .ref a :: rest)) := e_iald hK hP q0 ha j hj hn hx hb hdg kk
theorem e_oald (hK : eK E s) (hP : va_P E.1 vwCl ws H) (q0 : Nat) {n : Nat} {f : Nat → Option Nat} (ha : ws[q0]? = some (a, .inl (E.2.1, n, .inl (fun k => oI (f k))))) (j : Nat) (hj : j < n) (hn : n < 2 ^ 31) (hx : p.tables.exec = Jvm.exec) (hb : c.code = cc) (hdg : decode cc pc = .ok (.iaload, 1))
    (kk : W p l e R s m args below meth c H locs cells slots Q (F0 m (pc + 1) ls (.int (oI (f j)) :: rest))) : W p l e R s m args below meth c H locs cells slots Q (F0 m pc ls (.int (nI j) :: .ref a :: rest)) := e_iald hK hP q0 ha j hj hn hx hb hdg kk
theorem e_nast (hK : eK E s) (hP : va_P E.1 vwCl ws H) (hD : va_D A ws) (hS : va_S A H0 H locs) (q0 : Nat) {n : Nat} {f : Nat → Nat} (ha : ws[q0]? = some (a, .inl (E.2.1, n, .inl (fun k => nI (f k))))) (j : Nat) (hj : j < n) (hn : n < 2 ^ 31) (hx : p.tables.exec = Jvm.exec) (hb : c.code = cc) {x : Nat} (hdg : decode cc pc = .ok (.iastore, 1))
    (kk : ∀ (H1 : Heap) (locs1 : List Loc), va_P E.1 vwCl (ws.set q0 (a, .inl (E.2.1, n, .inl (fun k => nI (va_up f j x k))))) H1 → va_D A (ws.set q0 (a, .inl (E.2.1, n, .inl (fun k => nI (va_up f j x k))))) → va_S A H0 H1 locs1 → W p l e R s m args below meth c H1 locs1 cells slots Q (F0 m (pc + 1) ls rest)) : W p l e R s m args below meth c H locs cells slots Q (F0 m pc ls (.int (nI x) :: .int (nI j) :: .ref a :: rest)) := by
  refine e_iast hK hP hD hS q0 ha j hj hn hx hb hdg ?_
  rw [upN]
  exact kk
theorem e_oast (hK : eK E s) (hP : va_P E.1 vwCl ws H) (hD : va_D A ws) (hS : va_S A H0 H locs) (q0 : Nat) {n : Nat} {f : Nat → Option Nat} (ha : ws[q0]? = some (a, .inl (E.2.1, n, .inl (fun k => oI (f k))))) (j : Nat) (hj : j < n) (hn : n < 2 ^ 31) (hx : p.tables.exec = Jvm.exec) (hb : c.code = cc) {x : Option Nat} (hdg : decode cc pc = .ok (.iastore, 1))
    (kk : ∀ (H1 : Heap) (locs1 : List Loc), va_P E.1 vwCl (ws.set q0 (a, .inl (E.2.1, n, .inl (fun k => oI (va_up f j x k))))) H1 → va_D A (ws.set q0 (a, .inl (E.2.1, n, .inl (fun k => oI (va_up f j x k))))) → va_S A H0 H1 locs1 → W p l e R s m args below meth c H1 locs1 cells slots Q (F0 m (pc + 1) ls rest)) : W p l e R s m args below meth c H locs cells slots Q (F0 m pc ls (.int (oI x) :: .int (nI j) :: .ref a :: rest)) := by
  refine e_iast hK hP hD hS q0 ha j hj hn hx hb hdg ?_
  rw [upO]
  exact kk
end ENO
end
section
/-! ===== what the coast is, in numbers ===== -/
/-- the neighbour of p above, left, right, below (0 to 3) -/
def nb (p d : Nat) : Option Nat :=
  if d = 0 then (if 9 ≤ p then some (p - 9) else none)
  else if d = 1 then (if p % 9 = 0 then none else some (p - 1))
  else if d = 2 then (if p % 9 = 8 then none else some (p + 1))
  else (if p < 72 then some (p + 9) else none)
theorem nb_lt {p d q : Nat} (hp : p < 81) (h : nb p d = some q) : q < 81 := by
  unfold nb at h
  by_cases h0 : d = 0
  · rw [if_pos h0] at h
    by_cases h1 : 9 ≤ p
    · rw [if_pos h1] at h; cases h; omega
    · rw [if_neg h1] at h; cases h
  · rw [if_neg h0] at h
    by_cases h1 : d = 1
    · rw [if_pos h1] at h
      by_cases h2 : p % 9 = 0
      · rw [if_pos h2] at h; cases h
      · rw [if_neg h2] at h; cases h; omega
    · rw [if_neg h1] at h
      by_cases h2 : d = 2
      · rw [if_pos h2] at h
        by_cases h3 : p % 9 = 8
        · rw [if_pos h3] at h; cases h
        · rw [if_neg h3] at h; cases h; omega
      · rw [if_neg h2] at h
        by_cases h3 : p < 72
        · rw [if_pos h3] at h; cases h; omega
        · rw [if_neg h3] at h; cases h
theorem nb_ob {p d : Nat} (hp : p < 81) : ∀ q, nb p d = some q → q < 2 ^ 31 := fun q h => Nat.lt_trans (nb_lt hp h) (by decide)
def dep (gr co : Nat → Int32) (k : Nat) : Int32 := iMax (gr k - co k) (nI 0)
def hd (co : Nat → Int32) (k : Nat) : Bool := !decide (co k < nI 5)
def heads (co : Nat → Int32) : Nat := fb_ct (hd co) 81
def sumI (f : Nat → Int32) : Nat → Int32
  | 0 => nI 0
  | n + 1 => sumI f n + f n
/-- is there a head beside p, that way -/
def hbq (h : Nat → Bool) (p d : Nat) : Bool := match nb p d with
  | none => false
  | some q => h q
theorem hbq_none {h : Nat → Bool} {p d : Nat} (c : nb p d = none) : hbq h p d = false := by unfold hbq; rw [c]
theorem hbq_some {h : Nat → Bool} {p d q : Nat} (c : nb p d = some q) : hbq h p d = h q := by unfold hbq; rw [c]
def hbs (h : Nat → Bool) (p : Nat) : Nat := fb_ct (hbq h p) 4
theorem hbs_le (h : Nat → Bool) (p : Nat) : hbs h p ≤ 4 := fb_ct_le _ _
def grw (gr co : Nat → Int32) (h : Nat → Bool) (k : Nat) : Int32 :=
  if 0 < co k ∧ nI 2 ≤ dep gr co k ∧ dep gr co k ≤ nI 15 then iMin (co k + (if 2 ≤ hbs h k then nI 2 else nI 1)) (gr k - nI 1) else co k
def sdd (gr co : Nat → Int32) (h : Nat → Bool) (k : Nat) : Int32 :=
  if co k = 0 ∧ nI 3 ≤ gr k ∧ gr k ≤ nI 15 ∧ 0 < hbs h k then nI 1 else co k
def die (co : Nat → Int32) (k : Nat) : Int32 := iMax (co k - nI 1) (nI 0)
def warmed (w : Int32) (gr co : Nat → Int32) : Nat → Int32 := if nI 8 ≤ w then die co else if nI 3 ≤ w then grw gr co (hd co) else co
def seeded (gr co : Nat → Int32) : Nat → Int32 := sdd gr co (hd co)
/-- one cell of a storm -/
def blow1 (s : Int32) (x : (Nat → Int32) × (Nat → Int32)) (k : Nat) : (Nat → Int32) × (Nat → Int32) :=
  if s / nI 2 ≤ dep x.1 x.2 k then x
  else (if k + 9 < 81 then upd x.1 (k + 9) (iMax (x.1 (k + 9) - iMin (s / nI 3) (x.2 k)) (upd x.2 k (x.2 k - iMin (s / nI 3) (x.2 k)) (k + 9))) else x.1, upd x.2 k (x.2 k - iMin (s / nI 3) (x.2 k)))
def blows (s : Int32) (x : (Nat → Int32) × (Nat → Int32)) : Nat → (Nat → Int32) × (Nat → Int32)
  | 0 => x
  | n + 1 => blow1 s (blows s x n) n
/-- a month: ground and coral behind it -/
def month1 (wm st : Nat → Int32) (x : (Nat → Int32) × (Nat → Int32)) (mo : Nat) : (Nat → Int32) × (Nat → Int32) :=
  blows (st (mo % 12)) (x.1, seeded x.1 (warmed (wm (mo % 12)) x.1 x.2)) 81
def months (wm st : Nat → Int32) (x : (Nat → Int32) × (Nat → Int32)) (mo : Nat) : Nat → (Nat → Int32) × (Nat → Int32)
  | 0 => x
  | n + 1 => month1 wm st (months wm st x mo n) (mo + n)
/-- the chart: how old, how deep for sure -/
def chOld (sd tk : Nat → Int32) (mo : Int32) (k : Nat) : Int32 := if sd k = (-1) then (-1) else mo - tk k
def chSafe (sd tk : Nat → Int32) (mo : Int32) (k : Nat) : Int32 := if sd k = (-1) then (-1) else iMax (sd k - (mo - tk k) / nI 2) (nI 0)
theorem rvi {x y : Int32} (h : x = y) : some (Value.int x) = some (Value.int y) := by rw [h]
theorem rvl {x y : Int64} (h : x = y) : some (Value.long x) = some (Value.long y) := by rw [h]
theorem b2i_t {b : Bool} (h : b = true) : b2i b = nI 1 := by rw [h]; rfl
theorem b2i_f {b : Bool} (h : b = false) : b2i b = nI 0 := by rw [h]; rfl
theorem nI_pm1 (x : Nat) : nI (x + 1) + Int32.ofInt (-1) = nI x := pk_m1 x
theorem hd_t {co : Nat → Int32} {k : Nat} (h : ¬ co k < nI 5) : hd co k = true := by unfold hd; rw [decide_eq_false h]; rfl
theorem hd_f {co : Nat → Int32} {k : Nat} (h : co k < nI 5) : hd co k = false := by unfold hd; rw [decide_eq_true h]; rfl
theorem e_arr {cA : ClassId} {n : Nat} {f g : Nat → Int32} (hfg : ∀ k, k < n → f k = g k) : arrV cA n (fun j => Value.int (f j)) = arrV cA n (fun j => Value.int (g j)) := by
  have h : (fun j : Fin n => Value.int (f j.val)) = fun j : Fin n => Value.int (g j.val) := funext fun j => by rw [hfg j.val j.isLt]
  unfold arrV
  rw [h]
/-- a row by another writing of its places below its length -/
theorem e_cong {D : va_G} {cl : List vw_C} {ws : va_W} {H : Heap} (hP : va_P D cl ws H) (q0 : Nat) {a n : Nat} {cA : ClassId} {f g : Nat → Int32} (ha : ws[q0]? = some (a, .inl (cA, n, .inl f))) (hfg : ∀ k, k < n → f k = g k) : va_P D cl (ws.set q0 (a, .inl (cA, n, .inl g))) H := by
  intro k q hk
  by_cases hkp : k = q0
  · subst hkp
    rw [List.getElem?_set_self (List.getElem?_eq_some_iff.mp ha).1] at hk
    cases hk
    have h1 := hP k _ ha
    have h2 : H[a]? = some (vp_cell cA (n, .inl f)) := h1
    show H[a]? = some (vp_cell cA (n, .inl g))
    rw [h2, vp_cell_i, vp_cell_i]
    rw [e_arr hfg]
  · rw [List.getElem?_set_ne (Ne.symm hkp)] at hk
    exact hP k q hk
theorem nI_x12 {x : Nat} (h : x < 2 ^ 31) : 0 ≤ nI x ^^^ nI 12 := by
  rw [fb_xorI]
  exact nI_pos' (Nat.xor_lt_two_pow h (by decide))
/-! a loop that lays F over g, place by place -/
theorem lay_0 {F g : Nat → Int32} : ∀ k : Nat, g k = if k < 0 then F k else g k := fun k => by rw [if_neg (Nat.not_lt_zero k)]
theorem lay_at {F g f : Nat → Int32} {z : Nat} (hf : ∀ k : Nat, f k = if k < z then F k else g k) : f z = g z := by rw [hf z, if_neg (Nat.lt_irrefl z)]
theorem lay_same {F g f : Nat → Int32} {z : Nat} (hf : ∀ k : Nat, f k = if k < z then F k else g k) (h : F z = g z) : ∀ k : Nat, f k = if k < z + 1 then F k else g k := by
  intro k
  rw [hf k]
  by_cases h1 : k < z
  · rw [if_pos h1, if_pos (by omega)]
  · rw [if_neg h1]
    by_cases h2 : k = z
    · subst h2; rw [if_pos (by omega)]; exact h.symm
    · rw [if_neg (by omega)]
theorem lay_upd {F g f : Nat → Int32} {z : Nat} {v : Int32} (hf : ∀ k : Nat, f k = if k < z then F k else g k) (h : v = F z) : ∀ k : Nat, upd f z v k = if k < z + 1 then F k else g k := by
  intro k
  unfold upd
  by_cases h2 : k = z
  · subst h2; rw [if_pos rfl, if_pos (by omega)]; exact h
  · rw [if_neg h2, hf k]
    by_cases h1 : k < z
    · rw [if_pos h1, if_pos (by omega)]
    · rw [if_neg h1, if_neg (by omega)]
theorem lay_end {F g f : Nat → Int32} {z n : Nat} (hf : ∀ k : Nat, f k = if k < z then F k else g k) (h : n ≤ z) : ∀ k : Nat, k < n → f k = F k := fun k hk => by rw [hf k, if_pos (by omega)]
theorem layB_0 {F g : Nat → Bool} : ∀ k : Nat, g k = if k < 0 then F k else g k := fun k => by rw [if_neg (Nat.not_lt_zero k)]
theorem layB_upd {F g f : Nat → Bool} {z : Nat} {v : Bool} (hf : ∀ k : Nat, f k = if k < z then F k else g k) (h : v = F z) : ∀ k : Nat, updB f z v k = if k < z + 1 then F k else g k := by
  intro k
  unfold updB
  by_cases h2 : k = z
  · subst h2; rw [if_pos rfl, if_pos (by omega)]; exact h
  · rw [if_neg h2, hf k]
    by_cases h1 : k < z
    · rw [if_pos h1, if_pos (by omega)]
    · rw [if_neg h1, if_neg (by omega)]
theorem layB_end {F g f : Nat → Bool} {z n : Nat} (hf : ∀ k : Nat, f k = if k < z then F k else g k) (h : n ≤ z) : ∀ k : Nat, k < n → b2i (f k) = b2i (F k) := fun k hk => by rw [hf k, if_pos (by omega)]
theorem dep_cong {gr co gr2 co2 : Nat → Int32} {k : Nat} (h : gr k = gr2 k) (h2 : co k = co2 k) : dep gr co k = dep gr2 co2 k := by unfold dep; rw [h, h2]
theorem grw_no {gr co : Nat → Int32} {h : Nat → Bool} {k : Nat} (c : co k ≤ 0 ∨ dep gr co k < nI 2 ∨ nI 15 < dep gr co k) : grw gr co h k = co k := by
  unfold grw
  rw [if_neg]
  rintro ⟨h1, h2, h3⟩
  simp only [i_lt, i_le] at *
  omega
theorem grw_yes {gr co : Nat → Int32} {h : Nat → Bool} {k : Nat} (c1 : ¬ co k ≤ 0) (c2 : ¬ dep gr co k < nI 2) (c3 : ¬ nI 15 < dep gr co k) {g : Int32} (hg : g = if 2 ≤ hbs h k then nI 2 else nI 1) : iMin (co k + g) (gr k - nI 1) = grw gr co h k := by
  unfold grw
  rw [if_pos, hg]
  simp only [i_lt, i_le] at *
  omega
theorem sdd_no {gr co : Nat → Int32} {h : Nat → Bool} {k : Nat} (c : ¬ co k = 0 ∨ gr k < nI 3 ∨ nI 15 < gr k ∨ hbs h k = 0) : sdd gr co h k = co k := by
  unfold sdd
  rw [if_neg]
  rintro ⟨h1, h2, h3, h4⟩
  rcases c with c | c | c | c
  · exact c h1
  · simp only [i_lt, i_le] at *; omega
  · simp only [i_lt, i_le] at *; omega
  · omega
theorem sdd_yes {gr co : Nat → Int32} {h : Nat → Bool} {k : Nat} (c1 : co k = 0) (c2 : ¬ gr k < nI 3) (c3 : ¬ nI 15 < gr k) (c4 : 0 < hbs h k) : nI 1 = sdd gr co h k := by
  unfold sdd
  rw [if_pos]
  refine ⟨c1, ?_, ?_, c4⟩ <;> (simp only [i_lt, i_le] at *; omega)
end
section
/-! ===== spreading from cell to neighbour, as the class does it, in numbers ===== -/
/-- steps, queue, how many are in it -/
abbrev bS : Type := (Nat → Nat) × (Nat → Nat) × Nat
def bReach (op : Nat → Bool) (x : bS) (p c : Nat) : bS :=
  if op p = true ∧ x.1 p = 0 ∧ x.2.2 < 81 then (va_up x.1 p c, va_up x.2.1 x.2.2 p, x.2.2 + 1) else x
def bDir (op : Nat → Bool) (x : bS) (p d : Nat) : bS := match nb p d with
  | none => x
  | some q => bReach op x q (x.1 p + 1)
def bDirs (op : Nat → Bool) (x : bS) (p : Nat) : Nat → bS
  | 0 => x
  | d + 1 => bDir op (bDirs op x p d) p d
def bGo (op : Nat → Bool) : Nat → bS → Nat → bS
  | 0, x, _ => x
  | f + 1, x, i => if i < 81 ∧ i < x.2.2 then bGo op f (bDirs op x (x.2.1 i) 4) (i + 1) else x
def bRow (op : Nat → Bool) (x : bS) (r : Nat) : Nat → bS
  | 0 => x
  | k + 1 => bReach op (bRow op x r k) (r + k) 1
theorem bDir_none {op : Nat → Bool} {x : bS} {p d : Nat} (h : nb p d = none) : bDir op x p d = x := by unfold bDir; rw [h]
theorem bDir_some {op : Nat → Bool} {x : bS} {p d q : Nat} (h : nb p d = some q) : bDir op x p d = bReach op x q (x.1 p + 1) := by unfold bDir; rw [h]
theorem bGo_stop {op : Nat → Bool} {f : Nat} {x : bS} {i : Nat} (h : ¬ (i < 81 ∧ i < x.2.2)) : bGo op f x i = x := by
  cases f with
  | zero => rfl
  | succ f => show (if i < 81 ∧ i < x.2.2 then _ else x) = x; rw [if_neg h]
theorem bGo_step {op : Nat → Bool} {f : Nat} {x : bS} {i : Nat} (h : i < 81 ∧ i < x.2.2) : bGo op (f + 1) x i = bGo op f (bDirs op x (x.2.1 i) 4) (i + 1) := by
  show (if i < 81 ∧ i < x.2.2 then _ else x) = _
  rw [if_pos h]
/-- what the machine wants of it: all numbers are small -/
def bOk (x : bS) : Prop := x.2.2 ≤ 81 ∧ (∀ k, k < x.2.2 → x.2.1 k < 81) ∧ ∀ k, x.1 k ≤ x.2.2
theorem bReach_ok {op : Nat → Bool} {x : bS} {p c : Nat} (h : bOk x) (hp : p < 81) (hc : c ≤ x.2.2 + 1) : bOk (bReach op x p c) := by
  unfold bReach
  by_cases hq : op p = true ∧ x.1 p = 0 ∧ x.2.2 < 81
  · rw [if_pos hq]
    obtain ⟨h1, h2, h3⟩ := h
    refine ⟨by show x.2.2 + 1 ≤ 81; omega, fun k hk => ?_, fun k => ?_⟩
    · show va_up x.2.1 x.2.2 p k < 81
      unfold va_up
      by_cases e : k = x.2.2
      · rw [if_pos e]; exact hp
      · rw [if_neg e]
        have hk' : k < x.2.2 + 1 := hk
        exact h2 k (by omega)
    · show va_up x.1 p c k ≤ x.2.2 + 1
      unfold va_up
      by_cases e : k = p
      · rw [if_pos e]; exact hc
      · rw [if_neg e]
        have := h3 k
        omega
  · rw [if_neg hq]; exact h
theorem bDir_ok {op : Nat → Bool} {x : bS} {p d : Nat} (h : bOk x) (hp : p < 81) : bOk (bDir op x p d) := by
  cases hn : nb p d with
  | none => rw [bDir_none hn]; exact h
  | some q => rw [bDir_some hn]; exact bReach_ok h (nb_lt hp hn) (by have := h.2.2 p; omega)
theorem bDirs_ok {op : Nat → Bool} {x : bS} {p : Nat} (h : bOk x) (hp : p < 81) : ∀ d, bOk (bDirs op x p d)
  | 0 => h
  | d + 1 => bDir_ok (bDirs_ok h hp d) hp
theorem bRow_ok {op : Nat → Bool} {x : bS} {r : Nat} (h : bOk x) : ∀ k, r + k ≤ 81 → bOk (bRow op x r k)
  | 0, _ => h
  | k + 1, hk => bReach_ok (bRow_ok h k (by omega)) (by omega) (by omega)
theorem bGo_ok {op : Nat → Bool} : ∀ (f : Nat) {x : bS} (i : Nat), bOk x → bOk (bGo op f x i)
  | 0, _, _, h => h
  | f + 1, x, i, h => by
    by_cases hq : i < 81 ∧ i < x.2.2
    · rw [bGo_step hq]; exact bGo_ok f (i + 1) (bDirs_ok h (h.2.1 i hq.2) 4)
    · rw [bGo_stop hq]; exact h
/-! neighbours -/
def adj (p q : Nat) : Prop := ∃ d, d < 4 ∧ nb p d = some q
theorem adj_lt {p q : Nat} (hp : p < 81) (h : adj p q) : q < 81 := by obtain ⟨d, -, h⟩ := h; exact nb_lt hp h
theorem nb0 {p : Nat} (h : 9 ≤ p) : nb p 0 = some (p - 9) := by unfold nb; rw [if_pos rfl, if_pos h]
theorem nb1 {p : Nat} (h : ¬ p % 9 = 0) : nb p 1 = some (p - 1) := by unfold nb; rw [if_neg (by decide), if_pos rfl, if_neg h]
theorem nb2 {p : Nat} (h : ¬ p % 9 = 8) : nb p 2 = some (p + 1) := by unfold nb; rw [if_neg (by decide), if_neg (by decide), if_pos rfl, if_neg h]
theorem nb3 {p : Nat} (h : p < 72) : nb p 3 = some (p + 9) := by unfold nb; rw [if_neg (by decide), if_neg (by decide), if_neg (by decide), if_pos h]
theorem adj_symm {p q : Nat} (hp : p < 81) (h : adj p q) : adj q p := by
  obtain ⟨d, hd, h⟩ := h
  unfold nb at h
  rcases (show d = 0 ∨ d = 1 ∨ d = 2 ∨ d = 3 by omega) with rfl | rfl | rfl | rfl
  · rw [if_pos rfl] at h
    by_cases h1 : 9 ≤ p
    · rw [if_pos h1] at h; cases h
      exact ⟨3, by decide, by rw [nb3 (by omega)]; congr 1 <;> omega⟩
    · rw [if_neg h1] at h; cases h
  · rw [if_neg (by decide), if_pos rfl] at h
    by_cases h1 : p % 9 = 0
    · rw [if_pos h1] at h; cases h
    · rw [if_neg h1] at h; cases h
      exact ⟨2, by decide, by rw [nb2 (by omega)]; congr 1 <;> omega⟩
  · rw [if_neg (by decide), if_neg (by decide), if_pos rfl] at h
    by_cases h1 : p % 9 = 8
    · rw [if_pos h1] at h; cases h
    · rw [if_neg h1] at h; cases h
      exact ⟨1, by decide, by rw [nb1 (by omega)]; congr 1⟩
  · rw [if_neg (by decide), if_neg (by decide), if_neg (by decide)] at h
    by_cases h1 : p < 72
    · rw [if_pos h1] at h; cases h
      exact ⟨0, by decide, by rw [nb0 (by omega)]; congr 1 <;> omega⟩
    · rw [if_neg h1] at h; cases h
/-! the queue holds just the cells that were reached -/
def vis (D : Nat → Nat) (q : Nat) : Bool := decide (D q ≠ 0)
theorem vis_t {D : Nat → Nat} {q : Nat} : vis D q = true ↔ D q ≠ 0 := by unfold vis; exact decide_eq_true_iff
def bInv (op : Nat → Bool) (x : bS) : Prop :=
  x.2.2 = fb_ct (vis x.1) 81 ∧ (∀ k, k < x.2.2 → x.2.1 k < 81 ∧ x.1 (x.2.1 k) ≠ 0) ∧ ∀ q, x.1 q ≠ 0 → q < 81 ∧ op q = true ∧ ∃ k, k < x.2.2 ∧ x.2.1 k = q
theorem bInv_room {op : Nat → Bool} {x : bS} (h : bInv op x) {q : Nat} (hq : q < 81) (h0 : x.1 q = 0) : x.2.2 < 81 := by
  have h1 := h.1
  have h2 := fb_ct_le (vis x.1) 81
  rcases Nat.lt_or_ge x.2.2 81 with z | z
  · exact z
  · have h3 : fb_ct (vis x.1) 81 = 81 := by omega
    have h4 := fb_ct_all.mp h3 q hq
    exact absurd h0 (vis_t.mp h4)
theorem bReach_yes {op : Nat → Bool} {x : bS} {p c : Nat} (h : bInv op x) (hp : p < 81) (ho : op p = true) (h0 : x.1 p = 0) : bReach op x p c = (va_up x.1 p c, va_up x.2.1 x.2.2 p, x.2.2 + 1) := by
  unfold bReach
  rw [if_pos ⟨ho, h0, bInv_room h hp h0⟩]
theorem bReach_no {op : Nat → Bool} {x : bS} {p c : Nat} (h : ¬ (op p = true ∧ x.1 p = 0)) : bReach op x p c = x := by
  unfold bReach
  rw [if_neg (fun z => h ⟨z.1, z.2.1⟩)]
theorem va_up_s {α : Type} {f : Nat → α} {k : Nat} {v : α} : va_up f k v k = v := by unfold va_up; rw [if_pos rfl]
theorem va_up_n {α : Type} {f : Nat → α} {k j : Nat} {v : α} (h : ¬ j = k) : va_up f k v j = f j := by unfold va_up; rw [if_neg h]
theorem bReach_inv {op : Nat → Bool} {x : bS} {p c : Nat} (h : bInv op x) (hp : p < 81) (hc : c ≠ 0) : bInv op (bReach op x p c) := by
  by_cases hq : op p = true ∧ x.1 p = 0
  · rw [bReach_yes h hp hq.1 hq.2]
    obtain ⟨h1, h2, h3⟩ := id h
    have e : vis (va_up x.1 p c) = fun k => if k = p then true else vis x.1 k := by
      funext k
      by_cases e : k = p
      · rw [if_pos e, e]
        exact vis_t.mpr (by rw [va_up_s]; exact hc)
      · rw [if_neg e]
        unfold vis
        rw [va_up_n e]
    refine ⟨?_, fun k hk => ?_, fun q hz => ?_⟩
    · show x.2.2 + 1 = fb_ct (vis (va_up x.1 p c)) 81
      have h5 := fb_ct_upd (vis x.1) true hp
      have h6 : vis x.1 p = false := by
        cases hv : vis x.1 p
        · rfl
        · exact absurd hq.2 (vis_t.mp hv)
      rw [e]
      rw [h6] at h5
      simp only [if_true, Bool.false_eq_true, if_false] at h5
      omega
    · have hk' : k < x.2.2 + 1 := hk
      show va_up x.2.1 x.2.2 p k < 81 ∧ va_up x.1 p c (va_up x.2.1 x.2.2 p k) ≠ 0
      by_cases e1 : k = x.2.2
      · rw [e1, va_up_s, va_up_s]
        exact ⟨hp, hc⟩
      · rw [va_up_n e1]
        obtain ⟨a1, a2⟩ := h2 k (by omega)
        refine ⟨a1, ?_⟩
        by_cases e2 : x.2.1 k = p
        · rw [e2, va_up_s]; exact hc
        · rw [va_up_n e2]; exact a2
    · have hz' : va_up x.1 p c q ≠ 0 := hz
      show q < 81 ∧ op q = true ∧ ∃ k, k < x.2.2 + 1 ∧ va_up x.2.1 x.2.2 p k = q
      by_cases e1 : q = p
      · subst e1
        exact ⟨hp, hq.1, x.2.2, by omega, va_up_s⟩
      · rw [va_up_n e1] at hz'
        obtain ⟨a1, a2, k, a3, a4⟩ := h3 q hz'
        exact ⟨a1, a2, k, by omega, by rw [va_up_n (by omega)]; exact a4⟩
  · rw [bReach_no hq]; exact h
/-- what was reached stays -/
def bLe (x y : bS) : Prop := x.2.2 ≤ y.2.2 ∧ (∀ k, k < x.2.2 → y.2.1 k = x.2.1 k) ∧ ∀ q, x.1 q ≠ 0 → y.1 q = x.1 q
theorem bLe_rf {x : bS} : bLe x x := ⟨Nat.le_refl _, fun _ _ => rfl, fun _ _ => rfl⟩
theorem bLe_tr {x y z : bS} (h : bLe x y) (h2 : bLe y z) : bLe x z :=
  ⟨Nat.le_trans h.1 h2.1, fun k hk => (h2.2.1 k (Nat.lt_of_lt_of_le hk h.1)).trans (h.2.1 k hk), fun q hq => (h2.2.2 q (by rw [h.2.2 q hq]; exact hq)).trans (h.2.2 q hq)⟩
theorem bReach_le {op : Nat → Bool} {x : bS} {p c : Nat} : bLe x (bReach op x p c) := by
  unfold bReach
  by_cases hq : op p = true ∧ x.1 p = 0 ∧ x.2.2 < 81
  · rw [if_pos hq]
    refine ⟨by show x.2.2 ≤ x.2.2 + 1; omega, fun k hk => va_up_n (by omega), fun q h0 => va_up_n (fun e => h0 (by rw [e]; exact hq.2.1))⟩
  · rw [if_neg hq]; exact bLe_rf
theorem bReach_in {op : Nat → Bool} {x : bS} {p c : Nat} (h : bInv op x) (hp : p < 81) (hc : c ≠ 0) (ho : op p = true) : (bReach op x p c).1 p ≠ 0 := by
  by_cases h0 : x.1 p = 0
  · rw [bReach_yes h hp ho h0]
    show va_up x.1 p c p ≠ 0
    rw [va_up_s]; exact hc
  · rw [bReach_no (fun z => h0 z.2)]; exact h0
/-- what a reach adds -/
theorem bReach_new {op : Nat → Bool} {x : bS} {p c q : Nat} (h : (bReach op x p c).1 q ≠ 0) (h0 : x.1 q = 0) : q = p ∧ op p = true ∧ (bReach op x p c).1 q = c := by
  unfold bReach at h ⊢
  by_cases hq : op p = true ∧ x.1 p = 0 ∧ x.2.2 < 81
  · rw [if_pos hq] at h ⊢
    have h' : va_up x.1 p c q ≠ 0 := h
    show q = p ∧ op p = true ∧ va_up x.1 p c q = c
    by_cases e : q = p
    · exact ⟨e, hq.1, by rw [e, va_up_s]⟩
    · rw [va_up_n e] at h'; exact absurd h0 h'
  · rw [if_neg hq] at h; exact absurd h0 h
/-- an invariant over the four neighbours of p -/
theorem bDirs_ind {op : Nat → Bool} {x : bS} {p : Nat} (hp : p < 81) (I : bS → Nat → Prop) (h0 : I x 0) (hs : ∀ (y : bS) (d : Nat), d < 4 → I y d → (nb p d = none → I y (d + 1)) ∧ ∀ q, q < 81 → nb p d = some q → I (bReach op y q (y.1 p + 1)) (d + 1)) : ∀ d, d ≤ 4 → I (bDirs op x p d) d
  | 0, _ => h0
  | d + 1, hd => by
    have h1 := hs _ d (by omega) (bDirs_ind hp I h0 hs d (by omega))
    show I (bDir op (bDirs op x p d) p d) (d + 1)
    cases hn : nb p d with
    | none => rw [bDir_none hn]; exact h1.1 hn
    | some q => rw [bDir_some hn]; exact h1.2 q (nb_lt hp hn) hn
/-- an invariant over the spread, to its end -/
theorem bGo_ind {op : Nat → Bool} (I : bS → Nat → Prop) (hs : ∀ (x : bS) (i : Nat), I x i → i < 81 → i < x.2.2 → I (bDirs op x (x.2.1 i) 4) (i + 1)) : ∀ (f : Nat) (x : bS) (i : Nat), I x i → 82 ≤ i + f → ∃ j, I (bGo op f x i) j ∧ ¬ (j < 81 ∧ j < (bGo op f x i).2.2)
  | 0, x, i, h, hf => ⟨i, h, fun z => by omega⟩
  | f + 1, x, i, h, hf => by
    by_cases hq : i < 81 ∧ i < x.2.2
    · rw [bGo_step hq]
      exact bGo_ind I hs f _ (i + 1) (hs x i h hq.1 hq.2) (by omega)
    · rw [bGo_stop hq]
      exact ⟨i, h, hq⟩
/-! ===== distances ===== -/
/-- D tells for each cell how many cells a way from 'src' has at least, over open cells; 0 without one -/
def isDist (op : Nat → Bool) (src : Nat → Prop) (D : Nat → Nat) : Prop :=
  (∀ q, D q ≠ 0 → q < 81 ∧ op q = true) ∧ (∀ q, q < 81 → op q = true → src q → D q = 1) ∧ (∀ q, D q ≠ 0 → (D q = 1 ∧ src q) ∨ ∃ j, j < 81 ∧ D j ≠ 0 ∧ D q = D j + 1 ∧ adj j q) ∧ ∀ p q, D p ≠ 0 → adj p q → op q = true → D q ≠ 0 ∧ D q ≤ D p + 1
theorem isDist_le {op : Nat → Bool} {src : Nat → Prop} {D D2 : Nat → Nat} (h : isDist op src D) (h2 : isDist op src D2) : ∀ (n q : Nat), D q = n + 1 → D2 q ≠ 0 ∧ D2 q ≤ n + 1
  | n, q, e => by
    have hq : D q ≠ 0 := by omega
    obtain ⟨a1, a2⟩ := h.1 q hq
    rcases h.2.2.1 q hq with ⟨b1, b2⟩ | ⟨j, b1, b2, b3, b4⟩
    · have := h2.2.1 q a1 a2 b2
      omega
    · cases n with
      | zero => omega
      | succ n =>
        obtain ⟨c1, c2⟩ := isDist_le h h2 n j (by omega)
        obtain ⟨d1, d2⟩ := h2.2.2.2 j q c1 b4 a2
        exact ⟨d1, by omega⟩
theorem isDist_one {op : Nat → Bool} {src : Nat → Prop} {D D2 : Nat → Nat} (h : isDist op src D) (h2 : isDist op src D2) (q : Nat) : D q = D2 q := by
  rcases Nat.eq_zero_or_pos (D q) with z | z
  · rcases Nat.eq_zero_or_pos (D2 q) with z2 | z2
    · omega
    · obtain ⟨a, b⟩ := isDist_le h2 h (D2 q - 1) q (by omega)
      omega
  · obtain ⟨a, b⟩ := isDist_le h h2 (D q - 1) q (by omega)
    obtain ⟨a2, b2⟩ := isDist_le h2 h (D2 q - 1) q (by omega)
    omega
/-- between the rounds: i cells of the queue are done -/
def bMid (op : Nat → Bool) (src : Nat → Prop) (x : bS) (i : Nat) : Prop :=
  bInv op x ∧ (∀ k k2, k ≤ k2 → k2 < x.2.2 → x.1 (x.2.1 k) ≤ x.1 (x.2.1 k2)) ∧ (i < x.2.2 → ∀ k, k < x.2.2 → x.1 (x.2.1 k) ≤ x.1 (x.2.1 i) + 1) ∧
  (∀ q, x.1 q ≠ 0 → (x.1 q = 1 ∧ src q) ∨ ∃ j, j < 81 ∧ x.1 j ≠ 0 ∧ x.1 q = x.1 j + 1 ∧ adj j q) ∧ (∀ k q, k < i → k < x.2.2 → adj (x.2.1 k) q → op q = true → x.1 q ≠ 0 ∧ x.1 q ≤ x.1 (x.2.1 k) + 1) ∧ (∀ q, q < 81 → op q = true → src q → x.1 q = 1)
theorem bMid_step {op : Nat → Bool} {src : Nat → Prop} (x : bS) (i : Nat) (h : bMid op src x i) (hi : i < 81) (hn : i < x.2.2) : bMid op src (bDirs op x (x.2.1 i) 4) (i + 1) := by
  obtain ⟨h1, h2, h3, h4, h5, h6⟩ := h
  obtain ⟨p, hpe⟩ : ∃ p, p = x.2.1 i := ⟨_, rfl⟩
  rw [← hpe]
  have hp81 : p < 81 := by rw [hpe]; exact (h1.2.1 i hn).1
  have hp0 : x.1 p ≠ 0 := by rw [hpe]; exact (h1.2.1 i hn).2
  have key := bDirs_ind (op := op) (x := x) hp81 (fun y d => bInv op y ∧ bLe x y ∧ (∀ k k2, k ≤ k2 → k2 < y.2.2 → y.1 (y.2.1 k) ≤ y.1 (y.2.1 k2)) ∧ (∀ k, k < y.2.2 → y.1 (y.2.1 k) ≤ x.1 p + 1) ∧
    (∀ q, y.1 q ≠ 0 → (y.1 q = 1 ∧ src q) ∨ ∃ j, j < 81 ∧ y.1 j ≠ 0 ∧ y.1 q = y.1 j + 1 ∧ adj j q) ∧ (∀ d2 q, d2 < d → nb p d2 = some q → op q = true → y.1 q ≠ 0)) ?_ ?_ 4 (Nat.le_refl 4)
  · obtain ⟨k1, k2, k3, k4, k5, k6⟩ := key
    have hyi : (bDirs op x p 4).2.1 i = p := by rw [k2.2.1 i hn, hpe]
    have hyp : (bDirs op x p 4).1 p = x.1 p := k2.2.2 p hp0
    generalize bDirs op x p 4 = y at k1 k2 k3 k4 k5 k6 hyi hyp ⊢
    refine ⟨k1, k3, fun hl k hk => ?_, k5, fun k q hk hky ha ho => ?_, fun q a b c => ?_⟩
    · have a1 := k4 k hk
      have a2 := k3 i (i + 1) (by omega) hl
      rw [hyi, hyp] at a2
      omega
    · rcases Nat.lt_or_ge k i with z | z
      · have hkx : k < x.2.2 := by omega
        have e1 : y.2.1 k = x.2.1 k := k2.2.1 k hkx
        rw [e1] at ha ⊢
        obtain ⟨b1, b2⟩ := h5 k q z hkx ha ho
        have e2 : y.1 (x.2.1 k) = x.1 (x.2.1 k) := k2.2.2 _ (h1.2.1 k hkx).2
        rw [k2.2.2 q b1, e2]
        exact ⟨b1, b2⟩
      · have e : k = i := by omega
        subst e
        rw [hyi] at ha ⊢
        rw [hyp]
        obtain ⟨d, hd, hnb⟩ := ha
        have b1 := k6 d q hd hnb ho
        obtain ⟨-, -, kq, hkq, hkq2⟩ := k1.2.2 q b1
        have b2 := k4 kq hkq
        rw [hkq2] at b2
        exact ⟨b1, b2⟩
    · have b1 := h6 q a b c
      rw [k2.2.2 q (by omega)]
      exact b1
  · refine ⟨h1, bLe_rf, h2, fun k hk => ?_, h4, fun d2 q hd => absurd hd (Nat.not_lt_zero _)⟩
    rw [hpe]
    exact h3 hn k hk
  · intro y d hd ⟨k1, k2, k3, k4, k5, k6⟩
    have hyp : y.1 p = x.1 p := k2.2.2 p hp0
    refine ⟨fun hnone => ⟨k1, k2, k3, k4, k5, fun d2 q hd2 hnb ho => ?_⟩, fun q hq hnb => ?_⟩
    · rcases Nat.lt_or_ge d2 d with z | z
      · exact k6 d2 q z hnb ho
      · have e : d2 = d := by omega
        subst e
        rw [hnone] at hnb; cases hnb
    · rw [hyp]
      have hle : bLe y (bReach op y q (x.1 p + 1)) := bReach_le
      have hinv : bInv op (bReach op y q (x.1 p + 1)) := bReach_inv k1 hq (by omega)
      refine ⟨hinv, bLe_tr k2 hle, ?_, ?_, ?_, ?_⟩
      · by_cases hz : op q = true ∧ y.1 q = 0
        · rw [bReach_yes k1 hq hz.1 hz.2]
          intro k kk hkk hl
          have hl' : kk < y.2.2 + 1 := hl
          show va_up y.1 q (x.1 p + 1) (va_up y.2.1 y.2.2 q k) ≤ va_up y.1 q (x.1 p + 1) (va_up y.2.1 y.2.2 q kk)
          have old : ∀ t, t < y.2.2 → va_up y.1 q (x.1 p + 1) (va_up y.2.1 y.2.2 q t) = y.1 (y.2.1 t) := fun t ht => by
            rw [va_up_n (show ¬ t = y.2.2 by omega), va_up_n]
            intro e
            exact (k1.2.1 t ht).2 (by rw [e]; exact hz.2)
          have new : va_up y.1 q (x.1 p + 1) (va_up y.2.1 y.2.2 q y.2.2) = x.1 p + 1 := by rw [va_up_s, va_up_s]
          rcases Nat.lt_or_ge kk y.2.2 with z | z
          · rw [old k (by omega), old kk z]; exact k3 k kk hkk z
          · have e : kk = y.2.2 := by omega
            rw [e, new]
            rcases Nat.lt_or_ge k y.2.2 with z2 | z2
            · rw [old k z2]; exact k4 k z2
            · have e2 : k = y.2.2 := by omega
              rw [e2, new]; exact Nat.le_refl _
        · rw [bReach_no hz]; exact k3
      · by_cases hz : op q = true ∧ y.1 q = 0
        · intro k hk
          obtain ⟨a1, a2⟩ := hinv.2.1 k hk
          by_cases h0 : y.1 ((bReach op y q (x.1 p + 1)).2.1 k) = 0
          · obtain ⟨-, -, e⟩ := bReach_new a2 h0
            rw [e]; exact Nat.le_refl _
          · rw [hle.2.2 _ h0]
            obtain ⟨-, -, t, ht, ht2⟩ := k1.2.2 _ h0
            rw [← ht2]
            exact k4 t ht
        · rw [bReach_no hz]; exact k4
      · intro t ht
        by_cases h0 : y.1 t = 0
        · obtain ⟨e1, e2, e3⟩ := bReach_new ht h0
          refine Or.inr ⟨p, hp81, ?_, ?_, ?_⟩
          · rw [hle.2.2 p (by rw [hyp]; exact hp0), hyp]; exact hp0
          · rw [e3, hle.2.2 p (by rw [hyp]; exact hp0), hyp]
          · rw [e1]; exact ⟨d, hd, hnb⟩
        · rw [hle.2.2 t h0]
          rcases k5 t h0 with a | ⟨j, a1, a2, a3, a4⟩
          · exact Or.inl a
          · exact Or.inr ⟨j, a1, by rw [hle.2.2 j a2]; exact a2, by rw [hle.2.2 j a2]; exact a3, a4⟩
      · intro d2 t hd2 hnb2 ho
        rcases Nat.lt_or_ge d2 d with z | z
        · have a := k6 d2 t z hnb2 ho
          rw [hle.2.2 t a]; exact a
        · have e : d2 = d := by omega
          subst e
          rw [hnb] at hnb2; cases hnb2
          exact bReach_in k1 hq (by omega) ho
theorem bMid_end {op : Nat → Bool} {src : Nat → Prop} {x : bS} {j : Nat} (h : bMid op src x j) (hj : ¬ (j < 81 ∧ j < x.2.2)) : isDist op src x.1 := by
  obtain ⟨h1, h2, h3, h4, h5, h6⟩ := h
  have hn : x.2.2 ≤ 81 := by rw [h1.1]; exact fb_ct_le _ _
  refine ⟨fun q hq => ⟨(h1.2.2 q hq).1, (h1.2.2 q hq).2.1⟩, h6, h4, fun p q hp ha ho => ?_⟩
  obtain ⟨-, -, k, hk, hk2⟩ := h1.2.2 p hp
  rw [← hk2] at ha ⊢
  exact h5 k q (by omega) hk ha ho
/-- behind clear(): nothing is reached -/
def bClr (rc : Nat → Nat) : bS := (fun _ => 0, rc, 0)
theorem bClr_inv {op : Nat → Bool} {rc : Nat → Nat} : bInv op (bClr rc) := by
  refine ⟨?_, fun k hk => absurd hk (Nat.not_lt_zero k), fun q hq => absurd rfl hq⟩
  exact (fb_ct_zero.mpr (fun k _ => by unfold vis bClr; simp)).symm
theorem bClr_ok {rc : Nat → Nat} : bOk (bClr rc) := ⟨Nat.zero_le _, fun k hk => absurd hk (Nat.not_lt_zero k), fun _ => Nat.le_refl _⟩
/-- the row at which a spread begins -/
theorem bRow_mid {op : Nat → Bool} {rc : Nat → Nat} {r : Nat} (hr : r + 9 ≤ 81) : ∀ k, k ≤ 9 → bInv op (bRow op (bClr rc) r k) ∧ (∀ q, (bRow op (bClr rc) r k).1 q ≠ 0 → (bRow op (bClr rc) r k).1 q = 1 ∧ r ≤ q ∧ q < r + k) ∧ ∀ q, r ≤ q → q < r + k → op q = true → (bRow op (bClr rc) r k).1 q = 1
  | 0, _ => ⟨bClr_inv, fun q hq => absurd rfl hq, fun q h1 h2 => by omega⟩
  | k + 1, hk => by
    obtain ⟨a1, a2, a3⟩ := bRow_mid (op := op) (rc := rc) hr k (by omega)
    show bInv op (bReach op (bRow op (bClr rc) r k) (r + k) 1) ∧ (∀ q, (bReach op (bRow op (bClr rc) r k) (r + k) 1).1 q ≠ 0 → (bReach op (bRow op (bClr rc) r k) (r + k) 1).1 q = 1 ∧ r ≤ q ∧ q < r + (k + 1)) ∧ ∀ q, r ≤ q → q < r + (k + 1) → op q = true → (bReach op (bRow op (bClr rc) r k) (r + k) 1).1 q = 1
    generalize bRow op (bClr rc) r k = y at a1 a2 a3 ⊢
    have hle : bLe y (bReach op y (r + k) 1) := bReach_le
    have one : ∀ q, (bReach op y (r + k) 1).1 q ≠ 0 → (bReach op y (r + k) 1).1 q = 1 ∧ r ≤ q ∧ q < r + (k + 1) := fun q hq => by
      by_cases h0 : y.1 q = 0
      · obtain ⟨e1, e2, e3⟩ := bReach_new hq h0
        exact ⟨e3, by omega, by omega⟩
      · obtain ⟨b1, b2, b3⟩ := a2 q h0
        rw [hle.2.2 q h0]
        exact ⟨b1, b2, by omega⟩
    refine ⟨bReach_inv a1 (by omega) (by decide), one, fun q h1 h2 ho => ?_⟩
    rcases Nat.lt_or_ge q (r + k) with z | z
    · have b := a3 q h1 z ho
      rw [hle.2.2 q (by omega)]; exact b
    · have e : q = r + k := by omega
      subst e
      exact (one _ (bReach_in a1 (by omega) (by decide) ho)).1
/-- THE DISTANCES: the class's spread from the row of r on -/
def distS (op : Nat → Bool) (rc : Nat → Nat) (r : Nat) : bS := bGo op 82 (bRow op (bClr rc) r 9) 0
def dist (op : Nat → Bool) (r : Nat) : Nat → Nat := (distS op (fun _ => 0) r).1
theorem distS_is {op : Nat → Bool} {rc : Nat → Nat} {r : Nat} (hr : r + 9 ≤ 81) : isDist op (fun q => r ≤ q ∧ q < r + 9) (distS op rc r).1 := by
  obtain ⟨a1, a2, a3⟩ := bRow_mid (op := op) (rc := rc) hr 9 (Nat.le_refl 9)
  have h0 : bMid op (fun q => r ≤ q ∧ q < r + 9) (bRow op (bClr rc) r 9) 0 := by
    have e1 : ∀ k, k < (bRow op (bClr rc) r 9).2.2 → (bRow op (bClr rc) r 9).1 ((bRow op (bClr rc) r 9).2.1 k) = 1 := fun k hk => (a2 _ (a1.2.1 k hk).2).1
    refine ⟨a1, fun k k2 h1 h2 => ?_, fun hn k hk => ?_, fun q hq => Or.inl ⟨(a2 q hq).1, (a2 q hq).2⟩, fun k q hk => absurd hk (Nat.not_lt_zero k), fun q _ ho hs => a3 q hs.1 hs.2 ho⟩
    · rw [e1 k (by omega), e1 k2 h2]; exact Nat.le_refl 1
    · rw [e1 k hk]; omega
  obtain ⟨j, h1, h2⟩ := bGo_ind (bMid op (fun q => r ≤ q ∧ q < r + 9)) bMid_step 82 (bRow op (bClr rc) r 9) 0 h0 (by decide)
  exact bMid_end h1 h2
theorem dist_is {op : Nat → Bool} {r : Nat} (hr : r + 9 ≤ 81) : isDist op (fun q => r ≤ q ∧ q < r + 9) (dist op r) := distS_is hr
theorem distS_eq {op : Nat → Bool} {rc : Nat → Nat} {r : Nat} (hr : r + 9 ≤ 81) : (distS op rc r).1 = dist op r := funext fun q => isDist_one (distS_is hr) (dist_is hr) q
theorem distS_ok {op : Nat → Bool} {rc : Nat → Nat} {r : Nat} (hr : r + 9 ≤ 81) : bOk (distS op rc r) := bGo_ok 82 0 (bRow_ok bClr_ok 9 hr)
theorem dist_le {op : Nat → Bool} {r : Nat} (hr : r + 9 ≤ 81) (q : Nat) : dist op r q ≤ 81 := Nat.le_trans ((distS_ok (op := op) (rc := fun _ => 0) hr).2.2 q) (distS_ok (op := op) (rc := fun _ => 0) hr).1
end
section
/-! ===== what hangs together ===== -/
noncomputable def cB (P : Prop) : Bool := @decide P (Classical.propDecidable P)
theorem cB_t {P : Prop} : cB P = true ↔ P := by unfold cB; exact @decide_eq_true_iff P (Classical.propDecidable P)
theorem cB_f {P : Prop} : cB P = false ↔ ¬ P := by unfold cB; exact @decide_eq_false_iff_not P (Classical.propDecidable P)
/-- q is come to from p, over open cells -/
def conn (op : Nat → Bool) (p q : Nat) : Prop := ∀ S : Nat → Prop, S p → (∀ a b, S a → adj a b → op b = true → S b) → S q
theorem conn_rf {op : Nat → Bool} {p : Nat} : conn op p p := fun _ h _ => h
theorem conn_tr {op : Nat → Bool} {p q r : Nat} (h : conn op p q) (h2 : conn op q r) : conn op p r := fun S h0 hs => h2 S (h S h0 hs) hs
theorem conn_st {op : Nat → Bool} {p q r : Nat} (h : conn op p q) (ha : adj q r) (ho : op r = true) : conn op p r := fun S h0 hs => hs q r (h S h0 hs) ha ho
theorem conn_op {op : Nat → Bool} {p q : Nat} (hp : p < 81 ∧ op p = true) (h : conn op p q) : q < 81 ∧ op q = true :=
  h (fun q => q < 81 ∧ op q = true) hp (fun _ _ ha hab ho => ⟨adj_lt ha.1 hab, ho⟩)
theorem conn_symm {op : Nat → Bool} {p q : Nat} (hp : p < 81 ∧ op p = true) (h : conn op p q) : conn op q p := by
  have h1 := h (fun q => (q < 81 ∧ op q = true) ∧ conn op q p) ⟨hp, conn_rf⟩ (fun a b ha hab ho => by
    refine ⟨⟨adj_lt ha.1.1 hab, ho⟩, ?_⟩
    exact conn_tr (conn_st conn_rf (adj_symm ha.1.1 hab) ha.1.2) ha.2)
  exact h1.2
/-- how many cells hang together with p -/
noncomputable def compN (op : Nat → Bool) (p : Nat) : Nat := fb_ct (fun q => cB (conn op p q)) 81
/-- p is open, and the first of its cells -/
noncomputable def isRt (op : Nat → Bool) (p : Nat) : Bool := cB (op p = true ∧ ∀ j, j < p → op j = true → ¬ conn op j p)
noncomputable def reefN (op : Nat → Bool) : Nat := fb_ct (isRt op) 81
noncomputable def sizeN (op : Nat → Bool) (p : Nat) : Nat := if op p = true then compN op p else 0
noncomputable def rootN (op : Nat → Bool) (p : Nat) : Nat := if isRt op p = true then compN op p else 0
noncomputable def bigN (op : Nat → Bool) : Nat → Nat
  | 0 => 0
  | n + 1 => if bigN op n < rootN op n then rootN op n else bigN op n
theorem compN_le (op : Nat → Bool) (p : Nat) : compN op p ≤ 81 := fb_ct_le _ _
theorem compN_pos {op : Nat → Bool} {p : Nat} (hp : p < 81) : 0 < compN op p := fb_ct_pos.mpr ⟨p, hp, cB_t.mpr conn_rf⟩
theorem rootN_le (op : Nat → Bool) (p : Nat) : rootN op p ≤ 81 := by
  unfold rootN
  by_cases h : isRt op p = true
  · rw [if_pos h]; exact compN_le op p
  · rw [if_neg h]; exact Nat.zero_le _
theorem bigN_le (op : Nat → Bool) : ∀ n, bigN op n ≤ 81
  | 0 => Nat.zero_le _
  | n + 1 => by
    show (if bigN op n < rootN op n then rootN op n else bigN op n) ≤ 81
    by_cases h : bigN op n < rootN op n
    · rw [if_pos h]; exact rootN_le op n
    · rw [if_neg h]; exact bigN_le op n
/-- nothing open beside what was reached is left -/
def bCl (op : Nat → Bool) (x : bS) : Prop := ∀ p q, x.1 p ≠ 0 → adj p q → op q = true → x.1 q ≠ 0
theorem bCl_conn {op : Nat → Bool} {x : bS} (h : bCl op x) {p q : Nat} (hp : x.1 p ≠ 0) (hc : conn op p q) : x.1 q ≠ 0 :=
  hc (fun q => x.1 q ≠ 0) hp (fun a b ha hab ho => h a b ha hab ho)
/-- the class's spread from one cell on -/
def bCell (op : Nat → Bool) (x : bS) (p : Nat) : bS := bGo op 82 (bReach op x p 1) x.2.2
theorem bCell_ok {op : Nat → Bool} {x : bS} {p : Nat} (h : bOk x) (hp : p < 81) : bOk (bCell op x p) := bGo_ok 82 _ (bReach_ok h hp (by omega))
theorem bCell_no {op : Nat → Bool} {x : bS} {p : Nat} (h : ¬ (op p = true ∧ x.1 p = 0)) : bCell op x p = x := by
  unfold bCell
  rw [bReach_no h, bGo_stop]
  omega
theorem bCell_yes {op : Nat → Bool} {x : bS} {p : Nat} (h : bInv op x) (hc : bCl op x) (hp : p < 81) (ho : op p = true) (h0 : x.1 p = 0) :
    bInv op (bCell op x p) ∧ bCl op (bCell op x p) ∧ ∀ q, (bCell op x p).1 q ≠ 0 ↔ (x.1 q ≠ 0 ∨ conn op p q) := by
  have hle0 : bLe x (bReach op x p 1) := bReach_le
  have start : bInv op (bReach op x p 1) := bReach_inv h hp (by decide)
  have hin : (bReach op x p 1).1 p ≠ 0 := bReach_in h hp (by decide) ho
  have key0 := bGo_ind (op := op) (fun y i => bInv op y ∧ bLe (bReach op x p 1) y ∧ (∀ q, y.1 q ≠ 0 → x.1 q ≠ 0 ∨ conn op p q) ∧ ∀ k q, k < i → k < y.2.2 → adj (y.2.1 k) q → op q = true → y.1 q ≠ 0) ?_ 82 (bReach op x p 1) x.2.2 ?_ (by omega)
  · obtain ⟨j, ⟨k1, k2, k3, k4⟩, hj⟩ := key0
    have hcl : bCl op (bCell op x p) := by
      intro a b ha hab hob
      obtain ⟨-, -, k, hk, hk2⟩ := k1.2.2 a ha
      have hn : (bGo op 82 (bReach op x p 1) x.2.2).2.2 ≤ 81 := by rw [k1.1]; exact fb_ct_le _ _
      rw [← hk2] at hab
      exact k4 k b (by omega) hk hab hob
    refine ⟨k1, hcl, fun q => ⟨k3 q, fun hq => ?_⟩⟩
    have hp2 : (bCell op x p).1 p ≠ 0 := by
      show (bGo op 82 (bReach op x p 1) x.2.2).1 p ≠ 0
      rw [k2.2.2 p hin]; exact hin
    rcases hq with a | a
    · show (bGo op 82 (bReach op x p 1) x.2.2).1 q ≠ 0
      have b : (bReach op x p 1).1 q ≠ 0 := by rw [hle0.2.2 q a]; exact a
      rw [k2.2.2 q b]; exact b
    · exact bCl_conn hcl hp2 a
  · intro y i ⟨k1, k2, k3, k4⟩ hi hn
    obtain ⟨v, hve⟩ : ∃ v, v = y.2.1 i := ⟨_, rfl⟩
    rw [← hve]
    have hv81 : v < 81 := by rw [hve]; exact (k1.2.1 i hn).1
    have hv0 : y.1 v ≠ 0 := by rw [hve]; exact (k1.2.1 i hn).2
    have key := bDirs_ind (op := op) (x := y) hv81 (fun z d => bInv op z ∧ bLe y z ∧ (∀ q, z.1 q ≠ 0 → x.1 q ≠ 0 ∨ conn op p q) ∧ (∀ d2 q, d2 < d → nb v d2 = some q → op q = true → z.1 q ≠ 0)) ?_ ?_ 4 (Nat.le_refl 4)
    · obtain ⟨m1, m2, m3, m4⟩ := key
      generalize bDirs op y v 4 = z at m1 m2 m3 m4 ⊢
      refine ⟨m1, bLe_tr k2 m2, m3, fun k q hk hkz ha hoq => ?_⟩
      rcases Nat.lt_or_ge k i with t | t
      · have hky : k < y.2.2 := by omega
        rw [m2.2.1 k hky] at ha
        have b := k4 k q t hky ha hoq
        rw [m2.2.2 q b]; exact b
      · have e : k = i := by omega
        subst e
        rw [m2.2.1 k hn, ← hve] at ha
        obtain ⟨d, hd, hnb⟩ := ha
        exact m4 d q hd hnb hoq
    · exact ⟨k1, bLe_rf, k3, fun d2 q hd => absurd hd (Nat.not_lt_zero _)⟩
    · intro z d hd ⟨m1, m2, m3, m4⟩
      refine ⟨fun hnone => ⟨m1, m2, m3, fun d2 q hd2 hnb hoq => ?_⟩, fun q hq hnb => ?_⟩
      · rcases Nat.lt_or_ge d2 d with t | t
        · exact m4 d2 q t hnb hoq
        · have e : d2 = d := by omega
          subst e
          rw [hnone] at hnb; cases hnb
      · have hle : bLe z (bReach op z q (z.1 v + 1)) := bReach_le
        refine ⟨bReach_inv m1 hq (by omega), bLe_tr m2 hle, fun t ht => ?_, fun d2 t hd2 hnb2 hot => ?_⟩
        · by_cases hz : z.1 t = 0
          · obtain ⟨e1, e2, -⟩ := bReach_new ht hz
            rw [e1]
            rcases k3 v hv0 with a | a
            · exact Or.inl (hc v q a ⟨d, hd, hnb⟩ e2)
            · exact Or.inr (conn_st a ⟨d, hd, hnb⟩ e2)
          · exact m3 t hz
        · rcases Nat.lt_or_ge d2 d with t2 | t2
          · have a := m4 d2 t t2 hnb2 hot
            rw [hle.2.2 t a]; exact a
          · have e : d2 = d := by omega
            subst e
            rw [hnb] at hnb2; cases hnb2
            exact bReach_in m1 hq (by omega) hot
  · refine ⟨start, bLe_rf, fun q hq => ?_, fun k q hk hky ha hoq => ?_⟩
    · by_cases hz : x.1 q = 0
      · obtain ⟨e1, -, -⟩ := bReach_new hq hz
        rw [e1]; exact Or.inr conn_rf
      · exact Or.inl hz
    · rw [hle0.2.1 k hk] at ha
      have b := hc _ q (h.2.1 k hk).2 ha hoq
      rw [hle0.2.2 q b]; exact b
/-- how many cells one spread from a cell reaches anew -/
theorem bCell_n {op : Nat → Bool} {x : bS} {p : Nat} (h : bInv op x) (hc : bCl op x) (hp : p < 81) : (bCell op x p).2.2 = x.2.2 + (if op p = true ∧ x.1 p = 0 then compN op p else 0) := by
  by_cases hq : op p = true ∧ x.1 p = 0
  · rw [if_pos hq]
    obtain ⟨a1, a2, a3⟩ := bCell_yes h hc hp hq.1 hq.2
    rw [a1.1, h.1]
    have e : vis (bCell op x p).1 = fun q => vis x.1 q || cB (conn op p q) := by
      funext q
      have := a3 q
      cases hv : vis (bCell op x p).1 q with
      | true =>
        rcases this.mp (vis_t.mp hv) with b | b
        · rw [vis_t.mpr b]; rfl
        · rw [cB_t.mpr b]; exact (Bool.or_true _).symm
      | false =>
        have b : ¬ (x.1 q ≠ 0 ∨ conn op p q) := fun z => by
          have := vis_t.mpr (this.mpr z)
          rw [hv] at this; cases this
        have b1 : vis x.1 q = false := by
          cases hw : vis x.1 q
          · rfl
          · exact absurd (Or.inl (vis_t.mp hw)) b
        rw [b1, cB_f.mpr (fun z => b (Or.inr z))]; rfl
    rw [e]
    refine fb_ct_or (fun k hk => ?_)
    rintro ⟨b1, b2⟩
    have b3 := conn_symm ⟨hp, hq.1⟩ (cB_t.mp b2)
    exact bCl_conn hc (vis_t.mp b1) b3 hq.2
  · rw [if_neg hq, bCell_no hq]; rfl
/-- the spreads from the cells 0 to n - 1, one behind another, behind clear() -/
def bCells (op : Nat → Bool) (rc : Nat → Nat) : Nat → bS
  | 0 => bClr rc
  | n + 1 => bCell op (bCells op rc n) n
theorem bCells_ok {op : Nat → Bool} {rc : Nat → Nat} : ∀ n, n ≤ 81 → bOk (bCells op rc n)
  | 0, _ => bClr_ok
  | n + 1, h => bCell_ok (bCells_ok n (by omega)) (by omega)
theorem bCells_inv {op : Nat → Bool} {rc : Nat → Nat} : ∀ n, n ≤ 81 → bInv op (bCells op rc n) ∧ bCl op (bCells op rc n) ∧ ∀ q, (bCells op rc n).1 q ≠ 0 ↔ ∃ p, p < n ∧ op p = true ∧ conn op p q
  | 0, _ => ⟨bClr_inv, fun p q hp => absurd rfl hp, fun q => ⟨fun hq => absurd rfl hq, fun ⟨p, hp, _⟩ => absurd hp (Nat.not_lt_zero p)⟩⟩
  | n + 1, h => by
    obtain ⟨a1, a2, a3⟩ := bCells_inv (op := op) (rc := rc) n (by omega)
    show bInv op (bCell op (bCells op rc n) n) ∧ bCl op (bCell op (bCells op rc n) n) ∧ ∀ q, (bCell op (bCells op rc n) n).1 q ≠ 0 ↔ ∃ p, p < n + 1 ∧ op p = true ∧ conn op p q
    by_cases hq : op n = true ∧ (bCells op rc n).1 n = 0
    · obtain ⟨b1, b2, b3⟩ := bCell_yes a1 a2 (by omega) hq.1 hq.2
      refine ⟨b1, b2, fun q => (b3 q).trans ⟨fun hz => ?_, fun ⟨p, hp, ho, hcn⟩ => ?_⟩⟩
      · rcases hz with z | z
        · obtain ⟨p, hp, ho, hcn⟩ := (a3 q).mp z
          exact ⟨p, by omega, ho, hcn⟩
        · exact ⟨n, by omega, hq.1, z⟩
      · rcases Nat.lt_or_ge p n with z | z
        · exact Or.inl ((a3 q).mpr ⟨p, z, ho, hcn⟩)
        · have e : p = n := by omega
          subst e
          exact Or.inr hcn
    · rw [bCell_no hq]
      refine ⟨a1, a2, fun q => (a3 q).trans ⟨fun ⟨p, hp, ho, hcn⟩ => ⟨p, by omega, ho, hcn⟩, fun ⟨p, hp, ho, hcn⟩ => ?_⟩⟩
      rcases Nat.lt_or_ge p n with z | z
      · exact ⟨p, z, ho, hcn⟩
      · have e : p = n := by omega
        subst e
        have hv : (bCells op rc p).1 p ≠ 0 := fun z => hq ⟨ho, z⟩
        obtain ⟨r, hr, hro, hrc⟩ := (a3 p).mp hv
        exact ⟨r, hr, hro, conn_tr hrc hcn⟩
theorem isRt_iff {op : Nat → Bool} {rc : Nat → Nat} {p : Nat} (hp : p ≤ 81) : isRt op p = true ↔ (op p = true ∧ (bCells op rc p).1 p = 0) := by
  unfold isRt
  rw [cB_t]
  have h3 := (bCells_inv (op := op) (rc := rc) p hp).2.2 p
  refine ⟨fun ⟨a, b⟩ => ⟨a, ?_⟩, fun ⟨a, b⟩ => ⟨a, fun j hj ho hcn => h3.mpr ⟨j, hj, ho, hcn⟩ b⟩⟩
  rcases Nat.eq_zero_or_pos ((bCells op rc p).1 p) with z | z
  · exact z
  · obtain ⟨j, hj, ho, hcn⟩ := h3.mp (by omega)
    exact absurd hcn (b j hj ho)
/-- .. so the count of one step is a reef's size, or nothing -/
theorem bCells_n {op : Nat → Bool} {rc : Nat → Nat} {p : Nat} (hp : p < 81) : (bCells op rc (p + 1)).2.2 = (bCells op rc p).2.2 + rootN op p := by
  obtain ⟨a1, a2, -⟩ := bCells_inv (op := op) (rc := rc) p (by omega)
  show (bCell op (bCells op rc p) p).2.2 = _
  rw [bCell_n a1 a2 hp]
  unfold rootN
  by_cases h : op p = true ∧ (bCells op rc p).1 p = 0
  · rw [if_pos h, if_pos ((isRt_iff (by omega)).mpr h)]
  · rw [if_neg h, if_neg (fun z => h ((isRt_iff (by omega)).mp z))]
/-- one spread from a cell, alone -/
theorem bClr_cl {op : Nat → Bool} {rc : Nat → Nat} : bCl op (bClr rc) := fun _ _ hp => absurd rfl hp
theorem bCell_size {op : Nat → Bool} {rc : Nat → Nat} {p : Nat} (hp : p < 81) : (bCell op (bClr rc) p).2.2 = sizeN op p := by
  rw [bCell_n bClr_inv bClr_cl hp]
  unfold sizeN
  by_cases h : op p = true
  · rw [if_pos h, if_pos ⟨h, rfl⟩]; exact Nat.zero_add _
  · rw [if_neg h, if_neg (fun z => h z.1)]; rfl
theorem rootN_pos {op : Nat → Bool} {p : Nat} (hp : p < 81) : 0 < rootN op p ↔ isRt op p = true := by
  unfold rootN
  by_cases h : isRt op p = true
  · rw [if_pos h]; exact ⟨fun _ => h, fun _ => compN_pos hp⟩
  · rw [if_neg h]; exact ⟨fun z => absurd z (Nat.lt_irrefl 0), fun z => absurd z h⟩
end
section
/-! ===== more of the class's ways, in numbers ===== -/
theorem bDir_le {op : Nat → Bool} {x : bS} {p d : Nat} : bLe x (bDir op x p d) := by
  cases hn : nb p d with
  | none => rw [bDir_none hn]; exact bLe_rf
  | some q => rw [bDir_some hn]; exact bReach_le
theorem bDirs_le {op : Nat → Bool} {x : bS} {p : Nat} : ∀ d, bLe x (bDirs op x p d)
  | 0 => bLe_rf
  | d + 1 => bLe_tr (bDirs_le d) bDir_le
theorem bGo_le {op : Nat → Bool} : ∀ (f : Nat) (x : bS) (i : Nat), bLe x (bGo op f x i)
  | 0, _, _ => bLe_rf
  | f + 1, x, i => by
    by_cases hq : i < 81 ∧ i < x.2.2
    · rw [bGo_step hq]; exact bLe_tr (bDirs_le 4) (bGo_le f _ (i + 1))
    · rw [bGo_stop hq]; exact bLe_rf
theorem bCell_le {op : Nat → Bool} {x : bS} {p : Nat} : bLe x (bCell op x p) := bLe_tr bReach_le (bGo_le 82 _ _)
/-- the neighbour of p with the fewest steps, the first of them; p itself where none has fewer -/
def nrr (D : Nat → Nat) (p : Nat) : Nat → Nat
  | 0 => p
  | d + 1 => match nb p d with
    | none => nrr D p d
    | some q => if 0 < D q ∧ D q < D (nrr D p d) then q else nrr D p d
theorem nrr_none {D : Nat → Nat} {p d : Nat} (h : nb p d = none) : nrr D p (d + 1) = nrr D p d := by
  show (match nb p d with | none => nrr D p d | some q => if 0 < D q ∧ D q < D (nrr D p d) then q else nrr D p d) = _
  rw [h]
theorem nrr_some {D : Nat → Nat} {p d q : Nat} (h : nb p d = some q) : nrr D p (d + 1) = if 0 < D q ∧ D q < D (nrr D p d) then q else nrr D p d := by
  show (match nb p d with | none => nrr D p d | some q => if 0 < D q ∧ D q < D (nrr D p d) then q else nrr D p d) = _
  rw [h]
theorem nrr_lt {D : Nat → Nat} {p : Nat} (hp : p < 81) : ∀ d, nrr D p d < 81
  | 0 => hp
  | d + 1 => by
    cases hn : nb p d with
    | none => rw [nrr_none hn]; exact nrr_lt hp d
    | some q =>
      rw [nrr_some hn]
      by_cases h : 0 < D q ∧ D q < D (nrr D p d)
      · rw [if_pos h]; exact nb_lt hp hn
      · rw [if_neg h]; exact nrr_lt hp d
/-- of the cells 0 .. n - 1 the first with the fewest steps, none where none was reached -/
def bestR (D : Nat → Nat) : Nat → Option Nat
  | 0 => none
  | n + 1 => match bestR D n with
    | none => if 0 < D n then some n else none
    | some b => if 0 < D n ∧ D n < D b then some n else some b
theorem bestR_none {D : Nat → Nat} {n : Nat} (h : bestR D n = none) : bestR D (n + 1) = if 0 < D n then some n else none := by
  show (match bestR D n with | none => _ | some b => _) = _
  rw [h]
theorem bestR_some {D : Nat → Nat} {n b : Nat} (h : bestR D n = some b) : bestR D (n + 1) = if 0 < D n ∧ D n < D b then some n else some b := by
  show (match bestR D n with | none => _ | some b => _) = _
  rw [h]
/-- what bestR is -/
theorem bestR_is (D : Nat → Nat) : ∀ n, (bestR D n = none ∧ ∀ k, k < n → D k = 0) ∨ ∃ b, bestR D n = some b ∧ b < n ∧ 0 < D b ∧ (∀ k, k < n → D k = 0 ∨ D b ≤ D k) ∧ ∀ k, k < b → D k = 0 ∨ D b < D k
  | 0 => Or.inl ⟨rfl, fun k hk => absurd hk (Nat.not_lt_zero k)⟩
  | n + 1 => by
    rcases bestR_is D n with ⟨h1, h2⟩ | ⟨b, h1, h2, h3, h4, h5⟩
    · rw [bestR_none h1]
      by_cases h : 0 < D n
      · rw [if_pos h]
        refine Or.inr ⟨n, rfl, by omega, h, fun k hk => ?_, fun k hk => Or.inl (h2 k hk)⟩
        rcases Nat.lt_or_ge k n with z | z
        · exact Or.inl (h2 k z)
        · exact Or.inr (by rw [show k = n by omega]; exact Nat.le_refl _)
      · rw [if_neg h]
        refine Or.inl ⟨rfl, fun k hk => ?_⟩
        rcases Nat.lt_or_ge k n with z | z
        · exact h2 k z
        · rw [show k = n by omega]; omega
    · rw [bestR_some h1]
      by_cases h : 0 < D n ∧ D n < D b
      · rw [if_pos h]
        refine Or.inr ⟨n, rfl, by omega, h.1, fun k hk => ?_, fun k hk => ?_⟩
        · rcases Nat.lt_or_ge k n with z | z
          · rcases h4 k z with e | e
            · exact Or.inl e
            · exact Or.inr (by omega)
          · exact Or.inr (by rw [show k = n by omega]; exact Nat.le_refl _)
        · rcases h4 k hk with e | e
          · exact Or.inl e
          · exact Or.inr (by omega)
      · rw [if_neg h]
        refine Or.inr ⟨b, rfl, by omega, h3, fun k hk => ?_, h5⟩
        rcases Nat.lt_or_ge k n with z | z
        · exact h4 k z
        · rw [show k = n by omega]; omega
theorem bestR_lt {D : Nat → Nat} {n b : Nat} (h : bestR D n = some b) : b < n := by
  rcases bestR_is D n with ⟨h1, -⟩ | ⟨c, h1, h2, -⟩
  · rw [h1] at h; cases h
  · rw [h1] at h; cases h; exact h2
theorem bestR_ob {D : Nat → Nat} {n : Nat} (hn : n < 2 ^ 31) : ∀ q, bestR D n = some q → q < 2 ^ 31 := fun q h => Nat.lt_trans (bestR_lt h) hn
/-- the greatest k below n with f, none without one -/
def mostD (f : Nat → Bool) : Nat → Option Nat
  | 0 => none
  | n + 1 => if f n = true then some n else mostD f n
/-- the first k below n without f; n without one -/
def firstNo (f : Nat → Bool) : Nat → Nat
  | 0 => 0
  | n + 1 => if firstNo f n < n then firstNo f n else if f n = true then n + 1 else n
theorem firstNo_le (f : Nat → Bool) : ∀ n, firstNo f n ≤ n
  | 0 => Nat.le_refl 0
  | n + 1 => by
    show (if firstNo f n < n then firstNo f n else if f n = true then n + 1 else n) ≤ n + 1
    have := firstNo_le f n
    by_cases h : firstNo f n < n
    · rw [if_pos h]; omega
    · rw [if_neg h]
      by_cases h2 : f n = true
      · rw [if_pos h2]; exact Nat.le_refl _
      · rw [if_neg h2]; omega
theorem firstNo_all {f : Nat → Bool} : ∀ {n : Nat}, (∀ k, k < n → f k = true) → firstNo f n = n
  | 0, _ => rfl
  | n + 1, h => by
    show (if firstNo f n < n then firstNo f n else if f n = true then n + 1 else n) = n + 1
    rw [firstNo_all (fun k hk => h k (by omega)), if_neg (Nat.lt_irrefl n), if_pos (h n (by omega))]
theorem firstNo_at {f : Nat → Bool} {k : Nat} (h : ∀ j, j < k → f j = true) (hk : f k = false) : ∀ n, k < n → firstNo f n = k
  | 0, hn => absurd hn (Nat.not_lt_zero k)
  | n + 1, hn => by
    show (if firstNo f n < n then firstNo f n else if f n = true then n + 1 else n) = k
    rcases Nat.lt_or_ge k n with z | z
    · rw [firstNo_at h hk n z, if_pos z]
    · have e : k = n := by omega
      subst e
      rw [firstNo_all h, if_neg (Nat.lt_irrefl k), if_neg (by rw [hk]; decide)]
theorem isNone_f {α : Type} {x : Option α} {y : α} (h : x = some y) : x.isSome = true := by rw [h]; rfl
/-- a ship led along: the cell where it grounds, 81 where it comes through -/
def leadN (dp : Nat → Int32) (dr : Int32) (D : Nat → Nat) : Nat → Nat → Nat
  | 0, _ => 81
  | n + 1, p => if dp p ≤ dr then p else leadN dp dr D n (nrr D p 4)
theorem bReach_mk {op : Nat → Bool} {sp rc : Nat → Nat} {rn j c : Nat} (h1 : op j = true) (h2 : sp j = 0) (h3 : rn < 81) : bReach op (sp, rc, rn) j c = (va_up sp j c, va_up rc rn j, rn + 1) := by
  unfold bReach
  rw [if_pos ⟨h1, h2, h3⟩]
theorem bReach_no3 {op : Nat → Bool} {sp rc : Nat → Nat} {rn j c : Nat} (h3 : 81 ≤ rn) : bReach op (sp, rc, rn) j c = (sp, rc, rn) := by
  unfold bReach
  rw [if_neg (fun z => by have h4 : rn < 81 := z.2.2; omega)]
end
section
abbrev rm_J9_floorMod_7cf53 : Room := { frames := 0, cells := 0, slots := 0, locals := 0 }
set_option maxHeartbeats 4000000 in
set_option maxRecDepth 100000 in
/-- Math.floorMod(x, 12), x not less than 0 -/
theorem c_J9_floorMod_7cf53 (l : Launch) (E : eT) (sz : Nat) (x : Nat) (hx_ : x < 2 ^ 31) : cM l yJ9_floorMod_7cf53 wsJ9_floorMod_7cf53 rm_J9_floorMod_7cf53 E sz [.int (nI x), .int (nI 12)] ([]) (fun u : Unit => some (.int (nI (x % 12)))) (fun u : Unit => True) (fun u : Unit => []) := by
  refine cM_intro (cc := cJ9_floorMod_7cf53) (maxL := 3) (ret := (some .int)) (by decide +kernel) rfl (Nat.le_of_ble_eq_true rfl) ?_
  intro p e s m args below meth cd hx hb hr hml hown hlocks hts hnm hK hsz hP A hD hA Q hQ ls hl
  have hown : s.vm.findClass RJ9 = some m.cls := hown
  have hS : va_S A s.heap s.heap [] := va_S.rf
  have hl : lv_has ls 3 [(0, .int (nI x)), (1, .int (nI 12))] := hl
  refine lv_iload_n hx hb dJ9_floorMod_7cf53_0 rfl (lv_at hl 0 rfl) ?_
  refine lv_iload_n hx hb dJ9_floorMod_7cf53_1 rfl (lv_at hl 1 rfl) ?_
  refine lv_irem hx hb dJ9_floorMod_7cf53_2 (by decide +kernel) ?_
  refine e_top (pk_rem (by omega) (by omega) (by omega)) ?_
  refine lv_istore_n (lv' := [(2, .int (nI (x % 12))), (0, .int (nI x)), (1, .int (nI 12))]) hx hb dJ9_floorMod_7cf53_3 rfl hl (by decide) rfl (fun ls hl => ?_)
  refine lv_iload_n hx hb dJ9_floorMod_7cf53_4 rfl (lv_at hl 1 rfl) ?_
  refine lv_iload_n hx hb dJ9_floorMod_7cf53_5 rfl (lv_at hl 2 rfl) ?_
  refine lv_ixor hx hb dJ9_floorMod_7cf53_6 ?_
  refine lv_if_ge (tgt := 18) hx hb dJ9_floorMod_7cf53_7 (by decide) (fun c7 => ?_) (fun c7 => absurd (nI_x12 hx_) c7)
  refine lv_iload_n hx hb dJ9_floorMod_7cf53_18 rfl (lv_at hl 0 rfl) ?_
  exact e_iret () hQ hx hb hr hlocks hP hD hS dJ9_floorMod_7cf53_19 (rfl) (Nat.le_of_ble_eq_true rfl) (Nat.le_of_ble_eq_true rfl) (trivial)

abbrev rm_J7_fill_81 : Room := { frames := 0, cells := 0, slots := 0, locals := 0 }
set_option maxHeartbeats 4000000 in
set_option maxRecDepth 100000 in
/-- Arrays.fill of 81 places -/
theorem c_J7_fill_81 (l : Launch) (E : eT) (sz : Nat) (q : Nat) (f : Nat → Int32) (v : Int32) : cM l yJ7_fill_53178 wsJ7_fill_53178 rm_J7_fill_81 E sz [.ref q, .int v] ([(q, .inl (E.2.1, 81, .inl f))]) (fun u : Unit => none) (fun u : Unit => True) (fun u : Unit => [(q, .inl (E.2.1, 81, .inl (fun _ => v)))]) := by
  refine cM_intro (cc := cJ7_fill_53178) (maxL := 4) (ret := none) (by decide +kernel) rfl (Nat.le_of_ble_eq_true rfl) ?_
  intro p e s m args below meth cd hx hb hr hml hown hlocks hts hnm hK hsz hP A hD hA Q hQ ls hl
  have hown : s.vm.findClass RJ7 = some m.cls := hown
  have hS : va_S A s.heap s.heap [] := va_S.rf
  have hl : lv_has ls 4 [(0, .ref q), (1, .int v)] := hl
  refine lv_iconst (v := nI 0) hx hb dJ7_fill_53178_0 (by decide +kernel) ?_
  refine lv_istore_n (lv' := [(2, .int (nI 0)), (0, .ref q), (1, .int v)]) hx hb dJ7_fill_53178_1 rfl hl (by decide) rfl (fun ls hl => ?_)
  refine lv_aload_n hx hb dJ7_fill_53178_2 rfl (lv_at hl 1 rfl) ?_
  refine va_alen (v := nI 81) hx hb hK.1 hP 0 0 rfl rfl rfl dJ7_fill_53178_3 ?_
  refine lv_istore_n (lv' := [(3, .int (nI 81)), (2, .int (nI 0)), (0, .ref q), (1, .int v)]) hx hb dJ7_fill_53178_4 rfl hl (by decide) rfl (fun ls hl => ?_)
  have L5 : ∀ (fuel : Nat) (z : Nat) (g : Nat → Int32) (hz : z ≤ 81) (hg : ∀ k, k < z → g k = v) (hfuel : 81 - z < fuel) (H : Heap) (locs : List Loc), va_P E.1 vwCl ([(q, .inl (E.2.1, 81, .inl g))]) H → va_D A ([(q, .inl (E.2.1, 81, .inl g))]) → va_S A s.heap H locs → ∀ ls : Array Slot, lv_has ls 4 [(3, .int (nI 81)), (2, .int (nI z)), (0, .ref q), (1, .int v)] → W p l e rm_J7_fill_81 s m args below meth cd H locs 0 0 Q (F0 m 5 ls []) := by
    intro fuel
    induction fuel with
    | zero => intros; omega
    | succ fuel ihL5 =>
      intro z g hz hg hfuel H locs hP hD hS ls hl
      refine lv_iload_n hx hb dJ7_fill_53178_5 rfl (lv_at hl 1 rfl) ?_
      refine lv_iload_n hx hb dJ7_fill_53178_6 rfl (lv_at hl 0 rfl) ?_
      refine n_icmp_ge (x := z) (y := 81) (by omega) (by omega) (tgt := 20) hx hb dJ7_fill_53178_7 (by decide) (fun c7 => ?_) (fun c7 => ?_)
      · have hP := e_cong hP 0 (g := (fun _ => v)) rfl (fun k h => hg k (by omega))
        have hD := va_D.set (e := .inl (E.2.1, 81, .inl ((fun _ => v)))) hD (p := 0) rfl
        have hP : va_P E.1 vwCl ([(q, .inl (E.2.1, 81, .inl (fun _ => v)))]) H := hP
        have hD : va_D A ([(q, .inl (E.2.1, 81, .inl (fun _ => v)))]) := hD
        exact e_vret () hQ hx hb hr hlocks hP hD hS dJ7_fill_53178_20 (rfl) (Nat.le_of_ble_eq_true rfl) (Nat.le_of_ble_eq_true rfl) (trivial)
      · refine lv_aload_n hx hb dJ7_fill_53178_10 rfl (lv_at hl 2 rfl) ?_
        refine lv_iload_n hx hb dJ7_fill_53178_11 rfl (lv_at hl 1 rfl) ?_
        refine lv_iload_n hx hb dJ7_fill_53178_12 rfl (lv_at hl 3 rfl) ?_
        refine e_iast hK hP hD hS 0 rfl z (by omega) (by decide) hx hb dJ7_fill_53178_13 (fun H locs hP hD hS => ?_)
        have hP : va_P E.1 vwCl ([(q, .inl (E.2.1, 81, .inl (upd g z v)))]) H := hP
        have hD : va_D A ([(q, .inl (E.2.1, 81, .inl (upd g z v)))]) := hD
        refine lv_iinc (v := nI (z + 1)) (lv' := [(2, .int (nI (z + 1))), (3, .int (nI 81)), (0, .ref q), (1, .int v)]) hx hb dJ7_fill_53178_14 hl (k := 1) rfl (nI_add z 1) (by decide) rfl (fun ls hl => ?_)
        refine lv_goto (tgt := 5) hx hb dJ7_fill_53178_17 (by decide) ?_
        exact ihL5 (z + 1) (upd g z v) (by first | omega | assumption | rfl | (simp_all; done)) (fun k h => by unfold upd; by_cases e : k = z; rw [if_pos e]; rw [if_neg e]; exact hg k (by omega)) (by omega) _ _ hP hD hS _ (lv_sub hl [1, 0, 2, 3] rfl)
  exact L5 (81 - 0 + 1) 0 f (by first | omega | assumption | rfl | (simp_all; done)) (fun k h => absurd h (Nat.not_lt_zero k)) (Nat.lt_succ_self _) _ _ hP hD hS _ (lv_sub hl [0, 1, 2, 3] rfl)

abbrev rm_J7_fill_12 : Room := { frames := 0, cells := 0, slots := 0, locals := 0 }
set_option maxHeartbeats 4000000 in
set_option maxRecDepth 100000 in
/-- Arrays.fill of 12 places -/
theorem c_J7_fill_12 (l : Launch) (E : eT) (sz : Nat) (q : Nat) (f : Nat → Int32) (v : Int32) : cM l yJ7_fill_53178 wsJ7_fill_53178 rm_J7_fill_12 E sz [.ref q, .int v] ([(q, .inl (E.2.1, 12, .inl f))]) (fun u : Unit => none) (fun u : Unit => True) (fun u : Unit => [(q, .inl (E.2.1, 12, .inl (fun _ => v)))]) := by
  refine cM_intro (cc := cJ7_fill_53178) (maxL := 4) (ret := none) (by decide +kernel) rfl (Nat.le_of_ble_eq_true rfl) ?_
  intro p e s m args below meth cd hx hb hr hml hown hlocks hts hnm hK hsz hP A hD hA Q hQ ls hl
  have hown : s.vm.findClass RJ7 = some m.cls := hown
  have hS : va_S A s.heap s.heap [] := va_S.rf
  have hl : lv_has ls 4 [(0, .ref q), (1, .int v)] := hl
  refine lv_iconst (v := nI 0) hx hb dJ7_fill_53178_0 (by decide +kernel) ?_
  refine lv_istore_n (lv' := [(2, .int (nI 0)), (0, .ref q), (1, .int v)]) hx hb dJ7_fill_53178_1 rfl hl (by decide) rfl (fun ls hl => ?_)
  refine lv_aload_n hx hb dJ7_fill_53178_2 rfl (lv_at hl 1 rfl) ?_
  refine va_alen (v := nI 12) hx hb hK.1 hP 0 0 rfl rfl rfl dJ7_fill_53178_3 ?_
  refine lv_istore_n (lv' := [(3, .int (nI 12)), (2, .int (nI 0)), (0, .ref q), (1, .int v)]) hx hb dJ7_fill_53178_4 rfl hl (by decide) rfl (fun ls hl => ?_)
  have L5 : ∀ (fuel : Nat) (z : Nat) (g : Nat → Int32) (hz : z ≤ 12) (hg : ∀ k, k < z → g k = v) (hfuel : 12 - z < fuel) (H : Heap) (locs : List Loc), va_P E.1 vwCl ([(q, .inl (E.2.1, 12, .inl g))]) H → va_D A ([(q, .inl (E.2.1, 12, .inl g))]) → va_S A s.heap H locs → ∀ ls : Array Slot, lv_has ls 4 [(3, .int (nI 12)), (2, .int (nI z)), (0, .ref q), (1, .int v)] → W p l e rm_J7_fill_12 s m args below meth cd H locs 0 0 Q (F0 m 5 ls []) := by
    intro fuel
    induction fuel with
    | zero => intros; omega
    | succ fuel ihL5 =>
      intro z g hz hg hfuel H locs hP hD hS ls hl
      refine lv_iload_n hx hb dJ7_fill_53178_5 rfl (lv_at hl 1 rfl) ?_
      refine lv_iload_n hx hb dJ7_fill_53178_6 rfl (lv_at hl 0 rfl) ?_
      refine n_icmp_ge (x := z) (y := 12) (by omega) (by omega) (tgt := 20) hx hb dJ7_fill_53178_7 (by decide) (fun c7 => ?_) (fun c7 => ?_)
      · have hP := e_cong hP 0 (g := (fun _ => v)) rfl (fun k h => hg k (by omega))
        have hD := va_D.set (e := .inl (E.2.1, 12, .inl ((fun _ => v)))) hD (p := 0) rfl
        have hP : va_P E.1 vwCl ([(q, .inl (E.2.1, 12, .inl (fun _ => v)))]) H := hP
        have hD : va_D A ([(q, .inl (E.2.1, 12, .inl (fun _ => v)))]) := hD
        exact e_vret () hQ hx hb hr hlocks hP hD hS dJ7_fill_53178_20 (rfl) (Nat.le_of_ble_eq_true rfl) (Nat.le_of_ble_eq_true rfl) (trivial)
      · refine lv_aload_n hx hb dJ7_fill_53178_10 rfl (lv_at hl 2 rfl) ?_
        refine lv_iload_n hx hb dJ7_fill_53178_11 rfl (lv_at hl 1 rfl) ?_
        refine lv_iload_n hx hb dJ7_fill_53178_12 rfl (lv_at hl 3 rfl) ?_
        refine e_iast hK hP hD hS 0 rfl z (by omega) (by decide) hx hb dJ7_fill_53178_13 (fun H locs hP hD hS => ?_)
        have hP : va_P E.1 vwCl ([(q, .inl (E.2.1, 12, .inl (upd g z v)))]) H := hP
        have hD : va_D A ([(q, .inl (E.2.1, 12, .inl (upd g z v)))]) := hD
        refine lv_iinc (v := nI (z + 1)) (lv' := [(2, .int (nI (z + 1))), (3, .int (nI 12)), (0, .ref q), (1, .int v)]) hx hb dJ7_fill_53178_14 hl (k := 1) rfl (nI_add z 1) (by decide) rfl (fun ls hl => ?_)
        refine lv_goto (tgt := 5) hx hb dJ7_fill_53178_17 (by decide) ?_
        exact ihL5 (z + 1) (upd g z v) (by first | omega | assumption | rfl | (simp_all; done)) (fun k h => by unfold upd; by_cases e : k = z; rw [if_pos e]; rw [if_neg e]; exact hg k (by omega)) (by omega) _ _ hP hD hS _ (lv_sub hl [1, 0, 2, 3] rfl)
  exact L5 (12 - 0 + 1) 0 f (by first | omega | assumption | rfl | (simp_all; done)) (fun k h => absurd h (Nat.not_lt_zero k)) (Nat.lt_succ_self _) _ _ hP hD hS _ (lv_sub hl [0, 1, 2, 3] rfl)

abbrev rm_X4_neighbour : Room := { frames := 0, cells := 0, slots := 0, locals := 0 }
set_option maxHeartbeats 4000000 in
set_option maxRecDepth 100000 in
/-- the neighbour, that way -/
theorem c_X4_neighbour (l : Launch) (E : eT) (sz : Nat) (x : Nat) (k : Nat) (hx_ : x < 81) (hk : k < 4) : cM l yX4_neighbour wsX4_neighbour rm_X4_neighbour E sz [.int (nI x), .int (nI k)] ([]) (fun u : Unit => some (.int (oI (nb x k)))) (fun u : Unit => True) (fun u : Unit => []) := by
  refine cM_intro (cc := cX4_neighbour) (maxL := 3) (ret := (some .int)) (by decide +kernel) rfl (Nat.le_of_ble_eq_true rfl) ?_
  intro p e s m args below meth cd hx hb hr hml hown hlocks hts hnm hK hsz hP A hD hA Q hQ ls hl
  have hown : s.vm.findClass RX4 = some m.cls := hown
  have hS : va_S A s.heap s.heap [] := va_S.rf
  have hl : lv_has ls 3 [(0, .int (nI x)), (1, .int (nI k))] := hl
  refine lv_iload_n hx hb dX4_neighbour_0 rfl (lv_at hl 0 rfl) ?_
  refine lv_bipush (v := nI 9) hx hb dX4_neighbour_1 (by decide +kernel) ?_
  refine lv_irem hx hb dX4_neighbour_3 (by decide +kernel) ?_
  refine e_top (pk_rem (by omega) (by omega) (by omega)) ?_
  refine lv_istore_n (lv' := [(2, .int (nI (x % 9))), (0, .int (nI x)), (1, .int (nI k))]) hx hb dX4_neighbour_4 rfl hl (by decide) rfl (fun ls hl => ?_)
  refine lv_iload_n hx hb dX4_neighbour_5 rfl (lv_at hl 2 rfl) ?_
  rcases (show k = 0 ∨ k = 1 ∨ k = 2 ∨ k = 3 by omega) with rfl | rfl | rfl | rfl
  · refine lv_tableIn (off := 26) (tgt := 32) hx hb dX4_neighbour_6 (by decide +kernel) (by decide +kernel) (by decide +kernel) (by decide) ?_
    refine lv_iload_n hx hb dX4_neighbour_32 rfl (lv_at hl 1 rfl) ?_
    refine lv_bipush (v := nI 9) hx hb dX4_neighbour_33 (by decide +kernel) ?_
    refine n_icmp_lt (x := x) (y := 9) (by omega) (by omega) (tgt := 45) hx hb dX4_neighbour_35 (by decide) (fun c35 => ?_) (fun c35 => ?_)
    · refine lv_iconst (v := (-1)) hx hb dX4_neighbour_45 (by decide +kernel) ?_
      exact e_iret () hQ hx hb hr hlocks hP hD hS dX4_neighbour_46 (rvi (by unfold nb; rw [if_pos rfl]; first | (rw [if_pos (by omega)]; exact (pk_sub (by omega)).symm) | (rw [if_neg (by omega)]; rfl))) (Nat.le_of_ble_eq_true rfl) (Nat.le_of_ble_eq_true rfl) (trivial)
    · refine lv_iload_n hx hb dX4_neighbour_38 rfl (lv_at hl 1 rfl) ?_
      refine lv_bipush (v := nI 9) hx hb dX4_neighbour_39 (by decide +kernel) ?_
      refine lv_isub hx hb dX4_neighbour_41 ?_
      refine lv_goto (tgt := 46) hx hb dX4_neighbour_42 (by decide) ?_
      exact e_iret () hQ hx hb hr hlocks hP hD hS dX4_neighbour_46 (rvi (by unfold nb; rw [if_pos rfl]; first | (rw [if_pos (by omega)]; exact (pk_sub (by omega)).symm) | (rw [if_neg (by omega)]; rfl))) (Nat.le_of_ble_eq_true rfl) (Nat.le_of_ble_eq_true rfl) (trivial)
  · refine lv_tableIn (off := 41) (tgt := 47) hx hb dX4_neighbour_6 (by decide +kernel) (by decide +kernel) (by decide +kernel) (by decide) ?_
    refine lv_iload_n hx hb dX4_neighbour_47 rfl (lv_at hl 0 rfl) ?_
    refine n_if_le (x := x % 9) (by omega) (tgt := 57) hx hb dX4_neighbour_48 (by decide) (fun c48 => ?_) (fun c48 => ?_)
    · refine lv_iconst (v := (-1)) hx hb dX4_neighbour_57 (by decide +kernel) ?_
      exact e_iret () hQ hx hb hr hlocks hP hD hS dX4_neighbour_58 (rvi (by unfold nb; rw [if_neg (by decide), if_pos rfl]; first | (rw [if_neg (by omega)]; exact (pk_sub (by omega)).symm) | (rw [if_pos (by omega)]; rfl))) (Nat.le_of_ble_eq_true rfl) (Nat.le_of_ble_eq_true rfl) (trivial)
    · refine lv_iload_n hx hb dX4_neighbour_51 rfl (lv_at hl 1 rfl) ?_
      refine lv_iconst (v := nI 1) hx hb dX4_neighbour_52 (by decide +kernel) ?_
      refine lv_isub hx hb dX4_neighbour_53 ?_
      refine lv_goto (tgt := 58) hx hb dX4_neighbour_54 (by decide) ?_
      exact e_iret () hQ hx hb hr hlocks hP hD hS dX4_neighbour_58 (rvi (by unfold nb; rw [if_neg (by decide), if_pos rfl]; first | (rw [if_neg (by omega)]; exact (pk_sub (by omega)).symm) | (rw [if_pos (by omega)]; rfl))) (Nat.le_of_ble_eq_true rfl) (Nat.le_of_ble_eq_true rfl) (trivial)
  · refine lv_tableIn (off := 53) (tgt := 59) hx hb dX4_neighbour_6 (by decide +kernel) (by decide +kernel) (by decide +kernel) (by decide) ?_
    refine lv_iload_n hx hb dX4_neighbour_59 rfl (lv_at hl 0 rfl) ?_
    refine lv_bipush (v := nI 8) hx hb dX4_neighbour_60 (by decide +kernel) ?_
    refine n_icmp_ge (x := x % 9) (y := 8) (by omega) (by omega) (tgt := 71) hx hb dX4_neighbour_62 (by decide) (fun c62 => ?_) (fun c62 => ?_)
    · refine lv_iconst (v := (-1)) hx hb dX4_neighbour_71 (by decide +kernel) ?_
      exact e_iret () hQ hx hb hr hlocks hP hD hS dX4_neighbour_72 (rvi (by unfold nb; rw [if_neg (by decide), if_neg (by decide), if_pos rfl]; first | (rw [if_neg (by omega)]; rfl) | (rw [if_pos (by omega)]; rfl))) (Nat.le_of_ble_eq_true rfl) (Nat.le_of_ble_eq_true rfl) (trivial)
    · refine lv_iload_n hx hb dX4_neighbour_65 rfl (lv_at hl 1 rfl) ?_
      refine lv_iconst (v := nI 1) hx hb dX4_neighbour_66 (by decide +kernel) ?_
      refine lv_iadd hx hb dX4_neighbour_67 ?_
      refine e_top (nI_add _ _) ?_
      refine lv_goto (tgt := 72) hx hb dX4_neighbour_68 (by decide) ?_
      exact e_iret () hQ hx hb hr hlocks hP hD hS dX4_neighbour_72 (rvi (by unfold nb; rw [if_neg (by decide), if_neg (by decide), if_pos rfl]; first | (rw [if_neg (by omega)]; rfl) | (rw [if_pos (by omega)]; rfl))) (Nat.le_of_ble_eq_true rfl) (Nat.le_of_ble_eq_true rfl) (trivial)
  · refine lv_tableOut (tgt := 73) hx hb dX4_neighbour_6 (Or.inr (by decide +kernel)) (by decide) ?_
    refine lv_iload_n hx hb dX4_neighbour_73 rfl (lv_at hl 1 rfl) ?_
    refine lv_bipush (v := nI 72) hx hb dX4_neighbour_74 (by decide +kernel) ?_
    refine n_icmp_ge (x := x) (y := 72) (by omega) (by omega) (tgt := 86) hx hb dX4_neighbour_76 (by decide) (fun c76 => ?_) (fun c76 => ?_)
    · refine lv_iconst (v := (-1)) hx hb dX4_neighbour_86 (by decide +kernel) ?_
      exact e_iret () hQ hx hb hr hlocks hP hD hS dX4_neighbour_87 (rvi (by unfold nb; rw [if_neg (by decide), if_neg (by decide), if_neg (by decide)]; first | (rw [if_pos (by omega)]; rfl) | (rw [if_neg (by omega)]; rfl))) (Nat.le_of_ble_eq_true rfl) (Nat.le_of_ble_eq_true rfl) (trivial)
    · refine lv_iload_n hx hb dX4_neighbour_79 rfl (lv_at hl 1 rfl) ?_
      refine lv_bipush (v := nI 9) hx hb dX4_neighbour_80 (by decide +kernel) ?_
      refine lv_iadd hx hb dX4_neighbour_82 ?_
      refine e_top (nI_add _ _) ?_
      refine lv_goto (tgt := 87) hx hb dX4_neighbour_83 (by decide) ?_
      exact e_iret () hQ hx hb hr hlocks hP hD hS dX4_neighbour_87 (rvi (by unfold nb; rw [if_neg (by decide), if_neg (by decide), if_neg (by decide)]; first | (rw [if_pos (by omega)]; rfl) | (rw [if_neg (by omega)]; rfl))) (Nat.le_of_ble_eq_true rfl) (Nat.le_of_ble_eq_true rfl) (trivial)

abbrev rm_X0_groundOf : Room := { frames := 0, cells := 0, slots := 0, locals := 0 }
set_option maxHeartbeats 4000000 in
set_option maxRecDepth 100000 in
theorem c_X0_groundOf (l : Launch) (E : eT) (sz : Nat) (o : Nat) (a : Nat) (b : Nat) (d : Nat) (gr : Nat → Int32) (co : Nat → Int32) (hb_ : Nat → Bool) (mo : Int32) (j : Nat) (hj : j < 81) : cM l yX0_groundOf wsX0_groundOf rm_X0_groundOf E sz [.ref o, .int (nI j)] (wCo E o a b d gr co hb_ mo) (fun u : Unit => some (.int (gr j))) (fun u : Unit => True) (fun u : Unit => wCo E o a b d gr co hb_ mo) := by
  refine cM_intro (cc := cX0_groundOf) (maxL := 2) (ret := (some .int)) (by decide +kernel) rfl (Nat.le_of_ble_eq_true rfl) ?_
  intro p e s m args below meth cd hx hb hr hml hown hlocks hts hnm hK hsz hP A hD hA Q hQ ls hl
  have hown : s.vm.findClass RX0 = some m.cls := hown
  have hin0 : ∀ w ∈ u_ws RX0 TX0 4, w ∈ wsX0_groundOf := by decide +kernel
  have lk9 := hts (.fieldLink RX0 9 "ReefPilot$Coast" "ground" "[I") (by decide +kernel)
  have hS : va_S A s.heap s.heap [] := va_S.rf
  have hl : lv_has ls 2 [(0, .ref o), (1, .int (nI j))] := hl
  refine lv_aload_n hx hb dX0_groundOf_0 rfl (lv_at hl 0 rfl) ?_
  refine va_get (D := E.1) (ci := 0) (v := .ref a) (C := RX0) (T := TX0) (N := 4) hx hb hts hin0 hown hK.1 hP 0 rfl rfl 0 (by decide) lk9 (fun _ h9 => h9) rfl dX0_groundOf_1 ?_
  refine lv_iload_n hx hb dX0_groundOf_4 rfl (lv_at hl 1 rfl) ?_
  refine e_iald hK hP 1 rfl j (by omega) (by decide) hx hb dX0_groundOf_5 ?_
  exact e_iret () hQ hx hb hr hlocks hP hD hS dX0_groundOf_6 (rfl) (Nat.le_of_ble_eq_true rfl) (Nat.le_of_ble_eq_true rfl) (trivial)

abbrev rm_X0_coralOf : Room := { frames := 0, cells := 0, slots := 0, locals := 0 }
set_option maxHeartbeats 4000000 in
set_option maxRecDepth 100000 in
theorem c_X0_coralOf (l : Launch) (E : eT) (sz : Nat) (o : Nat) (a : Nat) (b : Nat) (d : Nat) (gr : Nat → Int32) (co : Nat → Int32) (hb_ : Nat → Bool) (mo : Int32) (j : Nat) (hj : j < 81) : cM l yX0_coralOf wsX0_coralOf rm_X0_coralOf E sz [.ref o, .int (nI j)] (wCo E o a b d gr co hb_ mo) (fun u : Unit => some (.int (co j))) (fun u : Unit => True) (fun u : Unit => wCo E o a b d gr co hb_ mo) := by
  refine cM_intro (cc := cX0_coralOf) (maxL := 2) (ret := (some .int)) (by decide +kernel) rfl (Nat.le_of_ble_eq_true rfl) ?_
  intro p e s m args below meth cd hx hb hr hml hown hlocks hts hnm hK hsz hP A hD hA Q hQ ls hl
  have hown : s.vm.findClass RX0 = some m.cls := hown
  have hin0 : ∀ w ∈ u_ws RX0 TX0 4, w ∈ wsX0_coralOf := by decide +kernel
  have lk15 := hts (.fieldLink RX0 15 "ReefPilot$Coast" "coral" "[I") (by decide +kernel)
  have hS : va_S A s.heap s.heap [] := va_S.rf
  have hl : lv_has ls 2 [(0, .ref o), (1, .int (nI j))] := hl
  refine lv_aload_n hx hb dX0_coralOf_0 rfl (lv_at hl 0 rfl) ?_
  refine va_get (D := E.1) (ci := 0) (v := .ref b) (C := RX0) (T := TX0) (N := 4) hx hb hts hin0 hown hK.1 hP 0 rfl rfl 1 (by decide) lk15 (fun _ h9 => h9) rfl dX0_coralOf_1 ?_
  refine lv_iload_n hx hb dX0_coralOf_4 rfl (lv_at hl 1 rfl) ?_
  refine e_iald hK hP 2 rfl j (by omega) (by decide) hx hb dX0_coralOf_5 ?_
  exact e_iret () hQ hx hb hr hlocks hP hD hS dX0_coralOf_6 (rfl) (Nat.le_of_ble_eq_true rfl) (Nat.le_of_ble_eq_true rfl) (trivial)

abbrev rm_X0_depthOf : Room := { frames := 1, cells := 0, slots := 0, locals := 13 }
set_option maxHeartbeats 4000000 in
set_option maxRecDepth 100000 in
theorem c_X0_depthOf (l : Launch) (E : eT) (sz : Nat) (o : Nat) (a : Nat) (b : Nat) (d : Nat) (gr : Nat → Int32) (co : Nat → Int32) (hb_ : Nat → Bool) (mo : Int32) (j : Nat) (hj : j < 81) : cM l yX0_depthOf wsX0_depthOf rm_X0_depthOf E sz [.ref o, .int (nI j)] (wCo E o a b d gr co hb_ mo) (fun u : Unit => some (.int (dep gr co j))) (fun u : Unit => True) (fun u : Unit => wCo E o a b d gr co hb_ mo) := by
  refine cM_intro (cc := cX0_depthOf) (maxL := 2) (ret := (some .int)) (by decide +kernel) rfl (Nat.le_of_ble_eq_true rfl) ?_
  intro p e s m args below meth cd hx hb hr hml hown hlocks hts hnm hK hsz hP A hD hA Q hQ ls hl
  have hown : s.vm.findClass RX0 = some m.cls := hown
  have hin0 : ∀ w ∈ u_ws RX0 TX0 4, w ∈ wsX0_depthOf := by decide +kernel
  have lk9 := hts (.fieldLink RX0 9 "ReefPilot$Coast" "ground" "[I") (by decide +kernel)
  have lk15 := hts (.fieldLink RX0 15 "ReefPilot$Coast" "coral" "[I") (by decide +kernel)
  have hamcmax := hts (.code Lib.Math.max.name Lib.Math.max.code 2 (some .int)) (by decide +kernel)
  have hamini := hts (.initialized "java/lang/Math") (by decide +kernel)
  have haml44 := hts (.methodLink RX0 44 Lib.Math.max.name) (by decide +kernel)
  have hamsmax := hts (.static Lib.Math.max.name) (by decide +kernel)
  have hS : va_S A s.heap s.heap [] := va_S.rf
  have hl : lv_has ls 2 [(0, .ref o), (1, .int (nI j))] := hl
  refine lv_aload_n hx hb dX0_depthOf_0 rfl (lv_at hl 0 rfl) ?_
  refine va_get (D := E.1) (ci := 0) (v := .ref a) (C := RX0) (T := TX0) (N := 4) hx hb hts hin0 hown hK.1 hP 0 rfl rfl 0 (by decide) lk9 (fun _ h9 => h9) rfl dX0_depthOf_1 ?_
  refine lv_iload_n hx hb dX0_depthOf_4 rfl (lv_at hl 1 rfl) ?_
  refine e_iald hK hP 1 rfl j (by omega) (by decide) hx hb dX0_depthOf_5 ?_
  refine lv_aload_n hx hb dX0_depthOf_6 rfl (lv_at hl 0 rfl) ?_
  refine va_get (D := E.1) (ci := 0) (v := .ref b) (C := RX0) (T := TX0) (N := 4) hx hb hts hin0 hown hK.1 hP 0 rfl rfl 1 (by decide) lk15 (fun _ h9 => h9) rfl dX0_depthOf_7 ?_
  refine lv_iload_n hx hb dX0_depthOf_10 rfl (lv_at hl 1 rfl) ?_
  refine e_iald hK hP 2 rfl j (by omega) (by decide) hx hb dX0_depthOf_11 ?_
  refine lv_isub hx hb dX0_depthOf_12 ?_
  refine lv_iconst (v := nI 0) hx hb dX0_depthOf_13 (by decide +kernel) ?_
  refine va_mmax hx hb (by rw [hml]; exact hl.1.symm) hown haml44 hamsmax hamini hamcmax (Nat.le_of_ble_eq_true rfl) (Nat.le_of_ble_eq_true rfl) (Nat.le_of_ble_eq_true rfl) (Nat.le_of_ble_eq_true rfl) dX0_depthOf_14 ?_
  refine e_top (y := iMax ((gr j) - (co j)) (nI 0)) rfl ?_
  exact e_iret () hQ hx hb hr hlocks hP hD hS dX0_depthOf_17 (rfl) (Nat.le_of_ble_eq_true rfl) (Nat.le_of_ble_eq_true rfl) (trivial)

abbrev rm_X0_isHead : Room := { frames := 0, cells := 0, slots := 0, locals := 0 }
set_option maxHeartbeats 4000000 in
set_option maxRecDepth 100000 in
theorem c_X0_isHead (l : Launch) (E : eT) (sz : Nat) (o : Nat) (a : Nat) (b : Nat) (d : Nat) (gr : Nat → Int32) (co : Nat → Int32) (hb_ : Nat → Bool) (mo : Int32) (j : Nat) (hj : j < 81) : cM l yX0_isHead wsX0_isHead rm_X0_isHead E sz [.ref o, .int (nI j)] (wCo E o a b d gr co hb_ mo) (fun u : Unit => some (.int (b2i (hd co j)))) (fun u : Unit => True) (fun u : Unit => wCo E o a b d gr co hb_ mo) := by
  refine cM_intro (cc := cX0_isHead) (maxL := 2) (ret := (some .boolean)) (by decide +kernel) rfl (Nat.le_of_ble_eq_true rfl) ?_
  intro p e s m args below meth cd hx hb hr hml hown hlocks hts hnm hK hsz hP A hD hA Q hQ ls hl
  have hown : s.vm.findClass RX0 = some m.cls := hown
  have hin0 : ∀ w ∈ u_ws RX0 TX0 4, w ∈ wsX0_isHead := by decide +kernel
  have lk15 := hts (.fieldLink RX0 15 "ReefPilot$Coast" "coral" "[I") (by decide +kernel)
  have hS : va_S A s.heap s.heap [] := va_S.rf
  have hl : lv_has ls 2 [(0, .ref o), (1, .int (nI j))] := hl
  refine lv_aload_n hx hb dX0_isHead_0 rfl (lv_at hl 0 rfl) ?_
  refine va_get (D := E.1) (ci := 0) (v := .ref b) (C := RX0) (T := TX0) (N := 4) hx hb hts hin0 hown hK.1 hP 0 rfl rfl 1 (by decide) lk15 (fun _ h9 => h9) rfl dX0_isHead_1 ?_
  refine lv_iload_n hx hb dX0_isHead_4 rfl (lv_at hl 1 rfl) ?_
  refine e_iald hK hP 2 rfl j (by omega) (by decide) hx hb dX0_isHead_5 ?_
  refine lv_iconst (v := nI 5) hx hb dX0_isHead_6 (by decide +kernel) ?_
  refine lv_icmp_lt (tgt := 14) hx hb dX0_isHead_7 (by decide) (fun c7 => ?_) (fun c7 => ?_)
  · refine lv_iconst (v := nI 0) hx hb dX0_isHead_14 (by decide +kernel) ?_
    exact e_zret () hQ hx hb hr hlocks hP hD hS dX0_isHead_15 (rvi (b2i_f (hd_f c7))) (Nat.le_of_ble_eq_true rfl) (Nat.le_of_ble_eq_true rfl) (by first | exact b2i_narrow _ | rfl | decide +kernel) (trivial)
  · refine lv_iconst (v := nI 1) hx hb dX0_isHead_10 (by decide +kernel) ?_
    refine lv_goto (tgt := 15) hx hb dX0_isHead_11 (by decide) ?_
    exact e_zret () hQ hx hb hr hlocks hP hD hS dX0_isHead_15 (rvi (b2i_t (hd_t c7))) (Nat.le_of_ble_eq_true rfl) (Nat.le_of_ble_eq_true rfl) (by first | exact b2i_narrow _ | rfl | decide +kernel) (trivial)

abbrev rm_X0_monthNow : Room := { frames := 0, cells := 0, slots := 0, locals := 0 }
set_option maxHeartbeats 4000000 in
set_option maxRecDepth 100000 in
theorem c_X0_monthNow (l : Launch) (E : eT) (sz : Nat) (o : Nat) (a : Nat) (b : Nat) (d : Nat) (gr : Nat → Int32) (co : Nat → Int32) (hb_ : Nat → Bool) (mo : Int32) : cM l yX0_monthNow wsX0_monthNow rm_X0_monthNow E sz [.ref o] (wCo E o a b d gr co hb_ mo) (fun u : Unit => some (.int mo)) (fun u : Unit => True) (fun u : Unit => wCo E o a b d gr co hb_ mo) := by
  refine cM_intro (cc := cX0_monthNow) (maxL := 1) (ret := (some .int)) (by decide +kernel) rfl (Nat.le_of_ble_eq_true rfl) ?_
  intro p e s m args below meth cd hx hb hr hml hown hlocks hts hnm hK hsz hP A hD hA Q hQ ls hl
  have hown : s.vm.findClass RX0 = some m.cls := hown
  have hin0 : ∀ w ∈ u_ws RX0 TX0 4, w ∈ wsX0_monthNow := by decide +kernel
  have lk34 := hts (.fieldLink RX0 34 "ReefPilot$Coast" "month" "I") (by decide +kernel)
  have hS : va_S A s.heap s.heap [] := va_S.rf
  have hl : lv_has ls 1 [(0, .ref o)] := hl
  refine lv_aload_n hx hb dX0_monthNow_0 rfl (lv_at hl 0 rfl) ?_
  refine va_get (D := E.1) (ci := 0) (v := .int mo) (C := RX0) (T := TX0) (N := 4) hx hb hts hin0 hown hK.1 hP 0 rfl rfl 3 (by decide) lk34 (fun _ h9 => h9) rfl dX0_monthNow_1 ?_
  exact e_iret () hQ hx hb hr hlocks hP hD hS dX0_monthNow_4 (rfl) (Nat.le_of_ble_eq_true rfl) (Nat.le_of_ble_eq_true rfl) (trivial)

abbrev rm_X0_layGround : Room := { frames := 1, cells := 0, slots := 0, locals := 15 }
set_option maxHeartbeats 4000000 in
set_option maxRecDepth 100000 in
theorem c_X0_layGround (l : Launch) (E : eT) (sz : Nat) (o : Nat) (a : Nat) (b : Nat) (d : Nat) (gr : Nat → Int32) (co : Nat → Int32) (hb_ : Nat → Bool) (mo : Int32) (j : Nat) (v : Int32) (hj : j < 81) : cM l yX0_layGround wsX0_layGround rm_X0_layGround E sz [.ref o, .int (nI j), .int v] (wCo E o a b d gr co hb_ mo) (fun u : Unit => some (.int (gr j))) (fun u : Unit => True) (fun u : Unit => wCo E o a b d (upd gr j v) (upd co j (iMin (co j) v)) hb_ mo) := by
  refine cM_intro (cc := cX0_layGround) (maxL := 4) (ret := (some .int)) (by decide +kernel) rfl (Nat.le_of_ble_eq_true rfl) ?_
  intro p e s m args below meth cd hx hb hr hml hown hlocks hts hnm hK hsz hP A hD hA Q hQ ls hl
  have hown : s.vm.findClass RX0 = some m.cls := hown
  have hin0 : ∀ w ∈ u_ws RX0 TX0 4, w ∈ wsX0_layGround := by decide +kernel
  have lk9 := hts (.fieldLink RX0 9 "ReefPilot$Coast" "ground" "[I") (by decide +kernel)
  have lk15 := hts (.fieldLink RX0 15 "ReefPilot$Coast" "coral" "[I") (by decide +kernel)
  have hamcmin := hts (.code Lib.Math.min.name Lib.Math.min.code 2 (some .int)) (by decide +kernel)
  have hamini := hts (.initialized "java/lang/Math") (by decide +kernel)
  have haml38 := hts (.methodLink RX0 38 Lib.Math.min.name) (by decide +kernel)
  have hamsmin := hts (.static Lib.Math.min.name) (by decide +kernel)
  have hS : va_S A s.heap s.heap [] := va_S.rf
  have hl : lv_has ls 4 [(0, .ref o), (1, .int (nI j)), (2, .int v)] := hl
  refine lv_aload_n hx hb dX0_layGround_0 rfl (lv_at hl 0 rfl) ?_
  refine va_get (D := E.1) (ci := 0) (v := .ref a) (C := RX0) (T := TX0) (N := 4) hx hb hts hin0 hown hK.1 hP 0 rfl rfl 0 (by decide) lk9 (fun _ h9 => h9) rfl dX0_layGround_1 ?_
  refine lv_iload_n hx hb dX0_layGround_4 rfl (lv_at hl 1 rfl) ?_
  refine e_iald hK hP 1 rfl j (by omega) (by decide) hx hb dX0_layGround_5 ?_
  refine lv_istore_n (lv' := [(3, .int (gr j)), (0, .ref o), (1, .int (nI j)), (2, .int v)]) hx hb dX0_layGround_6 rfl hl (by decide) rfl (fun ls hl => ?_)
  refine lv_aload_n hx hb dX0_layGround_7 rfl (lv_at hl 1 rfl) ?_
  refine va_get (D := E.1) (ci := 0) (v := .ref a) (C := RX0) (T := TX0) (N := 4) hx hb hts hin0 hown hK.1 hP 0 rfl rfl 0 (by decide) lk9 (fun _ h9 => h9) rfl dX0_layGround_8 ?_
  refine lv_iload_n hx hb dX0_layGround_11 rfl (lv_at hl 2 rfl) ?_
  refine lv_iload_n hx hb dX0_layGround_12 rfl (lv_at hl 3 rfl) ?_
  refine e_iast hK hP hD hS 1 rfl j (by omega) (by decide) hx hb dX0_layGround_13 (fun H locs hP hD hS => ?_)
  have hP : va_P E.1 vwCl (wCo E o a b d (upd gr j v) co hb_ mo) H := hP
  have hD : va_D A (wCo E o a b d (upd gr j v) co hb_ mo) := hD
  refine lv_aload_n hx hb dX0_layGround_14 rfl (lv_at hl 1 rfl) ?_
  refine va_get (D := E.1) (ci := 0) (v := .ref b) (C := RX0) (T := TX0) (N := 4) hx hb hts hin0 hown hK.1 hP 0 rfl rfl 1 (by decide) lk15 (fun _ h9 => h9) rfl dX0_layGround_15 ?_
  refine lv_iload_n hx hb dX0_layGround_18 rfl (lv_at hl 2 rfl) ?_
  refine lv_aload_n hx hb dX0_layGround_19 rfl (lv_at hl 1 rfl) ?_
  refine va_get (D := E.1) (ci := 0) (v := .ref b) (C := RX0) (T := TX0) (N := 4) hx hb hts hin0 hown hK.1 hP 0 rfl rfl 1 (by decide) lk15 (fun _ h9 => h9) rfl dX0_layGround_20 ?_
  refine lv_iload_n hx hb dX0_layGround_23 rfl (lv_at hl 2 rfl) ?_
  refine e_iald hK hP 2 rfl j (by omega) (by decide) hx hb dX0_layGround_24 ?_
  refine lv_iload_n hx hb dX0_layGround_25 rfl (lv_at hl 3 rfl) ?_
  refine va_mmin hx hb (by rw [hml]; exact hl.1.symm) hown haml38 hamsmin hamini hamcmin (Nat.le_of_ble_eq_true rfl) (Nat.le_of_ble_eq_true rfl) (Nat.le_of_ble_eq_true rfl) (Nat.le_of_ble_eq_true rfl) dX0_layGround_26 ?_
  refine e_top (y := iMin (co j) v) rfl ?_
  refine e_iast hK hP hD hS 2 rfl j (by omega) (by decide) hx hb dX0_layGround_29 (fun H locs hP hD hS => ?_)
  have hP : va_P E.1 vwCl (wCo E o a b d (upd gr j v) (upd co j (iMin (co j) v)) hb_ mo) H := hP
  have hD : va_D A (wCo E o a b d (upd gr j v) (upd co j (iMin (co j) v)) hb_ mo) := hD
  refine lv_iload_n hx hb dX0_layGround_30 rfl (lv_at hl 0 rfl) ?_
  exact e_iret () hQ hx hb hr hlocks hP hD hS dX0_layGround_31 (rfl) (Nat.le_of_ble_eq_true rfl) (Nat.le_of_ble_eq_true rfl) (trivial)

abbrev rm_X0_setCoral : Room := { frames := 0, cells := 0, slots := 0, locals := 0 }
set_option maxHeartbeats 4000000 in
set_option maxRecDepth 100000 in
theorem c_X0_setCoral (l : Launch) (E : eT) (sz : Nat) (o : Nat) (a : Nat) (b : Nat) (d : Nat) (gr : Nat → Int32) (co : Nat → Int32) (hb_ : Nat → Bool) (mo : Int32) (j : Nat) (v : Int32) (hj : j < 81) : cM l yX0_setCoral wsX0_setCoral rm_X0_setCoral E sz [.ref o, .int (nI j), .int v] (wCo E o a b d gr co hb_ mo) (fun u : Unit => some (.int (co j))) (fun u : Unit => True) (fun u : Unit => wCo E o a b d gr (upd co j v) hb_ mo) := by
  refine cM_intro (cc := cX0_setCoral) (maxL := 4) (ret := (some .int)) (by decide +kernel) rfl (Nat.le_of_ble_eq_true rfl) ?_
  intro p e s m args below meth cd hx hb hr hml hown hlocks hts hnm hK hsz hP A hD hA Q hQ ls hl
  have hown : s.vm.findClass RX0 = some m.cls := hown
  have hin0 : ∀ w ∈ u_ws RX0 TX0 4, w ∈ wsX0_setCoral := by decide +kernel
  have lk15 := hts (.fieldLink RX0 15 "ReefPilot$Coast" "coral" "[I") (by decide +kernel)
  have hS : va_S A s.heap s.heap [] := va_S.rf
  have hl : lv_has ls 4 [(0, .ref o), (1, .int (nI j)), (2, .int v)] := hl
  refine lv_aload_n hx hb dX0_setCoral_0 rfl (lv_at hl 0 rfl) ?_
  refine va_get (D := E.1) (ci := 0) (v := .ref b) (C := RX0) (T := TX0) (N := 4) hx hb hts hin0 hown hK.1 hP 0 rfl rfl 1 (by decide) lk15 (fun _ h9 => h9) rfl dX0_setCoral_1 ?_
  refine lv_iload_n hx hb dX0_setCoral_4 rfl (lv_at hl 1 rfl) ?_
  refine e_iald hK hP 2 rfl j (by omega) (by decide) hx hb dX0_setCoral_5 ?_
  refine lv_istore_n (lv' := [(3, .int (co j)), (0, .ref o), (1, .int (nI j)), (2, .int v)]) hx hb dX0_setCoral_6 rfl hl (by decide) rfl (fun ls hl => ?_)
  refine lv_aload_n hx hb dX0_setCoral_7 rfl (lv_at hl 1 rfl) ?_
  refine va_get (D := E.1) (ci := 0) (v := .ref b) (C := RX0) (T := TX0) (N := 4) hx hb hts hin0 hown hK.1 hP 0 rfl rfl 1 (by decide) lk15 (fun _ h9 => h9) rfl dX0_setCoral_8 ?_
  refine lv_iload_n hx hb dX0_setCoral_11 rfl (lv_at hl 2 rfl) ?_
  refine lv_iload_n hx hb dX0_setCoral_12 rfl (lv_at hl 3 rfl) ?_
  refine e_iast hK hP hD hS 2 rfl j (by omega) (by decide) hx hb dX0_setCoral_13 (fun H locs hP hD hS => ?_)
  have hP : va_P E.1 vwCl (wCo E o a b d gr (upd co j v) hb_ mo) H := hP
  have hD : va_D A (wCo E o a b d gr (upd co j v) hb_ mo) := hD
  refine lv_iload_n hx hb dX0_setCoral_14 rfl (lv_at hl 0 rfl) ?_
  exact e_iret () hQ hx hb hr hlocks hP hD hS dX0_setCoral_15 (rfl) (Nat.le_of_ble_eq_true rfl) (Nat.le_of_ble_eq_true rfl) (trivial)

abbrev rm_X0_heads : Room := { frames := 1, cells := 0, slots := 0, locals := 21 }
set_option maxHeartbeats 4000000 in
set_option maxRecDepth 100000 in
theorem c_X0_heads (l : Launch) (E : eT) (sz : Nat) (o : Nat) (a : Nat) (b : Nat) (d : Nat) (gr : Nat → Int32) (co : Nat → Int32) (hb_ : Nat → Bool) (mo : Int32) : cM l yX0_heads wsX0_heads rm_X0_heads E sz [.ref o] (wCo E o a b d gr co hb_ mo) (fun u : Unit => some (.int (nI (heads co)))) (fun u : Unit => True) (fun u : Unit => wCo E o a b d gr co hb_ mo) := by
  refine cM_intro (cc := cX0_heads) (maxL := 3) (ret := (some .int)) (by decide +kernel) rfl (Nat.le_of_ble_eq_true rfl) ?_
  intro p e s m args below meth cd hx hb hr hml hown hlocks hts hnm hK hsz hP A hD hA Q hQ ls hl
  have hown : s.vm.findClass RX0 = some m.cls := hown
  have hS : va_S A s.heap s.heap [] := va_S.rf
  have hl : lv_has ls 3 [(0, .ref o)] := hl
  refine lv_iconst (v := nI 0) hx hb dX0_heads_0 (by decide +kernel) ?_
  refine lv_istore_n (lv' := [(1, .int (nI 0)), (0, .ref o)]) hx hb dX0_heads_1 rfl hl (by decide) rfl (fun ls hl => ?_)
  refine lv_iconst (v := nI 0) hx hb dX0_heads_2 (by decide +kernel) ?_
  refine lv_istore_n (lv' := [(2, .int (nI 0)), (1, .int (nI 0)), (0, .ref o)]) hx hb dX0_heads_3 rfl hl (by decide) rfl (fun ls hl => ?_)
  have L4 : ∀ (fuel : Nat) (x : Nat) (z : Nat) (hz : z ≤ 81) (hx_ : x = fb_ct (hd co) z) (hfuel : 81 - z < fuel) (H : Heap) (locs : List Loc), va_P E.1 vwCl (wCo E o a b d gr co hb_ mo) H → va_D A (wCo E o a b d gr co hb_ mo) → va_S A s.heap H locs → ∀ ls : Array Slot, lv_has ls 3 [(2, .int (nI z)), (1, .int (nI x)), (0, .ref o)] → W p l e rm_X0_heads s m args below meth cd H locs 0 0 Q (F0 m 4 ls []) := by
    intro fuel
    induction fuel with
    | zero => intros; omega
    | succ fuel ihL4 =>
      intro x z hz hx_ hfuel H locs hP hD hS ls hl
      refine lv_iload_n hx hb dX0_heads_4 rfl (lv_at hl 0 rfl) ?_
      have hxz := fb_ct_le (hd co) z
      refine lv_bipush (v := nI 81) hx hb dX0_heads_5 (by decide +kernel) ?_
      refine n_icmp_ge (x := z) (y := 81) (by omega) (by omega) (tgt := 27) hx hb dX0_heads_7 (by decide) (fun c7 => ?_) (fun c7 => ?_)
      · refine lv_iload_n hx hb dX0_heads_27 rfl (lv_at hl 1 rfl) ?_
        exact e_iret () hQ hx hb hr hlocks hP hD hS dX0_heads_28 (rvi (by rw [hx_, show z = 81 by omega]; rfl)) (Nat.le_of_ble_eq_true rfl) (Nat.le_of_ble_eq_true rfl) (trivial)
      · refine lv_aload_n hx hb dX0_heads_10 rfl (lv_at hl 2 rfl) ?_
        refine lv_iload_n hx hb dX0_heads_11 rfl (lv_at hl 0 rfl) ?_
        refine e_callV (As := [.int (nI z)]) (rest := []) ⟨hx, hb, hml, hown, hts⟩ hK hP hD hS hA hl.1 (c_X0_isHead l E _ o a b d gr co hb_ mo z (by omega)) (cwV 1 hts gX0_heads_X0_isHead rfl rfl rfl (by decide +kernel) ⟨Nat.le_of_ble_eq_true rfl, Nat.le_of_ble_eq_true rfl⟩) [0, 1, 2, 3] [] rfl rfl rfl rfl (by decide) (q0 := 0) (ci := 0) rfl rfl rfl rfl (Nat.le_of_ble_eq_true rfl) dX0_heads_12 ⟨Nat.le_of_ble_eq_true rfl, Nat.le_of_ble_eq_true rfl⟩ (fun u_1 H locs hu_2 hz hP hD hS => ?_)
        have hP : va_P E.1 vwCl (wCo E o a b d gr co hb_ mo) H := hP.sub [0, 1, 2, 3] rfl
        have hD : va_D A (wCo E o a b d gr co hb_ mo) := hD.sub [0, 1, 2, 3] (by decide) rfl
        refine W.eq (g2 := F0 m 15 ls [.int (b2i (hd co z))]) rfl ?_
        refine b_if_eq (x := hd co z) (tgt := 21) hx hb dX0_heads_15 (by decide) (fun c15 => ?_) (fun c15 => ?_)
        · refine lv_iinc (v := nI (z + 1)) (lv' := [(2, .int (nI (z + 1))), (1, .int (nI x)), (0, .ref o)]) hx hb dX0_heads_21 hl (k := 0) rfl (nI_add z 1) (by decide) rfl (fun ls hl => ?_)
          refine lv_goto (tgt := 4) hx hb dX0_heads_24 (by decide) ?_
          exact ihL4 x (z + 1) (by first | omega | assumption | rfl | (simp_all; done)) (by subst hx_; simp [fb_ct_succ, c15]) (by omega) _ _ hP hD hS _ (lv_sub hl [0, 1, 2] rfl)
        · refine lv_iinc (v := nI (x + 1)) (lv' := [(1, .int (nI (x + 1))), (2, .int (nI z)), (0, .ref o)]) hx hb dX0_heads_18 hl (k := 1) rfl (nI_add x 1) (by decide) rfl (fun ls hl => ?_)
          refine lv_iinc (v := nI (z + 1)) (lv' := [(2, .int (nI (z + 1))), (1, .int (nI (x + 1))), (0, .ref o)]) hx hb dX0_heads_21 hl (k := 1) rfl (nI_add z 1) (by decide) rfl (fun ls hl => ?_)
          refine lv_goto (tgt := 4) hx hb dX0_heads_24 (by decide) ?_
          exact ihL4 (x + 1) (z + 1) (by first | omega | assumption | rfl | (simp_all; done)) (by subst hx_; simp [fb_ct_succ, c15]) (by omega) _ _ hP hD hS _ (lv_sub hl [0, 1, 2] rfl)
  exact L4 (81 - 0 + 1) 0 0 (by first | omega | assumption | rfl | (simp_all; done)) (rfl) (Nat.lt_succ_self _) _ _ hP hD hS _ (lv_sub hl [0, 1, 2] rfl)

abbrev rm_X0_allCoral : Room := { frames := 0, cells := 0, slots := 0, locals := 0 }
set_option maxHeartbeats 4000000 in
set_option maxRecDepth 100000 in
theorem c_X0_allCoral (l : Launch) (E : eT) (sz : Nat) (o : Nat) (a : Nat) (b : Nat) (d : Nat) (gr : Nat → Int32) (co : Nat → Int32) (hb_ : Nat → Bool) (mo : Int32) : cM l yX0_allCoral wsX0_allCoral rm_X0_allCoral E sz [.ref o] (wCo E o a b d gr co hb_ mo) (fun u : Unit => some (.int (sumI co 81))) (fun u : Unit => True) (fun u : Unit => wCo E o a b d gr co hb_ mo) := by
  refine cM_intro (cc := cX0_allCoral) (maxL := 3) (ret := (some .int)) (by decide +kernel) rfl (Nat.le_of_ble_eq_true rfl) ?_
  intro p e s m args below meth cd hx hb hr hml hown hlocks hts hnm hK hsz hP A hD hA Q hQ ls hl
  have hown : s.vm.findClass RX0 = some m.cls := hown
  have hin0 : ∀ w ∈ u_ws RX0 TX0 4, w ∈ wsX0_allCoral := by decide +kernel
  have lk15 := hts (.fieldLink RX0 15 "ReefPilot$Coast" "coral" "[I") (by decide +kernel)
  have hS : va_S A s.heap s.heap [] := va_S.rf
  have hl : lv_has ls 3 [(0, .ref o)] := hl
  refine lv_iconst (v := nI 0) hx hb dX0_allCoral_0 (by decide +kernel) ?_
  refine lv_istore_n (lv' := [(1, .int (nI 0)), (0, .ref o)]) hx hb dX0_allCoral_1 rfl hl (by decide) rfl (fun ls hl => ?_)
  refine lv_iconst (v := nI 0) hx hb dX0_allCoral_2 (by decide +kernel) ?_
  refine lv_istore_n (lv' := [(2, .int (nI 0)), (1, .int (nI 0)), (0, .ref o)]) hx hb dX0_allCoral_3 rfl hl (by decide) rfl (fun ls hl => ?_)
  have L4 : ∀ (fuel : Nat) (x : Int32) (z : Nat) (hz : z ≤ 81) (hx_ : x = sumI co z) (hfuel : 81 - z < fuel) (H : Heap) (locs : List Loc), va_P E.1 vwCl (wCo E o a b d gr co hb_ mo) H → va_D A (wCo E o a b d gr co hb_ mo) → va_S A s.heap H locs → ∀ ls : Array Slot, lv_has ls 3 [(2, .int (nI z)), (1, .int x), (0, .ref o)] → W p l e rm_X0_allCoral s m args below meth cd H locs 0 0 Q (F0 m 4 ls []) := by
    intro fuel
    induction fuel with
    | zero => intros; omega
    | succ fuel ihL4 =>
      intro x z hz hx_ hfuel H locs hP hD hS ls hl
      refine lv_iload_n hx hb dX0_allCoral_4 rfl (lv_at hl 0 rfl) ?_
      refine lv_bipush (v := nI 81) hx hb dX0_allCoral_5 (by decide +kernel) ?_
      refine n_icmp_ge (x := z) (y := 81) (by omega) (by omega) (tgt := 25) hx hb dX0_allCoral_7 (by decide) (fun c7 => ?_) (fun c7 => ?_)
      · refine lv_iload_n hx hb dX0_allCoral_25 rfl (lv_at hl 1 rfl) ?_
        exact e_iret () hQ hx hb hr hlocks hP hD hS dX0_allCoral_26 (rvi (by rw [hx_, show z = 81 by omega])) (Nat.le_of_ble_eq_true rfl) (Nat.le_of_ble_eq_true rfl) (trivial)
      · refine lv_iload_n hx hb dX0_allCoral_10 rfl (lv_at hl 1 rfl) ?_
        refine lv_aload_n hx hb dX0_allCoral_11 rfl (lv_at hl 2 rfl) ?_
        refine va_get (D := E.1) (ci := 0) (v := .ref b) (C := RX0) (T := TX0) (N := 4) hx hb hts hin0 hown hK.1 hP 0 rfl rfl 1 (by decide) lk15 (fun _ h9 => h9) rfl dX0_allCoral_12 ?_
        refine lv_iload_n hx hb dX0_allCoral_15 rfl (lv_at hl 0 rfl) ?_
        refine e_iald hK hP 2 rfl z (by omega) (by decide) hx hb dX0_allCoral_16 ?_
        refine lv_iadd hx hb dX0_allCoral_17 ?_
        refine lv_istore_n (lv' := [(1, .int (x + (co z))), (2, .int (nI z)), (0, .ref o)]) hx hb dX0_allCoral_18 rfl hl (by decide) rfl (fun ls hl => ?_)
        refine lv_iinc (v := nI (z + 1)) (lv' := [(2, .int (nI (z + 1))), (1, .int (x + (co z))), (0, .ref o)]) hx hb dX0_allCoral_19 hl (k := 1) rfl (nI_add z 1) (by decide) rfl (fun ls hl => ?_)
        refine lv_goto (tgt := 4) hx hb dX0_allCoral_22 (by decide) ?_
        exact ihL4 (x + (co z)) (z + 1) (by first | omega | assumption | rfl | (simp_all; done)) (by rw [hx_]; rfl) (by omega) _ _ hP hD hS _ (lv_sub hl [0, 1, 2] rfl)
  exact L4 (81 - 0 + 1) (nI 0) 0 (by first | omega | assumption | rfl | (simp_all; done)) (rfl) (Nat.lt_succ_self _) _ _ hP hD hS _ (lv_sub hl [0, 1, 2] rfl)

abbrev rm_X0_dieBack : Room := { frames := 1, cells := 0, slots := 0, locals := 15 }
set_option maxHeartbeats 4000000 in
set_option maxRecDepth 100000 in
theorem c_X0_dieBack (l : Launch) (E : eT) (sz : Nat) (o : Nat) (a : Nat) (b : Nat) (d : Nat) (gr : Nat → Int32) (co : Nat → Int32) (hb_ : Nat → Bool) (mo : Int32) : cM l yX0_dieBack wsX0_dieBack rm_X0_dieBack E sz [.ref o] (wCo E o a b d gr co hb_ mo) (fun u : Unit => none) (fun u : Unit => True) (fun u : Unit => wCo E o a b d gr (die co) hb_ mo) := by
  refine cM_intro (cc := cX0_dieBack) (maxL := 2) (ret := none) (by decide +kernel) rfl (Nat.le_of_ble_eq_true rfl) ?_
  intro p e s m args below meth cd hx hb hr hml hown hlocks hts hnm hK hsz hP A hD hA Q hQ ls hl
  have hown : s.vm.findClass RX0 = some m.cls := hown
  have hin0 : ∀ w ∈ u_ws RX0 TX0 4, w ∈ wsX0_dieBack := by decide +kernel
  have lk15 := hts (.fieldLink RX0 15 "ReefPilot$Coast" "coral" "[I") (by decide +kernel)
  have hamcmax := hts (.code Lib.Math.max.name Lib.Math.max.code 2 (some .int)) (by decide +kernel)
  have hamini := hts (.initialized "java/lang/Math") (by decide +kernel)
  have haml44 := hts (.methodLink RX0 44 Lib.Math.max.name) (by decide +kernel)
  have hamsmax := hts (.static Lib.Math.max.name) (by decide +kernel)
  have hS : va_S A s.heap s.heap [] := va_S.rf
  have hl : lv_has ls 2 [(0, .ref o)] := hl
  refine lv_iconst (v := nI 0) hx hb dX0_dieBack_0 (by decide +kernel) ?_
  refine lv_istore_n (lv' := [(1, .int (nI 0)), (0, .ref o)]) hx hb dX0_dieBack_1 rfl hl (by decide) rfl (fun ls hl => ?_)
  have L2 : ∀ (fuel : Nat) (z : Nat) (f : Nat → Int32) (hz : z ≤ 81) (hf : ∀ k : Nat, f k = if k < z then die co k else co k) (hfuel : 81 - z < fuel) (H : Heap) (locs : List Loc), va_P E.1 vwCl (wCo E o a b d gr f hb_ mo) H → va_D A (wCo E o a b d gr f hb_ mo) → va_S A s.heap H locs → ∀ ls : Array Slot, lv_has ls 2 [(1, .int (nI z)), (0, .ref o)] → W p l e rm_X0_dieBack s m args below meth cd H locs 0 0 Q (F0 m 2 ls []) := by
    intro fuel
    induction fuel with
    | zero => intros; omega
    | succ fuel ihL2 =>
      intro z f hz hf hfuel H locs hP hD hS ls hl
      refine lv_iload_n hx hb dX0_dieBack_2 rfl (lv_at hl 0 rfl) ?_
      refine lv_bipush (v := nI 81) hx hb dX0_dieBack_3 (by decide +kernel) ?_
      refine n_icmp_ge (x := z) (y := 81) (by omega) (by omega) (tgt := 32) hx hb dX0_dieBack_5 (by decide) (fun c5 => ?_) (fun c5 => ?_)
      · have hP := e_cong hP 2 (g := die co) rfl (lay_end hf (by omega))
        have hD := va_D.set (e := .inl (E.2.1, 81, .inl (die co))) hD (p := 2) rfl
        have hP : va_P E.1 vwCl (wCo E o a b d gr (die co) hb_ mo) H := hP
        have hD : va_D A (wCo E o a b d gr (die co) hb_ mo) := hD
        exact e_vret () hQ hx hb hr hlocks hP hD hS dX0_dieBack_32 (rfl) (Nat.le_of_ble_eq_true rfl) (Nat.le_of_ble_eq_true rfl) (trivial)
      · refine lv_aload_n hx hb dX0_dieBack_8 rfl (lv_at hl 1 rfl) ?_
        refine va_get (D := E.1) (ci := 0) (v := .ref b) (C := RX0) (T := TX0) (N := 4) hx hb hts hin0 hown hK.1 hP 0 rfl rfl 1 (by decide) lk15 (fun _ h9 => h9) rfl dX0_dieBack_9 ?_
        refine lv_iload_n hx hb dX0_dieBack_12 rfl (lv_at hl 0 rfl) ?_
        refine lv_aload_n hx hb dX0_dieBack_13 rfl (lv_at hl 1 rfl) ?_
        refine va_get (D := E.1) (ci := 0) (v := .ref b) (C := RX0) (T := TX0) (N := 4) hx hb hts hin0 hown hK.1 hP 0 rfl rfl 1 (by decide) lk15 (fun _ h9 => h9) rfl dX0_dieBack_14 ?_
        refine lv_iload_n hx hb dX0_dieBack_17 rfl (lv_at hl 0 rfl) ?_
        refine e_iald hK hP 2 rfl z (by omega) (by decide) hx hb dX0_dieBack_18 ?_
        refine lv_iconst (v := nI 1) hx hb dX0_dieBack_19 (by decide +kernel) ?_
        refine lv_isub hx hb dX0_dieBack_20 ?_
        refine lv_iconst (v := nI 0) hx hb dX0_dieBack_21 (by decide +kernel) ?_
        refine va_mmax hx hb (by rw [hml]; exact hl.1.symm) hown haml44 hamsmax hamini hamcmax (Nat.le_of_ble_eq_true rfl) (Nat.le_of_ble_eq_true rfl) (Nat.le_of_ble_eq_true rfl) (Nat.le_of_ble_eq_true rfl) dX0_dieBack_22 ?_
        refine e_top (y := iMax ((f z) - (nI 1)) (nI 0)) rfl ?_
        refine e_iast hK hP hD hS 2 rfl z (by omega) (by decide) hx hb dX0_dieBack_25 (fun H locs hP hD hS => ?_)
        have hP : va_P E.1 vwCl (wCo E o a b d gr (upd f z (iMax ((f z) - (nI 1)) (nI 0))) hb_ mo) H := hP
        have hD : va_D A (wCo E o a b d gr (upd f z (iMax ((f z) - (nI 1)) (nI 0))) hb_ mo) := hD
        refine lv_iinc (v := nI (z + 1)) (lv' := [(1, .int (nI (z + 1))), (0, .ref o)]) hx hb dX0_dieBack_26 hl (k := 0) rfl (nI_add z 1) (by decide) rfl (fun ls hl => ?_)
        refine lv_goto (tgt := 2) hx hb dX0_dieBack_29 (by decide) ?_
        exact ihL2 (z + 1) (upd f z (iMax ((f z) - (nI 1)) (nI 0))) (by first | omega | assumption | rfl | (simp_all; done)) (lay_upd hf (by unfold die; rw [lay_at hf])) (by omega) _ _ hP hD hS _ (lv_sub hl [0, 1] rfl)
  exact L2 (81 - 0 + 1) 0 co (by first | omega | assumption | rfl | (simp_all; done)) (lay_0) (Nat.lt_succ_self _) _ _ hP hD hS _ (lv_sub hl [0, 1] rfl)

abbrev rm_X0_rememberHeads : Room := { frames := 1, cells := 0, slots := 0, locals := 21 }
set_option maxHeartbeats 4000000 in
set_option maxRecDepth 100000 in
theorem c_X0_rememberHeads (l : Launch) (E : eT) (sz : Nat) (o : Nat) (a : Nat) (b : Nat) (d : Nat) (gr : Nat → Int32) (co : Nat → Int32) (hb_ : Nat → Bool) (mo : Int32) : cM l yX0_rememberHeads wsX0_rememberHeads rm_X0_rememberHeads E sz [.ref o] (wCo E o a b d gr co hb_ mo) (fun u : Unit => none) (fun u : Unit => True) (fun u : Unit => wCo E o a b d gr co (hd co) mo) := by
  refine cM_intro (cc := cX0_rememberHeads) (maxL := 2) (ret := none) (by decide +kernel) rfl (Nat.le_of_ble_eq_true rfl) ?_
  intro p e s m args below meth cd hx hb hr hml hown hlocks hts hnm hK hsz hP A hD hA Q hQ ls hl
  have hown : s.vm.findClass RX0 = some m.cls := hown
  have hin0 : ∀ w ∈ u_ws RX0 TX0 4, w ∈ wsX0_rememberHeads := by decide +kernel
  have lk18 := hts (.fieldLink RX0 18 "ReefPilot$Coast" "headBefore" "[Z") (by decide +kernel)
  have hS : va_S A s.heap s.heap [] := va_S.rf
  have hl : lv_has ls 2 [(0, .ref o)] := hl
  refine lv_iconst (v := nI 0) hx hb dX0_rememberHeads_0 (by decide +kernel) ?_
  refine lv_istore_n (lv' := [(1, .int (nI 0)), (0, .ref o)]) hx hb dX0_rememberHeads_1 rfl hl (by decide) rfl (fun ls hl => ?_)
  have L2 : ∀ (fuel : Nat) (z : Nat) (f : Nat → Bool) (hz : z ≤ 81) (hf : ∀ k : Nat, f k = if k < z then hd co k else hb_ k) (hfuel : 81 - z < fuel) (H : Heap) (locs : List Loc), va_P E.1 vwCl (wCo E o a b d gr co f mo) H → va_D A (wCo E o a b d gr co f mo) → va_S A s.heap H locs → ∀ ls : Array Slot, lv_has ls 2 [(1, .int (nI z)), (0, .ref o)] → W p l e rm_X0_rememberHeads s m args below meth cd H locs 0 0 Q (F0 m 2 ls []) := by
    intro fuel
    induction fuel with
    | zero => intros; omega
    | succ fuel ihL2 =>
      intro z f hz hf hfuel H locs hP hD hS ls hl
      refine lv_iload_n hx hb dX0_rememberHeads_2 rfl (lv_at hl 0 rfl) ?_
      refine lv_bipush (v := nI 81) hx hb dX0_rememberHeads_3 (by decide +kernel) ?_
      refine n_icmp_ge (x := z) (y := 81) (by omega) (by omega) (tgt := 25) hx hb dX0_rememberHeads_5 (by decide) (fun c5 => ?_) (fun c5 => ?_)
      · have hP := e_cong hP 3 (g := fun k => b2i (hd co k)) rfl (layB_end hf (by omega))
        have hD := va_D.set (e := .inl (E.2.2.1, 81, .inl (fun k => b2i (hd co k)))) hD (p := 3) rfl
        have hP : va_P E.1 vwCl (wCo E o a b d gr co (hd co) mo) H := hP
        have hD : va_D A (wCo E o a b d gr co (hd co) mo) := hD
        exact e_vret () hQ hx hb hr hlocks hP hD hS dX0_rememberHeads_25 (rfl) (Nat.le_of_ble_eq_true rfl) (Nat.le_of_ble_eq_true rfl) (trivial)
      · refine lv_aload_n hx hb dX0_rememberHeads_8 rfl (lv_at hl 1 rfl) ?_
        refine va_get (D := E.1) (ci := 0) (v := .ref d) (C := RX0) (T := TX0) (N := 4) hx hb hts hin0 hown hK.1 hP 0 rfl rfl 2 (by decide) lk18 (fun _ h9 => h9) rfl dX0_rememberHeads_9 ?_
        refine lv_iload_n hx hb dX0_rememberHeads_12 rfl (lv_at hl 0 rfl) ?_
        refine lv_aload_n hx hb dX0_rememberHeads_13 rfl (lv_at hl 1 rfl) ?_
        refine lv_iload_n hx hb dX0_rememberHeads_14 rfl (lv_at hl 0 rfl) ?_
        refine e_callV (As := [.int (nI z)]) (rest := [.int (nI z), .ref d]) ⟨hx, hb, hml, hown, hts⟩ hK hP hD hS hA hl.1 (c_X0_isHead l E _ o a b d gr co f mo z (by first | omega | assumption | rfl | (simp_all; done))) (cwV 1 hts gX0_rememberHeads_X0_isHead rfl rfl rfl (by decide +kernel) ⟨Nat.le_of_ble_eq_true rfl, Nat.le_of_ble_eq_true rfl⟩) [0, 1, 2, 3] [] rfl rfl rfl rfl (by decide) (q0 := 0) (ci := 0) rfl rfl rfl rfl (Nat.le_of_ble_eq_true rfl) dX0_rememberHeads_15 ⟨Nat.le_of_ble_eq_true rfl, Nat.le_of_ble_eq_true rfl⟩ (fun u_1 H locs hu_2 hz hP hD hS => ?_)
        have hP : va_P E.1 vwCl (wCo E o a b d gr co f mo) H := hP.sub [0, 1, 2, 3] rfl
        have hD : va_D A (wCo E o a b d gr co f mo) := hD.sub [0, 1, 2, 3] (by decide) rfl
        refine W.eq (g2 := F0 m 18 ls [.int (b2i (hd co z)), .int (nI z), .ref d]) rfl ?_
        refine e_zast (x := hd co z) hK hP hD hS 3 rfl z (by omega) (by decide) hx hb dX0_rememberHeads_18 (fun H locs hP hD hS => ?_)
        have hP : va_P E.1 vwCl (wCo E o a b d gr co (updB f z (hd co z)) mo) H := hP
        have hD : va_D A (wCo E o a b d gr co (updB f z (hd co z)) mo) := hD
        refine lv_iinc (v := nI (z + 1)) (lv' := [(1, .int (nI (z + 1))), (0, .ref o)]) hx hb dX0_rememberHeads_19 hl (k := 0) rfl (nI_add z 1) (by decide) rfl (fun ls hl => ?_)
        refine lv_goto (tgt := 2) hx hb dX0_rememberHeads_22 (by decide) ?_
        exact ihL2 (z + 1) (updB f z (hd co z)) (by first | omega | assumption | rfl | (simp_all; done)) (layB_upd hf rfl) (by omega) _ _ hP hD hS _ (lv_sub hl [0, 1] rfl)
  exact L2 (81 - 0 + 1) 0 hb_ (by first | omega | assumption | rfl | (simp_all; done)) (layB_0) (Nat.lt_succ_self _) _ _ hP hD hS _ (lv_sub hl [0, 1] rfl)

abbrev rm_X0_headsBeside : Room := { frames := 1, cells := 0, slots := 0, locals := 22 }
set_option maxHeartbeats 4000000 in
set_option maxRecDepth 100000 in
theorem c_X0_headsBeside (l : Launch) (E : eT) (sz : Nat) (o : Nat) (a : Nat) (b : Nat) (d : Nat) (gr : Nat → Int32) (co : Nat → Int32) (hb_ : Nat → Bool) (mo : Int32) (j : Nat) (hj : j < 81) : cM l yX0_headsBeside wsX0_headsBeside rm_X0_headsBeside E sz [.ref o, .int (nI j)] (wCo E o a b d gr co hb_ mo) (fun u : Unit => some (.int (nI (hbs hb_ j)))) (fun u : Unit => True) (fun u : Unit => wCo E o a b d gr co hb_ mo) := by
  refine cM_intro (cc := cX0_headsBeside) (maxL := 5) (ret := (some .int)) (by decide +kernel) rfl (Nat.le_of_ble_eq_true rfl) ?_
  intro p e s m args below meth cd hx hb hr hml hown hlocks hts hnm hK hsz hP A hD hA Q hQ ls hl
  have hown : s.vm.findClass RX0 = some m.cls := hown
  have hin0 : ∀ w ∈ u_ws RX0 TX0 4, w ∈ wsX0_headsBeside := by decide +kernel
  have lk18 := hts (.fieldLink RX0 18 "ReefPilot$Coast" "headBefore" "[Z") (by decide +kernel)
  have hainiX4_neighbour := hts (.initialized RX4) (by decide +kernel)
  have hastX4_neighbour := hts (.static yX4_neighbour) (by decide +kernel)
  have hS : va_S A s.heap s.heap [] := va_S.rf
  have hl : lv_has ls 5 [(0, .ref o), (1, .int (nI j))] := hl
  refine lv_iconst (v := nI 0) hx hb dX0_headsBeside_0 (by decide +kernel) ?_
  refine lv_istore_n (lv' := [(2, .int (nI 0)), (0, .ref o), (1, .int (nI j))]) hx hb dX0_headsBeside_1 rfl hl (by decide) rfl (fun ls hl => ?_)
  refine lv_iconst (v := nI 0) hx hb dX0_headsBeside_2 (by decide +kernel) ?_
  refine lv_istore_n (lv' := [(3, .int (nI 0)), (2, .int (nI 0)), (0, .ref o), (1, .int (nI j))]) hx hb dX0_headsBeside_3 rfl hl (by decide) rfl (fun ls hl => ?_)
  have L4 : ∀ (fuel : Nat) (x : Nat) (z : Nat) (hz : z ≤ 4) (hx_ : x = fb_ct (hbq hb_ j) z) (hfuel : 4 - z < fuel) (H : Heap) (locs : List Loc), va_P E.1 vwCl (wCo E o a b d gr co hb_ mo) H → va_D A (wCo E o a b d gr co hb_ mo) → va_S A s.heap H locs → ∀ ls : Array Slot, lv_has ls 5 [(3, .int (nI z)), (2, .int (nI x)), (0, .ref o), (1, .int (nI j))] → W p l e rm_X0_headsBeside s m args below meth cd H locs 0 0 Q (F0 m 4 ls []) := by
    intro fuel
    induction fuel with
    | zero => intros; omega
    | succ fuel ihL4 =>
      intro x z hz hx_ hfuel H locs hP hD hS ls hl
      refine lv_iload_n hx hb dX0_headsBeside_4 rfl (lv_at hl 0 rfl) ?_
      have hxz := fb_ct_le (hbq hb_ j) z
      refine lv_iconst (v := nI 4) hx hb dX0_headsBeside_5 (by decide +kernel) ?_
      refine n_icmp_ge (x := z) (y := 4) (by omega) (by omega) (tgt := 41) hx hb dX0_headsBeside_6 (by decide) (fun c6 => ?_) (fun c6 => ?_)
      · refine lv_iload_n hx hb dX0_headsBeside_41 rfl (lv_at hl 1 rfl) ?_
        exact e_iret () hQ hx hb hr hlocks hP hD hS dX0_headsBeside_42 (rvi (by rw [hx_, show z = 4 by omega]; rfl)) (Nat.le_of_ble_eq_true rfl) (Nat.le_of_ble_eq_true rfl) (trivial)
      · refine lv_iload_n hx hb dX0_headsBeside_9 rfl (lv_at hl 3 rfl) ?_
        refine lv_iload_n hx hb dX0_headsBeside_10 rfl (lv_at hl 0 rfl) ?_
        refine e_callSN (As := [.int (nI j), .int (nI z)]) (rest := []) ⟨hx, hb, hml, hown, hts⟩ hK hP hD hS hA hl.1 (c_X4_neighbour l E _ j z (by first | omega | assumption | rfl | (simp_all; done)) (by first | omega | assumption | rfl | (simp_all; done))) ⟨va_cnB 2 hts gX0_headsBeside_X4_neighbour_n85 rfl rfl rfl hK.2.1 hainiX4_neighbour (by decide +kernel) ⟨Nat.le_of_ble_eq_true rfl, Nat.le_of_ble_eq_true rfl⟩, hastX4_neighbour, trivial⟩ [] [0, 1, 2, 3] rfl rfl rfl rfl (by decide) rfl rfl (Nat.le_of_ble_eq_true rfl) dX0_headsBeside_11 ⟨Nat.le_of_ble_eq_true rfl, Nat.le_of_ble_eq_true rfl⟩ (fun u_1 H locs hu_2 hz hP hD hS => ?_)
        have hP : va_P E.1 vwCl (wCo E o a b d gr co hb_ mo) H := hP.sub [0, 1, 2, 3] rfl
        have hD : va_D A (wCo E o a b d gr co hb_ mo) := hD.sub [0, 1, 2, 3] (by decide) rfl
        refine W.eq (g2 := F0 m 14 ls [.int (oI (nb j z))]) rfl ?_
        refine lv_istore (lv' := [(4, .int (oI (nb j z))), (3, .int (nI z)), (2, .int (nI x)), (0, .ref o), (1, .int (nI j))]) hx hb dX0_headsBeside_14 hl (by decide) rfl (fun ls hl => ?_)
        refine lv_iload hx hb dX0_headsBeside_16 (lv_at hl 0 rfl) ?_
        refine lv_iconst (v := (-1)) hx hb dX0_headsBeside_18 (by decide +kernel) ?_
        refine o_icmp_eq (x := nb j z) (nb_ob hj) (tgt := 35) hx hb dX0_headsBeside_19 (by decide) (fun c19 => ?_) (fun q_3 c19 => ?_)
        · refine lv_iinc (v := nI (z + 1)) (lv' := [(3, .int (nI (z + 1))), (4, .int (oI (nb j z))), (2, .int (nI x)), (0, .ref o), (1, .int (nI j))]) hx hb dX0_headsBeside_35 hl (k := 1) rfl (nI_add z 1) (by decide) rfl (fun ls hl => ?_)
          refine lv_goto (tgt := 4) hx hb dX0_headsBeside_38 (by decide) ?_
          exact ihL4 x (z + 1) (by first | omega | assumption | rfl | (simp_all; done)) (by subst hx_; rw [fb_ct_succ]; first | (rw [hbq_none c19]; rfl) | (rw [hbq_some c19, c29]; rfl)) (by omega) _ _ hP hD hS _ (lv_sub hl [0, 2, 3, 4] rfl)
        · refine lv_aload_n hx hb dX0_headsBeside_22 rfl (lv_at hl 3 rfl) ?_
          refine va_get (D := E.1) (ci := 0) (v := .ref d) (C := RX0) (T := TX0) (N := 4) hx hb hts hin0 hown hK.1 hP 0 rfl rfl 2 (by decide) lk18 (fun _ h9 => h9) rfl dX0_headsBeside_23 ?_
          refine lv_iload hx hb dX0_headsBeside_26 (lv_at hl 0 rfl) ?_
          refine e_top (show oI (nb j z) = nI q_3 by rw [c19]; rfl) ?_
          have hq_ : q_3 < 81 := nb_lt hj c19
          refine e_zald hK hP 3 rfl q_3 (by omega) (by decide) hx hb dX0_headsBeside_28 ?_
          refine b_if_eq (x := hb_ q_3) (tgt := 35) hx hb dX0_headsBeside_29 (by decide) (fun c29 => ?_) (fun c29 => ?_)
          · refine lv_iinc (v := nI (z + 1)) (lv' := [(3, .int (nI (z + 1))), (4, .int (oI (nb j z))), (2, .int (nI x)), (0, .ref o), (1, .int (nI j))]) hx hb dX0_headsBeside_35 hl (k := 1) rfl (nI_add z 1) (by decide) rfl (fun ls hl => ?_)
            refine lv_goto (tgt := 4) hx hb dX0_headsBeside_38 (by decide) ?_
            exact ihL4 x (z + 1) (by first | omega | assumption | rfl | (simp_all; done)) (by subst hx_; rw [fb_ct_succ]; first | (rw [hbq_none c19]; rfl) | (rw [hbq_some c19, c29]; rfl)) (by omega) _ _ hP hD hS _ (lv_sub hl [0, 2, 3, 4] rfl)
          · refine lv_iinc (v := nI (x + 1)) (lv' := [(2, .int (nI (x + 1))), (4, .int (oI (nb j z))), (3, .int (nI z)), (0, .ref o), (1, .int (nI j))]) hx hb dX0_headsBeside_32 hl (k := 2) rfl (nI_add x 1) (by decide) rfl (fun ls hl => ?_)
            refine lv_iinc (v := nI (z + 1)) (lv' := [(3, .int (nI (z + 1))), (2, .int (nI (x + 1))), (4, .int (oI (nb j z))), (0, .ref o), (1, .int (nI j))]) hx hb dX0_headsBeside_35 hl (k := 2) rfl (nI_add z 1) (by decide) rfl (fun ls hl => ?_)
            refine lv_goto (tgt := 4) hx hb dX0_headsBeside_38 (by decide) ?_
            exact ihL4 (x + 1) (z + 1) (by first | omega | assumption | rfl | (simp_all; done)) (by subst hx_; rw [fb_ct_succ]; first | (rw [hbq_none c19]; rfl) | (rw [hbq_some c19, c29]; rfl)) (by omega) _ _ hP hD hS _ (lv_sub hl [0, 1, 3, 4] rfl)
  exact L4 (4 - 0 + 1) 0 0 (by first | omega | assumption | rfl | (simp_all; done)) (rfl) (Nat.lt_succ_self _) _ _ hP hD hS _ (lv_sub hl [0, 1, 2, 3] rfl)

abbrev rm_X0_grow : Room := { frames := 2, cells := 0, slots := 0, locals := 46 }
set_option maxHeartbeats 4000000 in
set_option maxRecDepth 100000 in
theorem c_X0_grow (l : Launch) (E : eT) (sz : Nat) (o : Nat) (a : Nat) (b : Nat) (d : Nat) (gr : Nat → Int32) (co : Nat → Int32) (hb_ : Nat → Bool) (mo : Int32) : cM l yX0_grow wsX0_grow rm_X0_grow E sz [.ref o] (wCo E o a b d gr co hb_ mo) (fun u : Unit => none) (fun u : Unit => True) (fun u : Unit => wCo E o a b d gr (grw gr co (hd co)) (hd co) mo) := by
  refine cM_intro (cc := cX0_grow) (maxL := 4) (ret := none) (by decide +kernel) rfl (Nat.le_of_ble_eq_true rfl) ?_
  intro p e s m args below meth cd hx hb hr hml hown hlocks hts hnm hK hsz hP A hD hA Q hQ ls hl
  have hown : s.vm.findClass RX0 = some m.cls := hown
  have hin0 : ∀ w ∈ u_ws RX0 TX0 4, w ∈ wsX0_grow := by decide +kernel
  have lk9 := hts (.fieldLink RX0 9 "ReefPilot$Coast" "ground" "[I") (by decide +kernel)
  have lk15 := hts (.fieldLink RX0 15 "ReefPilot$Coast" "coral" "[I") (by decide +kernel)
  have hamcmin := hts (.code Lib.Math.min.name Lib.Math.min.code 2 (some .int)) (by decide +kernel)
  have hamini := hts (.initialized "java/lang/Math") (by decide +kernel)
  have haml38 := hts (.methodLink RX0 38 Lib.Math.min.name) (by decide +kernel)
  have hamsmin := hts (.static Lib.Math.min.name) (by decide +kernel)
  have hS : va_S A s.heap s.heap [] := va_S.rf
  have hl : lv_has ls 4 [(0, .ref o)] := hl
  refine lv_aload_n hx hb dX0_grow_0 rfl (lv_at hl 0 rfl) ?_
  refine e_callV (As := []) (rest := []) ⟨hx, hb, hml, hown, hts⟩ hK hP hD hS hA hl.1 (c_X0_rememberHeads l E _ o a b d gr co hb_ mo) (cwV 0 hts gX0_grow_X0_rememberHeads rfl rfl rfl (by decide +kernel) ⟨Nat.le_of_ble_eq_true rfl, Nat.le_of_ble_eq_true rfl⟩) [0, 1, 2, 3] [] rfl rfl rfl rfl (by decide) (q0 := 0) (ci := 0) rfl rfl rfl rfl (Nat.le_of_ble_eq_true rfl) dX0_grow_1 ⟨Nat.le_of_ble_eq_true rfl, Nat.le_of_ble_eq_true rfl⟩ (fun u_1 H locs hu_2 hz hP hD hS => ?_)
  have hP : va_P E.1 vwCl (wCo E o a b d gr co (hd co) mo) H := hP.sub [0, 1, 2, 3] rfl
  have hD : va_D A (wCo E o a b d gr co (hd co) mo) := hD.sub [0, 1, 2, 3] (by decide) rfl
  refine W.eq (g2 := F0 m 4 ls []) rfl ?_
  refine lv_iconst (v := nI 0) hx hb dX0_grow_4 (by decide +kernel) ?_
  refine lv_istore_n (lv' := [(1, .int (nI 0)), (0, .ref o)]) hx hb dX0_grow_5 rfl hl (by decide) rfl (fun ls hl => ?_)
  have L6 : ∀ (fuel : Nat) (z : Nat) (f : Nat → Int32) (hz : z ≤ 81) (hf : ∀ k : Nat, f k = if k < z then grw gr co (hd co) k else co k) (hfuel : 81 - z < fuel) (H : Heap) (locs : List Loc), va_P E.1 vwCl (wCo E o a b d gr f (hd co) mo) H → va_D A (wCo E o a b d gr f (hd co) mo) → va_S A s.heap H locs → ∀ ls : Array Slot, lv_has ls 4 [(1, .int (nI z)), (0, .ref o)] → W p l e rm_X0_grow s m args below meth cd H locs 0 0 Q (F0 m 6 ls []) := by
    intro fuel
    induction fuel with
    | zero => intros; omega
    | succ fuel ihL6 =>
      intro z f hz hf hfuel H locs hP hD hS ls hl
      have hfz := lay_at hf
      have hdz : dep gr f z = dep gr co z := dep_cong rfl hfz
      refine lv_iload_n hx hb dX0_grow_6 rfl (lv_at hl 0 rfl) ?_
      refine lv_bipush (v := nI 81) hx hb dX0_grow_7 (by decide +kernel) ?_
      refine n_icmp_ge (x := z) (y := 81) (by omega) (by omega) (tgt := 84) hx hb dX0_grow_9 (by decide) (fun c9 => ?_) (fun c9 => ?_)
      · have hP := e_cong hP 2 (g := grw gr co (hd co)) rfl (lay_end hf (by omega))
        have hD := va_D.set (e := .inl (E.2.1, 81, .inl (grw gr co (hd co)))) hD (p := 2) rfl
        have hP : va_P E.1 vwCl (wCo E o a b d gr (grw gr co (hd co)) (hd co) mo) H := hP
        have hD : va_D A (wCo E o a b d gr (grw gr co (hd co)) (hd co) mo) := hD
        exact e_vret () hQ hx hb hr hlocks hP hD hS dX0_grow_84 (rfl) (Nat.le_of_ble_eq_true rfl) (Nat.le_of_ble_eq_true rfl) (trivial)
      · refine lv_aload_n hx hb dX0_grow_12 rfl (lv_at hl 1 rfl) ?_
        refine lv_iload_n hx hb dX0_grow_13 rfl (lv_at hl 0 rfl) ?_
        refine e_callV (As := [.int (nI z)]) (rest := []) ⟨hx, hb, hml, hown, hts⟩ hK hP hD hS hA hl.1 (c_X0_depthOf l E _ o a b d gr f (hd co) mo z (by first | omega | assumption | rfl | (simp_all; done))) (cwV 1 hts gX0_grow_X0_depthOf rfl rfl rfl (by decide +kernel) ⟨Nat.le_of_ble_eq_true rfl, Nat.le_of_ble_eq_true rfl⟩) [0, 1, 2, 3] [] rfl rfl rfl rfl (by decide) (q0 := 0) (ci := 0) rfl rfl rfl rfl (Nat.le_of_ble_eq_true rfl) dX0_grow_14 ⟨Nat.le_of_ble_eq_true rfl, Nat.le_of_ble_eq_true rfl⟩ (fun u_3 H locs hu_4 hz hP hD hS => ?_)
        have hP : va_P E.1 vwCl (wCo E o a b d gr f (hd co) mo) H := hP.sub [0, 1, 2, 3] rfl
        have hD : va_D A (wCo E o a b d gr f (hd co) mo) := hD.sub [0, 1, 2, 3] (by decide) rfl
        refine W.eq (g2 := F0 m 17 ls [.int (dep gr f z)]) rfl ?_
        refine lv_istore_n (lv' := [(2, .int (dep gr f z)), (1, .int (nI z)), (0, .ref o)]) hx hb dX0_grow_17 rfl hl (by decide) rfl (fun ls hl => ?_)
        refine lv_aload_n hx hb dX0_grow_18 rfl (lv_at hl 2 rfl) ?_
        refine va_get (D := E.1) (ci := 0) (v := .ref b) (C := RX0) (T := TX0) (N := 4) hx hb hts hin0 hown hK.1 hP 0 rfl rfl 1 (by decide) lk15 (fun _ h9 => h9) rfl dX0_grow_19 ?_
        refine lv_iload_n hx hb dX0_grow_22 rfl (lv_at hl 1 rfl) ?_
        refine e_iald hK hP 2 rfl z (by omega) (by decide) hx hb dX0_grow_23 ?_
        refine lv_if_le (tgt := 78) hx hb dX0_grow_24 (by decide) (fun c24 => ?_) (fun c24 => ?_)
        · refine lv_iinc (v := nI (z + 1)) (lv' := [(1, .int (nI (z + 1))), (2, .int (dep gr f z)), (0, .ref o)]) hx hb dX0_grow_78 hl (k := 1) rfl (nI_add z 1) (by decide) rfl (fun ls hl => ?_)
          refine lv_goto (tgt := 6) hx hb dX0_grow_81 (by decide) ?_
          exact ihL6 (z + 1) f (by first | omega | assumption | rfl | (simp_all; done)) (by first | exact lay_upd hf (by rw [hfz]; exact grw_yes (by rw [← hfz]; exact c24) (by rw [← hdz]; exact c29) (by rw [← hdz]; exact c35) (by first | rw [if_neg (show ¬ 2 ≤ hbs (hd co) z by omega)] | rw [if_pos (show 2 ≤ hbs (hd co) z by omega)])) | exact lay_same hf (grw_no (Or.inl (by rw [← hfz]; exact c24))) | exact lay_same hf (grw_no (Or.inr (Or.inl (by rw [← hdz]; exact c29)))) | exact lay_same hf (grw_no (Or.inr (Or.inr (by rw [← hdz]; exact c35))))) (by omega) _ _ hP hD hS _ (lv_sub hl [0, 2] rfl)
        · refine lv_iload_n hx hb dX0_grow_27 rfl (lv_at hl 0 rfl) ?_
          refine lv_iconst (v := nI 2) hx hb dX0_grow_28 (by decide +kernel) ?_
          refine lv_icmp_lt (tgt := 78) hx hb dX0_grow_29 (by decide) (fun c29 => ?_) (fun c29 => ?_)
          · refine lv_iinc (v := nI (z + 1)) (lv' := [(1, .int (nI (z + 1))), (2, .int (dep gr f z)), (0, .ref o)]) hx hb dX0_grow_78 hl (k := 1) rfl (nI_add z 1) (by decide) rfl (fun ls hl => ?_)
            refine lv_goto (tgt := 6) hx hb dX0_grow_81 (by decide) ?_
            exact ihL6 (z + 1) f (by first | omega | assumption | rfl | (simp_all; done)) (by first | exact lay_upd hf (by rw [hfz]; exact grw_yes (by rw [← hfz]; exact c24) (by rw [← hdz]; exact c29) (by rw [← hdz]; exact c35) (by first | rw [if_neg (show ¬ 2 ≤ hbs (hd co) z by omega)] | rw [if_pos (show 2 ≤ hbs (hd co) z by omega)])) | exact lay_same hf (grw_no (Or.inl (by rw [← hfz]; exact c24))) | exact lay_same hf (grw_no (Or.inr (Or.inl (by rw [← hdz]; exact c29)))) | exact lay_same hf (grw_no (Or.inr (Or.inr (by rw [← hdz]; exact c35))))) (by omega) _ _ hP hD hS _ (lv_sub hl [0, 2] rfl)
          · refine lv_iload_n hx hb dX0_grow_32 rfl (lv_at hl 0 rfl) ?_
            refine lv_bipush (v := nI 15) hx hb dX0_grow_33 (by decide +kernel) ?_
            refine lv_icmp_gt (tgt := 78) hx hb dX0_grow_35 (by decide) (fun c35 => ?_) (fun c35 => ?_)
            · refine lv_iinc (v := nI (z + 1)) (lv' := [(1, .int (nI (z + 1))), (2, .int (dep gr f z)), (0, .ref o)]) hx hb dX0_grow_78 hl (k := 1) rfl (nI_add z 1) (by decide) rfl (fun ls hl => ?_)
              refine lv_goto (tgt := 6) hx hb dX0_grow_81 (by decide) ?_
              exact ihL6 (z + 1) f (by first | omega | assumption | rfl | (simp_all; done)) (by first | exact lay_upd hf (by rw [hfz]; exact grw_yes (by rw [← hfz]; exact c24) (by rw [← hdz]; exact c29) (by rw [← hdz]; exact c35) (by first | rw [if_neg (show ¬ 2 ≤ hbs (hd co) z by omega)] | rw [if_pos (show 2 ≤ hbs (hd co) z by omega)])) | exact lay_same hf (grw_no (Or.inl (by rw [← hfz]; exact c24))) | exact lay_same hf (grw_no (Or.inr (Or.inl (by rw [← hdz]; exact c29)))) | exact lay_same hf (grw_no (Or.inr (Or.inr (by rw [← hdz]; exact c35))))) (by omega) _ _ hP hD hS _ (lv_sub hl [0, 2] rfl)
            · refine lv_aload_n hx hb dX0_grow_38 rfl (lv_at hl 2 rfl) ?_
              refine lv_iload_n hx hb dX0_grow_39 rfl (lv_at hl 1 rfl) ?_
              refine e_callV (As := [.int (nI z)]) (rest := []) ⟨hx, hb, hml, hown, hts⟩ hK hP hD hS hA hl.1 (c_X0_headsBeside l E _ o a b d gr f (hd co) mo z (by first | omega | assumption | rfl | (simp_all; done))) (cwV 1 hts gX0_grow_X0_headsBeside rfl rfl rfl (by decide +kernel) ⟨Nat.le_of_ble_eq_true rfl, Nat.le_of_ble_eq_true rfl⟩) [0, 1, 2, 3] [] rfl rfl rfl rfl (by decide) (q0 := 0) (ci := 0) rfl rfl rfl rfl (Nat.le_of_ble_eq_true rfl) dX0_grow_40 ⟨Nat.le_of_ble_eq_true rfl, Nat.le_of_ble_eq_true rfl⟩ (fun u_5 H locs hu_6 hz hP hD hS => ?_)
              have hP : va_P E.1 vwCl (wCo E o a b d gr f (hd co) mo) H := hP.sub [0, 1, 2, 3] rfl
              have hD : va_D A (wCo E o a b d gr f (hd co) mo) := hD.sub [0, 1, 2, 3] (by decide) rfl
              refine W.eq (g2 := F0 m 43 ls [.int (nI (hbs (hd co) z))]) rfl ?_
              have hhb := hbs_le (hd co) z
              refine lv_iconst (v := nI 2) hx hb dX0_grow_43 (by decide +kernel) ?_
              refine n_icmp_lt (x := hbs (hd co) z) (y := 2) (by omega) (by omega) (tgt := 51) hx hb dX0_grow_44 (by decide) (fun c44 => ?_) (fun c44 => ?_)
              · refine lv_iconst (v := nI 1) hx hb dX0_grow_51 (by decide +kernel) ?_
                refine lv_istore_n (lv' := [(3, .int (nI 1)), (2, .int (dep gr f z)), (1, .int (nI z)), (0, .ref o)]) hx hb dX0_grow_52 rfl hl (by decide) rfl (fun ls hl => ?_)
                refine lv_aload_n hx hb dX0_grow_53 rfl (lv_at hl 3 rfl) ?_
                refine va_get (D := E.1) (ci := 0) (v := .ref b) (C := RX0) (T := TX0) (N := 4) hx hb hts hin0 hown hK.1 hP 0 rfl rfl 1 (by decide) lk15 (fun _ h9 => h9) rfl dX0_grow_54 ?_
                refine lv_iload_n hx hb dX0_grow_57 rfl (lv_at hl 2 rfl) ?_
                refine lv_aload_n hx hb dX0_grow_58 rfl (lv_at hl 3 rfl) ?_
                refine va_get (D := E.1) (ci := 0) (v := .ref b) (C := RX0) (T := TX0) (N := 4) hx hb hts hin0 hown hK.1 hP 0 rfl rfl 1 (by decide) lk15 (fun _ h9 => h9) rfl dX0_grow_59 ?_
                refine lv_iload_n hx hb dX0_grow_62 rfl (lv_at hl 2 rfl) ?_
                refine e_iald hK hP 2 rfl z (by omega) (by decide) hx hb dX0_grow_63 ?_
                refine lv_iload_n hx hb dX0_grow_64 rfl (lv_at hl 0 rfl) ?_
                refine lv_iadd hx hb dX0_grow_65 ?_
                refine lv_aload_n hx hb dX0_grow_66 rfl (lv_at hl 3 rfl) ?_
                refine va_get (D := E.1) (ci := 0) (v := .ref a) (C := RX0) (T := TX0) (N := 4) hx hb hts hin0 hown hK.1 hP 0 rfl rfl 0 (by decide) lk9 (fun _ h9 => h9) rfl dX0_grow_67 ?_
                refine lv_iload_n hx hb dX0_grow_70 rfl (lv_at hl 2 rfl) ?_
                refine e_iald hK hP 1 rfl z (by omega) (by decide) hx hb dX0_grow_71 ?_
                refine lv_iconst (v := nI 1) hx hb dX0_grow_72 (by decide +kernel) ?_
                refine lv_isub hx hb dX0_grow_73 ?_
                refine va_mmin hx hb (by rw [hml]; exact hl.1.symm) hown haml38 hamsmin hamini hamcmin (Nat.le_of_ble_eq_true rfl) (Nat.le_of_ble_eq_true rfl) (Nat.le_of_ble_eq_true rfl) (Nat.le_of_ble_eq_true rfl) dX0_grow_74 ?_
                refine e_top (y := iMin ((f z) + (nI 1)) ((gr z) - (nI 1))) rfl ?_
                refine e_iast hK hP hD hS 2 rfl z (by omega) (by decide) hx hb dX0_grow_77 (fun H locs hP hD hS => ?_)
                have hP : va_P E.1 vwCl (wCo E o a b d gr (upd f z (iMin ((f z) + (nI 1)) ((gr z) - (nI 1)))) (hd co) mo) H := hP
                have hD : va_D A (wCo E o a b d gr (upd f z (iMin ((f z) + (nI 1)) ((gr z) - (nI 1)))) (hd co) mo) := hD
                refine lv_iinc (v := nI (z + 1)) (lv' := [(1, .int (nI (z + 1))), (3, .int (nI 1)), (2, .int (dep gr f z)), (0, .ref o)]) hx hb dX0_grow_78 hl (k := 2) rfl (nI_add z 1) (by decide) rfl (fun ls hl => ?_)
                refine lv_goto (tgt := 6) hx hb dX0_grow_81 (by decide) ?_
                exact ihL6 (z + 1) (upd f z (iMin ((f z) + (nI 1)) ((gr z) - (nI 1)))) (by first | omega | assumption | rfl | (simp_all; done)) (by first | exact lay_upd hf (by rw [hfz]; exact grw_yes (by rw [← hfz]; exact c24) (by rw [← hdz]; exact c29) (by rw [← hdz]; exact c35) (by first | rw [if_neg (show ¬ 2 ≤ hbs (hd co) z by omega)] | rw [if_pos (show 2 ≤ hbs (hd co) z by omega)])) | exact lay_same hf (grw_no (Or.inl (by rw [← hfz]; exact c24))) | exact lay_same hf (grw_no (Or.inr (Or.inl (by rw [← hdz]; exact c29)))) | exact lay_same hf (grw_no (Or.inr (Or.inr (by rw [← hdz]; exact c35))))) (by omega) _ _ hP hD hS _ (lv_sub hl [0, 3] rfl)
              · refine lv_iconst (v := nI 2) hx hb dX0_grow_47 (by decide +kernel) ?_
                refine lv_goto (tgt := 52) hx hb dX0_grow_48 (by decide) ?_
                refine lv_istore_n (lv' := [(3, .int (nI 2)), (2, .int (dep gr f z)), (1, .int (nI z)), (0, .ref o)]) hx hb dX0_grow_52 rfl hl (by decide) rfl (fun ls hl => ?_)
                refine lv_aload_n hx hb dX0_grow_53 rfl (lv_at hl 3 rfl) ?_
                refine va_get (D := E.1) (ci := 0) (v := .ref b) (C := RX0) (T := TX0) (N := 4) hx hb hts hin0 hown hK.1 hP 0 rfl rfl 1 (by decide) lk15 (fun _ h9 => h9) rfl dX0_grow_54 ?_
                refine lv_iload_n hx hb dX0_grow_57 rfl (lv_at hl 2 rfl) ?_
                refine lv_aload_n hx hb dX0_grow_58 rfl (lv_at hl 3 rfl) ?_
                refine va_get (D := E.1) (ci := 0) (v := .ref b) (C := RX0) (T := TX0) (N := 4) hx hb hts hin0 hown hK.1 hP 0 rfl rfl 1 (by decide) lk15 (fun _ h9 => h9) rfl dX0_grow_59 ?_
                refine lv_iload_n hx hb dX0_grow_62 rfl (lv_at hl 2 rfl) ?_
                refine e_iald hK hP 2 rfl z (by omega) (by decide) hx hb dX0_grow_63 ?_
                refine lv_iload_n hx hb dX0_grow_64 rfl (lv_at hl 0 rfl) ?_
                refine lv_iadd hx hb dX0_grow_65 ?_
                refine lv_aload_n hx hb dX0_grow_66 rfl (lv_at hl 3 rfl) ?_
                refine va_get (D := E.1) (ci := 0) (v := .ref a) (C := RX0) (T := TX0) (N := 4) hx hb hts hin0 hown hK.1 hP 0 rfl rfl 0 (by decide) lk9 (fun _ h9 => h9) rfl dX0_grow_67 ?_
                refine lv_iload_n hx hb dX0_grow_70 rfl (lv_at hl 2 rfl) ?_
                refine e_iald hK hP 1 rfl z (by omega) (by decide) hx hb dX0_grow_71 ?_
                refine lv_iconst (v := nI 1) hx hb dX0_grow_72 (by decide +kernel) ?_
                refine lv_isub hx hb dX0_grow_73 ?_
                refine va_mmin hx hb (by rw [hml]; exact hl.1.symm) hown haml38 hamsmin hamini hamcmin (Nat.le_of_ble_eq_true rfl) (Nat.le_of_ble_eq_true rfl) (Nat.le_of_ble_eq_true rfl) (Nat.le_of_ble_eq_true rfl) dX0_grow_74 ?_
                refine e_top (y := iMin ((f z) + (nI 2)) ((gr z) - (nI 1))) rfl ?_
                refine e_iast hK hP hD hS 2 rfl z (by omega) (by decide) hx hb dX0_grow_77 (fun H locs hP hD hS => ?_)
                have hP : va_P E.1 vwCl (wCo E o a b d gr (upd f z (iMin ((f z) + (nI 2)) ((gr z) - (nI 1)))) (hd co) mo) H := hP
                have hD : va_D A (wCo E o a b d gr (upd f z (iMin ((f z) + (nI 2)) ((gr z) - (nI 1)))) (hd co) mo) := hD
                refine lv_iinc (v := nI (z + 1)) (lv' := [(1, .int (nI (z + 1))), (3, .int (nI 2)), (2, .int (dep gr f z)), (0, .ref o)]) hx hb dX0_grow_78 hl (k := 2) rfl (nI_add z 1) (by decide) rfl (fun ls hl => ?_)
                refine lv_goto (tgt := 6) hx hb dX0_grow_81 (by decide) ?_
                exact ihL6 (z + 1) (upd f z (iMin ((f z) + (nI 2)) ((gr z) - (nI 1)))) (by first | omega | assumption | rfl | (simp_all; done)) (by first | exact lay_upd hf (by rw [hfz]; exact grw_yes (by rw [← hfz]; exact c24) (by rw [← hdz]; exact c29) (by rw [← hdz]; exact c35) (by first | rw [if_neg (show ¬ 2 ≤ hbs (hd co) z by omega)] | rw [if_pos (show 2 ≤ hbs (hd co) z by omega)])) | exact lay_same hf (grw_no (Or.inl (by rw [← hfz]; exact c24))) | exact lay_same hf (grw_no (Or.inr (Or.inl (by rw [← hdz]; exact c29)))) | exact lay_same hf (grw_no (Or.inr (Or.inr (by rw [← hdz]; exact c35))))) (by omega) _ _ hP hD hS _ (lv_sub hl [0, 3] rfl)
  exact L6 (81 - 0 + 1) 0 co (by first | omega | assumption | rfl | (simp_all; done)) (lay_0) (Nat.lt_succ_self _) _ _ hP hD hS _ (lv_sub hl [0, 1] rfl)

abbrev rm_X0_seed : Room := { frames := 2, cells := 0, slots := 0, locals := 46 }
set_option maxHeartbeats 4000000 in
set_option maxRecDepth 100000 in
theorem c_X0_seed (l : Launch) (E : eT) (sz : Nat) (o : Nat) (a : Nat) (b : Nat) (d : Nat) (gr : Nat → Int32) (co : Nat → Int32) (hb_ : Nat → Bool) (mo : Int32) : cM l yX0_seed wsX0_seed rm_X0_seed E sz [.ref o] (wCo E o a b d gr co hb_ mo) (fun u : Unit => none) (fun u : Unit => True) (fun u : Unit => wCo E o a b d gr (seeded gr co) (hd co) mo) := by
  refine cM_intro (cc := cX0_seed) (maxL := 3) (ret := none) (by decide +kernel) rfl (Nat.le_of_ble_eq_true rfl) ?_
  intro p e s m args below meth cd hx hb hr hml hown hlocks hts hnm hK hsz hP A hD hA Q hQ ls hl
  have hown : s.vm.findClass RX0 = some m.cls := hown
  have hin0 : ∀ w ∈ u_ws RX0 TX0 4, w ∈ wsX0_seed := by decide +kernel
  have lk9 := hts (.fieldLink RX0 9 "ReefPilot$Coast" "ground" "[I") (by decide +kernel)
  have lk15 := hts (.fieldLink RX0 15 "ReefPilot$Coast" "coral" "[I") (by decide +kernel)
  have hS : va_S A s.heap s.heap [] := va_S.rf
  have hl : lv_has ls 3 [(0, .ref o)] := hl
  refine lv_aload_n hx hb dX0_seed_0 rfl (lv_at hl 0 rfl) ?_
  refine e_callV (As := []) (rest := []) ⟨hx, hb, hml, hown, hts⟩ hK hP hD hS hA hl.1 (c_X0_rememberHeads l E _ o a b d gr co hb_ mo) (cwV 0 hts gX0_seed_X0_rememberHeads rfl rfl rfl (by decide +kernel) ⟨Nat.le_of_ble_eq_true rfl, Nat.le_of_ble_eq_true rfl⟩) [0, 1, 2, 3] [] rfl rfl rfl rfl (by decide) (q0 := 0) (ci := 0) rfl rfl rfl rfl (Nat.le_of_ble_eq_true rfl) dX0_seed_1 ⟨Nat.le_of_ble_eq_true rfl, Nat.le_of_ble_eq_true rfl⟩ (fun u_1 H locs hu_2 hz hP hD hS => ?_)
  have hP : va_P E.1 vwCl (wCo E o a b d gr co (hd co) mo) H := hP.sub [0, 1, 2, 3] rfl
  have hD : va_D A (wCo E o a b d gr co (hd co) mo) := hD.sub [0, 1, 2, 3] (by decide) rfl
  refine W.eq (g2 := F0 m 4 ls []) rfl ?_
  refine lv_iconst (v := nI 0) hx hb dX0_seed_4 (by decide +kernel) ?_
  refine lv_istore_n (lv' := [(1, .int (nI 0)), (0, .ref o)]) hx hb dX0_seed_5 rfl hl (by decide) rfl (fun ls hl => ?_)
  have L6 : ∀ (fuel : Nat) (z : Nat) (f : Nat → Int32) (hz : z ≤ 81) (hf : ∀ k : Nat, f k = if k < z then sdd gr co (hd co) k else co k) (hfuel : 81 - z < fuel) (H : Heap) (locs : List Loc), va_P E.1 vwCl (wCo E o a b d gr f (hd co) mo) H → va_D A (wCo E o a b d gr f (hd co) mo) → va_S A s.heap H locs → ∀ ls : Array Slot, lv_has ls 3 [(1, .int (nI z)), (0, .ref o)] → W p l e rm_X0_seed s m args below meth cd H locs 0 0 Q (F0 m 6 ls []) := by
    intro fuel
    induction fuel with
    | zero => intros; omega
    | succ fuel ihL6 =>
      intro z f hz hf hfuel H locs hP hD hS ls hl
      have hfz := lay_at hf
      have hhb := hbs_le (hd co) z
      refine lv_iload_n hx hb dX0_seed_6 rfl (lv_at hl 0 rfl) ?_
      refine lv_bipush (v := nI 81) hx hb dX0_seed_7 (by decide +kernel) ?_
      refine n_icmp_ge (x := z) (y := 81) (by omega) (by omega) (tgt := 73) hx hb dX0_seed_9 (by decide) (fun c9 => ?_) (fun c9 => ?_)
      · have hP := e_cong hP 2 (g := seeded gr co) rfl (lay_end hf (by omega))
        have hD := va_D.set (e := .inl (E.2.1, 81, .inl (seeded gr co))) hD (p := 2) rfl
        have hP : va_P E.1 vwCl (wCo E o a b d gr (seeded gr co) (hd co) mo) H := hP
        have hD : va_D A (wCo E o a b d gr (seeded gr co) (hd co) mo) := hD
        exact e_vret () hQ hx hb hr hlocks hP hD hS dX0_seed_73 (rfl) (Nat.le_of_ble_eq_true rfl) (Nat.le_of_ble_eq_true rfl) (trivial)
      · refine lv_aload_n hx hb dX0_seed_12 rfl (lv_at hl 1 rfl) ?_
        refine va_get (D := E.1) (ci := 0) (v := .ref b) (C := RX0) (T := TX0) (N := 4) hx hb hts hin0 hown hK.1 hP 0 rfl rfl 1 (by decide) lk15 (fun _ h9 => h9) rfl dX0_seed_13 ?_
        refine lv_iload_n hx hb dX0_seed_16 rfl (lv_at hl 0 rfl) ?_
        refine e_iald hK hP 2 rfl z (by omega) (by decide) hx hb dX0_seed_17 ?_
        refine lv_if_ne (tgt := 46) hx hb dX0_seed_18 (by decide) (fun c18 => ?_) (fun c18 => ?_)
        · refine lv_iconst (v := nI 0) hx hb dX0_seed_46 (by decide +kernel) ?_
          refine lv_istore_n (lv' := [(2, .int (nI 0)), (1, .int (nI z)), (0, .ref o)]) hx hb dX0_seed_47 rfl hl (by decide) rfl (fun ls hl => ?_)
          refine lv_iload_n hx hb dX0_seed_48 rfl (lv_at hl 0 rfl) ?_
          refine n_if_eq (x := 0) (by omega) (tgt := 67) hx hb dX0_seed_49 (by decide) (fun c49 => ?_) (fun c49 => by omega)
          refine lv_iinc (v := nI (z + 1)) (lv' := [(1, .int (nI (z + 1))), (2, .int (nI 0)), (0, .ref o)]) hx hb dX0_seed_67 hl (k := 1) rfl (nI_add z 1) (by decide) rfl (fun ls hl => ?_)
          refine lv_goto (tgt := 6) hx hb dX0_seed_70 (by decide) ?_
          exact ihL6 (z + 1) f (by first | omega | assumption | rfl | (simp_all; done)) (by first | exact lay_upd hf (sdd_yes (by rw [← hfz]; exact c18) c28 c39 c57) | exact lay_same hf (sdd_no (Or.inl (by rw [← hfz]; exact c18))) | exact lay_same hf (sdd_no (Or.inr (Or.inl c28))) | exact lay_same hf (sdd_no (Or.inr (Or.inr (Or.inl c39)))) | exact lay_same hf (sdd_no (Or.inr (Or.inr (Or.inr c57))))) (by omega) _ _ hP hD hS _ (lv_sub hl [0, 2] rfl)
        · refine lv_aload_n hx hb dX0_seed_21 rfl (lv_at hl 1 rfl) ?_
          refine va_get (D := E.1) (ci := 0) (v := .ref a) (C := RX0) (T := TX0) (N := 4) hx hb hts hin0 hown hK.1 hP 0 rfl rfl 0 (by decide) lk9 (fun _ h9 => h9) rfl dX0_seed_22 ?_
          refine lv_iload_n hx hb dX0_seed_25 rfl (lv_at hl 0 rfl) ?_
          refine e_iald hK hP 1 rfl z (by omega) (by decide) hx hb dX0_seed_26 ?_
          refine lv_iconst (v := nI 3) hx hb dX0_seed_27 (by decide +kernel) ?_
          refine lv_icmp_lt (tgt := 46) hx hb dX0_seed_28 (by decide) (fun c28 => ?_) (fun c28 => ?_)
          · refine lv_iconst (v := nI 0) hx hb dX0_seed_46 (by decide +kernel) ?_
            refine lv_istore_n (lv' := [(2, .int (nI 0)), (1, .int (nI z)), (0, .ref o)]) hx hb dX0_seed_47 rfl hl (by decide) rfl (fun ls hl => ?_)
            refine lv_iload_n hx hb dX0_seed_48 rfl (lv_at hl 0 rfl) ?_
            refine n_if_eq (x := 0) (by omega) (tgt := 67) hx hb dX0_seed_49 (by decide) (fun c49 => ?_) (fun c49 => by omega)
            refine lv_iinc (v := nI (z + 1)) (lv' := [(1, .int (nI (z + 1))), (2, .int (nI 0)), (0, .ref o)]) hx hb dX0_seed_67 hl (k := 1) rfl (nI_add z 1) (by decide) rfl (fun ls hl => ?_)
            refine lv_goto (tgt := 6) hx hb dX0_seed_70 (by decide) ?_
            exact ihL6 (z + 1) f (by first | omega | assumption | rfl | (simp_all; done)) (by first | exact lay_upd hf (sdd_yes (by rw [← hfz]; exact c18) c28 c39 c57) | exact lay_same hf (sdd_no (Or.inl (by rw [← hfz]; exact c18))) | exact lay_same hf (sdd_no (Or.inr (Or.inl c28))) | exact lay_same hf (sdd_no (Or.inr (Or.inr (Or.inl c39)))) | exact lay_same hf (sdd_no (Or.inr (Or.inr (Or.inr c57))))) (by omega) _ _ hP hD hS _ (lv_sub hl [0, 2] rfl)
          · refine lv_aload_n hx hb dX0_seed_31 rfl (lv_at hl 1 rfl) ?_
            refine va_get (D := E.1) (ci := 0) (v := .ref a) (C := RX0) (T := TX0) (N := 4) hx hb hts hin0 hown hK.1 hP 0 rfl rfl 0 (by decide) lk9 (fun _ h9 => h9) rfl dX0_seed_32 ?_
            refine lv_iload_n hx hb dX0_seed_35 rfl (lv_at hl 0 rfl) ?_
            refine e_iald hK hP 1 rfl z (by omega) (by decide) hx hb dX0_seed_36 ?_
            refine lv_bipush (v := nI 15) hx hb dX0_seed_37 (by decide +kernel) ?_
            refine lv_icmp_gt (tgt := 46) hx hb dX0_seed_39 (by decide) (fun c39 => ?_) (fun c39 => ?_)
            · refine lv_iconst (v := nI 0) hx hb dX0_seed_46 (by decide +kernel) ?_
              refine lv_istore_n (lv' := [(2, .int (nI 0)), (1, .int (nI z)), (0, .ref o)]) hx hb dX0_seed_47 rfl hl (by decide) rfl (fun ls hl => ?_)
              refine lv_iload_n hx hb dX0_seed_48 rfl (lv_at hl 0 rfl) ?_
              refine n_if_eq (x := 0) (by omega) (tgt := 67) hx hb dX0_seed_49 (by decide) (fun c49 => ?_) (fun c49 => by omega)
              refine lv_iinc (v := nI (z + 1)) (lv' := [(1, .int (nI (z + 1))), (2, .int (nI 0)), (0, .ref o)]) hx hb dX0_seed_67 hl (k := 1) rfl (nI_add z 1) (by decide) rfl (fun ls hl => ?_)
              refine lv_goto (tgt := 6) hx hb dX0_seed_70 (by decide) ?_
              exact ihL6 (z + 1) f (by first | omega | assumption | rfl | (simp_all; done)) (by first | exact lay_upd hf (sdd_yes (by rw [← hfz]; exact c18) c28 c39 c57) | exact lay_same hf (sdd_no (Or.inl (by rw [← hfz]; exact c18))) | exact lay_same hf (sdd_no (Or.inr (Or.inl c28))) | exact lay_same hf (sdd_no (Or.inr (Or.inr (Or.inl c39)))) | exact lay_same hf (sdd_no (Or.inr (Or.inr (Or.inr c57))))) (by omega) _ _ hP hD hS _ (lv_sub hl [0, 2] rfl)
            · refine lv_iconst (v := nI 1) hx hb dX0_seed_42 (by decide +kernel) ?_
              refine lv_goto (tgt := 47) hx hb dX0_seed_43 (by decide) ?_
              refine lv_istore_n (lv' := [(2, .int (nI 1)), (1, .int (nI z)), (0, .ref o)]) hx hb dX0_seed_47 rfl hl (by decide) rfl (fun ls hl => ?_)
              refine lv_iload_n hx hb dX0_seed_48 rfl (lv_at hl 0 rfl) ?_
              refine n_if_eq (x := 1) (by omega) (tgt := 67) hx hb dX0_seed_49 (by decide) (fun c49 => by omega) (fun c49 => ?_)
              refine lv_aload_n hx hb dX0_seed_52 rfl (lv_at hl 2 rfl) ?_
              refine lv_iload_n hx hb dX0_seed_53 rfl (lv_at hl 1 rfl) ?_
              refine e_callV (As := [.int (nI z)]) (rest := []) ⟨hx, hb, hml, hown, hts⟩ hK hP hD hS hA hl.1 (c_X0_headsBeside l E _ o a b d gr f (hd co) mo z (by first | omega | assumption | rfl | (simp_all; done))) (cwV 1 hts gX0_seed_X0_headsBeside rfl rfl rfl (by decide +kernel) ⟨Nat.le_of_ble_eq_true rfl, Nat.le_of_ble_eq_true rfl⟩) [0, 1, 2, 3] [] rfl rfl rfl rfl (by decide) (q0 := 0) (ci := 0) rfl rfl rfl rfl (Nat.le_of_ble_eq_true rfl) dX0_seed_54 ⟨Nat.le_of_ble_eq_true rfl, Nat.le_of_ble_eq_true rfl⟩ (fun u_3 H locs hu_4 hz hP hD hS => ?_)
              have hP : va_P E.1 vwCl (wCo E o a b d gr f (hd co) mo) H := hP.sub [0, 1, 2, 3] rfl
              have hD : va_D A (wCo E o a b d gr f (hd co) mo) := hD.sub [0, 1, 2, 3] (by decide) rfl
              refine W.eq (g2 := F0 m 57 ls [.int (nI (hbs (hd co) z))]) rfl ?_
              refine n_if_le (x := hbs (hd co) z) (by omega) (tgt := 67) hx hb dX0_seed_57 (by decide) (fun c57 => ?_) (fun c57 => ?_)
              · refine lv_iinc (v := nI (z + 1)) (lv' := [(1, .int (nI (z + 1))), (2, .int (nI 1)), (0, .ref o)]) hx hb dX0_seed_67 hl (k := 1) rfl (nI_add z 1) (by decide) rfl (fun ls hl => ?_)
                refine lv_goto (tgt := 6) hx hb dX0_seed_70 (by decide) ?_
                exact ihL6 (z + 1) f (by first | omega | assumption | rfl | (simp_all; done)) (by first | exact lay_upd hf (sdd_yes (by rw [← hfz]; exact c18) c28 c39 c57) | exact lay_same hf (sdd_no (Or.inl (by rw [← hfz]; exact c18))) | exact lay_same hf (sdd_no (Or.inr (Or.inl c28))) | exact lay_same hf (sdd_no (Or.inr (Or.inr (Or.inl c39)))) | exact lay_same hf (sdd_no (Or.inr (Or.inr (Or.inr c57))))) (by omega) _ _ hP hD hS _ (lv_sub hl [0, 2] rfl)
              · refine lv_aload_n hx hb dX0_seed_60 rfl (lv_at hl 2 rfl) ?_
                refine va_get (D := E.1) (ci := 0) (v := .ref b) (C := RX0) (T := TX0) (N := 4) hx hb hts hin0 hown hK.1 hP 0 rfl rfl 1 (by decide) lk15 (fun _ h9 => h9) rfl dX0_seed_61 ?_
                refine lv_iload_n hx hb dX0_seed_64 rfl (lv_at hl 1 rfl) ?_
                refine lv_iconst (v := nI 1) hx hb dX0_seed_65 (by decide +kernel) ?_
                refine e_iast hK hP hD hS 2 rfl z (by omega) (by decide) hx hb dX0_seed_66 (fun H locs hP hD hS => ?_)
                have hP : va_P E.1 vwCl (wCo E o a b d gr (upd f z (nI 1)) (hd co) mo) H := hP
                have hD : va_D A (wCo E o a b d gr (upd f z (nI 1)) (hd co) mo) := hD
                refine lv_iinc (v := nI (z + 1)) (lv' := [(1, .int (nI (z + 1))), (2, .int (nI 1)), (0, .ref o)]) hx hb dX0_seed_67 hl (k := 1) rfl (nI_add z 1) (by decide) rfl (fun ls hl => ?_)
                refine lv_goto (tgt := 6) hx hb dX0_seed_70 (by decide) ?_
                exact ihL6 (z + 1) (upd f z (nI 1)) (by first | omega | assumption | rfl | (simp_all; done)) (by first | exact lay_upd hf (sdd_yes (by rw [← hfz]; exact c18) c28 c39 c57) | exact lay_same hf (sdd_no (Or.inl (by rw [← hfz]; exact c18))) | exact lay_same hf (sdd_no (Or.inr (Or.inl c28))) | exact lay_same hf (sdd_no (Or.inr (Or.inr (Or.inl c39)))) | exact lay_same hf (sdd_no (Or.inr (Or.inr (Or.inr c57))))) (by omega) _ _ hP hD hS _ (lv_sub hl [0, 2] rfl)
  exact L6 (81 - 0 + 1) 0 co (by first | omega | assumption | rfl | (simp_all; done)) (lay_0) (Nat.lt_succ_self _) _ _ hP hD hS _ (lv_sub hl [0, 1] rfl)

abbrev rm_X0_dropRubble : Room := { frames := 1, cells := 0, slots := 0, locals := 15 }
set_option maxHeartbeats 4000000 in
set_option maxRecDepth 100000 in
theorem c_X0_dropRubble (l : Launch) (E : eT) (sz : Nat) (o : Nat) (a : Nat) (b : Nat) (d : Nat) (gr : Nat → Int32) (co : Nat → Int32) (hb_ : Nat → Bool) (mo : Int32) (j : Nat) (v : Int32) (hj : j < 1000) : cM l yX0_dropRubble wsX0_dropRubble rm_X0_dropRubble E sz [.ref o, .int (nI j), .int v] (wCo E o a b d gr co hb_ mo) (fun u : Unit => none) (fun u : Unit => True) (fun u : Unit => wCo E o a b d (if j < 81 then upd gr j (iMax (gr j - v) (co j)) else gr) co hb_ mo) := by
  refine cM_intro (cc := cX0_dropRubble) (maxL := 3) (ret := none) (by decide +kernel) rfl (Nat.le_of_ble_eq_true rfl) ?_
  intro p e s m args below meth cd hx hb hr hml hown hlocks hts hnm hK hsz hP A hD hA Q hQ ls hl
  have hown : s.vm.findClass RX0 = some m.cls := hown
  have hin0 : ∀ w ∈ u_ws RX0 TX0 4, w ∈ wsX0_dropRubble := by decide +kernel
  have lk9 := hts (.fieldLink RX0 9 "ReefPilot$Coast" "ground" "[I") (by decide +kernel)
  have lk15 := hts (.fieldLink RX0 15 "ReefPilot$Coast" "coral" "[I") (by decide +kernel)
  have hamcmax := hts (.code Lib.Math.max.name Lib.Math.max.code 2 (some .int)) (by decide +kernel)
  have hamini := hts (.initialized "java/lang/Math") (by decide +kernel)
  have haml44 := hts (.methodLink RX0 44 Lib.Math.max.name) (by decide +kernel)
  have hamsmax := hts (.static Lib.Math.max.name) (by decide +kernel)
  have hS : va_S A s.heap s.heap [] := va_S.rf
  have hl : lv_has ls 3 [(0, .ref o), (1, .int (nI j)), (2, .int v)] := hl
  refine lv_iload_n hx hb dX0_dropRubble_0 rfl (lv_at hl 1 rfl) ?_
  refine lv_bipush (v := nI 81) hx hb dX0_dropRubble_1 (by decide +kernel) ?_
  refine n_icmp_ge (x := j) (y := 81) (by omega) (by omega) (tgt := 29) hx hb dX0_dropRubble_3 (by decide) (fun c3 => ?_) (fun c3 => ?_)
  · have hP := e_cong hP 1 (g := (if j < 81 then upd gr j (iMax (gr j - v) (co j)) else gr)) rfl (fun k _ => by first | rw [if_pos (show j < 81 by omega)] | rw [if_neg (show ¬ j < 81 by omega)])
    have hD := va_D.set (e := .inl (E.2.1, 81, .inl ((if j < 81 then upd gr j (iMax (gr j - v) (co j)) else gr)))) hD (p := 1) rfl
    have hP : va_P E.1 vwCl (wCo E o a b d (if j < 81 then upd gr j (iMax (gr j - v) (co j)) else gr) co hb_ mo) s.heap := hP
    have hD : va_D A (wCo E o a b d (if j < 81 then upd gr j (iMax (gr j - v) (co j)) else gr) co hb_ mo) := hD
    exact e_vret () hQ hx hb hr hlocks hP hD hS dX0_dropRubble_29 (rfl) (Nat.le_of_ble_eq_true rfl) (Nat.le_of_ble_eq_true rfl) (trivial)
  · refine lv_aload_n hx hb dX0_dropRubble_6 rfl (lv_at hl 0 rfl) ?_
    refine va_get (D := E.1) (ci := 0) (v := .ref a) (C := RX0) (T := TX0) (N := 4) hx hb hts hin0 hown hK.1 hP 0 rfl rfl 0 (by decide) lk9 (fun _ h9 => h9) rfl dX0_dropRubble_7 ?_
    refine lv_iload_n hx hb dX0_dropRubble_10 rfl (lv_at hl 1 rfl) ?_
    refine lv_aload_n hx hb dX0_dropRubble_11 rfl (lv_at hl 0 rfl) ?_
    refine va_get (D := E.1) (ci := 0) (v := .ref a) (C := RX0) (T := TX0) (N := 4) hx hb hts hin0 hown hK.1 hP 0 rfl rfl 0 (by decide) lk9 (fun _ h9 => h9) rfl dX0_dropRubble_12 ?_
    refine lv_iload_n hx hb dX0_dropRubble_15 rfl (lv_at hl 1 rfl) ?_
    refine e_iald hK hP 1 rfl j (by omega) (by decide) hx hb dX0_dropRubble_16 ?_
    refine lv_iload_n hx hb dX0_dropRubble_17 rfl (lv_at hl 2 rfl) ?_
    refine lv_isub hx hb dX0_dropRubble_18 ?_
    refine lv_aload_n hx hb dX0_dropRubble_19 rfl (lv_at hl 0 rfl) ?_
    refine va_get (D := E.1) (ci := 0) (v := .ref b) (C := RX0) (T := TX0) (N := 4) hx hb hts hin0 hown hK.1 hP 0 rfl rfl 1 (by decide) lk15 (fun _ h9 => h9) rfl dX0_dropRubble_20 ?_
    refine lv_iload_n hx hb dX0_dropRubble_23 rfl (lv_at hl 1 rfl) ?_
    refine e_iald hK hP 2 rfl j (by omega) (by decide) hx hb dX0_dropRubble_24 ?_
    refine va_mmax hx hb (by rw [hml]; exact hl.1.symm) hown haml44 hamsmax hamini hamcmax (Nat.le_of_ble_eq_true rfl) (Nat.le_of_ble_eq_true rfl) (Nat.le_of_ble_eq_true rfl) (Nat.le_of_ble_eq_true rfl) dX0_dropRubble_25 ?_
    refine e_top (y := iMax ((gr j) - v) (co j)) rfl ?_
    refine e_iast hK hP hD hS 1 rfl j (by omega) (by decide) hx hb dX0_dropRubble_28 (fun H locs hP hD hS => ?_)
    have hP : va_P E.1 vwCl (wCo E o a b d (upd gr j (iMax ((gr j) - v) (co j))) co hb_ mo) H := hP
    have hD : va_D A (wCo E o a b d (upd gr j (iMax ((gr j) - v) (co j))) co hb_ mo) := hD
    have hP := e_cong hP 1 (g := (if j < 81 then upd gr j (iMax (gr j - v) (co j)) else gr)) rfl (fun k _ => by first | rw [if_pos (show j < 81 by omega)] | rw [if_neg (show ¬ j < 81 by omega)])
    have hD := va_D.set (e := .inl (E.2.1, 81, .inl ((if j < 81 then upd gr j (iMax (gr j - v) (co j)) else gr)))) hD (p := 1) rfl
    have hP : va_P E.1 vwCl (wCo E o a b d (if j < 81 then upd gr j (iMax (gr j - v) (co j)) else gr) co hb_ mo) H := hP
    have hD : va_D A (wCo E o a b d (if j < 81 then upd gr j (iMax (gr j - v) (co j)) else gr) co hb_ mo) := hD
    exact e_vret () hQ hx hb hr hlocks hP hD hS dX0_dropRubble_29 (rfl) (Nat.le_of_ble_eq_true rfl) (Nat.le_of_ble_eq_true rfl) (trivial)

abbrev rm_X0_breakByStorm : Room := { frames := 2, cells := 0, slots := 0, locals := 37 }
set_option maxHeartbeats 4000000 in
set_option maxRecDepth 100000 in
theorem c_X0_breakByStorm (l : Launch) (E : eT) (sz : Nat) (o : Nat) (a : Nat) (b : Nat) (d : Nat) (gr : Nat → Int32) (co : Nat → Int32) (hb_ : Nat → Bool) (mo : Int32) (v : Int32) : cM l yX0_breakByStorm wsX0_breakByStorm rm_X0_breakByStorm E sz [.ref o, .int v] (wCo E o a b d gr co hb_ mo) (fun u : Unit => none) (fun u : Unit => True) (fun u : Unit => wCo E o a b d ((blows v (gr, co) 81).1) ((blows v (gr, co) 81).2) hb_ mo) := by
  refine cM_intro (cc := cX0_breakByStorm) (maxL := 4) (ret := none) (by decide +kernel) rfl (Nat.le_of_ble_eq_true rfl) ?_
  intro p e s m args below meth cd hx hb hr hml hown hlocks hts hnm hK hsz hP A hD hA Q hQ ls hl
  have hown : s.vm.findClass RX0 = some m.cls := hown
  have hin0 : ∀ w ∈ u_ws RX0 TX0 4, w ∈ wsX0_breakByStorm := by decide +kernel
  have lk15 := hts (.fieldLink RX0 15 "ReefPilot$Coast" "coral" "[I") (by decide +kernel)
  have hamcmin := hts (.code Lib.Math.min.name Lib.Math.min.code 2 (some .int)) (by decide +kernel)
  have hamini := hts (.initialized "java/lang/Math") (by decide +kernel)
  have haml38 := hts (.methodLink RX0 38 Lib.Math.min.name) (by decide +kernel)
  have hamsmin := hts (.static Lib.Math.min.name) (by decide +kernel)
  have hS : va_S A s.heap s.heap [] := va_S.rf
  have hl : lv_has ls 4 [(0, .ref o), (1, .int v)] := hl
  refine lv_iconst (v := nI 0) hx hb dX0_breakByStorm_0 (by decide +kernel) ?_
  refine lv_istore_n (lv' := [(2, .int (nI 0)), (0, .ref o), (1, .int v)]) hx hb dX0_breakByStorm_1 rfl hl (by decide) rfl (fun ls hl => ?_)
  have L2 : ∀ (fuel : Nat) (z : Nat) (g : Nat → Int32) (f : Nat → Int32) (hz : z ≤ 81) (hg : g = (blows v (gr, co) z).1) (hf : f = (blows v (gr, co) z).2) (hfuel : 81 - z < fuel) (H : Heap) (locs : List Loc), va_P E.1 vwCl (wCo E o a b d g f hb_ mo) H → va_D A (wCo E o a b d g f hb_ mo) → va_S A s.heap H locs → ∀ ls : Array Slot, lv_has ls 4 [(2, .int (nI z)), (0, .ref o), (1, .int v)] → W p l e rm_X0_breakByStorm s m args below meth cd H locs 0 0 Q (F0 m 2 ls []) := by
    intro fuel
    induction fuel with
    | zero => intros; omega
    | succ fuel ihL2 =>
      intro z g f hz hg hf hfuel H locs hP hD hS ls hl
      have hb1 : blows v (gr, co) (z + 1) = blow1 v (g, f) z := by rw [hg, hf]; rfl
      refine lv_iload_n hx hb dX0_breakByStorm_2 rfl (lv_at hl 0 rfl) ?_
      refine lv_bipush (v := nI 81) hx hb dX0_breakByStorm_3 (by decide +kernel) ?_
      refine n_icmp_ge (x := z) (y := 81) (by omega) (by omega) (tgt := 57) hx hb dX0_breakByStorm_5 (by decide) (fun c5 => ?_) (fun c5 => ?_)
      · have hP := e_cong hP 1 (g := (blows v (gr, co) 81).1) rfl (fun k _ => by rw [hg, show z = 81 by omega])
        have hD := va_D.set (e := .inl (E.2.1, 81, .inl ((blows v (gr, co) 81).1))) hD (p := 1) rfl
        have hP : va_P E.1 vwCl (wCo E o a b d ((blows v (gr, co) 81).1) f hb_ mo) H := hP
        have hD : va_D A (wCo E o a b d ((blows v (gr, co) 81).1) f hb_ mo) := hD
        have hP := e_cong hP 2 (g := (blows v (gr, co) 81).2) rfl (fun k _ => by rw [hf, show z = 81 by omega])
        have hD := va_D.set (e := .inl (E.2.1, 81, .inl ((blows v (gr, co) 81).2))) hD (p := 2) rfl
        have hP : va_P E.1 vwCl (wCo E o a b d ((blows v (gr, co) 81).1) ((blows v (gr, co) 81).2) hb_ mo) H := hP
        have hD : va_D A (wCo E o a b d ((blows v (gr, co) 81).1) ((blows v (gr, co) 81).2) hb_ mo) := hD
        exact e_vret () hQ hx hb hr hlocks hP hD hS dX0_breakByStorm_57 (rfl) (Nat.le_of_ble_eq_true rfl) (Nat.le_of_ble_eq_true rfl) (trivial)
      · refine lv_aload_n hx hb dX0_breakByStorm_8 rfl (lv_at hl 1 rfl) ?_
        refine lv_iload_n hx hb dX0_breakByStorm_9 rfl (lv_at hl 0 rfl) ?_
        refine e_callV (As := [.int (nI z)]) (rest := []) ⟨hx, hb, hml, hown, hts⟩ hK hP hD hS hA hl.1 (c_X0_depthOf l E _ o a b d g f hb_ mo z (by first | omega | assumption | rfl | (simp_all; done))) (cwV 1 hts gX0_breakByStorm_X0_depthOf rfl rfl rfl (by decide +kernel) ⟨Nat.le_of_ble_eq_true rfl, Nat.le_of_ble_eq_true rfl⟩) [0, 1, 2, 3] [] rfl rfl rfl rfl (by decide) (q0 := 0) (ci := 0) rfl rfl rfl rfl (Nat.le_of_ble_eq_true rfl) dX0_breakByStorm_10 ⟨Nat.le_of_ble_eq_true rfl, Nat.le_of_ble_eq_true rfl⟩ (fun u_1 H locs hu_2 hz hP hD hS => ?_)
        have hP : va_P E.1 vwCl (wCo E o a b d g f hb_ mo) H := hP.sub [0, 1, 2, 3] rfl
        have hD : va_D A (wCo E o a b d g f hb_ mo) := hD.sub [0, 1, 2, 3] (by decide) rfl
        refine W.eq (g2 := F0 m 13 ls [.int (dep g f z)]) rfl ?_
        refine lv_iload_n hx hb dX0_breakByStorm_13 rfl (lv_at hl 2 rfl) ?_
        refine lv_iconst (v := nI 2) hx hb dX0_breakByStorm_14 (by decide +kernel) ?_
        refine lv_idiv hx hb dX0_breakByStorm_15 (by decide +kernel) ?_
        refine lv_icmp_ge (tgt := 51) hx hb dX0_breakByStorm_16 (by decide) (fun c16 => ?_) (fun c16 => ?_)
        · refine lv_iinc (v := nI (z + 1)) (lv' := [(2, .int (nI (z + 1))), (0, .ref o), (1, .int v)]) hx hb dX0_breakByStorm_51 hl (k := 0) rfl (nI_add z 1) (by decide) rfl (fun ls hl => ?_)
          refine lv_goto (tgt := 2) hx hb dX0_breakByStorm_54 (by decide) ?_
          exact ihL2 (z + 1) g f (by first | omega | assumption | rfl | (simp_all; done)) (by rw [hb1]; unfold blow1; first | rw [if_pos c16] | (rw [if_neg c16])) (by rw [hb1]; unfold blow1; first | rw [if_pos c16] | (rw [if_neg c16])) (by omega) _ _ hP hD hS _ (lv_sub hl [0, 1, 2] rfl)
        · refine lv_iload_n hx hb dX0_breakByStorm_19 rfl (lv_at hl 2 rfl) ?_
          refine lv_iconst (v := nI 3) hx hb dX0_breakByStorm_20 (by decide +kernel) ?_
          refine lv_idiv hx hb dX0_breakByStorm_21 (by decide +kernel) ?_
          refine lv_aload_n hx hb dX0_breakByStorm_22 rfl (lv_at hl 1 rfl) ?_
          refine va_get (D := E.1) (ci := 0) (v := .ref b) (C := RX0) (T := TX0) (N := 4) hx hb hts hin0 hown hK.1 hP 0 rfl rfl 1 (by decide) lk15 (fun _ h9 => h9) rfl dX0_breakByStorm_23 ?_
          refine lv_iload_n hx hb dX0_breakByStorm_26 rfl (lv_at hl 0 rfl) ?_
          refine e_iald hK hP 2 rfl z (by omega) (by decide) hx hb dX0_breakByStorm_27 ?_
          refine va_mmin hx hb (by rw [hml]; exact hl.1.symm) hown haml38 hamsmin hamini hamcmin (Nat.le_of_ble_eq_true rfl) (Nat.le_of_ble_eq_true rfl) (Nat.le_of_ble_eq_true rfl) (Nat.le_of_ble_eq_true rfl) dX0_breakByStorm_28 ?_
          refine e_top (y := iMin (v / (nI 3)) (f z)) rfl ?_
          refine lv_istore_n (lv' := [(3, .int (iMin (v / (nI 3)) (f z))), (2, .int (nI z)), (0, .ref o), (1, .int v)]) hx hb dX0_breakByStorm_31 rfl hl (by decide) rfl (fun ls hl => ?_)
          refine lv_aload_n hx hb dX0_breakByStorm_32 rfl (lv_at hl 2 rfl) ?_
          refine va_get (D := E.1) (ci := 0) (v := .ref b) (C := RX0) (T := TX0) (N := 4) hx hb hts hin0 hown hK.1 hP 0 rfl rfl 1 (by decide) lk15 (fun _ h9 => h9) rfl dX0_breakByStorm_33 ?_
          refine lv_iload_n hx hb dX0_breakByStorm_36 rfl (lv_at hl 1 rfl) ?_
          refine lv_dup2_11 hx hb dX0_breakByStorm_37 rfl rfl ?_
          refine e_iald hK hP 2 rfl z (by omega) (by decide) hx hb dX0_breakByStorm_38 ?_
          refine lv_iload_n hx hb dX0_breakByStorm_39 rfl (lv_at hl 0 rfl) ?_
          refine lv_isub hx hb dX0_breakByStorm_40 ?_
          refine e_iast hK hP hD hS 2 rfl z (by omega) (by decide) hx hb dX0_breakByStorm_41 (fun H locs hP hD hS => ?_)
          have hP : va_P E.1 vwCl (wCo E o a b d g (upd f z ((f z) - (iMin (v / (nI 3)) (f z)))) hb_ mo) H := hP
          have hD : va_D A (wCo E o a b d g (upd f z ((f z) - (iMin (v / (nI 3)) (f z)))) hb_ mo) := hD
          refine lv_aload_n hx hb dX0_breakByStorm_42 rfl (lv_at hl 2 rfl) ?_
          refine lv_iload_n hx hb dX0_breakByStorm_43 rfl (lv_at hl 1 rfl) ?_
          refine lv_bipush (v := nI 9) hx hb dX0_breakByStorm_44 (by decide +kernel) ?_
          refine lv_iadd hx hb dX0_breakByStorm_46 ?_
          refine e_top (nI_add _ _) ?_
          refine lv_iload_n hx hb dX0_breakByStorm_47 rfl (lv_at hl 0 rfl) ?_
          refine e_callV (As := [.int (nI (z + 9)), .int (iMin (v / (nI 3)) (f z))]) (rest := []) ⟨hx, hb, hml, hown, hts⟩ hK hP hD hS hA hl.1 (c_X0_dropRubble l E _ o a b d g (upd f z ((f z) - (iMin (v / (nI 3)) (f z)))) hb_ mo (z + 9) (iMin (v / (nI 3)) (f z)) (by first | omega | assumption | rfl | (simp_all; done))) (cwV 2 hts gX0_breakByStorm_X0_dropRubble rfl rfl rfl (by decide +kernel) ⟨Nat.le_of_ble_eq_true rfl, Nat.le_of_ble_eq_true rfl⟩) [0, 1, 2, 3] [] rfl rfl rfl rfl (by decide) (q0 := 0) (ci := 0) rfl rfl rfl rfl (Nat.le_of_ble_eq_true rfl) dX0_breakByStorm_48 ⟨Nat.le_of_ble_eq_true rfl, Nat.le_of_ble_eq_true rfl⟩ (fun u_3 H locs hu_4 hz hP hD hS => ?_)
          have hP : va_P E.1 vwCl (wCo E o a b d (if (z + 9) < 81 then upd g (z + 9) (iMax (g (z + 9) - (iMin (v / (nI 3)) (f z))) ((upd f z ((f z) - (iMin (v / (nI 3)) (f z)))) (z + 9))) else g) (upd f z ((f z) - (iMin (v / (nI 3)) (f z)))) hb_ mo) H := hP.sub [0, 1, 2, 3] rfl
          have hD : va_D A (wCo E o a b d (if (z + 9) < 81 then upd g (z + 9) (iMax (g (z + 9) - (iMin (v / (nI 3)) (f z))) ((upd f z ((f z) - (iMin (v / (nI 3)) (f z)))) (z + 9))) else g) (upd f z ((f z) - (iMin (v / (nI 3)) (f z)))) hb_ mo) := hD.sub [0, 1, 2, 3] (by decide) rfl
          refine W.eq (g2 := F0 m 51 ls []) rfl ?_
          refine lv_iinc (v := nI (z + 1)) (lv' := [(2, .int (nI (z + 1))), (3, .int (iMin (v / (nI 3)) (f z))), (0, .ref o), (1, .int v)]) hx hb dX0_breakByStorm_51 hl (k := 1) rfl (nI_add z 1) (by decide) rfl (fun ls hl => ?_)
          refine lv_goto (tgt := 2) hx hb dX0_breakByStorm_54 (by decide) ?_
          exact ihL2 (z + 1) (if (z + 9) < 81 then upd g (z + 9) (iMax (g (z + 9) - (iMin (v / (nI 3)) (f z))) ((upd f z ((f z) - (iMin (v / (nI 3)) (f z)))) (z + 9))) else g) (upd f z ((f z) - (iMin (v / (nI 3)) (f z)))) (by first | omega | assumption | rfl | (simp_all; done)) (by rw [hb1]; unfold blow1; first | rw [if_pos c16] | (rw [if_neg c16])) (by rw [hb1]; unfold blow1; first | rw [if_pos c16] | (rw [if_neg c16])) (by omega) _ _ hP hD hS _ (lv_sub hl [0, 2, 3] rfl)
  exact L2 (81 - 0 + 1) 0 gr co (by first | omega | assumption | rfl | (simp_all; done)) (rfl) (rfl) (Nat.lt_succ_self _) _ _ hP hD hS _ (lv_sub hl [0, 1, 2] rfl)

abbrev rm_X0_changeByWarmth : Room := { frames := 3, cells := 0, slots := 0, locals := 69 }
set_option maxHeartbeats 4000000 in
set_option maxRecDepth 100000 in
theorem c_X0_changeByWarmth (l : Launch) (E : eT) (sz : Nat) (o : Nat) (a : Nat) (b : Nat) (d : Nat) (gr : Nat → Int32) (co : Nat → Int32) (hb_ : Nat → Bool) (mo : Int32) (v : Int32) : cM l yX0_changeByWarmth wsX0_changeByWarmth rm_X0_changeByWarmth E sz [.ref o, .int v] (wCo E o a b d gr co hb_ mo) (fun u : (Nat → Bool) => none) (fun u : (Nat → Bool) => True) (fun u : (Nat → Bool) => wCo E o a b d gr (warmed v gr co) u mo) := by
  refine cM_intro (cc := cX0_changeByWarmth) (maxL := 2) (ret := none) (by decide +kernel) rfl (Nat.le_of_ble_eq_true rfl) ?_
  intro p e s m args below meth cd hx hb hr hml hown hlocks hts hnm hK hsz hP A hD hA Q hQ ls hl
  have hown : s.vm.findClass RX0 = some m.cls := hown
  have hS : va_S A s.heap s.heap [] := va_S.rf
  have hl : lv_has ls 2 [(0, .ref o), (1, .int v)] := hl
  refine lv_iload_n hx hb dX0_changeByWarmth_0 rfl (lv_at hl 1 rfl) ?_
  refine lv_bipush (v := nI 8) hx hb dX0_changeByWarmth_1 (by decide +kernel) ?_
  refine lv_icmp_lt (tgt := 13) hx hb dX0_changeByWarmth_3 (by decide) (fun c3 => ?_) (fun c3 => ?_)
  · refine lv_iload_n hx hb dX0_changeByWarmth_13 rfl (lv_at hl 1 rfl) ?_
    refine lv_iconst (v := nI 3) hx hb dX0_changeByWarmth_14 (by decide +kernel) ?_
    refine lv_icmp_lt (tgt := 22) hx hb dX0_changeByWarmth_15 (by decide) (fun c15 => ?_) (fun c15 => ?_)
    · have hP := e_cong hP 2 (g := (warmed v gr co)) rfl (fun k _ => by unfold warmed; first | (rw [if_neg (i_nle c3), if_neg (i_nle c15)]) | (rw [if_neg (i_nle c3), if_pos (i_nlt c15)]) | (rw [if_pos (i_nlt c3)]))
      have hD := va_D.set (e := .inl (E.2.1, 81, .inl ((warmed v gr co)))) hD (p := 2) rfl
      have hP : va_P E.1 vwCl (wCo E o a b d gr (warmed v gr co) hb_ mo) s.heap := hP
      have hD : va_D A (wCo E o a b d gr (warmed v gr co) hb_ mo) := hD
      exact e_vret hb_ hQ hx hb hr hlocks hP hD hS dX0_changeByWarmth_22 (rfl) (Nat.le_of_ble_eq_true rfl) (Nat.le_of_ble_eq_true rfl) (trivial)
    · refine lv_aload_n hx hb dX0_changeByWarmth_18 rfl (lv_at hl 0 rfl) ?_
      refine e_callV (As := []) (rest := []) ⟨hx, hb, hml, hown, hts⟩ hK hP hD hS hA hl.1 (c_X0_grow l E _ o a b d gr co hb_ mo) (cwV 0 hts gX0_changeByWarmth_X0_grow rfl rfl rfl (by decide +kernel) ⟨Nat.le_of_ble_eq_true rfl, Nat.le_of_ble_eq_true rfl⟩) [0, 1, 2, 3] [] rfl rfl rfl rfl (by decide) (q0 := 0) (ci := 0) rfl rfl rfl rfl (Nat.le_of_ble_eq_true rfl) dX0_changeByWarmth_19 ⟨Nat.le_of_ble_eq_true rfl, Nat.le_of_ble_eq_true rfl⟩ (fun u_1 H locs hu_2 hz hP hD hS => ?_)
      have hP : va_P E.1 vwCl (wCo E o a b d gr (grw gr co (hd co)) (hd co) mo) H := hP.sub [0, 1, 2, 3] rfl
      have hD : va_D A (wCo E o a b d gr (grw gr co (hd co)) (hd co) mo) := hD.sub [0, 1, 2, 3] (by decide) rfl
      refine W.eq (g2 := F0 m 22 ls []) rfl ?_
      have hP := e_cong hP 2 (g := (warmed v gr co)) rfl (fun k _ => by unfold warmed; first | (rw [if_neg (i_nle c3), if_neg (i_nle c15)]) | (rw [if_neg (i_nle c3), if_pos (i_nlt c15)]) | (rw [if_pos (i_nlt c3)]))
      have hD := va_D.set (e := .inl (E.2.1, 81, .inl ((warmed v gr co)))) hD (p := 2) rfl
      have hP : va_P E.1 vwCl (wCo E o a b d gr (warmed v gr co) (hd co) mo) H := hP
      have hD : va_D A (wCo E o a b d gr (warmed v gr co) (hd co) mo) := hD
      exact e_vret (hd co) hQ hx hb hr hlocks hP hD hS dX0_changeByWarmth_22 (rfl) (Nat.le_of_ble_eq_true rfl) (Nat.le_of_ble_eq_true rfl) (trivial)
  · refine lv_aload_n hx hb dX0_changeByWarmth_6 rfl (lv_at hl 0 rfl) ?_
    refine e_callV (As := []) (rest := []) ⟨hx, hb, hml, hown, hts⟩ hK hP hD hS hA hl.1 (c_X0_dieBack l E _ o a b d gr co hb_ mo) (cwV 0 hts gX0_changeByWarmth_X0_dieBack rfl rfl rfl (by decide +kernel) ⟨Nat.le_of_ble_eq_true rfl, Nat.le_of_ble_eq_true rfl⟩) [0, 1, 2, 3] [] rfl rfl rfl rfl (by decide) (q0 := 0) (ci := 0) rfl rfl rfl rfl (Nat.le_of_ble_eq_true rfl) dX0_changeByWarmth_7 ⟨Nat.le_of_ble_eq_true rfl, Nat.le_of_ble_eq_true rfl⟩ (fun u_3 H locs hu_4 hz hP hD hS => ?_)
    have hP : va_P E.1 vwCl (wCo E o a b d gr (die co) hb_ mo) H := hP.sub [0, 1, 2, 3] rfl
    have hD : va_D A (wCo E o a b d gr (die co) hb_ mo) := hD.sub [0, 1, 2, 3] (by decide) rfl
    refine W.eq (g2 := F0 m 10 ls []) rfl ?_
    refine lv_goto (tgt := 22) hx hb dX0_changeByWarmth_10 (by decide) ?_
    have hP := e_cong hP 2 (g := (warmed v gr co)) rfl (fun k _ => by unfold warmed; first | (rw [if_neg (i_nle c3), if_neg (i_nle c15)]) | (rw [if_neg (i_nle c3), if_pos (i_nlt c15)]) | (rw [if_pos (i_nlt c3)]))
    have hD := va_D.set (e := .inl (E.2.1, 81, .inl ((warmed v gr co)))) hD (p := 2) rfl
    have hP : va_P E.1 vwCl (wCo E o a b d gr (warmed v gr co) hb_ mo) H := hP
    have hD : va_D A (wCo E o a b d gr (warmed v gr co) hb_ mo) := hD
    exact e_vret hb_ hQ hx hb hr hlocks hP hD hS dX0_changeByWarmth_22 (rfl) (Nat.le_of_ble_eq_true rfl) (Nat.le_of_ble_eq_true rfl) (trivial)
end
section
abbrev rm_X2_clear : Room := { frames := 1, cells := 0, slots := 0, locals := 23 }
set_option maxHeartbeats 4000000 in
set_option maxRecDepth 100000 in
theorem c_X2_clear (l : Launch) (E : eT) (sz : Nat) (o : Nat) (a : Nat) (b : Nat) (d : Nat) (op : Nat → Bool) (sp : Nat → Nat) (rc : Nat → Nat) (rn : Nat) : cM l yX2_clear wsX2_clear rm_X2_clear E sz [.ref o] (wSp E o a b d op sp rc rn) (fun u : Unit => none) (fun u : Unit => True) (fun u : Unit => wSp E o a b d op (fun _ => 0) rc 0) := by
  refine cM_intro (cc := cX2_clear) (maxL := 1) (ret := none) (by decide +kernel) rfl (Nat.le_of_ble_eq_true rfl) ?_
  intro p e s m args below meth cd hx hb hr hml hown hlocks hts hnm hK hsz hP A hD hA Q hQ ls hl
  have hown : s.vm.findClass RX2 = some m.cls := hown
  have hin2 : ∀ w ∈ u_ws RX2 TX2 4, w ∈ wsX2_clear := by decide +kernel
  have lk15 := hts (.fieldLink RX2 15 "ReefPilot$Spread" "steps" "[I") (by decide +kernel)
  have lk28 := hts (.fieldLink RX2 28 "ReefPilot$Spread" "reachedCells" "I") (by decide +kernel)
  have hS : va_S A s.heap s.heap [] := va_S.rf
  have hl : lv_has ls 1 [(0, .ref o)] := hl
  refine lv_aload_n hx hb dX2_clear_0 rfl (lv_at hl 0 rfl) ?_
  refine va_get (D := E.1) (ci := 2) (v := .ref b) (C := RX2) (T := TX2) (N := 4) hx hb hts hin2 hown hK.1 hP 0 rfl rfl 1 (by decide) lk15 (fun _ h9 => h9) rfl dX2_clear_1 ?_
  refine lv_iconst (v := nI 0) hx hb dX2_clear_4 (by decide +kernel) ?_
  refine e_callS (As := [.ref b, .int (nI 0)]) (rest := []) ⟨hx, hb, hml, hown, hts⟩ hK hP hD hS hA hl.1 (c_J7_fill_81 l E _ b (fun k => nI (sp k)) (nI 0)) (va_cwS 2 hts gX2_clear_J7_fill_53178 rfl rfl rfl (by decide +kernel) ⟨Nat.le_of_ble_eq_true rfl, Nat.le_of_ble_eq_true rfl⟩) [2] [0, 1, 3] rfl rfl rfl rfl (by decide) rfl rfl (Nat.le_of_ble_eq_true rfl) dX2_clear_5 ⟨Nat.le_of_ble_eq_true rfl, Nat.le_of_ble_eq_true rfl⟩ (fun u_1 H locs hu_2 hz hP hD hS => ?_)
  have hP : va_P E.1 vwCl (wSp E o a b d op (fun _ => 0) rc rn) H := hP.sub [0, 1, 3, 2] rfl
  have hD : va_D A (wSp E o a b d op (fun _ => 0) rc rn) := hD.sub [0, 1, 3, 2] (by decide) rfl
  refine W.eq (g2 := F0 m 8 ls []) rfl ?_
  refine lv_aload_n hx hb dX2_clear_8 rfl (lv_at hl 0 rfl) ?_
  refine lv_iconst (v := nI 0) hx hb dX2_clear_9 (by decide +kernel) ?_
  refine va_put (D := E.1) (ci := 2) (v := .int (nI 0)) (ty := .int) (C := RX2) (T := TX2) (N := 4) hx hb hts hin2 tyX2 tyX2_ok nmX2 hown hK.1 hP hD hS 0 rfl rfl 3 (by decide) lk28 (fun _ h9 => h9) rfl (by decide +kernel) rfl rfl (Nat.le_of_ble_eq_true rfl) dX2_clear_10 (fun H locs hP hD hS => ?_)
  have hP : va_P E.1 vwCl (wSp E o a b d op (fun _ => 0) rc 0) H := hP
  have hD : va_D A (wSp E o a b d op (fun _ => 0) rc 0) := hD
  exact e_vret () hQ hx hb hr hlocks hP hD hS dX2_clear_13 (rfl) (Nat.le_of_ble_eq_true rfl) (Nat.le_of_ble_eq_true rfl) (trivial)

abbrev rm_X2_setOpen : Room := { frames := 0, cells := 0, slots := 0, locals := 0 }
set_option maxHeartbeats 4000000 in
set_option maxRecDepth 100000 in
theorem c_X2_setOpen (l : Launch) (E : eT) (sz : Nat) (o : Nat) (a : Nat) (b : Nat) (d : Nat) (op : Nat → Bool) (sp : Nat → Nat) (rc : Nat → Nat) (rn : Nat) (j : Nat) (v : Bool) (hj : j < 81) : cM l yX2_setOpen wsX2_setOpen rm_X2_setOpen E sz [.ref o, .int (nI j), .int (b2i v)] (wSp E o a b d op sp rc rn) (fun u : Unit => none) (fun u : Unit => True) (fun u : Unit => wSp E o a b d (updB op j v) sp rc rn) := by
  refine cM_intro (cc := cX2_setOpen) (maxL := 3) (ret := none) (by decide +kernel) rfl (Nat.le_of_ble_eq_true rfl) ?_
  intro p e s m args below meth cd hx hb hr hml hown hlocks hts hnm hK hsz hP A hD hA Q hQ ls hl
  have hown : s.vm.findClass RX2 = some m.cls := hown
  have hin2 : ∀ w ∈ u_ws RX2 TX2 4, w ∈ wsX2_setOpen := by decide +kernel
  have lk9 := hts (.fieldLink RX2 9 "ReefPilot$Spread" "open" "[Z") (by decide +kernel)
  have hS : va_S A s.heap s.heap [] := va_S.rf
  have hl : lv_has ls 3 [(0, .ref o), (1, .int (nI j)), (2, .int (b2i v))] := hl
  refine lv_aload_n hx hb dX2_setOpen_0 rfl (lv_at hl 0 rfl) ?_
  refine va_get (D := E.1) (ci := 2) (v := .ref a) (C := RX2) (T := TX2) (N := 4) hx hb hts hin2 hown hK.1 hP 0 rfl rfl 0 (by decide) lk9 (fun _ h9 => h9) rfl dX2_setOpen_1 ?_
  refine lv_iload_n hx hb dX2_setOpen_4 rfl (lv_at hl 1 rfl) ?_
  refine lv_iload_n hx hb dX2_setOpen_5 rfl (lv_at hl 2 rfl) ?_
  refine e_zast (x := v) hK hP hD hS 1 rfl j (by omega) (by decide) hx hb dX2_setOpen_6 (fun H locs hP hD hS => ?_)
  have hP : va_P E.1 vwCl (wSp E o a b d (updB op j v) sp rc rn) H := hP
  have hD : va_D A (wSp E o a b d (updB op j v) sp rc rn) := hD
  exact e_vret () hQ hx hb hr hlocks hP hD hS dX2_setOpen_7 (rfl) (Nat.le_of_ble_eq_true rfl) (Nat.le_of_ble_eq_true rfl) (trivial)

abbrev rm_X2_stepsTo : Room := { frames := 0, cells := 0, slots := 0, locals := 0 }
set_option maxHeartbeats 4000000 in
set_option maxRecDepth 100000 in
theorem c_X2_stepsTo (l : Launch) (E : eT) (sz : Nat) (o : Nat) (a : Nat) (b : Nat) (d : Nat) (op : Nat → Bool) (sp : Nat → Nat) (rc : Nat → Nat) (rn : Nat) (j : Nat) (hj : j < 81) : cM l yX2_stepsTo wsX2_stepsTo rm_X2_stepsTo E sz [.ref o, .int (nI j)] (wSp E o a b d op sp rc rn) (fun u : Unit => some (.int (nI (sp j)))) (fun u : Unit => True) (fun u : Unit => wSp E o a b d op sp rc rn) := by
  refine cM_intro (cc := cX2_stepsTo) (maxL := 2) (ret := (some .int)) (by decide +kernel) rfl (Nat.le_of_ble_eq_true rfl) ?_
  intro p e s m args below meth cd hx hb hr hml hown hlocks hts hnm hK hsz hP A hD hA Q hQ ls hl
  have hown : s.vm.findClass RX2 = some m.cls := hown
  have hin2 : ∀ w ∈ u_ws RX2 TX2 4, w ∈ wsX2_stepsTo := by decide +kernel
  have lk15 := hts (.fieldLink RX2 15 "ReefPilot$Spread" "steps" "[I") (by decide +kernel)
  have hS : va_S A s.heap s.heap [] := va_S.rf
  have hl : lv_has ls 2 [(0, .ref o), (1, .int (nI j))] := hl
  refine lv_aload_n hx hb dX2_stepsTo_0 rfl (lv_at hl 0 rfl) ?_
  refine va_get (D := E.1) (ci := 2) (v := .ref b) (C := RX2) (T := TX2) (N := 4) hx hb hts hin2 hown hK.1 hP 0 rfl rfl 1 (by decide) lk15 (fun _ h9 => h9) rfl dX2_stepsTo_1 ?_
  refine lv_iload_n hx hb dX2_stepsTo_4 rfl (lv_at hl 1 rfl) ?_
  refine e_nald hK hP 2 rfl j (by omega) (by decide) hx hb dX2_stepsTo_5 ?_
  exact e_iret () hQ hx hb hr hlocks hP hD hS dX2_stepsTo_6 (rfl) (Nat.le_of_ble_eq_true rfl) (Nat.le_of_ble_eq_true rfl) (trivial)

abbrev rm_X2_reach : Room := { frames := 0, cells := 0, slots := 0, locals := 0 }
set_option maxHeartbeats 4000000 in
set_option maxRecDepth 100000 in
theorem c_X2_reach (l : Launch) (E : eT) (sz : Nat) (o : Nat) (a : Nat) (b : Nat) (d : Nat) (op : Nat → Bool) (sp : Nat → Nat) (rc : Nat → Nat) (rn : Nat) (j : Nat) (c : Nat) (hj : j < 81) (hok : bOk (sp, rc, rn)) : cM l yX2_reach wsX2_reach rm_X2_reach E sz [.ref o, .int (nI j), .int (nI c)] (wSp E o a b d op sp rc rn) (fun u : Unit => none) (fun u : Unit => True) (fun u : Unit => wSp E o a b d op ((bReach op (sp, rc, rn) j c).1) ((bReach op (sp, rc, rn) j c).2.1) ((bReach op (sp, rc, rn) j c).2.2)) := by
  refine cM_intro (cc := cX2_reach) (maxL := 3) (ret := none) (by decide +kernel) rfl (Nat.le_of_ble_eq_true rfl) ?_
  intro p e s m args below meth cd hx hb hr hml hown hlocks hts hnm hK hsz hP A hD hA Q hQ ls hl
  have hown : s.vm.findClass RX2 = some m.cls := hown
  have hin2 : ∀ w ∈ u_ws RX2 TX2 4, w ∈ wsX2_reach := by decide +kernel
  have lk9 := hts (.fieldLink RX2 9 "ReefPilot$Spread" "open" "[Z") (by decide +kernel)
  have lk15 := hts (.fieldLink RX2 15 "ReefPilot$Spread" "steps" "[I") (by decide +kernel)
  have lk19 := hts (.fieldLink RX2 19 "ReefPilot$Spread" "reached" "[I") (by decide +kernel)
  have lk28 := hts (.fieldLink RX2 28 "ReefPilot$Spread" "reachedCells" "I") (by decide +kernel)
  have hS : va_S A s.heap s.heap [] := va_S.rf
  have hl : lv_has ls 3 [(0, .ref o), (1, .int (nI j)), (2, .int (nI c))] := hl
  have hn81 : rn ≤ 81 := hok.1
  refine lv_aload_n hx hb dX2_reach_0 rfl (lv_at hl 0 rfl) ?_
  refine va_get (D := E.1) (ci := 2) (v := .ref a) (C := RX2) (T := TX2) (N := 4) hx hb hts hin2 hown hK.1 hP 0 rfl rfl 0 (by decide) lk9 (fun _ h9 => h9) rfl dX2_reach_1 ?_
  refine lv_iload_n hx hb dX2_reach_4 rfl (lv_at hl 1 rfl) ?_
  refine e_zald hK hP 1 rfl j (by omega) (by decide) hx hb dX2_reach_5 ?_
  refine b_if_eq (x := op j) (tgt := 54) hx hb dX2_reach_6 (by decide) (fun c6 => ?_) (fun c6 => ?_)
  · have hP : va_P E.1 vwCl (wSp E o a b d op ((bReach op (sp, rc, rn) j c).1) ((bReach op (sp, rc, rn) j c).2.1) ((bReach op (sp, rc, rn) j c).2.2)) s.heap := by (first | rw [bReach_mk (c := c) c6 c15 c24] | rw [bReach_no (c := c) (fun z => by rw [c6] at z; exact absurd z.1 (by decide))] | rw [bReach_no (c := c) (fun z => c15 z.2)] | rw [bReach_no3 (c := c) c24]); exact hP
    have hD : va_D A (wSp E o a b d op ((bReach op (sp, rc, rn) j c).1) ((bReach op (sp, rc, rn) j c).2.1) ((bReach op (sp, rc, rn) j c).2.2)) := by (first | rw [bReach_mk (c := c) c6 c15 c24] | rw [bReach_no (c := c) (fun z => by rw [c6] at z; exact absurd z.1 (by decide))] | rw [bReach_no (c := c) (fun z => c15 z.2)] | rw [bReach_no3 (c := c) c24]); exact hD
    exact e_vret () hQ hx hb hr hlocks hP hD hS dX2_reach_54 (rfl) (Nat.le_of_ble_eq_true rfl) (Nat.le_of_ble_eq_true rfl) (trivial)
  · refine lv_aload_n hx hb dX2_reach_9 rfl (lv_at hl 0 rfl) ?_
    refine va_get (D := E.1) (ci := 2) (v := .ref b) (C := RX2) (T := TX2) (N := 4) hx hb hts hin2 hown hK.1 hP 0 rfl rfl 1 (by decide) lk15 (fun _ h9 => h9) rfl dX2_reach_10 ?_
    refine lv_iload_n hx hb dX2_reach_13 rfl (lv_at hl 1 rfl) ?_
    refine e_nald hK hP 2 rfl j (by omega) (by decide) hx hb dX2_reach_14 ?_
    have hs3 : sp j ≤ rn := hok.2.2 j
    refine n_if_ne (x := sp j) (by omega) (tgt := 54) hx hb dX2_reach_15 (by decide) (fun c15 => ?_) (fun c15 => ?_)
    · have hP : va_P E.1 vwCl (wSp E o a b d op ((bReach op (sp, rc, rn) j c).1) ((bReach op (sp, rc, rn) j c).2.1) ((bReach op (sp, rc, rn) j c).2.2)) s.heap := by (first | rw [bReach_mk (c := c) c6 c15 c24] | rw [bReach_no (c := c) (fun z => by rw [c6] at z; exact absurd z.1 (by decide))] | rw [bReach_no (c := c) (fun z => c15 z.2)] | rw [bReach_no3 (c := c) c24]); exact hP
      have hD : va_D A (wSp E o a b d op ((bReach op (sp, rc, rn) j c).1) ((bReach op (sp, rc, rn) j c).2.1) ((bReach op (sp, rc, rn) j c).2.2)) := by (first | rw [bReach_mk (c := c) c6 c15 c24] | rw [bReach_no (c := c) (fun z => by rw [c6] at z; exact absurd z.1 (by decide))] | rw [bReach_no (c := c) (fun z => c15 z.2)] | rw [bReach_no3 (c := c) c24]); exact hD
      exact e_vret () hQ hx hb hr hlocks hP hD hS dX2_reach_54 (rfl) (Nat.le_of_ble_eq_true rfl) (Nat.le_of_ble_eq_true rfl) (trivial)
    · refine lv_aload_n hx hb dX2_reach_18 rfl (lv_at hl 0 rfl) ?_
      refine va_get (D := E.1) (ci := 2) (v := .int (nI rn)) (C := RX2) (T := TX2) (N := 4) hx hb hts hin2 hown hK.1 hP 0 rfl rfl 3 (by decide) lk28 (fun _ h9 => h9) rfl dX2_reach_19 ?_
      refine lv_bipush (v := nI 81) hx hb dX2_reach_22 (by decide +kernel) ?_
      refine n_icmp_ge (x := rn) (y := 81) (by omega) (by omega) (tgt := 54) hx hb dX2_reach_24 (by decide) (fun c24 => ?_) (fun c24 => ?_)
      · have hP : va_P E.1 vwCl (wSp E o a b d op ((bReach op (sp, rc, rn) j c).1) ((bReach op (sp, rc, rn) j c).2.1) ((bReach op (sp, rc, rn) j c).2.2)) s.heap := by (first | rw [bReach_mk (c := c) c6 c15 c24] | rw [bReach_no (c := c) (fun z => by rw [c6] at z; exact absurd z.1 (by decide))] | rw [bReach_no (c := c) (fun z => c15 z.2)] | rw [bReach_no3 (c := c) c24]); exact hP
        have hD : va_D A (wSp E o a b d op ((bReach op (sp, rc, rn) j c).1) ((bReach op (sp, rc, rn) j c).2.1) ((bReach op (sp, rc, rn) j c).2.2)) := by (first | rw [bReach_mk (c := c) c6 c15 c24] | rw [bReach_no (c := c) (fun z => by rw [c6] at z; exact absurd z.1 (by decide))] | rw [bReach_no (c := c) (fun z => c15 z.2)] | rw [bReach_no3 (c := c) c24]); exact hD
        exact e_vret () hQ hx hb hr hlocks hP hD hS dX2_reach_54 (rfl) (Nat.le_of_ble_eq_true rfl) (Nat.le_of_ble_eq_true rfl) (trivial)
      · refine lv_aload_n hx hb dX2_reach_27 rfl (lv_at hl 0 rfl) ?_
        refine va_get (D := E.1) (ci := 2) (v := .ref b) (C := RX2) (T := TX2) (N := 4) hx hb hts hin2 hown hK.1 hP 0 rfl rfl 1 (by decide) lk15 (fun _ h9 => h9) rfl dX2_reach_28 ?_
        refine lv_iload_n hx hb dX2_reach_31 rfl (lv_at hl 1 rfl) ?_
        refine lv_iload_n hx hb dX2_reach_32 rfl (lv_at hl 2 rfl) ?_
        refine e_nast (x := c) hK hP hD hS 2 rfl j (by omega) (by decide) hx hb dX2_reach_33 (fun H locs hP hD hS => ?_)
        have hP : va_P E.1 vwCl (wSp E o a b d op (va_up sp j c) rc rn) H := hP
        have hD : va_D A (wSp E o a b d op (va_up sp j c) rc rn) := hD
        refine lv_aload_n hx hb dX2_reach_34 rfl (lv_at hl 0 rfl) ?_
        refine va_get (D := E.1) (ci := 2) (v := .ref d) (C := RX2) (T := TX2) (N := 4) hx hb hts hin2 hown hK.1 hP 0 rfl rfl 2 (by decide) lk19 (fun _ h9 => h9) rfl dX2_reach_35 ?_
        refine lv_aload_n hx hb dX2_reach_38 rfl (lv_at hl 0 rfl) ?_
        refine va_get (D := E.1) (ci := 2) (v := .int (nI rn)) (C := RX2) (T := TX2) (N := 4) hx hb hts hin2 hown hK.1 hP 0 rfl rfl 3 (by decide) lk28 (fun _ h9 => h9) rfl dX2_reach_39 ?_
        refine lv_iload_n hx hb dX2_reach_42 rfl (lv_at hl 1 rfl) ?_
        refine e_nast (x := j) hK hP hD hS 3 rfl rn (by omega) (by decide) hx hb dX2_reach_43 (fun H locs hP hD hS => ?_)
        have hP : va_P E.1 vwCl (wSp E o a b d op (va_up sp j c) (va_up rc rn j) rn) H := hP
        have hD : va_D A (wSp E o a b d op (va_up sp j c) (va_up rc rn j) rn) := hD
        refine lv_aload_n hx hb dX2_reach_44 rfl (lv_at hl 0 rfl) ?_
        refine lv_dup hx hb dX2_reach_45 rfl ?_
        refine va_get (D := E.1) (ci := 2) (v := .int (nI rn)) (C := RX2) (T := TX2) (N := 4) hx hb hts hin2 hown hK.1 hP 0 rfl rfl 3 (by decide) lk28 (fun _ h9 => h9) rfl dX2_reach_46 ?_
        refine lv_iconst (v := nI 1) hx hb dX2_reach_49 (by decide +kernel) ?_
        refine lv_iadd hx hb dX2_reach_50 ?_
        refine e_top (nI_add _ _) ?_
        refine va_put (D := E.1) (ci := 2) (v := .int (nI (rn + 1))) (ty := .int) (C := RX2) (T := TX2) (N := 4) hx hb hts hin2 tyX2 tyX2_ok nmX2 hown hK.1 hP hD hS 0 rfl rfl 3 (by decide) lk28 (fun _ h9 => h9) rfl (by decide +kernel) rfl rfl (Nat.le_of_ble_eq_true rfl) dX2_reach_51 (fun H locs hP hD hS => ?_)
        have hP : va_P E.1 vwCl (wSp E o a b d op (va_up sp j c) (va_up rc rn j) (rn + 1)) H := hP
        have hD : va_D A (wSp E o a b d op (va_up sp j c) (va_up rc rn j) (rn + 1)) := hD
        have hP : va_P E.1 vwCl (wSp E o a b d op ((bReach op (sp, rc, rn) j c).1) ((bReach op (sp, rc, rn) j c).2.1) ((bReach op (sp, rc, rn) j c).2.2)) H := by (first | rw [bReach_mk (c := c) c6 c15 c24] | rw [bReach_no (c := c) (fun z => by rw [c6] at z; exact absurd z.1 (by decide))] | rw [bReach_no (c := c) (fun z => c15 z.2)] | rw [bReach_no3 (c := c) c24]); exact hP
        have hD : va_D A (wSp E o a b d op ((bReach op (sp, rc, rn) j c).1) ((bReach op (sp, rc, rn) j c).2.1) ((bReach op (sp, rc, rn) j c).2.2)) := by (first | rw [bReach_mk (c := c) c6 c15 c24] | rw [bReach_no (c := c) (fun z => by rw [c6] at z; exact absurd z.1 (by decide))] | rw [bReach_no (c := c) (fun z => c15 z.2)] | rw [bReach_no3 (c := c) c24]); exact hD
        exact e_vret () hQ hx hb hr hlocks hP hD hS dX2_reach_54 (rfl) (Nat.le_of_ble_eq_true rfl) (Nat.le_of_ble_eq_true rfl) (trivial)

abbrev rm_X2_goOnFrom : Room := { frames := 1, cells := 0, slots := 0, locals := 22 }
set_option maxHeartbeats 4000000 in
set_option maxRecDepth 100000 in
theorem c_X2_goOnFrom (l : Launch) (E : eT) (sz : Nat) (o : Nat) (a : Nat) (b : Nat) (d : Nat) (op : Nat → Bool) (sp : Nat → Nat) (rc : Nat → Nat) (rn : Nat) (j : Nat) (hj : j ≤ 81) (hok : bOk (sp, rc, rn)) : cM l yX2_goOnFrom wsX2_goOnFrom rm_X2_goOnFrom E sz [.ref o, .int (nI j)] (wSp E o a b d op sp rc rn) (fun u : Unit => none) (fun u : Unit => True) (fun u : Unit => wSp E o a b d op ((bGo op 82 ((sp, rc, rn)) j).1) ((bGo op 82 ((sp, rc, rn)) j).2.1) ((bGo op 82 ((sp, rc, rn)) j).2.2)) := by
  refine cM_intro (cc := cX2_goOnFrom) (maxL := 6) (ret := none) (by decide +kernel) rfl (Nat.le_of_ble_eq_true rfl) ?_
  intro p e s m args below meth cd hx hb hr hml hown hlocks hts hnm hK hsz hP A hD hA Q hQ ls hl
  have hown : s.vm.findClass RX2 = some m.cls := hown
  have hin2 : ∀ w ∈ u_ws RX2 TX2 4, w ∈ wsX2_goOnFrom := by decide +kernel
  have lk15 := hts (.fieldLink RX2 15 "ReefPilot$Spread" "steps" "[I") (by decide +kernel)
  have lk19 := hts (.fieldLink RX2 19 "ReefPilot$Spread" "reached" "[I") (by decide +kernel)
  have lk28 := hts (.fieldLink RX2 28 "ReefPilot$Spread" "reachedCells" "I") (by decide +kernel)
  have hainiX4_neighbour := hts (.initialized RX4) (by decide +kernel)
  have hastX4_neighbour := hts (.static yX4_neighbour) (by decide +kernel)
  have hS : va_S A s.heap s.heap [] := va_S.rf
  have hl : lv_has ls 6 [(0, .ref o), (1, .int (nI j))] := hl
  refine lv_iload_n hx hb dX2_goOnFrom_0 rfl (lv_at hl 1 rfl) ?_
  refine lv_istore_n (lv' := [(2, .int (nI j)), (0, .ref o), (1, .int (nI j))]) hx hb dX2_goOnFrom_1 rfl hl (by decide) rfl (fun ls hl => ?_)
  have L2 : ∀ (fuel : Nat) (z : Nat) (f : Nat) (s1 : Nat → Nat) (r1 : Nat → Nat) (n1 : Nat) (hz : z ≤ 81) (hf : f + z = 82 + j) (hjz : j ≤ z) (hok1 : bOk (s1, r1, n1)) (hgo : bGo op f (s1, r1, n1) z = bGo op 82 (sp, rc, rn) j) (hfuel : 81 - z < fuel) (H : Heap) (locs : List Loc), va_P E.1 vwCl (wSp E o a b d op s1 r1 n1) H → va_D A (wSp E o a b d op s1 r1 n1) → va_S A s.heap H locs → ∀ ls : Array Slot, lv_has ls 6 [(2, .int (nI z)), (0, .ref o), (1, .int (nI j))] → W p l e rm_X2_goOnFrom s m args below meth cd H locs 0 0 Q (F0 m 2 ls []) := by
    intro fuel
    induction fuel with
    | zero => intros; omega
    | succ fuel ihL2 =>
      intro z f s1 r1 n1 hz hf hjz hok1 hgo hfuel H locs hP hD hS ls hl
      have hn81 : n1 ≤ 81 := hok1.1
      refine lv_iload_n hx hb dX2_goOnFrom_2 rfl (lv_at hl 0 rfl) ?_
      refine lv_bipush (v := nI 81) hx hb dX2_goOnFrom_3 (by decide +kernel) ?_
      refine n_icmp_ge (x := z) (y := 81) (by omega) (by omega) (tgt := 72) hx hb dX2_goOnFrom_5 (by decide) (fun c5 => ?_) (fun c5 => ?_)
      · have hP : va_P E.1 vwCl (wSp E o a b d op ((bGo op 82 ((sp, rc, rn)) j).1) ((bGo op 82 ((sp, rc, rn)) j).2.1) ((bGo op 82 ((sp, rc, rn)) j).2.2)) H := by (rw [← hgo, bGo_stop (x := (s1, r1, n1)) (by first | (rintro ⟨h1, h2⟩; omega) | (rintro ⟨h1, h2⟩; have h3 : z < n1 := h2; omega))]); exact hP
        have hD : va_D A (wSp E o a b d op ((bGo op 82 ((sp, rc, rn)) j).1) ((bGo op 82 ((sp, rc, rn)) j).2.1) ((bGo op 82 ((sp, rc, rn)) j).2.2)) := by (rw [← hgo, bGo_stop (x := (s1, r1, n1)) (by first | (rintro ⟨h1, h2⟩; omega) | (rintro ⟨h1, h2⟩; have h3 : z < n1 := h2; omega))]); exact hD
        exact e_vret () hQ hx hb hr hlocks hP hD hS dX2_goOnFrom_72 (rfl) (Nat.le_of_ble_eq_true rfl) (Nat.le_of_ble_eq_true rfl) (trivial)
      · refine lv_iload_n hx hb dX2_goOnFrom_8 rfl (lv_at hl 0 rfl) ?_
        refine lv_aload_n hx hb dX2_goOnFrom_9 rfl (lv_at hl 1 rfl) ?_
        refine va_get (D := E.1) (ci := 2) (v := .int (nI n1)) (C := RX2) (T := TX2) (N := 4) hx hb hts hin2 hown hK.1 hP 0 rfl rfl 3 (by decide) lk28 (fun _ h9 => h9) rfl dX2_goOnFrom_10 ?_
        refine n_icmp_ge (x := z) (y := n1) (by omega) (by omega) (tgt := 72) hx hb dX2_goOnFrom_13 (by decide) (fun c13 => ?_) (fun c13 => ?_)
        · have hP : va_P E.1 vwCl (wSp E o a b d op ((bGo op 82 ((sp, rc, rn)) j).1) ((bGo op 82 ((sp, rc, rn)) j).2.1) ((bGo op 82 ((sp, rc, rn)) j).2.2)) H := by (rw [← hgo, bGo_stop (x := (s1, r1, n1)) (by first | (rintro ⟨h1, h2⟩; omega) | (rintro ⟨h1, h2⟩; have h3 : z < n1 := h2; omega))]); exact hP
          have hD : va_D A (wSp E o a b d op ((bGo op 82 ((sp, rc, rn)) j).1) ((bGo op 82 ((sp, rc, rn)) j).2.1) ((bGo op 82 ((sp, rc, rn)) j).2.2)) := by (rw [← hgo, bGo_stop (x := (s1, r1, n1)) (by first | (rintro ⟨h1, h2⟩; omega) | (rintro ⟨h1, h2⟩; have h3 : z < n1 := h2; omega))]); exact hD
          exact e_vret () hQ hx hb hr hlocks hP hD hS dX2_goOnFrom_72 (rfl) (Nat.le_of_ble_eq_true rfl) (Nat.le_of_ble_eq_true rfl) (trivial)
        · refine lv_aload_n hx hb dX2_goOnFrom_16 rfl (lv_at hl 1 rfl) ?_
          refine va_get (D := E.1) (ci := 2) (v := .ref d) (C := RX2) (T := TX2) (N := 4) hx hb hts hin2 hown hK.1 hP 0 rfl rfl 2 (by decide) lk19 (fun _ h9 => h9) rfl dX2_goOnFrom_17 ?_
          refine lv_iload_n hx hb dX2_goOnFrom_20 rfl (lv_at hl 0 rfl) ?_
          refine e_nald hK hP 3 rfl z (by omega) (by decide) hx hb dX2_goOnFrom_21 ?_
          refine lv_istore_n (lv' := [(3, .int (nI (r1 z))), (2, .int (nI z)), (0, .ref o), (1, .int (nI j))]) hx hb dX2_goOnFrom_22 rfl hl (by decide) rfl (fun ls hl => ?_)
          refine lv_iconst (v := nI 0) hx hb dX2_goOnFrom_23 (by decide +kernel) ?_
          refine lv_istore (lv' := [(4, .int (nI 0)), (3, .int (nI (r1 z))), (2, .int (nI z)), (0, .ref o), (1, .int (nI j))]) hx hb dX2_goOnFrom_24 hl (by decide) rfl (fun ls hl => ?_)
          have L26 : ∀ (fuel : Nat) (q : Nat) (s2 : Nat → Nat) (r2 : Nat → Nat) (n2 : Nat) (hq : q ≤ 4) (hy : (s2, r2, n2) = bDirs op (s1, r1, n1) (r1 z) q) (hfuel : 4 - q < fuel) (H : Heap) (locs : List Loc), va_P E.1 vwCl (wSp E o a b d op s2 r2 n2) H → va_D A (wSp E o a b d op s2 r2 n2) → va_S A s.heap H locs → ∀ ls : Array Slot, lv_has ls 6 [(4, .int (nI q)), (3, .int (nI (r1 z))), (2, .int (nI z)), (0, .ref o), (1, .int (nI j))] → W p l e rm_X2_goOnFrom s m args below meth cd H locs 0 0 Q (F0 m 26 ls []) := by
            intro fuel
            induction fuel with
            | zero => intros; omega
            | succ fuel ihL26 =>
              intro q s2 r2 n2 hq hy hfuel H locs hP hD hS ls hl
              have hok2 : bOk (s2, r2, n2) := by rw [hy]; exact bDirs_ok hok1 (hok1.2.1 z (by assumption)) q
              have hr81 : r1 z < 81 := hok1.2.1 z (by assumption)
              have hs2 : s2 (r1 z) ≤ n2 := hok2.2.2 _
              have hn2 : n2 ≤ 81 := hok2.1
              refine lv_iload hx hb dX2_goOnFrom_26 (lv_at hl 0 rfl) ?_
              refine lv_iconst (v := nI 4) hx hb dX2_goOnFrom_28 (by decide +kernel) ?_
              refine n_icmp_ge (x := q) (y := 4) (by omega) (by omega) (tgt := 66) hx hb dX2_goOnFrom_29 (by decide) (fun c29 => ?_) (fun c29 => ?_)
              · have hye : bDirs op (s1, r1, n1) (r1 z) 4 = (s2, r2, n2) := by rw [hy, show q = 4 by omega]
                have hoke : bOk (s2, r2, n2) := hok2
                refine lv_iinc (v := nI (z + 1)) (lv' := [(2, .int (nI (z + 1))), (4, .int (nI q)), (3, .int (nI (r1 z))), (0, .ref o), (1, .int (nI j))]) hx hb dX2_goOnFrom_66 hl (k := 2) rfl (nI_add z 1) (by decide) rfl (fun ls hl => ?_)
                refine lv_goto (tgt := 2) hx hb dX2_goOnFrom_69 (by decide) ?_
                exact ihL2 (z + 1) (f - 1) s2 r2 n2 (by first | omega | assumption | rfl | (simp_all; done)) (by first | omega | assumption | rfl | (simp_all; done)) (by first | omega | assumption | rfl | (simp_all; done)) (hoke) (by rw [← hgo, show f = (f - 1) + 1 by omega, bGo_step (x := (s1, r1, n1)) ⟨by omega, by omega⟩]; exact congrArg (fun y => bGo op (f - 1) y (z + 1)) hye.symm) (by omega) _ _ hP hD hS _ (lv_sub hl [0, 3, 4] rfl)
              · refine lv_iload_n hx hb dX2_goOnFrom_32 rfl (lv_at hl 1 rfl) ?_
                refine lv_iload hx hb dX2_goOnFrom_33 (lv_at hl 0 rfl) ?_
                refine e_callSN (As := [.int (nI (r1 z)), .int (nI q)]) (rest := []) ⟨hx, hb, hml, hown, hts⟩ hK hP hD hS hA hl.1 (c_X4_neighbour l E _ (r1 z) q (by first | omega | assumption | rfl | (simp_all; done)) (by first | omega | assumption | rfl | (simp_all; done))) ⟨va_cnB 2 hts gX2_goOnFrom_X4_neighbour_n40 rfl rfl rfl hK.2.2.1 hainiX4_neighbour (by decide +kernel) ⟨Nat.le_of_ble_eq_true rfl, Nat.le_of_ble_eq_true rfl⟩, hastX4_neighbour, trivial⟩ [] [0, 1, 2, 3] rfl rfl rfl rfl (by decide) rfl rfl (Nat.le_of_ble_eq_true rfl) dX2_goOnFrom_35 ⟨Nat.le_of_ble_eq_true rfl, Nat.le_of_ble_eq_true rfl⟩ (fun u_1 H locs hu_2 hz hP hD hS => ?_)
                have hP : va_P E.1 vwCl (wSp E o a b d op s2 r2 n2) H := hP.sub [0, 1, 2, 3] rfl
                have hD : va_D A (wSp E o a b d op s2 r2 n2) := hD.sub [0, 1, 2, 3] (by decide) rfl
                refine W.eq (g2 := F0 m 38 ls [.int (oI (nb (r1 z) q))]) rfl ?_
                refine lv_istore (lv' := [(5, .int (oI (nb (r1 z) q))), (4, .int (nI q)), (3, .int (nI (r1 z))), (2, .int (nI z)), (0, .ref o), (1, .int (nI j))]) hx hb dX2_goOnFrom_38 hl (by decide) rfl (fun ls hl => ?_)
                refine lv_iload hx hb dX2_goOnFrom_40 (lv_at hl 0 rfl) ?_
                refine lv_iconst (v := (-1)) hx hb dX2_goOnFrom_42 (by decide +kernel) ?_
                refine o_icmp_eq (x := nb (r1 z) q) (nb_ob hr81) (tgt := 60) hx hb dX2_goOnFrom_43 (by decide) (fun c43 => ?_) (fun q_3 c43 => ?_)
                · refine lv_iinc (v := nI (q + 1)) (lv' := [(4, .int (nI (q + 1))), (5, .int (oI (nb (r1 z) q))), (3, .int (nI (r1 z))), (2, .int (nI z)), (0, .ref o), (1, .int (nI j))]) hx hb dX2_goOnFrom_60 hl (k := 1) rfl (nI_add q 1) (by decide) rfl (fun ls hl => ?_)
                  refine lv_goto (tgt := 26) hx hb dX2_goOnFrom_63 (by decide) ?_
                  exact ihL26 (q + 1) s2 r2 n2 (by first | omega | assumption | rfl | (simp_all; done)) (by first | (show _ = bDir op (bDirs op (s1, r1, n1) (r1 z) q) (r1 z) q; rw [← hy, bDir_none c43]) | (show _ = bDir op (bDirs op (s1, r1, n1) (r1 z) q) (r1 z) q; rw [← hy, bDir_some c43])) (by omega) _ _ hP hD hS _ (lv_sub hl [0, 2, 3, 4, 5] rfl)
                · refine lv_aload_n hx hb dX2_goOnFrom_46 rfl (lv_at hl 4 rfl) ?_
                  refine lv_iload hx hb dX2_goOnFrom_47 (lv_at hl 0 rfl) ?_
                  refine e_top (show oI (nb (r1 z) q) = nI q_3 by rw [c43]; rfl) ?_
                  have hq_ : q_3 < 81 := nb_lt hr81 c43
                  refine lv_aload_n hx hb dX2_goOnFrom_49 rfl (lv_at hl 4 rfl) ?_
                  refine va_get (D := E.1) (ci := 2) (v := .ref b) (C := RX2) (T := TX2) (N := 4) hx hb hts hin2 hown hK.1 hP 0 rfl rfl 1 (by decide) lk15 (fun _ h9 => h9) rfl dX2_goOnFrom_50 ?_
                  refine lv_iload_n hx hb dX2_goOnFrom_53 rfl (lv_at hl 2 rfl) ?_
                  refine e_nald hK hP 2 rfl (r1 z) (by omega) (by decide) hx hb dX2_goOnFrom_54 ?_
                  refine lv_iconst (v := nI 1) hx hb dX2_goOnFrom_55 (by decide +kernel) ?_
                  refine lv_iadd hx hb dX2_goOnFrom_56 ?_
                  refine e_top (nI_add _ _) ?_
                  refine e_callV (As := [.int (nI q_3), .int (nI ((s2 (r1 z)) + 1))]) (rest := []) ⟨hx, hb, hml, hown, hts⟩ hK hP hD hS hA hl.1 (c_X2_reach l E _ o a b d op s2 r2 n2 q_3 ((s2 (r1 z)) + 1) (hq_) (hok2)) (cwV 2 hts gX2_goOnFrom_X2_reach rfl rfl rfl (by decide +kernel) ⟨Nat.le_of_ble_eq_true rfl, Nat.le_of_ble_eq_true rfl⟩) [0, 1, 2, 3] [] rfl rfl rfl rfl (by decide) (q0 := 0) (ci := 2) rfl rfl rfl rfl (Nat.le_of_ble_eq_true rfl) dX2_goOnFrom_57 ⟨Nat.le_of_ble_eq_true rfl, Nat.le_of_ble_eq_true rfl⟩ (fun u_4 H locs hu_5 hz hP hD hS => ?_)
                  have hP : va_P E.1 vwCl (wSp E o a b d op ((bReach op (s2, r2, n2) q_3 ((s2 (r1 z)) + 1)).1) ((bReach op (s2, r2, n2) q_3 ((s2 (r1 z)) + 1)).2.1) ((bReach op (s2, r2, n2) q_3 ((s2 (r1 z)) + 1)).2.2)) H := hP.sub [0, 1, 2, 3] rfl
                  have hD : va_D A (wSp E o a b d op ((bReach op (s2, r2, n2) q_3 ((s2 (r1 z)) + 1)).1) ((bReach op (s2, r2, n2) q_3 ((s2 (r1 z)) + 1)).2.1) ((bReach op (s2, r2, n2) q_3 ((s2 (r1 z)) + 1)).2.2)) := hD.sub [0, 1, 2, 3] (by decide) rfl
                  refine W.eq (g2 := F0 m 60 ls []) rfl ?_
                  refine lv_iinc (v := nI (q + 1)) (lv' := [(4, .int (nI (q + 1))), (5, .int (oI (nb (r1 z) q))), (3, .int (nI (r1 z))), (2, .int (nI z)), (0, .ref o), (1, .int (nI j))]) hx hb dX2_goOnFrom_60 hl (k := 1) rfl (nI_add q 1) (by decide) rfl (fun ls hl => ?_)
                  refine lv_goto (tgt := 26) hx hb dX2_goOnFrom_63 (by decide) ?_
                  exact ihL26 (q + 1) ((bReach op (s2, r2, n2) q_3 ((s2 (r1 z)) + 1)).1) ((bReach op (s2, r2, n2) q_3 ((s2 (r1 z)) + 1)).2.1) ((bReach op (s2, r2, n2) q_3 ((s2 (r1 z)) + 1)).2.2) (by first | omega | assumption | rfl | (simp_all; done)) (by first | (show _ = bDir op (bDirs op (s1, r1, n1) (r1 z) q) (r1 z) q; rw [← hy, bDir_none c43]) | (show _ = bDir op (bDirs op (s1, r1, n1) (r1 z) q) (r1 z) q; rw [← hy, bDir_some c43])) (by omega) _ _ hP hD hS _ (lv_sub hl [0, 2, 3, 4, 5] rfl)
          exact L26 (4 - 0 + 1) 0 s1 r1 n1 (by first | omega | assumption | rfl | (simp_all; done)) (by first | omega | assumption | rfl | (simp_all; done)) (Nat.lt_succ_self _) _ _ hP hD hS _ (lv_sub hl [0, 1, 2, 3, 4] rfl)
  exact L2 (81 - j + 1) j 82 sp rc rn (by first | omega | assumption | rfl | (simp_all; done)) (by omega) (by first | omega | assumption | rfl | (simp_all; done)) (hok) (rfl) (Nat.lt_succ_self _) _ _ hP hD hS _ (lv_sub hl [0, 1, 2] rfl)

abbrev rm_X2_goFromRow : Room := { frames := 2, cells := 0, slots := 0, locals := 47 }
set_option maxHeartbeats 4000000 in
set_option maxRecDepth 100000 in
theorem c_X2_goFromRow (l : Launch) (E : eT) (sz : Nat) (o : Nat) (a : Nat) (b : Nat) (d : Nat) (op : Nat → Bool) (sp : Nat → Nat) (rc : Nat → Nat) (rn : Nat) (j : Nat) (hj : j + 9 ≤ 81) (hok : bOk (sp, rc, rn)) : cM l yX2_goFromRow wsX2_goFromRow rm_X2_goFromRow E sz [.ref o, .int (nI j)] (wSp E o a b d op sp rc rn) (fun u : Unit => none) (fun u : Unit => True) (fun u : Unit => wSp E o a b d op ((bGo op 82 (bRow op (sp, rc, rn) j 9) rn).1) ((bGo op 82 (bRow op (sp, rc, rn) j 9) rn).2.1) ((bGo op 82 (bRow op (sp, rc, rn) j 9) rn).2.2)) := by
  refine cM_intro (cc := cX2_goFromRow) (maxL := 4) (ret := none) (by decide +kernel) rfl (Nat.le_of_ble_eq_true rfl) ?_
  intro p e s m args below meth cd hx hb hr hml hown hlocks hts hnm hK hsz hP A hD hA Q hQ ls hl
  have hown : s.vm.findClass RX2 = some m.cls := hown
  have hin2 : ∀ w ∈ u_ws RX2 TX2 4, w ∈ wsX2_goFromRow := by decide +kernel
  have lk28 := hts (.fieldLink RX2 28 "ReefPilot$Spread" "reachedCells" "I") (by decide +kernel)
  have hS : va_S A s.heap s.heap [] := va_S.rf
  have hl : lv_has ls 4 [(0, .ref o), (1, .int (nI j))] := hl
  refine lv_aload_n hx hb dX2_goFromRow_0 rfl (lv_at hl 0 rfl) ?_
  refine va_get (D := E.1) (ci := 2) (v := .int (nI rn)) (C := RX2) (T := TX2) (N := 4) hx hb hts hin2 hown hK.1 hP 0 rfl rfl 3 (by decide) lk28 (fun _ h9 => h9) rfl dX2_goFromRow_1 ?_
  refine lv_istore_n (lv' := [(2, .int (nI rn)), (0, .ref o), (1, .int (nI j))]) hx hb dX2_goFromRow_4 rfl hl (by decide) rfl (fun ls hl => ?_)
  refine lv_iconst (v := nI 0) hx hb dX2_goFromRow_5 (by decide +kernel) ?_
  refine lv_istore_n (lv' := [(3, .int (nI 0)), (2, .int (nI rn)), (0, .ref o), (1, .int (nI j))]) hx hb dX2_goFromRow_6 rfl hl (by decide) rfl (fun ls hl => ?_)
  have L7 : ∀ (fuel : Nat) (z : Nat) (s1 : Nat → Nat) (r1 : Nat → Nat) (n1 : Nat) (hz : z ≤ 9) (hy : (s1, r1, n1) = bRow op (sp, rc, rn) j z) (hfuel : 9 - z < fuel) (H : Heap) (locs : List Loc), va_P E.1 vwCl (wSp E o a b d op s1 r1 n1) H → va_D A (wSp E o a b d op s1 r1 n1) → va_S A s.heap H locs → ∀ ls : Array Slot, lv_has ls 4 [(3, .int (nI z)), (2, .int (nI rn)), (0, .ref o), (1, .int (nI j))] → W p l e rm_X2_goFromRow s m args below meth cd H locs 0 0 Q (F0 m 7 ls []) := by
    intro fuel
    induction fuel with
    | zero => intros; omega
    | succ fuel ihL7 =>
      intro z s1 r1 n1 hz hy hfuel H locs hP hD hS ls hl
      have hok1 : bOk (s1, r1, n1) := by rw [hy]; exact bRow_ok hok z (by omega)
      refine lv_iload_n hx hb dX2_goFromRow_7 rfl (lv_at hl 0 rfl) ?_
      refine lv_bipush (v := nI 9) hx hb dX2_goFromRow_8 (by decide +kernel) ?_
      refine n_icmp_ge (x := z) (y := 9) (by omega) (by omega) (tgt := 27) hx hb dX2_goFromRow_10 (by decide) (fun c10 => ?_) (fun c10 => ?_)
      · have hye : (s1, r1, n1) = bRow op (sp, rc, rn) j 9 := by rw [hy, show z = 9 by omega]
        refine lv_aload_n hx hb dX2_goFromRow_27 rfl (lv_at hl 2 rfl) ?_
        refine lv_iload_n hx hb dX2_goFromRow_28 rfl (lv_at hl 1 rfl) ?_
        refine e_callV (As := [.int (nI rn)]) (rest := []) ⟨hx, hb, hml, hown, hts⟩ hK hP hD hS hA hl.1 (c_X2_goOnFrom l E _ o a b d op s1 r1 n1 rn (hok.1) (hok1)) (cwV 1 hts gX2_goFromRow_X2_goOnFrom rfl rfl rfl (by decide +kernel) ⟨Nat.le_of_ble_eq_true rfl, Nat.le_of_ble_eq_true rfl⟩) [0, 1, 2, 3] [] rfl rfl rfl rfl (by decide) (q0 := 0) (ci := 2) rfl rfl rfl rfl (Nat.le_of_ble_eq_true rfl) dX2_goFromRow_29 ⟨Nat.le_of_ble_eq_true rfl, Nat.le_of_ble_eq_true rfl⟩ (fun u_1 H locs hu_2 hz hP hD hS => ?_)
        have hP : va_P E.1 vwCl (wSp E o a b d op ((bGo op 82 ((s1, r1, n1)) rn).1) ((bGo op 82 ((s1, r1, n1)) rn).2.1) ((bGo op 82 ((s1, r1, n1)) rn).2.2)) H := hP.sub [0, 1, 2, 3] rfl
        have hD : va_D A (wSp E o a b d op ((bGo op 82 ((s1, r1, n1)) rn).1) ((bGo op 82 ((s1, r1, n1)) rn).2.1) ((bGo op 82 ((s1, r1, n1)) rn).2.2)) := hD.sub [0, 1, 2, 3] (by decide) rfl
        refine W.eq (g2 := F0 m 32 ls []) rfl ?_
        have hP : va_P E.1 vwCl (wSp E o a b d op ((bGo op 82 (bRow op (sp, rc, rn) j 9) rn).1) ((bGo op 82 (bRow op (sp, rc, rn) j 9) rn).2.1) ((bGo op 82 (bRow op (sp, rc, rn) j 9) rn).2.2)) H := by (rw [← hye]); exact hP
        have hD : va_D A (wSp E o a b d op ((bGo op 82 (bRow op (sp, rc, rn) j 9) rn).1) ((bGo op 82 (bRow op (sp, rc, rn) j 9) rn).2.1) ((bGo op 82 (bRow op (sp, rc, rn) j 9) rn).2.2)) := by (rw [← hye]); exact hD
        exact e_vret () hQ hx hb hr hlocks hP hD hS dX2_goFromRow_32 (rfl) (Nat.le_of_ble_eq_true rfl) (Nat.le_of_ble_eq_true rfl) (trivial)
      · refine lv_aload_n hx hb dX2_goFromRow_13 rfl (lv_at hl 2 rfl) ?_
        refine lv_iload_n hx hb dX2_goFromRow_14 rfl (lv_at hl 3 rfl) ?_
        refine lv_iload_n hx hb dX2_goFromRow_15 rfl (lv_at hl 0 rfl) ?_
        refine lv_iadd hx hb dX2_goFromRow_16 ?_
        refine e_top (nI_add _ _) ?_
        refine lv_iconst (v := nI 1) hx hb dX2_goFromRow_17 (by decide +kernel) ?_
        refine e_callV (As := [.int (nI (j + z)), .int (nI 1)]) (rest := []) ⟨hx, hb, hml, hown, hts⟩ hK hP hD hS hA hl.1 (c_X2_reach l E _ o a b d op s1 r1 n1 (j + z) 1 (by omega) (hok1)) (cwV 2 hts gX2_goFromRow_X2_reach rfl rfl rfl (by decide +kernel) ⟨Nat.le_of_ble_eq_true rfl, Nat.le_of_ble_eq_true rfl⟩) [0, 1, 2, 3] [] rfl rfl rfl rfl (by decide) (q0 := 0) (ci := 2) rfl rfl rfl rfl (Nat.le_of_ble_eq_true rfl) dX2_goFromRow_18 ⟨Nat.le_of_ble_eq_true rfl, Nat.le_of_ble_eq_true rfl⟩ (fun u_3 H locs hu_4 hz hP hD hS => ?_)
        have hP : va_P E.1 vwCl (wSp E o a b d op ((bReach op (s1, r1, n1) (j + z) 1).1) ((bReach op (s1, r1, n1) (j + z) 1).2.1) ((bReach op (s1, r1, n1) (j + z) 1).2.2)) H := hP.sub [0, 1, 2, 3] rfl
        have hD : va_D A (wSp E o a b d op ((bReach op (s1, r1, n1) (j + z) 1).1) ((bReach op (s1, r1, n1) (j + z) 1).2.1) ((bReach op (s1, r1, n1) (j + z) 1).2.2)) := hD.sub [0, 1, 2, 3] (by decide) rfl
        refine W.eq (g2 := F0 m 21 ls []) rfl ?_
        refine lv_iinc (v := nI (z + 1)) (lv' := [(3, .int (nI (z + 1))), (2, .int (nI rn)), (0, .ref o), (1, .int (nI j))]) hx hb dX2_goFromRow_21 hl (k := 0) rfl (nI_add z 1) (by decide) rfl (fun ls hl => ?_)
        refine lv_goto (tgt := 7) hx hb dX2_goFromRow_24 (by decide) ?_
        exact ihL7 (z + 1) ((bReach op (s1, r1, n1) (j + z) 1).1) ((bReach op (s1, r1, n1) (j + z) 1).2.1) ((bReach op (s1, r1, n1) (j + z) 1).2.2) (by first | omega | assumption | rfl | (simp_all; done)) (by show _ = bReach op (bRow op (sp, rc, rn) j z) (j + z) 1; rw [← hy]) (by omega) _ _ hP hD hS _ (lv_sub hl [0, 1, 2, 3] rfl)
  exact L7 (9 - 0 + 1) 0 sp rc rn (by first | omega | assumption | rfl | (simp_all; done)) (rfl) (Nat.lt_succ_self _) _ _ hP hD hS _ (lv_sub hl [0, 1, 2, 3] rfl)

abbrev rm_X2_goFromCell : Room := { frames := 2, cells := 0, slots := 0, locals := 47 }
set_option maxHeartbeats 4000000 in
set_option maxRecDepth 100000 in
theorem c_X2_goFromCell (l : Launch) (E : eT) (sz : Nat) (o : Nat) (a : Nat) (b : Nat) (d : Nat) (op : Nat → Bool) (sp : Nat → Nat) (rc : Nat → Nat) (rn : Nat) (j : Nat) (hj : j < 81) (hok : bOk (sp, rc, rn)) : cM l yX2_goFromCell wsX2_goFromCell rm_X2_goFromCell E sz [.ref o, .int (nI j)] (wSp E o a b d op sp rc rn) (fun u : Unit => some (.int (nI ((bCell op (sp, rc, rn) j).2.2 - rn)))) (fun u : Unit => True) (fun u : Unit => wSp E o a b d op ((bCell op (sp, rc, rn) j).1) ((bCell op (sp, rc, rn) j).2.1) ((bCell op (sp, rc, rn) j).2.2)) := by
  refine cM_intro (cc := cX2_goFromCell) (maxL := 3) (ret := (some .int)) (by decide +kernel) rfl (Nat.le_of_ble_eq_true rfl) ?_
  intro p e s m args below meth cd hx hb hr hml hown hlocks hts hnm hK hsz hP A hD hA Q hQ ls hl
  have hown : s.vm.findClass RX2 = some m.cls := hown
  have hin2 : ∀ w ∈ u_ws RX2 TX2 4, w ∈ wsX2_goFromCell := by decide +kernel
  have lk28 := hts (.fieldLink RX2 28 "ReefPilot$Spread" "reachedCells" "I") (by decide +kernel)
  have hS : va_S A s.heap s.heap [] := va_S.rf
  have hl : lv_has ls 3 [(0, .ref o), (1, .int (nI j))] := hl
  refine lv_aload_n hx hb dX2_goFromCell_0 rfl (lv_at hl 0 rfl) ?_
  refine va_get (D := E.1) (ci := 2) (v := .int (nI rn)) (C := RX2) (T := TX2) (N := 4) hx hb hts hin2 hown hK.1 hP 0 rfl rfl 3 (by decide) lk28 (fun _ h9 => h9) rfl dX2_goFromCell_1 ?_
  refine lv_istore_n (lv' := [(2, .int (nI rn)), (0, .ref o), (1, .int (nI j))]) hx hb dX2_goFromCell_4 rfl hl (by decide) rfl (fun ls hl => ?_)
  refine lv_aload_n hx hb dX2_goFromCell_5 rfl (lv_at hl 1 rfl) ?_
  refine lv_iload_n hx hb dX2_goFromCell_6 rfl (lv_at hl 2 rfl) ?_
  refine lv_iconst (v := nI 1) hx hb dX2_goFromCell_7 (by decide +kernel) ?_
  refine e_callV (As := [.int (nI j), .int (nI 1)]) (rest := []) ⟨hx, hb, hml, hown, hts⟩ hK hP hD hS hA hl.1 (c_X2_reach l E _ o a b d op sp rc rn j 1 (by first | omega | assumption | rfl | (simp_all; done)) (hok)) (cwV 2 hts gX2_goFromCell_X2_reach rfl rfl rfl (by decide +kernel) ⟨Nat.le_of_ble_eq_true rfl, Nat.le_of_ble_eq_true rfl⟩) [0, 1, 2, 3] [] rfl rfl rfl rfl (by decide) (q0 := 0) (ci := 2) rfl rfl rfl rfl (Nat.le_of_ble_eq_true rfl) dX2_goFromCell_8 ⟨Nat.le_of_ble_eq_true rfl, Nat.le_of_ble_eq_true rfl⟩ (fun u_1 H locs hu_2 hz hP hD hS => ?_)
  have hP : va_P E.1 vwCl (wSp E o a b d op ((bReach op (sp, rc, rn) j 1).1) ((bReach op (sp, rc, rn) j 1).2.1) ((bReach op (sp, rc, rn) j 1).2.2)) H := hP.sub [0, 1, 2, 3] rfl
  have hD : va_D A (wSp E o a b d op ((bReach op (sp, rc, rn) j 1).1) ((bReach op (sp, rc, rn) j 1).2.1) ((bReach op (sp, rc, rn) j 1).2.2)) := hD.sub [0, 1, 2, 3] (by decide) rfl
  refine W.eq (g2 := F0 m 11 ls []) rfl ?_
  refine lv_aload_n hx hb dX2_goFromCell_11 rfl (lv_at hl 1 rfl) ?_
  refine lv_iload_n hx hb dX2_goFromCell_12 rfl (lv_at hl 0 rfl) ?_
  refine e_callV (As := [.int (nI rn)]) (rest := []) ⟨hx, hb, hml, hown, hts⟩ hK hP hD hS hA hl.1 (c_X2_goOnFrom l E _ o a b d op ((bReach op (sp, rc, rn) j 1).1) ((bReach op (sp, rc, rn) j 1).2.1) ((bReach op (sp, rc, rn) j 1).2.2) rn (hok.1) (bReach_ok hok hj (by omega))) (cwV 1 hts gX2_goFromCell_X2_goOnFrom rfl rfl rfl (by decide +kernel) ⟨Nat.le_of_ble_eq_true rfl, Nat.le_of_ble_eq_true rfl⟩) [0, 1, 2, 3] [] rfl rfl rfl rfl (by decide) (q0 := 0) (ci := 2) rfl rfl rfl rfl (Nat.le_of_ble_eq_true rfl) dX2_goFromCell_13 ⟨Nat.le_of_ble_eq_true rfl, Nat.le_of_ble_eq_true rfl⟩ (fun u_3 H locs hu_4 hz hP hD hS => ?_)
  have hP : va_P E.1 vwCl (wSp E o a b d op ((bGo op 82 ((((bReach op (sp, rc, rn) j 1).1), ((bReach op (sp, rc, rn) j 1).2.1), ((bReach op (sp, rc, rn) j 1).2.2))) rn).1) ((bGo op 82 ((((bReach op (sp, rc, rn) j 1).1), ((bReach op (sp, rc, rn) j 1).2.1), ((bReach op (sp, rc, rn) j 1).2.2))) rn).2.1) ((bGo op 82 ((((bReach op (sp, rc, rn) j 1).1), ((bReach op (sp, rc, rn) j 1).2.1), ((bReach op (sp, rc, rn) j 1).2.2))) rn).2.2)) H := hP.sub [0, 1, 2, 3] rfl
  have hD : va_D A (wSp E o a b d op ((bGo op 82 ((((bReach op (sp, rc, rn) j 1).1), ((bReach op (sp, rc, rn) j 1).2.1), ((bReach op (sp, rc, rn) j 1).2.2))) rn).1) ((bGo op 82 ((((bReach op (sp, rc, rn) j 1).1), ((bReach op (sp, rc, rn) j 1).2.1), ((bReach op (sp, rc, rn) j 1).2.2))) rn).2.1) ((bGo op 82 ((((bReach op (sp, rc, rn) j 1).1), ((bReach op (sp, rc, rn) j 1).2.1), ((bReach op (sp, rc, rn) j 1).2.2))) rn).2.2)) := hD.sub [0, 1, 2, 3] (by decide) rfl
  refine W.eq (g2 := F0 m 16 ls []) rfl ?_
  refine lv_aload_n hx hb dX2_goFromCell_16 rfl (lv_at hl 1 rfl) ?_
  refine va_get (D := E.1) (ci := 2) (v := .int (nI ((bGo op 82 ((((bReach op (sp, rc, rn) j 1).1), ((bReach op (sp, rc, rn) j 1).2.1), ((bReach op (sp, rc, rn) j 1).2.2))) rn).2.2))) (C := RX2) (T := TX2) (N := 4) hx hb hts hin2 hown hK.1 hP 0 rfl rfl 3 (by decide) lk28 (fun _ h9 => h9) rfl dX2_goFromCell_17 ?_
  refine lv_iload_n hx hb dX2_goFromCell_20 rfl (lv_at hl 0 rfl) ?_
  refine lv_isub hx hb dX2_goFromCell_21 ?_
  refine e_top (pk_sub (bCell_le (op := op) (x := (sp, rc, rn)) (p := j)).1) ?_
  exact e_iret () hQ hx hb hr hlocks hP hD hS dX2_goFromCell_22 (rfl) (Nat.le_of_ble_eq_true rfl) (Nat.le_of_ble_eq_true rfl) (trivial)

abbrev rm_X2_nearerFrom : Room := { frames := 1, cells := 0, slots := 0, locals := 22 }
set_option maxHeartbeats 4000000 in
set_option maxRecDepth 100000 in
theorem c_X2_nearerFrom (l : Launch) (E : eT) (sz : Nat) (o : Nat) (a : Nat) (b : Nat) (d : Nat) (op : Nat → Bool) (sp : Nat → Nat) (rc : Nat → Nat) (rn : Nat) (j : Nat) (hj : j < 81) (hs : ∀ k, sp k ≤ 81) : cM l yX2_nearerFrom wsX2_nearerFrom rm_X2_nearerFrom E sz [.ref o, .int (nI j)] (wSp E o a b d op sp rc rn) (fun u : Unit => some (.int (nI (nrr sp j 4)))) (fun u : Unit => True) (fun u : Unit => wSp E o a b d op sp rc rn) := by
  refine cM_intro (cc := cX2_nearerFrom) (maxL := 5) (ret := (some .int)) (by decide +kernel) rfl (Nat.le_of_ble_eq_true rfl) ?_
  intro p e s m args below meth cd hx hb hr hml hown hlocks hts hnm hK hsz hP A hD hA Q hQ ls hl
  have hown : s.vm.findClass RX2 = some m.cls := hown
  have hin2 : ∀ w ∈ u_ws RX2 TX2 4, w ∈ wsX2_nearerFrom := by decide +kernel
  have lk15 := hts (.fieldLink RX2 15 "ReefPilot$Spread" "steps" "[I") (by decide +kernel)
  have hainiX4_neighbour := hts (.initialized RX4) (by decide +kernel)
  have hastX4_neighbour := hts (.static yX4_neighbour) (by decide +kernel)
  have hS : va_S A s.heap s.heap [] := va_S.rf
  have hl : lv_has ls 5 [(0, .ref o), (1, .int (nI j))] := hl
  refine lv_iload_n hx hb dX2_nearerFrom_0 rfl (lv_at hl 1 rfl) ?_
  refine lv_istore_n (lv' := [(2, .int (nI j)), (0, .ref o), (1, .int (nI j))]) hx hb dX2_nearerFrom_1 rfl hl (by decide) rfl (fun ls hl => ?_)
  refine lv_iconst (v := nI 0) hx hb dX2_nearerFrom_2 (by decide +kernel) ?_
  refine lv_istore_n (lv' := [(3, .int (nI 0)), (2, .int (nI j)), (0, .ref o), (1, .int (nI j))]) hx hb dX2_nearerFrom_3 rfl hl (by decide) rfl (fun ls hl => ?_)
  have L4 : ∀ (fuel : Nat) (v : Nat) (z : Nat) (hz : z ≤ 4) (hv : v = nrr sp j z) (hfuel : 4 - z < fuel) (H : Heap) (locs : List Loc), va_P E.1 vwCl (wSp E o a b d op sp rc rn) H → va_D A (wSp E o a b d op sp rc rn) → va_S A s.heap H locs → ∀ ls : Array Slot, lv_has ls 5 [(3, .int (nI z)), (2, .int (nI v)), (0, .ref o), (1, .int (nI j))] → W p l e rm_X2_nearerFrom s m args below meth cd H locs 0 0 Q (F0 m 4 ls []) := by
    intro fuel
    induction fuel with
    | zero => intros; omega
    | succ fuel ihL4 =>
      intro v z hz hv hfuel H locs hP hD hS ls hl
      have hv81 : v < 81 := by rw [hv]; exact nrr_lt hj z
      have hsv := hs v
      refine lv_iload_n hx hb dX2_nearerFrom_4 rfl (lv_at hl 0 rfl) ?_
      refine lv_iconst (v := nI 4) hx hb dX2_nearerFrom_5 (by decide +kernel) ?_
      refine n_icmp_ge (x := z) (y := 4) (by omega) (by omega) (tgt := 57) hx hb dX2_nearerFrom_6 (by decide) (fun c6 => ?_) (fun c6 => ?_)
      · refine lv_iload_n hx hb dX2_nearerFrom_57 rfl (lv_at hl 1 rfl) ?_
        exact e_iret () hQ hx hb hr hlocks hP hD hS dX2_nearerFrom_58 (rvi (by rw [hv, show z = 4 by omega])) (Nat.le_of_ble_eq_true rfl) (Nat.le_of_ble_eq_true rfl) (trivial)
      · refine lv_iload_n hx hb dX2_nearerFrom_9 rfl (lv_at hl 3 rfl) ?_
        refine lv_iload_n hx hb dX2_nearerFrom_10 rfl (lv_at hl 0 rfl) ?_
        refine e_callSN (As := [.int (nI j), .int (nI z)]) (rest := []) ⟨hx, hb, hml, hown, hts⟩ hK hP hD hS hA hl.1 (c_X4_neighbour l E _ j z (by first | omega | assumption | rfl | (simp_all; done)) (by first | omega | assumption | rfl | (simp_all; done))) ⟨va_cnB 2 hts gX2_nearerFrom_X4_neighbour_n40 rfl rfl rfl hK.2.2.1 hainiX4_neighbour (by decide +kernel) ⟨Nat.le_of_ble_eq_true rfl, Nat.le_of_ble_eq_true rfl⟩, hastX4_neighbour, trivial⟩ [] [0, 1, 2, 3] rfl rfl rfl rfl (by decide) rfl rfl (Nat.le_of_ble_eq_true rfl) dX2_nearerFrom_11 ⟨Nat.le_of_ble_eq_true rfl, Nat.le_of_ble_eq_true rfl⟩ (fun u_1 H locs hu_2 hz hP hD hS => ?_)
        have hP : va_P E.1 vwCl (wSp E o a b d op sp rc rn) H := hP.sub [0, 1, 2, 3] rfl
        have hD : va_D A (wSp E o a b d op sp rc rn) := hD.sub [0, 1, 2, 3] (by decide) rfl
        refine W.eq (g2 := F0 m 14 ls [.int (oI (nb j z))]) rfl ?_
        refine lv_istore (lv' := [(4, .int (oI (nb j z))), (3, .int (nI z)), (2, .int (nI v)), (0, .ref o), (1, .int (nI j))]) hx hb dX2_nearerFrom_14 hl (by decide) rfl (fun ls hl => ?_)
        refine lv_iload hx hb dX2_nearerFrom_16 (lv_at hl 0 rfl) ?_
        refine lv_iconst (v := (-1)) hx hb dX2_nearerFrom_18 (by decide +kernel) ?_
        refine o_icmp_eq (x := nb j z) (nb_ob hj) (tgt := 51) hx hb dX2_nearerFrom_19 (by decide) (fun c19 => ?_) (fun q_3 c19 => ?_)
        · refine lv_iinc (v := nI (z + 1)) (lv' := [(3, .int (nI (z + 1))), (4, .int (oI (nb j z))), (2, .int (nI v)), (0, .ref o), (1, .int (nI j))]) hx hb dX2_nearerFrom_51 hl (k := 1) rfl (nI_add z 1) (by decide) rfl (fun ls hl => ?_)
          refine lv_goto (tgt := 4) hx hb dX2_nearerFrom_54 (by decide) ?_
          exact ihL4 v (z + 1) (by first | omega | assumption | rfl | (simp_all; done)) (by first | (rw [nrr_none c19]; exact hv) | (rw [nrr_some c19, ← hv, if_pos ⟨by omega, by omega⟩]; done) | (rw [nrr_some c19, ← hv, if_neg (by omega)]; done)) (by omega) _ _ hP hD hS _ (lv_sub hl [0, 2, 3, 4] rfl)
        · refine lv_aload_n hx hb dX2_nearerFrom_22 rfl (lv_at hl 3 rfl) ?_
          refine va_get (D := E.1) (ci := 2) (v := .ref b) (C := RX2) (T := TX2) (N := 4) hx hb hts hin2 hown hK.1 hP 0 rfl rfl 1 (by decide) lk15 (fun _ h9 => h9) rfl dX2_nearerFrom_23 ?_
          refine lv_iload hx hb dX2_nearerFrom_26 (lv_at hl 0 rfl) ?_
          refine e_top (show oI (nb j z) = nI q_3 by rw [c19]; rfl) ?_
          have hq_ : q_3 < 81 := nb_lt hj c19
          have hsq := hs q_3
          refine e_nald hK hP 2 rfl q_3 (by omega) (by decide) hx hb dX2_nearerFrom_28 ?_
          refine n_if_le (x := sp q_3) (by omega) (tgt := 51) hx hb dX2_nearerFrom_29 (by decide) (fun c29 => ?_) (fun c29 => ?_)
          · refine lv_iinc (v := nI (z + 1)) (lv' := [(3, .int (nI (z + 1))), (4, .int (oI (nb j z))), (2, .int (nI v)), (0, .ref o), (1, .int (nI j))]) hx hb dX2_nearerFrom_51 hl (k := 1) rfl (nI_add z 1) (by decide) rfl (fun ls hl => ?_)
            refine lv_goto (tgt := 4) hx hb dX2_nearerFrom_54 (by decide) ?_
            exact ihL4 v (z + 1) (by first | omega | assumption | rfl | (simp_all; done)) (by first | (rw [nrr_none c19]; exact hv) | (rw [nrr_some c19, ← hv, if_pos ⟨by omega, by omega⟩]; done) | (rw [nrr_some c19, ← hv, if_neg (by omega)]; done)) (by omega) _ _ hP hD hS _ (lv_sub hl [0, 2, 3, 4] rfl)
          · refine lv_aload_n hx hb dX2_nearerFrom_32 rfl (lv_at hl 3 rfl) ?_
            refine va_get (D := E.1) (ci := 2) (v := .ref b) (C := RX2) (T := TX2) (N := 4) hx hb hts hin2 hown hK.1 hP 0 rfl rfl 1 (by decide) lk15 (fun _ h9 => h9) rfl dX2_nearerFrom_33 ?_
            refine lv_iload hx hb dX2_nearerFrom_36 (lv_at hl 0 rfl) ?_
            refine e_top (show oI (nb j z) = nI q_3 by rw [c19]; rfl) ?_
            refine e_nald hK hP 2 rfl q_3 (by omega) (by decide) hx hb dX2_nearerFrom_38 ?_
            refine lv_aload_n hx hb dX2_nearerFrom_39 rfl (lv_at hl 3 rfl) ?_
            refine va_get (D := E.1) (ci := 2) (v := .ref b) (C := RX2) (T := TX2) (N := 4) hx hb hts hin2 hown hK.1 hP 0 rfl rfl 1 (by decide) lk15 (fun _ h9 => h9) rfl dX2_nearerFrom_40 ?_
            refine lv_iload_n hx hb dX2_nearerFrom_43 rfl (lv_at hl 2 rfl) ?_
            refine e_nald hK hP 2 rfl v (by omega) (by decide) hx hb dX2_nearerFrom_44 ?_
            refine n_icmp_ge (x := sp q_3) (y := sp v) (by omega) (by omega) (tgt := 51) hx hb dX2_nearerFrom_45 (by decide) (fun c45 => ?_) (fun c45 => ?_)
            · refine lv_iinc (v := nI (z + 1)) (lv' := [(3, .int (nI (z + 1))), (4, .int (oI (nb j z))), (2, .int (nI v)), (0, .ref o), (1, .int (nI j))]) hx hb dX2_nearerFrom_51 hl (k := 1) rfl (nI_add z 1) (by decide) rfl (fun ls hl => ?_)
              refine lv_goto (tgt := 4) hx hb dX2_nearerFrom_54 (by decide) ?_
              exact ihL4 v (z + 1) (by first | omega | assumption | rfl | (simp_all; done)) (by first | (rw [nrr_none c19]; exact hv) | (rw [nrr_some c19, ← hv, if_pos ⟨by omega, by omega⟩]; done) | (rw [nrr_some c19, ← hv, if_neg (by omega)]; done)) (by omega) _ _ hP hD hS _ (lv_sub hl [0, 2, 3, 4] rfl)
            · refine lv_iload hx hb dX2_nearerFrom_48 (lv_at hl 0 rfl) ?_
              refine e_top (show oI (nb j z) = nI q_3 by rw [c19]; rfl) ?_
              refine lv_istore_n (lv' := [(2, .int (nI q_3)), (4, .int (oI (nb j z))), (3, .int (nI z)), (0, .ref o), (1, .int (nI j))]) hx hb dX2_nearerFrom_50 rfl hl (by decide) rfl (fun ls hl => ?_)
              refine lv_iinc (v := nI (z + 1)) (lv' := [(3, .int (nI (z + 1))), (2, .int (nI q_3)), (4, .int (oI (nb j z))), (0, .ref o), (1, .int (nI j))]) hx hb dX2_nearerFrom_51 hl (k := 2) rfl (nI_add z 1) (by decide) rfl (fun ls hl => ?_)
              refine lv_goto (tgt := 4) hx hb dX2_nearerFrom_54 (by decide) ?_
              exact ihL4 q_3 (z + 1) (by first | omega | assumption | rfl | (simp_all; done)) (by first | (rw [nrr_none c19]; exact hv) | (rw [nrr_some c19, ← hv, if_pos ⟨by omega, by omega⟩]; done) | (rw [nrr_some c19, ← hv, if_neg (by omega)]; done)) (by omega) _ _ hP hD hS _ (lv_sub hl [0, 1, 3, 4] rfl)
  exact L4 (4 - 0 + 1) j 0 (by first | omega | assumption | rfl | (simp_all; done)) (rfl) (Nat.lt_succ_self _) _ _ hP hD hS _ (lv_sub hl [0, 1, 2, 3] rfl)
end
section
abbrev rm_X3_write : Room := { frames := 0, cells := 0, slots := 0, locals := 0 }
set_option maxHeartbeats 4000000 in
set_option maxRecDepth 100000 in
theorem c_X3_write (l : Launch) (E : eT) (sz : Nat) (o : Nat) (a : Nat) (b : Nat) (wm : Nat → Int32) (st : Nat → Int32) (j : Nat) (v : Int32) (w : Int32) (hj : j < 12) : cM l yX3_write wsX3_write rm_X3_write E sz [.ref o, .int (nI j), .int v, .int w] (wTb E o a b wm st) (fun u : Unit => none) (fun u : Unit => True) (fun u : Unit => wTb E o a b (upd wm j v) (upd st j w)) := by
  refine cM_intro (cc := cX3_write) (maxL := 4) (ret := none) (by decide +kernel) rfl (Nat.le_of_ble_eq_true rfl) ?_
  intro p e s m args below meth cd hx hb hr hml hown hlocks hts hnm hK hsz hP A hD hA Q hQ ls hl
  have hown : s.vm.findClass RX3 = some m.cls := hown
  have hin3 : ∀ w ∈ u_ws RX3 TX3 2, w ∈ wsX3_write := by decide +kernel
  have lk9 := hts (.fieldLink RX3 9 "ReefPilot$Table" "warmth" "[I") (by decide +kernel)
  have lk15 := hts (.fieldLink RX3 15 "ReefPilot$Table" "storm" "[I") (by decide +kernel)
  have hS : va_S A s.heap s.heap [] := va_S.rf
  have hl : lv_has ls 4 [(0, .ref o), (1, .int (nI j)), (2, .int v), (3, .int w)] := hl
  refine lv_aload_n hx hb dX3_write_0 rfl (lv_at hl 0 rfl) ?_
  refine va_get (D := E.1) (ci := 3) (v := .ref a) (C := RX3) (T := TX3) (N := 2) hx hb hts hin3 hown hK.1 hP 0 rfl rfl 0 (by decide) lk9 (fun _ h9 => h9) rfl dX3_write_1 ?_
  refine lv_iload_n hx hb dX3_write_4 rfl (lv_at hl 1 rfl) ?_
  refine lv_iload_n hx hb dX3_write_5 rfl (lv_at hl 2 rfl) ?_
  refine e_iast hK hP hD hS 1 rfl j (by omega) (by decide) hx hb dX3_write_6 (fun H locs hP hD hS => ?_)
  have hP : va_P E.1 vwCl (wTb E o a b (upd wm j v) st) H := hP
  have hD : va_D A (wTb E o a b (upd wm j v) st) := hD
  refine lv_aload_n hx hb dX3_write_7 rfl (lv_at hl 0 rfl) ?_
  refine va_get (D := E.1) (ci := 3) (v := .ref b) (C := RX3) (T := TX3) (N := 2) hx hb hts hin3 hown hK.1 hP 0 rfl rfl 1 (by decide) lk15 (fun _ h9 => h9) rfl dX3_write_8 ?_
  refine lv_iload_n hx hb dX3_write_11 rfl (lv_at hl 1 rfl) ?_
  refine lv_iload_n hx hb dX3_write_12 rfl (lv_at hl 3 rfl) ?_
  refine e_iast hK hP hD hS 2 rfl j (by omega) (by decide) hx hb dX3_write_13 (fun H locs hP hD hS => ?_)
  have hP : va_P E.1 vwCl (wTb E o a b (upd wm j v) (upd st j w)) H := hP
  have hD : va_D A (wTb E o a b (upd wm j v) (upd st j w)) := hD
  exact e_vret () hQ hx hb hr hlocks hP hD hS dX3_write_14 (rfl) (Nat.le_of_ble_eq_true rfl) (Nat.le_of_ble_eq_true rfl) (trivial)

abbrev rm_X3_entry : Room := { frames := 0, cells := 0, slots := 0, locals := 0 }
set_option maxHeartbeats 4000000 in
set_option maxRecDepth 100000 in
theorem c_X3_entry (l : Launch) (E : eT) (sz : Nat) (o : Nat) (a : Nat) (b : Nat) (wm : Nat → Int32) (st : Nat → Int32) (j : Nat) (hj : j < 12) : cM l yX3_entry wsX3_entry rm_X3_entry E sz [.ref o, .int (nI j)] (wTb E o a b wm st) (fun u : Unit => some (.int (nI 10 * wm j + st j))) (fun u : Unit => True) (fun u : Unit => wTb E o a b wm st) := by
  refine cM_intro (cc := cX3_entry) (maxL := 2) (ret := (some .int)) (by decide +kernel) rfl (Nat.le_of_ble_eq_true rfl) ?_
  intro p e s m args below meth cd hx hb hr hml hown hlocks hts hnm hK hsz hP A hD hA Q hQ ls hl
  have hown : s.vm.findClass RX3 = some m.cls := hown
  have hin3 : ∀ w ∈ u_ws RX3 TX3 2, w ∈ wsX3_entry := by decide +kernel
  have lk9 := hts (.fieldLink RX3 9 "ReefPilot$Table" "warmth" "[I") (by decide +kernel)
  have lk15 := hts (.fieldLink RX3 15 "ReefPilot$Table" "storm" "[I") (by decide +kernel)
  have hS : va_S A s.heap s.heap [] := va_S.rf
  have hl : lv_has ls 2 [(0, .ref o), (1, .int (nI j))] := hl
  refine lv_bipush (v := nI 10) hx hb dX3_entry_0 (by decide +kernel) ?_
  refine lv_aload_n hx hb dX3_entry_2 rfl (lv_at hl 0 rfl) ?_
  refine va_get (D := E.1) (ci := 3) (v := .ref a) (C := RX3) (T := TX3) (N := 2) hx hb hts hin3 hown hK.1 hP 0 rfl rfl 0 (by decide) lk9 (fun _ h9 => h9) rfl dX3_entry_3 ?_
  refine lv_iload_n hx hb dX3_entry_6 rfl (lv_at hl 1 rfl) ?_
  refine e_iald hK hP 1 rfl j (by omega) (by decide) hx hb dX3_entry_7 ?_
  refine lv_imul hx hb dX3_entry_8 ?_
  refine lv_aload_n hx hb dX3_entry_9 rfl (lv_at hl 0 rfl) ?_
  refine va_get (D := E.1) (ci := 3) (v := .ref b) (C := RX3) (T := TX3) (N := 2) hx hb hts hin3 hown hK.1 hP 0 rfl rfl 1 (by decide) lk15 (fun _ h9 => h9) rfl dX3_entry_10 ?_
  refine lv_iload_n hx hb dX3_entry_13 rfl (lv_at hl 1 rfl) ?_
  refine e_iald hK hP 2 rfl j (by omega) (by decide) hx hb dX3_entry_14 ?_
  refine lv_iadd hx hb dX3_entry_15 ?_
  exact e_iret () hQ hx hb hr hlocks hP hD hS dX3_entry_16 (rfl) (Nat.le_of_ble_eq_true rfl) (Nat.le_of_ble_eq_true rfl) (trivial)

abbrev rm_X3_warmthIn : Room := { frames := 1, cells := 0, slots := 0, locals := 22 }
set_option maxHeartbeats 4000000 in
set_option maxRecDepth 100000 in
theorem c_X3_warmthIn (l : Launch) (E : eT) (sz : Nat) (o : Nat) (a : Nat) (b : Nat) (wm : Nat → Int32) (st : Nat → Int32) (x : Nat) (hx_ : x < 2 ^ 31) : cM l yX3_warmthIn wsX3_warmthIn rm_X3_warmthIn E sz [.ref o, .int (nI x)] (wTb E o a b wm st) (fun u : Unit => some (.int (wm (x % 12)))) (fun u : Unit => True) (fun u : Unit => wTb E o a b wm st) := by
  refine cM_intro (cc := cX3_warmthIn) (maxL := 2) (ret := (some .int)) (by decide +kernel) rfl (Nat.le_of_ble_eq_true rfl) ?_
  intro p e s m args below meth cd hx hb hr hml hown hlocks hts hnm hK hsz hP A hD hA Q hQ ls hl
  have hown : s.vm.findClass RX3 = some m.cls := hown
  have hin3 : ∀ w ∈ u_ws RX3 TX3 2, w ∈ wsX3_warmthIn := by decide +kernel
  have lk9 := hts (.fieldLink RX3 9 "ReefPilot$Table" "warmth" "[I") (by decide +kernel)
  have hS : va_S A s.heap s.heap [] := va_S.rf
  have hl : lv_has ls 2 [(0, .ref o), (1, .int (nI x))] := hl
  refine lv_aload_n hx hb dX3_warmthIn_0 rfl (lv_at hl 0 rfl) ?_
  refine va_get (D := E.1) (ci := 3) (v := .ref a) (C := RX3) (T := TX3) (N := 2) hx hb hts hin3 hown hK.1 hP 0 rfl rfl 0 (by decide) lk9 (fun _ h9 => h9) rfl dX3_warmthIn_1 ?_
  refine lv_iload_n hx hb dX3_warmthIn_4 rfl (lv_at hl 1 rfl) ?_
  refine lv_bipush (v := nI 12) hx hb dX3_warmthIn_5 (by decide +kernel) ?_
  refine e_callS (As := [.int (nI x), .int (nI 12)]) (rest := [.ref a]) ⟨hx, hb, hml, hown, hts⟩ hK hP hD hS hA hl.1 (c_J9_floorMod_7cf53 l E _ x (by first | omega | assumption | rfl | (simp_all; done))) (va_cwS 2 hts gX3_warmthIn_J9_floorMod_7cf53 rfl rfl rfl (by decide +kernel) ⟨Nat.le_of_ble_eq_true rfl, Nat.le_of_ble_eq_true rfl⟩) [] [0, 1, 2] rfl rfl rfl rfl (by decide) rfl rfl (Nat.le_of_ble_eq_true rfl) dX3_warmthIn_7 ⟨Nat.le_of_ble_eq_true rfl, Nat.le_of_ble_eq_true rfl⟩ (fun u_1 H locs hu_2 hz hP hD hS => ?_)
  have hP : va_P E.1 vwCl (wTb E o a b wm st) H := hP.sub [0, 1, 2] rfl
  have hD : va_D A (wTb E o a b wm st) := hD.sub [0, 1, 2] (by decide) rfl
  refine W.eq (g2 := F0 m 10 ls [.int (nI (x % 12)), .ref a]) rfl ?_
  refine e_iald hK hP 1 rfl (x % 12) (by omega) (by decide) hx hb dX3_warmthIn_10 ?_
  exact e_iret () hQ hx hb hr hlocks hP hD hS dX3_warmthIn_11 (rfl) (Nat.le_of_ble_eq_true rfl) (Nat.le_of_ble_eq_true rfl) (trivial)

abbrev rm_X3_stormIn : Room := { frames := 1, cells := 0, slots := 0, locals := 22 }
set_option maxHeartbeats 4000000 in
set_option maxRecDepth 100000 in
theorem c_X3_stormIn (l : Launch) (E : eT) (sz : Nat) (o : Nat) (a : Nat) (b : Nat) (wm : Nat → Int32) (st : Nat → Int32) (x : Nat) (hx_ : x < 2 ^ 31) : cM l yX3_stormIn wsX3_stormIn rm_X3_stormIn E sz [.ref o, .int (nI x)] (wTb E o a b wm st) (fun u : Unit => some (.int (st (x % 12)))) (fun u : Unit => True) (fun u : Unit => wTb E o a b wm st) := by
  refine cM_intro (cc := cX3_stormIn) (maxL := 2) (ret := (some .int)) (by decide +kernel) rfl (Nat.le_of_ble_eq_true rfl) ?_
  intro p e s m args below meth cd hx hb hr hml hown hlocks hts hnm hK hsz hP A hD hA Q hQ ls hl
  have hown : s.vm.findClass RX3 = some m.cls := hown
  have hin3 : ∀ w ∈ u_ws RX3 TX3 2, w ∈ wsX3_stormIn := by decide +kernel
  have lk15 := hts (.fieldLink RX3 15 "ReefPilot$Table" "storm" "[I") (by decide +kernel)
  have hS : va_S A s.heap s.heap [] := va_S.rf
  have hl : lv_has ls 2 [(0, .ref o), (1, .int (nI x))] := hl
  refine lv_aload_n hx hb dX3_stormIn_0 rfl (lv_at hl 0 rfl) ?_
  refine va_get (D := E.1) (ci := 3) (v := .ref b) (C := RX3) (T := TX3) (N := 2) hx hb hts hin3 hown hK.1 hP 0 rfl rfl 1 (by decide) lk15 (fun _ h9 => h9) rfl dX3_stormIn_1 ?_
  refine lv_iload_n hx hb dX3_stormIn_4 rfl (lv_at hl 1 rfl) ?_
  refine lv_bipush (v := nI 12) hx hb dX3_stormIn_5 (by decide +kernel) ?_
  refine e_callS (As := [.int (nI x), .int (nI 12)]) (rest := [.ref b]) ⟨hx, hb, hml, hown, hts⟩ hK hP hD hS hA hl.1 (c_J9_floorMod_7cf53 l E _ x (by first | omega | assumption | rfl | (simp_all; done))) (va_cwS 2 hts gX3_stormIn_J9_floorMod_7cf53 rfl rfl rfl (by decide +kernel) ⟨Nat.le_of_ble_eq_true rfl, Nat.le_of_ble_eq_true rfl⟩) [] [0, 1, 2] rfl rfl rfl rfl (by decide) rfl rfl (Nat.le_of_ble_eq_true rfl) dX3_stormIn_7 ⟨Nat.le_of_ble_eq_true rfl, Nat.le_of_ble_eq_true rfl⟩ (fun u_1 H locs hu_2 hz hP hD hS => ?_)
  have hP : va_P E.1 vwCl (wTb E o a b wm st) H := hP.sub [0, 1, 2] rfl
  have hD : va_D A (wTb E o a b wm st) := hD.sub [0, 1, 2] (by decide) rfl
  refine W.eq (g2 := F0 m 10 ls [.int (nI (x % 12)), .ref b]) rfl ?_
  refine e_iald hK hP 2 rfl (x % 12) (by omega) (by decide) hx hb dX3_stormIn_10 ?_
  exact e_iret () hQ hx hb hr hlocks hP hD hS dX3_stormIn_11 (rfl) (Nat.le_of_ble_eq_true rfl) (Nat.le_of_ble_eq_true rfl) (trivial)

abbrev rm_X1_note : Room := { frames := 0, cells := 0, slots := 0, locals := 0 }
set_option maxHeartbeats 4000000 in
set_option maxRecDepth 100000 in
theorem c_X1_note (l : Launch) (E : eT) (sz : Nat) (o : Nat) (a : Nat) (b : Nat) (sd : Nat → Int32) (tk : Nat → Int32) (j : Nat) (v : Int32) (w : Int32) (hj : j < 81) : cM l yX1_note wsX1_note rm_X1_note E sz [.ref o, .int (nI j), .int v, .int w] (wSo E o a b sd tk) (fun u : Unit => none) (fun u : Unit => True) (fun u : Unit => wSo E o a b (upd sd j v) (upd tk j w)) := by
  refine cM_intro (cc := cX1_note) (maxL := 4) (ret := none) (by decide +kernel) rfl (Nat.le_of_ble_eq_true rfl) ?_
  intro p e s m args below meth cd hx hb hr hml hown hlocks hts hnm hK hsz hP A hD hA Q hQ ls hl
  have hown : s.vm.findClass RX1 = some m.cls := hown
  have hin1 : ∀ w ∈ u_ws RX1 TX1 2, w ∈ wsX1_note := by decide +kernel
  have lk9 := hts (.fieldLink RX1 9 "ReefPilot$Soundings" "depth" "[I") (by decide +kernel)
  have lk15 := hts (.fieldLink RX1 15 "ReefPilot$Soundings" "takenIn" "[I") (by decide +kernel)
  have hS : va_S A s.heap s.heap [] := va_S.rf
  have hl : lv_has ls 4 [(0, .ref o), (1, .int (nI j)), (2, .int v), (3, .int w)] := hl
  refine lv_aload_n hx hb dX1_note_0 rfl (lv_at hl 0 rfl) ?_
  refine va_get (D := E.1) (ci := 1) (v := .ref a) (C := RX1) (T := TX1) (N := 2) hx hb hts hin1 hown hK.1 hP 0 rfl rfl 0 (by decide) lk9 (fun _ h9 => h9) rfl dX1_note_1 ?_
  refine lv_iload_n hx hb dX1_note_4 rfl (lv_at hl 1 rfl) ?_
  refine lv_iload_n hx hb dX1_note_5 rfl (lv_at hl 2 rfl) ?_
  refine e_iast hK hP hD hS 1 rfl j (by omega) (by decide) hx hb dX1_note_6 (fun H locs hP hD hS => ?_)
  have hP : va_P E.1 vwCl (wSo E o a b (upd sd j v) tk) H := hP
  have hD : va_D A (wSo E o a b (upd sd j v) tk) := hD
  refine lv_aload_n hx hb dX1_note_7 rfl (lv_at hl 0 rfl) ?_
  refine va_get (D := E.1) (ci := 1) (v := .ref b) (C := RX1) (T := TX1) (N := 2) hx hb hts hin1 hown hK.1 hP 0 rfl rfl 1 (by decide) lk15 (fun _ h9 => h9) rfl dX1_note_8 ?_
  refine lv_iload_n hx hb dX1_note_11 rfl (lv_at hl 1 rfl) ?_
  refine lv_iload_n hx hb dX1_note_12 rfl (lv_at hl 3 rfl) ?_
  refine e_iast hK hP hD hS 2 rfl j (by omega) (by decide) hx hb dX1_note_13 (fun H locs hP hD hS => ?_)
  have hP : va_P E.1 vwCl (wSo E o a b (upd sd j v) (upd tk j w)) H := hP
  have hD : va_D A (wSo E o a b (upd sd j v) (upd tk j w)) := hD
  exact e_vret () hQ hx hb hr hlocks hP hD hS dX1_note_14 (rfl) (Nat.le_of_ble_eq_true rfl) (Nat.le_of_ble_eq_true rfl) (trivial)

abbrev rm_X1_noted : Room := { frames := 0, cells := 0, slots := 0, locals := 0 }
set_option maxHeartbeats 4000000 in
set_option maxRecDepth 100000 in
theorem c_X1_noted (l : Launch) (E : eT) (sz : Nat) (o : Nat) (a : Nat) (b : Nat) (sd : Nat → Int32) (tk : Nat → Int32) (j : Nat) (hj : j < 81) : cM l yX1_noted wsX1_noted rm_X1_noted E sz [.ref o, .int (nI j)] (wSo E o a b sd tk) (fun u : Unit => some (.int (sd j))) (fun u : Unit => True) (fun u : Unit => wSo E o a b sd tk) := by
  refine cM_intro (cc := cX1_noted) (maxL := 2) (ret := (some .int)) (by decide +kernel) rfl (Nat.le_of_ble_eq_true rfl) ?_
  intro p e s m args below meth cd hx hb hr hml hown hlocks hts hnm hK hsz hP A hD hA Q hQ ls hl
  have hown : s.vm.findClass RX1 = some m.cls := hown
  have hin1 : ∀ w ∈ u_ws RX1 TX1 2, w ∈ wsX1_noted := by decide +kernel
  have lk9 := hts (.fieldLink RX1 9 "ReefPilot$Soundings" "depth" "[I") (by decide +kernel)
  have hS : va_S A s.heap s.heap [] := va_S.rf
  have hl : lv_has ls 2 [(0, .ref o), (1, .int (nI j))] := hl
  refine lv_aload_n hx hb dX1_noted_0 rfl (lv_at hl 0 rfl) ?_
  refine va_get (D := E.1) (ci := 1) (v := .ref a) (C := RX1) (T := TX1) (N := 2) hx hb hts hin1 hown hK.1 hP 0 rfl rfl 0 (by decide) lk9 (fun _ h9 => h9) rfl dX1_noted_1 ?_
  refine lv_iload_n hx hb dX1_noted_4 rfl (lv_at hl 1 rfl) ?_
  refine e_iald hK hP 1 rfl j (by omega) (by decide) hx hb dX1_noted_5 ?_
  exact e_iret () hQ hx hb hr hlocks hP hD hS dX1_noted_6 (rfl) (Nat.le_of_ble_eq_true rfl) (Nat.le_of_ble_eq_true rfl) (trivial)

abbrev rm_X1_age : Room := { frames := 0, cells := 0, slots := 0, locals := 0 }
set_option maxHeartbeats 4000000 in
set_option maxRecDepth 100000 in
theorem c_X1_age (l : Launch) (E : eT) (sz : Nat) (o : Nat) (a : Nat) (b : Nat) (sd : Nat → Int32) (tk : Nat → Int32) (j : Nat) (mo : Int32) (hj : j < 81) : cM l yX1_age wsX1_age rm_X1_age E sz [.ref o, .int (nI j), .int mo] (wSo E o a b sd tk) (fun u : Unit => some (.int (chOld sd tk mo j))) (fun u : Unit => True) (fun u : Unit => wSo E o a b sd tk) := by
  refine cM_intro (cc := cX1_age) (maxL := 3) (ret := (some .int)) (by decide +kernel) rfl (Nat.le_of_ble_eq_true rfl) ?_
  intro p e s m args below meth cd hx hb hr hml hown hlocks hts hnm hK hsz hP A hD hA Q hQ ls hl
  have hown : s.vm.findClass RX1 = some m.cls := hown
  have hin1 : ∀ w ∈ u_ws RX1 TX1 2, w ∈ wsX1_age := by decide +kernel
  have lk9 := hts (.fieldLink RX1 9 "ReefPilot$Soundings" "depth" "[I") (by decide +kernel)
  have lk15 := hts (.fieldLink RX1 15 "ReefPilot$Soundings" "takenIn" "[I") (by decide +kernel)
  have hS : va_S A s.heap s.heap [] := va_S.rf
  have hl : lv_has ls 3 [(0, .ref o), (1, .int (nI j)), (2, .int mo)] := hl
  refine lv_aload_n hx hb dX1_age_0 rfl (lv_at hl 0 rfl) ?_
  refine va_get (D := E.1) (ci := 1) (v := .ref a) (C := RX1) (T := TX1) (N := 2) hx hb hts hin1 hown hK.1 hP 0 rfl rfl 0 (by decide) lk9 (fun _ h9 => h9) rfl dX1_age_1 ?_
  refine lv_iload_n hx hb dX1_age_4 rfl (lv_at hl 1 rfl) ?_
  refine e_iald hK hP 1 rfl j (by omega) (by decide) hx hb dX1_age_5 ?_
  refine lv_iconst (v := (-1)) hx hb dX1_age_6 (by decide +kernel) ?_
  refine lv_icmp_ne (tgt := 14) hx hb dX1_age_7 (by decide) (fun c7 => ?_) (fun c7 => ?_)
  · refine lv_iload_n hx hb dX1_age_14 rfl (lv_at hl 2 rfl) ?_
    refine lv_aload_n hx hb dX1_age_15 rfl (lv_at hl 0 rfl) ?_
    refine va_get (D := E.1) (ci := 1) (v := .ref b) (C := RX1) (T := TX1) (N := 2) hx hb hts hin1 hown hK.1 hP 0 rfl rfl 1 (by decide) lk15 (fun _ h9 => h9) rfl dX1_age_16 ?_
    refine lv_iload_n hx hb dX1_age_19 rfl (lv_at hl 1 rfl) ?_
    refine e_iald hK hP 2 rfl j (by omega) (by decide) hx hb dX1_age_20 ?_
    refine lv_isub hx hb dX1_age_21 ?_
    exact e_iret () hQ hx hb hr hlocks hP hD hS dX1_age_22 (rvi (by unfold chOld; first | rw [if_pos c7] | rw [if_neg c7])) (Nat.le_of_ble_eq_true rfl) (Nat.le_of_ble_eq_true rfl) (trivial)
  · refine lv_iconst (v := (-1)) hx hb dX1_age_10 (by decide +kernel) ?_
    refine lv_goto (tgt := 22) hx hb dX1_age_11 (by decide) ?_
    exact e_iret () hQ hx hb hr hlocks hP hD hS dX1_age_22 (rvi (by unfold chOld; first | rw [if_pos c7] | rw [if_neg c7])) (Nat.le_of_ble_eq_true rfl) (Nat.le_of_ble_eq_true rfl) (trivial)

abbrev rm_X0_becomeLike : Room := { frames := 1, cells := 0, slots := 0, locals := 60 }
set_option maxHeartbeats 4000000 in
set_option maxRecDepth 100000 in
theorem c_X0_becomeLike (l : Launch) (E : eT) (sz : Nat) (o : Nat) (a : Nat) (b : Nat) (d : Nat) (gr : Nat → Int32) (co : Nat → Int32) (hb_ : Nat → Bool) (mo : Int32) (o2 : Nat) (a2 : Nat) (b2 : Nat) (d2 : Nat) (gr2 : Nat → Int32) (co2 : Nat → Int32) (hb2 : Nat → Bool) (mo2 : Int32) : cM l yX0_becomeLike wsX0_becomeLike rm_X0_becomeLike E sz [.ref o, .ref o2] (wCo E o a b d gr co hb_ mo ++ wCo E o2 a2 b2 d2 gr2 co2 hb2 mo2) (fun u : Unit => none) (fun u : Unit => True) (fun u : Unit => wCo E o a b d gr2 co2 hb_ mo2 ++ wCo E o2 a2 b2 d2 gr2 co2 hb2 mo2) := by
  refine cM_intro (cc := cX0_becomeLike) (maxL := 2) (ret := none) (by decide +kernel) rfl (Nat.le_of_ble_eq_true rfl) ?_
  intro p e s m args below meth cd hx hb hr hml hown hlocks hts hnm hK hsz hP A hD hA Q hQ ls hl
  have hown : s.vm.findClass RX0 = some m.cls := hown
  have hin0 : ∀ w ∈ u_ws RX0 TX0 4, w ∈ wsX0_becomeLike := by decide +kernel
  have lk9 := hts (.fieldLink RX0 9 "ReefPilot$Coast" "ground" "[I") (by decide +kernel)
  have lk15 := hts (.fieldLink RX0 15 "ReefPilot$Coast" "coral" "[I") (by decide +kernel)
  have lk34 := hts (.fieldLink RX0 34 "ReefPilot$Coast" "month" "I") (by decide +kernel)
  have haac28 := hts (.methodLink RX0 28 arraycopyName) (by decide +kernel)
  have haaci := hts (.initialized "java/lang/System") (by decide +kernel)
  have haacn := hts (.native arraycopyName) (by decide +kernel)
  have haacs := hts (.static arraycopyName) (by decide +kernel)
  have hS : va_S A s.heap s.heap [] := va_S.rf
  have hl : lv_has ls 2 [(0, .ref o), (1, .ref o2)] := hl
  refine lv_aload_n hx hb dX0_becomeLike_0 rfl (lv_at hl 1 rfl) ?_
  refine va_get (D := E.1) (ci := 0) (v := .ref a2) (C := RX0) (T := TX0) (N := 4) hx hb hts hin0 hown hK.1 hP 4 rfl rfl 0 (by decide) lk9 (fun _ h9 => h9) rfl dX0_becomeLike_1 ?_
  refine lv_iconst (v := nI 0) hx hb dX0_becomeLike_4 (by decide +kernel) ?_
  refine lv_aload_n hx hb dX0_becomeLike_5 rfl (lv_at hl 0 rfl) ?_
  refine va_get (D := E.1) (ci := 0) (v := .ref a) (C := RX0) (T := TX0) (N := 4) hx hb hts hin0 hown hK.1 hP 0 rfl rfl 0 (by decide) lk9 (fun _ h9 => h9) rfl dX0_becomeLike_6 ?_
  refine lv_iconst (v := nI 0) hx hb dX0_becomeLike_9 (by decide +kernel) ?_
  refine lv_bipush (v := nI 81) hx hb dX0_becomeLike_10 (by decide +kernel) ?_
  refine va_copyi hx hb (by rw [hml]; exact hl.1.symm) hown haac28 haacn haacs haaci hK.1 hP hD hS 5 1 0 0 rfl rfl rfl rfl rfl (by decide +kernel) (by decide +kernel) (by decide +kernel) (by decide +kernel) (by decide +kernel) (fun _ _ => rfl) (Nat.le_of_ble_eq_true rfl) (Nat.le_of_ble_eq_true rfl) dX0_becomeLike_12 (fun H locs hP hD hS => ?_)
  rw [show (nI 0).toNatClampNeg = 0 from by decide +kernel, show (nI 81).toNatClampNeg = 81 from by decide +kernel] at hP hD
  have hP : va_P E.1 vwCl (wCo E o a b d (va_cpy gr2 gr 0 0 81) co hb_ mo ++ wCo E o2 a2 b2 d2 gr2 co2 hb2 mo2) H := hP
  have hD : va_D A (wCo E o a b d (va_cpy gr2 gr 0 0 81) co hb_ mo ++ wCo E o2 a2 b2 d2 gr2 co2 hb2 mo2) := hD
  refine lv_aload_n hx hb dX0_becomeLike_15 rfl (lv_at hl 1 rfl) ?_
  refine va_get (D := E.1) (ci := 0) (v := .ref b2) (C := RX0) (T := TX0) (N := 4) hx hb hts hin0 hown hK.1 hP 4 rfl rfl 1 (by decide) lk15 (fun _ h9 => h9) rfl dX0_becomeLike_16 ?_
  refine lv_iconst (v := nI 0) hx hb dX0_becomeLike_19 (by decide +kernel) ?_
  refine lv_aload_n hx hb dX0_becomeLike_20 rfl (lv_at hl 0 rfl) ?_
  refine va_get (D := E.1) (ci := 0) (v := .ref b) (C := RX0) (T := TX0) (N := 4) hx hb hts hin0 hown hK.1 hP 0 rfl rfl 1 (by decide) lk15 (fun _ h9 => h9) rfl dX0_becomeLike_21 ?_
  refine lv_iconst (v := nI 0) hx hb dX0_becomeLike_24 (by decide +kernel) ?_
  refine lv_bipush (v := nI 81) hx hb dX0_becomeLike_25 (by decide +kernel) ?_
  refine va_copyi hx hb (by rw [hml]; exact hl.1.symm) hown haac28 haacn haacs haaci hK.1 hP hD hS 6 2 0 0 rfl rfl rfl rfl rfl (by decide +kernel) (by decide +kernel) (by decide +kernel) (by decide +kernel) (by decide +kernel) (fun _ _ => rfl) (Nat.le_of_ble_eq_true rfl) (Nat.le_of_ble_eq_true rfl) dX0_becomeLike_27 (fun H locs hP hD hS => ?_)
  rw [show (nI 0).toNatClampNeg = 0 from by decide +kernel, show (nI 81).toNatClampNeg = 81 from by decide +kernel] at hP hD
  have hP : va_P E.1 vwCl (wCo E o a b d (va_cpy gr2 gr 0 0 81) (va_cpy co2 co 0 0 81) hb_ mo ++ wCo E o2 a2 b2 d2 gr2 co2 hb2 mo2) H := hP
  have hD : va_D A (wCo E o a b d (va_cpy gr2 gr 0 0 81) (va_cpy co2 co 0 0 81) hb_ mo ++ wCo E o2 a2 b2 d2 gr2 co2 hb2 mo2) := hD
  have hP := e_cong hP 1 (g := gr2) rfl (fun k h => by rw [pk_cpy_in (by omega) (by omega)]; congr 1; omega)
  have hD := va_D.set (e := .inl (E.2.1, 81, .inl (gr2))) hD (p := 1) rfl
  have hP : va_P E.1 vwCl (wCo E o a b d gr2 (va_cpy co2 co 0 0 81) hb_ mo ++ wCo E o2 a2 b2 d2 gr2 co2 hb2 mo2) H := hP
  have hD : va_D A (wCo E o a b d gr2 (va_cpy co2 co 0 0 81) hb_ mo ++ wCo E o2 a2 b2 d2 gr2 co2 hb2 mo2) := hD
  have hP := e_cong hP 2 (g := co2) rfl (fun k h => by rw [pk_cpy_in (by omega) (by omega)]; congr 1; omega)
  have hD := va_D.set (e := .inl (E.2.1, 81, .inl (co2))) hD (p := 2) rfl
  have hP : va_P E.1 vwCl (wCo E o a b d gr2 co2 hb_ mo ++ wCo E o2 a2 b2 d2 gr2 co2 hb2 mo2) H := hP
  have hD : va_D A (wCo E o a b d gr2 co2 hb_ mo ++ wCo E o2 a2 b2 d2 gr2 co2 hb2 mo2) := hD
  refine lv_aload_n hx hb dX0_becomeLike_30 rfl (lv_at hl 0 rfl) ?_
  refine lv_aload_n hx hb dX0_becomeLike_31 rfl (lv_at hl 1 rfl) ?_
  refine va_get (D := E.1) (ci := 0) (v := .int mo2) (C := RX0) (T := TX0) (N := 4) hx hb hts hin0 hown hK.1 hP 4 rfl rfl 3 (by decide) lk34 (fun _ h9 => h9) rfl dX0_becomeLike_32 ?_
  refine va_put (D := E.1) (ci := 0) (v := .int mo2) (ty := .int) (C := RX0) (T := TX0) (N := 4) hx hb hts hin0 tyX0 tyX0_ok nmX0 hown hK.1 hP hD hS 0 rfl rfl 3 (by decide) lk34 (fun _ h9 => h9) rfl (by decide +kernel) rfl rfl (Nat.le_of_ble_eq_true rfl) dX0_becomeLike_35 (fun H locs hP hD hS => ?_)
  have hP : va_P E.1 vwCl (wCo E o a b d gr2 co2 hb_ mo2 ++ wCo E o2 a2 b2 d2 gr2 co2 hb2 mo2) H := hP
  have hD : va_D A (wCo E o a b d gr2 co2 hb_ mo2 ++ wCo E o2 a2 b2 d2 gr2 co2 hb2 mo2) := hD
  exact e_vret () hQ hx hb hr hlocks hP hD hS dX0_becomeLike_38 (rfl) (Nat.le_of_ble_eq_true rfl) (Nat.le_of_ble_eq_true rfl) (trivial)

abbrev rm_X0_letMonthGo : Room := { frames := 4, cells := 0, slots := 0, locals := 90 }
set_option maxHeartbeats 4000000 in
set_option maxRecDepth 100000 in
theorem c_X0_letMonthGo (l : Launch) (E : eT) (sz : Nat) (o : Nat) (a : Nat) (b : Nat) (d : Nat) (gr : Nat → Int32) (co : Nat → Int32) (hb_ : Nat → Bool) (mo : Nat) (to : Nat) (ta : Nat) (tb : Nat) (wm : Nat → Int32) (st : Nat → Int32) (hmo : mo < 2 ^ 31 - 1) : cM l yX0_letMonthGo wsX0_letMonthGo rm_X0_letMonthGo E sz [.ref o, .ref to] (wCo E o a b d gr co hb_ (nI mo) ++ wTb E to ta tb wm st) (fun u : (Nat → Bool) => none) (fun u : (Nat → Bool) => True) (fun u : (Nat → Bool) => wCo E o a b d ((month1 wm st (gr, co) mo).1) ((month1 wm st (gr, co) mo).2) u (nI (mo + 1)) ++ wTb E to ta tb wm st) := by
  refine cM_intro (cc := cX0_letMonthGo) (maxL := 2) (ret := none) (by decide +kernel) rfl (Nat.le_of_ble_eq_true rfl) ?_
  intro p e s m args below meth cd hx hb hr hml hown hlocks hts hnm hK hsz hP A hD hA Q hQ ls hl
  have hown : s.vm.findClass RX0 = some m.cls := hown
  have hin0 : ∀ w ∈ u_ws RX0 TX0 4, w ∈ wsX0_letMonthGo := by decide +kernel
  have lk34 := hts (.fieldLink RX0 34 "ReefPilot$Coast" "month" "I") (by decide +kernel)
  have hS : va_S A s.heap s.heap [] := va_S.rf
  have hl : lv_has ls 2 [(0, .ref o), (1, .ref to)] := hl
  refine lv_aload_n hx hb dX0_letMonthGo_0 rfl (lv_at hl 0 rfl) ?_
  refine lv_aload_n hx hb dX0_letMonthGo_1 rfl (lv_at hl 1 rfl) ?_
  refine lv_aload_n hx hb dX0_letMonthGo_2 rfl (lv_at hl 0 rfl) ?_
  refine va_get (D := E.1) (ci := 0) (v := .int (nI mo)) (C := RX0) (T := TX0) (N := 4) hx hb hts hin0 hown hK.1 hP 0 rfl rfl 3 (by decide) lk34 (fun _ h9 => h9) rfl dX0_letMonthGo_3 ?_
  refine e_callV (As := [.int (nI mo)]) (rest := [.ref o]) ⟨hx, hb, hml, hown, hts⟩ hK hP hD hS hA hl.1 (c_X3_warmthIn l E _ to ta tb wm st mo (by first | omega | assumption | rfl | (simp_all; done))) (cwV 1 hts gX0_letMonthGo_X3_warmthIn rfl rfl rfl (by decide +kernel) ⟨Nat.le_of_ble_eq_true rfl, Nat.le_of_ble_eq_true rfl⟩) [4, 5, 6] [0, 1, 2, 3] rfl rfl rfl rfl (by decide) (q0 := 4) (ci := 3) rfl rfl rfl rfl (Nat.le_of_ble_eq_true rfl) dX0_letMonthGo_6 ⟨Nat.le_of_ble_eq_true rfl, Nat.le_of_ble_eq_true rfl⟩ (fun u_1 H locs hu_2 hz hP hD hS => ?_)
  have hP : va_P E.1 vwCl (wCo E o a b d gr co hb_ (nI mo) ++ wTb E to ta tb wm st) H := hP.sub [0, 1, 2, 3, 4, 5, 6] rfl
  have hD : va_D A (wCo E o a b d gr co hb_ (nI mo) ++ wTb E to ta tb wm st) := hD.sub [0, 1, 2, 3, 4, 5, 6] (by decide) rfl
  refine W.eq (g2 := F0 m 9 ls [.int (wm (mo % 12)), .ref o]) rfl ?_
  refine e_callV (As := [.int (wm (mo % 12))]) (rest := []) ⟨hx, hb, hml, hown, hts⟩ hK hP hD hS hA hl.1 (c_X0_changeByWarmth l E _ o a b d gr co hb_ (nI mo) (wm (mo % 12))) (cwV 1 hts gX0_letMonthGo_X0_changeByWarmth rfl rfl rfl (by decide +kernel) ⟨Nat.le_of_ble_eq_true rfl, Nat.le_of_ble_eq_true rfl⟩) [0, 1, 2, 3] [4, 5, 6] rfl rfl rfl rfl (by decide) (q0 := 0) (ci := 0) rfl rfl rfl rfl (Nat.le_of_ble_eq_true rfl) dX0_letMonthGo_9 ⟨Nat.le_of_ble_eq_true rfl, Nat.le_of_ble_eq_true rfl⟩ (fun u_3 H locs hu_4 hz hP hD hS => ?_)
  obtain ⟨hz_5, rfl⟩ : ∃ z, z = u_3 := ⟨_, rfl⟩
  have hP : va_P E.1 vwCl (wCo E o a b d gr (warmed (wm (mo % 12)) gr co) hz_5 (nI mo) ++ wTb E to ta tb wm st) H := hP.sub [3, 4, 5, 6, 0, 1, 2] rfl
  have hD : va_D A (wCo E o a b d gr (warmed (wm (mo % 12)) gr co) hz_5 (nI mo) ++ wTb E to ta tb wm st) := hD.sub [3, 4, 5, 6, 0, 1, 2] (by decide) rfl
  refine W.eq (g2 := F0 m 12 ls []) rfl ?_
  refine lv_aload_n hx hb dX0_letMonthGo_12 rfl (lv_at hl 0 rfl) ?_
  refine e_callV (As := []) (rest := []) ⟨hx, hb, hml, hown, hts⟩ hK hP hD hS hA hl.1 (c_X0_seed l E _ o a b d gr (warmed (wm (mo % 12)) gr co) hz_5 (nI mo)) (cwV 0 hts gX0_letMonthGo_X0_seed rfl rfl rfl (by decide +kernel) ⟨Nat.le_of_ble_eq_true rfl, Nat.le_of_ble_eq_true rfl⟩) [0, 1, 2, 3] [4, 5, 6] rfl rfl rfl rfl (by decide) (q0 := 0) (ci := 0) rfl rfl rfl rfl (Nat.le_of_ble_eq_true rfl) dX0_letMonthGo_13 ⟨Nat.le_of_ble_eq_true rfl, Nat.le_of_ble_eq_true rfl⟩ (fun u_6 H locs hu_7 hz hP hD hS => ?_)
  have hP : va_P E.1 vwCl (wCo E o a b d gr (seeded gr (warmed (wm (mo % 12)) gr co)) (hd (warmed (wm (mo % 12)) gr co)) (nI mo) ++ wTb E to ta tb wm st) H := hP.sub [3, 4, 5, 6, 0, 1, 2] rfl
  have hD : va_D A (wCo E o a b d gr (seeded gr (warmed (wm (mo % 12)) gr co)) (hd (warmed (wm (mo % 12)) gr co)) (nI mo) ++ wTb E to ta tb wm st) := hD.sub [3, 4, 5, 6, 0, 1, 2] (by decide) rfl
  refine W.eq (g2 := F0 m 16 ls []) rfl ?_
  refine lv_aload_n hx hb dX0_letMonthGo_16 rfl (lv_at hl 0 rfl) ?_
  refine lv_aload_n hx hb dX0_letMonthGo_17 rfl (lv_at hl 1 rfl) ?_
  refine lv_aload_n hx hb dX0_letMonthGo_18 rfl (lv_at hl 0 rfl) ?_
  refine va_get (D := E.1) (ci := 0) (v := .int (nI mo)) (C := RX0) (T := TX0) (N := 4) hx hb hts hin0 hown hK.1 hP 0 rfl rfl 3 (by decide) lk34 (fun _ h9 => h9) rfl dX0_letMonthGo_19 ?_
  refine e_callV (As := [.int (nI mo)]) (rest := [.ref o]) ⟨hx, hb, hml, hown, hts⟩ hK hP hD hS hA hl.1 (c_X3_stormIn l E _ to ta tb wm st mo (by first | omega | assumption | rfl | (simp_all; done))) (cwV 1 hts gX0_letMonthGo_X3_stormIn rfl rfl rfl (by decide +kernel) ⟨Nat.le_of_ble_eq_true rfl, Nat.le_of_ble_eq_true rfl⟩) [4, 5, 6] [0, 1, 2, 3] rfl rfl rfl rfl (by decide) (q0 := 4) (ci := 3) rfl rfl rfl rfl (Nat.le_of_ble_eq_true rfl) dX0_letMonthGo_22 ⟨Nat.le_of_ble_eq_true rfl, Nat.le_of_ble_eq_true rfl⟩ (fun u_8 H locs hu_9 hz hP hD hS => ?_)
  have hP : va_P E.1 vwCl (wCo E o a b d gr (seeded gr (warmed (wm (mo % 12)) gr co)) (hd (warmed (wm (mo % 12)) gr co)) (nI mo) ++ wTb E to ta tb wm st) H := hP.sub [0, 1, 2, 3, 4, 5, 6] rfl
  have hD : va_D A (wCo E o a b d gr (seeded gr (warmed (wm (mo % 12)) gr co)) (hd (warmed (wm (mo % 12)) gr co)) (nI mo) ++ wTb E to ta tb wm st) := hD.sub [0, 1, 2, 3, 4, 5, 6] (by decide) rfl
  refine W.eq (g2 := F0 m 25 ls [.int (st (mo % 12)), .ref o]) rfl ?_
  refine e_callV (As := [.int (st (mo % 12))]) (rest := []) ⟨hx, hb, hml, hown, hts⟩ hK hP hD hS hA hl.1 (c_X0_breakByStorm l E _ o a b d gr (seeded gr (warmed (wm (mo % 12)) gr co)) (hd (warmed (wm (mo % 12)) gr co)) (nI mo) (st (mo % 12))) (cwV 1 hts gX0_letMonthGo_X0_breakByStorm rfl rfl rfl (by decide +kernel) ⟨Nat.le_of_ble_eq_true rfl, Nat.le_of_ble_eq_true rfl⟩) [0, 1, 2, 3] [4, 5, 6] rfl rfl rfl rfl (by decide) (q0 := 0) (ci := 0) rfl rfl rfl rfl (Nat.le_of_ble_eq_true rfl) dX0_letMonthGo_25 ⟨Nat.le_of_ble_eq_true rfl, Nat.le_of_ble_eq_true rfl⟩ (fun u_10 H locs hu_11 hz hP hD hS => ?_)
  have hP : va_P E.1 vwCl (wCo E o a b d ((blows (st (mo % 12)) (gr, (seeded gr (warmed (wm (mo % 12)) gr co))) 81).1) ((blows (st (mo % 12)) (gr, (seeded gr (warmed (wm (mo % 12)) gr co))) 81).2) (hd (warmed (wm (mo % 12)) gr co)) (nI mo) ++ wTb E to ta tb wm st) H := hP.sub [3, 4, 5, 6, 0, 1, 2] rfl
  have hD : va_D A (wCo E o a b d ((blows (st (mo % 12)) (gr, (seeded gr (warmed (wm (mo % 12)) gr co))) 81).1) ((blows (st (mo % 12)) (gr, (seeded gr (warmed (wm (mo % 12)) gr co))) 81).2) (hd (warmed (wm (mo % 12)) gr co)) (nI mo) ++ wTb E to ta tb wm st) := hD.sub [3, 4, 5, 6, 0, 1, 2] (by decide) rfl
  refine W.eq (g2 := F0 m 28 ls []) rfl ?_
  refine lv_aload_n hx hb dX0_letMonthGo_28 rfl (lv_at hl 0 rfl) ?_
  refine lv_dup hx hb dX0_letMonthGo_29 rfl ?_
  refine va_get (D := E.1) (ci := 0) (v := .int (nI mo)) (C := RX0) (T := TX0) (N := 4) hx hb hts hin0 hown hK.1 hP 0 rfl rfl 3 (by decide) lk34 (fun _ h9 => h9) rfl dX0_letMonthGo_30 ?_
  refine lv_iconst (v := nI 1) hx hb dX0_letMonthGo_33 (by decide +kernel) ?_
  refine lv_iadd hx hb dX0_letMonthGo_34 ?_
  refine e_top (nI_add _ _) ?_
  refine va_put (D := E.1) (ci := 0) (v := .int (nI (mo + 1))) (ty := .int) (C := RX0) (T := TX0) (N := 4) hx hb hts hin0 tyX0 tyX0_ok nmX0 hown hK.1 hP hD hS 0 rfl rfl 3 (by decide) lk34 (fun _ h9 => h9) rfl (by decide +kernel) rfl rfl (Nat.le_of_ble_eq_true rfl) dX0_letMonthGo_35 (fun H locs hP hD hS => ?_)
  have hP : va_P E.1 vwCl (wCo E o a b d ((blows (st (mo % 12)) (gr, (seeded gr (warmed (wm (mo % 12)) gr co))) 81).1) ((blows (st (mo % 12)) (gr, (seeded gr (warmed (wm (mo % 12)) gr co))) 81).2) (hd (warmed (wm (mo % 12)) gr co)) (nI (mo + 1)) ++ wTb E to ta tb wm st) H := hP
  have hD : va_D A (wCo E o a b d ((blows (st (mo % 12)) (gr, (seeded gr (warmed (wm (mo % 12)) gr co))) 81).1) ((blows (st (mo % 12)) (gr, (seeded gr (warmed (wm (mo % 12)) gr co))) 81).2) (hd (warmed (wm (mo % 12)) gr co)) (nI (mo + 1)) ++ wTb E to ta tb wm st) := hD
  exact e_vret (hd (warmed (wm (mo % 12)) gr co)) hQ hx hb hr hlocks hP hD hS dX0_letMonthGo_38 (rfl) (Nat.le_of_ble_eq_true rfl) (Nat.le_of_ble_eq_true rfl) (trivial)

abbrev rm_X0_init : Room := { frames := 1, cells := 3, slots := 243, locals := 23 }
set_option maxHeartbeats 4000000 in
set_option maxRecDepth 100000 in
theorem c_X0_init (l : Launch) (E : eT) (sz : Nat) (o : Nat) : cM l yX0_init wsX0_init rm_X0_init E sz [.ref o] ([(o, .inr (0, [.null, .null, .null, .int 0]))]) (fun u : (Nat) × (Nat) × (Nat) => none) (fun u : (Nat) × (Nat) × (Nat) => True) (fun u : (Nat) × (Nat) × (Nat) => wCo E o u.1 u.2.1 u.2.2 (fun _ => nI 20) (fun _ => nI 0) (fun _ => false) (nI 0)) := by
  refine cM_intro (cc := cX0_init) (maxL := 1) (ret := none) (by decide +kernel) rfl (Nat.le_of_ble_eq_true rfl) ?_
  intro p e s m args below meth cd hx hb hr hml hown hlocks hts hnm hK hsz hP A hD hA Q hQ ls hl
  have hown : s.vm.findClass RX0 = some m.cls := hown
  have hin : meth.name = "<init>" := hnm
  have hin0 : ∀ w ∈ u_ws RX0 TX0 4, w ∈ wsX0_init := by decide +kernel
  have lk9 := hts (.fieldLink RX0 9 "ReefPilot$Coast" "ground" "[I") (by decide +kernel)
  have lk15 := hts (.fieldLink RX0 15 "ReefPilot$Coast" "coral" "[I") (by decide +kernel)
  have lk18 := hts (.fieldLink RX0 18 "ReefPilot$Coast" "headBefore" "[Z") (by decide +kernel)
  have haboolean := hts (.arrayClass .boolean) (by decide +kernel)
  have haint := hts (.arrayClass .int) (by decide +kernel)
  have haoi1 := hts (.methodLink RX0 3 objectInit) (by decide +kernel)
  have haoi2 := hts (.instanceMethod objectInit) (by decide +kernel)
  have haoi3 := hts (.code objectInit ⟨#[0xb1]⟩ 1 none) (by decide +kernel)
  have hS : va_S A s.heap s.heap [] := va_S.rf
  have hl : lv_has ls 1 [(0, .ref o)] := hl
  refine lv_aload_n hx hb dX0_init_0 rfl (lv_at hl 0 rfl) ?_
  refine W.objInit hx hb hown haoi1 haoi2 haoi3 rfl (by rw [hml]; exact hl.1) rfl dX0_init_1 (Nat.le_of_ble_eq_true rfl) (Nat.le_of_ble_eq_true rfl) ?_
  refine W.eq (g2 := F0 m 4 ls []) rfl ?_
  refine lv_aload_n hx hb dX0_init_4 rfl (lv_at hl 0 rfl) ?_
  refine lv_bipush (v := nI 81) hx hb dX0_init_5 (by decide +kernel) ?_
  refine e_newI hK hP hD hS hA hx hb haint 81 (by decide) rfl (Nat.le_of_ble_eq_true rfl) (Nat.le_of_ble_eq_true rfl) dX0_init_7 (fun q_1 H hP hD hS => ?_)
  have hP : va_P E.1 vwCl ([(o, .inr (0, [.null, .null, .null, .int 0]))] ++ [(q_1, .inl (E.2.1, 81, .inl (fun _ => 0)))]) H := hP
  have hD : va_D A ([(o, .inr (0, [.null, .null, .null, .int 0]))] ++ [(q_1, .inl (E.2.1, 81, .inl (fun _ => 0)))]) := hD
  refine va_putF (D := E.1) (ci := 0) (v := .ref q_1) (ty := (.array .int)) (C := RX0) (T := TX0) (N := 4) hx hb hts hin0 tyX0 tyX0_ok nmX0 hown hK.1 hP hD hS 0 rfl rfl 0 (by decide) lk9 (fun _ h9 => h9) rfl hin rfl (by decide +kernel) rfl rfl (Nat.le_of_ble_eq_true rfl) dX0_init_9 (fun H locs hP hD hS => ?_)
  have hP : va_P E.1 vwCl ([(o, .inr (0, [.ref q_1, .null, .null, .int 0]))] ++ [(q_1, .inl (E.2.1, 81, .inl (fun _ => 0)))]) H := hP
  have hD : va_D A ([(o, .inr (0, [.ref q_1, .null, .null, .int 0]))] ++ [(q_1, .inl (E.2.1, 81, .inl (fun _ => 0)))]) := hD
  refine lv_aload_n hx hb dX0_init_12 rfl (lv_at hl 0 rfl) ?_
  refine lv_bipush (v := nI 81) hx hb dX0_init_13 (by decide +kernel) ?_
  refine e_newI hK hP hD hS hA hx hb haint 81 (by decide) rfl (Nat.le_of_ble_eq_true rfl) (Nat.le_of_ble_eq_true rfl) dX0_init_15 (fun q_2 H hP hD hS => ?_)
  have hP : va_P E.1 vwCl ([(o, .inr (0, [.ref q_1, .null, .null, .int 0]))] ++ [(q_1, .inl (E.2.1, 81, .inl (fun _ => 0)))] ++ [(q_2, .inl (E.2.1, 81, .inl (fun _ => 0)))]) H := hP
  have hD : va_D A ([(o, .inr (0, [.ref q_1, .null, .null, .int 0]))] ++ [(q_1, .inl (E.2.1, 81, .inl (fun _ => 0)))] ++ [(q_2, .inl (E.2.1, 81, .inl (fun _ => 0)))]) := hD
  refine va_putF (D := E.1) (ci := 0) (v := .ref q_2) (ty := (.array .int)) (C := RX0) (T := TX0) (N := 4) hx hb hts hin0 tyX0 tyX0_ok nmX0 hown hK.1 hP hD hS 0 rfl rfl 1 (by decide) lk15 (fun _ h9 => h9) rfl hin rfl (by decide +kernel) rfl rfl (Nat.le_of_ble_eq_true rfl) dX0_init_17 (fun H locs hP hD hS => ?_)
  have hP : va_P E.1 vwCl ([(o, .inr (0, [.ref q_1, .ref q_2, .null, .int 0]))] ++ [(q_1, .inl (E.2.1, 81, .inl (fun _ => 0)))] ++ [(q_2, .inl (E.2.1, 81, .inl (fun _ => 0)))]) H := hP
  have hD : va_D A ([(o, .inr (0, [.ref q_1, .ref q_2, .null, .int 0]))] ++ [(q_1, .inl (E.2.1, 81, .inl (fun _ => 0)))] ++ [(q_2, .inl (E.2.1, 81, .inl (fun _ => 0)))]) := hD
  refine lv_aload_n hx hb dX0_init_20 rfl (lv_at hl 0 rfl) ?_
  refine lv_bipush (v := nI 81) hx hb dX0_init_21 (by decide +kernel) ?_
  refine e_newZ hK hP hD hS hA hx hb haboolean 81 (by decide) rfl (Nat.le_of_ble_eq_true rfl) (Nat.le_of_ble_eq_true rfl) dX0_init_23 (fun q_3 H hP hD hS => ?_)
  have hP : va_P E.1 vwCl ([(o, .inr (0, [.ref q_1, .ref q_2, .null, .int 0]))] ++ [(q_1, .inl (E.2.1, 81, .inl (fun _ => 0)))] ++ [(q_2, .inl (E.2.1, 81, .inl (fun _ => 0)))] ++ [(q_3, .inl (E.2.2.1, 81, .inl (fun k => b2i ((fun _ => false) k))))]) H := hP
  have hD : va_D A ([(o, .inr (0, [.ref q_1, .ref q_2, .null, .int 0]))] ++ [(q_1, .inl (E.2.1, 81, .inl (fun _ => 0)))] ++ [(q_2, .inl (E.2.1, 81, .inl (fun _ => 0)))] ++ [(q_3, .inl (E.2.2.1, 81, .inl (fun k => b2i ((fun _ => false) k))))]) := hD
  refine va_putF (D := E.1) (ci := 0) (v := .ref q_3) (ty := (.array .boolean)) (C := RX0) (T := TX0) (N := 4) hx hb hts hin0 tyX0 tyX0_ok nmX0 hown hK.1 hP hD hS 0 rfl rfl 2 (by decide) lk18 (fun _ h9 => h9) rfl hin rfl (by decide +kernel) rfl rfl (Nat.le_of_ble_eq_true rfl) dX0_init_25 (fun H locs hP hD hS => ?_)
  have hP : va_P E.1 vwCl ([(o, .inr (0, [.ref q_1, .ref q_2, .ref q_3, .int 0]))] ++ [(q_1, .inl (E.2.1, 81, .inl (fun _ => 0)))] ++ [(q_2, .inl (E.2.1, 81, .inl (fun _ => 0)))] ++ [(q_3, .inl (E.2.2.1, 81, .inl (fun k => b2i ((fun _ => false) k))))]) H := hP
  have hD : va_D A ([(o, .inr (0, [.ref q_1, .ref q_2, .ref q_3, .int 0]))] ++ [(q_1, .inl (E.2.1, 81, .inl (fun _ => 0)))] ++ [(q_2, .inl (E.2.1, 81, .inl (fun _ => 0)))] ++ [(q_3, .inl (E.2.2.1, 81, .inl (fun k => b2i ((fun _ => false) k))))]) := hD
  refine lv_aload_n hx hb dX0_init_28 rfl (lv_at hl 0 rfl) ?_
  refine va_get (D := E.1) (ci := 0) (v := .ref q_1) (C := RX0) (T := TX0) (N := 4) hx hb hts hin0 hown hK.1 hP 0 rfl rfl 0 (by decide) lk9 (fun _ h9 => h9) rfl dX0_init_29 ?_
  refine lv_bipush (v := nI 20) hx hb dX0_init_32 (by decide +kernel) ?_
  refine e_callS (As := [.ref q_1, .int (nI 20)]) (rest := []) ⟨hx, hb, hml, hown, hts⟩ hK hP hD hS hA hl.1 (c_J7_fill_81 l E _ q_1 (fun _ => 0) (nI 20)) (va_cwS 2 hts gX0_init_J7_fill_53178 rfl rfl rfl (by decide +kernel) ⟨Nat.le_of_ble_eq_true rfl, Nat.le_of_ble_eq_true rfl⟩) [1] [0, 2, 3] rfl rfl rfl rfl (by decide) rfl rfl (Nat.le_of_ble_eq_true rfl) dX0_init_34 ⟨Nat.le_of_ble_eq_true rfl, Nat.le_of_ble_eq_true rfl⟩ (fun u_4 H locs hu_5 hz hP hD hS => ?_)
  have hP : va_P E.1 vwCl ([(o, .inr (0, [.ref q_1, .ref q_2, .ref q_3, .int 0]))] ++ [(q_1, .inl (E.2.1, 81, .inl (fun _ => (nI 20))))] ++ [(q_2, .inl (E.2.1, 81, .inl (fun _ => 0)))] ++ [(q_3, .inl (E.2.2.1, 81, .inl (fun k => b2i ((fun _ => false) k))))]) H := hP.sub [0, 3, 1, 2] rfl
  have hD : va_D A ([(o, .inr (0, [.ref q_1, .ref q_2, .ref q_3, .int 0]))] ++ [(q_1, .inl (E.2.1, 81, .inl (fun _ => (nI 20))))] ++ [(q_2, .inl (E.2.1, 81, .inl (fun _ => 0)))] ++ [(q_3, .inl (E.2.2.1, 81, .inl (fun k => b2i ((fun _ => false) k))))]) := hD.sub [0, 3, 1, 2] (by decide) rfl
  refine W.eq (g2 := F0 m 37 ls []) rfl ?_
  exact e_vret (q_1, q_2, q_3) hQ hx hb hr hlocks hP hD hS dX0_init_37 (rfl) (Nat.le_of_ble_eq_true rfl) (Nat.le_of_ble_eq_true rfl) (trivial)

abbrev rm_X1_init : Room := { frames := 1, cells := 2, slots := 162, locals := 23 }
set_option maxHeartbeats 4000000 in
set_option maxRecDepth 100000 in
theorem c_X1_init (l : Launch) (E : eT) (sz : Nat) (o : Nat) : cM l yX1_init wsX1_init rm_X1_init E sz [.ref o] ([(o, .inr (1, [.null, .null]))]) (fun u : (Nat) × (Nat) => none) (fun u : (Nat) × (Nat) => True) (fun u : (Nat) × (Nat) => wSo E o u.1 u.2 (fun _ => (-1)) (fun _ => nI 0)) := by
  refine cM_intro (cc := cX1_init) (maxL := 1) (ret := none) (by decide +kernel) rfl (Nat.le_of_ble_eq_true rfl) ?_
  intro p e s m args below meth cd hx hb hr hml hown hlocks hts hnm hK hsz hP A hD hA Q hQ ls hl
  have hown : s.vm.findClass RX1 = some m.cls := hown
  have hin : meth.name = "<init>" := hnm
  have hin1 : ∀ w ∈ u_ws RX1 TX1 2, w ∈ wsX1_init := by decide +kernel
  have lk9 := hts (.fieldLink RX1 9 "ReefPilot$Soundings" "depth" "[I") (by decide +kernel)
  have lk15 := hts (.fieldLink RX1 15 "ReefPilot$Soundings" "takenIn" "[I") (by decide +kernel)
  have haint := hts (.arrayClass .int) (by decide +kernel)
  have haoi1 := hts (.methodLink RX1 3 objectInit) (by decide +kernel)
  have haoi2 := hts (.instanceMethod objectInit) (by decide +kernel)
  have haoi3 := hts (.code objectInit ⟨#[0xb1]⟩ 1 none) (by decide +kernel)
  have hS : va_S A s.heap s.heap [] := va_S.rf
  have hl : lv_has ls 1 [(0, .ref o)] := hl
  refine lv_aload_n hx hb dX1_init_0 rfl (lv_at hl 0 rfl) ?_
  refine W.objInit hx hb hown haoi1 haoi2 haoi3 rfl (by rw [hml]; exact hl.1) rfl dX1_init_1 (Nat.le_of_ble_eq_true rfl) (Nat.le_of_ble_eq_true rfl) ?_
  refine W.eq (g2 := F0 m 4 ls []) rfl ?_
  refine lv_aload_n hx hb dX1_init_4 rfl (lv_at hl 0 rfl) ?_
  refine lv_bipush (v := nI 81) hx hb dX1_init_5 (by decide +kernel) ?_
  refine e_newI hK hP hD hS hA hx hb haint 81 (by decide) rfl (Nat.le_of_ble_eq_true rfl) (Nat.le_of_ble_eq_true rfl) dX1_init_7 (fun q_1 H hP hD hS => ?_)
  have hP : va_P E.1 vwCl ([(o, .inr (1, [.null, .null]))] ++ [(q_1, .inl (E.2.1, 81, .inl (fun _ => 0)))]) H := hP
  have hD : va_D A ([(o, .inr (1, [.null, .null]))] ++ [(q_1, .inl (E.2.1, 81, .inl (fun _ => 0)))]) := hD
  refine va_putF (D := E.1) (ci := 1) (v := .ref q_1) (ty := (.array .int)) (C := RX1) (T := TX1) (N := 2) hx hb hts hin1 tyX1 tyX1_ok nmX1 hown hK.1 hP hD hS 0 rfl rfl 0 (by decide) lk9 (fun _ h9 => h9) rfl hin rfl (by decide +kernel) rfl rfl (Nat.le_of_ble_eq_true rfl) dX1_init_9 (fun H locs hP hD hS => ?_)
  have hP : va_P E.1 vwCl ([(o, .inr (1, [.ref q_1, .null]))] ++ [(q_1, .inl (E.2.1, 81, .inl (fun _ => 0)))]) H := hP
  have hD : va_D A ([(o, .inr (1, [.ref q_1, .null]))] ++ [(q_1, .inl (E.2.1, 81, .inl (fun _ => 0)))]) := hD
  refine lv_aload_n hx hb dX1_init_12 rfl (lv_at hl 0 rfl) ?_
  refine lv_bipush (v := nI 81) hx hb dX1_init_13 (by decide +kernel) ?_
  refine e_newI hK hP hD hS hA hx hb haint 81 (by decide) rfl (Nat.le_of_ble_eq_true rfl) (Nat.le_of_ble_eq_true rfl) dX1_init_15 (fun q_2 H hP hD hS => ?_)
  have hP : va_P E.1 vwCl ([(o, .inr (1, [.ref q_1, .null]))] ++ [(q_1, .inl (E.2.1, 81, .inl (fun _ => 0)))] ++ [(q_2, .inl (E.2.1, 81, .inl (fun _ => 0)))]) H := hP
  have hD : va_D A ([(o, .inr (1, [.ref q_1, .null]))] ++ [(q_1, .inl (E.2.1, 81, .inl (fun _ => 0)))] ++ [(q_2, .inl (E.2.1, 81, .inl (fun _ => 0)))]) := hD
  refine va_putF (D := E.1) (ci := 1) (v := .ref q_2) (ty := (.array .int)) (C := RX1) (T := TX1) (N := 2) hx hb hts hin1 tyX1 tyX1_ok nmX1 hown hK.1 hP hD hS 0 rfl rfl 1 (by decide) lk15 (fun _ h9 => h9) rfl hin rfl (by decide +kernel) rfl rfl (Nat.le_of_ble_eq_true rfl) dX1_init_17 (fun H locs hP hD hS => ?_)
  have hP : va_P E.1 vwCl ([(o, .inr (1, [.ref q_1, .ref q_2]))] ++ [(q_1, .inl (E.2.1, 81, .inl (fun _ => 0)))] ++ [(q_2, .inl (E.2.1, 81, .inl (fun _ => 0)))]) H := hP
  have hD : va_D A ([(o, .inr (1, [.ref q_1, .ref q_2]))] ++ [(q_1, .inl (E.2.1, 81, .inl (fun _ => 0)))] ++ [(q_2, .inl (E.2.1, 81, .inl (fun _ => 0)))]) := hD
  refine lv_aload_n hx hb dX1_init_20 rfl (lv_at hl 0 rfl) ?_
  refine va_get (D := E.1) (ci := 1) (v := .ref q_1) (C := RX1) (T := TX1) (N := 2) hx hb hts hin1 hown hK.1 hP 0 rfl rfl 0 (by decide) lk9 (fun _ h9 => h9) rfl dX1_init_21 ?_
  refine lv_iconst (v := (-1)) hx hb dX1_init_24 (by decide +kernel) ?_
  refine e_callS (As := [.ref q_1, .int (-1)]) (rest := []) ⟨hx, hb, hml, hown, hts⟩ hK hP hD hS hA hl.1 (c_J7_fill_81 l E _ q_1 (fun _ => 0) (-1)) (va_cwS 2 hts gX1_init_J7_fill_53178 rfl rfl rfl (by decide +kernel) ⟨Nat.le_of_ble_eq_true rfl, Nat.le_of_ble_eq_true rfl⟩) [1] [0, 2] rfl rfl rfl rfl (by decide) rfl rfl (Nat.le_of_ble_eq_true rfl) dX1_init_25 ⟨Nat.le_of_ble_eq_true rfl, Nat.le_of_ble_eq_true rfl⟩ (fun u_3 H locs hu_4 hz hP hD hS => ?_)
  have hP : va_P E.1 vwCl ([(o, .inr (1, [.ref q_1, .ref q_2]))] ++ [(q_1, .inl (E.2.1, 81, .inl (fun _ => (-1))))] ++ [(q_2, .inl (E.2.1, 81, .inl (fun _ => 0)))]) H := hP.sub [0, 2, 1] rfl
  have hD : va_D A ([(o, .inr (1, [.ref q_1, .ref q_2]))] ++ [(q_1, .inl (E.2.1, 81, .inl (fun _ => (-1))))] ++ [(q_2, .inl (E.2.1, 81, .inl (fun _ => 0)))]) := hD.sub [0, 2, 1] (by decide) rfl
  refine W.eq (g2 := F0 m 28 ls []) rfl ?_
  exact e_vret (q_1, q_2) hQ hx hb hr hlocks hP hD hS dX1_init_28 (rfl) (Nat.le_of_ble_eq_true rfl) (Nat.le_of_ble_eq_true rfl) (trivial)

abbrev rm_X2_init : Room := { frames := 1, cells := 3, slots := 243, locals := 12 }
set_option maxHeartbeats 4000000 in
set_option maxRecDepth 100000 in
theorem c_X2_init (l : Launch) (E : eT) (sz : Nat) (o : Nat) : cM l yX2_init wsX2_init rm_X2_init E sz [.ref o] ([(o, .inr (2, [.null, .null, .null, .int 0]))]) (fun u : (Nat) × (Nat) × (Nat) => none) (fun u : (Nat) × (Nat) × (Nat) => True) (fun u : (Nat) × (Nat) × (Nat) => wSp E o u.1 u.2.1 u.2.2 (fun _ => false) (fun _ => 0) (fun _ => 0) 0) := by
  refine cM_intro (cc := cX2_init) (maxL := 1) (ret := none) (by decide +kernel) rfl (Nat.le_of_ble_eq_true rfl) ?_
  intro p e s m args below meth cd hx hb hr hml hown hlocks hts hnm hK hsz hP A hD hA Q hQ ls hl
  have hown : s.vm.findClass RX2 = some m.cls := hown
  have hin : meth.name = "<init>" := hnm
  have hin2 : ∀ w ∈ u_ws RX2 TX2 4, w ∈ wsX2_init := by decide +kernel
  have lk9 := hts (.fieldLink RX2 9 "ReefPilot$Spread" "open" "[Z") (by decide +kernel)
  have lk15 := hts (.fieldLink RX2 15 "ReefPilot$Spread" "steps" "[I") (by decide +kernel)
  have lk19 := hts (.fieldLink RX2 19 "ReefPilot$Spread" "reached" "[I") (by decide +kernel)
  have haboolean := hts (.arrayClass .boolean) (by decide +kernel)
  have haint := hts (.arrayClass .int) (by decide +kernel)
  have haoi1 := hts (.methodLink RX2 3 objectInit) (by decide +kernel)
  have haoi2 := hts (.instanceMethod objectInit) (by decide +kernel)
  have haoi3 := hts (.code objectInit ⟨#[0xb1]⟩ 1 none) (by decide +kernel)
  have hS : va_S A s.heap s.heap [] := va_S.rf
  have hl : lv_has ls 1 [(0, .ref o)] := hl
  refine lv_aload_n hx hb dX2_init_0 rfl (lv_at hl 0 rfl) ?_
  refine W.objInit hx hb hown haoi1 haoi2 haoi3 rfl (by rw [hml]; exact hl.1) rfl dX2_init_1 (Nat.le_of_ble_eq_true rfl) (Nat.le_of_ble_eq_true rfl) ?_
  refine W.eq (g2 := F0 m 4 ls []) rfl ?_
  refine lv_aload_n hx hb dX2_init_4 rfl (lv_at hl 0 rfl) ?_
  refine lv_bipush (v := nI 81) hx hb dX2_init_5 (by decide +kernel) ?_
  refine e_newZ hK hP hD hS hA hx hb haboolean 81 (by decide) rfl (Nat.le_of_ble_eq_true rfl) (Nat.le_of_ble_eq_true rfl) dX2_init_7 (fun q_1 H hP hD hS => ?_)
  have hP : va_P E.1 vwCl ([(o, .inr (2, [.null, .null, .null, .int 0]))] ++ [(q_1, .inl (E.2.2.1, 81, .inl (fun k => b2i ((fun _ => false) k))))]) H := hP
  have hD : va_D A ([(o, .inr (2, [.null, .null, .null, .int 0]))] ++ [(q_1, .inl (E.2.2.1, 81, .inl (fun k => b2i ((fun _ => false) k))))]) := hD
  refine va_putF (D := E.1) (ci := 2) (v := .ref q_1) (ty := (.array .boolean)) (C := RX2) (T := TX2) (N := 4) hx hb hts hin2 tyX2 tyX2_ok nmX2 hown hK.1 hP hD hS 0 rfl rfl 0 (by decide) lk9 (fun _ h9 => h9) rfl hin rfl (by decide +kernel) rfl rfl (Nat.le_of_ble_eq_true rfl) dX2_init_9 (fun H locs hP hD hS => ?_)
  have hP : va_P E.1 vwCl ([(o, .inr (2, [.ref q_1, .null, .null, .int 0]))] ++ [(q_1, .inl (E.2.2.1, 81, .inl (fun k => b2i ((fun _ => false) k))))]) H := hP
  have hD : va_D A ([(o, .inr (2, [.ref q_1, .null, .null, .int 0]))] ++ [(q_1, .inl (E.2.2.1, 81, .inl (fun k => b2i ((fun _ => false) k))))]) := hD
  refine lv_aload_n hx hb dX2_init_12 rfl (lv_at hl 0 rfl) ?_
  refine lv_bipush (v := nI 81) hx hb dX2_init_13 (by decide +kernel) ?_
  refine e_newI hK hP hD hS hA hx hb haint 81 (by decide) rfl (Nat.le_of_ble_eq_true rfl) (Nat.le_of_ble_eq_true rfl) dX2_init_15 (fun q_2 H hP hD hS => ?_)
  have hP : va_P E.1 vwCl ([(o, .inr (2, [.ref q_1, .null, .null, .int 0]))] ++ [(q_1, .inl (E.2.2.1, 81, .inl (fun k => b2i ((fun _ => false) k))))] ++ [(q_2, .inl (E.2.1, 81, .inl (fun _ => 0)))]) H := hP
  have hD : va_D A ([(o, .inr (2, [.ref q_1, .null, .null, .int 0]))] ++ [(q_1, .inl (E.2.2.1, 81, .inl (fun k => b2i ((fun _ => false) k))))] ++ [(q_2, .inl (E.2.1, 81, .inl (fun _ => 0)))]) := hD
  refine va_putF (D := E.1) (ci := 2) (v := .ref q_2) (ty := (.array .int)) (C := RX2) (T := TX2) (N := 4) hx hb hts hin2 tyX2 tyX2_ok nmX2 hown hK.1 hP hD hS 0 rfl rfl 1 (by decide) lk15 (fun _ h9 => h9) rfl hin rfl (by decide +kernel) rfl rfl (Nat.le_of_ble_eq_true rfl) dX2_init_17 (fun H locs hP hD hS => ?_)
  have hP : va_P E.1 vwCl ([(o, .inr (2, [.ref q_1, .ref q_2, .null, .int 0]))] ++ [(q_1, .inl (E.2.2.1, 81, .inl (fun k => b2i ((fun _ => false) k))))] ++ [(q_2, .inl (E.2.1, 81, .inl (fun _ => 0)))]) H := hP
  have hD : va_D A ([(o, .inr (2, [.ref q_1, .ref q_2, .null, .int 0]))] ++ [(q_1, .inl (E.2.2.1, 81, .inl (fun k => b2i ((fun _ => false) k))))] ++ [(q_2, .inl (E.2.1, 81, .inl (fun _ => 0)))]) := hD
  refine lv_aload_n hx hb dX2_init_20 rfl (lv_at hl 0 rfl) ?_
  refine lv_bipush (v := nI 81) hx hb dX2_init_21 (by decide +kernel) ?_
  refine e_newI hK hP hD hS hA hx hb haint 81 (by decide) rfl (Nat.le_of_ble_eq_true rfl) (Nat.le_of_ble_eq_true rfl) dX2_init_23 (fun q_3 H hP hD hS => ?_)
  have hP : va_P E.1 vwCl ([(o, .inr (2, [.ref q_1, .ref q_2, .null, .int 0]))] ++ [(q_1, .inl (E.2.2.1, 81, .inl (fun k => b2i ((fun _ => false) k))))] ++ [(q_2, .inl (E.2.1, 81, .inl (fun _ => 0)))] ++ [(q_3, .inl (E.2.1, 81, .inl (fun _ => 0)))]) H := hP
  have hD : va_D A ([(o, .inr (2, [.ref q_1, .ref q_2, .null, .int 0]))] ++ [(q_1, .inl (E.2.2.1, 81, .inl (fun k => b2i ((fun _ => false) k))))] ++ [(q_2, .inl (E.2.1, 81, .inl (fun _ => 0)))] ++ [(q_3, .inl (E.2.1, 81, .inl (fun _ => 0)))]) := hD
  refine va_putF (D := E.1) (ci := 2) (v := .ref q_3) (ty := (.array .int)) (C := RX2) (T := TX2) (N := 4) hx hb hts hin2 tyX2 tyX2_ok nmX2 hown hK.1 hP hD hS 0 rfl rfl 2 (by decide) lk19 (fun _ h9 => h9) rfl hin rfl (by decide +kernel) rfl rfl (Nat.le_of_ble_eq_true rfl) dX2_init_25 (fun H locs hP hD hS => ?_)
  have hP : va_P E.1 vwCl ([(o, .inr (2, [.ref q_1, .ref q_2, .ref q_3, .int 0]))] ++ [(q_1, .inl (E.2.2.1, 81, .inl (fun k => b2i ((fun _ => false) k))))] ++ [(q_2, .inl (E.2.1, 81, .inl (fun _ => 0)))] ++ [(q_3, .inl (E.2.1, 81, .inl (fun _ => 0)))]) H := hP
  have hD : va_D A ([(o, .inr (2, [.ref q_1, .ref q_2, .ref q_3, .int 0]))] ++ [(q_1, .inl (E.2.2.1, 81, .inl (fun k => b2i ((fun _ => false) k))))] ++ [(q_2, .inl (E.2.1, 81, .inl (fun _ => 0)))] ++ [(q_3, .inl (E.2.1, 81, .inl (fun _ => 0)))]) := hD
  exact e_vret (q_1, q_2, q_3) hQ hx hb hr hlocks hP hD hS dX2_init_28 (rfl) (Nat.le_of_ble_eq_true rfl) (Nat.le_of_ble_eq_true rfl) (trivial)

abbrev rm_X3_init : Room := { frames := 1, cells := 2, slots := 24, locals := 23 }
set_option maxHeartbeats 4000000 in
set_option maxRecDepth 100000 in
theorem c_X3_init (l : Launch) (E : eT) (sz : Nat) (o : Nat) : cM l yX3_init wsX3_init rm_X3_init E sz [.ref o] ([(o, .inr (3, [.null, .null]))]) (fun u : (Nat) × (Nat) => none) (fun u : (Nat) × (Nat) => True) (fun u : (Nat) × (Nat) => wTb E o u.1 u.2 (fun _ => nI 4) (fun _ => nI 0)) := by
  refine cM_intro (cc := cX3_init) (maxL := 1) (ret := none) (by decide +kernel) rfl (Nat.le_of_ble_eq_true rfl) ?_
  intro p e s m args below meth cd hx hb hr hml hown hlocks hts hnm hK hsz hP A hD hA Q hQ ls hl
  have hown : s.vm.findClass RX3 = some m.cls := hown
  have hin : meth.name = "<init>" := hnm
  have hin3 : ∀ w ∈ u_ws RX3 TX3 2, w ∈ wsX3_init := by decide +kernel
  have lk9 := hts (.fieldLink RX3 9 "ReefPilot$Table" "warmth" "[I") (by decide +kernel)
  have lk15 := hts (.fieldLink RX3 15 "ReefPilot$Table" "storm" "[I") (by decide +kernel)
  have haint := hts (.arrayClass .int) (by decide +kernel)
  have haoi1 := hts (.methodLink RX3 3 objectInit) (by decide +kernel)
  have haoi2 := hts (.instanceMethod objectInit) (by decide +kernel)
  have haoi3 := hts (.code objectInit ⟨#[0xb1]⟩ 1 none) (by decide +kernel)
  have hS : va_S A s.heap s.heap [] := va_S.rf
  have hl : lv_has ls 1 [(0, .ref o)] := hl
  refine lv_aload_n hx hb dX3_init_0 rfl (lv_at hl 0 rfl) ?_
  refine W.objInit hx hb hown haoi1 haoi2 haoi3 rfl (by rw [hml]; exact hl.1) rfl dX3_init_1 (Nat.le_of_ble_eq_true rfl) (Nat.le_of_ble_eq_true rfl) ?_
  refine W.eq (g2 := F0 m 4 ls []) rfl ?_
  refine lv_aload_n hx hb dX3_init_4 rfl (lv_at hl 0 rfl) ?_
  refine lv_bipush (v := nI 12) hx hb dX3_init_5 (by decide +kernel) ?_
  refine e_newI hK hP hD hS hA hx hb haint 12 (by decide) rfl (Nat.le_of_ble_eq_true rfl) (Nat.le_of_ble_eq_true rfl) dX3_init_7 (fun q_1 H hP hD hS => ?_)
  have hP : va_P E.1 vwCl ([(o, .inr (3, [.null, .null]))] ++ [(q_1, .inl (E.2.1, 12, .inl (fun _ => 0)))]) H := hP
  have hD : va_D A ([(o, .inr (3, [.null, .null]))] ++ [(q_1, .inl (E.2.1, 12, .inl (fun _ => 0)))]) := hD
  refine va_putF (D := E.1) (ci := 3) (v := .ref q_1) (ty := (.array .int)) (C := RX3) (T := TX3) (N := 2) hx hb hts hin3 tyX3 tyX3_ok nmX3 hown hK.1 hP hD hS 0 rfl rfl 0 (by decide) lk9 (fun _ h9 => h9) rfl hin rfl (by decide +kernel) rfl rfl (Nat.le_of_ble_eq_true rfl) dX3_init_9 (fun H locs hP hD hS => ?_)
  have hP : va_P E.1 vwCl ([(o, .inr (3, [.ref q_1, .null]))] ++ [(q_1, .inl (E.2.1, 12, .inl (fun _ => 0)))]) H := hP
  have hD : va_D A ([(o, .inr (3, [.ref q_1, .null]))] ++ [(q_1, .inl (E.2.1, 12, .inl (fun _ => 0)))]) := hD
  refine lv_aload_n hx hb dX3_init_12 rfl (lv_at hl 0 rfl) ?_
  refine lv_bipush (v := nI 12) hx hb dX3_init_13 (by decide +kernel) ?_
  refine e_newI hK hP hD hS hA hx hb haint 12 (by decide) rfl (Nat.le_of_ble_eq_true rfl) (Nat.le_of_ble_eq_true rfl) dX3_init_15 (fun q_2 H hP hD hS => ?_)
  have hP : va_P E.1 vwCl ([(o, .inr (3, [.ref q_1, .null]))] ++ [(q_1, .inl (E.2.1, 12, .inl (fun _ => 0)))] ++ [(q_2, .inl (E.2.1, 12, .inl (fun _ => 0)))]) H := hP
  have hD : va_D A ([(o, .inr (3, [.ref q_1, .null]))] ++ [(q_1, .inl (E.2.1, 12, .inl (fun _ => 0)))] ++ [(q_2, .inl (E.2.1, 12, .inl (fun _ => 0)))]) := hD
  refine va_putF (D := E.1) (ci := 3) (v := .ref q_2) (ty := (.array .int)) (C := RX3) (T := TX3) (N := 2) hx hb hts hin3 tyX3 tyX3_ok nmX3 hown hK.1 hP hD hS 0 rfl rfl 1 (by decide) lk15 (fun _ h9 => h9) rfl hin rfl (by decide +kernel) rfl rfl (Nat.le_of_ble_eq_true rfl) dX3_init_17 (fun H locs hP hD hS => ?_)
  have hP : va_P E.1 vwCl ([(o, .inr (3, [.ref q_1, .ref q_2]))] ++ [(q_1, .inl (E.2.1, 12, .inl (fun _ => 0)))] ++ [(q_2, .inl (E.2.1, 12, .inl (fun _ => 0)))]) H := hP
  have hD : va_D A ([(o, .inr (3, [.ref q_1, .ref q_2]))] ++ [(q_1, .inl (E.2.1, 12, .inl (fun _ => 0)))] ++ [(q_2, .inl (E.2.1, 12, .inl (fun _ => 0)))]) := hD
  refine lv_aload_n hx hb dX3_init_20 rfl (lv_at hl 0 rfl) ?_
  refine va_get (D := E.1) (ci := 3) (v := .ref q_1) (C := RX3) (T := TX3) (N := 2) hx hb hts hin3 hown hK.1 hP 0 rfl rfl 0 (by decide) lk9 (fun _ h9 => h9) rfl dX3_init_21 ?_
  refine lv_iconst (v := nI 4) hx hb dX3_init_24 (by decide +kernel) ?_
  refine e_callS (As := [.ref q_1, .int (nI 4)]) (rest := []) ⟨hx, hb, hml, hown, hts⟩ hK hP hD hS hA hl.1 (c_J7_fill_12 l E _ q_1 (fun _ => 0) (nI 4)) (va_cwS 2 hts gX3_init_J7_fill_53178 rfl rfl rfl (by decide +kernel) ⟨Nat.le_of_ble_eq_true rfl, Nat.le_of_ble_eq_true rfl⟩) [1] [0, 2] rfl rfl rfl rfl (by decide) rfl rfl (Nat.le_of_ble_eq_true rfl) dX3_init_25 ⟨Nat.le_of_ble_eq_true rfl, Nat.le_of_ble_eq_true rfl⟩ (fun u_3 H locs hu_4 hz hP hD hS => ?_)
  have hP : va_P E.1 vwCl ([(o, .inr (3, [.ref q_1, .ref q_2]))] ++ [(q_1, .inl (E.2.1, 12, .inl (fun _ => (nI 4))))] ++ [(q_2, .inl (E.2.1, 12, .inl (fun _ => 0)))]) H := hP.sub [0, 2, 1] rfl
  have hD : va_D A ([(o, .inr (3, [.ref q_1, .ref q_2]))] ++ [(q_1, .inl (E.2.1, 12, .inl (fun _ => (nI 4))))] ++ [(q_2, .inl (E.2.1, 12, .inl (fun _ => 0)))]) := hD.sub [0, 2, 1] (by decide) rfl
  refine W.eq (g2 := F0 m 28 ls []) rfl ?_
  exact e_vret (q_1, q_2) hQ hx hb hr hlocks hP hD hS dX3_init_28 (rfl) (Nat.le_of_ble_eq_true rfl) (Nat.le_of_ble_eq_true rfl) (trivial)

abbrev rm_X4_init : Room := { frames := 2, cells := 19, slots := 1012, locals := 43 }
set_option maxHeartbeats 4000000 in
set_option maxRecDepth 100000 in
theorem c_X4_init (l : Launch) (E : eT) (sz : Nat) (o : Nat) : cM l yX4_init wsX4_init rm_X4_init E sz [.ref o] ([(o, .inr (4, [.null, .null, .null, .null, .null, .null]))]) (fun u : (Nat → Nat) => none) (fun u : (Nat → Nat) => True) (fun u : (Nat → Nat) => wAll E o u (fun _ => nI 4) (fun _ => nI 0) (fun _ => nI 20) (fun _ => nI 0) (fun _ => false) (nI 0) (fun _ => nI 20) (fun _ => nI 0) (fun _ => false) (nI 0) (fun _ => (-1)) (fun _ => nI 0) (fun _ => false) (fun _ => 0) (fun _ => 0) 0 (fun _ => nI 0)) := by
  refine cM_intro (cc := cX4_init) (maxL := 1) (ret := none) (by decide +kernel) rfl (Nat.le_of_ble_eq_true rfl) ?_
  intro p e s m args below meth cd hx hb hr hml hown hlocks hts hnm hK hsz hP A hD hA Q hQ ls hl
  have hown : s.vm.findClass RX4 = some m.cls := hown
  have hin : meth.name = "<init>" := hnm
  have hin0 : ∀ w ∈ u_ws RX0 TX0 4, w ∈ wsX4_init := by decide +kernel
  have hin1 : ∀ w ∈ u_ws RX1 TX1 2, w ∈ wsX4_init := by decide +kernel
  have hin2 : ∀ w ∈ u_ws RX2 TX2 4, w ∈ wsX4_init := by decide +kernel
  have hin3 : ∀ w ∈ u_ws RX3 TX3 2, w ∈ wsX4_init := by decide +kernel
  have hin4 : ∀ w ∈ u_ws RX4 TX4 6, w ∈ wsX4_init := by decide +kernel
  have lk12 := hts (.fieldLink RX4 12 "ReefPilot" "table" "LReefPilot$Table;") (by decide +kernel)
  have lk19 := hts (.fieldLink RX4 19 "ReefPilot" "coast" "LReefPilot$Coast;") (by decide +kernel)
  have lk23 := hts (.fieldLink RX4 23 "ReefPilot" "ahead" "LReefPilot$Coast;") (by decide +kernel)
  have lk29 := hts (.fieldLink RX4 29 "ReefPilot" "soundings" "LReefPilot$Soundings;") (by decide +kernel)
  have lk36 := hts (.fieldLink RX4 36 "ReefPilot" "spread" "LReefPilot$Spread;") (by decide +kernel)
  have lk40 := hts (.fieldLink RX4 40 "ReefPilot" "water" "[I") (by decide +kernel)
  have hacl16 := hts (.classLink RX4 16 RX0) (by decide +kernel)
  have hacl26 := hts (.classLink RX4 26 RX1) (by decide +kernel)
  have hacl33 := hts (.classLink RX4 33 RX2) (by decide +kernel)
  have hacl9 := hts (.classLink RX4 9 RX3) (by decide +kernel)
  have haimX0_init := hts (.instanceMethod yX0_init) (by decide +kernel)
  have haimX1_init := hts (.instanceMethod yX1_init) (by decide +kernel)
  have haimX2_init := hts (.instanceMethod yX2_init) (by decide +kernel)
  have haimX3_init := hts (.instanceMethod yX3_init) (by decide +kernel)
  have hain0 := hts (.instantiable RX0 4) (by decide +kernel)
  have hain1 := hts (.instantiable RX1 2) (by decide +kernel)
  have hain2 := hts (.instantiable RX2 4) (by decide +kernel)
  have hain3 := hts (.instantiable RX3 2) (by decide +kernel)
  have haini0 := hts (.initialized RX0) (by decide +kernel)
  have haini1 := hts (.initialized RX1) (by decide +kernel)
  have haini2 := hts (.initialized RX2) (by decide +kernel)
  have haini3 := hts (.initialized RX3) (by decide +kernel)
  have hainiX0_init := hts (.initialized RX0) (by decide +kernel)
  have hainiX1_init := hts (.initialized RX1) (by decide +kernel)
  have hainiX2_init := hts (.initialized RX2) (by decide +kernel)
  have hainiX3_init := hts (.initialized RX3) (by decide +kernel)
  have haint := hts (.arrayClass .int) (by decide +kernel)
  have haml11 := hts (.methodLink RX4 11 yX3_init) (by decide +kernel)
  have haml18 := hts (.methodLink RX4 18 yX0_init) (by decide +kernel)
  have haml28 := hts (.methodLink RX4 28 yX1_init) (by decide +kernel)
  have haoi1 := hts (.methodLink RX4 3 objectInit) (by decide +kernel)
  have haoi2 := hts (.instanceMethod objectInit) (by decide +kernel)
  have haoi3 := hts (.code objectInit ⟨#[0xb1]⟩ 1 none) (by decide +kernel)
  have hS : va_S A s.heap s.heap [] := va_S.rf
  have hl : lv_has ls 1 [(0, .ref o)] := hl
  refine lv_aload_n hx hb dX4_init_0 rfl (lv_at hl 0 rfl) ?_
  refine W.objInit hx hb hown haoi1 haoi2 haoi3 rfl (by rw [hml]; exact hl.1) rfl dX4_init_1 (Nat.le_of_ble_eq_true rfl) (Nat.le_of_ble_eq_true rfl) ?_
  refine W.eq (g2 := F0 m 4 ls []) rfl ?_
  refine lv_aload_n hx hb dX4_init_4 rfl (lv_at hl 0 rfl) ?_
  refine va_new (ci := 3) (fs := [.null, .null]) (C := RX3) (T := TX3) (N := 2) hx hb hts hin3 tyX3 tyX3_ok hown hacl9 hain3 haini3 hK.1 hP hD hS hA rfl (fun j hj => by rcases (show j = 0 ∨ j = 1 by omega) with rfl | rfl <;> rfl) (Nat.le_of_ble_eq_true rfl) (Nat.le_of_ble_eq_true rfl) dX4_init_5 (fun q_1 H hP hD hS => ?_)
  have hP : va_P E.1 vwCl ([(o, .inr (4, [.null, .null, .null, .null, .null, .null]))] ++ [(q_1, .inr (3, [.null, .null]))]) H := hP
  have hD : va_D A ([(o, .inr (4, [.null, .null, .null, .null, .null, .null]))] ++ [(q_1, .inr (3, [.null, .null]))]) := hD
  refine lv_dup hx hb dX4_init_8 rfl ?_
  refine e_callI (As := []) (rest := [.ref q_1, .ref o]) ⟨hx, hb, hml, hown, hts⟩ hK hP hD hS hA hl.1 (c_X3_init l E _ q_1) (cwI 0 hts gX4_init_X3_init rfl rfl rfl hainiX3_init haml11 haimX3_init rfl (by decide +kernel) ⟨Nat.le_of_ble_eq_true rfl, Nat.le_of_ble_eq_true rfl⟩) [1] [0] rfl rfl rfl rfl (by decide) rfl rfl (Nat.le_of_ble_eq_true rfl) dX4_init_9 ⟨Nat.le_of_ble_eq_true rfl, Nat.le_of_ble_eq_true rfl⟩ (fun u_2 H locs hu_3 hz hP hD hS => ?_)
  obtain ⟨a_4, b_5⟩ := u_2
  have hP : va_P E.1 vwCl ([(o, .inr (4, [.null, .null, .null, .null, .null, .null]))] ++ wTb E q_1 a_4 b_5 (fun _ => nI 4) (fun _ => nI 0)) H := hP.sub [0, 1, 2, 3] rfl
  have hD : va_D A ([(o, .inr (4, [.null, .null, .null, .null, .null, .null]))] ++ wTb E q_1 a_4 b_5 (fun _ => nI 4) (fun _ => nI 0)) := hD.sub [0, 1, 2, 3] (by decide) rfl
  refine W.eq (g2 := F0 m 12 ls [.ref q_1, .ref o]) rfl ?_
  refine va_putF (D := E.1) (ci := 4) (v := .ref q_1) (ty := (.object "ReefPilot$Table")) (C := RX4) (T := TX4) (N := 6) hx hb hts hin4 tyX4 tyX4_ok nmX4 hown hK.1 hP hD hS 0 rfl rfl 0 (by decide) lk12 (fun _ h9 => h9) rfl hin rfl (by decide +kernel) rfl rfl (Nat.le_of_ble_eq_true rfl) dX4_init_12 (fun H locs hP hD hS => ?_)
  have hP : va_P E.1 vwCl ([(o, .inr (4, [.ref q_1, .null, .null, .null, .null, .null]))] ++ wTb E q_1 a_4 b_5 (fun _ => nI 4) (fun _ => nI 0)) H := hP
  have hD : va_D A ([(o, .inr (4, [.ref q_1, .null, .null, .null, .null, .null]))] ++ wTb E q_1 a_4 b_5 (fun _ => nI 4) (fun _ => nI 0)) := hD
  refine lv_aload_n hx hb dX4_init_15 rfl (lv_at hl 0 rfl) ?_
  refine va_new (ci := 0) (fs := [.null, .null, .null, .int 0]) (C := RX0) (T := TX0) (N := 4) hx hb hts hin0 tyX0 tyX0_ok hown hacl16 hain0 haini0 hK.1 hP hD hS hA rfl (fun j hj => by rcases (show j = 0 ∨ j = 1 ∨ j = 2 ∨ j = 3 by omega) with rfl | rfl | rfl | rfl <;> rfl) (Nat.le_of_ble_eq_true rfl) (Nat.le_of_ble_eq_true rfl) dX4_init_16 (fun q_6 H hP hD hS => ?_)
  have hP : va_P E.1 vwCl ([(o, .inr (4, [.ref q_1, .null, .null, .null, .null, .null]))] ++ wTb E q_1 a_4 b_5 (fun _ => nI 4) (fun _ => nI 0) ++ [(q_6, .inr (0, [.null, .null, .null, .int 0]))]) H := hP
  have hD : va_D A ([(o, .inr (4, [.ref q_1, .null, .null, .null, .null, .null]))] ++ wTb E q_1 a_4 b_5 (fun _ => nI 4) (fun _ => nI 0) ++ [(q_6, .inr (0, [.null, .null, .null, .int 0]))]) := hD
  refine lv_dup hx hb dX4_init_19 rfl ?_
  refine e_callI (As := []) (rest := [.ref q_6, .ref o]) ⟨hx, hb, hml, hown, hts⟩ hK hP hD hS hA hl.1 (c_X0_init l E _ q_6) (cwI 0 hts gX4_init_X0_init rfl rfl rfl hainiX0_init haml18 haimX0_init rfl (by decide +kernel) ⟨Nat.le_of_ble_eq_true rfl, Nat.le_of_ble_eq_true rfl⟩) [4] [0, 1, 2, 3] rfl rfl rfl rfl (by decide) rfl rfl (Nat.le_of_ble_eq_true rfl) dX4_init_20 ⟨Nat.le_of_ble_eq_true rfl, Nat.le_of_ble_eq_true rfl⟩ (fun u_7 H locs hu_8 hz hP hD hS => ?_)
  obtain ⟨a_9, b_10, d_11⟩ := u_7
  have hP : va_P E.1 vwCl ([(o, .inr (4, [.ref q_1, .null, .null, .null, .null, .null]))] ++ wTb E q_1 a_4 b_5 (fun _ => nI 4) (fun _ => nI 0) ++ wCo E q_6 a_9 b_10 d_11 (fun _ => nI 20) (fun _ => nI 0) (fun _ => false) (nI 0)) H := hP.sub [0, 1, 2, 3, 4, 5, 6, 7] rfl
  have hD : va_D A ([(o, .inr (4, [.ref q_1, .null, .null, .null, .null, .null]))] ++ wTb E q_1 a_4 b_5 (fun _ => nI 4) (fun _ => nI 0) ++ wCo E q_6 a_9 b_10 d_11 (fun _ => nI 20) (fun _ => nI 0) (fun _ => false) (nI 0)) := hD.sub [0, 1, 2, 3, 4, 5, 6, 7] (by decide) rfl
  refine W.eq (g2 := F0 m 23 ls [.ref q_6, .ref o]) rfl ?_
  refine va_putF (D := E.1) (ci := 4) (v := .ref q_6) (ty := (.object "ReefPilot$Coast")) (C := RX4) (T := TX4) (N := 6) hx hb hts hin4 tyX4 tyX4_ok nmX4 hown hK.1 hP hD hS 0 rfl rfl 1 (by decide) lk19 (fun _ h9 => h9) rfl hin rfl (by decide +kernel) rfl rfl (Nat.le_of_ble_eq_true rfl) dX4_init_23 (fun H locs hP hD hS => ?_)
  have hP : va_P E.1 vwCl ([(o, .inr (4, [.ref q_1, .ref q_6, .null, .null, .null, .null]))] ++ wTb E q_1 a_4 b_5 (fun _ => nI 4) (fun _ => nI 0) ++ wCo E q_6 a_9 b_10 d_11 (fun _ => nI 20) (fun _ => nI 0) (fun _ => false) (nI 0)) H := hP
  have hD : va_D A ([(o, .inr (4, [.ref q_1, .ref q_6, .null, .null, .null, .null]))] ++ wTb E q_1 a_4 b_5 (fun _ => nI 4) (fun _ => nI 0) ++ wCo E q_6 a_9 b_10 d_11 (fun _ => nI 20) (fun _ => nI 0) (fun _ => false) (nI 0)) := hD
  refine lv_aload_n hx hb dX4_init_26 rfl (lv_at hl 0 rfl) ?_
  refine va_new (ci := 0) (fs := [.null, .null, .null, .int 0]) (C := RX0) (T := TX0) (N := 4) hx hb hts hin0 tyX0 tyX0_ok hown hacl16 hain0 haini0 hK.1 hP hD hS hA rfl (fun j hj => by rcases (show j = 0 ∨ j = 1 ∨ j = 2 ∨ j = 3 by omega) with rfl | rfl | rfl | rfl <;> rfl) (Nat.le_of_ble_eq_true rfl) (Nat.le_of_ble_eq_true rfl) dX4_init_27 (fun q_12 H hP hD hS => ?_)
  have hP : va_P E.1 vwCl ([(o, .inr (4, [.ref q_1, .ref q_6, .null, .null, .null, .null]))] ++ wTb E q_1 a_4 b_5 (fun _ => nI 4) (fun _ => nI 0) ++ wCo E q_6 a_9 b_10 d_11 (fun _ => nI 20) (fun _ => nI 0) (fun _ => false) (nI 0) ++ [(q_12, .inr (0, [.null, .null, .null, .int 0]))]) H := hP
  have hD : va_D A ([(o, .inr (4, [.ref q_1, .ref q_6, .null, .null, .null, .null]))] ++ wTb E q_1 a_4 b_5 (fun _ => nI 4) (fun _ => nI 0) ++ wCo E q_6 a_9 b_10 d_11 (fun _ => nI 20) (fun _ => nI 0) (fun _ => false) (nI 0) ++ [(q_12, .inr (0, [.null, .null, .null, .int 0]))]) := hD
  refine lv_dup hx hb dX4_init_30 rfl ?_
  refine e_callI (As := []) (rest := [.ref q_12, .ref o]) ⟨hx, hb, hml, hown, hts⟩ hK hP hD hS hA hl.1 (c_X0_init l E _ q_12) (cwI 0 hts gX4_init_X0_init rfl rfl rfl hainiX0_init haml18 haimX0_init rfl (by decide +kernel) ⟨Nat.le_of_ble_eq_true rfl, Nat.le_of_ble_eq_true rfl⟩) [8] [0, 1, 2, 3, 4, 5, 6, 7] rfl rfl rfl rfl (by decide) rfl rfl (Nat.le_of_ble_eq_true rfl) dX4_init_31 ⟨Nat.le_of_ble_eq_true rfl, Nat.le_of_ble_eq_true rfl⟩ (fun u_13 H locs hu_14 hz hP hD hS => ?_)
  obtain ⟨a_15, b_16, d_17⟩ := u_13
  have hP : va_P E.1 vwCl ([(o, .inr (4, [.ref q_1, .ref q_6, .null, .null, .null, .null]))] ++ wTb E q_1 a_4 b_5 (fun _ => nI 4) (fun _ => nI 0) ++ wCo E q_6 a_9 b_10 d_11 (fun _ => nI 20) (fun _ => nI 0) (fun _ => false) (nI 0) ++ wCo E q_12 a_15 b_16 d_17 (fun _ => nI 20) (fun _ => nI 0) (fun _ => false) (nI 0)) H := hP.sub [0, 1, 2, 3, 4, 5, 6, 7, 8, 9, 10, 11] rfl
  have hD : va_D A ([(o, .inr (4, [.ref q_1, .ref q_6, .null, .null, .null, .null]))] ++ wTb E q_1 a_4 b_5 (fun _ => nI 4) (fun _ => nI 0) ++ wCo E q_6 a_9 b_10 d_11 (fun _ => nI 20) (fun _ => nI 0) (fun _ => false) (nI 0) ++ wCo E q_12 a_15 b_16 d_17 (fun _ => nI 20) (fun _ => nI 0) (fun _ => false) (nI 0)) := hD.sub [0, 1, 2, 3, 4, 5, 6, 7, 8, 9, 10, 11] (by decide) rfl
  refine W.eq (g2 := F0 m 34 ls [.ref q_12, .ref o]) rfl ?_
  refine va_putF (D := E.1) (ci := 4) (v := .ref q_12) (ty := (.object "ReefPilot$Coast")) (C := RX4) (T := TX4) (N := 6) hx hb hts hin4 tyX4 tyX4_ok nmX4 hown hK.1 hP hD hS 0 rfl rfl 2 (by decide) lk23 (fun _ h9 => h9) rfl hin rfl (by decide +kernel) rfl rfl (Nat.le_of_ble_eq_true rfl) dX4_init_34 (fun H locs hP hD hS => ?_)
  have hP : va_P E.1 vwCl ([(o, .inr (4, [.ref q_1, .ref q_6, .ref q_12, .null, .null, .null]))] ++ wTb E q_1 a_4 b_5 (fun _ => nI 4) (fun _ => nI 0) ++ wCo E q_6 a_9 b_10 d_11 (fun _ => nI 20) (fun _ => nI 0) (fun _ => false) (nI 0) ++ wCo E q_12 a_15 b_16 d_17 (fun _ => nI 20) (fun _ => nI 0) (fun _ => false) (nI 0)) H := hP
  have hD : va_D A ([(o, .inr (4, [.ref q_1, .ref q_6, .ref q_12, .null, .null, .null]))] ++ wTb E q_1 a_4 b_5 (fun _ => nI 4) (fun _ => nI 0) ++ wCo E q_6 a_9 b_10 d_11 (fun _ => nI 20) (fun _ => nI 0) (fun _ => false) (nI 0) ++ wCo E q_12 a_15 b_16 d_17 (fun _ => nI 20) (fun _ => nI 0) (fun _ => false) (nI 0)) := hD
  refine lv_aload_n hx hb dX4_init_37 rfl (lv_at hl 0 rfl) ?_
  refine va_new (ci := 1) (fs := [.null, .null]) (C := RX1) (T := TX1) (N := 2) hx hb hts hin1 tyX1 tyX1_ok hown hacl26 hain1 haini1 hK.1 hP hD hS hA rfl (fun j hj => by rcases (show j = 0 ∨ j = 1 by omega) with rfl | rfl <;> rfl) (Nat.le_of_ble_eq_true rfl) (Nat.le_of_ble_eq_true rfl) dX4_init_38 (fun q_18 H hP hD hS => ?_)
  have hP : va_P E.1 vwCl ([(o, .inr (4, [.ref q_1, .ref q_6, .ref q_12, .null, .null, .null]))] ++ wTb E q_1 a_4 b_5 (fun _ => nI 4) (fun _ => nI 0) ++ wCo E q_6 a_9 b_10 d_11 (fun _ => nI 20) (fun _ => nI 0) (fun _ => false) (nI 0) ++ wCo E q_12 a_15 b_16 d_17 (fun _ => nI 20) (fun _ => nI 0) (fun _ => false) (nI 0) ++ [(q_18, .inr (1, [.null, .null]))]) H := hP
  have hD : va_D A ([(o, .inr (4, [.ref q_1, .ref q_6, .ref q_12, .null, .null, .null]))] ++ wTb E q_1 a_4 b_5 (fun _ => nI 4) (fun _ => nI 0) ++ wCo E q_6 a_9 b_10 d_11 (fun _ => nI 20) (fun _ => nI 0) (fun _ => false) (nI 0) ++ wCo E q_12 a_15 b_16 d_17 (fun _ => nI 20) (fun _ => nI 0) (fun _ => false) (nI 0) ++ [(q_18, .inr (1, [.null, .null]))]) := hD
  refine lv_dup hx hb dX4_init_41 rfl ?_
  refine e_callI (As := []) (rest := [.ref q_18, .ref o]) ⟨hx, hb, hml, hown, hts⟩ hK hP hD hS hA hl.1 (c_X1_init l E _ q_18) (cwI 0 hts gX4_init_X1_init rfl rfl rfl hainiX1_init haml28 haimX1_init rfl (by decide +kernel) ⟨Nat.le_of_ble_eq_true rfl, Nat.le_of_ble_eq_true rfl⟩) [12] [0, 1, 2, 3, 4, 5, 6, 7, 8, 9, 10, 11] rfl rfl rfl rfl (by decide) rfl rfl (Nat.le_of_ble_eq_true rfl) dX4_init_42 ⟨Nat.le_of_ble_eq_true rfl, Nat.le_of_ble_eq_true rfl⟩ (fun u_19 H locs hu_20 hz hP hD hS => ?_)
  obtain ⟨a_21, b_22⟩ := u_19
  have hP : va_P E.1 vwCl ([(o, .inr (4, [.ref q_1, .ref q_6, .ref q_12, .null, .null, .null]))] ++ wTb E q_1 a_4 b_5 (fun _ => nI 4) (fun _ => nI 0) ++ wCo E q_6 a_9 b_10 d_11 (fun _ => nI 20) (fun _ => nI 0) (fun _ => false) (nI 0) ++ wCo E q_12 a_15 b_16 d_17 (fun _ => nI 20) (fun _ => nI 0) (fun _ => false) (nI 0) ++ wSo E q_18 a_21 b_22 (fun _ => (-1)) (fun _ => nI 0)) H := hP.sub [0, 1, 2, 3, 4, 5, 6, 7, 8, 9, 10, 11, 12, 13, 14] rfl
  have hD : va_D A ([(o, .inr (4, [.ref q_1, .ref q_6, .ref q_12, .null, .null, .null]))] ++ wTb E q_1 a_4 b_5 (fun _ => nI 4) (fun _ => nI 0) ++ wCo E q_6 a_9 b_10 d_11 (fun _ => nI 20) (fun _ => nI 0) (fun _ => false) (nI 0) ++ wCo E q_12 a_15 b_16 d_17 (fun _ => nI 20) (fun _ => nI 0) (fun _ => false) (nI 0) ++ wSo E q_18 a_21 b_22 (fun _ => (-1)) (fun _ => nI 0)) := hD.sub [0, 1, 2, 3, 4, 5, 6, 7, 8, 9, 10, 11, 12, 13, 14] (by decide) rfl
  refine W.eq (g2 := F0 m 45 ls [.ref q_18, .ref o]) rfl ?_
  refine va_putF (D := E.1) (ci := 4) (v := .ref q_18) (ty := (.object "ReefPilot$Soundings")) (C := RX4) (T := TX4) (N := 6) hx hb hts hin4 tyX4 tyX4_ok nmX4 hown hK.1 hP hD hS 0 rfl rfl 3 (by decide) lk29 (fun _ h9 => h9) rfl hin rfl (by decide +kernel) rfl rfl (Nat.le_of_ble_eq_true rfl) dX4_init_45 (fun H locs hP hD hS => ?_)
  have hP : va_P E.1 vwCl ([(o, .inr (4, [.ref q_1, .ref q_6, .ref q_12, .ref q_18, .null, .null]))] ++ wTb E q_1 a_4 b_5 (fun _ => nI 4) (fun _ => nI 0) ++ wCo E q_6 a_9 b_10 d_11 (fun _ => nI 20) (fun _ => nI 0) (fun _ => false) (nI 0) ++ wCo E q_12 a_15 b_16 d_17 (fun _ => nI 20) (fun _ => nI 0) (fun _ => false) (nI 0) ++ wSo E q_18 a_21 b_22 (fun _ => (-1)) (fun _ => nI 0)) H := hP
  have hD : va_D A ([(o, .inr (4, [.ref q_1, .ref q_6, .ref q_12, .ref q_18, .null, .null]))] ++ wTb E q_1 a_4 b_5 (fun _ => nI 4) (fun _ => nI 0) ++ wCo E q_6 a_9 b_10 d_11 (fun _ => nI 20) (fun _ => nI 0) (fun _ => false) (nI 0) ++ wCo E q_12 a_15 b_16 d_17 (fun _ => nI 20) (fun _ => nI 0) (fun _ => false) (nI 0) ++ wSo E q_18 a_21 b_22 (fun _ => (-1)) (fun _ => nI 0)) := hD
  refine lv_aload_n hx hb dX4_init_48 rfl (lv_at hl 0 rfl) ?_
  refine va_new (ci := 2) (fs := [.null, .null, .null, .int 0]) (C := RX2) (T := TX2) (N := 4) hx hb hts hin2 tyX2 tyX2_ok hown hacl33 hain2 haini2 hK.1 hP hD hS hA rfl (fun j hj => by rcases (show j = 0 ∨ j = 1 ∨ j = 2 ∨ j = 3 by omega) with rfl | rfl | rfl | rfl <;> rfl) (Nat.le_of_ble_eq_true rfl) (Nat.le_of_ble_eq_true rfl) dX4_init_49 (fun q_23 H hP hD hS => ?_)
  have hP : va_P E.1 vwCl ([(o, .inr (4, [.ref q_1, .ref q_6, .ref q_12, .ref q_18, .null, .null]))] ++ wTb E q_1 a_4 b_5 (fun _ => nI 4) (fun _ => nI 0) ++ wCo E q_6 a_9 b_10 d_11 (fun _ => nI 20) (fun _ => nI 0) (fun _ => false) (nI 0) ++ wCo E q_12 a_15 b_16 d_17 (fun _ => nI 20) (fun _ => nI 0) (fun _ => false) (nI 0) ++ wSo E q_18 a_21 b_22 (fun _ => (-1)) (fun _ => nI 0) ++ [(q_23, .inr (2, [.null, .null, .null, .int 0]))]) H := hP
  have hD : va_D A ([(o, .inr (4, [.ref q_1, .ref q_6, .ref q_12, .ref q_18, .null, .null]))] ++ wTb E q_1 a_4 b_5 (fun _ => nI 4) (fun _ => nI 0) ++ wCo E q_6 a_9 b_10 d_11 (fun _ => nI 20) (fun _ => nI 0) (fun _ => false) (nI 0) ++ wCo E q_12 a_15 b_16 d_17 (fun _ => nI 20) (fun _ => nI 0) (fun _ => false) (nI 0) ++ wSo E q_18 a_21 b_22 (fun _ => (-1)) (fun _ => nI 0) ++ [(q_23, .inr (2, [.null, .null, .null, .int 0]))]) := hD
  refine lv_dup hx hb dX4_init_52 rfl ?_
  refine e_callIN (As := []) (rest := [.ref q_23, .ref o]) ⟨hx, hb, hml, hown, hts⟩ hK hP hD hS hA hl.1 (c_X2_init l E _ q_23) ⟨va_cnB 0 hts gX4_init_X2_init_n35 rfl rfl rfl hK.2.2.2 hainiX2_init (by decide +kernel) ⟨Nat.le_of_ble_eq_true rfl, Nat.le_of_ble_eq_true rfl⟩, rfl, haimX2_init⟩ [15] [0, 1, 2, 3, 4, 5, 6, 7, 8, 9, 10, 11, 12, 13, 14] rfl rfl rfl rfl (by decide) rfl rfl (Nat.le_of_ble_eq_true rfl) dX4_init_53 ⟨Nat.le_of_ble_eq_true rfl, Nat.le_of_ble_eq_true rfl⟩ (fun u_24 H locs hu_25 hz hP hD hS => ?_)
  obtain ⟨a_26, b_27, d_28⟩ := u_24
  have hP : va_P E.1 vwCl ([(o, .inr (4, [.ref q_1, .ref q_6, .ref q_12, .ref q_18, .null, .null]))] ++ wTb E q_1 a_4 b_5 (fun _ => nI 4) (fun _ => nI 0) ++ wCo E q_6 a_9 b_10 d_11 (fun _ => nI 20) (fun _ => nI 0) (fun _ => false) (nI 0) ++ wCo E q_12 a_15 b_16 d_17 (fun _ => nI 20) (fun _ => nI 0) (fun _ => false) (nI 0) ++ wSo E q_18 a_21 b_22 (fun _ => (-1)) (fun _ => nI 0) ++ wSp E q_23 a_26 b_27 d_28 (fun _ => false) (fun _ => 0) (fun _ => 0) 0) H := hP.sub [0, 1, 2, 3, 4, 5, 6, 7, 8, 9, 10, 11, 12, 13, 14, 15, 16, 17, 18] rfl
  have hD : va_D A ([(o, .inr (4, [.ref q_1, .ref q_6, .ref q_12, .ref q_18, .null, .null]))] ++ wTb E q_1 a_4 b_5 (fun _ => nI 4) (fun _ => nI 0) ++ wCo E q_6 a_9 b_10 d_11 (fun _ => nI 20) (fun _ => nI 0) (fun _ => false) (nI 0) ++ wCo E q_12 a_15 b_16 d_17 (fun _ => nI 20) (fun _ => nI 0) (fun _ => false) (nI 0) ++ wSo E q_18 a_21 b_22 (fun _ => (-1)) (fun _ => nI 0) ++ wSp E q_23 a_26 b_27 d_28 (fun _ => false) (fun _ => 0) (fun _ => 0) 0) := hD.sub [0, 1, 2, 3, 4, 5, 6, 7, 8, 9, 10, 11, 12, 13, 14, 15, 16, 17, 18] (by decide) rfl
  refine W.eq (g2 := F0 m 56 ls [.ref q_23, .ref o]) rfl ?_
  refine va_putF (D := E.1) (ci := 4) (v := .ref q_23) (ty := (.object "ReefPilot$Spread")) (C := RX4) (T := TX4) (N := 6) hx hb hts hin4 tyX4 tyX4_ok nmX4 hown hK.1 hP hD hS 0 rfl rfl 4 (by decide) lk36 (fun _ h9 => h9) rfl hin rfl (by decide +kernel) rfl rfl (Nat.le_of_ble_eq_true rfl) dX4_init_56 (fun H locs hP hD hS => ?_)
  have hP : va_P E.1 vwCl ([(o, .inr (4, [.ref q_1, .ref q_6, .ref q_12, .ref q_18, .ref q_23, .null]))] ++ wTb E q_1 a_4 b_5 (fun _ => nI 4) (fun _ => nI 0) ++ wCo E q_6 a_9 b_10 d_11 (fun _ => nI 20) (fun _ => nI 0) (fun _ => false) (nI 0) ++ wCo E q_12 a_15 b_16 d_17 (fun _ => nI 20) (fun _ => nI 0) (fun _ => false) (nI 0) ++ wSo E q_18 a_21 b_22 (fun _ => (-1)) (fun _ => nI 0) ++ wSp E q_23 a_26 b_27 d_28 (fun _ => false) (fun _ => 0) (fun _ => 0) 0) H := hP
  have hD : va_D A ([(o, .inr (4, [.ref q_1, .ref q_6, .ref q_12, .ref q_18, .ref q_23, .null]))] ++ wTb E q_1 a_4 b_5 (fun _ => nI 4) (fun _ => nI 0) ++ wCo E q_6 a_9 b_10 d_11 (fun _ => nI 20) (fun _ => nI 0) (fun _ => false) (nI 0) ++ wCo E q_12 a_15 b_16 d_17 (fun _ => nI 20) (fun _ => nI 0) (fun _ => false) (nI 0) ++ wSo E q_18 a_21 b_22 (fun _ => (-1)) (fun _ => nI 0) ++ wSp E q_23 a_26 b_27 d_28 (fun _ => false) (fun _ => 0) (fun _ => 0) 0) := hD
  refine lv_aload_n hx hb dX4_init_59 rfl (lv_at hl 0 rfl) ?_
  refine lv_bipush (v := nI 81) hx hb dX4_init_60 (by decide +kernel) ?_
  refine e_newI hK hP hD hS hA hx hb haint 81 (by decide) rfl (Nat.le_of_ble_eq_true rfl) (Nat.le_of_ble_eq_true rfl) dX4_init_62 (fun q_29 H hP hD hS => ?_)
  have hP : va_P E.1 vwCl ([(o, .inr (4, [.ref q_1, .ref q_6, .ref q_12, .ref q_18, .ref q_23, .null]))] ++ wTb E q_1 a_4 b_5 (fun _ => nI 4) (fun _ => nI 0) ++ wCo E q_6 a_9 b_10 d_11 (fun _ => nI 20) (fun _ => nI 0) (fun _ => false) (nI 0) ++ wCo E q_12 a_15 b_16 d_17 (fun _ => nI 20) (fun _ => nI 0) (fun _ => false) (nI 0) ++ wSo E q_18 a_21 b_22 (fun _ => (-1)) (fun _ => nI 0) ++ wSp E q_23 a_26 b_27 d_28 (fun _ => false) (fun _ => 0) (fun _ => 0) 0 ++ [(q_29, .inl (E.2.1, 81, .inl (fun _ => 0)))]) H := hP
  have hD : va_D A ([(o, .inr (4, [.ref q_1, .ref q_6, .ref q_12, .ref q_18, .ref q_23, .null]))] ++ wTb E q_1 a_4 b_5 (fun _ => nI 4) (fun _ => nI 0) ++ wCo E q_6 a_9 b_10 d_11 (fun _ => nI 20) (fun _ => nI 0) (fun _ => false) (nI 0) ++ wCo E q_12 a_15 b_16 d_17 (fun _ => nI 20) (fun _ => nI 0) (fun _ => false) (nI 0) ++ wSo E q_18 a_21 b_22 (fun _ => (-1)) (fun _ => nI 0) ++ wSp E q_23 a_26 b_27 d_28 (fun _ => false) (fun _ => 0) (fun _ => 0) 0 ++ [(q_29, .inl (E.2.1, 81, .inl (fun _ => 0)))]) := hD
  refine va_putF (D := E.1) (ci := 4) (v := .ref q_29) (ty := (.array .int)) (C := RX4) (T := TX4) (N := 6) hx hb hts hin4 tyX4 tyX4_ok nmX4 hown hK.1 hP hD hS 0 rfl rfl 5 (by decide) lk40 (fun _ h9 => h9) rfl hin rfl (by decide +kernel) rfl rfl (Nat.le_of_ble_eq_true rfl) dX4_init_64 (fun H locs hP hD hS => ?_)
  have hP : va_P E.1 vwCl ([(o, .inr (4, [.ref q_1, .ref q_6, .ref q_12, .ref q_18, .ref q_23, .ref q_29]))] ++ wTb E q_1 a_4 b_5 (fun _ => nI 4) (fun _ => nI 0) ++ wCo E q_6 a_9 b_10 d_11 (fun _ => nI 20) (fun _ => nI 0) (fun _ => false) (nI 0) ++ wCo E q_12 a_15 b_16 d_17 (fun _ => nI 20) (fun _ => nI 0) (fun _ => false) (nI 0) ++ wSo E q_18 a_21 b_22 (fun _ => (-1)) (fun _ => nI 0) ++ wSp E q_23 a_26 b_27 d_28 (fun _ => false) (fun _ => 0) (fun _ => 0) 0 ++ [(q_29, .inl (E.2.1, 81, .inl (fun _ => 0)))]) H := hP
  have hD : va_D A ([(o, .inr (4, [.ref q_1, .ref q_6, .ref q_12, .ref q_18, .ref q_23, .ref q_29]))] ++ wTb E q_1 a_4 b_5 (fun _ => nI 4) (fun _ => nI 0) ++ wCo E q_6 a_9 b_10 d_11 (fun _ => nI 20) (fun _ => nI 0) (fun _ => false) (nI 0) ++ wCo E q_12 a_15 b_16 d_17 (fun _ => nI 20) (fun _ => nI 0) (fun _ => false) (nI 0) ++ wSo E q_18 a_21 b_22 (fun _ => (-1)) (fun _ => nI 0) ++ wSp E q_23 a_26 b_27 d_28 (fun _ => false) (fun _ => 0) (fun _ => 0) 0 ++ [(q_29, .inl (E.2.1, 81, .inl (fun _ => 0)))]) := hD
  exact e_vret (fun k => List.getD [q_1, a_4, b_5, q_6, a_9, b_10, d_11, q_12, a_15, b_16, d_17, q_18, a_21, b_22, q_23, a_26, b_27, d_28, q_29] k 0) hQ hx hb hr hlocks hP hD hS dX4_init_67 (rfl) (Nat.le_of_ble_eq_true rfl) (Nat.le_of_ble_eq_true rfl) (trivial)
end
