-- ===== PART A: goes FIRST, ahead of the names: the tables' words, and 'selects' of the private methods out of them =====
/-- a private method of a class that the tables say can be made, by its rows of tables_1 -/
def lw_okq (q : MethodName × Nat) : Prop := (q.1.cls ≠ "java/lang/invoke/MethodHandle" ∧ q.1.cls ≠ "java/lang/invoke/VarHandle") ∧ Cond.instantiable q.1.cls q.2 ∈ tables_1 ∧ Cond.privateMethod q.1 ∈ tables_1 ∧ Cond.instanceMethod q.1 ∈ tables_1
theorem lw_p0 : lw_okq (⟨"LeaseCluster$World", "giveDue", "(I)V"⟩, 12) := ⟨⟨by decide +kernel, by decide +kernel⟩, List.mem_of_getElem? (i := 26) (by decide +kernel), List.mem_of_getElem? (i := 271) (by decide +kernel), List.mem_of_getElem? (i := 272) (by decide +kernel)⟩
theorem lw_p1 : lw_okq (⟨"LeaseCluster$World", "keepGiven", "(III)V"⟩, 12) := ⟨⟨by decide +kernel, by decide +kernel⟩, List.mem_of_getElem? (i := 26) (by decide +kernel), List.mem_of_getElem? (i := 280) (by decide +kernel), List.mem_of_getElem? (i := 281) (by decide +kernel)⟩
theorem lw_p2 : lw_okq (⟨"LeaseCluster$World", "isTooOldFor", "(III)Z"⟩, 12) := ⟨⟨by decide +kernel, by decide +kernel⟩, List.mem_of_getElem? (i := 26) (by decide +kernel), List.mem_of_getElem? (i := 333) (by decide +kernel), List.mem_of_getElem? (i := 334) (by decide +kernel)⟩
theorem lw_p3 : lw_okq (⟨"LeaseCluster$World", "answer", "(IIZZ)I"⟩, 12) := ⟨⟨by decide +kernel, by decide +kernel⟩, List.mem_of_getElem? (i := 26) (by decide +kernel), List.mem_of_getElem? (i := 337) (by decide +kernel), List.mem_of_getElem? (i := 338) (by decide +kernel)⟩
theorem lw_p4 : lw_okq (⟨"LeaseCluster$World", "ticksBound", "(II)I"⟩, 12) := ⟨⟨by decide +kernel, by decide +kernel⟩, List.mem_of_getElem? (i := 26) (by decide +kernel), List.mem_of_getElem? (i := 345) (by decide +kernel), List.mem_of_getElem? (i := 346) (by decide +kernel)⟩
theorem lw_p5 : lw_okq (⟨"LeaseCluster$World", "commitAll", "(I)I"⟩, 12) := ⟨⟨by decide +kernel, by decide +kernel⟩, List.mem_of_getElem? (i := 26) (by decide +kernel), List.mem_of_getElem? (i := 430) (by decide +kernel), List.mem_of_getElem? (i := 431) (by decide +kernel)⟩
theorem lw_p6 : lw_okq (⟨"LeaseCluster$World", "ticksUntilGrant", "(III)I"⟩, 12) := ⟨⟨by decide +kernel, by decide +kernel⟩, List.mem_of_getElem? (i := 26) (by decide +kernel), List.mem_of_getElem? (i := 527) (by decide +kernel), List.mem_of_getElem? (i := 528) (by decide +kernel)⟩
theorem lw_p7 : lw_okq (⟨"LeaseCluster$World", "grantsAfter", "(III)I"⟩, 12) := ⟨⟨by decide +kernel, by decide +kernel⟩, List.mem_of_getElem? (i := 26) (by decide +kernel), List.mem_of_getElem? (i := 531) (by decide +kernel), List.mem_of_getElem? (i := 532) (by decide +kernel)⟩
theorem lw_p8 : lw_okq (⟨"LeaseCluster$Scenario", "takes", "(I)Z"⟩, 11) := ⟨⟨by decide +kernel, by decide +kernel⟩, List.mem_of_getElem? (i := 177) (by decide +kernel), List.mem_of_getElem? (i := 590) (by decide +kernel), List.mem_of_getElem? (i := 591) (by decide +kernel)⟩
theorem lw_p9 : lw_okq (⟨"LeaseCluster$Scenario", "takesDigit", "(I)Z"⟩, 11) := ⟨⟨by decide +kernel, by decide +kernel⟩, List.mem_of_getElem? (i := 177) (by decide +kernel), List.mem_of_getElem? (i := 594) (by decide +kernel), List.mem_of_getElem? (i := 595) (by decide +kernel)⟩
theorem lw_p10 : lw_okq (⟨"LeaseCluster$Scenario", "endsCall", "()Z"⟩, 11) := ⟨⟨by decide +kernel, by decide +kernel⟩, List.mem_of_getElem? (i := 177) (by decide +kernel), List.mem_of_getElem? (i := 599) (by decide +kernel), List.mem_of_getElem? (i := 600) (by decide +kernel)⟩
theorem lw_p11 : lw_okq (⟨"LeaseCluster$Scenario", "beginsCall", "(I)Z"⟩, 11) := ⟨⟨by decide +kernel, by decide +kernel⟩, List.mem_of_getElem? (i := 177) (by decide +kernel), List.mem_of_getElem? (i := 603) (by decide +kernel), List.mem_of_getElem? (i := 604) (by decide +kernel)⟩
theorem lw_p12 : lw_okq (⟨"LeaseCluster", "makeCall", "(IIII)I"⟩, 4) := ⟨⟨by decide +kernel, by decide +kernel⟩, List.mem_of_getElem? (i := 12) (by decide +kernel), List.mem_of_getElem? (i := 614) (by decide +kernel), List.mem_of_getElem? (i := 615) (by decide +kernel)⟩
theorem lw_p13 : lw_okq (⟨"LeaseCluster", "mixServer", "(JI)J"⟩, 4) := ⟨⟨by decide +kernel, by decide +kernel⟩, List.mem_of_getElem? (i := 12) (by decide +kernel), List.mem_of_getElem? (i := 669) (by decide +kernel), List.mem_of_getElem? (i := 670) (by decide +kernel)⟩
theorem lw_p14 : lw_okq (⟨"LeaseClusterModel", "reading", "(I)I"⟩, 12) := ⟨⟨by decide +kernel, by decide +kernel⟩, List.mem_of_getElem? (i := 683) (by decide +kernel), List.mem_of_getElem? (i := 740) (by decide +kernel), List.mem_of_getElem? (i := 741) (by decide +kernel)⟩
theorem lw_p15 : lw_okq (⟨"LeaseClusterModel", "earliest", "(I)I"⟩, 12) := ⟨⟨by decide +kernel, by decide +kernel⟩, List.mem_of_getElem? (i := 683) (by decide +kernel), List.mem_of_getElem? (i := 744) (by decide +kernel), List.mem_of_getElem? (i := 745) (by decide +kernel)⟩
def lw_privs_1 : List (MethodName × Nat) := [(⟨"LeaseCluster$World", "giveDue", "(I)V"⟩, 12), (⟨"LeaseCluster$World", "keepGiven", "(III)V"⟩, 12), (⟨"LeaseCluster$World", "isTooOldFor", "(III)Z"⟩, 12), (⟨"LeaseCluster$World", "answer", "(IIZZ)I"⟩, 12), (⟨"LeaseCluster$World", "ticksBound", "(II)I"⟩, 12), (⟨"LeaseCluster$World", "commitAll", "(I)I"⟩, 12), (⟨"LeaseCluster$World", "ticksUntilGrant", "(III)I"⟩, 12), (⟨"LeaseCluster$World", "grantsAfter", "(III)I"⟩, 12), (⟨"LeaseCluster$Scenario", "takes", "(I)Z"⟩, 11), (⟨"LeaseCluster$Scenario", "takesDigit", "(I)Z"⟩, 11), (⟨"LeaseCluster$Scenario", "endsCall", "()Z"⟩, 11), (⟨"LeaseCluster$Scenario", "beginsCall", "(I)Z"⟩, 11), (⟨"LeaseCluster", "makeCall", "(IIII)I"⟩, 4), (⟨"LeaseCluster", "mixServer", "(JI)J"⟩, 4), (⟨"LeaseClusterModel", "reading", "(I)I"⟩, 12), (⟨"LeaseClusterModel", "earliest", "(I)I"⟩, 12)]
theorem lw_r1 : ∀ q ∈ lw_privs_1, lw_okq q := List.forall_mem_cons.mpr ⟨lw_p0, List.forall_mem_cons.mpr ⟨lw_p1, List.forall_mem_cons.mpr ⟨lw_p2, List.forall_mem_cons.mpr ⟨lw_p3, List.forall_mem_cons.mpr ⟨lw_p4, List.forall_mem_cons.mpr ⟨lw_p5, List.forall_mem_cons.mpr ⟨lw_p6, List.forall_mem_cons.mpr ⟨lw_p7, List.forall_mem_cons.mpr ⟨lw_p8, List.forall_mem_cons.mpr ⟨lw_p9, List.forall_mem_cons.mpr ⟨lw_p10, List.forall_mem_cons.mpr ⟨lw_p11, List.forall_mem_cons.mpr ⟨lw_p12, List.forall_mem_cons.mpr ⟨lw_p13, List.forall_mem_cons.mpr ⟨lw_p14, List.forall_mem_cons.mpr ⟨lw_p15, fun _ h => absurd h List.not_mem_nil⟩⟩⟩⟩⟩⟩⟩⟩⟩⟩⟩⟩⟩⟩⟩⟩
theorem lw_p16 : lw_okq (⟨"LeaseClusterModel", "latest", "(I)I"⟩, 12) := ⟨⟨by decide +kernel, by decide +kernel⟩, List.mem_of_getElem? (i := 683) (by decide +kernel), List.mem_of_getElem? (i := 748) (by decide +kernel), List.mem_of_getElem? (i := 749) (by decide +kernel)⟩
theorem lw_p17 : lw_okq (⟨"LeaseClusterModel", "runs", "(I)Z"⟩, 12) := ⟨⟨by decide +kernel, by decide +kernel⟩, List.mem_of_getElem? (i := 683) (by decide +kernel), List.mem_of_getElem? (i := 757) (by decide +kernel), List.mem_of_getElem? (i := 758) (by decide +kernel)⟩
theorem lw_p18 : lw_okq (⟨"LeaseClusterModel", "givable", "(I)I"⟩, 12) := ⟨⟨by decide +kernel, by decide +kernel⟩, List.mem_of_getElem? (i := 683) (by decide +kernel), List.mem_of_getElem? (i := 761) (by decide +kernel), List.mem_of_getElem? (i := 762) (by decide +kernel)⟩
theorem lw_p19 : lw_okq (⟨"LeaseClusterModel", "gives", "(II)V"⟩, 12) := ⟨⟨by decide +kernel, by decide +kernel⟩, List.mem_of_getElem? (i := 683) (by decide +kernel), List.mem_of_getElem? (i := 765) (by decide +kernel), List.mem_of_getElem? (i := 766) (by decide +kernel)⟩
theorem lw_p20 : lw_okq (⟨"LeaseClusterModel", "hasIt", "(I)Z"⟩, 12) := ⟨⟨by decide +kernel, by decide +kernel⟩, List.mem_of_getElem? (i := 683) (by decide +kernel), List.mem_of_getElem? (i := 781) (by decide +kernel), List.mem_of_getElem? (i := 782) (by decide +kernel)⟩
theorem lw_p21 : lw_okq (⟨"LeaseClusterModel", "acquires", "(II)I"⟩, 12) := ⟨⟨by decide +kernel, by decide +kernel⟩, List.mem_of_getElem? (i := 683) (by decide +kernel), List.mem_of_getElem? (i := 785) (by decide +kernel), List.mem_of_getElem? (i := 786) (by decide +kernel)⟩
theorem lw_p22 : lw_okq (⟨"LeaseClusterModel", "answerTo", "(III)I"⟩, 12) := ⟨⟨by decide +kernel, by decide +kernel⟩, List.mem_of_getElem? (i := 683) (by decide +kernel), List.mem_of_getElem? (i := 789) (by decide +kernel), List.mem_of_getElem? (i := 790) (by decide +kernel)⟩
theorem lw_p23 : lw_okq (⟨"LeaseClusterModel", "reaches", "(II)Z"⟩, 12) := ⟨⟨by decide +kernel, by decide +kernel⟩, List.mem_of_getElem? (i := 683) (by decide +kernel), List.mem_of_getElem? (i := 793) (by decide +kernel), List.mem_of_getElem? (i := 794) (by decide +kernel)⟩
theorem lw_p24 : lw_okq (⟨"LeaseClusterModel", "isPromised", "(II)Z"⟩, 12) := ⟨⟨by decide +kernel, by decide +kernel⟩, List.mem_of_getElem? (i := 683) (by decide +kernel), List.mem_of_getElem? (i := 797) (by decide +kernel), List.mem_of_getElem? (i := 798) (by decide +kernel)⟩
theorem lw_p25 : lw_okq (⟨"LeaseClusterModel", "isRecent", "(II)Z"⟩, 12) := ⟨⟨by decide +kernel, by decide +kernel⟩, List.mem_of_getElem? (i := 683) (by decide +kernel), List.mem_of_getElem? (i := 801) (by decide +kernel), List.mem_of_getElem? (i := 802) (by decide +kernel)⟩
theorem lw_p26 : lw_okq (⟨"LeaseClusterModel", "lastTerm", "(I)I"⟩, 12) := ⟨⟨by decide +kernel, by decide +kernel⟩, List.mem_of_getElem? (i := 683) (by decide +kernel), List.mem_of_getElem? (i := 805) (by decide +kernel), List.mem_of_getElem? (i := 806) (by decide +kernel)⟩
theorem lw_p27 : lw_okq (⟨"LeaseClusterModel", "part", "(III)I"⟩, 12) := ⟨⟨by decide +kernel, by decide +kernel⟩, List.mem_of_getElem? (i := 683) (by decide +kernel), List.mem_of_getElem? (i := 809) (by decide +kernel), List.mem_of_getElem? (i := 810) (by decide +kernel)⟩
theorem lw_p28 : lw_okq (⟨"LeaseClusterModel", "answerToRenewal", "(III)I"⟩, 12) := ⟨⟨by decide +kernel, by decide +kernel⟩, List.mem_of_getElem? (i := 683) (by decide +kernel), List.mem_of_getElem? (i := 817) (by decide +kernel), List.mem_of_getElem? (i := 818) (by decide +kernel)⟩
theorem lw_p29 : lw_okq (⟨"LeaseClusterModel", "givesUp", "(I)I"⟩, 12) := ⟨⟨by decide +kernel, by decide +kernel⟩, List.mem_of_getElem? (i := 683) (by decide +kernel), List.mem_of_getElem? (i := 825) (by decide +kernel), List.mem_of_getElem? (i := 826) (by decide +kernel)⟩
theorem lw_p30 : lw_okq (⟨"LeaseClusterModel", "copiesLog", "(IIII)V"⟩, 12) := ⟨⟨by decide +kernel, by decide +kernel⟩, List.mem_of_getElem? (i := 683) (by decide +kernel), List.mem_of_getElem? (i := 833) (by decide +kernel), List.mem_of_getElem? (i := 834) (by decide +kernel)⟩
theorem lw_p31 : lw_okq (⟨"LeaseClusterModel", "writes", "(III)I"⟩, 12) := ⟨⟨by decide +kernel, by decide +kernel⟩, List.mem_of_getElem? (i := 683) (by decide +kernel), List.mem_of_getElem? (i := 853) (by decide +kernel), List.mem_of_getElem? (i := 854) (by decide +kernel)⟩
def lw_privs_2 : List (MethodName × Nat) := [(⟨"LeaseClusterModel", "latest", "(I)I"⟩, 12), (⟨"LeaseClusterModel", "runs", "(I)Z"⟩, 12), (⟨"LeaseClusterModel", "givable", "(I)I"⟩, 12), (⟨"LeaseClusterModel", "gives", "(II)V"⟩, 12), (⟨"LeaseClusterModel", "hasIt", "(I)Z"⟩, 12), (⟨"LeaseClusterModel", "acquires", "(II)I"⟩, 12), (⟨"LeaseClusterModel", "answerTo", "(III)I"⟩, 12), (⟨"LeaseClusterModel", "reaches", "(II)Z"⟩, 12), (⟨"LeaseClusterModel", "isPromised", "(II)Z"⟩, 12), (⟨"LeaseClusterModel", "isRecent", "(II)Z"⟩, 12), (⟨"LeaseClusterModel", "lastTerm", "(I)I"⟩, 12), (⟨"LeaseClusterModel", "part", "(III)I"⟩, 12), (⟨"LeaseClusterModel", "answerToRenewal", "(III)I"⟩, 12), (⟨"LeaseClusterModel", "givesUp", "(I)I"⟩, 12), (⟨"LeaseClusterModel", "copiesLog", "(IIII)V"⟩, 12), (⟨"LeaseClusterModel", "writes", "(III)I"⟩, 12)]
theorem lw_r2 : ∀ q ∈ lw_privs_2, lw_okq q := List.forall_mem_cons.mpr ⟨lw_p16, List.forall_mem_cons.mpr ⟨lw_p17, List.forall_mem_cons.mpr ⟨lw_p18, List.forall_mem_cons.mpr ⟨lw_p19, List.forall_mem_cons.mpr ⟨lw_p20, List.forall_mem_cons.mpr ⟨lw_p21, List.forall_mem_cons.mpr ⟨lw_p22, List.forall_mem_cons.mpr ⟨lw_p23, List.forall_mem_cons.mpr ⟨lw_p24, List.forall_mem_cons.mpr ⟨lw_p25, List.forall_mem_cons.mpr ⟨lw_p26, List.forall_mem_cons.mpr ⟨lw_p27, List.forall_mem_cons.mpr ⟨lw_p28, List.forall_mem_cons.mpr ⟨lw_p29, List.forall_mem_cons.mpr ⟨lw_p30, List.forall_mem_cons.mpr ⟨lw_p31, fun _ h => absurd h List.not_mem_nil⟩⟩⟩⟩⟩⟩⟩⟩⟩⟩⟩⟩⟩⟩⟩⟩
theorem lw_p32 : lw_okq (⟨"LeaseClusterModel", "remembers", "(I)V"⟩, 12) := ⟨⟨by decide +kernel, by decide +kernel⟩, List.mem_of_getElem? (i := 683) (by decide +kernel), List.mem_of_getElem? (i := 857) (by decide +kernel), List.mem_of_getElem? (i := 858) (by decide +kernel)⟩
theorem lw_p33 : lw_okq (⟨"LeaseClusterModel", "lastValue", "(IIII)I"⟩, 12) := ⟨⟨by decide +kernel, by decide +kernel⟩, List.mem_of_getElem? (i := 683) (by decide +kernel), List.mem_of_getElem? (i := 870) (by decide +kernel), List.mem_of_getElem? (i := 871) (by decide +kernel)⟩
theorem lw_p34 : lw_okq (⟨"LeaseClusterModel", "waits", "(II)I"⟩, 12) := ⟨⟨by decide +kernel, by decide +kernel⟩, List.mem_of_getElem? (i := 683) (by decide +kernel), List.mem_of_getElem? (i := 918) (by decide +kernel), List.mem_of_getElem? (i := 919) (by decide +kernel)⟩
theorem lw_p35 : lw_okq (⟨"LeaseClusterModel", "grantsAfter", "(III)I"⟩, 12) := ⟨⟨by decide +kernel, by decide +kernel⟩, List.mem_of_getElem? (i := 683) (by decide +kernel), List.mem_of_getElem? (i := 922) (by decide +kernel), List.mem_of_getElem? (i := 923) (by decide +kernel)⟩
theorem lw_p36 : lw_okq (⟨"LeaseClusterModel", "lastInHistory", "(I)I"⟩, 12) := ⟨⟨by decide +kernel, by decide +kernel⟩, List.mem_of_getElem? (i := 683) (by decide +kernel), List.mem_of_getElem? (i := 937) (by decide +kernel), List.mem_of_getElem? (i := 938) (by decide +kernel)⟩
theorem lw_p37 : lw_okq (⟨"LeaseClusterModel", "holders", "()I"⟩, 12) := ⟨⟨by decide +kernel, by decide +kernel⟩, List.mem_of_getElem? (i := 683) (by decide +kernel), List.mem_of_getElem? (i := 945) (by decide +kernel), List.mem_of_getElem? (i := 946) (by decide +kernel)⟩
theorem lw_p38 : lw_okq (⟨"LeaseClusterModel", "isKept", "(I)Z"⟩, 12) := ⟨⟨by decide +kernel, by decide +kernel⟩, List.mem_of_getElem? (i := 683) (by decide +kernel), List.mem_of_getElem? (i := 949) (by decide +kernel), List.mem_of_getElem? (i := 950) (by decide +kernel)⟩
theorem lw_p39 : lw_okq (⟨"LeaseClusterModel", "skips", "()V"⟩, 12) := ⟨⟨by decide +kernel, by decide +kernel⟩, List.mem_of_getElem? (i := 683) (by decide +kernel), List.mem_of_getElem? (i := 965) (by decide +kernel), List.mem_of_getElem? (i := 966) (by decide +kernel)⟩
theorem lw_p40 : lw_okq (⟨"LeaseClusterModel", "byteAt", "(I)I"⟩, 12) := ⟨⟨by decide +kernel, by decide +kernel⟩, List.mem_of_getElem? (i := 683) (by decide +kernel), List.mem_of_getElem? (i := 969) (by decide +kernel), List.mem_of_getElem? (i := 970) (by decide +kernel)⟩
theorem lw_p41 : lw_okq (⟨"LeaseClusterModel", "readsCall", "()Z"⟩, 12) := ⟨⟨by decide +kernel, by decide +kernel⟩, List.mem_of_getElem? (i := 683) (by decide +kernel), List.mem_of_getElem? (i := 973) (by decide +kernel), List.mem_of_getElem? (i := 974) (by decide +kernel)⟩
theorem lw_p42 : lw_okq (⟨"LeaseClusterModel", "readsNumber", "(I)Z"⟩, 12) := ⟨⟨by decide +kernel, by decide +kernel⟩, List.mem_of_getElem? (i := 683) (by decide +kernel), List.mem_of_getElem? (i := 980) (by decide +kernel), List.mem_of_getElem? (i := 981) (by decide +kernel)⟩
theorem lw_p43 : lw_okq (⟨"LeaseClusterModel", "does", "(I)I"⟩, 12) := ⟨⟨by decide +kernel, by decide +kernel⟩, List.mem_of_getElem? (i := 683) (by decide +kernel), List.mem_of_getElem? (i := 984) (by decide +kernel), List.mem_of_getElem? (i := 985) (by decide +kernel)⟩
theorem lw_p44 : lw_okq (⟨"LeaseClusterModel", "linksUp", "()I"⟩, 12) := ⟨⟨by decide +kernel, by decide +kernel⟩, List.mem_of_getElem? (i := 683) (by decide +kernel), List.mem_of_getElem? (i := 1013) (by decide +kernel), List.mem_of_getElem? (i := 1014) (by decide +kernel)⟩
theorem lw_p45 : lw_okq (⟨"LeaseClusterModel", "mixes", "(J)V"⟩, 12) := ⟨⟨by decide +kernel, by decide +kernel⟩, List.mem_of_getElem? (i := 683) (by decide +kernel), List.mem_of_getElem? (i := 1023) (by decide +kernel), List.mem_of_getElem? (i := 1024) (by decide +kernel)⟩
theorem lw_p46 : lw_okq (⟨"LeaseClusterModel", "mixesServer", "(I)V"⟩, 12) := ⟨⟨by decide +kernel, by decide +kernel⟩, List.mem_of_getElem? (i := 683) (by decide +kernel), List.mem_of_getElem? (i := 1028) (by decide +kernel), List.mem_of_getElem? (i := 1029) (by decide +kernel)⟩
def lw_privs_3 : List (MethodName × Nat) := [(⟨"LeaseClusterModel", "remembers", "(I)V"⟩, 12), (⟨"LeaseClusterModel", "lastValue", "(IIII)I"⟩, 12), (⟨"LeaseClusterModel", "waits", "(II)I"⟩, 12), (⟨"LeaseClusterModel", "grantsAfter", "(III)I"⟩, 12), (⟨"LeaseClusterModel", "lastInHistory", "(I)I"⟩, 12), (⟨"LeaseClusterModel", "holders", "()I"⟩, 12), (⟨"LeaseClusterModel", "isKept", "(I)Z"⟩, 12), (⟨"LeaseClusterModel", "skips", "()V"⟩, 12), (⟨"LeaseClusterModel", "byteAt", "(I)I"⟩, 12), (⟨"LeaseClusterModel", "readsCall", "()Z"⟩, 12), (⟨"LeaseClusterModel", "readsNumber", "(I)Z"⟩, 12), (⟨"LeaseClusterModel", "does", "(I)I"⟩, 12), (⟨"LeaseClusterModel", "linksUp", "()I"⟩, 12), (⟨"LeaseClusterModel", "mixes", "(J)V"⟩, 12), (⟨"LeaseClusterModel", "mixesServer", "(I)V"⟩, 12)]
theorem lw_r3 : ∀ q ∈ lw_privs_3, lw_okq q := List.forall_mem_cons.mpr ⟨lw_p32, List.forall_mem_cons.mpr ⟨lw_p33, List.forall_mem_cons.mpr ⟨lw_p34, List.forall_mem_cons.mpr ⟨lw_p35, List.forall_mem_cons.mpr ⟨lw_p36, List.forall_mem_cons.mpr ⟨lw_p37, List.forall_mem_cons.mpr ⟨lw_p38, List.forall_mem_cons.mpr ⟨lw_p39, List.forall_mem_cons.mpr ⟨lw_p40, List.forall_mem_cons.mpr ⟨lw_p41, List.forall_mem_cons.mpr ⟨lw_p42, List.forall_mem_cons.mpr ⟨lw_p43, List.forall_mem_cons.mpr ⟨lw_p44, List.forall_mem_cons.mpr ⟨lw_p45, List.forall_mem_cons.mpr ⟨lw_p46, fun _ h => absurd h List.not_mem_nil⟩⟩⟩⟩⟩⟩⟩⟩⟩⟩⟩⟩⟩⟩⟩
def lw_privs : List (MethodName × Nat) := lw_privs_1 ++ (lw_privs_2 ++ (lw_privs_3))
def lw_tbl : List Cond := k2_sels lw_privs ++ tables_1
theorem lw_privs_ok : ∀ q ∈ lw_privs, lw_okq q := by
  show ∀ q ∈ lw_privs_1 ++ (lw_privs_2 ++ (lw_privs_3)), lw_okq q
  exact List.forall_mem_append.mpr ⟨lw_r1, List.forall_mem_append.mpr ⟨lw_r2, lw_r3⟩⟩
def gw_tbl : List Cond := lw_tbl.filter goodWord
theorem gw_in1 {w : Cond} (i : Nat) (h : tables_1_1[i]? = some w) (g : goodWord w = true) : w ∈ gw_tbl := List.mem_filter.mpr ⟨List.mem_append_right _ (List.mem_append_left _ (List.mem_of_getElem? h)), g⟩
theorem gw_in2 {w : Cond} (i : Nat) (h : tables_1_2[i]? = some w) (g : goodWord w = true) : w ∈ gw_tbl := List.mem_filter.mpr ⟨List.mem_append_right _ (List.mem_append_right _ (List.mem_append_left _ (List.mem_of_getElem? h))), g⟩
theorem gw_in3 {w : Cond} (i : Nat) (h : tables_1_3[i]? = some w) (g : goodWord w = true) : w ∈ gw_tbl := List.mem_filter.mpr ⟨List.mem_append_right _ (List.mem_append_right _ (List.mem_append_right _ (List.mem_append_left _ (List.mem_of_getElem? h)))), g⟩
theorem gw_in4 {w : Cond} (i : Nat) (h : tables_1_4[i]? = some w) (g : goodWord w = true) : w ∈ gw_tbl := List.mem_filter.mpr ⟨List.mem_append_right _ (List.mem_append_right _ (List.mem_append_right _ (List.mem_append_right _ (List.mem_append_left _ (List.mem_of_getElem? h))))), g⟩
theorem gw_in5 {w : Cond} (i : Nat) (h : tables_1_5[i]? = some w) (g : goodWord w = true) : w ∈ gw_tbl := List.mem_filter.mpr ⟨List.mem_append_right _ (List.mem_append_right _ (List.mem_append_right _ (List.mem_append_right _ (List.mem_append_right _ ((List.mem_of_getElem? h)))))), g⟩
theorem gw_in0 {w : Cond} (i : Nat) (h : (k2_sels lw_privs)[i]? = some w) (g : goodWord w = true) : w ∈ gw_tbl := List.mem_filter.mpr ⟨List.mem_append_left _ (List.mem_of_getElem? h), g⟩
def RX0 : String := "LeaseCluster$Log"
def TX0 : u_T := fun k => match k with
  | 0 => ("LeaseCluster$Log", "entries", "LLeaseCluster$Rows;", true)
  | _ => ("LeaseCluster$Log", "committed", "I", false)
def tyX0 : Nat → FieldType := fun k => match k with
  | 0 => .object "LeaseCluster$Rows"
  | _ => .int
theorem nmX0 : ∀ a, a < 2 → ∀ b, b < 2 → a ≠ b → (TX0 a).2.1 ≠ (TX0 b).2.1 := by decide +kernel
theorem tyX0_ok : ∀ k, k < 2 → parseFieldDescriptor (TX0 k).2.2.1 = some (tyX0 k) := by decide +kernel
theorem inX0 : ∀ w ∈ u_ws RX0 TX0 2, w ∈ gw_tbl := by
  intro w h
  obtain ⟨k, hk, rfl⟩ := List.mem_map.mp h
  have hk := List.mem_range.mp hk
  match k, hk with
  | 0, _ => exact (gw_in1 69 rfl rfl)
  | 1, _ => exact (gw_in1 71 rfl rfl)
def RX1 : String := "LeaseCluster$Rows"
def TX1 : u_T := fun k => match k with
  | 0 => ("LeaseCluster$Rows", "numbers", "[I", true)
  | _ => ("LeaseCluster$Rows", "size", "I", false)
def tyX1 : Nat → FieldType := fun k => match k with
  | 0 => .array .int
  | _ => .int
theorem nmX1 : ∀ a, a < 2 → ∀ b, b < 2 → a ≠ b → (TX1 a).2.1 ≠ (TX1 b).2.1 := by decide +kernel
theorem tyX1_ok : ∀ k, k < 2 → parseFieldDescriptor (TX1 k).2.2.1 = some (tyX1 k) := by decide +kernel
theorem inX1 : ∀ w ∈ u_ws RX1 TX1 2, w ∈ gw_tbl := by
  intro w h
  obtain ⟨k, hk, rfl⟩ := List.mem_map.mp h
  have hk := List.mem_range.mp hk
  match k, hk with
  | 0, _ => exact (gw_in1 57 rfl rfl)
  | 1, _ => exact (gw_in1 59 rfl rfl)
def RX2 : String := "LeaseCluster$Scenario"
def TX2 : u_T := fun k => match k with
  | 0 => ("LeaseCluster$Scenario", "text", "[I", true)
  | 1 => ("LeaseCluster$Scenario", "letters", "[I", true)
  | 2 => ("LeaseCluster$Scenario", "numbers", "[I", true)
  | 3 => ("LeaseCluster$Scenario", "results", "[I", true)
  | 4 => ("LeaseCluster$Scenario", "length", "I", false)
  | 5 => ("LeaseCluster$Scenario", "calls", "I", false)
  | 6 => ("LeaseCluster$Scenario", "resultCount", "I", false)
  | 7 => ("LeaseCluster$Scenario", "inCall", "Z", false)
  | 8 => ("LeaseCluster$Scenario", "wanted", "I", false)
  | 9 => ("LeaseCluster$Scenario", "taken", "I", false)
  | _ => ("LeaseCluster$Scenario", "digits", "I", false)
def tyX2 : Nat → FieldType := fun k => match k with
  | 0 => .array .int
  | 1 => .array .int
  | 2 => .array .int
  | 3 => .array .int
  | 4 => .int
  | 5 => .int
  | 6 => .int
  | 7 => .boolean
  | 8 => .int
  | 9 => .int
  | _ => .int
theorem nmX2 : ∀ a, a < 11 → ∀ b, b < 11 → a ≠ b → (TX2 a).2.1 ≠ (TX2 b).2.1 := by decide +kernel
theorem tyX2_ok : ∀ k, k < 11 → parseFieldDescriptor (TX2 k).2.2.1 = some (tyX2 k) := by decide +kernel
theorem inX2 : ∀ w ∈ u_ws RX2 TX2 11, w ∈ gw_tbl := by
  intro w h
  obtain ⟨k, hk, rfl⟩ := List.mem_map.mp h
  have hk := List.mem_range.mp hk
  match k, hk with
  | 0, _ => exact (gw_in1 198 rfl rfl)
  | 1, _ => exact (gw_in1 200 rfl rfl)
  | 2, _ => exact (gw_in1 202 rfl rfl)
  | 3, _ => exact (gw_in1 204 rfl rfl)
  | 4, _ => exact (gw_in1 206 rfl rfl)
  | 5, _ => exact (gw_in1 208 rfl rfl)
  | 6, _ => exact (gw_in1 210 rfl rfl)
  | 7, _ => exact (gw_in1 212 rfl rfl)
  | 8, _ => exact (gw_in1 214 rfl rfl)
  | 9, _ => exact (gw_in1 216 rfl rfl)
  | 10, _ => exact (gw_in1 218 rfl rfl)
def RX3 : String := "LeaseCluster$Server"
def TX3 : u_T := fun k => match k with
  | 0 => ("LeaseCluster$Server", "log", "LLeaseCluster$Log;", true)
  | 1 => ("LeaseCluster$Server", "owed", "LLeaseCluster$Rows;", true)
  | 2 => ("LeaseCluster$Server", "offset", "I", false)
  | 3 => ("LeaseCluster$Server", "state", "I", false)
  | 4 => ("LeaseCluster$Server", "term", "I", false)
  | 5 => ("LeaseCluster$Server", "promiseHolder", "I", false)
  | 6 => ("LeaseCluster$Server", "promiseEnd", "I", false)
  | 7 => ("LeaseCluster$Server", "leaseTerm", "I", false)
  | _ => ("LeaseCluster$Server", "leaseEnd", "I", false)
def tyX3 : Nat → FieldType := fun k => match k with
  | 0 => .object "LeaseCluster$Log"
  | 1 => .object "LeaseCluster$Rows"
  | 2 => .int
  | 3 => .int
  | 4 => .int
  | 5 => .int
  | 6 => .int
  | 7 => .int
  | _ => .int
theorem nmX3 : ∀ a, a < 9 → ∀ b, b < 9 → a ≠ b → (TX3 a).2.1 ≠ (TX3 b).2.1 := by decide +kernel
theorem tyX3_ok : ∀ k, k < 9 → parseFieldDescriptor (TX3 k).2.2.1 = some (tyX3 k) := by decide +kernel
theorem inX3 : ∀ w ∈ u_ws RX3 TX3 9, w ∈ gw_tbl := by
  intro w h
  obtain ⟨k, hk, rfl⟩ := List.mem_map.mp h
  have hk := List.mem_range.mp hk
  match k, hk with
  | 0, _ => exact (gw_in1 103 rfl rfl)
  | 1, _ => exact (gw_in1 105 rfl rfl)
  | 2, _ => exact (gw_in1 107 rfl rfl)
  | 3, _ => exact (gw_in1 109 rfl rfl)
  | 4, _ => exact (gw_in1 111 rfl rfl)
  | 5, _ => exact (gw_in1 113 rfl rfl)
  | 6, _ => exact (gw_in1 115 rfl rfl)
  | 7, _ => exact (gw_in1 117 rfl rfl)
  | 8, _ => exact (gw_in1 119 rfl rfl)
def RX4 : String := "LeaseCluster$World"
def TX4 : u_T := fun k => match k with
  | 0 => ("LeaseCluster$World", "doubt", "I", true)
  | 1 => ("LeaseCluster$World", "servers", "[LLeaseCluster$Server;", true)
  | 2 => ("LeaseCluster$World", "links", "[I", true)
  | 3 => ("LeaseCluster$World", "reasons", "[I", true)
  | 4 => ("LeaseCluster$World", "history", "LLeaseCluster$Log;", true)
  | 5 => ("LeaseCluster$World", "given", "LLeaseCluster$Rows;", true)
  | 6 => ("LeaseCluster$World", "messages", "LLeaseCluster$Rows;", true)
  | 7 => ("LeaseCluster$World", "cellValues", "[I", true)
  | 8 => ("LeaseCluster$World", "cellTokens", "[I", true)
  | 9 => ("LeaseCluster$World", "time", "I", false)
  | 10 => ("LeaseCluster$World", "everGiven", "I", false)
  | _ => ("LeaseCluster$World", "refused", "I", false)
def tyX4 : Nat → FieldType := fun k => match k with
  | 0 => .int
  | 1 => .array (.object "LeaseCluster$Server")
  | 2 => .array .int
  | 3 => .array .int
  | 4 => .object "LeaseCluster$Log"
  | 5 => .object "LeaseCluster$Rows"
  | 6 => .object "LeaseCluster$Rows"
  | 7 => .array .int
  | 8 => .array .int
  | 9 => .int
  | 10 => .int
  | _ => .int
theorem nmX4 : ∀ a, a < 12 → ∀ b, b < 12 → a ≠ b → (TX4 a).2.1 ≠ (TX4 b).2.1 := by decide +kernel
theorem tyX4_ok : ∀ k, k < 12 → parseFieldDescriptor (TX4 k).2.2.1 = some (tyX4 k) := by decide +kernel
theorem inX4 : ∀ w ∈ u_ws RX4 TX4 12, w ∈ gw_tbl := by
  intro w h
  obtain ⟨k, hk, rfl⟩ := List.mem_map.mp h
  have hk := List.mem_range.mp hk
  match k, hk with
  | 0, _ => exact (gw_in1 150 rfl rfl)
  | 1, _ => exact (gw_in1 152 rfl rfl)
  | 2, _ => exact (gw_in1 154 rfl rfl)
  | 3, _ => exact (gw_in1 156 rfl rfl)
  | 4, _ => exact (gw_in1 158 rfl rfl)
  | 5, _ => exact (gw_in1 160 rfl rfl)
  | 6, _ => exact (gw_in1 162 rfl rfl)
  | 7, _ => exact (gw_in1 164 rfl rfl)
  | 8, _ => exact (gw_in1 166 rfl rfl)
  | 9, _ => exact (gw_in1 168 rfl rfl)
  | 10, _ => exact (gw_in1 170 rfl rfl)
  | 11, _ => exact (gw_in1 172 rfl rfl)
def RX5 : String := "LeaseCluster"
def TX5 : u_T := fun k => match k with
  | 0 => ("LeaseCluster", "world", "LLeaseCluster$World;", true)
  | 1 => ("LeaseCluster", "snapshots", "[LLeaseCluster$World;", true)
  | 2 => ("LeaseCluster", "saved", "[Z", true)
  | _ => ("LeaseCluster", "scenario", "LLeaseCluster$Scenario;", true)
def tyX5 : Nat → FieldType := fun k => match k with
  | 0 => .object "LeaseCluster$World"
  | 1 => .array (.object "LeaseCluster$World")
  | 2 => .array .boolean
  | _ => .object "LeaseCluster$Scenario"
theorem nmX5 : ∀ a, a < 4 → ∀ b, b < 4 → a ≠ b → (TX5 a).2.1 ≠ (TX5 b).2.1 := by decide +kernel
theorem tyX5_ok : ∀ k, k < 4 → parseFieldDescriptor (TX5 k).2.2.1 = some (tyX5 k) := by decide +kernel
theorem inX5 : ∀ w ∈ u_ws RX5 TX5 4, w ∈ gw_tbl := by
  intro w h
  obtain ⟨k, hk, rfl⟩ := List.mem_map.mp h
  have hk := List.mem_range.mp hk
  match k, hk with
  | 0, _ => exact (gw_in1 226 rfl rfl)
  | 1, _ => exact (gw_in1 228 rfl rfl)
  | 2, _ => exact (gw_in1 230 rfl rfl)
  | 3, _ => exact (gw_in1 232 rfl rfl)
def RX6 : String := "LeaseClusterModel"
def TX6 : u_T := fun k => match k with
  | 0 => ("LeaseClusterModel", "m", "[I", true)
  | 1 => ("LeaseClusterModel", "saved", "[I", true)
  | 2 => ("LeaseClusterModel", "isSaved", "[I", true)
  | 3 => ("LeaseClusterModel", "doubt", "I", false)
  | 4 => ("LeaseClusterModel", "text", "[I", true)
  | 5 => ("LeaseClusterModel", "length", "I", false)
  | 6 => ("LeaseClusterModel", "results", "I", false)
  | 7 => ("LeaseClusterModel", "result", "[I", true)
  | 8 => ("LeaseClusterModel", "call", "[I", true)
  | 9 => ("LeaseClusterModel", "calls", "I", false)
  | 10 => ("LeaseClusterModel", "at", "I", false)
  | _ => ("LeaseClusterModel", "hash", "J", false)
def tyX6 : Nat → FieldType := fun k => match k with
  | 0 => .array .int
  | 1 => .array .int
  | 2 => .array .int
  | 3 => .int
  | 4 => .array .int
  | 5 => .int
  | 6 => .int
  | 7 => .array .int
  | 8 => .array .int
  | 9 => .int
  | 10 => .int
  | _ => .long
theorem nmX6 : ∀ a, a < 12 → ∀ b, b < 12 → a ≠ b → (TX6 a).2.1 ≠ (TX6 b).2.1 := by decide +kernel
theorem tyX6_ok : ∀ k, k < 12 → parseFieldDescriptor (TX6 k).2.2.1 = some (tyX6 k) := by decide +kernel
theorem inX6 : ∀ w ∈ u_ws RX6 TX6 12, w ∈ gw_tbl := by
  intro w h
  obtain ⟨k, hk, rfl⟩ := List.mem_map.mp h
  have hk := List.mem_range.mp hk
  match k, hk with
  | 0, _ => exact (gw_in3 220 rfl rfl)
  | 1, _ => exact (gw_in3 222 rfl rfl)
  | 2, _ => exact (gw_in3 224 rfl rfl)
  | 3, _ => exact (gw_in3 226 rfl rfl)
  | 4, _ => exact (gw_in3 228 rfl rfl)
  | 5, _ => exact (gw_in3 230 rfl rfl)
  | 6, _ => exact (gw_in3 232 rfl rfl)
  | 7, _ => exact (gw_in3 234 rfl rfl)
  | 8, _ => exact (gw_in3 236 rfl rfl)
  | 9, _ => exact (gw_in3 238 rfl rfl)
  | 10, _ => exact (gw_in4 0 rfl rfl)
  | 11, _ => exact (gw_in4 2 rfl rfl)
def zz_T0 (ci : Nat) : u_T := match ci with
  | 0 => TX0
  | 1 => TX1
  | 2 => TX2
  | 3 => TX3
  | 4 => TX4
  | 5 => TX5
  | _ => TX6
def zz_cd : Nat → Jvm.ClassFile.Cond
  | 0 => .eq
  | 1 => .ne
  | 2 => .lt
  | 3 => .ge
  | 4 => .gt
  | _ => .le
def zz_ym : Nat → MethodName
  | 0 => Lib.Math.max.name
  | 1 => Lib.Math.min.name
  | _ => arraycopyName
def zz_fl : List (String × Nat × Nat × Nat) := [("LeaseCluster$Rows", 15, 1, 0), ("LeaseCluster$Rows", 21, 1, 1), ("LeaseCluster$Server", 53, 1, 1), ("LeaseCluster$Log", 31, 1, 1), ("LeaseCluster$World", 89, 1, 1), ("LeaseCluster", 161, 1, 1), ("LeaseCluster$Log", 14, 0, 0), ("LeaseCluster", 157, 0, 0), ("LeaseCluster$World", 160, 0, 0), ("LeaseCluster$Log", 20, 0, 1), ("LeaseCluster", 113, 0, 1), ("LeaseCluster$World", 163, 0, 1), ("LeaseCluster$Server", 12, 3, 0), ("LeaseCluster", 109, 3, 0), ("LeaseCluster$World", 153, 3, 0), ("LeaseCluster$Server", 23, 3, 1), ("LeaseCluster$World", 86, 3, 1), ("LeaseCluster", 169, 3, 1), ("LeaseCluster$Server", 27, 3, 2), ("LeaseCluster$World", 63, 3, 2), ("LeaseCluster", 58, 3, 2), ("LeaseCluster$Server", 31, 3, 3), ("LeaseCluster$World", 66, 3, 3), ("LeaseCluster", 80, 3, 3), ("LeaseCluster$Server", 34, 3, 4), ("LeaseCluster$World", 114, 3, 4), ("LeaseCluster", 125, 3, 4), ("LeaseCluster$Server", 37, 3, 5), ("LeaseCluster", 128, 3, 5), ("LeaseCluster$World", 140, 3, 5), ("LeaseCluster$Server", 40, 3, 6), ("LeaseCluster", 131, 3, 6), ("LeaseCluster$World", 143, 3, 6), ("LeaseCluster$Server", 43, 3, 7), ("LeaseCluster$World", 69, 3, 7), ("LeaseCluster", 134, 3, 7), ("LeaseCluster$Server", 46, 3, 8), ("LeaseCluster$World", 76, 3, 8), ("LeaseCluster", 137, 3, 8), ("LeaseCluster$World", 9, 4, 0), ("LeaseCluster", 46, 4, 0), ("LeaseCluster$World", 17, 4, 1), ("LeaseCluster", 54, 4, 1), ("LeaseCluster$World", 21, 4, 2), ("LeaseCluster", 86, 4, 2), ("LeaseCluster$World", 25, 4, 3), ("LeaseCluster", 122, 4, 3), ("LeaseCluster$World", 32, 4, 4), ("LeaseCluster", 179, 4, 4), ("LeaseCluster$World", 41, 4, 5), ("LeaseCluster", 185, 4, 5), ("LeaseCluster$World", 45, 4, 6), ("LeaseCluster", 188, 4, 6), ("LeaseCluster$World", 48, 4, 7), ("LeaseCluster", 202, 4, 7), ("LeaseCluster$World", 51, 4, 8), ("LeaseCluster", 205, 4, 8), ("LeaseCluster$World", 54, 4, 9), ("LeaseCluster", 73, 4, 9), ("LeaseCluster$World", 57, 4, 10), ("LeaseCluster", 261, 4, 10), ("LeaseCluster$World", 60, 4, 11), ("LeaseCluster", 264, 4, 11), ("LeaseCluster$Scenario", 9, 2, 0), ("LeaseCluster$Scenario", 15, 2, 1), ("LeaseCluster", 244, 2, 1), ("LeaseCluster$Scenario", 18, 2, 2), ("LeaseCluster$Scenario", 21, 2, 3), ("LeaseCluster", 241, 2, 3), ("LeaseCluster$Scenario", 24, 2, 4), ("LeaseCluster", 232, 2, 4), ("LeaseCluster$Scenario", 28, 2, 5), ("LeaseCluster", 238, 2, 5), ("LeaseCluster$Scenario", 31, 2, 6), ("LeaseCluster", 254, 2, 6), ("LeaseCluster$Scenario", 34, 2, 7), ("LeaseCluster$Scenario", 38, 2, 8), ("LeaseCluster$Scenario", 41, 2, 9), ("LeaseCluster$Scenario", 44, 2, 10), ("LeaseCluster", 23, 5, 0), ("LeaseCluster", 27, 5, 1), ("LeaseCluster", 31, 5, 2), ("LeaseCluster", 38, 5, 3), ("LeaseClusterModel", 7, 6, 0), ("LeaseClusterModel", 13, 6, 1), ("LeaseClusterModel", 16, 6, 2), ("LeaseClusterModel", 28, 6, 3), ("LeaseClusterModel", 19, 6, 4), ("LeaseClusterModel", 129, 6, 5), ("LeaseClusterModel", 182, 6, 6), ("LeaseClusterModel", 22, 6, 7), ("LeaseClusterModel", 25, 6, 8), ("LeaseClusterModel", 144, 6, 9), ("LeaseClusterModel", 132, 6, 10), ("LeaseClusterModel", 193, 6, 11)]
set_option maxRecDepth 100000 in
theorem zz_fl_ok : ∀ q ∈ zz_fl, Cond.fieldLink q.1 q.2.1 (zz_T0 q.2.2.1 q.2.2.2).1 (zz_T0 q.2.2.1 q.2.2.2).2.1 (zz_T0 q.2.2.1 q.2.2.2).2.2.1 ∈ gw_tbl := List.forall_mem_cons.mpr ⟨(gw_in1 51 rfl rfl), List.forall_mem_cons.mpr ⟨(gw_in1 52 rfl rfl), List.forall_mem_cons.mpr ⟨(gw_in1 53 rfl rfl), List.forall_mem_cons.mpr ⟨(gw_in1 54 rfl rfl), List.forall_mem_cons.mpr ⟨(gw_in1 55 rfl rfl), List.forall_mem_cons.mpr ⟨(gw_in1 56 rfl rfl), List.forall_mem_cons.mpr ⟨(gw_in1 63 rfl rfl), List.forall_mem_cons.mpr ⟨(gw_in1 64 rfl rfl), List.forall_mem_cons.mpr ⟨(gw_in1 65 rfl rfl), List.forall_mem_cons.mpr ⟨(gw_in1 66 rfl rfl), List.forall_mem_cons.mpr ⟨(gw_in1 67 rfl rfl), List.forall_mem_cons.mpr ⟨(gw_in1 68 rfl rfl), List.forall_mem_cons.mpr ⟨(gw_in1 76 rfl rfl), List.forall_mem_cons.mpr ⟨(gw_in1 77 rfl rfl), List.forall_mem_cons.mpr ⟨(gw_in1 78 rfl rfl), List.forall_mem_cons.mpr ⟨(gw_in1 79 rfl rfl), List.forall_mem_cons.mpr ⟨(gw_in1 80 rfl rfl), List.forall_mem_cons.mpr ⟨(gw_in1 81 rfl rfl), List.forall_mem_cons.mpr ⟨(gw_in1 82 rfl rfl), List.forall_mem_cons.mpr ⟨(gw_in1 83 rfl rfl), List.forall_mem_cons.mpr ⟨(gw_in1 84 rfl rfl), List.forall_mem_cons.mpr ⟨(gw_in1 85 rfl rfl), List.forall_mem_cons.mpr ⟨(gw_in1 86 rfl rfl), List.forall_mem_cons.mpr ⟨(gw_in1 87 rfl rfl), List.forall_mem_cons.mpr ⟨(gw_in1 88 rfl rfl), List.forall_mem_cons.mpr ⟨(gw_in1 89 rfl rfl), List.forall_mem_cons.mpr ⟨(gw_in1 90 rfl rfl), List.forall_mem_cons.mpr ⟨(gw_in1 91 rfl rfl), List.forall_mem_cons.mpr ⟨(gw_in1 92 rfl rfl), List.forall_mem_cons.mpr ⟨(gw_in1 93 rfl rfl), List.forall_mem_cons.mpr ⟨(gw_in1 94 rfl rfl), List.forall_mem_cons.mpr ⟨(gw_in1 95 rfl rfl), List.forall_mem_cons.mpr ⟨(gw_in1 96 rfl rfl), List.forall_mem_cons.mpr ⟨(gw_in1 97 rfl rfl), List.forall_mem_cons.mpr ⟨(gw_in1 98 rfl rfl), List.forall_mem_cons.mpr ⟨(gw_in1 99 rfl rfl), List.forall_mem_cons.mpr ⟨(gw_in1 100 rfl rfl), List.forall_mem_cons.mpr ⟨(gw_in1 101 rfl rfl), List.forall_mem_cons.mpr ⟨(gw_in1 102 rfl rfl), List.forall_mem_cons.mpr ⟨(gw_in1 126 rfl rfl), List.forall_mem_cons.mpr ⟨(gw_in1 127 rfl rfl), List.forall_mem_cons.mpr ⟨(gw_in1 128 rfl rfl), List.forall_mem_cons.mpr ⟨(gw_in1 129 rfl rfl), List.forall_mem_cons.mpr ⟨(gw_in1 130 rfl rfl), List.forall_mem_cons.mpr ⟨(gw_in1 131 rfl rfl), List.forall_mem_cons.mpr ⟨(gw_in1 132 rfl rfl), List.forall_mem_cons.mpr ⟨(gw_in1 133 rfl rfl), List.forall_mem_cons.mpr ⟨(gw_in1 134 rfl rfl), List.forall_mem_cons.mpr ⟨(gw_in1 135 rfl rfl), List.forall_mem_cons.mpr ⟨(gw_in1 136 rfl rfl), List.forall_mem_cons.mpr ⟨(gw_in1 137 rfl rfl), List.forall_mem_cons.mpr ⟨(gw_in1 138 rfl rfl), List.forall_mem_cons.mpr ⟨(gw_in1 139 rfl rfl), List.forall_mem_cons.mpr ⟨(gw_in1 140 rfl rfl), List.forall_mem_cons.mpr ⟨(gw_in1 141 rfl rfl), List.forall_mem_cons.mpr ⟨(gw_in1 142 rfl rfl), List.forall_mem_cons.mpr ⟨(gw_in1 143 rfl rfl), List.forall_mem_cons.mpr ⟨(gw_in1 144 rfl rfl), List.forall_mem_cons.mpr ⟨(gw_in1 145 rfl rfl), List.forall_mem_cons.mpr ⟨(gw_in1 146 rfl rfl), List.forall_mem_cons.mpr ⟨(gw_in1 147 rfl rfl), List.forall_mem_cons.mpr ⟨(gw_in1 148 rfl rfl), List.forall_mem_cons.mpr ⟨(gw_in1 149 rfl rfl), List.forall_mem_cons.mpr ⟨(gw_in1 182 rfl rfl), List.forall_mem_cons.mpr ⟨(gw_in1 183 rfl rfl), List.forall_mem_cons.mpr ⟨(gw_in1 184 rfl rfl), List.forall_mem_cons.mpr ⟨(gw_in1 185 rfl rfl), List.forall_mem_cons.mpr ⟨(gw_in1 186 rfl rfl), List.forall_mem_cons.mpr ⟨(gw_in1 187 rfl rfl), List.forall_mem_cons.mpr ⟨(gw_in1 188 rfl rfl), List.forall_mem_cons.mpr ⟨(gw_in1 189 rfl rfl), List.forall_mem_cons.mpr ⟨(gw_in1 190 rfl rfl), List.forall_mem_cons.mpr ⟨(gw_in1 191 rfl rfl), List.forall_mem_cons.mpr ⟨(gw_in1 192 rfl rfl), List.forall_mem_cons.mpr ⟨(gw_in1 193 rfl rfl), List.forall_mem_cons.mpr ⟨(gw_in1 194 rfl rfl), List.forall_mem_cons.mpr ⟨(gw_in1 195 rfl rfl), List.forall_mem_cons.mpr ⟨(gw_in1 196 rfl rfl), List.forall_mem_cons.mpr ⟨(gw_in1 197 rfl rfl), List.forall_mem_cons.mpr ⟨(gw_in1 222 rfl rfl), List.forall_mem_cons.mpr ⟨(gw_in1 223 rfl rfl), List.forall_mem_cons.mpr ⟨(gw_in1 224 rfl rfl), List.forall_mem_cons.mpr ⟨(gw_in1 225 rfl rfl), List.forall_mem_cons.mpr ⟨(gw_in3 208 rfl rfl), List.forall_mem_cons.mpr ⟨(gw_in3 209 rfl rfl), List.forall_mem_cons.mpr ⟨(gw_in3 210 rfl rfl), List.forall_mem_cons.mpr ⟨(gw_in3 211 rfl rfl), List.forall_mem_cons.mpr ⟨(gw_in3 212 rfl rfl), List.forall_mem_cons.mpr ⟨(gw_in3 213 rfl rfl), List.forall_mem_cons.mpr ⟨(gw_in3 214 rfl rfl), List.forall_mem_cons.mpr ⟨(gw_in3 215 rfl rfl), List.forall_mem_cons.mpr ⟨(gw_in3 216 rfl rfl), List.forall_mem_cons.mpr ⟨(gw_in3 217 rfl rfl), List.forall_mem_cons.mpr ⟨(gw_in3 218 rfl rfl), List.forall_mem_cons.mpr ⟨(gw_in3 219 rfl rfl), fun _ h => absurd h List.not_mem_nil⟩⟩⟩⟩⟩⟩⟩⟩⟩⟩⟩⟩⟩⟩⟩⟩⟩⟩⟩⟩⟩⟩⟩⟩⟩⟩⟩⟩⟩⟩⟩⟩⟩⟩⟩⟩⟩⟩⟩⟩⟩⟩⟩⟩⟩⟩⟩⟩⟩⟩⟩⟩⟩⟩⟩⟩⟩⟩⟩⟩⟩⟩⟩⟩⟩⟩⟩⟩⟩⟩⟩⟩⟩⟩⟩⟩⟩⟩⟩⟩⟩⟩⟩⟩⟩⟩⟩⟩⟩⟩⟩⟩⟩⟩⟩
def zz_smx : List (String × Nat × Nat) := [("LeaseCluster", 1, 9), ("LeaseCluster", 0, 15), ("LeaseCluster$Rows", 0, 9), ("LeaseCluster$Rows", 2, 29), ("LeaseCluster$World", 0, 128), ("LeaseCluster$Log", 0, 34), ("LeaseCluster$Rows", 1, 35), ("LeaseCluster$World", 2, 206)]
theorem zz_smx_ok : ∀ q ∈ zz_smx, Cond.methodLink q.1 q.2.2 (zz_ym q.2.1) ∈ gw_tbl := List.forall_mem_cons.mpr ⟨(gw_in1 19 rfl rfl), List.forall_mem_cons.mpr ⟨(gw_in1 22 rfl rfl), List.forall_mem_cons.mpr ⟨(gw_in1 50 rfl rfl), List.forall_mem_cons.mpr ⟨(gw_in2 51 rfl rfl), List.forall_mem_cons.mpr ⟨(gw_in2 108 rfl rfl), List.forall_mem_cons.mpr ⟨(gw_in2 185 rfl rfl), List.forall_mem_cons.mpr ⟨(gw_in2 238 rfl rfl), List.forall_mem_cons.mpr ⟨(gw_in3 165 rfl rfl), fun _ h => absurd h List.not_mem_nil⟩⟩⟩⟩⟩⟩⟩⟩
def zz_cs : List (String × Nat × Int32) := [("LeaseCluster", 76, 100000), ("LeaseCluster", 153, 2147483647), ("java/lang/Integer", 265, 1431655765), ("java/lang/Integer", 266, 858993459), ("java/lang/Integer", 267, 252645135), ("LeaseClusterModel", 60, 100000), ("LeaseClusterModel", 105, 2000000000)]
theorem zz_cs_ok : ∀ q ∈ zz_cs, Cond.constant q.1 q.2.1 q.2.2 ∈ gw_tbl := List.forall_mem_cons.mpr ⟨(gw_in2 25 rfl rfl), List.forall_mem_cons.mpr ⟨(gw_in2 211 rfl rfl), List.forall_mem_cons.mpr ⟨(gw_in3 65 rfl rfl), List.forall_mem_cons.mpr ⟨(gw_in3 66 rfl rfl), List.forall_mem_cons.mpr ⟨(gw_in3 67 rfl rfl), List.forall_mem_cons.mpr ⟨(gw_in4 35 rfl rfl), List.forall_mem_cons.mpr ⟨(gw_in4 148 rfl rfl), fun _ h => absurd h List.not_mem_nil⟩⟩⟩⟩⟩⟩⟩
def zz_cl2 : List (String × Nat × Nat) := [("LeaseCluster", 270, 0), ("LeaseCluster", 314, 1), ("LeaseClusterModel", 210, 0), ("LeaseClusterModel", 191, 1)]
theorem zz_cl2_ok : ∀ q ∈ zz_cl2, Cond.constantLong q.1 q.2.1 (if Nat.beq q.2.2 0 then 2525 else 31) ∈ gw_tbl := List.forall_mem_cons.mpr ⟨(gw_in3 182 rfl rfl), List.forall_mem_cons.mpr ⟨(gw_in3 187 rfl rfl), List.forall_mem_cons.mpr ⟨(gw_in5 60 rfl rfl), List.forall_mem_cons.mpr ⟨(gw_in5 66 rfl rfl), fun _ h => absurd h List.not_mem_nil⟩⟩⟩⟩
theorem zz_stmx : Cond.static Lib.Math.max.name ∈ gw_tbl := (gw_in1 23 rfl rfl)
theorem zz_stmn : Cond.static Lib.Math.min.name ∈ gw_tbl := (gw_in1 20 rfl rfl)
theorem zz_stac : Cond.static arraycopyName ∈ gw_tbl := (gw_in2 52 rfl rfl)
theorem zz_ntac : Cond.native arraycopyName ∈ gw_tbl := (gw_in2 53 rfl rfl)
theorem zz_inim : Cond.initialized "java/lang/Math" ∈ gw_tbl := (gw_in1 2 rfl rfl)
theorem zz_inis : Cond.initialized "java/lang/System" ∈ gw_tbl := (gw_in1 9 rfl rfl)
theorem zz_comx : Cond.code Lib.Math.max.name Lib.Math.max.code 2 (some .int) ∈ gw_tbl := (gw_in1 24 rfl rfl)
theorem zz_comn : Cond.code Lib.Math.min.name Lib.Math.min.code 2 (some .int) ∈ gw_tbl := (gw_in1 21 rfl rfl)
