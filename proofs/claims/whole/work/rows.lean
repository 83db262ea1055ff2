section
-- ===== PART A: goes FIRST, ahead of the names: the tables' words, and 'selects' of the private methods out of them =====
/-- a private method of a class that the tables say can be made, by its rows of tables_1 -/
def lw_okq (q : MethodName × Nat) : Prop := (q.1.cls ≠ "java/lang/invoke/MethodHandle" ∧ q.1.cls ≠ "java/lang/invoke/VarHandle") ∧ Cond.instantiable q.1.cls q.2 ∈ tables_1 ∧ Cond.privateMethod q.1 ∈ tables_1 ∧ Cond.instanceMethod q.1 ∈ tables_1
theorem lw_p0 : lw_okq (⟨"CampusNet$Tree", "chooseRoots", "()V"⟩, 17) := ⟨⟨by decide +kernel, by decide +kernel⟩, List.mem_of_getElem? (i := 113) (by decide +kernel), List.mem_of_getElem? (i := 277) (by decide +kernel), List.mem_of_getElem? (i := 278) (by decide +kernel)⟩
theorem lw_p1 : lw_okq (⟨"CampusNet$Tree", "bestOffer", "(I)I"⟩, 17) := ⟨⟨by decide +kernel, by decide +kernel⟩, List.mem_of_getElem? (i := 113) (by decide +kernel), List.mem_of_getElem? (i := 281) (by decide +kernel), List.mem_of_getElem? (i := 282) (by decide +kernel)⟩
theorem lw_p2 : lw_okq (⟨"CampusNet$Tree", "isOffering", "(I)Z"⟩, 17) := ⟨⟨by decide +kernel, by decide +kernel⟩, List.mem_of_getElem? (i := 113) (by decide +kernel), List.mem_of_getElem? (i := 285) (by decide +kernel), List.mem_of_getElem? (i := 286) (by decide +kernel)⟩
theorem lw_p3 : lw_okq (⟨"CampusNet$Tree", "offerRank", "(I)J"⟩, 17) := ⟨⟨by decide +kernel, by decide +kernel⟩, List.mem_of_getElem? (i := 113) (by decide +kernel), List.mem_of_getElem? (i := 293) (by decide +kernel), List.mem_of_getElem? (i := 294) (by decide +kernel)⟩
theorem lw_p4 : lw_okq (⟨"CampusNet$Tree", "offeredCost", "(I)I"⟩, 17) := ⟨⟨by decide +kernel, by decide +kernel⟩, List.mem_of_getElem? (i := 113) (by decide +kernel), List.mem_of_getElem? (i := 297) (by decide +kernel), List.mem_of_getElem? (i := 298) (by decide +kernel)⟩
theorem lw_p5 : lw_okq (⟨"CampusNet$Tree", "lookAtRole", "(I)V"⟩, 17) := ⟨⟨by decide +kernel, by decide +kernel⟩, List.mem_of_getElem? (i := 113) (by decide +kernel), List.mem_of_getElem? (i := 304) (by decide +kernel), List.mem_of_getElem? (i := 305) (by decide +kernel)⟩
theorem lw_p6 : lw_okq (⟨"CampusNet$Tree", "roleNow", "(I)I"⟩, 17) := ⟨⟨by decide +kernel, by decide +kernel⟩, List.mem_of_getElem? (i := 113) (by decide +kernel), List.mem_of_getElem? (i := 308) (by decide +kernel), List.mem_of_getElem? (i := 309) (by decide +kernel)⟩
theorem lw_p7 : lw_okq (⟨"CampusNet$Tree", "messageRank", "(I)J"⟩, 17) := ⟨⟨by decide +kernel, by decide +kernel⟩, List.mem_of_getElem? (i := 113) (by decide +kernel), List.mem_of_getElem? (i := 317) (by decide +kernel), List.mem_of_getElem? (i := 318) (by decide +kernel)⟩
theorem lw_p8 : lw_okq (⟨"CampusNet$Tree", "stateNow", "(I)I"⟩, 17) := ⟨⟨by decide +kernel, by decide +kernel⟩, List.mem_of_getElem? (i := 113) (by decide +kernel), List.mem_of_getElem? (i := 324) (by decide +kernel), List.mem_of_getElem? (i := 325) (by decide +kernel)⟩
theorem lw_p9 : lw_okq (⟨"CampusNet$Tree", "ageMessages", "()V"⟩, 17) := ⟨⟨by decide +kernel, by decide +kernel⟩, List.mem_of_getElem? (i := 113) (by decide +kernel), List.mem_of_getElem? (i := 404) (by decide +kernel), List.mem_of_getElem? (i := 405) (by decide +kernel)⟩
theorem lw_p10 : lw_okq (⟨"CampusNet$Tree", "passNotices", "()V"⟩, 17) := ⟨⟨by decide +kernel, by decide +kernel⟩, List.mem_of_getElem? (i := 113) (by decide +kernel), List.mem_of_getElem? (i := 408) (by decide +kernel), List.mem_of_getElem? (i := 409) (by decide +kernel)⟩
theorem lw_p11 : lw_okq (⟨"CampusNet$Tree", "passNoticeOf", "(I)V"⟩, 17) := ⟨⟨by decide +kernel, by decide +kernel⟩, List.mem_of_getElem? (i := 113) (by decide +kernel), List.mem_of_getElem? (i := 412) (by decide +kernel), List.mem_of_getElem? (i := 413) (by decide +kernel)⟩
theorem lw_p12 : lw_okq (⟨"CampusNet$Tree", "sendMessages", "()V"⟩, 17) := ⟨⟨by decide +kernel, by decide +kernel⟩, List.mem_of_getElem? (i := 113) (by decide +kernel), List.mem_of_getElem? (i := 416) (by decide +kernel), List.mem_of_getElem? (i := 417) (by decide +kernel)⟩
theorem lw_p13 : lw_okq (⟨"CampusNet$Tree", "sendMessage", "(II)V"⟩, 17) := ⟨⟨by decide +kernel, by decide +kernel⟩, List.mem_of_getElem? (i := 113) (by decide +kernel), List.mem_of_getElem? (i := 420) (by decide +kernel), List.mem_of_getElem? (i := 421) (by decide +kernel)⟩
theorem lw_p14 : lw_okq (⟨"CampusNet$Tree", "takeMessages", "()V"⟩, 17) := ⟨⟨by decide +kernel, by decide +kernel⟩, List.mem_of_getElem? (i := 113) (by decide +kernel), List.mem_of_getElem? (i := 428) (by decide +kernel), List.mem_of_getElem? (i := 429) (by decide +kernel)⟩
theorem lw_p15 : lw_okq (⟨"CampusNet", "forgetOldEntries", "()V"⟩, 7) := ⟨⟨by decide +kernel, by decide +kernel⟩, List.mem_of_getElem? (i := 12) (by decide +kernel), List.mem_of_getElem? (i := 436) (by decide +kernel), List.mem_of_getElem? (i := 437) (by decide +kernel)⟩
def lw_privs_1 : List (MethodName × Nat) := [(⟨"CampusNet$Tree", "chooseRoots", "()V"⟩, 17), (⟨"CampusNet$Tree", "bestOffer", "(I)I"⟩, 17), (⟨"CampusNet$Tree", "isOffering", "(I)Z"⟩, 17), (⟨"CampusNet$Tree", "offerRank", "(I)J"⟩, 17), (⟨"CampusNet$Tree", "offeredCost", "(I)I"⟩, 17), (⟨"CampusNet$Tree", "lookAtRole", "(I)V"⟩, 17), (⟨"CampusNet$Tree", "roleNow", "(I)I"⟩, 17), (⟨"CampusNet$Tree", "messageRank", "(I)J"⟩, 17), (⟨"CampusNet$Tree", "stateNow", "(I)I"⟩, 17), (⟨"CampusNet$Tree", "ageMessages", "()V"⟩, 17), (⟨"CampusNet$Tree", "passNotices", "()V"⟩, 17), (⟨"CampusNet$Tree", "passNoticeOf", "(I)V"⟩, 17), (⟨"CampusNet$Tree", "sendMessages", "()V"⟩, 17), (⟨"CampusNet$Tree", "sendMessage", "(II)V"⟩, 17), (⟨"CampusNet$Tree", "takeMessages", "()V"⟩, 17), (⟨"CampusNet", "forgetOldEntries", "()V"⟩, 7)]
theorem lw_r1 : ∀ q ∈ lw_privs_1, lw_okq q := List.forall_mem_cons.mpr ⟨lw_p0, List.forall_mem_cons.mpr ⟨lw_p1, List.forall_mem_cons.mpr ⟨lw_p2, List.forall_mem_cons.mpr ⟨lw_p3, List.forall_mem_cons.mpr ⟨lw_p4, List.forall_mem_cons.mpr ⟨lw_p5, List.forall_mem_cons.mpr ⟨lw_p6, List.forall_mem_cons.mpr ⟨lw_p7, List.forall_mem_cons.mpr ⟨lw_p8, List.forall_mem_cons.mpr ⟨lw_p9, List.forall_mem_cons.mpr ⟨lw_p10, List.forall_mem_cons.mpr ⟨lw_p11, List.forall_mem_cons.mpr ⟨lw_p12, List.forall_mem_cons.mpr ⟨lw_p13, List.forall_mem_cons.mpr ⟨lw_p14, List.forall_mem_cons.mpr ⟨lw_p15, fun _ h => absurd h List.not_mem_nil⟩⟩⟩⟩⟩⟩⟩⟩⟩⟩⟩⟩⟩⟩⟩⟩
theorem lw_p16 : lw_okq (⟨"CampusNet", "isDestination", "(I)Z"⟩, 7) := ⟨⟨by decide +kernel, by decide +kernel⟩, List.mem_of_getElem? (i := 12) (by decide +kernel), List.mem_of_getElem? (i := 489) (by decide +kernel), List.mem_of_getElem? (i := 490) (by decide +kernel)⟩
theorem lw_p17 : lw_okq (⟨"CampusNet$Carrier", "carry", "(IIII)I"⟩, 12) := ⟨⟨by decide +kernel, by decide +kernel⟩, List.mem_of_getElem? (i := 196) (by decide +kernel), List.mem_of_getElem? (i := 501) (by decide +kernel), List.mem_of_getElem? (i := 502) (by decide +kernel)⟩
theorem lw_p18 : lw_okq (⟨"CampusNet$Carrier", "handleArrival", "(II)V"⟩, 12) := ⟨⟨by decide +kernel, by decide +kernel⟩, List.mem_of_getElem? (i := 196) (by decide +kernel), List.mem_of_getElem? (i := 505) (by decide +kernel), List.mem_of_getElem? (i := 506) (by decide +kernel)⟩
theorem lw_p19 : lw_okq (⟨"CampusNet$Carrier", "forward", "(II)V"⟩, 12) := ⟨⟨by decide +kernel, by decide +kernel⟩, List.mem_of_getElem? (i := 196) (by decide +kernel), List.mem_of_getElem? (i := 521) (by decide +kernel), List.mem_of_getElem? (i := 522) (by decide +kernel)⟩
theorem lw_p20 : lw_okq (⟨"CampusNet$Carrier", "goOut", "(II)V"⟩, 12) := ⟨⟨by decide +kernel, by decide +kernel⟩, List.mem_of_getElem? (i := 196) (by decide +kernel), List.mem_of_getElem? (i := 531) (by decide +kernel), List.mem_of_getElem? (i := 532) (by decide +kernel)⟩
theorem lw_p21 : lw_okq (⟨"CampusNet", "routedStep", "(III)Z"⟩, 7) := ⟨⟨by decide +kernel, by decide +kernel⟩, List.mem_of_getElem? (i := 12) (by decide +kernel), List.mem_of_getElem? (i := 539) (by decide +kernel), List.mem_of_getElem? (i := 540) (by decide +kernel)⟩
theorem lw_p22 : lw_okq (⟨"CampusNet", "directStep", "(III)Z"⟩, 7) := ⟨⟨by decide +kernel, by decide +kernel⟩, List.mem_of_getElem? (i := 12) (by decide +kernel), List.mem_of_getElem? (i := 550) (by decide +kernel), List.mem_of_getElem? (i := 551) (by decide +kernel)⟩
theorem lw_p23 : lw_okq (⟨"CampusNetModel", "look", "(Z)V"⟩, 42) := ⟨⟨by decide +kernel, by decide +kernel⟩, List.mem_of_getElem? (i := 565) (by decide +kernel), List.mem_of_getElem? (i := 705) (by decide +kernel), List.mem_of_getElem? (i := 706) (by decide +kernel)⟩
theorem lw_p24 : lw_okq (⟨"CampusNetModel", "roleOf", "(I)I"⟩, 42) := ⟨⟨by decide +kernel, by decide +kernel⟩, List.mem_of_getElem? (i := 565) (by decide +kernel), List.mem_of_getElem? (i := 709) (by decide +kernel), List.mem_of_getElem? (i := 710) (by decide +kernel)⟩
theorem lw_p25 : lw_okq (⟨"CampusNetModel", "isUp", "(I)Z"⟩, 42) := ⟨⟨by decide +kernel, by decide +kernel⟩, List.mem_of_getElem? (i := 565) (by decide +kernel), List.mem_of_getElem? (i := 713) (by decide +kernel), List.mem_of_getElem? (i := 714) (by decide +kernel)⟩
theorem lw_p26 : lw_okq (⟨"CampusNetModel", "rootPort", "(I)I"⟩, 42) := ⟨⟨by decide +kernel, by decide +kernel⟩, List.mem_of_getElem? (i := 565) (by decide +kernel), List.mem_of_getElem? (i := 717) (by decide +kernel), List.mem_of_getElem? (i := 718) (by decide +kernel)⟩
theorem lw_p27 : lw_okq (⟨"CampusNetModel", "id", "(I)I"⟩, 42) := ⟨⟨by decide +kernel, by decide +kernel⟩, List.mem_of_getElem? (i := 565) (by decide +kernel), List.mem_of_getElem? (i := 721) (by decide +kernel), List.mem_of_getElem? (i := 722) (by decide +kernel)⟩
theorem lw_p28 : lw_okq (⟨"CampusNetModel", "rootOf", "(I)I"⟩, 42) := ⟨⟨by decide +kernel, by decide +kernel⟩, List.mem_of_getElem? (i := 565) (by decide +kernel), List.mem_of_getElem? (i := 730) (by decide +kernel), List.mem_of_getElem? (i := 731) (by decide +kernel)⟩
theorem lw_p29 : lw_okq (⟨"CampusNetModel", "distance", "(I)I"⟩, 42) := ⟨⟨by decide +kernel, by decide +kernel⟩, List.mem_of_getElem? (i := 565) (by decide +kernel), List.mem_of_getElem? (i := 734) (by decide +kernel), List.mem_of_getElem? (i := 735) (by decide +kernel)⟩
theorem lw_p30 : lw_okq (⟨"CampusNetModel", "stateOf", "(I)I"⟩, 42) := ⟨⟨by decide +kernel, by decide +kernel⟩, List.mem_of_getElem? (i := 565) (by decide +kernel), List.mem_of_getElem? (i := 738) (by decide +kernel), List.mem_of_getElem? (i := 739) (by decide +kernel)⟩
theorem lw_p31 : lw_okq (⟨"CampusNetModel", "isFree", "(I)Z"⟩, 42) := ⟨⟨by decide +kernel, by decide +kernel⟩, List.mem_of_getElem? (i := 565) (by decide +kernel), List.mem_of_getElem? (i := 746) (by decide +kernel), List.mem_of_getElem? (i := 747) (by decide +kernel)⟩
def lw_privs_2 : List (MethodName × Nat) := [(⟨"CampusNet", "isDestination", "(I)Z"⟩, 7), (⟨"CampusNet$Carrier", "carry", "(IIII)I"⟩, 12), (⟨"CampusNet$Carrier", "handleArrival", "(II)V"⟩, 12), (⟨"CampusNet$Carrier", "forward", "(II)V"⟩, 12), (⟨"CampusNet$Carrier", "goOut", "(II)V"⟩, 12), (⟨"CampusNet", "routedStep", "(III)Z"⟩, 7), (⟨"CampusNet", "directStep", "(III)Z"⟩, 7), (⟨"CampusNetModel", "look", "(Z)V"⟩, 42), (⟨"CampusNetModel", "roleOf", "(I)I"⟩, 42), (⟨"CampusNetModel", "isUp", "(I)Z"⟩, 42), (⟨"CampusNetModel", "rootPort", "(I)I"⟩, 42), (⟨"CampusNetModel", "id", "(I)I"⟩, 42), (⟨"CampusNetModel", "rootOf", "(I)I"⟩, 42), (⟨"CampusNetModel", "distance", "(I)I"⟩, 42), (⟨"CampusNetModel", "stateOf", "(I)I"⟩, 42), (⟨"CampusNetModel", "isFree", "(I)Z"⟩, 42)]
theorem lw_r2 : ∀ q ∈ lw_privs_2, lw_okq q := List.forall_mem_cons.mpr ⟨lw_p16, List.forall_mem_cons.mpr ⟨lw_p17, List.forall_mem_cons.mpr ⟨lw_p18, List.forall_mem_cons.mpr ⟨lw_p19, List.forall_mem_cons.mpr ⟨lw_p20, List.forall_mem_cons.mpr ⟨lw_p21, List.forall_mem_cons.mpr ⟨lw_p22, List.forall_mem_cons.mpr ⟨lw_p23, List.forall_mem_cons.mpr ⟨lw_p24, List.forall_mem_cons.mpr ⟨lw_p25, List.forall_mem_cons.mpr ⟨lw_p26, List.forall_mem_cons.mpr ⟨lw_p27, List.forall_mem_cons.mpr ⟨lw_p28, List.forall_mem_cons.mpr ⟨lw_p29, List.forall_mem_cons.mpr ⟨lw_p30, List.forall_mem_cons.mpr ⟨lw_p31, fun _ h => absurd h List.not_mem_nil⟩⟩⟩⟩⟩⟩⟩⟩⟩⟩⟩⟩⟩⟩⟩⟩
theorem lw_p32 : lw_okq (⟨"CampusNetModel", "isPlace", "(I)Z"⟩, 42) := ⟨⟨by decide +kernel, by decide +kernel⟩, List.mem_of_getElem? (i := 565) (by decide +kernel), List.mem_of_getElem? (i := 750) (by decide +kernel), List.mem_of_getElem? (i := 751) (by decide +kernel)⟩
theorem lw_p33 : lw_okq (⟨"CampusNetModel", "put", "(III)V"⟩, 42) := ⟨⟨by decide +kernel, by decide +kernel⟩, List.mem_of_getElem? (i := 565) (by decide +kernel), List.mem_of_getElem? (i := 754) (by decide +kernel), List.mem_of_getElem? (i := 755) (by decide +kernel)⟩
theorem lw_p34 : lw_okq (⟨"CampusNetModel", "age", "()V"⟩, 42) := ⟨⟨by decide +kernel, by decide +kernel⟩, List.mem_of_getElem? (i := 565) (by decide +kernel), List.mem_of_getElem? (i := 782) (by decide +kernel), List.mem_of_getElem? (i := 783) (by decide +kernel)⟩
theorem lw_p35 : lw_okq (⟨"CampusNetModel", "passNotices", "()V"⟩, 42) := ⟨⟨by decide +kernel, by decide +kernel⟩, List.mem_of_getElem? (i := 565) (by decide +kernel), List.mem_of_getElem? (i := 786) (by decide +kernel), List.mem_of_getElem? (i := 787) (by decide +kernel)⟩
theorem lw_p36 : lw_okq (⟨"CampusNetModel", "other", "(I)I"⟩, 42) := ⟨⟨by decide +kernel, by decide +kernel⟩, List.mem_of_getElem? (i := 565) (by decide +kernel), List.mem_of_getElem? (i := 790) (by decide +kernel), List.mem_of_getElem? (i := 791) (by decide +kernel)⟩
theorem lw_p37 : lw_okq (⟨"CampusNetModel", "sendMessages", "()V"⟩, 42) := ⟨⟨by decide +kernel, by decide +kernel⟩, List.mem_of_getElem? (i := 565) (by decide +kernel), List.mem_of_getElem? (i := 794) (by decide +kernel), List.mem_of_getElem? (i := 795) (by decide +kernel)⟩
theorem lw_p38 : lw_okq (⟨"CampusNetModel", "marked", "(I)Z"⟩, 42) := ⟨⟨by decide +kernel, by decide +kernel⟩, List.mem_of_getElem? (i := 565) (by decide +kernel), List.mem_of_getElem? (i := 798) (by decide +kernel), List.mem_of_getElem? (i := 799) (by decide +kernel)⟩
theorem lw_p39 : lw_okq (⟨"CampusNetModel", "hold", "(II)V"⟩, 42) := ⟨⟨by decide +kernel, by decide +kernel⟩, List.mem_of_getElem? (i := 565) (by decide +kernel), List.mem_of_getElem? (i := 802) (by decide +kernel), List.mem_of_getElem? (i := 803) (by decide +kernel)⟩
theorem lw_p40 : lw_okq (⟨"CampusNetModel", "forget", "()V"⟩, 42) := ⟨⟨by decide +kernel, by decide +kernel⟩, List.mem_of_getElem? (i := 565) (by decide +kernel), List.mem_of_getElem? (i := 806) (by decide +kernel), List.mem_of_getElem? (i := 807) (by decide +kernel)⟩
theorem lw_p41 : lw_okq (⟨"CampusNetModel", "isHost", "(I)Z"⟩, 42) := ⟨⟨by decide +kernel, by decide +kernel⟩, List.mem_of_getElem? (i := 565) (by decide +kernel), List.mem_of_getElem? (i := 838) (by decide +kernel), List.mem_of_getElem? (i := 839) (by decide +kernel)⟩
theorem lw_p42 : lw_okq (⟨"CampusNetModel", "frame", "(IIII)I"⟩, 42) := ⟨⟨by decide +kernel, by decide +kernel⟩, List.mem_of_getElem? (i := 565) (by decide +kernel), List.mem_of_getElem? (i := 842) (by decide +kernel), List.mem_of_getElem? (i := 843) (by decide +kernel)⟩
theorem lw_p43 : lw_okq (⟨"CampusNetModel", "arrive", "(II)V"⟩, 42) := ⟨⟨by decide +kernel, by decide +kernel⟩, List.mem_of_getElem? (i := 565) (by decide +kernel), List.mem_of_getElem? (i := 846) (by decide +kernel), List.mem_of_getElem? (i := 847) (by decide +kernel)⟩
theorem lw_p44 : lw_okq (⟨"CampusNetModel", "handle", "(IIII)V"⟩, 42) := ⟨⟨by decide +kernel, by decide +kernel⟩, List.mem_of_getElem? (i := 565) (by decide +kernel), List.mem_of_getElem? (i := 850) (by decide +kernel), List.mem_of_getElem? (i := 851) (by decide +kernel)⟩
theorem lw_p45 : lw_okq (⟨"CampusNetModel", "isMember", "(II)Z"⟩, 42) := ⟨⟨by decide +kernel, by decide +kernel⟩, List.mem_of_getElem? (i := 565) (by decide +kernel), List.mem_of_getElem? (i := 854) (by decide +kernel), List.mem_of_getElem? (i := 855) (by decide +kernel)⟩
theorem lw_p46 : lw_okq (⟨"CampusNetModel", "goOut", "(II)V"⟩, 42) := ⟨⟨by decide +kernel, by decide +kernel⟩, List.mem_of_getElem? (i := 565) (by decide +kernel), List.mem_of_getElem? (i := 858) (by decide +kernel), List.mem_of_getElem? (i := 859) (by decide +kernel)⟩
theorem lw_p47 : lw_okq (⟨"CampusNetModel", "askNear", "(II)I"⟩, 42) := ⟨⟨by decide +kernel, by decide +kernel⟩, List.mem_of_getElem? (i := 565) (by decide +kernel), List.mem_of_getElem? (i := 866) (by decide +kernel), List.mem_of_getElem? (i := 867) (by decide +kernel)⟩
def lw_privs_3 : List (MethodName × Nat) := [(⟨"CampusNetModel", "isPlace", "(I)Z"⟩, 42), (⟨"CampusNetModel", "put", "(III)V"⟩, 42), (⟨"CampusNetModel", "age", "()V"⟩, 42), (⟨"CampusNetModel", "passNotices", "()V"⟩, 42), (⟨"CampusNetModel", "other", "(I)I"⟩, 42), (⟨"CampusNetModel", "sendMessages", "()V"⟩, 42), (⟨"CampusNetModel", "marked", "(I)Z"⟩, 42), (⟨"CampusNetModel", "hold", "(II)V"⟩, 42), (⟨"CampusNetModel", "forget", "()V"⟩, 42), (⟨"CampusNetModel", "isHost", "(I)Z"⟩, 42), (⟨"CampusNetModel", "frame", "(IIII)I"⟩, 42), (⟨"CampusNetModel", "arrive", "(II)V"⟩, 42), (⟨"CampusNetModel", "handle", "(IIII)V"⟩, 42), (⟨"CampusNetModel", "isMember", "(II)Z"⟩, 42), (⟨"CampusNetModel", "goOut", "(II)V"⟩, 42), (⟨"CampusNetModel", "askNear", "(II)I"⟩, 42)]
theorem lw_r3 : ∀ q ∈ lw_privs_3, lw_okq q := List.forall_mem_cons.mpr ⟨lw_p32, List.forall_mem_cons.mpr ⟨lw_p33, List.forall_mem_cons.mpr ⟨lw_p34, List.forall_mem_cons.mpr ⟨lw_p35, List.forall_mem_cons.mpr ⟨lw_p36, List.forall_mem_cons.mpr ⟨lw_p37, List.forall_mem_cons.mpr ⟨lw_p38, List.forall_mem_cons.mpr ⟨lw_p39, List.forall_mem_cons.mpr ⟨lw_p40, List.forall_mem_cons.mpr ⟨lw_p41, List.forall_mem_cons.mpr ⟨lw_p42, List.forall_mem_cons.mpr ⟨lw_p43, List.forall_mem_cons.mpr ⟨lw_p44, List.forall_mem_cons.mpr ⟨lw_p45, List.forall_mem_cons.mpr ⟨lw_p46, List.forall_mem_cons.mpr ⟨lw_p47, fun _ h => absurd h List.not_mem_nil⟩⟩⟩⟩⟩⟩⟩⟩⟩⟩⟩⟩⟩⟩⟩⟩
theorem lw_p48 : lw_okq (⟨"CampusNetModel", "reaches", "(IIII)Z"⟩, 42) := ⟨⟨by decide +kernel, by decide +kernel⟩, List.mem_of_getElem? (i := 565) (by decide +kernel), List.mem_of_getElem? (i := 870) (by decide +kernel), List.mem_of_getElem? (i := 871) (by decide +kernel)⟩
theorem lw_p49 : lw_okq (⟨"CampusNetModel", "askFar", "(IIII)I"⟩, 42) := ⟨⟨by decide +kernel, by decide +kernel⟩, List.mem_of_getElem? (i := 565) (by decide +kernel), List.mem_of_getElem? (i := 874) (by decide +kernel), List.mem_of_getElem? (i := 875) (by decide +kernel)⟩
def lw_privs_4 : List (MethodName × Nat) := [(⟨"CampusNetModel", "reaches", "(IIII)Z"⟩, 42), (⟨"CampusNetModel", "askFar", "(IIII)I"⟩, 42)]
theorem lw_r4 : ∀ q ∈ lw_privs_4, lw_okq q := List.forall_mem_cons.mpr ⟨lw_p48, List.forall_mem_cons.mpr ⟨lw_p49, fun _ h => absurd h List.not_mem_nil⟩⟩
def lw_privs : List (MethodName × Nat) := lw_privs_1 ++ (lw_privs_2 ++ (lw_privs_3 ++ (lw_privs_4)))
def lw_tbl : List Cond := k2_sels lw_privs ++ tables_1
theorem lw_privs_ok : ∀ q ∈ lw_privs, lw_okq q := by
  show ∀ q ∈ lw_privs_1 ++ (lw_privs_2 ++ (lw_privs_3 ++ (lw_privs_4))), lw_okq q
  exact List.forall_mem_append.mpr ⟨lw_r1, List.forall_mem_append.mpr ⟨lw_r2, List.forall_mem_append.mpr ⟨lw_r3, lw_r4⟩⟩⟩
end
section
/-! names, words: by program out of the listing and the Statement's words -/
abbrev rN : String := "CampusNet"
abbrev rP : String := "CampusNet$Plan"
abbrev rW : String := "CampusNet$Networks"
abbrev rT : String := "CampusNet$Tree"
abbrev rB : String := "CampusNet$Table"
abbrev rK : String := "CampusNet$Carrier"
abbrev rM : String := "CampusNetModel"
abbrev rL : String := "CampusNetLaw"
abbrev rA : String := "java/util/Arrays"
abbrev rH : String := "java/lang/Math"
abbrev rY : String := "java/lang/System"
def tN : u_T := fun k => match k with
  | 0 => ("CampusNet", "memory", "I", true)
  | 1 => ("CampusNet", "plan", "LCampusNet$Plan;", true)
  | 2 => ("CampusNet", "networks", "LCampusNet$Networks;", true)
  | 3 => ("CampusNet", "tree", "LCampusNet$Tree;", true)
  | 4 => ("CampusNet", "table", "LCampusNet$Table;", true)
  | 5 => ("CampusNet", "carrier", "LCampusNet$Carrier;", true)
  | _ => ("CampusNet", "latestAnswer", "I", false)
def tyN : Nat → FieldType := fun k => match k with
  | 0 => .int
  | 1 => .object "CampusNet$Plan"
  | 2 => .object "CampusNet$Networks"
  | 3 => .object "CampusNet$Tree"
  | 4 => .object "CampusNet$Table"
  | 5 => .object "CampusNet$Carrier"
  | _ => .int
theorem nmN : ∀ a, a < 7 → ∀ b, b < 7 → a ≠ b → (tN a).2.1 ≠ (tN b).2.1 := by decide +kernel
theorem tkN : ∀ k, k < 7 → parseFieldDescriptor (tN k).2.2.1 = some (tyN k) := by decide +kernel
def tP : u_T := fun k => match k with
  | 0 => ("CampusNet$Plan", "bridgeCount", "I", false)
  | 1 => ("CampusNet$Plan", "bridgeIds", "[I", true)
  | 2 => ("CampusNet$Plan", "wireCount", "I", false)
  | 3 => ("CampusNet$Plan", "wireEnds", "[I", true)
  | 4 => ("CampusNet$Plan", "wireCosts", "[I", true)
  | 5 => ("CampusNet$Plan", "wireIsCut", "[Z", true)
  | 6 => ("CampusNet$Plan", "hostCount", "I", false)
  | 7 => ("CampusNet$Plan", "hostPlaces", "[I", true)
  | 8 => ("CampusNet$Plan", "hostSubnets", "[I", true)
  | 9 => ("CampusNet$Plan", "routerPlace", "I", false)
  | 10 => ("CampusNet$Plan", "wires", "[I", true)
  | 11 => ("CampusNet$Plan", "farPlaces", "[I", true)
  | _ => ("CampusNet$Plan", "guests", "[I", true)
def tyP : Nat → FieldType := fun k => match k with
  | 0 => .int
  | 1 => .array .int
  | 2 => .int
  | 3 => .array .int
  | 4 => .array .int
  | 5 => .array .boolean
  | 6 => .int
  | 7 => .array .int
  | 8 => .array .int
  | 9 => .int
  | 10 => .array .int
  | 11 => .array .int
  | _ => .array .int
theorem nmP : ∀ a, a < 13 → ∀ b, b < 13 → a ≠ b → (tP a).2.1 ≠ (tP b).2.1 := by decide +kernel
theorem tkP : ∀ k, k < 13 → parseFieldDescriptor (tP k).2.2.1 = some (tyP k) := by decide +kernel
def tW : u_T := fun k => match k with
  | 0 => ("CampusNet$Networks", "untagged", "[I", true)
  | 1 => ("CampusNet$Networks", "members", "[I", true)
  | _ => ("CampusNet$Networks", "isTrunk", "[Z", true)
def tyW : Nat → FieldType := fun k => match k with
  | 0 => .array .int
  | 1 => .array .int
  | _ => .array .boolean
theorem nmW : ∀ a, a < 3 → ∀ b, b < 3 → a ≠ b → (tW a).2.1 ≠ (tW b).2.1 := by decide +kernel
theorem tkW : ∀ k, k < 3 → parseFieldDescriptor (tW k).2.2.1 = some (tyW k) := by decide +kernel
def tT : u_T := fun k => match k with
  | 0 => ("CampusNet$Tree", "plan", "LCampusNet$Plan;", true)
  | 1 => ("CampusNet$Tree", "limit", "I", true)
  | 2 => ("CampusNet$Tree", "delay", "I", true)
  | 3 => ("CampusNet$Tree", "time", "I", false)
  | 4 => ("CampusNet$Tree", "messages", "[I", true)
  | 5 => ("CampusNet$Tree", "holds", "[Z", true)
  | 6 => ("CampusNet$Tree", "sentMessages", "[I", true)
  | 7 => ("CampusNet$Tree", "isSentTo", "[Z", true)
  | 8 => ("CampusNet$Tree", "roots", "[I", true)
  | 9 => ("CampusNet$Tree", "distances", "[I", true)
  | 10 => ("CampusNet$Tree", "rootPlaces", "[I", true)
  | 11 => ("CampusNet$Tree", "roles", "[I", true)
  | 12 => ("CampusNet$Tree", "since", "[I", true)
  | 13 => ("CampusNet$Tree", "states", "[I", true)
  | 14 => ("CampusNet$Tree", "until", "[I", true)
  | 15 => ("CampusNet$Tree", "hasNotice", "[Z", true)
  | _ => ("CampusNet$Tree", "passesNotice", "[Z", true)
def tyT : Nat → FieldType := fun k => match k with
  | 0 => .object "CampusNet$Plan"
  | 1 => .int
  | 2 => .int
  | 3 => .int
  | 4 => .array .int
  | 5 => .array .boolean
  | 6 => .array .int
  | 7 => .array .boolean
  | 8 => .array .int
  | 9 => .array .int
  | 10 => .array .int
  | 11 => .array .int
  | 12 => .array .int
  | 13 => .array .int
  | 14 => .array .int
  | 15 => .array .boolean
  | _ => .array .boolean
theorem nmT : ∀ a, a < 17 → ∀ b, b < 17 → a ≠ b → (tT a).2.1 ≠ (tT b).2.1 := by decide +kernel
theorem tkT : ∀ k, k < 17 → parseFieldDescriptor (tT k).2.2.1 = some (tyT k) := by decide +kernel
def tB : u_T := fun k => match k with
  | 0 => ("CampusNet$Table", "ports", "[I", true)
  | _ => ("CampusNet$Table", "times", "[I", true)
def tyB : Nat → FieldType := fun k => match k with
  | 0 => .array .int
  | _ => .array .int
theorem nmB : ∀ a, a < 2 → ∀ b, b < 2 → a ≠ b → (tB a).2.1 ≠ (tB b).2.1 := by decide +kernel
theorem tkB : ∀ k, k < 2 → parseFieldDescriptor (tB k).2.2.1 = some (tyB k) := by decide +kernel
def tK : u_T := fun k => match k with
  | 0 => ("CampusNet$Carrier", "plan", "LCampusNet$Plan;", true)
  | 1 => ("CampusNet$Carrier", "networks", "LCampusNet$Networks;", true)
  | 2 => ("CampusNet$Carrier", "tree", "LCampusNet$Tree;", true)
  | 3 => ("CampusNet$Carrier", "table", "LCampusNet$Table;", true)
  | 4 => ("CampusNet$Carrier", "arrivalPlaces", "[I", true)
  | 5 => ("CampusNet$Carrier", "arrivalTags", "[I", true)
  | 6 => ("CampusNet$Carrier", "arrivalCount", "I", false)
  | 7 => ("CampusNet$Carrier", "source", "I", false)
  | 8 => ("CampusNet$Carrier", "destination", "I", false)
  | 9 => ("CampusNet$Carrier", "frameCrossings", "I", false)
  | 10 => ("CampusNet$Carrier", "reached", "I", false)
  | _ => ("CampusNet$Carrier", "countedCrossings", "I", false)
def tyK : Nat → FieldType := fun k => match k with
  | 0 => .object "CampusNet$Plan"
  | 1 => .object "CampusNet$Networks"
  | 2 => .object "CampusNet$Tree"
  | 3 => .object "CampusNet$Table"
  | 4 => .array .int
  | 5 => .array .int
  | 6 => .int
  | 7 => .int
  | 8 => .int
  | 9 => .int
  | 10 => .int
  | _ => .int
theorem nmK : ∀ a, a < 12 → ∀ b, b < 12 → a ≠ b → (tK a).2.1 ≠ (tK b).2.1 := by decide +kernel
theorem tkK : ∀ k, k < 12 → parseFieldDescriptor (tK k).2.2.1 = some (tyK k) := by decide +kernel
def tM : u_T := fun k => match k with
  | 0 => ("CampusNetModel", "limit", "I", true)
  | 1 => ("CampusNetModel", "delay", "I", true)
  | 2 => ("CampusNetModel", "memory", "I", true)
  | 3 => ("CampusNetModel", "time", "I", false)
  | 4 => ("CampusNetModel", "bridges", "I", false)
  | 5 => ("CampusNetModel", "priority", "[I", true)
  | 6 => ("CampusNetModel", "until", "[I", true)
  | 7 => ("CampusNetModel", "notice", "[Z", true)
  | 8 => ("CampusNetModel", "coming", "[Z", true)
  | 9 => ("CampusNetModel", "plug", "[I", true)
  | 10 => ("CampusNetModel", "with", "[I", true)
  | 11 => ("CampusNetModel", "trunked", "[Z", true)
  | 12 => ("CampusNetModel", "own", "[I", true)
  | 13 => ("CampusNetModel", "members", "[I", true)
  | 14 => ("CampusNetModel", "wires", "I", false)
  | 15 => ("CampusNetModel", "endP", "[I", true)
  | 16 => ("CampusNetModel", "endQ", "[I", true)
  | 17 => ("CampusNetModel", "price", "[I", true)
  | 18 => ("CampusNetModel", "gone", "[Z", true)
  | 19 => ("CampusNetModel", "hosts", "I", false)
  | 20 => ("CampusNetModel", "at", "[I", true)
  | 21 => ("CampusNetModel", "subnet", "[I", true)
  | 22 => ("CampusNetModel", "routerAt", "I", false)
  | 23 => ("CampusNetModel", "has", "[Z", true)
  | 24 => ("CampusNetModel", "mRoot", "[I", true)
  | 25 => ("CampusNetModel", "mCost", "[I", true)
  | 26 => ("CampusNetModel", "mSender", "[I", true)
  | 27 => ("CampusNetModel", "mPort", "[I", true)
  | 28 => ("CampusNetModel", "mAge", "[I", true)
  | 29 => ("CampusNetModel", "mMark", "[Z", true)
  | 30 => ("CampusNetModel", "active", "[Z", true)
  | 31 => ("CampusNetModel", "since", "[I", true)
  | 32 => ("CampusNetModel", "was", "[I", true)
  | 33 => ("CampusNetModel", "where", "[I", true)
  | 34 => ("CampusNetModel", "when", "[I", true)
  | 35 => ("CampusNetModel", "line", "[I", true)
  | 36 => ("CampusNetModel", "lineTag", "[I", true)
  | 37 => ("CampusNetModel", "arrivals", "I", false)
  | 38 => ("CampusNetModel", "crossed", "I", false)
  | 39 => ("CampusNetModel", "reached", "I", false)
  | 40 => ("CampusNetModel", "allCrossed", "I", false)
  | _ => ("CampusNetModel", "answer", "I", false)
def tyM : Nat → FieldType := fun k => match k with
  | 0 => .int
  | 1 => .int
  | 2 => .int
  | 3 => .int
  | 4 => .int
  | 5 => .array .int
  | 6 => .array .int
  | 7 => .array .boolean
  | 8 => .array .boolean
  | 9 => .array .int
  | 10 => .array .int
  | 11 => .array .boolean
  | 12 => .array .int
  | 13 => .array .int
  | 14 => .int
  | 15 => .array .int
  | 16 => .array .int
  | 17 => .array .int
  | 18 => .array .boolean
  | 19 => .int
  | 20 => .array .int
  | 21 => .array .int
  | 22 => .int
  | 23 => .array .boolean
  | 24 => .array .int
  | 25 => .array .int
  | 26 => .array .int
  | 27 => .array .int
  | 28 => .array .int
  | 29 => .array .boolean
  | 30 => .array .boolean
  | 31 => .array .int
  | 32 => .array .int
  | 33 => .array .int
  | 34 => .array .int
  | 35 => .array .int
  | 36 => .array .int
  | 37 => .int
  | 38 => .int
  | 39 => .int
  | 40 => .int
  | _ => .int
theorem nmM : ∀ a, a < 42 → ∀ b, b < 42 → a ≠ b → (tM a).2.1 ≠ (tM b).2.1 := by decide +kernel
theorem tkM : ∀ k, k < 42 → parseFieldDescriptor (tM k).2.2.1 = some (tyM k) := by decide +kernel
abbrev vwCl : List vw_C := [(rN, tN, 7), (rP, tP, 13), (rW, tW, 3), (rT, tT, 17), (rB, tB, 2), (rK, tK, 12), (rM, tM, 42)]
def yN_init : MethodName := ⟨rN, "<init>", "(III)V"⟩
abbrev cN_init : ByteArray := prog_1_method_1_code
def yN_nearest : MethodName := ⟨rN, "nearest", "(III)I"⟩
abbrev cN_nearest : ByteArray := prog_1_method_26_code
def yH_min : MethodName := ⟨rH, "min", "(II)I"⟩
abbrev cH_min : ByteArray := prog_9_method_69_code
def yH_max : MethodName := ⟨rH, "max", "(II)I"⟩
abbrev cH_max : ByteArray := prog_9_method_65_code
def yP_init : MethodName := ⟨rP, "<init>", "()V"⟩
abbrev cP_init : ByteArray := prog_4_method_1_code
def yA_fill : MethodName := ⟨rA, "fill", "([II)V"⟩
abbrev cA_fill : ByteArray := prog_11_method_103_code
def yW_init : MethodName := ⟨rW, "<init>", "()V"⟩
abbrev cW_init : ByteArray := prog_3_method_1_code
def yT_init : MethodName := ⟨rT, "<init>", "(LCampusNet$Plan;II)V"⟩
abbrev cT_init : ByteArray := prog_6_method_1_code
def yB_init : MethodName := ⟨rB, "<init>", "()V"⟩
abbrev cB_init : ByteArray := prog_5_method_1_code
def yK_init : MethodName := ⟨rK, "<init>", "(LCampusNet$Plan;LCampusNet$Networks;LCampusNet$Tree;LCampusNet$Table;)V"⟩
abbrev cK_init : ByteArray := prog_2_method_1_code
def yN_bridge : MethodName := ⟨rN, "bridge", "(I)I"⟩
abbrev cN_bridge : ByteArray := prog_1_method_2_code
def yN_isWithin : MethodName := ⟨rN, "isWithin", "(III)Z"⟩
abbrev cN_isWithin : ByteArray := prog_1_method_25_code
def yP_addBridge : MethodName := ⟨rP, "addBridge", "(I)I"⟩
abbrev cP_addBridge : ByteArray := prog_4_method_2_code
def yT_settle : MethodName := ⟨rT, "settle", "()V"⟩
abbrev cT_settle : ByteArray := prog_6_method_3_code
def yT_chooseRoots : MethodName := ⟨rT, "chooseRoots", "()V"⟩
abbrev cT_chooseRoots : ByteArray := prog_6_method_7_code
def yT_bestOffer : MethodName := ⟨rT, "bestOffer", "(I)I"⟩
abbrev cT_bestOffer : ByteArray := prog_6_method_8_code
def yT_isOffering : MethodName := ⟨rT, "isOffering", "(I)Z"⟩
abbrev cT_isOffering : ByteArray := prog_6_method_9_code
def yP_hasWholeWire : MethodName := ⟨rP, "hasWholeWire", "(I)Z"⟩
abbrev cP_hasWholeWire : ByteArray := prog_4_method_11_code
def yT_offerRank : MethodName := ⟨rT, "offerRank", "(I)J"⟩
abbrev cT_offerRank : ByteArray := prog_6_method_11_code
def yT_offeredCost : MethodName := ⟨rT, "offeredCost", "(I)I"⟩
abbrev cT_offeredCost : ByteArray := prog_6_method_10_code
def yT_rank : MethodName := ⟨rT, "rank", "(JJJJ)J"⟩
abbrev cT_rank : ByteArray := prog_6_method_13_code
def yT_lookAtRole : MethodName := ⟨rT, "lookAtRole", "(I)V"⟩
abbrev cT_lookAtRole : ByteArray := prog_6_method_15_code
def yT_roleNow : MethodName := ⟨rT, "roleNow", "(I)I"⟩
abbrev cT_roleNow : ByteArray := prog_6_method_14_code
def yP_isUp : MethodName := ⟨rP, "isUp", "(I)Z"⟩
abbrev cP_isUp : ByteArray := prog_4_method_12_code
def yT_messageRank : MethodName := ⟨rT, "messageRank", "(I)J"⟩
abbrev cT_messageRank : ByteArray := prog_6_method_12_code
def yT_isActive : MethodName := ⟨rT, "isActive", "(I)Z"⟩
abbrev cT_isActive : ByteArray := prog_6_method_16_code
def yT_stateNow : MethodName := ⟨rT, "stateNow", "(I)I"⟩
abbrev cT_stateNow : ByteArray := prog_6_method_17_code
def yT_isWorthNotice : MethodName := ⟨rT, "isWorthNotice", "(II)Z"⟩
abbrev cT_isWorthNotice : ByteArray := prog_6_method_18_code
def yN_wire : MethodName := ⟨rN, "wire", "(III)I"⟩
abbrev cN_wire : ByteArray := prog_1_method_3_code
def yP_isFree : MethodName := ⟨rP, "isFree", "(I)Z"⟩
abbrev cP_isFree : ByteArray := prog_4_method_8_code
def yP_isPlace : MethodName := ⟨rP, "isPlace", "(I)Z"⟩
abbrev cP_isPlace : ByteArray := prog_4_method_7_code
def yP_addWire : MethodName := ⟨rP, "addWire", "(III)I"⟩
abbrev cP_addWire : ByteArray := prog_4_method_3_code
def yN_host : MethodName := ⟨rN, "host", "(II)I"⟩
abbrev cN_host : ByteArray := prog_1_method_4_code
def yN_isNetwork : MethodName := ⟨rN, "isNetwork", "(I)Z"⟩
abbrev cN_isNetwork : ByteArray := prog_1_method_24_code
def yP_addHost : MethodName := ⟨rP, "addHost", "(II)I"⟩
abbrev cP_addHost : ByteArray := prog_4_method_4_code
def yN_router : MethodName := ⟨rN, "router", "(I)Z"⟩
abbrev cN_router : ByteArray := prog_1_method_5_code
def yP_hasRouter : MethodName := ⟨rP, "hasRouter", "()Z"⟩
abbrev cP_hasRouter : ByteArray := prog_4_method_10_code
def yP_addRouter : MethodName := ⟨rP, "addRouter", "(I)V"⟩
abbrev cP_addRouter : ByteArray := prog_4_method_5_code
def yN_access : MethodName := ⟨rN, "access", "(II)Z"⟩
abbrev cN_access : ByteArray := prog_1_method_6_code
def yW_makeAccess : MethodName := ⟨rW, "makeAccess", "(II)V"⟩
abbrev cW_makeAccess : ByteArray := prog_3_method_2_code
def yN_trunk : MethodName := ⟨rN, "trunk", "(III)Z"⟩
abbrev cN_trunk : ByteArray := prog_1_method_7_code
def yW_makeTrunk : MethodName := ⟨rW, "makeTrunk", "(III)V"⟩
abbrev cW_makeTrunk : ByteArray := prog_3_method_3_code
def yN_cut : MethodName := ⟨rN, "cut", "(IZ)Z"⟩
abbrev cN_cut : ByteArray := prog_1_method_8_code
def yT_dropMessage : MethodName := ⟨rT, "dropMessage", "(I)V"⟩
abbrev cT_dropMessage : ByteArray := prog_6_method_4_code
def yN_tick : MethodName := ⟨rN, "tick", "(I)I"⟩
abbrev cN_tick : ByteArray := prog_1_method_9_code
def yT_passTime : MethodName := ⟨rT, "passTime", "()V"⟩
abbrev cT_passTime : ByteArray := prog_6_method_2_code
def yT_ageMessages : MethodName := ⟨rT, "ageMessages", "()V"⟩
abbrev cT_ageMessages : ByteArray := prog_6_method_6_code
def yT_passNotices : MethodName := ⟨rT, "passNotices", "()V"⟩
abbrev cT_passNotices : ByteArray := prog_6_method_19_code
def yT_passNoticeOf : MethodName := ⟨rT, "passNoticeOf", "(I)V"⟩
abbrev cT_passNoticeOf : ByteArray := prog_6_method_20_code
def yT_sendMessages : MethodName := ⟨rT, "sendMessages", "()V"⟩
abbrev cT_sendMessages : ByteArray := prog_6_method_21_code
def yT_sendMessage : MethodName := ⟨rT, "sendMessage", "(II)V"⟩
abbrev cT_sendMessage : ByteArray := prog_6_method_22_code
def yT_isMarked : MethodName := ⟨rT, "isMarked", "(I)Z"⟩
abbrev cT_isMarked : ByteArray := prog_6_method_5_code
def yT_takeMessages : MethodName := ⟨rT, "takeMessages", "()V"⟩
abbrev cT_takeMessages : ByteArray := prog_6_method_23_code
def yN_forgetOldEntries : MethodName := ⟨rN, "forgetOldEntries", "()V"⟩
abbrev cN_forgetOldEntries : ByteArray := prog_1_method_20_code
def yB_forget : MethodName := ⟨rB, "forget", "(III)V"⟩
abbrev cB_forget : ByteArray := prog_5_method_5_code
def yN_role : MethodName := ⟨rN, "role", "(I)I"⟩
abbrev cN_role : ByteArray := prog_1_method_10_code
def yN_state : MethodName := ⟨rN, "state", "(I)I"⟩
abbrev cN_state : ByteArray := prog_1_method_11_code
def yN_root : MethodName := ⟨rN, "root", "(I)I"⟩
abbrev cN_root : ByteArray := prog_1_method_12_code
def yP_isBridge : MethodName := ⟨rP, "isBridge", "(I)Z"⟩
abbrev cP_isBridge : ByteArray := prog_4_method_6_code
def yN_held : MethodName := ⟨rN, "held", "(II)I"⟩
abbrev cN_held : ByteArray := prog_1_method_13_code
def yN_learned : MethodName := ⟨rN, "learned", "(III)I"⟩
abbrev cN_learned : ByteArray := prog_1_method_14_code
def yB_portOf : MethodName := ⟨rB, "portOf", "(III)I"⟩
abbrev cB_portOf : ByteArray := prog_5_method_2_code
def yN_entries : MethodName := ⟨rN, "entries", "(I)I"⟩
abbrev cN_entries : ByteArray := prog_1_method_15_code
def yB_countOf : MethodName := ⟨rB, "countOf", "(I)I"⟩
abbrev cB_countOf : ByteArray := prog_5_method_4_code
def yN_send : MethodName := ⟨rN, "send", "(II)I"⟩
abbrev cN_send : ByteArray := prog_1_method_16_code
def yP_isHost : MethodName := ⟨rP, "isHost", "(I)Z"⟩
abbrev cP_isHost : ByteArray := prog_4_method_9_code
def yN_isDestination : MethodName := ⟨rN, "isDestination", "(I)Z"⟩
abbrev cN_isDestination : ByteArray := prog_1_method_21_code
def yK_startCount : MethodName := ⟨rK, "startCount", "()V"⟩
abbrev cK_startCount : ByteArray := prog_2_method_2_code
def yK_carryFromHost : MethodName := ⟨rK, "carryFromHost", "(II)I"⟩
abbrev cK_carryFromHost : ByteArray := prog_2_method_3_code
def yK_carry : MethodName := ⟨rK, "carry", "(IIII)I"⟩
abbrev cK_carry : ByteArray := prog_2_method_5_code
def yK_handleArrival : MethodName := ⟨rK, "handleArrival", "(II)V"⟩
abbrev cK_handleArrival : ByteArray := prog_2_method_6_code
def yW_networkInside : MethodName := ⟨rW, "networkInside", "(II)I"⟩
abbrev cW_networkInside : ByteArray := prog_3_method_5_code
def yW_isMember : MethodName := ⟨rW, "isMember", "(II)Z"⟩
abbrev cW_isMember : ByteArray := prog_3_method_4_code
def yB_learn : MethodName := ⟨rB, "learn", "(IIII)V"⟩
abbrev cB_learn : ByteArray := prog_5_method_3_code
def yK_forward : MethodName := ⟨rK, "forward", "(II)V"⟩
abbrev cK_forward : ByteArray := prog_2_method_7_code
def yW_tagOutside : MethodName := ⟨rW, "tagOutside", "(II)I"⟩
abbrev cW_tagOutside : ByteArray := prog_3_method_6_code
def yK_goOut : MethodName := ⟨rK, "goOut", "(II)V"⟩
abbrev cK_goOut : ByteArray := prog_2_method_8_code
def yN_ask : MethodName := ⟨rN, "ask", "(III)I"⟩
abbrev cN_ask : ByteArray := prog_1_method_17_code
def yN_routedStep : MethodName := ⟨rN, "routedStep", "(III)Z"⟩
abbrev cN_routedStep : ByteArray := prog_1_method_23_code
def yN_hasBit : MethodName := ⟨rN, "hasBit", "(II)Z"⟩
abbrev cN_hasBit : ByteArray := prog_1_method_27_code
def yK_carryFromRouter : MethodName := ⟨rK, "carryFromRouter", "(II)I"⟩
abbrev cK_carryFromRouter : ByteArray := prog_2_method_4_code
def yN_directStep : MethodName := ⟨rN, "directStep", "(III)Z"⟩
abbrev cN_directStep : ByteArray := prog_1_method_22_code
def yN_answer : MethodName := ⟨rN, "answer", "()I"⟩
abbrev cN_answer : ByteArray := prog_1_method_18_code
def yN_crossings : MethodName := ⟨rN, "crossings", "()I"⟩
abbrev cN_crossings : ByteArray := prog_1_method_19_code
def yL_cell : MethodName := ⟨rL, "cell", "([II)I"⟩
abbrev cL_cell : ByteArray := method_2_code
def yM_init : MethodName := ⟨rM, "<init>", "(III)V"⟩
abbrev cM_init : ByteArray := prog_8_method_1_code
def yM_near : MethodName := ⟨rM, "near", "(III)I"⟩
abbrev cM_near : ByteArray := prog_8_method_2_code
def yM_bridge : MethodName := ⟨rM, "bridge", "(I)I"⟩
abbrev cM_bridge : ByteArray := prog_8_method_5_code
def yM_look : MethodName := ⟨rM, "look", "(Z)V"⟩
abbrev cM_look : ByteArray := prog_8_method_22_code
def yM_roleOf : MethodName := ⟨rM, "roleOf", "(I)I"⟩
abbrev cM_roleOf : ByteArray := prog_8_method_20_code
def yM_isUp : MethodName := ⟨rM, "isUp", "(I)Z"⟩
abbrev cM_isUp : ByteArray := prog_8_method_14_code
def yM_rootPort : MethodName := ⟨rM, "rootPort", "(I)I"⟩
abbrev cM_rootPort : ByteArray := prog_8_method_16_code
def yM_id : MethodName := ⟨rM, "id", "(I)I"⟩
abbrev cM_id : ByteArray := prog_8_method_13_code
def yM_key : MethodName := ⟨rM, "key", "(IIII)J"⟩
abbrev cM_key : ByteArray := prog_8_method_15_code
def yM_rootOf : MethodName := ⟨rM, "rootOf", "(I)I"⟩
abbrev cM_rootOf : ByteArray := prog_8_method_17_code
def yM_distance : MethodName := ⟨rM, "distance", "(I)I"⟩
abbrev cM_distance : ByteArray := prog_8_method_18_code
def yM_stateOf : MethodName := ⟨rM, "stateOf", "(I)I"⟩
abbrev cM_stateOf : ByteArray := prog_8_method_21_code
def yM_wire : MethodName := ⟨rM, "wire", "(III)I"⟩
abbrev cM_wire : ByteArray := prog_8_method_7_code
def yM_isFree : MethodName := ⟨rM, "isFree", "(I)Z"⟩
abbrev cM_isFree : ByteArray := prog_8_method_4_code
def yM_isPlace : MethodName := ⟨rM, "isPlace", "(I)Z"⟩
abbrev cM_isPlace : ByteArray := prog_8_method_3_code
def yM_put : MethodName := ⟨rM, "put", "(III)V"⟩
abbrev cM_put : ByteArray := prog_8_method_6_code
def yM_host : MethodName := ⟨rM, "host", "(II)I"⟩
abbrev cM_host : ByteArray := prog_8_method_8_code
def yM_router : MethodName := ⟨rM, "router", "(I)Z"⟩
abbrev cM_router : ByteArray := prog_8_method_9_code
def yM_access : MethodName := ⟨rM, "access", "(II)Z"⟩
abbrev cM_access : ByteArray := prog_8_method_10_code
def yM_trunk : MethodName := ⟨rM, "trunk", "(III)Z"⟩
abbrev cM_trunk : ByteArray := prog_8_method_11_code
def yM_cut : MethodName := ⟨rM, "cut", "(IZ)Z"⟩
abbrev cM_cut : ByteArray := prog_8_method_12_code
def yM_tick : MethodName := ⟨rM, "tick", "(I)I"⟩
abbrev cM_tick : ByteArray := prog_8_method_29_code
def yM_age : MethodName := ⟨rM, "age", "()V"⟩
abbrev cM_age : ByteArray := prog_8_method_24_code
def yM_passNotices : MethodName := ⟨rM, "passNotices", "()V"⟩
abbrev cM_passNotices : ByteArray := prog_8_method_25_code
def yM_other : MethodName := ⟨rM, "other", "(I)I"⟩
abbrev cM_other : ByteArray := prog_8_method_23_code
def yM_sendMessages : MethodName := ⟨rM, "sendMessages", "()V"⟩
abbrev cM_sendMessages : ByteArray := prog_8_method_26_code
def yM_marked : MethodName := ⟨rM, "marked", "(I)Z"⟩
abbrev cM_marked : ByteArray := prog_8_method_19_code
def yM_hold : MethodName := ⟨rM, "hold", "(II)V"⟩
abbrev cM_hold : ByteArray := prog_8_method_27_code
def yM_forget : MethodName := ⟨rM, "forget", "()V"⟩
abbrev cM_forget : ByteArray := prog_8_method_28_code
def yM_role : MethodName := ⟨rM, "role", "(I)I"⟩
abbrev cM_role : ByteArray := prog_8_method_30_code
def yM_state : MethodName := ⟨rM, "state", "(I)I"⟩
abbrev cM_state : ByteArray := prog_8_method_31_code
def yM_root : MethodName := ⟨rM, "root", "(I)I"⟩
abbrev cM_root : ByteArray := prog_8_method_32_code
def yM_held : MethodName := ⟨rM, "held", "(II)I"⟩
abbrev cM_held : ByteArray := prog_8_method_33_code
def yM_learned : MethodName := ⟨rM, "learned", "(III)I"⟩
abbrev cM_learned : ByteArray := prog_8_method_34_code
def yM_entries : MethodName := ⟨rM, "entries", "(I)I"⟩
abbrev cM_entries : ByteArray := prog_8_method_35_code
def yM_send : MethodName := ⟨rM, "send", "(II)I"⟩
abbrev cM_send : ByteArray := prog_8_method_42_code
def yM_isHost : MethodName := ⟨rM, "isHost", "(I)Z"⟩
abbrev cM_isHost : ByteArray := prog_8_method_41_code
def yM_frame : MethodName := ⟨rM, "frame", "(IIII)I"⟩
abbrev cM_frame : ByteArray := prog_8_method_40_code
def yM_arrive : MethodName := ⟨rM, "arrive", "(II)V"⟩
abbrev cM_arrive : ByteArray := prog_8_method_36_code
def yM_handle : MethodName := ⟨rM, "handle", "(IIII)V"⟩
abbrev cM_handle : ByteArray := prog_8_method_39_code
def yM_isMember : MethodName := ⟨rM, "isMember", "(II)Z"⟩
abbrev cM_isMember : ByteArray := prog_8_method_38_code
def yM_goOut : MethodName := ⟨rM, "goOut", "(II)V"⟩
abbrev cM_goOut : ByteArray := prog_8_method_37_code
def yM_ask : MethodName := ⟨rM, "ask", "(III)I"⟩
abbrev cM_ask : ByteArray := prog_8_method_44_code
def yM_askNear : MethodName := ⟨rM, "askNear", "(II)I"⟩
abbrev cM_askNear : ByteArray := prog_8_method_45_code
def yM_reaches : MethodName := ⟨rM, "reaches", "(IIII)Z"⟩
abbrev cM_reaches : ByteArray := prog_8_method_43_code
def yM_askFar : MethodName := ⟨rM, "askFar", "(IIII)I"⟩
abbrev cM_askFar : ByteArray := prog_8_method_46_code
def yM_answer : MethodName := ⟨rM, "answer", "()I"⟩
abbrev cM_answer : ByteArray := prog_8_method_47_code
def yM_crossings : MethodName := ⟨rM, "crossings", "()I"⟩
abbrev cM_crossings : ByteArray := prog_8_method_48_code
/-- the words that stay, of all that the Statement gives -/
def jG : List Cond := lw_tbl.filter goodWord
theorem jG_t1 (i : Nat) {w : Cond} (h : tables_1_1[i]? = some w) (hg : goodWord w = true) : w ∈ jG := by
  have hm := List.mem_of_getElem? h
  have h2 : w ∈ tables_1 := List.mem_append_left _ hm
  exact List.mem_filter.mpr ⟨List.mem_append_right _ h2, hg⟩
theorem jG_t2 (i : Nat) {w : Cond} (h : tables_1_2[i]? = some w) (hg : goodWord w = true) : w ∈ jG := by
  have hm := List.mem_of_getElem? h
  have h2 : w ∈ tables_1 := List.mem_append_right _ (List.mem_append_left _ hm)
  exact List.mem_filter.mpr ⟨List.mem_append_right _ h2, hg⟩
theorem jG_t3 (i : Nat) {w : Cond} (h : tables_1_3[i]? = some w) (hg : goodWord w = true) : w ∈ jG := by
  have hm := List.mem_of_getElem? h
  have h2 : w ∈ tables_1 := List.mem_append_right _ (List.mem_append_right _ (List.mem_append_left _ hm))
  exact List.mem_filter.mpr ⟨List.mem_append_right _ h2, hg⟩
theorem jG_t4 (i : Nat) {w : Cond} (h : tables_1_4[i]? = some w) (hg : goodWord w = true) : w ∈ jG := by
  have hm := List.mem_of_getElem? h
  have h2 : w ∈ tables_1 := List.mem_append_right _ (List.mem_append_right _ (List.mem_append_right _ hm))
  exact List.mem_filter.mpr ⟨List.mem_append_right _ h2, hg⟩
theorem jG_s (i : Nat) {w : Cond} (h : (k2_sels lw_privs)[i]? = some w) (hg : goodWord w = true) : w ∈ jG := List.mem_filter.mpr ⟨List.mem_append_left _ (List.mem_of_getElem? h), hg⟩
theorem jG_good {w : Cond} (h : w ∈ jG) : (w.onTables && w.keeps) = true ∨ ∃ ty, w = .arrayClass ty := good_of_word (List.mem_filter.mp h).2
theorem jG_v {cw : Cond} {own C : String} {idx : Nat} {y : MethodName} {cw' : Cond} (h1 : Cond.methodLink own idx y ∈ jG) (h2 : Cond.instanceMethod y ∈ jG) (h3 : Cond.selects C y y ∈ jG) (h4 : Cond.initialized C ∈ jG) (h5 : cw' ∈ jG) : GoodIn (cw :: jG) (wsV own idx C y (cw' :: jG)) := by
  have key : ∀ w ∈ jG, w ∈ cw :: jG ∧ ((w.onTables && w.keeps) = true ∨ ∃ ty, w = .arrayClass ty) := fun w h => ⟨List.mem_cons_of_mem _ h, jG_good h⟩
  intro w hw
  unfold wsV at hw
  simp only [List.cons_append, List.nil_append, List.mem_cons] at hw
  rcases hw with rfl | rfl | rfl | rfl | rfl | hw
  · exact key _ h1
  · exact key _ h2
  · exact key _ h3
  · exact key _ h4
  · exact key _ h5
  · exact key _ hw
theorem jG_st {cw : Cond} {own : String} {idx : Nat} {y : MethodName} {cw' : Cond} (h1 : Cond.methodLink own idx y ∈ jG) (h2 : Cond.static y ∈ jG) (h4 : Cond.initialized own ∈ jG) (h5 : cw' ∈ jG) : GoodIn (cw :: jG) (wsS own idx y (cw' :: jG)) := by
  have key : ∀ w ∈ jG, w ∈ cw :: jG ∧ ((w.onTables && w.keeps) = true ∨ ∃ ty, w = .arrayClass ty) := fun w h => ⟨List.mem_cons_of_mem _ h, jG_good h⟩
  intro w hw
  unfold wsS at hw
  simp only [List.cons_append, List.nil_append, List.mem_cons] at hw
  rcases hw with rfl | rfl | rfl | rfl | hw
  · exact key _ h1
  · exact key _ h2
  · exact key _ h4
  · exact key _ h5
  · exact key _ hw
theorem jG_n {cw cw' : Cond} (h5 : cw' ∈ jG) : GoodIn (cw :: jG) (cw' :: jG) := fun w hw => (List.mem_cons.mp hw).elim (fun e => e ▸ ⟨List.mem_cons_of_mem _ h5, jG_good h5⟩) (fun h => ⟨List.mem_cons_of_mem _ h, jG_good h⟩)
theorem mZ_L : Cond.initialized rL ∈ jG := jG_t1 0 rfl rfl
theorem mZ_N : Cond.initialized rN ∈ jG := jG_t1 1 rfl rfl
theorem mZ_H : Cond.initialized rH ∈ jG := jG_t1 2 rfl rfl
theorem mZ_P : Cond.initialized rP ∈ jG := jG_t1 3 rfl rfl
theorem mZ_A : Cond.initialized rA ∈ jG := jG_t1 4 rfl rfl
theorem mZ_W : Cond.initialized rW ∈ jG := jG_t1 5 rfl rfl
theorem mZ_T : Cond.initialized rT ∈ jG := jG_t1 6 rfl rfl
theorem mZ_B : Cond.initialized rB ∈ jG := jG_t1 7 rfl rfl
theorem mZ_K : Cond.initialized rK ∈ jG := jG_t1 8 rfl rfl
theorem mZ_M : Cond.initialized rM ∈ jG := jG_t1 9 rfl rfl
theorem mZ_Y : Cond.initialized rY ∈ jG := jG_t1 10 rfl rfl
theorem mB_L_7 : Cond.classLink rL 7 rN ∈ jG := jG_t1 11 rfl rfl
theorem mN_N : Cond.instantiable rN 7 ∈ jG := jG_t1 12 rfl rfl
theorem mL_L_15 : Cond.methodLink rL 15 yN_init ∈ jG := jG_t1 13 rfl rfl
theorem mI_N_init : Cond.instanceMethod yN_init ∈ jG := jG_t1 14 rfl rfl
theorem mC_N_init : Cond.code yN_init cN_init 4 none ∈ jG := jG_t1 15 rfl rfl
theorem mL_N_9 : Cond.methodLink rN 9 yN_nearest ∈ jG := jG_t1 19 rfl rfl
theorem mT_N_nearest : Cond.static yN_nearest ∈ jG := jG_t1 20 rfl rfl
theorem mC_N_nearest : Cond.code yN_nearest cN_nearest 3 (some .int) ∈ jG := jG_t1 21 rfl rfl
theorem mL_N_202 : Cond.methodLink rN 202 yH_min ∈ jG := jG_t1 22 rfl rfl
theorem mT_H_min : Cond.static yH_min ∈ jG := jG_t1 23 rfl rfl
theorem mC_H_min : Cond.code yH_min cH_min 2 (some .int) ∈ jG := jG_t1 24 rfl rfl
theorem mL_N_207 : Cond.methodLink rN 207 yH_max ∈ jG := jG_t1 25 rfl rfl
theorem mT_H_max : Cond.static yH_max ∈ jG := jG_t1 26 rfl rfl
theorem mC_H_max : Cond.code yH_max cH_max 2 (some .int) ∈ jG := jG_t1 27 rfl rfl
theorem mB_N_17 : Cond.classLink rN 17 rP ∈ jG := jG_t1 28 rfl rfl
theorem mN_P : Cond.instantiable rP 13 ∈ jG := jG_t1 29 rfl rfl
theorem mL_N_19 : Cond.methodLink rN 19 yP_init ∈ jG := jG_t1 30 rfl rfl
theorem mI_P_init : Cond.instanceMethod yP_init ∈ jG := jG_t1 31 rfl rfl
theorem mC_P_init : Cond.code yP_init cP_init 1 none ∈ jG := jG_t1 32 rfl rfl
theorem mL_P_44 : Cond.methodLink rP 44 yA_fill ∈ jG := jG_t1 34 rfl rfl
theorem mT_A_fill : Cond.static yA_fill ∈ jG := jG_t1 35 rfl rfl
theorem mC_A_fill : Cond.code yA_fill cA_fill 4 none ∈ jG := jG_t1 36 rfl rfl
theorem mF_P_50 : Cond.fieldLink rP 50 rP "bridgeCount" "I" ∈ jG := jG_t1 37 rfl rfl
theorem mF_N_59 : Cond.fieldLink rN 59 rP "bridgeCount" "I" ∈ jG := jG_t1 38 rfl rfl
theorem mF_T_90 : Cond.fieldLink rT 90 rP "bridgeCount" "I" ∈ jG := jG_t1 39 rfl rfl
theorem mF_P_9 : Cond.fieldLink rP 9 rP "bridgeIds" "[I" ∈ jG := jG_t1 40 rfl rfl
theorem mF_T_110 : Cond.fieldLink rT 110 rP "bridgeIds" "[I" ∈ jG := jG_t1 41 rfl rfl
theorem mF_P_53 : Cond.fieldLink rP 53 rP "wireCount" "I" ∈ jG := jG_t1 42 rfl rfl
theorem mF_N_73 : Cond.fieldLink rN 73 rP "wireCount" "I" ∈ jG := jG_t1 43 rfl rfl
theorem mF_P_15 : Cond.fieldLink rP 15 rP "wireEnds" "[I" ∈ jG := jG_t1 44 rfl rfl
theorem mF_N_116 : Cond.fieldLink rN 116 rP "wireEnds" "[I" ∈ jG := jG_t1 45 rfl rfl
theorem mF_P_18 : Cond.fieldLink rP 18 rP "wireCosts" "[I" ∈ jG := jG_t1 46 rfl rfl
theorem mF_T_130 : Cond.fieldLink rT 130 rP "wireCosts" "[I" ∈ jG := jG_t1 47 rfl rfl
theorem mF_P_21 : Cond.fieldLink rP 21 rP "wireIsCut" "[Z" ∈ jG := jG_t1 48 rfl rfl
theorem mF_N_112 : Cond.fieldLink rN 112 rP "wireIsCut" "[Z" ∈ jG := jG_t1 49 rfl rfl
theorem mF_P_56 : Cond.fieldLink rP 56 rP "hostCount" "I" ∈ jG := jG_t1 50 rfl rfl
theorem mF_N_83 : Cond.fieldLink rN 83 rP "hostCount" "I" ∈ jG := jG_t1 51 rfl rfl
theorem mF_P_25 : Cond.fieldLink rP 25 rP "hostPlaces" "[I" ∈ jG := jG_t1 52 rfl rfl
theorem mF_K_38 : Cond.fieldLink rK 38 rP "hostPlaces" "[I" ∈ jG := jG_t1 53 rfl rfl
theorem mF_P_28 : Cond.fieldLink rP 28 rP "hostSubnets" "[I" ∈ jG := jG_t1 54 rfl rfl
theorem mF_N_177 : Cond.fieldLink rN 177 rP "hostSubnets" "[I" ∈ jG := jG_t1 55 rfl rfl
theorem mF_P_31 : Cond.fieldLink rP 31 rP "routerPlace" "I" ∈ jG := jG_t1 56 rfl rfl
theorem mF_K_47 : Cond.fieldLink rK 47 rP "routerPlace" "I" ∈ jG := jG_t1 57 rfl rfl
theorem mF_P_35 : Cond.fieldLink rP 35 rP "wires" "[I" ∈ jG := jG_t1 58 rfl rfl
theorem mF_T_127 : Cond.fieldLink rT 127 rP "wires" "[I" ∈ jG := jG_t1 59 rfl rfl
theorem mF_P_38 : Cond.fieldLink rP 38 rP "farPlaces" "[I" ∈ jG := jG_t1 60 rfl rfl
theorem mF_K_109 : Cond.fieldLink rK 109 rP "farPlaces" "[I" ∈ jG := jG_t1 61 rfl rfl
theorem mF_N_123 : Cond.fieldLink rN 123 rP "farPlaces" "[I" ∈ jG := jG_t1 62 rfl rfl
theorem mF_T_152 : Cond.fieldLink rT 152 rP "farPlaces" "[I" ∈ jG := jG_t1 63 rfl rfl
theorem mF_P_41 : Cond.fieldLink rP 41 rP "guests" "[I" ∈ jG := jG_t1 64 rfl rfl
theorem mF_K_106 : Cond.fieldLink rK 106 rP "guests" "[I" ∈ jG := jG_t1 65 rfl rfl
theorem mA_int : Cond.arrayClass .int ∈ jG := jG_t1 93 rfl rfl
theorem mA_boolean : Cond.arrayClass .boolean ∈ jG := jG_t1 94 rfl rfl
theorem mB_N_24 : Cond.classLink rN 24 rW ∈ jG := jG_t1 95 rfl rfl
theorem mN_W : Cond.instantiable rW 3 ∈ jG := jG_t1 96 rfl rfl
theorem mL_N_26 : Cond.methodLink rN 26 yW_init ∈ jG := jG_t1 97 rfl rfl
theorem mI_W_init : Cond.instanceMethod yW_init ∈ jG := jG_t1 98 rfl rfl
theorem mC_W_init : Cond.code yW_init cW_init 1 none ∈ jG := jG_t1 99 rfl rfl
theorem mL_W_22 : Cond.methodLink rW 22 yA_fill ∈ jG := jG_t1 101 rfl rfl
theorem mF_W_9 : Cond.fieldLink rW 9 rW "untagged" "[I" ∈ jG := jG_t1 102 rfl rfl
theorem mF_W_15 : Cond.fieldLink rW 15 rW "members" "[I" ∈ jG := jG_t1 103 rfl rfl
theorem mF_W_18 : Cond.fieldLink rW 18 rW "isTrunk" "[Z" ∈ jG := jG_t1 104 rfl rfl
theorem mB_N_31 : Cond.classLink rN 31 rT ∈ jG := jG_t1 112 rfl rfl
theorem mN_T : Cond.instantiable rT 17 ∈ jG := jG_t1 113 rfl rfl
theorem mL_N_33 : Cond.methodLink rN 33 yT_init ∈ jG := jG_t1 114 rfl rfl
theorem mI_T_init : Cond.instanceMethod yT_init ∈ jG := jG_t1 115 rfl rfl
theorem mC_T_init : Cond.code yT_init cT_init 4 none ∈ jG := jG_t1 116 rfl rfl
theorem mL_T_63 : Cond.methodLink rT 63 yA_fill ∈ jG := jG_t1 118 rfl rfl
theorem mF_T_52 : Cond.fieldLink rT 52 rT "plan" "LCampusNet$Plan;" ∈ jG := jG_t1 119 rfl rfl
theorem mF_T_56 : Cond.fieldLink rT 56 rT "limit" "I" ∈ jG := jG_t1 120 rfl rfl
theorem mF_T_60 : Cond.fieldLink rT 60 rT "delay" "I" ∈ jG := jG_t1 121 rfl rfl
theorem mF_N_189 : Cond.fieldLink rN 189 rT "delay" "I" ∈ jG := jG_t1 122 rfl rfl
theorem mF_T_69 : Cond.fieldLink rT 69 rT "time" "I" ∈ jG := jG_t1 123 rfl rfl
theorem mF_K_83 : Cond.fieldLink rK 83 rT "time" "I" ∈ jG := jG_t1 124 rfl rfl
theorem mF_N_132 : Cond.fieldLink rN 132 rT "time" "I" ∈ jG := jG_t1 125 rfl rfl
theorem mF_T_11 : Cond.fieldLink rT 11 rT "messages" "[I" ∈ jG := jG_t1 126 rfl rfl
theorem mF_N_156 : Cond.fieldLink rN 156 rT "messages" "[I" ∈ jG := jG_t1 127 rfl rfl
theorem mF_T_15 : Cond.fieldLink rT 15 rT "holds" "[Z" ∈ jG := jG_t1 128 rfl rfl
theorem mF_N_153 : Cond.fieldLink rN 153 rT "holds" "[Z" ∈ jG := jG_t1 129 rfl rfl
theorem mF_T_19 : Cond.fieldLink rT 19 rT "sentMessages" "[I" ∈ jG := jG_t1 130 rfl rfl
theorem mF_T_22 : Cond.fieldLink rT 22 rT "isSentTo" "[Z" ∈ jG := jG_t1 131 rfl rfl
theorem mF_T_25 : Cond.fieldLink rT 25 rT "roots" "[I" ∈ jG := jG_t1 132 rfl rfl
theorem mF_N_147 : Cond.fieldLink rN 147 rT "roots" "[I" ∈ jG := jG_t1 133 rfl rfl
theorem mF_T_28 : Cond.fieldLink rT 28 rT "distances" "[I" ∈ jG := jG_t1 134 rfl rfl
theorem mF_N_150 : Cond.fieldLink rN 150 rT "distances" "[I" ∈ jG := jG_t1 135 rfl rfl
theorem mF_T_31 : Cond.fieldLink rT 31 rT "rootPlaces" "[I" ∈ jG := jG_t1 136 rfl rfl
theorem mF_T_34 : Cond.fieldLink rT 34 rT "roles" "[I" ∈ jG := jG_t1 137 rfl rfl
theorem mF_N_135 : Cond.fieldLink rN 135 rT "roles" "[I" ∈ jG := jG_t1 138 rfl rfl
theorem mF_T_37 : Cond.fieldLink rT 37 rT "since" "[I" ∈ jG := jG_t1 139 rfl rfl
theorem mF_T_40 : Cond.fieldLink rT 40 rT "states" "[I" ∈ jG := jG_t1 140 rfl rfl
theorem mF_K_78 : Cond.fieldLink rK 78 rT "states" "[I" ∈ jG := jG_t1 141 rfl rfl
theorem mF_N_138 : Cond.fieldLink rN 138 rT "states" "[I" ∈ jG := jG_t1 142 rfl rfl
theorem mF_T_43 : Cond.fieldLink rT 43 rT "until" "[I" ∈ jG := jG_t1 143 rfl rfl
theorem mF_T_46 : Cond.fieldLink rT 46 rT "hasNotice" "[Z" ∈ jG := jG_t1 144 rfl rfl
theorem mF_T_49 : Cond.fieldLink rT 49 rT "passesNotice" "[Z" ∈ jG := jG_t1 145 rfl rfl
theorem mB_N_40 : Cond.classLink rN 40 rB ∈ jG := jG_t1 181 rfl rfl
theorem mN_B : Cond.instantiable rB 2 ∈ jG := jG_t1 182 rfl rfl
theorem mL_N_42 : Cond.methodLink rN 42 yB_init ∈ jG := jG_t1 183 rfl rfl
theorem mI_B_init : Cond.instanceMethod yB_init ∈ jG := jG_t1 184 rfl rfl
theorem mC_B_init : Cond.code yB_init cB_init 1 none ∈ jG := jG_t1 185 rfl rfl
theorem mL_B_18 : Cond.methodLink rB 18 yA_fill ∈ jG := jG_t1 187 rfl rfl
theorem mF_B_11 : Cond.fieldLink rB 11 rB "ports" "[I" ∈ jG := jG_t1 188 rfl rfl
theorem mF_B_15 : Cond.fieldLink rB 15 rB "times" "[I" ∈ jG := jG_t1 189 rfl rfl
theorem mB_N_47 : Cond.classLink rN 47 rK ∈ jG := jG_t1 195 rfl rfl
theorem mN_K : Cond.instantiable rK 12 ∈ jG := jG_t1 196 rfl rfl
theorem mL_N_49 : Cond.methodLink rN 49 yK_init ∈ jG := jG_t1 197 rfl rfl
theorem mI_K_init : Cond.instanceMethod yK_init ∈ jG := jG_t1 198 rfl rfl
theorem mC_K_init : Cond.code yK_init cK_init 5 none ∈ jG := jG_t1 199 rfl rfl
theorem mF_K_18 : Cond.fieldLink rK 18 rK "plan" "LCampusNet$Plan;" ∈ jG := jG_t1 201 rfl rfl
theorem mF_K_22 : Cond.fieldLink rK 22 rK "networks" "LCampusNet$Networks;" ∈ jG := jG_t1 202 rfl rfl
theorem mF_K_26 : Cond.fieldLink rK 26 rK "tree" "LCampusNet$Tree;" ∈ jG := jG_t1 203 rfl rfl
theorem mF_K_30 : Cond.fieldLink rK 30 rK "table" "LCampusNet$Table;" ∈ jG := jG_t1 204 rfl rfl
theorem mF_K_9 : Cond.fieldLink rK 9 rK "arrivalPlaces" "[I" ∈ jG := jG_t1 205 rfl rfl
theorem mF_K_15 : Cond.fieldLink rK 15 rK "arrivalTags" "[I" ∈ jG := jG_t1 206 rfl rfl
theorem mF_K_68 : Cond.fieldLink rK 68 rK "arrivalCount" "I" ∈ jG := jG_t1 207 rfl rfl
theorem mF_K_56 : Cond.fieldLink rK 56 rK "source" "I" ∈ jG := jG_t1 208 rfl rfl
theorem mF_K_59 : Cond.fieldLink rK 59 rK "destination" "I" ∈ jG := jG_t1 209 rfl rfl
theorem mF_K_62 : Cond.fieldLink rK 62 rK "frameCrossings" "I" ∈ jG := jG_t1 210 rfl rfl
theorem mF_K_65 : Cond.fieldLink rK 65 rK "reached" "I" ∈ jG := jG_t1 211 rfl rfl
theorem mF_K_34 : Cond.fieldLink rK 34 rK "countedCrossings" "I" ∈ jG := jG_t1 212 rfl rfl
theorem mF_N_186 : Cond.fieldLink rN 186 rK "countedCrossings" "I" ∈ jG := jG_t1 213 rfl rfl
theorem mF_N_13 : Cond.fieldLink rN 13 rN "memory" "I" ∈ jG := jG_t1 239 rfl rfl
theorem mF_N_20 : Cond.fieldLink rN 20 rN "plan" "LCampusNet$Plan;" ∈ jG := jG_t2 0 rfl rfl
theorem mF_N_27 : Cond.fieldLink rN 27 rN "networks" "LCampusNet$Networks;" ∈ jG := jG_t2 1 rfl rfl
theorem mF_N_36 : Cond.fieldLink rN 36 rN "tree" "LCampusNet$Tree;" ∈ jG := jG_t2 2 rfl rfl
theorem mF_N_43 : Cond.fieldLink rN 43 rN "table" "LCampusNet$Table;" ∈ jG := jG_t2 3 rfl rfl
theorem mF_N_52 : Cond.fieldLink rN 52 rN "carrier" "LCampusNet$Carrier;" ∈ jG := jG_t2 4 rfl rfl
theorem mF_N_56 : Cond.fieldLink rN 56 rN "latestAnswer" "I" ∈ jG := jG_t2 5 rfl rfl
theorem mL_L_21 : Cond.methodLink rL 21 yN_bridge ∈ jG := jG_t2 21 rfl rfl
theorem mI_N_bridge : Cond.instanceMethod yN_bridge ∈ jG := jG_t2 22 rfl rfl
theorem mS_N_bridge : Cond.selects rN yN_bridge yN_bridge ∈ jG := jG_t2 23 rfl rfl
theorem mC_N_bridge : Cond.code yN_bridge cN_bridge 3 (some .int) ∈ jG := jG_t2 24 rfl rfl
theorem mL_N_62 : Cond.methodLink rN 62 yN_isWithin ∈ jG := jG_t2 25 rfl rfl
theorem mT_N_isWithin : Cond.static yN_isWithin ∈ jG := jG_t2 26 rfl rfl
theorem mC_N_isWithin : Cond.code yN_isWithin cN_isWithin 3 (some .boolean) ∈ jG := jG_t2 27 rfl rfl
theorem mL_N_66 : Cond.methodLink rN 66 yP_addBridge ∈ jG := jG_t2 28 rfl rfl
theorem mI_P_addBridge : Cond.instanceMethod yP_addBridge ∈ jG := jG_t2 29 rfl rfl
theorem mS_P_addBridge : Cond.selects rP yP_addBridge yP_addBridge ∈ jG := jG_t2 30 rfl rfl
theorem mC_P_addBridge : Cond.code yP_addBridge cP_addBridge 3 (some .int) ∈ jG := jG_t2 31 rfl rfl
theorem mL_N_70 : Cond.methodLink rN 70 yT_settle ∈ jG := jG_t2 32 rfl rfl
theorem mI_T_settle : Cond.instanceMethod yT_settle ∈ jG := jG_t2 33 rfl rfl
theorem mS_T_settle : Cond.selects rT yT_settle yT_settle ∈ jG := jG_t2 34 rfl rfl
theorem mC_T_settle : Cond.code yT_settle cT_settle 4 none ∈ jG := jG_t2 35 rfl rfl
theorem mL_T_75 : Cond.methodLink rT 75 yT_chooseRoots ∈ jG := jG_t2 36 rfl rfl
theorem mI_T_chooseRoots : Cond.instanceMethod yT_chooseRoots ∈ jG := jG_t2 38 rfl rfl
theorem mC_T_chooseRoots : Cond.code yT_chooseRoots cT_chooseRoots 3 none ∈ jG := jG_t2 39 rfl rfl
theorem mL_T_107 : Cond.methodLink rT 107 yT_bestOffer ∈ jG := jG_t2 40 rfl rfl
theorem mI_T_bestOffer : Cond.instanceMethod yT_bestOffer ∈ jG := jG_t2 42 rfl rfl
theorem mC_T_bestOffer : Cond.code yT_bestOffer cT_bestOffer 4 (some .int) ∈ jG := jG_t2 43 rfl rfl
theorem mL_T_116 : Cond.methodLink rT 116 yT_isOffering ∈ jG := jG_t2 44 rfl rfl
theorem mI_T_isOffering : Cond.instanceMethod yT_isOffering ∈ jG := jG_t2 46 rfl rfl
theorem mC_T_isOffering : Cond.code yT_isOffering cT_isOffering 2 (some .boolean) ∈ jG := jG_t2 47 rfl rfl
theorem mL_T_124 : Cond.methodLink rT 124 yP_hasWholeWire ∈ jG := jG_t2 48 rfl rfl
theorem mI_P_hasWholeWire : Cond.instanceMethod yP_hasWholeWire ∈ jG := jG_t2 49 rfl rfl
theorem mS_P_hasWholeWire : Cond.selects rP yP_hasWholeWire yP_hasWholeWire ∈ jG := jG_t2 50 rfl rfl
theorem mC_P_hasWholeWire : Cond.code yP_hasWholeWire cP_hasWholeWire 2 (some .boolean) ∈ jG := jG_t2 51 rfl rfl
theorem mL_T_120 : Cond.methodLink rT 120 yT_offerRank ∈ jG := jG_t2 52 rfl rfl
theorem mI_T_offerRank : Cond.instanceMethod yT_offerRank ∈ jG := jG_t2 54 rfl rfl
theorem mC_T_offerRank : Cond.code yT_offerRank cT_offerRank 3 (some .long) ∈ jG := jG_t2 55 rfl rfl
theorem mL_T_113 : Cond.methodLink rT 113 yT_offeredCost ∈ jG := jG_t2 56 rfl rfl
theorem mI_T_offeredCost : Cond.instanceMethod yT_offeredCost ∈ jG := jG_t2 58 rfl rfl
theorem mC_T_offeredCost : Cond.code yT_offeredCost cT_offeredCost 3 (some .int) ∈ jG := jG_t2 59 rfl rfl
theorem mL_T_133 : Cond.methodLink rT 133 yT_rank ∈ jG := jG_t2 60 rfl rfl
theorem mT_T_rank : Cond.static yT_rank ∈ jG := jG_t2 61 rfl rfl
theorem mC_T_rank : Cond.code yT_rank cT_rank 8 (some .long) ∈ jG := jG_t2 62 rfl rfl
theorem mL_T_95 : Cond.methodLink rT 95 yT_lookAtRole ∈ jG := jG_t2 63 rfl rfl
theorem mI_T_lookAtRole : Cond.instanceMethod yT_lookAtRole ∈ jG := jG_t2 65 rfl rfl
theorem mC_T_lookAtRole : Cond.code yT_lookAtRole cT_lookAtRole 3 none ∈ jG := jG_t2 66 rfl rfl
theorem mL_T_143 : Cond.methodLink rT 143 yT_roleNow ∈ jG := jG_t2 67 rfl rfl
theorem mI_T_roleNow : Cond.instanceMethod yT_roleNow ∈ jG := jG_t2 69 rfl rfl
theorem mC_T_roleNow : Cond.code yT_roleNow cT_roleNow 5 (some .int) ∈ jG := jG_t2 70 rfl rfl
theorem mL_T_137 : Cond.methodLink rT 137 yP_isUp ∈ jG := jG_t2 71 rfl rfl
theorem mI_P_isUp : Cond.instanceMethod yP_isUp ∈ jG := jG_t2 72 rfl rfl
theorem mS_P_isUp : Cond.selects rP yP_isUp yP_isUp ∈ jG := jG_t2 73 rfl rfl
theorem mC_P_isUp : Cond.code yP_isUp cP_isUp 2 (some .boolean) ∈ jG := jG_t2 74 rfl rfl
theorem mL_P_67 : Cond.methodLink rP 67 yP_hasWholeWire ∈ jG := jG_t2 75 rfl rfl
theorem mL_T_140 : Cond.methodLink rT 140 yT_messageRank ∈ jG := jG_t2 76 rfl rfl
theorem mI_T_messageRank : Cond.instanceMethod yT_messageRank ∈ jG := jG_t2 78 rfl rfl
theorem mC_T_messageRank : Cond.code yT_messageRank cT_messageRank 3 (some .long) ∈ jG := jG_t2 79 rfl rfl
theorem mL_T_146 : Cond.methodLink rT 146 yT_isActive ∈ jG := jG_t2 80 rfl rfl
theorem mT_T_isActive : Cond.static yT_isActive ∈ jG := jG_t2 81 rfl rfl
theorem mC_T_isActive : Cond.code yT_isActive cT_isActive 1 (some .boolean) ∈ jG := jG_t2 82 rfl rfl
theorem mL_T_99 : Cond.methodLink rT 99 yT_stateNow ∈ jG := jG_t2 83 rfl rfl
theorem mI_T_stateNow : Cond.instanceMethod yT_stateNow ∈ jG := jG_t2 85 rfl rfl
theorem mC_T_stateNow : Cond.code yT_stateNow cT_stateNow 3 (some .int) ∈ jG := jG_t2 86 rfl rfl
theorem mL_T_103 : Cond.methodLink rT 103 yT_isWorthNotice ∈ jG := jG_t2 87 rfl rfl
theorem mT_T_isWorthNotice : Cond.static yT_isWorthNotice ∈ jG := jG_t2 88 rfl rfl
theorem mC_T_isWorthNotice : Cond.code yT_isWorthNotice cT_isWorthNotice 4 (some .boolean) ∈ jG := jG_t2 89 rfl rfl
theorem mL_L_26 : Cond.methodLink rL 26 yN_wire ∈ jG := jG_t2 90 rfl rfl
theorem mI_N_wire : Cond.instanceMethod yN_wire ∈ jG := jG_t2 91 rfl rfl
theorem mS_N_wire : Cond.selects rN yN_wire yN_wire ∈ jG := jG_t2 92 rfl rfl
theorem mC_N_wire : Cond.code yN_wire cN_wire 5 (some .int) ∈ jG := jG_t2 93 rfl rfl
theorem mL_N_76 : Cond.methodLink rN 76 yP_isFree ∈ jG := jG_t2 94 rfl rfl
theorem mI_P_isFree : Cond.instanceMethod yP_isFree ∈ jG := jG_t2 95 rfl rfl
theorem mS_P_isFree : Cond.selects rP yP_isFree yP_isFree ∈ jG := jG_t2 96 rfl rfl
theorem mC_P_isFree : Cond.code yP_isFree cP_isFree 2 (some .boolean) ∈ jG := jG_t2 97 rfl rfl
theorem mL_P_63 : Cond.methodLink rP 63 yP_isPlace ∈ jG := jG_t2 98 rfl rfl
theorem mI_P_isPlace : Cond.instanceMethod yP_isPlace ∈ jG := jG_t2 99 rfl rfl
theorem mS_P_isPlace : Cond.selects rP yP_isPlace yP_isPlace ∈ jG := jG_t2 100 rfl rfl
theorem mC_P_isPlace : Cond.code yP_isPlace cP_isPlace 2 (some .boolean) ∈ jG := jG_t2 101 rfl rfl
theorem mL_N_80 : Cond.methodLink rN 80 yP_addWire ∈ jG := jG_t2 103 rfl rfl
theorem mI_P_addWire : Cond.instanceMethod yP_addWire ∈ jG := jG_t2 104 rfl rfl
theorem mS_P_addWire : Cond.selects rP yP_addWire yP_addWire ∈ jG := jG_t2 105 rfl rfl
theorem mC_P_addWire : Cond.code yP_addWire cP_addWire 5 (some .int) ∈ jG := jG_t2 106 rfl rfl
theorem mL_L_31 : Cond.methodLink rL 31 yN_host ∈ jG := jG_t2 107 rfl rfl
theorem mI_N_host : Cond.instanceMethod yN_host ∈ jG := jG_t2 108 rfl rfl
theorem mS_N_host : Cond.selects rN yN_host yN_host ∈ jG := jG_t2 109 rfl rfl
theorem mC_N_host : Cond.code yN_host cN_host 4 (some .int) ∈ jG := jG_t2 110 rfl rfl
theorem mL_N_86 : Cond.methodLink rN 86 yN_isNetwork ∈ jG := jG_t2 111 rfl rfl
theorem mT_N_isNetwork : Cond.static yN_isNetwork ∈ jG := jG_t2 112 rfl rfl
theorem mC_N_isNetwork : Cond.code yN_isNetwork cN_isNetwork 1 (some .boolean) ∈ jG := jG_t2 113 rfl rfl
theorem mL_N_89 : Cond.methodLink rN 89 yP_addHost ∈ jG := jG_t2 114 rfl rfl
theorem mI_P_addHost : Cond.instanceMethod yP_addHost ∈ jG := jG_t2 115 rfl rfl
theorem mS_P_addHost : Cond.selects rP yP_addHost yP_addHost ∈ jG := jG_t2 116 rfl rfl
theorem mC_P_addHost : Cond.code yP_addHost cP_addHost 4 (some .int) ∈ jG := jG_t2 117 rfl rfl
theorem mL_L_36 : Cond.methodLink rL 36 yN_router ∈ jG := jG_t2 118 rfl rfl
theorem mI_N_router : Cond.instanceMethod yN_router ∈ jG := jG_t2 119 rfl rfl
theorem mS_N_router : Cond.selects rN yN_router yN_router ∈ jG := jG_t2 120 rfl rfl
theorem mC_N_router : Cond.code yN_router cN_router 2 (some .boolean) ∈ jG := jG_t2 121 rfl rfl
theorem mL_N_93 : Cond.methodLink rN 93 yP_hasRouter ∈ jG := jG_t2 122 rfl rfl
theorem mI_P_hasRouter : Cond.instanceMethod yP_hasRouter ∈ jG := jG_t2 123 rfl rfl
theorem mS_P_hasRouter : Cond.selects rP yP_hasRouter yP_hasRouter ∈ jG := jG_t2 124 rfl rfl
theorem mC_P_hasRouter : Cond.code yP_hasRouter cP_hasRouter 1 (some .boolean) ∈ jG := jG_t2 125 rfl rfl
theorem mL_N_97 : Cond.methodLink rN 97 yP_addRouter ∈ jG := jG_t2 126 rfl rfl
theorem mI_P_addRouter : Cond.instanceMethod yP_addRouter ∈ jG := jG_t2 127 rfl rfl
theorem mS_P_addRouter : Cond.selects rP yP_addRouter yP_addRouter ∈ jG := jG_t2 128 rfl rfl
theorem mC_P_addRouter : Cond.code yP_addRouter cP_addRouter 2 none ∈ jG := jG_t2 129 rfl rfl
theorem mL_L_41 : Cond.methodLink rL 41 yN_access ∈ jG := jG_t2 130 rfl rfl
theorem mI_N_access : Cond.instanceMethod yN_access ∈ jG := jG_t2 131 rfl rfl
theorem mS_N_access : Cond.selects rN yN_access yN_access ∈ jG := jG_t2 132 rfl rfl
theorem mC_N_access : Cond.code yN_access cN_access 3 (some .boolean) ∈ jG := jG_t2 133 rfl rfl
theorem mL_N_101 : Cond.methodLink rN 101 yP_isPlace ∈ jG := jG_t2 134 rfl rfl
theorem mL_N_104 : Cond.methodLink rN 104 yW_makeAccess ∈ jG := jG_t2 135 rfl rfl
theorem mI_W_makeAccess : Cond.instanceMethod yW_makeAccess ∈ jG := jG_t2 136 rfl rfl
theorem mS_W_makeAccess : Cond.selects rW yW_makeAccess yW_makeAccess ∈ jG := jG_t2 137 rfl rfl
theorem mC_W_makeAccess : Cond.code yW_makeAccess cW_makeAccess 3 none ∈ jG := jG_t2 138 rfl rfl
theorem mL_L_46 : Cond.methodLink rL 46 yN_trunk ∈ jG := jG_t2 139 rfl rfl
theorem mI_N_trunk : Cond.instanceMethod yN_trunk ∈ jG := jG_t2 140 rfl rfl
theorem mS_N_trunk : Cond.selects rN yN_trunk yN_trunk ∈ jG := jG_t2 141 rfl rfl
theorem mC_N_trunk : Cond.code yN_trunk cN_trunk 4 (some .boolean) ∈ jG := jG_t2 142 rfl rfl
theorem mL_N_108 : Cond.methodLink rN 108 yW_makeTrunk ∈ jG := jG_t2 143 rfl rfl
theorem mI_W_makeTrunk : Cond.instanceMethod yW_makeTrunk ∈ jG := jG_t2 144 rfl rfl
theorem mS_W_makeTrunk : Cond.selects rW yW_makeTrunk yW_makeTrunk ∈ jG := jG_t2 145 rfl rfl
theorem mC_W_makeTrunk : Cond.code yW_makeTrunk cW_makeTrunk 4 none ∈ jG := jG_t2 146 rfl rfl
theorem mL_L_51 : Cond.methodLink rL 51 yN_cut ∈ jG := jG_t2 147 rfl rfl
theorem mI_N_cut : Cond.instanceMethod yN_cut ∈ jG := jG_t2 148 rfl rfl
theorem mS_N_cut : Cond.selects rN yN_cut yN_cut ∈ jG := jG_t2 149 rfl rfl
theorem mC_N_cut : Cond.code yN_cut cN_cut 4 (some .boolean) ∈ jG := jG_t2 150 rfl rfl
theorem mL_N_120 : Cond.methodLink rN 120 yT_dropMessage ∈ jG := jG_t2 151 rfl rfl
theorem mI_T_dropMessage : Cond.instanceMethod yT_dropMessage ∈ jG := jG_t2 152 rfl rfl
theorem mS_T_dropMessage : Cond.selects rT yT_dropMessage yT_dropMessage ∈ jG := jG_t2 153 rfl rfl
theorem mC_T_dropMessage : Cond.code yT_dropMessage cT_dropMessage 2 none ∈ jG := jG_t2 154 rfl rfl
theorem mL_L_56 : Cond.methodLink rL 56 yN_tick ∈ jG := jG_t2 155 rfl rfl
theorem mI_N_tick : Cond.instanceMethod yN_tick ∈ jG := jG_t2 156 rfl rfl
theorem mS_N_tick : Cond.selects rN yN_tick yN_tick ∈ jG := jG_t2 157 rfl rfl
theorem mC_N_tick : Cond.code yN_tick cN_tick 3 (some .int) ∈ jG := jG_t2 158 rfl rfl
theorem mL_N_126 : Cond.methodLink rN 126 yT_passTime ∈ jG := jG_t2 159 rfl rfl
theorem mI_T_passTime : Cond.instanceMethod yT_passTime ∈ jG := jG_t2 160 rfl rfl
theorem mS_T_passTime : Cond.selects rT yT_passTime yT_passTime ∈ jG := jG_t2 161 rfl rfl
theorem mC_T_passTime : Cond.code yT_passTime cT_passTime 1 none ∈ jG := jG_t2 162 rfl rfl
theorem mL_T_72 : Cond.methodLink rT 72 yT_ageMessages ∈ jG := jG_t2 163 rfl rfl
theorem mI_T_ageMessages : Cond.instanceMethod yT_ageMessages ∈ jG := jG_t2 165 rfl rfl
theorem mC_T_ageMessages : Cond.code yT_ageMessages cT_ageMessages 2 none ∈ jG := jG_t2 166 rfl rfl
theorem mL_T_78 : Cond.methodLink rT 78 yT_passNotices ∈ jG := jG_t2 167 rfl rfl
theorem mI_T_passNotices : Cond.instanceMethod yT_passNotices ∈ jG := jG_t2 169 rfl rfl
theorem mC_T_passNotices : Cond.code yT_passNotices cT_passNotices 2 none ∈ jG := jG_t2 170 rfl rfl
theorem mL_T_149 : Cond.methodLink rT 149 yT_passNoticeOf ∈ jG := jG_t2 171 rfl rfl
theorem mI_T_passNoticeOf : Cond.instanceMethod yT_passNoticeOf ∈ jG := jG_t2 173 rfl rfl
theorem mC_T_passNoticeOf : Cond.code yT_passNoticeOf cT_passNoticeOf 3 none ∈ jG := jG_t2 174 rfl rfl
theorem mL_T_81 : Cond.methodLink rT 81 yT_sendMessages ∈ jG := jG_t2 175 rfl rfl
theorem mI_T_sendMessages : Cond.instanceMethod yT_sendMessages ∈ jG := jG_t2 177 rfl rfl
theorem mC_T_sendMessages : Cond.code yT_sendMessages cT_sendMessages 3 none ∈ jG := jG_t2 178 rfl rfl
theorem mL_T_155 : Cond.methodLink rT 155 yT_sendMessage ∈ jG := jG_t2 179 rfl rfl
theorem mI_T_sendMessage : Cond.instanceMethod yT_sendMessage ∈ jG := jG_t2 181 rfl rfl
theorem mC_T_sendMessage : Cond.code yT_sendMessage cT_sendMessage 6 none ∈ jG := jG_t2 182 rfl rfl
theorem mL_T_159 : Cond.methodLink rT 159 yT_isMarked ∈ jG := jG_t2 183 rfl rfl
theorem mI_T_isMarked : Cond.instanceMethod yT_isMarked ∈ jG := jG_t2 184 rfl rfl
theorem mS_T_isMarked : Cond.selects rT yT_isMarked yT_isMarked ∈ jG := jG_t2 185 rfl rfl
theorem mC_T_isMarked : Cond.code yT_isMarked cT_isMarked 2 (some .boolean) ∈ jG := jG_t2 186 rfl rfl
theorem mL_T_84 : Cond.methodLink rT 84 yT_takeMessages ∈ jG := jG_t2 187 rfl rfl
theorem mI_T_takeMessages : Cond.instanceMethod yT_takeMessages ∈ jG := jG_t2 189 rfl rfl
theorem mC_T_takeMessages : Cond.code yT_takeMessages cT_takeMessages 2 none ∈ jG := jG_t2 190 rfl rfl
theorem mL_T_87 : Cond.methodLink rT 87 yT_settle ∈ jG := jG_t2 194 rfl rfl
theorem mL_N_129 : Cond.methodLink rN 129 yN_forgetOldEntries ∈ jG := jG_t2 195 rfl rfl
theorem mI_N_forgetOldEntries : Cond.instanceMethod yN_forgetOldEntries ∈ jG := jG_t2 197 rfl rfl
theorem mC_N_forgetOldEntries : Cond.code yN_forgetOldEntries cN_forgetOldEntries 2 none ∈ jG := jG_t2 198 rfl rfl
theorem mL_N_144 : Cond.methodLink rN 144 yT_isMarked ∈ jG := jG_t2 199 rfl rfl
theorem mL_N_192 : Cond.methodLink rN 192 yB_forget ∈ jG := jG_t2 200 rfl rfl
theorem mI_B_forget : Cond.instanceMethod yB_forget ∈ jG := jG_t2 201 rfl rfl
theorem mS_B_forget : Cond.selects rB yB_forget yB_forget ∈ jG := jG_t2 202 rfl rfl
theorem mC_B_forget : Cond.code yB_forget cB_forget 5 none ∈ jG := jG_t2 203 rfl rfl
theorem mL_L_60 : Cond.methodLink rL 60 yN_role ∈ jG := jG_t2 204 rfl rfl
theorem mI_N_role : Cond.instanceMethod yN_role ∈ jG := jG_t2 205 rfl rfl
theorem mS_N_role : Cond.selects rN yN_role yN_role ∈ jG := jG_t2 206 rfl rfl
theorem mC_N_role : Cond.code yN_role cN_role 2 (some .int) ∈ jG := jG_t2 207 rfl rfl
theorem mL_L_64 : Cond.methodLink rL 64 yN_state ∈ jG := jG_t2 208 rfl rfl
theorem mI_N_state : Cond.instanceMethod yN_state ∈ jG := jG_t2 209 rfl rfl
theorem mS_N_state : Cond.selects rN yN_state yN_state ∈ jG := jG_t2 210 rfl rfl
theorem mC_N_state : Cond.code yN_state cN_state 2 (some .int) ∈ jG := jG_t2 211 rfl rfl
theorem mL_L_68 : Cond.methodLink rL 68 yN_root ∈ jG := jG_t2 212 rfl rfl
theorem mI_N_root : Cond.instanceMethod yN_root ∈ jG := jG_t2 213 rfl rfl
theorem mS_N_root : Cond.selects rN yN_root yN_root ∈ jG := jG_t2 214 rfl rfl
theorem mC_N_root : Cond.code yN_root cN_root 3 (some .int) ∈ jG := jG_t2 215 rfl rfl
theorem mL_N_141 : Cond.methodLink rN 141 yP_isBridge ∈ jG := jG_t2 216 rfl rfl
theorem mI_P_isBridge : Cond.instanceMethod yP_isBridge ∈ jG := jG_t2 217 rfl rfl
theorem mS_P_isBridge : Cond.selects rP yP_isBridge yP_isBridge ∈ jG := jG_t2 218 rfl rfl
theorem mC_P_isBridge : Cond.code yP_isBridge cP_isBridge 2 (some .boolean) ∈ jG := jG_t2 219 rfl rfl
theorem mL_L_72 : Cond.methodLink rL 72 yN_held ∈ jG := jG_t2 220 rfl rfl
theorem mI_N_held : Cond.instanceMethod yN_held ∈ jG := jG_t2 221 rfl rfl
theorem mS_N_held : Cond.selects rN yN_held yN_held ∈ jG := jG_t2 222 rfl rfl
theorem mC_N_held : Cond.code yN_held cN_held 3 (some .int) ∈ jG := jG_t2 223 rfl rfl
theorem mL_L_76 : Cond.methodLink rL 76 yN_learned ∈ jG := jG_t2 224 rfl rfl
theorem mI_N_learned : Cond.instanceMethod yN_learned ∈ jG := jG_t2 225 rfl rfl
theorem mS_N_learned : Cond.selects rN yN_learned yN_learned ∈ jG := jG_t2 226 rfl rfl
theorem mC_N_learned : Cond.code yN_learned cN_learned 4 (some .int) ∈ jG := jG_t2 227 rfl rfl
theorem mL_N_159 : Cond.methodLink rN 159 yB_portOf ∈ jG := jG_t2 228 rfl rfl
theorem mI_B_portOf : Cond.instanceMethod yB_portOf ∈ jG := jG_t2 229 rfl rfl
theorem mS_B_portOf : Cond.selects rB yB_portOf yB_portOf ∈ jG := jG_t2 230 rfl rfl
theorem mC_B_portOf : Cond.code yB_portOf cB_portOf 4 (some .int) ∈ jG := jG_t2 231 rfl rfl
theorem mL_L_80 : Cond.methodLink rL 80 yN_entries ∈ jG := jG_t2 232 rfl rfl
theorem mI_N_entries : Cond.instanceMethod yN_entries ∈ jG := jG_t2 233 rfl rfl
theorem mS_N_entries : Cond.selects rN yN_entries yN_entries ∈ jG := jG_t2 234 rfl rfl
theorem mC_N_entries : Cond.code yN_entries cN_entries 2 (some .int) ∈ jG := jG_t2 235 rfl rfl
theorem mL_N_162 : Cond.methodLink rN 162 yB_countOf ∈ jG := jG_t2 236 rfl rfl
theorem mI_B_countOf : Cond.instanceMethod yB_countOf ∈ jG := jG_t2 237 rfl rfl
theorem mS_B_countOf : Cond.selects rB yB_countOf yB_countOf ∈ jG := jG_t2 238 rfl rfl
theorem mC_B_countOf : Cond.code yB_countOf cB_countOf 4 (some .int) ∈ jG := jG_t2 239 rfl rfl
theorem mL_L_84 : Cond.methodLink rL 84 yN_send ∈ jG := jG_t3 0 rfl rfl
theorem mI_N_send : Cond.instanceMethod yN_send ∈ jG := jG_t3 1 rfl rfl
theorem mS_N_send : Cond.selects rN yN_send yN_send ∈ jG := jG_t3 2 rfl rfl
theorem mC_N_send : Cond.code yN_send cN_send 3 (some .int) ∈ jG := jG_t3 3 rfl rfl
theorem mL_N_165 : Cond.methodLink rN 165 yP_isHost ∈ jG := jG_t3 4 rfl rfl
theorem mI_P_isHost : Cond.instanceMethod yP_isHost ∈ jG := jG_t3 5 rfl rfl
theorem mS_P_isHost : Cond.selects rP yP_isHost yP_isHost ∈ jG := jG_t3 6 rfl rfl
theorem mC_P_isHost : Cond.code yP_isHost cP_isHost 2 (some .boolean) ∈ jG := jG_t3 7 rfl rfl
theorem mL_N_168 : Cond.methodLink rN 168 yN_isDestination ∈ jG := jG_t3 8 rfl rfl
theorem mI_N_isDestination : Cond.instanceMethod yN_isDestination ∈ jG := jG_t3 10 rfl rfl
theorem mC_N_isDestination : Cond.code yN_isDestination cN_isDestination 2 (some .boolean) ∈ jG := jG_t3 11 rfl rfl
theorem mL_N_171 : Cond.methodLink rN 171 yK_startCount ∈ jG := jG_t3 12 rfl rfl
theorem mI_K_startCount : Cond.instanceMethod yK_startCount ∈ jG := jG_t3 13 rfl rfl
theorem mS_K_startCount : Cond.selects rK yK_startCount yK_startCount ∈ jG := jG_t3 14 rfl rfl
theorem mC_K_startCount : Cond.code yK_startCount cK_startCount 1 none ∈ jG := jG_t3 15 rfl rfl
theorem mL_N_174 : Cond.methodLink rN 174 yK_carryFromHost ∈ jG := jG_t3 16 rfl rfl
theorem mI_K_carryFromHost : Cond.instanceMethod yK_carryFromHost ∈ jG := jG_t3 17 rfl rfl
theorem mS_K_carryFromHost : Cond.selects rK yK_carryFromHost yK_carryFromHost ∈ jG := jG_t3 18 rfl rfl
theorem mC_K_carryFromHost : Cond.code yK_carryFromHost cK_carryFromHost 3 (some .int) ∈ jG := jG_t3 19 rfl rfl
theorem mL_K_43 : Cond.methodLink rK 43 yK_carry ∈ jG := jG_t3 20 rfl rfl
theorem mI_K_carry : Cond.instanceMethod yK_carry ∈ jG := jG_t3 22 rfl rfl
theorem mC_K_carry : Cond.code yK_carry cK_carry 6 (some .int) ∈ jG := jG_t3 23 rfl rfl
theorem mL_K_71 : Cond.methodLink rK 71 yK_handleArrival ∈ jG := jG_t3 24 rfl rfl
theorem mI_K_handleArrival : Cond.instanceMethod yK_handleArrival ∈ jG := jG_t3 26 rfl rfl
theorem mC_K_handleArrival : Cond.code yK_handleArrival cK_handleArrival 4 none ∈ jG := jG_t3 27 rfl rfl
theorem mL_K_75 : Cond.methodLink rK 75 yW_networkInside ∈ jG := jG_t3 28 rfl rfl
theorem mI_W_networkInside : Cond.instanceMethod yW_networkInside ∈ jG := jG_t3 29 rfl rfl
theorem mS_W_networkInside : Cond.selects rW yW_networkInside yW_networkInside ∈ jG := jG_t3 30 rfl rfl
theorem mC_W_networkInside : Cond.code yW_networkInside cW_networkInside 4 (some .int) ∈ jG := jG_t3 31 rfl rfl
theorem mL_W_28 : Cond.methodLink rW 28 yW_isMember ∈ jG := jG_t3 32 rfl rfl
theorem mI_W_isMember : Cond.instanceMethod yW_isMember ∈ jG := jG_t3 33 rfl rfl
theorem mS_W_isMember : Cond.selects rW yW_isMember yW_isMember ∈ jG := jG_t3 34 rfl rfl
theorem mC_W_isMember : Cond.code yW_isMember cW_isMember 3 (some .boolean) ∈ jG := jG_t3 35 rfl rfl
theorem mL_K_86 : Cond.methodLink rK 86 yB_learn ∈ jG := jG_t3 36 rfl rfl
theorem mI_B_learn : Cond.instanceMethod yB_learn ∈ jG := jG_t3 37 rfl rfl
theorem mS_B_learn : Cond.selects rB yB_learn yB_learn ∈ jG := jG_t3 38 rfl rfl
theorem mC_B_learn : Cond.code yB_learn cB_learn 6 none ∈ jG := jG_t3 39 rfl rfl
theorem mL_K_92 : Cond.methodLink rK 92 yK_forward ∈ jG := jG_t3 40 rfl rfl
theorem mI_K_forward : Cond.instanceMethod yK_forward ∈ jG := jG_t3 42 rfl rfl
theorem mC_K_forward : Cond.code yK_forward cK_forward 8 none ∈ jG := jG_t3 43 rfl rfl
theorem mL_K_95 : Cond.methodLink rK 95 yB_portOf ∈ jG := jG_t3 44 rfl rfl
theorem mL_K_99 : Cond.methodLink rK 99 yW_isMember ∈ jG := jG_t3 45 rfl rfl
theorem mL_K_50 : Cond.methodLink rK 50 yW_tagOutside ∈ jG := jG_t3 46 rfl rfl
theorem mI_W_tagOutside : Cond.instanceMethod yW_tagOutside ∈ jG := jG_t3 47 rfl rfl
theorem mS_W_tagOutside : Cond.selects rW yW_tagOutside yW_tagOutside ∈ jG := jG_t3 48 rfl rfl
theorem mC_W_tagOutside : Cond.code yW_tagOutside cW_tagOutside 3 (some .int) ∈ jG := jG_t3 49 rfl rfl
theorem mL_K_103 : Cond.methodLink rK 103 yK_goOut ∈ jG := jG_t3 50 rfl rfl
theorem mI_K_goOut : Cond.instanceMethod yK_goOut ∈ jG := jG_t3 52 rfl rfl
theorem mC_K_goOut : Cond.code yK_goOut cK_goOut 5 none ∈ jG := jG_t3 53 rfl rfl
theorem mL_L_88 : Cond.methodLink rL 88 yN_ask ∈ jG := jG_t3 54 rfl rfl
theorem mI_N_ask : Cond.instanceMethod yN_ask ∈ jG := jG_t3 55 rfl rfl
theorem mS_N_ask : Cond.selects rN yN_ask yN_ask ∈ jG := jG_t3 56 rfl rfl
theorem mC_N_ask : Cond.code yN_ask cN_ask 7 (some .int) ∈ jG := jG_t3 57 rfl rfl
theorem mL_N_180 : Cond.methodLink rN 180 yN_routedStep ∈ jG := jG_t3 58 rfl rfl
theorem mI_N_routedStep : Cond.instanceMethod yN_routedStep ∈ jG := jG_t3 60 rfl rfl
theorem mC_N_routedStep : Cond.code yN_routedStep cN_routedStep 4 (some .boolean) ∈ jG := jG_t3 61 rfl rfl
theorem mL_N_195 : Cond.methodLink rN 195 yN_hasBit ∈ jG := jG_t3 62 rfl rfl
theorem mT_N_hasBit : Cond.static yN_hasBit ∈ jG := jG_t3 63 rfl rfl
theorem mC_N_hasBit : Cond.code yN_hasBit cN_hasBit 2 (some .boolean) ∈ jG := jG_t3 64 rfl rfl
theorem mL_N_199 : Cond.methodLink rN 199 yK_carryFromRouter ∈ jG := jG_t3 65 rfl rfl
theorem mI_K_carryFromRouter : Cond.instanceMethod yK_carryFromRouter ∈ jG := jG_t3 66 rfl rfl
theorem mS_K_carryFromRouter : Cond.selects rK yK_carryFromRouter yK_carryFromRouter ∈ jG := jG_t3 67 rfl rfl
theorem mC_K_carryFromRouter : Cond.code yK_carryFromRouter cK_carryFromRouter 4 (some .int) ∈ jG := jG_t3 68 rfl rfl
theorem mL_N_183 : Cond.methodLink rN 183 yN_directStep ∈ jG := jG_t3 69 rfl rfl
theorem mI_N_directStep : Cond.instanceMethod yN_directStep ∈ jG := jG_t3 71 rfl rfl
theorem mC_N_directStep : Cond.code yN_directStep cN_directStep 4 (some .boolean) ∈ jG := jG_t3 72 rfl rfl
theorem mL_L_92 : Cond.methodLink rL 92 yN_answer ∈ jG := jG_t3 73 rfl rfl
theorem mI_N_answer : Cond.instanceMethod yN_answer ∈ jG := jG_t3 74 rfl rfl
theorem mS_N_answer : Cond.selects rN yN_answer yN_answer ∈ jG := jG_t3 75 rfl rfl
theorem mC_N_answer : Cond.code yN_answer cN_answer 1 (some .int) ∈ jG := jG_t3 76 rfl rfl
theorem mL_L_97 : Cond.methodLink rL 97 yN_crossings ∈ jG := jG_t3 77 rfl rfl
theorem mI_N_crossings : Cond.instanceMethod yN_crossings ∈ jG := jG_t3 78 rfl rfl
theorem mS_N_crossings : Cond.selects rN yN_crossings yN_crossings ∈ jG := jG_t3 79 rfl rfl
theorem mC_N_crossings : Cond.code yN_crossings cN_crossings 1 (some .int) ∈ jG := jG_t3 80 rfl rfl
theorem mL_L_9 : Cond.methodLink rL 9 yL_cell ∈ jG := jG_t3 81 rfl rfl
theorem mT_L_cell : Cond.static yL_cell ∈ jG := jG_t3 82 rfl rfl
theorem mC_L_cell : Cond.code yL_cell cL_cell 2 (some .int) ∈ jG := jG_t3 83 rfl rfl
theorem mB_L_18 : Cond.classLink rL 18 rM ∈ jG := jG_t3 84 rfl rfl
theorem mN_M : Cond.instantiable rM 42 ∈ jG := jG_t3 85 rfl rfl
theorem mL_L_20 : Cond.methodLink rL 20 yM_init ∈ jG := jG_t3 86 rfl rfl
theorem mI_M_init : Cond.instanceMethod yM_init ∈ jG := jG_t3 87 rfl rfl
theorem mC_M_init : Cond.code yM_init cM_init 5 none ∈ jG := jG_t3 88 rfl rfl
theorem mL_M_102 : Cond.methodLink rM 102 yM_near ∈ jG := jG_t3 90 rfl rfl
theorem mT_M_near : Cond.static yM_near ∈ jG := jG_t3 91 rfl rfl
theorem mC_M_near : Cond.code yM_near cM_near 3 (some .int) ∈ jG := jG_t3 92 rfl rfl
theorem mF_M_106 : Cond.fieldLink rM 106 rM "limit" "I" ∈ jG := jG_t3 93 rfl rfl
theorem mF_M_109 : Cond.fieldLink rM 109 rM "delay" "I" ∈ jG := jG_t3 94 rfl rfl
theorem mF_M_112 : Cond.fieldLink rM 112 rM "memory" "I" ∈ jG := jG_t3 95 rfl rfl
theorem mF_M_154 : Cond.fieldLink rM 154 rM "time" "I" ∈ jG := jG_t3 96 rfl rfl
theorem mF_M_115 : Cond.fieldLink rM 115 rM "bridges" "I" ∈ jG := jG_t3 97 rfl rfl
theorem mF_M_7 : Cond.fieldLink rM 7 rM "priority" "[I" ∈ jG := jG_t3 98 rfl rfl
theorem mF_M_13 : Cond.fieldLink rM 13 rM "until" "[I" ∈ jG := jG_t3 99 rfl rfl
theorem mF_M_16 : Cond.fieldLink rM 16 rM "notice" "[Z" ∈ jG := jG_t3 100 rfl rfl
theorem mF_M_20 : Cond.fieldLink rM 20 rM "coming" "[Z" ∈ jG := jG_t3 101 rfl rfl
theorem mF_M_23 : Cond.fieldLink rM 23 rM "plug" "[I" ∈ jG := jG_t3 102 rfl rfl
theorem mF_M_26 : Cond.fieldLink rM 26 rM "with" "[I" ∈ jG := jG_t3 103 rfl rfl
theorem mF_M_29 : Cond.fieldLink rM 29 rM "trunked" "[Z" ∈ jG := jG_t3 104 rfl rfl
theorem mF_M_32 : Cond.fieldLink rM 32 rM "own" "[I" ∈ jG := jG_t3 105 rfl rfl
theorem mF_M_35 : Cond.fieldLink rM 35 rM "members" "[I" ∈ jG := jG_t3 106 rfl rfl
theorem mF_M_126 : Cond.fieldLink rM 126 rM "wires" "I" ∈ jG := jG_t3 107 rfl rfl
theorem mF_M_38 : Cond.fieldLink rM 38 rM "endP" "[I" ∈ jG := jG_t3 108 rfl rfl
theorem mF_M_41 : Cond.fieldLink rM 41 rM "endQ" "[I" ∈ jG := jG_t3 109 rfl rfl
theorem mF_M_44 : Cond.fieldLink rM 44 rM "price" "[I" ∈ jG := jG_t3 110 rfl rfl
theorem mF_M_47 : Cond.fieldLink rM 47 rM "gone" "[Z" ∈ jG := jG_t3 111 rfl rfl
theorem mF_M_136 : Cond.fieldLink rM 136 rM "hosts" "I" ∈ jG := jG_t3 112 rfl rfl
theorem mF_M_50 : Cond.fieldLink rM 50 rM "at" "[I" ∈ jG := jG_t3 113 rfl rfl
theorem mF_M_53 : Cond.fieldLink rM 53 rM "subnet" "[I" ∈ jG := jG_t3 114 rfl rfl
theorem mF_M_56 : Cond.fieldLink rM 56 rM "routerAt" "I" ∈ jG := jG_t3 115 rfl rfl
theorem mF_M_60 : Cond.fieldLink rM 60 rM "has" "[Z" ∈ jG := jG_t3 116 rfl rfl
theorem mF_M_63 : Cond.fieldLink rM 63 rM "mRoot" "[I" ∈ jG := jG_t3 117 rfl rfl
theorem mF_M_66 : Cond.fieldLink rM 66 rM "mCost" "[I" ∈ jG := jG_t3 118 rfl rfl
theorem mF_M_69 : Cond.fieldLink rM 69 rM "mSender" "[I" ∈ jG := jG_t3 119 rfl rfl
theorem mF_M_72 : Cond.fieldLink rM 72 rM "mPort" "[I" ∈ jG := jG_t3 120 rfl rfl
theorem mF_M_75 : Cond.fieldLink rM 75 rM "mAge" "[I" ∈ jG := jG_t3 121 rfl rfl
theorem mF_M_78 : Cond.fieldLink rM 78 rM "mMark" "[Z" ∈ jG := jG_t3 122 rfl rfl
theorem mF_M_81 : Cond.fieldLink rM 81 rM "active" "[Z" ∈ jG := jG_t3 123 rfl rfl
theorem mF_M_84 : Cond.fieldLink rM 84 rM "since" "[I" ∈ jG := jG_t3 124 rfl rfl
theorem mF_M_87 : Cond.fieldLink rM 87 rM "was" "[I" ∈ jG := jG_t3 125 rfl rfl
theorem mF_M_90 : Cond.fieldLink rM 90 rM "where" "[I" ∈ jG := jG_t3 126 rfl rfl
theorem mF_M_93 : Cond.fieldLink rM 93 rM "when" "[I" ∈ jG := jG_t3 127 rfl rfl
theorem mF_M_96 : Cond.fieldLink rM 96 rM "line" "[I" ∈ jG := jG_t3 128 rfl rfl
theorem mF_M_99 : Cond.fieldLink rM 99 rM "lineTag" "[I" ∈ jG := jG_t3 129 rfl rfl
theorem mF_M_194 : Cond.fieldLink rM 194 rM "arrivals" "I" ∈ jG := jG_t3 130 rfl rfl
theorem mF_M_197 : Cond.fieldLink rM 197 rM "crossed" "I" ∈ jG := jG_t3 131 rfl rfl
theorem mF_M_203 : Cond.fieldLink rM 203 rM "reached" "I" ∈ jG := jG_t3 132 rfl rfl
theorem mF_M_217 : Cond.fieldLink rM 217 rM "allCrossed" "I" ∈ jG := jG_t3 133 rfl rfl
theorem mF_M_234 : Cond.fieldLink rM 234 rM "answer" "I" ∈ jG := jG_t3 134 rfl rfl
theorem mL_L_25 : Cond.methodLink rL 25 yM_bridge ∈ jG := jG_t3 220 rfl rfl
theorem mI_M_bridge : Cond.instanceMethod yM_bridge ∈ jG := jG_t3 221 rfl rfl
theorem mS_M_bridge : Cond.selects rM yM_bridge yM_bridge ∈ jG := jG_t3 222 rfl rfl
theorem mC_M_bridge : Cond.code yM_bridge cM_bridge 2 (some .int) ∈ jG := jG_t3 223 rfl rfl
theorem mL_M_122 : Cond.methodLink rM 122 yM_look ∈ jG := jG_t3 224 rfl rfl
theorem mI_M_look : Cond.instanceMethod yM_look ∈ jG := jG_t3 226 rfl rfl
theorem mC_M_look : Cond.code yM_look cM_look 7 none ∈ jG := jG_t3 227 rfl rfl
theorem mL_M_166 : Cond.methodLink rM 166 yM_roleOf ∈ jG := jG_t3 228 rfl rfl
theorem mI_M_roleOf : Cond.instanceMethod yM_roleOf ∈ jG := jG_t3 230 rfl rfl
theorem mC_M_roleOf : Cond.code yM_roleOf cM_roleOf 5 (some .int) ∈ jG := jG_t3 231 rfl rfl
theorem mL_M_157 : Cond.methodLink rM 157 yM_isUp ∈ jG := jG_t3 232 rfl rfl
theorem mI_M_isUp : Cond.instanceMethod yM_isUp ∈ jG := jG_t3 234 rfl rfl
theorem mC_M_isUp : Cond.code yM_isUp cM_isUp 2 (some .boolean) ∈ jG := jG_t3 235 rfl rfl
theorem mL_M_151 : Cond.methodLink rM 151 yM_rootPort ∈ jG := jG_t3 236 rfl rfl
theorem mI_M_rootPort : Cond.instanceMethod yM_rootPort ∈ jG := jG_t3 238 rfl rfl
theorem mC_M_rootPort : Cond.code yM_rootPort cM_rootPort 9 (some .int) ∈ jG := jG_t3 239 rfl rfl
theorem mL_M_143 : Cond.methodLink rM 143 yM_id ∈ jG := jG_t4 0 rfl rfl
theorem mI_M_id : Cond.instanceMethod yM_id ∈ jG := jG_t4 2 rfl rfl
theorem mC_M_id : Cond.code yM_id cM_id 2 (some .int) ∈ jG := jG_t4 3 rfl rfl
theorem mL_M_147 : Cond.methodLink rM 147 yM_key ∈ jG := jG_t4 4 rfl rfl
theorem mT_M_key : Cond.static yM_key ∈ jG := jG_t4 5 rfl rfl
theorem mC_M_key : Cond.code yM_key cM_key 4 (some .long) ∈ jG := jG_t4 6 rfl rfl
theorem mK_M_139 : Cond.constantLong rM 139 1048576 ∈ jG := jG_t4 7 rfl rfl
theorem mK_M_141 : Cond.constantLong rM 141 64 ∈ jG := jG_t4 8 rfl rfl
theorem mL_M_160 : Cond.methodLink rM 160 yM_rootOf ∈ jG := jG_t4 9 rfl rfl
theorem mI_M_rootOf : Cond.instanceMethod yM_rootOf ∈ jG := jG_t4 11 rfl rfl
theorem mC_M_rootOf : Cond.code yM_rootOf cM_rootOf 3 (some .int) ∈ jG := jG_t4 12 rfl rfl
theorem mL_M_163 : Cond.methodLink rM 163 yM_distance ∈ jG := jG_t4 13 rfl rfl
theorem mI_M_distance : Cond.instanceMethod yM_distance ∈ jG := jG_t4 15 rfl rfl
theorem mC_M_distance : Cond.code yM_distance cM_distance 3 (some .int) ∈ jG := jG_t4 16 rfl rfl
theorem mL_M_169 : Cond.methodLink rM 169 yM_stateOf ∈ jG := jG_t4 17 rfl rfl
theorem mI_M_stateOf : Cond.instanceMethod yM_stateOf ∈ jG := jG_t4 19 rfl rfl
theorem mC_M_stateOf : Cond.code yM_stateOf cM_stateOf 4 (some .int) ∈ jG := jG_t4 20 rfl rfl
theorem mL_L_30 : Cond.methodLink rL 30 yM_wire ∈ jG := jG_t4 21 rfl rfl
theorem mI_M_wire : Cond.instanceMethod yM_wire ∈ jG := jG_t4 22 rfl rfl
theorem mS_M_wire : Cond.selects rM yM_wire yM_wire ∈ jG := jG_t4 23 rfl rfl
theorem mC_M_wire : Cond.code yM_wire cM_wire 4 (some .int) ∈ jG := jG_t4 24 rfl rfl
theorem mL_M_129 : Cond.methodLink rM 129 yM_isFree ∈ jG := jG_t4 25 rfl rfl
theorem mI_M_isFree : Cond.instanceMethod yM_isFree ∈ jG := jG_t4 27 rfl rfl
theorem mC_M_isFree : Cond.code yM_isFree cM_isFree 2 (some .boolean) ∈ jG := jG_t4 28 rfl rfl
theorem mL_M_118 : Cond.methodLink rM 118 yM_isPlace ∈ jG := jG_t4 29 rfl rfl
theorem mI_M_isPlace : Cond.instanceMethod yM_isPlace ∈ jG := jG_t4 31 rfl rfl
theorem mC_M_isPlace : Cond.code yM_isPlace cM_isPlace 2 (some .boolean) ∈ jG := jG_t4 32 rfl rfl
theorem mL_M_132 : Cond.methodLink rM 132 yM_put ∈ jG := jG_t4 33 rfl rfl
theorem mI_M_put : Cond.instanceMethod yM_put ∈ jG := jG_t4 35 rfl rfl
theorem mC_M_put : Cond.code yM_put cM_put 4 none ∈ jG := jG_t4 36 rfl rfl
theorem mL_L_35 : Cond.methodLink rL 35 yM_host ∈ jG := jG_t4 37 rfl rfl
theorem mI_M_host : Cond.instanceMethod yM_host ∈ jG := jG_t4 38 rfl rfl
theorem mS_M_host : Cond.selects rM yM_host yM_host ∈ jG := jG_t4 39 rfl rfl
theorem mC_M_host : Cond.code yM_host cM_host 3 (some .int) ∈ jG := jG_t4 40 rfl rfl
theorem mL_L_40 : Cond.methodLink rL 40 yM_router ∈ jG := jG_t4 41 rfl rfl
theorem mI_M_router : Cond.instanceMethod yM_router ∈ jG := jG_t4 42 rfl rfl
theorem mS_M_router : Cond.selects rM yM_router yM_router ∈ jG := jG_t4 43 rfl rfl
theorem mC_M_router : Cond.code yM_router cM_router 2 (some .boolean) ∈ jG := jG_t4 44 rfl rfl
theorem mL_L_45 : Cond.methodLink rL 45 yM_access ∈ jG := jG_t4 45 rfl rfl
theorem mI_M_access : Cond.instanceMethod yM_access ∈ jG := jG_t4 46 rfl rfl
theorem mS_M_access : Cond.selects rM yM_access yM_access ∈ jG := jG_t4 47 rfl rfl
theorem mC_M_access : Cond.code yM_access cM_access 3 (some .boolean) ∈ jG := jG_t4 48 rfl rfl
theorem mL_L_50 : Cond.methodLink rL 50 yM_trunk ∈ jG := jG_t4 49 rfl rfl
theorem mI_M_trunk : Cond.instanceMethod yM_trunk ∈ jG := jG_t4 50 rfl rfl
theorem mS_M_trunk : Cond.selects rM yM_trunk yM_trunk ∈ jG := jG_t4 51 rfl rfl
theorem mC_M_trunk : Cond.code yM_trunk cM_trunk 4 (some .boolean) ∈ jG := jG_t4 52 rfl rfl
theorem mL_L_55 : Cond.methodLink rL 55 yM_cut ∈ jG := jG_t4 53 rfl rfl
theorem mI_M_cut : Cond.instanceMethod yM_cut ∈ jG := jG_t4 54 rfl rfl
theorem mS_M_cut : Cond.selects rM yM_cut yM_cut ∈ jG := jG_t4 55 rfl rfl
theorem mC_M_cut : Cond.code yM_cut cM_cut 3 (some .boolean) ∈ jG := jG_t4 56 rfl rfl
theorem mL_L_59 : Cond.methodLink rL 59 yM_tick ∈ jG := jG_t4 57 rfl rfl
theorem mI_M_tick : Cond.instanceMethod yM_tick ∈ jG := jG_t4 58 rfl rfl
theorem mS_M_tick : Cond.selects rM yM_tick yM_tick ∈ jG := jG_t4 59 rfl rfl
theorem mC_M_tick : Cond.code yM_tick cM_tick 3 (some .int) ∈ jG := jG_t4 60 rfl rfl
theorem mL_M_182 : Cond.methodLink rM 182 yM_age ∈ jG := jG_t4 61 rfl rfl
theorem mI_M_age : Cond.instanceMethod yM_age ∈ jG := jG_t4 63 rfl rfl
theorem mC_M_age : Cond.code yM_age cM_age 2 none ∈ jG := jG_t4 64 rfl rfl
theorem mL_M_185 : Cond.methodLink rM 185 yM_passNotices ∈ jG := jG_t4 65 rfl rfl
theorem mI_M_passNotices : Cond.instanceMethod yM_passNotices ∈ jG := jG_t4 67 rfl rfl
theorem mC_M_passNotices : Cond.code yM_passNotices cM_passNotices 3 none ∈ jG := jG_t4 68 rfl rfl
theorem mL_M_172 : Cond.methodLink rM 172 yM_other ∈ jG := jG_t4 69 rfl rfl
theorem mI_M_other : Cond.instanceMethod yM_other ∈ jG := jG_t4 71 rfl rfl
theorem mC_M_other : Cond.code yM_other cM_other 3 (some .int) ∈ jG := jG_t4 72 rfl rfl
theorem mL_M_188 : Cond.methodLink rM 188 yM_sendMessages ∈ jG := jG_t4 73 rfl rfl
theorem mI_M_sendMessages : Cond.instanceMethod yM_sendMessages ∈ jG := jG_t4 75 rfl rfl
theorem mC_M_sendMessages : Cond.code yM_sendMessages cM_sendMessages 5 none ∈ jG := jG_t4 76 rfl rfl
theorem mL_M_175 : Cond.methodLink rM 175 yM_marked ∈ jG := jG_t4 77 rfl rfl
theorem mI_M_marked : Cond.instanceMethod yM_marked ∈ jG := jG_t4 79 rfl rfl
theorem mC_M_marked : Cond.code yM_marked cM_marked 3 (some .boolean) ∈ jG := jG_t4 80 rfl rfl
theorem mL_M_178 : Cond.methodLink rM 178 yM_hold ∈ jG := jG_t4 81 rfl rfl
theorem mI_M_hold : Cond.instanceMethod yM_hold ∈ jG := jG_t4 83 rfl rfl
theorem mC_M_hold : Cond.code yM_hold cM_hold 3 none ∈ jG := jG_t4 84 rfl rfl
theorem mL_M_191 : Cond.methodLink rM 191 yM_forget ∈ jG := jG_t4 85 rfl rfl
theorem mI_M_forget : Cond.instanceMethod yM_forget ∈ jG := jG_t4 87 rfl rfl
theorem mC_M_forget : Cond.code yM_forget cM_forget 4 none ∈ jG := jG_t4 88 rfl rfl
theorem mL_L_63 : Cond.methodLink rL 63 yM_role ∈ jG := jG_t4 89 rfl rfl
theorem mI_M_role : Cond.instanceMethod yM_role ∈ jG := jG_t4 90 rfl rfl
theorem mS_M_role : Cond.selects rM yM_role yM_role ∈ jG := jG_t4 91 rfl rfl
theorem mC_M_role : Cond.code yM_role cM_role 2 (some .int) ∈ jG := jG_t4 92 rfl rfl
theorem mL_L_67 : Cond.methodLink rL 67 yM_state ∈ jG := jG_t4 93 rfl rfl
theorem mI_M_state : Cond.instanceMethod yM_state ∈ jG := jG_t4 94 rfl rfl
theorem mS_M_state : Cond.selects rM yM_state yM_state ∈ jG := jG_t4 95 rfl rfl
theorem mC_M_state : Cond.code yM_state cM_state 2 (some .int) ∈ jG := jG_t4 96 rfl rfl
theorem mL_L_71 : Cond.methodLink rL 71 yM_root ∈ jG := jG_t4 97 rfl rfl
theorem mI_M_root : Cond.instanceMethod yM_root ∈ jG := jG_t4 98 rfl rfl
theorem mS_M_root : Cond.selects rM yM_root yM_root ∈ jG := jG_t4 99 rfl rfl
theorem mC_M_root : Cond.code yM_root cM_root 2 (some .int) ∈ jG := jG_t4 100 rfl rfl
theorem mL_L_75 : Cond.methodLink rL 75 yM_held ∈ jG := jG_t4 101 rfl rfl
theorem mI_M_held : Cond.instanceMethod yM_held ∈ jG := jG_t4 102 rfl rfl
theorem mS_M_held : Cond.selects rM yM_held yM_held ∈ jG := jG_t4 103 rfl rfl
theorem mC_M_held : Cond.code yM_held cM_held 3 (some .int) ∈ jG := jG_t4 104 rfl rfl
theorem mL_L_79 : Cond.methodLink rL 79 yM_learned ∈ jG := jG_t4 105 rfl rfl
theorem mI_M_learned : Cond.instanceMethod yM_learned ∈ jG := jG_t4 106 rfl rfl
theorem mS_M_learned : Cond.selects rM yM_learned yM_learned ∈ jG := jG_t4 107 rfl rfl
theorem mC_M_learned : Cond.code yM_learned cM_learned 4 (some .int) ∈ jG := jG_t4 108 rfl rfl
theorem mL_L_83 : Cond.methodLink rL 83 yM_entries ∈ jG := jG_t4 109 rfl rfl
theorem mI_M_entries : Cond.instanceMethod yM_entries ∈ jG := jG_t4 110 rfl rfl
theorem mS_M_entries : Cond.selects rM yM_entries yM_entries ∈ jG := jG_t4 111 rfl rfl
theorem mC_M_entries : Cond.code yM_entries cM_entries 4 (some .int) ∈ jG := jG_t4 112 rfl rfl
theorem mL_L_87 : Cond.methodLink rL 87 yM_send ∈ jG := jG_t4 113 rfl rfl
theorem mI_M_send : Cond.instanceMethod yM_send ∈ jG := jG_t4 114 rfl rfl
theorem mS_M_send : Cond.selects rM yM_send yM_send ∈ jG := jG_t4 115 rfl rfl
theorem mC_M_send : Cond.code yM_send cM_send 3 (some .int) ∈ jG := jG_t4 116 rfl rfl
theorem mL_M_220 : Cond.methodLink rM 220 yM_isHost ∈ jG := jG_t4 117 rfl rfl
theorem mI_M_isHost : Cond.instanceMethod yM_isHost ∈ jG := jG_t4 119 rfl rfl
theorem mC_M_isHost : Cond.code yM_isHost cM_isHost 2 (some .boolean) ∈ jG := jG_t4 120 rfl rfl
theorem mL_M_223 : Cond.methodLink rM 223 yM_frame ∈ jG := jG_t4 121 rfl rfl
theorem mI_M_frame : Cond.instanceMethod yM_frame ∈ jG := jG_t4 123 rfl rfl
theorem mC_M_frame : Cond.code yM_frame cM_frame 6 (some .int) ∈ jG := jG_t4 124 rfl rfl
theorem mL_M_200 : Cond.methodLink rM 200 yM_arrive ∈ jG := jG_t4 125 rfl rfl
theorem mI_M_arrive : Cond.instanceMethod yM_arrive ∈ jG := jG_t4 127 rfl rfl
theorem mC_M_arrive : Cond.code yM_arrive cM_arrive 3 none ∈ jG := jG_t4 128 rfl rfl
theorem mL_M_213 : Cond.methodLink rM 213 yM_handle ∈ jG := jG_t4 129 rfl rfl
theorem mI_M_handle : Cond.instanceMethod yM_handle ∈ jG := jG_t4 131 rfl rfl
theorem mC_M_handle : Cond.code yM_handle cM_handle 12 none ∈ jG := jG_t4 132 rfl rfl
theorem mL_M_206 : Cond.methodLink rM 206 yM_isMember ∈ jG := jG_t4 133 rfl rfl
theorem mI_M_isMember : Cond.instanceMethod yM_isMember ∈ jG := jG_t4 135 rfl rfl
theorem mC_M_isMember : Cond.code yM_isMember cM_isMember 3 (some .boolean) ∈ jG := jG_t4 136 rfl rfl
theorem mL_M_210 : Cond.methodLink rM 210 yM_goOut ∈ jG := jG_t4 137 rfl rfl
theorem mI_M_goOut : Cond.instanceMethod yM_goOut ∈ jG := jG_t4 139 rfl rfl
theorem mC_M_goOut : Cond.code yM_goOut cM_goOut 4 none ∈ jG := jG_t4 140 rfl rfl
theorem mL_L_91 : Cond.methodLink rL 91 yM_ask ∈ jG := jG_t4 141 rfl rfl
theorem mI_M_ask : Cond.instanceMethod yM_ask ∈ jG := jG_t4 142 rfl rfl
theorem mS_M_ask : Cond.selects rM yM_ask yM_ask ∈ jG := jG_t4 143 rfl rfl
theorem mC_M_ask : Cond.code yM_ask cM_ask 6 (some .int) ∈ jG := jG_t4 144 rfl rfl
theorem mL_M_227 : Cond.methodLink rM 227 yM_askNear ∈ jG := jG_t4 145 rfl rfl
theorem mI_M_askNear : Cond.instanceMethod yM_askNear ∈ jG := jG_t4 147 rfl rfl
theorem mC_M_askNear : Cond.code yM_askNear cM_askNear 3 (some .int) ∈ jG := jG_t4 148 rfl rfl
theorem mL_M_237 : Cond.methodLink rM 237 yM_reaches ∈ jG := jG_t4 149 rfl rfl
theorem mI_M_reaches : Cond.instanceMethod yM_reaches ∈ jG := jG_t4 151 rfl rfl
theorem mC_M_reaches : Cond.code yM_reaches cM_reaches 6 (some .boolean) ∈ jG := jG_t4 152 rfl rfl
theorem mL_M_231 : Cond.methodLink rM 231 yM_askFar ∈ jG := jG_t4 153 rfl rfl
theorem mI_M_askFar : Cond.instanceMethod yM_askFar ∈ jG := jG_t4 155 rfl rfl
theorem mC_M_askFar : Cond.code yM_askFar cM_askFar 5 (some .int) ∈ jG := jG_t4 156 rfl rfl
theorem mL_L_96 : Cond.methodLink rL 96 yM_answer ∈ jG := jG_t4 157 rfl rfl
theorem mI_M_answer : Cond.instanceMethod yM_answer ∈ jG := jG_t4 158 rfl rfl
theorem mS_M_answer : Cond.selects rM yM_answer yM_answer ∈ jG := jG_t4 159 rfl rfl
theorem mC_M_answer : Cond.code yM_answer cM_answer 1 (some .int) ∈ jG := jG_t4 160 rfl rfl
theorem mL_L_100 : Cond.methodLink rL 100 yM_crossings ∈ jG := jG_t4 161 rfl rfl
theorem mI_M_crossings : Cond.instanceMethod yM_crossings ∈ jG := jG_t4 162 rfl rfl
theorem mS_M_crossings : Cond.selects rM yM_crossings yM_crossings ∈ jG := jG_t4 163 rfl rfl
theorem mC_M_crossings : Cond.code yM_crossings cM_crossings 1 (some .int) ∈ jG := jG_t4 164 rfl rfl
theorem mS_T_chooseRoots : Cond.selects rT yT_chooseRoots yT_chooseRoots ∈ jG := jG_s 0 rfl rfl
theorem mS_T_bestOffer : Cond.selects rT yT_bestOffer yT_bestOffer ∈ jG := jG_s 1 rfl rfl
theorem mS_T_isOffering : Cond.selects rT yT_isOffering yT_isOffering ∈ jG := jG_s 2 rfl rfl
theorem mS_T_offerRank : Cond.selects rT yT_offerRank yT_offerRank ∈ jG := jG_s 3 rfl rfl
theorem mS_T_offeredCost : Cond.selects rT yT_offeredCost yT_offeredCost ∈ jG := jG_s 4 rfl rfl
theorem mS_T_lookAtRole : Cond.selects rT yT_lookAtRole yT_lookAtRole ∈ jG := jG_s 5 rfl rfl
theorem mS_T_roleNow : Cond.selects rT yT_roleNow yT_roleNow ∈ jG := jG_s 6 rfl rfl
theorem mS_T_messageRank : Cond.selects rT yT_messageRank yT_messageRank ∈ jG := jG_s 7 rfl rfl
theorem mS_T_stateNow : Cond.selects rT yT_stateNow yT_stateNow ∈ jG := jG_s 8 rfl rfl
theorem mS_T_ageMessages : Cond.selects rT yT_ageMessages yT_ageMessages ∈ jG := jG_s 9 rfl rfl
theorem mS_T_passNotices : Cond.selects rT yT_passNotices yT_passNotices ∈ jG := jG_s 10 rfl rfl
theorem mS_T_passNoticeOf : Cond.selects rT yT_passNoticeOf yT_passNoticeOf ∈ jG := jG_s 11 rfl rfl
theorem mS_T_sendMessages : Cond.selects rT yT_sendMessages yT_sendMessages ∈ jG := jG_s 12 rfl rfl
theorem mS_T_sendMessage : Cond.selects rT yT_sendMessage yT_sendMessage ∈ jG := jG_s 13 rfl rfl
theorem mS_T_takeMessages : Cond.selects rT yT_takeMessages yT_takeMessages ∈ jG := jG_s 14 rfl rfl
theorem mS_N_forgetOldEntries : Cond.selects rN yN_forgetOldEntries yN_forgetOldEntries ∈ jG := jG_s 15 rfl rfl
theorem mS_N_isDestination : Cond.selects rN yN_isDestination yN_isDestination ∈ jG := jG_s 16 rfl rfl
theorem mS_K_carry : Cond.selects rK yK_carry yK_carry ∈ jG := jG_s 17 rfl rfl
theorem mS_K_handleArrival : Cond.selects rK yK_handleArrival yK_handleArrival ∈ jG := jG_s 18 rfl rfl
theorem mS_K_forward : Cond.selects rK yK_forward yK_forward ∈ jG := jG_s 19 rfl rfl
theorem mS_K_goOut : Cond.selects rK yK_goOut yK_goOut ∈ jG := jG_s 20 rfl rfl
theorem mS_N_routedStep : Cond.selects rN yN_routedStep yN_routedStep ∈ jG := jG_s 21 rfl rfl
theorem mS_N_directStep : Cond.selects rN yN_directStep yN_directStep ∈ jG := jG_s 22 rfl rfl
theorem mS_M_look : Cond.selects rM yM_look yM_look ∈ jG := jG_s 23 rfl rfl
theorem mS_M_roleOf : Cond.selects rM yM_roleOf yM_roleOf ∈ jG := jG_s 24 rfl rfl
theorem mS_M_isUp : Cond.selects rM yM_isUp yM_isUp ∈ jG := jG_s 25 rfl rfl
theorem mS_M_rootPort : Cond.selects rM yM_rootPort yM_rootPort ∈ jG := jG_s 26 rfl rfl
theorem mS_M_id : Cond.selects rM yM_id yM_id ∈ jG := jG_s 27 rfl rfl
theorem mS_M_rootOf : Cond.selects rM yM_rootOf yM_rootOf ∈ jG := jG_s 28 rfl rfl
theorem mS_M_distance : Cond.selects rM yM_distance yM_distance ∈ jG := jG_s 29 rfl rfl
theorem mS_M_stateOf : Cond.selects rM yM_stateOf yM_stateOf ∈ jG := jG_s 30 rfl rfl
theorem mS_M_isFree : Cond.selects rM yM_isFree yM_isFree ∈ jG := jG_s 31 rfl rfl
theorem mS_M_isPlace : Cond.selects rM yM_isPlace yM_isPlace ∈ jG := jG_s 32 rfl rfl
theorem mS_M_put : Cond.selects rM yM_put yM_put ∈ jG := jG_s 33 rfl rfl
theorem mS_M_age : Cond.selects rM yM_age yM_age ∈ jG := jG_s 34 rfl rfl
theorem mS_M_passNotices : Cond.selects rM yM_passNotices yM_passNotices ∈ jG := jG_s 35 rfl rfl
theorem mS_M_other : Cond.selects rM yM_other yM_other ∈ jG := jG_s 36 rfl rfl
theorem mS_M_sendMessages : Cond.selects rM yM_sendMessages yM_sendMessages ∈ jG := jG_s 37 rfl rfl
theorem mS_M_marked : Cond.selects rM yM_marked yM_marked ∈ jG := jG_s 38 rfl rfl
theorem mS_M_hold : Cond.selects rM yM_hold yM_hold ∈ jG := jG_s 39 rfl rfl
theorem mS_M_forget : Cond.selects rM yM_forget yM_forget ∈ jG := jG_s 40 rfl rfl
theorem mS_M_isHost : Cond.selects rM yM_isHost yM_isHost ∈ jG := jG_s 41 rfl rfl
theorem mS_M_frame : Cond.selects rM yM_frame yM_frame ∈ jG := jG_s 42 rfl rfl
theorem mS_M_arrive : Cond.selects rM yM_arrive yM_arrive ∈ jG := jG_s 43 rfl rfl
theorem mS_M_handle : Cond.selects rM yM_handle yM_handle ∈ jG := jG_s 44 rfl rfl
theorem mS_M_isMember : Cond.selects rM yM_isMember yM_isMember ∈ jG := jG_s 45 rfl rfl
theorem mS_M_goOut : Cond.selects rM yM_goOut yM_goOut ∈ jG := jG_s 46 rfl rfl
theorem mS_M_askNear : Cond.selects rM yM_askNear yM_askNear ∈ jG := jG_s 47 rfl rfl
theorem mS_M_reaches : Cond.selects rM yM_reaches yM_reaches ∈ jG := jG_s 48 rfl rfl
theorem mS_M_askFar : Cond.selects rM yM_askFar yM_askFar ∈ jG := jG_s 49 rfl rfl
set_option maxRecDepth 20000 in
theorem inN : ∀ w ∈ u_ws rN tN 7, w ∈ jG := by decide +kernel
set_option maxRecDepth 20000 in
theorem inP : ∀ w ∈ u_ws rP tP 13, w ∈ jG := by decide +kernel
set_option maxRecDepth 20000 in
theorem inW : ∀ w ∈ u_ws rW tW 3, w ∈ jG := by decide +kernel
set_option maxRecDepth 20000 in
theorem inT : ∀ w ∈ u_ws rT tT 17, w ∈ jG := by decide +kernel
set_option maxRecDepth 20000 in
theorem inB : ∀ w ∈ u_ws rB tB 2, w ∈ jG := by decide +kernel
set_option maxRecDepth 20000 in
theorem inK : ∀ w ∈ u_ws rK tK 12, w ∈ jG := by decide +kernel
set_option maxRecDepth 20000 in
theorem inM : ∀ w ∈ u_ws rM tM 42, w ∈ jG := by decide +kernel
def jNest : List Cond := [.methodLinkNest rP 59 yN_isWithin rN]
theorem jNest_kind : ∀ w ∈ jNest, (∃ a i x g, w = Cond.methodLinkNest a i x g) ∨ ∃ a i b n d g, w = Cond.fieldLinkNest a i b n d g := by
  intro w hw
  rw [List.mem_singleton.mp hw]
  exact Or.inl ⟨_, _, _, _, rfl⟩
end
section
/-! what each instruction is, by program -/
theorem dP_init_0 : decode cP_init 0 = .ok (.aload_n 0, 1) := by decide +kernel
theorem dP_init_1 : decode cP_init 1 = .ok (.invokespecial 3, 3) := by decide +kernel
theorem dP_init_4 : decode cP_init 4 = .ok (.aload_n 0, 1) := by decide +kernel
theorem dP_init_5 : decode cP_init 5 = .ok (.bipush 6, 2) := by decide +kernel
theorem dP_init_7 : decode cP_init 7 = .ok (.newarray .int, 2) := by decide +kernel
theorem dP_init_9 : decode cP_init 9 = .ok (.putfield 9, 3) := by decide +kernel
theorem dP_init_12 : decode cP_init 12 = .ok (.aload_n 0, 1) := by decide +kernel
theorem dP_init_13 : decode cP_init 13 = .ok (.bipush 10, 2) := by decide +kernel
theorem dP_init_15 : decode cP_init 15 = .ok (.newarray .int, 2) := by decide +kernel
theorem dP_init_17 : decode cP_init 17 = .ok (.putfield 15, 3) := by decide +kernel
theorem dP_init_20 : decode cP_init 20 = .ok (.aload_n 0, 1) := by decide +kernel
theorem dP_init_21 : decode cP_init 21 = .ok (.bipush 10, 2) := by decide +kernel
theorem dP_init_23 : decode cP_init 23 = .ok (.newarray .int, 2) := by decide +kernel
theorem dP_init_25 : decode cP_init 25 = .ok (.putfield 18, 3) := by decide +kernel
theorem dP_init_28 : decode cP_init 28 = .ok (.aload_n 0, 1) := by decide +kernel
theorem dP_init_29 : decode cP_init 29 = .ok (.bipush 10, 2) := by decide +kernel
theorem dP_init_31 : decode cP_init 31 = .ok (.newarray .boolean, 2) := by decide +kernel
theorem dP_init_33 : decode cP_init 33 = .ok (.putfield 21, 3) := by decide +kernel
theorem dP_init_36 : decode cP_init 36 = .ok (.aload_n 0, 1) := by decide +kernel
theorem dP_init_37 : decode cP_init 37 = .ok (.bipush 6, 2) := by decide +kernel
theorem dP_init_39 : decode cP_init 39 = .ok (.newarray .int, 2) := by decide +kernel
theorem dP_init_41 : decode cP_init 41 = .ok (.putfield 25, 3) := by decide +kernel
theorem dP_init_44 : decode cP_init 44 = .ok (.aload_n 0, 1) := by decide +kernel
theorem dP_init_45 : decode cP_init 45 = .ok (.bipush 6, 2) := by decide +kernel
theorem dP_init_47 : decode cP_init 47 = .ok (.newarray .int, 2) := by decide +kernel
theorem dP_init_49 : decode cP_init 49 = .ok (.putfield 28, 3) := by decide +kernel
theorem dP_init_52 : decode cP_init 52 = .ok (.aload_n 0, 1) := by decide +kernel
theorem dP_init_53 : decode cP_init 53 = .ok (.iconst (-1), 1) := by decide +kernel
theorem dP_init_54 : decode cP_init 54 = .ok (.putfield 31, 3) := by decide +kernel
theorem dP_init_57 : decode cP_init 57 = .ok (.aload_n 0, 1) := by decide +kernel
theorem dP_init_58 : decode cP_init 58 = .ok (.bipush 24, 2) := by decide +kernel
theorem dP_init_60 : decode cP_init 60 = .ok (.newarray .int, 2) := by decide +kernel
theorem dP_init_62 : decode cP_init 62 = .ok (.putfield 35, 3) := by decide +kernel
theorem dP_init_65 : decode cP_init 65 = .ok (.aload_n 0, 1) := by decide +kernel
theorem dP_init_66 : decode cP_init 66 = .ok (.bipush 24, 2) := by decide +kernel
theorem dP_init_68 : decode cP_init 68 = .ok (.newarray .int, 2) := by decide +kernel
theorem dP_init_70 : decode cP_init 70 = .ok (.putfield 38, 3) := by decide +kernel
theorem dP_init_73 : decode cP_init 73 = .ok (.aload_n 0, 1) := by decide +kernel
theorem dP_init_74 : decode cP_init 74 = .ok (.bipush 24, 2) := by decide +kernel
theorem dP_init_76 : decode cP_init 76 = .ok (.newarray .int, 2) := by decide +kernel
theorem dP_init_78 : decode cP_init 78 = .ok (.putfield 41, 3) := by decide +kernel
theorem dP_init_81 : decode cP_init 81 = .ok (.aload_n 0, 1) := by decide +kernel
theorem dP_init_82 : decode cP_init 82 = .ok (.getfield 35, 3) := by decide +kernel
theorem dP_init_85 : decode cP_init 85 = .ok (.iconst (-1), 1) := by decide +kernel
theorem dP_init_86 : decode cP_init 86 = .ok (.invokestatic 44, 3) := by decide +kernel
theorem dP_init_89 : decode cP_init 89 = .ok (.aload_n 0, 1) := by decide +kernel
theorem dP_init_90 : decode cP_init 90 = .ok (.getfield 38, 3) := by decide +kernel
theorem dP_init_93 : decode cP_init 93 = .ok (.iconst (-1), 1) := by decide +kernel
theorem dP_init_94 : decode cP_init 94 = .ok (.invokestatic 44, 3) := by decide +kernel
theorem dP_init_97 : decode cP_init 97 = .ok (.aload_n 0, 1) := by decide +kernel
theorem dP_init_98 : decode cP_init 98 = .ok (.getfield 41, 3) := by decide +kernel
theorem dP_init_101 : decode cP_init 101 = .ok (.iconst (-1), 1) := by decide +kernel
theorem dP_init_102 : decode cP_init 102 = .ok (.invokestatic 44, 3) := by decide +kernel
theorem dP_init_105 : decode cP_init 105 = .ok (.return_, 1) := by decide +kernel
theorem dP_addBridge_0 : decode cP_addBridge 0 = .ok (.aload_n 0, 1) := by decide +kernel
theorem dP_addBridge_1 : decode cP_addBridge 1 = .ok (.getfield 50, 3) := by decide +kernel
theorem dP_addBridge_4 : decode cP_addBridge 4 = .ok (.istore_n 2, 1) := by decide +kernel
theorem dP_addBridge_5 : decode cP_addBridge 5 = .ok (.aload_n 0, 1) := by decide +kernel
theorem dP_addBridge_6 : decode cP_addBridge 6 = .ok (.getfield 9, 3) := by decide +kernel
theorem dP_addBridge_9 : decode cP_addBridge 9 = .ok (.iload_n 2, 1) := by decide +kernel
theorem dP_addBridge_10 : decode cP_addBridge 10 = .ok (.bipush 8, 2) := by decide +kernel
theorem dP_addBridge_12 : decode cP_addBridge 12 = .ok (.iload_n 1, 1) := by decide +kernel
theorem dP_addBridge_13 : decode cP_addBridge 13 = .ok (.imul, 1) := by decide +kernel
theorem dP_addBridge_14 : decode cP_addBridge 14 = .ok (.iload_n 2, 1) := by decide +kernel
theorem dP_addBridge_15 : decode cP_addBridge 15 = .ok (.iadd, 1) := by decide +kernel
theorem dP_addBridge_16 : decode cP_addBridge 16 = .ok (.iastore, 1) := by decide +kernel
theorem dP_addBridge_17 : decode cP_addBridge 17 = .ok (.aload_n 0, 1) := by decide +kernel
theorem dP_addBridge_18 : decode cP_addBridge 18 = .ok (.dup, 1) := by decide +kernel
theorem dP_addBridge_19 : decode cP_addBridge 19 = .ok (.getfield 50, 3) := by decide +kernel
theorem dP_addBridge_22 : decode cP_addBridge 22 = .ok (.iconst 1, 1) := by decide +kernel
theorem dP_addBridge_23 : decode cP_addBridge 23 = .ok (.iadd, 1) := by decide +kernel
theorem dP_addBridge_24 : decode cP_addBridge 24 = .ok (.putfield 50, 3) := by decide +kernel
theorem dP_addBridge_27 : decode cP_addBridge 27 = .ok (.iload_n 2, 1) := by decide +kernel
theorem dP_addBridge_28 : decode cP_addBridge 28 = .ok (.ireturn, 1) := by decide +kernel
theorem dP_addWire_0 : decode cP_addWire 0 = .ok (.aload_n 0, 1) := by decide +kernel
theorem dP_addWire_1 : decode cP_addWire 1 = .ok (.getfield 53, 3) := by decide +kernel
theorem dP_addWire_4 : decode cP_addWire 4 = .ok (.istore 4, 2) := by decide +kernel
theorem dP_addWire_6 : decode cP_addWire 6 = .ok (.aload_n 0, 1) := by decide +kernel
theorem dP_addWire_7 : decode cP_addWire 7 = .ok (.getfield 15, 3) := by decide +kernel
theorem dP_addWire_10 : decode cP_addWire 10 = .ok (.iload 4, 2) := by decide +kernel
theorem dP_addWire_12 : decode cP_addWire 12 = .ok (.iload_n 1, 1) := by decide +kernel
theorem dP_addWire_13 : decode cP_addWire 13 = .ok (.iastore, 1) := by decide +kernel
theorem dP_addWire_14 : decode cP_addWire 14 = .ok (.aload_n 0, 1) := by decide +kernel
theorem dP_addWire_15 : decode cP_addWire 15 = .ok (.getfield 18, 3) := by decide +kernel
theorem dP_addWire_18 : decode cP_addWire 18 = .ok (.iload 4, 2) := by decide +kernel
theorem dP_addWire_20 : decode cP_addWire 20 = .ok (.iload_n 3, 1) := by decide +kernel
theorem dP_addWire_21 : decode cP_addWire 21 = .ok (.iastore, 1) := by decide +kernel
theorem dP_addWire_22 : decode cP_addWire 22 = .ok (.aload_n 0, 1) := by decide +kernel
theorem dP_addWire_23 : decode cP_addWire 23 = .ok (.getfield 35, 3) := by decide +kernel
theorem dP_addWire_26 : decode cP_addWire 26 = .ok (.iload_n 1, 1) := by decide +kernel
theorem dP_addWire_27 : decode cP_addWire 27 = .ok (.iload 4, 2) := by decide +kernel
theorem dP_addWire_29 : decode cP_addWire 29 = .ok (.iastore, 1) := by decide +kernel
theorem dP_addWire_30 : decode cP_addWire 30 = .ok (.aload_n 0, 1) := by decide +kernel
theorem dP_addWire_31 : decode cP_addWire 31 = .ok (.getfield 35, 3) := by decide +kernel
theorem dP_addWire_34 : decode cP_addWire 34 = .ok (.iload_n 2, 1) := by decide +kernel
theorem dP_addWire_35 : decode cP_addWire 35 = .ok (.iload 4, 2) := by decide +kernel
theorem dP_addWire_37 : decode cP_addWire 37 = .ok (.iastore, 1) := by decide +kernel
theorem dP_addWire_38 : decode cP_addWire 38 = .ok (.aload_n 0, 1) := by decide +kernel
theorem dP_addWire_39 : decode cP_addWire 39 = .ok (.getfield 38, 3) := by decide +kernel
theorem dP_addWire_42 : decode cP_addWire 42 = .ok (.iload_n 1, 1) := by decide +kernel
theorem dP_addWire_43 : decode cP_addWire 43 = .ok (.iload_n 2, 1) := by decide +kernel
theorem dP_addWire_44 : decode cP_addWire 44 = .ok (.iastore, 1) := by decide +kernel
theorem dP_addWire_45 : decode cP_addWire 45 = .ok (.aload_n 0, 1) := by decide +kernel
theorem dP_addWire_46 : decode cP_addWire 46 = .ok (.getfield 38, 3) := by decide +kernel
theorem dP_addWire_49 : decode cP_addWire 49 = .ok (.iload_n 2, 1) := by decide +kernel
theorem dP_addWire_50 : decode cP_addWire 50 = .ok (.iload_n 1, 1) := by decide +kernel
theorem dP_addWire_51 : decode cP_addWire 51 = .ok (.iastore, 1) := by decide +kernel
theorem dP_addWire_52 : decode cP_addWire 52 = .ok (.aload_n 0, 1) := by decide +kernel
theorem dP_addWire_53 : decode cP_addWire 53 = .ok (.dup, 1) := by decide +kernel
theorem dP_addWire_54 : decode cP_addWire 54 = .ok (.getfield 53, 3) := by decide +kernel
theorem dP_addWire_57 : decode cP_addWire 57 = .ok (.iconst 1, 1) := by decide +kernel
theorem dP_addWire_58 : decode cP_addWire 58 = .ok (.iadd, 1) := by decide +kernel
theorem dP_addWire_59 : decode cP_addWire 59 = .ok (.putfield 53, 3) := by decide +kernel
theorem dP_addWire_62 : decode cP_addWire 62 = .ok (.iload 4, 2) := by decide +kernel
theorem dP_addWire_64 : decode cP_addWire 64 = .ok (.ireturn, 1) := by decide +kernel
theorem dP_addHost_0 : decode cP_addHost 0 = .ok (.aload_n 0, 1) := by decide +kernel
theorem dP_addHost_1 : decode cP_addHost 1 = .ok (.getfield 56, 3) := by decide +kernel
theorem dP_addHost_4 : decode cP_addHost 4 = .ok (.istore_n 3, 1) := by decide +kernel
theorem dP_addHost_5 : decode cP_addHost 5 = .ok (.aload_n 0, 1) := by decide +kernel
theorem dP_addHost_6 : decode cP_addHost 6 = .ok (.getfield 25, 3) := by decide +kernel
theorem dP_addHost_9 : decode cP_addHost 9 = .ok (.iload_n 3, 1) := by decide +kernel
theorem dP_addHost_10 : decode cP_addHost 10 = .ok (.iload_n 1, 1) := by decide +kernel
theorem dP_addHost_11 : decode cP_addHost 11 = .ok (.iastore, 1) := by decide +kernel
theorem dP_addHost_12 : decode cP_addHost 12 = .ok (.aload_n 0, 1) := by decide +kernel
theorem dP_addHost_13 : decode cP_addHost 13 = .ok (.getfield 28, 3) := by decide +kernel
theorem dP_addHost_16 : decode cP_addHost 16 = .ok (.iload_n 3, 1) := by decide +kernel
theorem dP_addHost_17 : decode cP_addHost 17 = .ok (.iload_n 2, 1) := by decide +kernel
theorem dP_addHost_18 : decode cP_addHost 18 = .ok (.iastore, 1) := by decide +kernel
theorem dP_addHost_19 : decode cP_addHost 19 = .ok (.aload_n 0, 1) := by decide +kernel
theorem dP_addHost_20 : decode cP_addHost 20 = .ok (.getfield 41, 3) := by decide +kernel
theorem dP_addHost_23 : decode cP_addHost 23 = .ok (.iload_n 1, 1) := by decide +kernel
theorem dP_addHost_24 : decode cP_addHost 24 = .ok (.iload_n 3, 1) := by decide +kernel
theorem dP_addHost_25 : decode cP_addHost 25 = .ok (.iastore, 1) := by decide +kernel
theorem dP_addHost_26 : decode cP_addHost 26 = .ok (.aload_n 0, 1) := by decide +kernel
theorem dP_addHost_27 : decode cP_addHost 27 = .ok (.dup, 1) := by decide +kernel
theorem dP_addHost_28 : decode cP_addHost 28 = .ok (.getfield 56, 3) := by decide +kernel
theorem dP_addHost_31 : decode cP_addHost 31 = .ok (.iconst 1, 1) := by decide +kernel
theorem dP_addHost_32 : decode cP_addHost 32 = .ok (.iadd, 1) := by decide +kernel
theorem dP_addHost_33 : decode cP_addHost 33 = .ok (.putfield 56, 3) := by decide +kernel
theorem dP_addHost_36 : decode cP_addHost 36 = .ok (.iload_n 3, 1) := by decide +kernel
theorem dP_addHost_37 : decode cP_addHost 37 = .ok (.ireturn, 1) := by decide +kernel
theorem dP_addRouter_0 : decode cP_addRouter 0 = .ok (.aload_n 0, 1) := by decide +kernel
theorem dP_addRouter_1 : decode cP_addRouter 1 = .ok (.iload_n 1, 1) := by decide +kernel
theorem dP_addRouter_2 : decode cP_addRouter 2 = .ok (.putfield 31, 3) := by decide +kernel
theorem dP_addRouter_5 : decode cP_addRouter 5 = .ok (.aload_n 0, 1) := by decide +kernel
theorem dP_addRouter_6 : decode cP_addRouter 6 = .ok (.getfield 41, 3) := by decide +kernel
theorem dP_addRouter_9 : decode cP_addRouter 9 = .ok (.iload_n 1, 1) := by decide +kernel
theorem dP_addRouter_10 : decode cP_addRouter 10 = .ok (.bipush 6, 2) := by decide +kernel
theorem dP_addRouter_12 : decode cP_addRouter 12 = .ok (.iastore, 1) := by decide +kernel
theorem dP_addRouter_13 : decode cP_addRouter 13 = .ok (.return_, 1) := by decide +kernel
theorem dP_isBridge_0 : decode cP_isBridge 0 = .ok (.iload_n 1, 1) := by decide +kernel
theorem dP_isBridge_1 : decode cP_isBridge 1 = .ok (.iconst 0, 1) := by decide +kernel
theorem dP_isBridge_2 : decode cP_isBridge 2 = .ok (.aload_n 0, 1) := by decide +kernel
theorem dP_isBridge_3 : decode cP_isBridge 3 = .ok (.getfield 50, 3) := by decide +kernel
theorem dP_isBridge_6 : decode cP_isBridge 6 = .ok (.iconst 1, 1) := by decide +kernel
theorem dP_isBridge_7 : decode cP_isBridge 7 = .ok (.isub, 1) := by decide +kernel
theorem dP_isBridge_8 : decode cP_isBridge 8 = .ok (.invokestatic 59, 3) := by decide +kernel
theorem dP_isBridge_11 : decode cP_isBridge 11 = .ok (.ireturn, 1) := by decide +kernel
theorem dP_isPlace_0 : decode cP_isPlace 0 = .ok (.iload_n 1, 1) := by decide +kernel
theorem dP_isPlace_1 : decode cP_isPlace 1 = .ok (.iconst 0, 1) := by decide +kernel
theorem dP_isPlace_2 : decode cP_isPlace 2 = .ok (.iconst 4, 1) := by decide +kernel
theorem dP_isPlace_3 : decode cP_isPlace 3 = .ok (.aload_n 0, 1) := by decide +kernel
theorem dP_isPlace_4 : decode cP_isPlace 4 = .ok (.getfield 50, 3) := by decide +kernel
theorem dP_isPlace_7 : decode cP_isPlace 7 = .ok (.imul, 1) := by decide +kernel
theorem dP_isPlace_8 : decode cP_isPlace 8 = .ok (.iconst 1, 1) := by decide +kernel
theorem dP_isPlace_9 : decode cP_isPlace 9 = .ok (.isub, 1) := by decide +kernel
theorem dP_isPlace_10 : decode cP_isPlace 10 = .ok (.invokestatic 59, 3) := by decide +kernel
theorem dP_isPlace_13 : decode cP_isPlace 13 = .ok (.ireturn, 1) := by decide +kernel
theorem dP_isFree_0 : decode cP_isFree 0 = .ok (.aload_n 0, 1) := by decide +kernel
theorem dP_isFree_1 : decode cP_isFree 1 = .ok (.iload_n 1, 1) := by decide +kernel
theorem dP_isFree_2 : decode cP_isFree 2 = .ok (.invokevirtual 63, 3) := by decide +kernel
theorem dP_isFree_5 : decode cP_isFree 5 = .ok (.ifCond .eq 27, 3) := by decide +kernel
theorem dP_isFree_8 : decode cP_isFree 8 = .ok (.aload_n 0, 1) := by decide +kernel
theorem dP_isFree_9 : decode cP_isFree 9 = .ok (.getfield 35, 3) := by decide +kernel
theorem dP_isFree_12 : decode cP_isFree 12 = .ok (.iload_n 1, 1) := by decide +kernel
theorem dP_isFree_13 : decode cP_isFree 13 = .ok (.iaload, 1) := by decide +kernel
theorem dP_isFree_14 : decode cP_isFree 14 = .ok (.iconst (-1), 1) := by decide +kernel
theorem dP_isFree_15 : decode cP_isFree 15 = .ok (.if_icmp .ne 17, 3) := by decide +kernel
theorem dP_isFree_18 : decode cP_isFree 18 = .ok (.aload_n 0, 1) := by decide +kernel
theorem dP_isFree_19 : decode cP_isFree 19 = .ok (.getfield 41, 3) := by decide +kernel
theorem dP_isFree_22 : decode cP_isFree 22 = .ok (.iload_n 1, 1) := by decide +kernel
theorem dP_isFree_23 : decode cP_isFree 23 = .ok (.iaload, 1) := by decide +kernel
theorem dP_isFree_24 : decode cP_isFree 24 = .ok (.iconst (-1), 1) := by decide +kernel
theorem dP_isFree_25 : decode cP_isFree 25 = .ok (.if_icmp .ne 7, 3) := by decide +kernel
theorem dP_isFree_28 : decode cP_isFree 28 = .ok (.iconst 1, 1) := by decide +kernel
theorem dP_isFree_29 : decode cP_isFree 29 = .ok (.goto 4, 3) := by decide +kernel
theorem dP_isFree_32 : decode cP_isFree 32 = .ok (.iconst 0, 1) := by decide +kernel
theorem dP_isFree_33 : decode cP_isFree 33 = .ok (.ireturn, 1) := by decide +kernel
theorem dP_isHost_0 : decode cP_isHost 0 = .ok (.iload_n 1, 1) := by decide +kernel
theorem dP_isHost_1 : decode cP_isHost 1 = .ok (.iconst 0, 1) := by decide +kernel
theorem dP_isHost_2 : decode cP_isHost 2 = .ok (.aload_n 0, 1) := by decide +kernel
theorem dP_isHost_3 : decode cP_isHost 3 = .ok (.getfield 56, 3) := by decide +kernel
theorem dP_isHost_6 : decode cP_isHost 6 = .ok (.iconst 1, 1) := by decide +kernel
theorem dP_isHost_7 : decode cP_isHost 7 = .ok (.isub, 1) := by decide +kernel
theorem dP_isHost_8 : decode cP_isHost 8 = .ok (.invokestatic 59, 3) := by decide +kernel
theorem dP_isHost_11 : decode cP_isHost 11 = .ok (.ireturn, 1) := by decide +kernel
theorem dP_hasRouter_0 : decode cP_hasRouter 0 = .ok (.aload_n 0, 1) := by decide +kernel
theorem dP_hasRouter_1 : decode cP_hasRouter 1 = .ok (.getfield 31, 3) := by decide +kernel
theorem dP_hasRouter_4 : decode cP_hasRouter 4 = .ok (.iconst (-1), 1) := by decide +kernel
theorem dP_hasRouter_5 : decode cP_hasRouter 5 = .ok (.if_icmp .eq 7, 3) := by decide +kernel
theorem dP_hasRouter_8 : decode cP_hasRouter 8 = .ok (.iconst 1, 1) := by decide +kernel
theorem dP_hasRouter_9 : decode cP_hasRouter 9 = .ok (.goto 4, 3) := by decide +kernel
theorem dP_hasRouter_12 : decode cP_hasRouter 12 = .ok (.iconst 0, 1) := by decide +kernel
theorem dP_hasRouter_13 : decode cP_hasRouter 13 = .ok (.ireturn, 1) := by decide +kernel
theorem dP_hasWholeWire_0 : decode cP_hasWholeWire 0 = .ok (.aload_n 0, 1) := by decide +kernel
theorem dP_hasWholeWire_1 : decode cP_hasWholeWire 1 = .ok (.getfield 35, 3) := by decide +kernel
theorem dP_hasWholeWire_4 : decode cP_hasWholeWire 4 = .ok (.iload_n 1, 1) := by decide +kernel
theorem dP_hasWholeWire_5 : decode cP_hasWholeWire 5 = .ok (.iaload, 1) := by decide +kernel
theorem dP_hasWholeWire_6 : decode cP_hasWholeWire 6 = .ok (.iconst (-1), 1) := by decide +kernel
theorem dP_hasWholeWire_7 : decode cP_hasWholeWire 7 = .ok (.if_icmp .eq 21, 3) := by decide +kernel
theorem dP_hasWholeWire_10 : decode cP_hasWholeWire 10 = .ok (.aload_n 0, 1) := by decide +kernel
theorem dP_hasWholeWire_11 : decode cP_hasWholeWire 11 = .ok (.getfield 21, 3) := by decide +kernel
theorem dP_hasWholeWire_14 : decode cP_hasWholeWire 14 = .ok (.aload_n 0, 1) := by decide +kernel
theorem dP_hasWholeWire_15 : decode cP_hasWholeWire 15 = .ok (.getfield 35, 3) := by decide +kernel
theorem dP_hasWholeWire_18 : decode cP_hasWholeWire 18 = .ok (.iload_n 1, 1) := by decide +kernel
theorem dP_hasWholeWire_19 : decode cP_hasWholeWire 19 = .ok (.iaload, 1) := by decide +kernel
theorem dP_hasWholeWire_20 : decode cP_hasWholeWire 20 = .ok (.baload, 1) := by decide +kernel
theorem dP_hasWholeWire_21 : decode cP_hasWholeWire 21 = .ok (.ifCond .ne 7, 3) := by decide +kernel
theorem dP_hasWholeWire_24 : decode cP_hasWholeWire 24 = .ok (.iconst 1, 1) := by decide +kernel
theorem dP_hasWholeWire_25 : decode cP_hasWholeWire 25 = .ok (.goto 4, 3) := by decide +kernel
theorem dP_hasWholeWire_28 : decode cP_hasWholeWire 28 = .ok (.iconst 0, 1) := by decide +kernel
theorem dP_hasWholeWire_29 : decode cP_hasWholeWire 29 = .ok (.ireturn, 1) := by decide +kernel
theorem dP_isUp_0 : decode cP_isUp 0 = .ok (.aload_n 0, 1) := by decide +kernel
theorem dP_isUp_1 : decode cP_isUp 1 = .ok (.getfield 41, 3) := by decide +kernel
theorem dP_isUp_4 : decode cP_isUp 4 = .ok (.iload_n 1, 1) := by decide +kernel
theorem dP_isUp_5 : decode cP_isUp 5 = .ok (.iaload, 1) := by decide +kernel
theorem dP_isUp_6 : decode cP_isUp 6 = .ok (.iconst (-1), 1) := by decide +kernel
theorem dP_isUp_7 : decode cP_isUp 7 = .ok (.if_icmp .ne 11, 3) := by decide +kernel
theorem dP_isUp_10 : decode cP_isUp 10 = .ok (.aload_n 0, 1) := by decide +kernel
theorem dP_isUp_11 : decode cP_isUp 11 = .ok (.iload_n 1, 1) := by decide +kernel
theorem dP_isUp_12 : decode cP_isUp 12 = .ok (.invokevirtual 67, 3) := by decide +kernel
theorem dP_isUp_15 : decode cP_isUp 15 = .ok (.ifCond .eq 7, 3) := by decide +kernel
theorem dP_isUp_18 : decode cP_isUp 18 = .ok (.iconst 1, 1) := by decide +kernel
theorem dP_isUp_19 : decode cP_isUp 19 = .ok (.goto 4, 3) := by decide +kernel
theorem dP_isUp_22 : decode cP_isUp 22 = .ok (.iconst 0, 1) := by decide +kernel
theorem dP_isUp_23 : decode cP_isUp 23 = .ok (.ireturn, 1) := by decide +kernel
theorem dW_init_0 : decode cW_init 0 = .ok (.aload_n 0, 1) := by decide +kernel
theorem dW_init_1 : decode cW_init 1 = .ok (.invokespecial 3, 3) := by decide +kernel
theorem dW_init_4 : decode cW_init 4 = .ok (.aload_n 0, 1) := by decide +kernel
theorem dW_init_5 : decode cW_init 5 = .ok (.bipush 24, 2) := by decide +kernel
theorem dW_init_7 : decode cW_init 7 = .ok (.newarray .int, 2) := by decide +kernel
theorem dW_init_9 : decode cW_init 9 = .ok (.putfield 9, 3) := by decide +kernel
theorem dW_init_12 : decode cW_init 12 = .ok (.aload_n 0, 1) := by decide +kernel
theorem dW_init_13 : decode cW_init 13 = .ok (.bipush 24, 2) := by decide +kernel
theorem dW_init_15 : decode cW_init 15 = .ok (.newarray .int, 2) := by decide +kernel
theorem dW_init_17 : decode cW_init 17 = .ok (.putfield 15, 3) := by decide +kernel
theorem dW_init_20 : decode cW_init 20 = .ok (.aload_n 0, 1) := by decide +kernel
theorem dW_init_21 : decode cW_init 21 = .ok (.bipush 24, 2) := by decide +kernel
theorem dW_init_23 : decode cW_init 23 = .ok (.newarray .boolean, 2) := by decide +kernel
theorem dW_init_25 : decode cW_init 25 = .ok (.putfield 18, 3) := by decide +kernel
theorem dW_init_28 : decode cW_init 28 = .ok (.aload_n 0, 1) := by decide +kernel
theorem dW_init_29 : decode cW_init 29 = .ok (.getfield 15, 3) := by decide +kernel
theorem dW_init_32 : decode cW_init 32 = .ok (.iconst 1, 1) := by decide +kernel
theorem dW_init_33 : decode cW_init 33 = .ok (.invokestatic 22, 3) := by decide +kernel
theorem dW_init_36 : decode cW_init 36 = .ok (.return_, 1) := by decide +kernel
theorem dW_makeAccess_0 : decode cW_makeAccess 0 = .ok (.aload_n 0, 1) := by decide +kernel
theorem dW_makeAccess_1 : decode cW_makeAccess 1 = .ok (.getfield 9, 3) := by decide +kernel
theorem dW_makeAccess_4 : decode cW_makeAccess 4 = .ok (.iload_n 1, 1) := by decide +kernel
theorem dW_makeAccess_5 : decode cW_makeAccess 5 = .ok (.iload_n 2, 1) := by decide +kernel
theorem dW_makeAccess_6 : decode cW_makeAccess 6 = .ok (.iastore, 1) := by decide +kernel
theorem dW_makeAccess_7 : decode cW_makeAccess 7 = .ok (.aload_n 0, 1) := by decide +kernel
theorem dW_makeAccess_8 : decode cW_makeAccess 8 = .ok (.getfield 15, 3) := by decide +kernel
theorem dW_makeAccess_11 : decode cW_makeAccess 11 = .ok (.iload_n 1, 1) := by decide +kernel
theorem dW_makeAccess_12 : decode cW_makeAccess 12 = .ok (.iconst 1, 1) := by decide +kernel
theorem dW_makeAccess_13 : decode cW_makeAccess 13 = .ok (.iload_n 2, 1) := by decide +kernel
theorem dW_makeAccess_14 : decode cW_makeAccess 14 = .ok (.ishl, 1) := by decide +kernel
theorem dW_makeAccess_15 : decode cW_makeAccess 15 = .ok (.iastore, 1) := by decide +kernel
theorem dW_makeAccess_16 : decode cW_makeAccess 16 = .ok (.aload_n 0, 1) := by decide +kernel
theorem dW_makeAccess_17 : decode cW_makeAccess 17 = .ok (.getfield 18, 3) := by decide +kernel
theorem dW_makeAccess_20 : decode cW_makeAccess 20 = .ok (.iload_n 1, 1) := by decide +kernel
theorem dW_makeAccess_21 : decode cW_makeAccess 21 = .ok (.iconst 0, 1) := by decide +kernel
theorem dW_makeAccess_22 : decode cW_makeAccess 22 = .ok (.bastore, 1) := by decide +kernel
theorem dW_makeAccess_23 : decode cW_makeAccess 23 = .ok (.return_, 1) := by decide +kernel
theorem dW_makeTrunk_0 : decode cW_makeTrunk 0 = .ok (.aload_n 0, 1) := by decide +kernel
theorem dW_makeTrunk_1 : decode cW_makeTrunk 1 = .ok (.getfield 9, 3) := by decide +kernel
theorem dW_makeTrunk_4 : decode cW_makeTrunk 4 = .ok (.iload_n 1, 1) := by decide +kernel
theorem dW_makeTrunk_5 : decode cW_makeTrunk 5 = .ok (.iload_n 2, 1) := by decide +kernel
theorem dW_makeTrunk_6 : decode cW_makeTrunk 6 = .ok (.iastore, 1) := by decide +kernel
theorem dW_makeTrunk_7 : decode cW_makeTrunk 7 = .ok (.aload_n 0, 1) := by decide +kernel
theorem dW_makeTrunk_8 : decode cW_makeTrunk 8 = .ok (.getfield 15, 3) := by decide +kernel
theorem dW_makeTrunk_11 : decode cW_makeTrunk 11 = .ok (.iload_n 1, 1) := by decide +kernel
theorem dW_makeTrunk_12 : decode cW_makeTrunk 12 = .ok (.iload_n 3, 1) := by decide +kernel
theorem dW_makeTrunk_13 : decode cW_makeTrunk 13 = .ok (.iastore, 1) := by decide +kernel
theorem dW_makeTrunk_14 : decode cW_makeTrunk 14 = .ok (.aload_n 0, 1) := by decide +kernel
theorem dW_makeTrunk_15 : decode cW_makeTrunk 15 = .ok (.getfield 18, 3) := by decide +kernel
theorem dW_makeTrunk_18 : decode cW_makeTrunk 18 = .ok (.iload_n 1, 1) := by decide +kernel
theorem dW_makeTrunk_19 : decode cW_makeTrunk 19 = .ok (.iconst 1, 1) := by decide +kernel
theorem dW_makeTrunk_20 : decode cW_makeTrunk 20 = .ok (.bastore, 1) := by decide +kernel
theorem dW_makeTrunk_21 : decode cW_makeTrunk 21 = .ok (.return_, 1) := by decide +kernel
theorem dW_isMember_0 : decode cW_isMember 0 = .ok (.aload_n 0, 1) := by decide +kernel
theorem dW_isMember_1 : decode cW_isMember 1 = .ok (.getfield 15, 3) := by decide +kernel
theorem dW_isMember_4 : decode cW_isMember 4 = .ok (.iload_n 1, 1) := by decide +kernel
theorem dW_isMember_5 : decode cW_isMember 5 = .ok (.iaload, 1) := by decide +kernel
theorem dW_isMember_6 : decode cW_isMember 6 = .ok (.iload_n 2, 1) := by decide +kernel
theorem dW_isMember_7 : decode cW_isMember 7 = .ok (.ishr, 1) := by decide +kernel
theorem dW_isMember_8 : decode cW_isMember 8 = .ok (.iconst 1, 1) := by decide +kernel
theorem dW_isMember_9 : decode cW_isMember 9 = .ok (.iand, 1) := by decide +kernel
theorem dW_isMember_10 : decode cW_isMember 10 = .ok (.iconst 1, 1) := by decide +kernel
theorem dW_isMember_11 : decode cW_isMember 11 = .ok (.if_icmp .ne 7, 3) := by decide +kernel
theorem dW_isMember_14 : decode cW_isMember 14 = .ok (.iconst 1, 1) := by decide +kernel
theorem dW_isMember_15 : decode cW_isMember 15 = .ok (.goto 4, 3) := by decide +kernel
theorem dW_isMember_18 : decode cW_isMember 18 = .ok (.iconst 0, 1) := by decide +kernel
theorem dW_isMember_19 : decode cW_isMember 19 = .ok (.ireturn, 1) := by decide +kernel
theorem dW_networkInside_0 : decode cW_networkInside 0 = .ok (.iload_n 2, 1) := by decide +kernel
theorem dW_networkInside_1 : decode cW_networkInside 1 = .ok (.iconst (-1), 1) := by decide +kernel
theorem dW_networkInside_2 : decode cW_networkInside 2 = .ok (.if_icmp .eq 14, 3) := by decide +kernel
theorem dW_networkInside_5 : decode cW_networkInside 5 = .ok (.aload_n 0, 1) := by decide +kernel
theorem dW_networkInside_6 : decode cW_networkInside 6 = .ok (.getfield 18, 3) := by decide +kernel
theorem dW_networkInside_9 : decode cW_networkInside 9 = .ok (.iload_n 1, 1) := by decide +kernel
theorem dW_networkInside_10 : decode cW_networkInside 10 = .ok (.baload, 1) := by decide +kernel
theorem dW_networkInside_11 : decode cW_networkInside 11 = .ok (.ifCond .ne 5, 3) := by decide +kernel
theorem dW_networkInside_14 : decode cW_networkInside 14 = .ok (.iconst (-1), 1) := by decide +kernel
theorem dW_networkInside_15 : decode cW_networkInside 15 = .ok (.ireturn, 1) := by decide +kernel
theorem dW_networkInside_16 : decode cW_networkInside 16 = .ok (.iload_n 2, 1) := by decide +kernel
theorem dW_networkInside_17 : decode cW_networkInside 17 = .ok (.iconst (-1), 1) := by decide +kernel
theorem dW_networkInside_18 : decode cW_networkInside 18 = .ok (.if_icmp .ne 12, 3) := by decide +kernel
theorem dW_networkInside_21 : decode cW_networkInside 21 = .ok (.aload_n 0, 1) := by decide +kernel
theorem dW_networkInside_22 : decode cW_networkInside 22 = .ok (.getfield 9, 3) := by decide +kernel
theorem dW_networkInside_25 : decode cW_networkInside 25 = .ok (.iload_n 1, 1) := by decide +kernel
theorem dW_networkInside_26 : decode cW_networkInside 26 = .ok (.iaload, 1) := by decide +kernel
theorem dW_networkInside_27 : decode cW_networkInside 27 = .ok (.goto 4, 3) := by decide +kernel
theorem dW_networkInside_30 : decode cW_networkInside 30 = .ok (.iload_n 2, 1) := by decide +kernel
theorem dW_networkInside_31 : decode cW_networkInside 31 = .ok (.istore_n 3, 1) := by decide +kernel
theorem dW_networkInside_32 : decode cW_networkInside 32 = .ok (.aload_n 0, 1) := by decide +kernel
theorem dW_networkInside_33 : decode cW_networkInside 33 = .ok (.iload_n 1, 1) := by decide +kernel
theorem dW_networkInside_34 : decode cW_networkInside 34 = .ok (.iload_n 3, 1) := by decide +kernel
theorem dW_networkInside_35 : decode cW_networkInside 35 = .ok (.invokevirtual 28, 3) := by decide +kernel
theorem dW_networkInside_38 : decode cW_networkInside 38 = .ok (.ifCond .eq 7, 3) := by decide +kernel
theorem dW_networkInside_41 : decode cW_networkInside 41 = .ok (.iload_n 3, 1) := by decide +kernel
theorem dW_networkInside_42 : decode cW_networkInside 42 = .ok (.goto 4, 3) := by decide +kernel
theorem dW_networkInside_45 : decode cW_networkInside 45 = .ok (.iconst (-1), 1) := by decide +kernel
theorem dW_networkInside_46 : decode cW_networkInside 46 = .ok (.ireturn, 1) := by decide +kernel
theorem dW_tagOutside_0 : decode cW_tagOutside 0 = .ok (.aload_n 0, 1) := by decide +kernel
theorem dW_tagOutside_1 : decode cW_tagOutside 1 = .ok (.getfield 9, 3) := by decide +kernel
theorem dW_tagOutside_4 : decode cW_tagOutside 4 = .ok (.iload_n 1, 1) := by decide +kernel
theorem dW_tagOutside_5 : decode cW_tagOutside 5 = .ok (.iaload, 1) := by decide +kernel
theorem dW_tagOutside_6 : decode cW_tagOutside 6 = .ok (.iload_n 2, 1) := by decide +kernel
theorem dW_tagOutside_7 : decode cW_tagOutside 7 = .ok (.if_icmp .ne 7, 3) := by decide +kernel
theorem dW_tagOutside_10 : decode cW_tagOutside 10 = .ok (.iconst (-1), 1) := by decide +kernel
theorem dW_tagOutside_11 : decode cW_tagOutside 11 = .ok (.goto 4, 3) := by decide +kernel
theorem dW_tagOutside_14 : decode cW_tagOutside 14 = .ok (.iload_n 2, 1) := by decide +kernel
theorem dW_tagOutside_15 : decode cW_tagOutside 15 = .ok (.ireturn, 1) := by decide +kernel
theorem dB_init_0 : decode cB_init 0 = .ok (.aload_n 0, 1) := by decide +kernel
theorem dB_init_1 : decode cB_init 1 = .ok (.invokespecial 3, 3) := by decide +kernel
theorem dB_init_4 : decode cB_init 4 = .ok (.aload_n 0, 1) := by decide +kernel
theorem dB_init_5 : decode cB_init 5 = .ok (.sipush 168, 3) := by decide +kernel
theorem dB_init_8 : decode cB_init 8 = .ok (.newarray .int, 2) := by decide +kernel
theorem dB_init_10 : decode cB_init 10 = .ok (.putfield 11, 3) := by decide +kernel
theorem dB_init_13 : decode cB_init 13 = .ok (.aload_n 0, 1) := by decide +kernel
theorem dB_init_14 : decode cB_init 14 = .ok (.sipush 168, 3) := by decide +kernel
theorem dB_init_17 : decode cB_init 17 = .ok (.newarray .int, 2) := by decide +kernel
theorem dB_init_19 : decode cB_init 19 = .ok (.putfield 15, 3) := by decide +kernel
theorem dB_init_22 : decode cB_init 22 = .ok (.aload_n 0, 1) := by decide +kernel
theorem dB_init_23 : decode cB_init 23 = .ok (.getfield 11, 3) := by decide +kernel
theorem dB_init_26 : decode cB_init 26 = .ok (.iconst (-1), 1) := by decide +kernel
theorem dB_init_27 : decode cB_init 27 = .ok (.invokestatic 18, 3) := by decide +kernel
theorem dB_init_30 : decode cB_init 30 = .ok (.return_, 1) := by decide +kernel
theorem dB_portOf_0 : decode cB_portOf 0 = .ok (.aload_n 0, 1) := by decide +kernel
theorem dB_portOf_1 : decode cB_portOf 1 = .ok (.getfield 11, 3) := by decide +kernel
theorem dB_portOf_4 : decode cB_portOf 4 = .ok (.bipush 28, 2) := by decide +kernel
theorem dB_portOf_6 : decode cB_portOf 6 = .ok (.iload_n 1, 1) := by decide +kernel
theorem dB_portOf_7 : decode cB_portOf 7 = .ok (.imul, 1) := by decide +kernel
theorem dB_portOf_8 : decode cB_portOf 8 = .ok (.bipush 7, 2) := by decide +kernel
theorem dB_portOf_10 : decode cB_portOf 10 = .ok (.iload_n 2, 1) := by decide +kernel
theorem dB_portOf_11 : decode cB_portOf 11 = .ok (.imul, 1) := by decide +kernel
theorem dB_portOf_12 : decode cB_portOf 12 = .ok (.iadd, 1) := by decide +kernel
theorem dB_portOf_13 : decode cB_portOf 13 = .ok (.iload_n 3, 1) := by decide +kernel
theorem dB_portOf_14 : decode cB_portOf 14 = .ok (.iadd, 1) := by decide +kernel
theorem dB_portOf_15 : decode cB_portOf 15 = .ok (.iaload, 1) := by decide +kernel
theorem dB_portOf_16 : decode cB_portOf 16 = .ok (.ireturn, 1) := by decide +kernel
theorem dB_learn_0 : decode cB_learn 0 = .ok (.bipush 28, 2) := by decide +kernel
theorem dB_learn_2 : decode cB_learn 2 = .ok (.iload_n 1, 1) := by decide +kernel
theorem dB_learn_3 : decode cB_learn 3 = .ok (.iconst 4, 1) := by decide +kernel
theorem dB_learn_4 : decode cB_learn 4 = .ok (.idiv, 1) := by decide +kernel
theorem dB_learn_5 : decode cB_learn 5 = .ok (.imul, 1) := by decide +kernel
theorem dB_learn_6 : decode cB_learn 6 = .ok (.bipush 7, 2) := by decide +kernel
theorem dB_learn_8 : decode cB_learn 8 = .ok (.iload_n 2, 1) := by decide +kernel
theorem dB_learn_9 : decode cB_learn 9 = .ok (.imul, 1) := by decide +kernel
theorem dB_learn_10 : decode cB_learn 10 = .ok (.iadd, 1) := by decide +kernel
theorem dB_learn_11 : decode cB_learn 11 = .ok (.iload_n 3, 1) := by decide +kernel
theorem dB_learn_12 : decode cB_learn 12 = .ok (.iadd, 1) := by decide +kernel
theorem dB_learn_13 : decode cB_learn 13 = .ok (.istore 5, 2) := by decide +kernel
theorem dB_learn_15 : decode cB_learn 15 = .ok (.aload_n 0, 1) := by decide +kernel
theorem dB_learn_16 : decode cB_learn 16 = .ok (.getfield 11, 3) := by decide +kernel
theorem dB_learn_19 : decode cB_learn 19 = .ok (.iload 5, 2) := by decide +kernel
theorem dB_learn_21 : decode cB_learn 21 = .ok (.iload_n 1, 1) := by decide +kernel
theorem dB_learn_22 : decode cB_learn 22 = .ok (.iconst 4, 1) := by decide +kernel
theorem dB_learn_23 : decode cB_learn 23 = .ok (.irem, 1) := by decide +kernel
theorem dB_learn_24 : decode cB_learn 24 = .ok (.iastore, 1) := by decide +kernel
theorem dB_learn_25 : decode cB_learn 25 = .ok (.aload_n 0, 1) := by decide +kernel
theorem dB_learn_26 : decode cB_learn 26 = .ok (.getfield 15, 3) := by decide +kernel
theorem dB_learn_29 : decode cB_learn 29 = .ok (.iload 5, 2) := by decide +kernel
theorem dB_learn_31 : decode cB_learn 31 = .ok (.iload 4, 2) := by decide +kernel
theorem dB_learn_33 : decode cB_learn 33 = .ok (.iastore, 1) := by decide +kernel
theorem dB_learn_34 : decode cB_learn 34 = .ok (.return_, 1) := by decide +kernel
theorem dB_countOf_0 : decode cB_countOf 0 = .ok (.iconst 0, 1) := by decide +kernel
theorem dB_countOf_1 : decode cB_countOf 1 = .ok (.istore_n 2, 1) := by decide +kernel
theorem dB_countOf_2 : decode cB_countOf 2 = .ok (.bipush 28, 2) := by decide +kernel
theorem dB_countOf_4 : decode cB_countOf 4 = .ok (.iload_n 1, 1) := by decide +kernel
theorem dB_countOf_5 : decode cB_countOf 5 = .ok (.imul, 1) := by decide +kernel
theorem dB_countOf_6 : decode cB_countOf 6 = .ok (.istore_n 3, 1) := by decide +kernel
theorem dB_countOf_7 : decode cB_countOf 7 = .ok (.iload_n 3, 1) := by decide +kernel
theorem dB_countOf_8 : decode cB_countOf 8 = .ok (.bipush 28, 2) := by decide +kernel
theorem dB_countOf_10 : decode cB_countOf 10 = .ok (.iload_n 1, 1) := by decide +kernel
theorem dB_countOf_11 : decode cB_countOf 11 = .ok (.imul, 1) := by decide +kernel
theorem dB_countOf_12 : decode cB_countOf 12 = .ok (.bipush 28, 2) := by decide +kernel
theorem dB_countOf_14 : decode cB_countOf 14 = .ok (.iadd, 1) := by decide +kernel
theorem dB_countOf_15 : decode cB_countOf 15 = .ok (.if_icmp .ge 22, 3) := by decide +kernel
theorem dB_countOf_18 : decode cB_countOf 18 = .ok (.aload_n 0, 1) := by decide +kernel
theorem dB_countOf_19 : decode cB_countOf 19 = .ok (.getfield 11, 3) := by decide +kernel
theorem dB_countOf_22 : decode cB_countOf 22 = .ok (.iload_n 3, 1) := by decide +kernel
theorem dB_countOf_23 : decode cB_countOf 23 = .ok (.iaload, 1) := by decide +kernel
theorem dB_countOf_24 : decode cB_countOf 24 = .ok (.iconst (-1), 1) := by decide +kernel
theorem dB_countOf_25 : decode cB_countOf 25 = .ok (.if_icmp .eq 6, 3) := by decide +kernel
theorem dB_countOf_28 : decode cB_countOf 28 = .ok (.iinc 2 1, 3) := by decide +kernel
theorem dB_countOf_31 : decode cB_countOf 31 = .ok (.iinc 3 1, 3) := by decide +kernel
theorem dB_countOf_34 : decode cB_countOf 34 = .ok (.goto (-27), 3) := by decide +kernel
theorem dB_countOf_37 : decode cB_countOf 37 = .ok (.iload_n 2, 1) := by decide +kernel
theorem dB_countOf_38 : decode cB_countOf 38 = .ok (.ireturn, 1) := by decide +kernel
theorem dB_forget_0 : decode cB_forget 0 = .ok (.bipush 28, 2) := by decide +kernel
theorem dB_forget_2 : decode cB_forget 2 = .ok (.iload_n 1, 1) := by decide +kernel
theorem dB_forget_3 : decode cB_forget 3 = .ok (.imul, 1) := by decide +kernel
theorem dB_forget_4 : decode cB_forget 4 = .ok (.istore 4, 2) := by decide +kernel
theorem dB_forget_6 : decode cB_forget 6 = .ok (.iload 4, 2) := by decide +kernel
theorem dB_forget_8 : decode cB_forget 8 = .ok (.bipush 28, 2) := by decide +kernel
theorem dB_forget_10 : decode cB_forget 10 = .ok (.iload_n 1, 1) := by decide +kernel
theorem dB_forget_11 : decode cB_forget 11 = .ok (.imul, 1) := by decide +kernel
theorem dB_forget_12 : decode cB_forget 12 = .ok (.bipush 28, 2) := by decide +kernel
theorem dB_forget_14 : decode cB_forget 14 = .ok (.iadd, 1) := by decide +kernel
theorem dB_forget_15 : decode cB_forget 15 = .ok (.if_icmp .ge 30, 3) := by decide +kernel
theorem dB_forget_18 : decode cB_forget 18 = .ok (.iload_n 2, 1) := by decide +kernel
theorem dB_forget_19 : decode cB_forget 19 = .ok (.aload_n 0, 1) := by decide +kernel
theorem dB_forget_20 : decode cB_forget 20 = .ok (.getfield 15, 3) := by decide +kernel
theorem dB_forget_23 : decode cB_forget 23 = .ok (.iload 4, 2) := by decide +kernel
theorem dB_forget_25 : decode cB_forget 25 = .ok (.iaload, 1) := by decide +kernel
theorem dB_forget_26 : decode cB_forget 26 = .ok (.isub, 1) := by decide +kernel
theorem dB_forget_27 : decode cB_forget 27 = .ok (.iload_n 3, 1) := by decide +kernel
theorem dB_forget_28 : decode cB_forget 28 = .ok (.if_icmp .lt 11, 3) := by decide +kernel
theorem dB_forget_31 : decode cB_forget 31 = .ok (.aload_n 0, 1) := by decide +kernel
theorem dB_forget_32 : decode cB_forget 32 = .ok (.getfield 11, 3) := by decide +kernel
theorem dB_forget_35 : decode cB_forget 35 = .ok (.iload 4, 2) := by decide +kernel
theorem dB_forget_37 : decode cB_forget 37 = .ok (.iconst (-1), 1) := by decide +kernel
theorem dB_forget_38 : decode cB_forget 38 = .ok (.iastore, 1) := by decide +kernel
theorem dB_forget_39 : decode cB_forget 39 = .ok (.iinc 4 1, 3) := by decide +kernel
theorem dB_forget_42 : decode cB_forget 42 = .ok (.goto (-36), 3) := by decide +kernel
theorem dB_forget_45 : decode cB_forget 45 = .ok (.return_, 1) := by decide +kernel
theorem dK_init_0 : decode cK_init 0 = .ok (.aload_n 0, 1) := by decide +kernel
theorem dK_init_1 : decode cK_init 1 = .ok (.invokespecial 3, 3) := by decide +kernel
theorem dK_init_4 : decode cK_init 4 = .ok (.aload_n 0, 1) := by decide +kernel
theorem dK_init_5 : decode cK_init 5 = .ok (.bipush 61, 2) := by decide +kernel
theorem dK_init_7 : decode cK_init 7 = .ok (.newarray .int, 2) := by decide +kernel
theorem dK_init_9 : decode cK_init 9 = .ok (.putfield 9, 3) := by decide +kernel
theorem dK_init_12 : decode cK_init 12 = .ok (.aload_n 0, 1) := by decide +kernel
theorem dK_init_13 : decode cK_init 13 = .ok (.bipush 61, 2) := by decide +kernel
theorem dK_init_15 : decode cK_init 15 = .ok (.newarray .int, 2) := by decide +kernel
theorem dK_init_17 : decode cK_init 17 = .ok (.putfield 15, 3) := by decide +kernel
theorem dK_init_20 : decode cK_init 20 = .ok (.aload_n 0, 1) := by decide +kernel
theorem dK_init_21 : decode cK_init 21 = .ok (.aload_n 1, 1) := by decide +kernel
theorem dK_init_22 : decode cK_init 22 = .ok (.putfield 18, 3) := by decide +kernel
theorem dK_init_25 : decode cK_init 25 = .ok (.aload_n 0, 1) := by decide +kernel
theorem dK_init_26 : decode cK_init 26 = .ok (.aload_n 2, 1) := by decide +kernel
theorem dK_init_27 : decode cK_init 27 = .ok (.putfield 22, 3) := by decide +kernel
theorem dK_init_30 : decode cK_init 30 = .ok (.aload_n 0, 1) := by decide +kernel
theorem dK_init_31 : decode cK_init 31 = .ok (.aload_n 3, 1) := by decide +kernel
theorem dK_init_32 : decode cK_init 32 = .ok (.putfield 26, 3) := by decide +kernel
theorem dK_init_35 : decode cK_init 35 = .ok (.aload_n 0, 1) := by decide +kernel
theorem dK_init_36 : decode cK_init 36 = .ok (.aload 4, 2) := by decide +kernel
theorem dK_init_38 : decode cK_init 38 = .ok (.putfield 30, 3) := by decide +kernel
theorem dK_init_41 : decode cK_init 41 = .ok (.return_, 1) := by decide +kernel
theorem dK_startCount_0 : decode cK_startCount 0 = .ok (.aload_n 0, 1) := by decide +kernel
theorem dK_startCount_1 : decode cK_startCount 1 = .ok (.iconst 0, 1) := by decide +kernel
theorem dK_startCount_2 : decode cK_startCount 2 = .ok (.putfield 34, 3) := by decide +kernel
theorem dK_startCount_5 : decode cK_startCount 5 = .ok (.return_, 1) := by decide +kernel
theorem dK_carryFromHost_0 : decode cK_carryFromHost 0 = .ok (.aload_n 0, 1) := by decide +kernel
theorem dK_carryFromHost_1 : decode cK_carryFromHost 1 = .ok (.iload_n 1, 1) := by decide +kernel
theorem dK_carryFromHost_2 : decode cK_carryFromHost 2 = .ok (.iload_n 2, 1) := by decide +kernel
theorem dK_carryFromHost_3 : decode cK_carryFromHost 3 = .ok (.aload_n 0, 1) := by decide +kernel
theorem dK_carryFromHost_4 : decode cK_carryFromHost 4 = .ok (.getfield 18, 3) := by decide +kernel
theorem dK_carryFromHost_7 : decode cK_carryFromHost 7 = .ok (.getfield 38, 3) := by decide +kernel
theorem dK_carryFromHost_10 : decode cK_carryFromHost 10 = .ok (.iload_n 1, 1) := by decide +kernel
theorem dK_carryFromHost_11 : decode cK_carryFromHost 11 = .ok (.iaload, 1) := by decide +kernel
theorem dK_carryFromHost_12 : decode cK_carryFromHost 12 = .ok (.iconst (-1), 1) := by decide +kernel
theorem dK_carryFromHost_13 : decode cK_carryFromHost 13 = .ok (.invokevirtual 43, 3) := by decide +kernel
theorem dK_carryFromHost_16 : decode cK_carryFromHost 16 = .ok (.ireturn, 1) := by decide +kernel
theorem dK_carryFromRouter_0 : decode cK_carryFromRouter 0 = .ok (.aload_n 0, 1) := by decide +kernel
theorem dK_carryFromRouter_1 : decode cK_carryFromRouter 1 = .ok (.getfield 18, 3) := by decide +kernel
theorem dK_carryFromRouter_4 : decode cK_carryFromRouter 4 = .ok (.getfield 47, 3) := by decide +kernel
theorem dK_carryFromRouter_7 : decode cK_carryFromRouter 7 = .ok (.istore_n 3, 1) := by decide +kernel
theorem dK_carryFromRouter_8 : decode cK_carryFromRouter 8 = .ok (.iload_n 3, 1) := by decide +kernel
theorem dK_carryFromRouter_9 : decode cK_carryFromRouter 9 = .ok (.iconst (-1), 1) := by decide +kernel
theorem dK_carryFromRouter_10 : decode cK_carryFromRouter 10 = .ok (.if_icmp .ne 5, 3) := by decide +kernel
theorem dK_carryFromRouter_13 : decode cK_carryFromRouter 13 = .ok (.iconst 0, 1) := by decide +kernel
theorem dK_carryFromRouter_14 : decode cK_carryFromRouter 14 = .ok (.ireturn, 1) := by decide +kernel
theorem dK_carryFromRouter_15 : decode cK_carryFromRouter 15 = .ok (.aload_n 0, 1) := by decide +kernel
theorem dK_carryFromRouter_16 : decode cK_carryFromRouter 16 = .ok (.bipush 6, 2) := by decide +kernel
theorem dK_carryFromRouter_18 : decode cK_carryFromRouter 18 = .ok (.iload_n 2, 1) := by decide +kernel
theorem dK_carryFromRouter_19 : decode cK_carryFromRouter 19 = .ok (.iload_n 3, 1) := by decide +kernel
theorem dK_carryFromRouter_20 : decode cK_carryFromRouter 20 = .ok (.aload_n 0, 1) := by decide +kernel
theorem dK_carryFromRouter_21 : decode cK_carryFromRouter 21 = .ok (.getfield 22, 3) := by decide +kernel
theorem dK_carryFromRouter_24 : decode cK_carryFromRouter 24 = .ok (.iload_n 3, 1) := by decide +kernel
theorem dK_carryFromRouter_25 : decode cK_carryFromRouter 25 = .ok (.iload_n 1, 1) := by decide +kernel
theorem dK_carryFromRouter_26 : decode cK_carryFromRouter 26 = .ok (.invokevirtual 50, 3) := by decide +kernel
theorem dK_carryFromRouter_29 : decode cK_carryFromRouter 29 = .ok (.invokevirtual 43, 3) := by decide +kernel
theorem dK_carryFromRouter_32 : decode cK_carryFromRouter 32 = .ok (.ireturn, 1) := by decide +kernel
theorem dK_carry_0 : decode cK_carry 0 = .ok (.aload_n 0, 1) := by decide +kernel
theorem dK_carry_1 : decode cK_carry 1 = .ok (.iload_n 1, 1) := by decide +kernel
theorem dK_carry_2 : decode cK_carry 2 = .ok (.putfield 56, 3) := by decide +kernel
theorem dK_carry_5 : decode cK_carry 5 = .ok (.aload_n 0, 1) := by decide +kernel
theorem dK_carry_6 : decode cK_carry 6 = .ok (.iload_n 2, 1) := by decide +kernel
theorem dK_carry_7 : decode cK_carry 7 = .ok (.putfield 59, 3) := by decide +kernel
theorem dK_carry_10 : decode cK_carry 10 = .ok (.aload_n 0, 1) := by decide +kernel
theorem dK_carry_11 : decode cK_carry 11 = .ok (.iconst 0, 1) := by decide +kernel
theorem dK_carry_12 : decode cK_carry 12 = .ok (.putfield 62, 3) := by decide +kernel
theorem dK_carry_15 : decode cK_carry 15 = .ok (.aload_n 0, 1) := by decide +kernel
theorem dK_carry_16 : decode cK_carry 16 = .ok (.iconst 0, 1) := by decide +kernel
theorem dK_carry_17 : decode cK_carry 17 = .ok (.putfield 65, 3) := by decide +kernel
theorem dK_carry_20 : decode cK_carry 20 = .ok (.aload_n 0, 1) := by decide +kernel
theorem dK_carry_21 : decode cK_carry 21 = .ok (.getfield 9, 3) := by decide +kernel
theorem dK_carry_24 : decode cK_carry 24 = .ok (.iconst 0, 1) := by decide +kernel
theorem dK_carry_25 : decode cK_carry 25 = .ok (.iload_n 3, 1) := by decide +kernel
theorem dK_carry_26 : decode cK_carry 26 = .ok (.iastore, 1) := by decide +kernel
theorem dK_carry_27 : decode cK_carry 27 = .ok (.aload_n 0, 1) := by decide +kernel
theorem dK_carry_28 : decode cK_carry 28 = .ok (.getfield 15, 3) := by decide +kernel
theorem dK_carry_31 : decode cK_carry 31 = .ok (.iconst 0, 1) := by decide +kernel
theorem dK_carry_32 : decode cK_carry 32 = .ok (.iload 4, 2) := by decide +kernel
theorem dK_carry_34 : decode cK_carry 34 = .ok (.iastore, 1) := by decide +kernel
theorem dK_carry_35 : decode cK_carry 35 = .ok (.aload_n 0, 1) := by decide +kernel
theorem dK_carry_36 : decode cK_carry 36 = .ok (.iconst 1, 1) := by decide +kernel
theorem dK_carry_37 : decode cK_carry 37 = .ok (.putfield 68, 3) := by decide +kernel
theorem dK_carry_40 : decode cK_carry 40 = .ok (.iconst 0, 1) := by decide +kernel
theorem dK_carry_41 : decode cK_carry 41 = .ok (.istore 5, 2) := by decide +kernel
theorem dK_carry_43 : decode cK_carry 43 = .ok (.iload 5, 2) := by decide +kernel
theorem dK_carry_45 : decode cK_carry 45 = .ok (.aload_n 0, 1) := by decide +kernel
theorem dK_carry_46 : decode cK_carry 46 = .ok (.getfield 68, 3) := by decide +kernel
theorem dK_carry_49 : decode cK_carry 49 = .ok (.if_icmp .ge 37, 3) := by decide +kernel
theorem dK_carry_52 : decode cK_carry 52 = .ok (.iload 5, 2) := by decide +kernel
theorem dK_carry_54 : decode cK_carry 54 = .ok (.aload_n 0, 1) := by decide +kernel
theorem dK_carry_55 : decode cK_carry 55 = .ok (.getfield 9, 3) := by decide +kernel
theorem dK_carry_58 : decode cK_carry 58 = .ok (.arraylength, 1) := by decide +kernel
theorem dK_carry_59 : decode cK_carry 59 = .ok (.if_icmp .ge 27, 3) := by decide +kernel
theorem dK_carry_62 : decode cK_carry 62 = .ok (.aload_n 0, 1) := by decide +kernel
theorem dK_carry_63 : decode cK_carry 63 = .ok (.aload_n 0, 1) := by decide +kernel
theorem dK_carry_64 : decode cK_carry 64 = .ok (.getfield 9, 3) := by decide +kernel
theorem dK_carry_67 : decode cK_carry 67 = .ok (.iload 5, 2) := by decide +kernel
theorem dK_carry_69 : decode cK_carry 69 = .ok (.iaload, 1) := by decide +kernel
theorem dK_carry_70 : decode cK_carry 70 = .ok (.aload_n 0, 1) := by decide +kernel
theorem dK_carry_71 : decode cK_carry 71 = .ok (.getfield 15, 3) := by decide +kernel
theorem dK_carry_74 : decode cK_carry 74 = .ok (.iload 5, 2) := by decide +kernel
theorem dK_carry_76 : decode cK_carry 76 = .ok (.iaload, 1) := by decide +kernel
theorem dK_carry_77 : decode cK_carry 77 = .ok (.invokevirtual 71, 3) := by decide +kernel
theorem dK_carry_80 : decode cK_carry 80 = .ok (.iinc 5 1, 3) := by decide +kernel
theorem dK_carry_83 : decode cK_carry 83 = .ok (.goto (-40), 3) := by decide +kernel
theorem dK_carry_86 : decode cK_carry 86 = .ok (.aload_n 0, 1) := by decide +kernel
theorem dK_carry_87 : decode cK_carry 87 = .ok (.dup, 1) := by decide +kernel
theorem dK_carry_88 : decode cK_carry 88 = .ok (.getfield 34, 3) := by decide +kernel
theorem dK_carry_91 : decode cK_carry 91 = .ok (.aload_n 0, 1) := by decide +kernel
theorem dK_carry_92 : decode cK_carry 92 = .ok (.getfield 62, 3) := by decide +kernel
theorem dK_carry_95 : decode cK_carry 95 = .ok (.iadd, 1) := by decide +kernel
theorem dK_carry_96 : decode cK_carry 96 = .ok (.putfield 34, 3) := by decide +kernel
theorem dK_carry_99 : decode cK_carry 99 = .ok (.aload_n 0, 1) := by decide +kernel
theorem dK_carry_100 : decode cK_carry 100 = .ok (.getfield 65, 3) := by decide +kernel
theorem dK_carry_103 : decode cK_carry 103 = .ok (.ireturn, 1) := by decide +kernel
theorem dK_handleArrival_0 : decode cK_handleArrival 0 = .ok (.aload_n 0, 1) := by decide +kernel
theorem dK_handleArrival_1 : decode cK_handleArrival 1 = .ok (.getfield 22, 3) := by decide +kernel
theorem dK_handleArrival_4 : decode cK_handleArrival 4 = .ok (.iload_n 1, 1) := by decide +kernel
theorem dK_handleArrival_5 : decode cK_handleArrival 5 = .ok (.iload_n 2, 1) := by decide +kernel
theorem dK_handleArrival_6 : decode cK_handleArrival 6 = .ok (.invokevirtual 75, 3) := by decide +kernel
theorem dK_handleArrival_9 : decode cK_handleArrival 9 = .ok (.istore_n 3, 1) := by decide +kernel
theorem dK_handleArrival_10 : decode cK_handleArrival 10 = .ok (.aload_n 0, 1) := by decide +kernel
theorem dK_handleArrival_11 : decode cK_handleArrival 11 = .ok (.getfield 26, 3) := by decide +kernel
theorem dK_handleArrival_14 : decode cK_handleArrival 14 = .ok (.getfield 78, 3) := by decide +kernel
theorem dK_handleArrival_17 : decode cK_handleArrival 17 = .ok (.iload_n 1, 1) := by decide +kernel
theorem dK_handleArrival_18 : decode cK_handleArrival 18 = .ok (.iaload, 1) := by decide +kernel
theorem dK_handleArrival_19 : decode cK_handleArrival 19 = .ok (.iconst 2, 1) := by decide +kernel
theorem dK_handleArrival_20 : decode cK_handleArrival 20 = .ok (.if_icmp .lt 8, 3) := by decide +kernel
theorem dK_handleArrival_23 : decode cK_handleArrival 23 = .ok (.iload_n 3, 1) := by decide +kernel
theorem dK_handleArrival_24 : decode cK_handleArrival 24 = .ok (.iconst (-1), 1) := by decide +kernel
theorem dK_handleArrival_25 : decode cK_handleArrival 25 = .ok (.if_icmp .ne 4, 3) := by decide +kernel
theorem dK_handleArrival_28 : decode cK_handleArrival 28 = .ok (.return_, 1) := by decide +kernel
theorem dK_handleArrival_29 : decode cK_handleArrival 29 = .ok (.aload_n 0, 1) := by decide +kernel
theorem dK_handleArrival_30 : decode cK_handleArrival 30 = .ok (.getfield 30, 3) := by decide +kernel
theorem dK_handleArrival_33 : decode cK_handleArrival 33 = .ok (.iload_n 1, 1) := by decide +kernel
theorem dK_handleArrival_34 : decode cK_handleArrival 34 = .ok (.iload_n 3, 1) := by decide +kernel
theorem dK_handleArrival_35 : decode cK_handleArrival 35 = .ok (.aload_n 0, 1) := by decide +kernel
theorem dK_handleArrival_36 : decode cK_handleArrival 36 = .ok (.getfield 56, 3) := by decide +kernel
theorem dK_handleArrival_39 : decode cK_handleArrival 39 = .ok (.aload_n 0, 1) := by decide +kernel
theorem dK_handleArrival_40 : decode cK_handleArrival 40 = .ok (.getfield 26, 3) := by decide +kernel
theorem dK_handleArrival_43 : decode cK_handleArrival 43 = .ok (.getfield 83, 3) := by decide +kernel
theorem dK_handleArrival_46 : decode cK_handleArrival 46 = .ok (.invokevirtual 86, 3) := by decide +kernel
theorem dK_handleArrival_49 : decode cK_handleArrival 49 = .ok (.aload_n 0, 1) := by decide +kernel
theorem dK_handleArrival_50 : decode cK_handleArrival 50 = .ok (.getfield 26, 3) := by decide +kernel
theorem dK_handleArrival_53 : decode cK_handleArrival 53 = .ok (.getfield 78, 3) := by decide +kernel
theorem dK_handleArrival_56 : decode cK_handleArrival 56 = .ok (.iload_n 1, 1) := by decide +kernel
theorem dK_handleArrival_57 : decode cK_handleArrival 57 = .ok (.iaload, 1) := by decide +kernel
theorem dK_handleArrival_58 : decode cK_handleArrival 58 = .ok (.iconst 3, 1) := by decide +kernel
theorem dK_handleArrival_59 : decode cK_handleArrival 59 = .ok (.if_icmp .ne 9, 3) := by decide +kernel
theorem dK_handleArrival_62 : decode cK_handleArrival 62 = .ok (.aload_n 0, 1) := by decide +kernel
theorem dK_handleArrival_63 : decode cK_handleArrival 63 = .ok (.iload_n 1, 1) := by decide +kernel
theorem dK_handleArrival_64 : decode cK_handleArrival 64 = .ok (.iload_n 3, 1) := by decide +kernel
theorem dK_handleArrival_65 : decode cK_handleArrival 65 = .ok (.invokevirtual 92, 3) := by decide +kernel
theorem dK_handleArrival_68 : decode cK_handleArrival 68 = .ok (.return_, 1) := by decide +kernel
theorem dK_forward_0 : decode cK_forward 0 = .ok (.iload_n 1, 1) := by decide +kernel
theorem dK_forward_1 : decode cK_forward 1 = .ok (.iconst 4, 1) := by decide +kernel
theorem dK_forward_2 : decode cK_forward 2 = .ok (.idiv, 1) := by decide +kernel
theorem dK_forward_3 : decode cK_forward 3 = .ok (.istore_n 3, 1) := by decide +kernel
theorem dK_forward_4 : decode cK_forward 4 = .ok (.aload_n 0, 1) := by decide +kernel
theorem dK_forward_5 : decode cK_forward 5 = .ok (.getfield 59, 3) := by decide +kernel
theorem dK_forward_8 : decode cK_forward 8 = .ok (.iconst (-1), 1) := by decide +kernel
theorem dK_forward_9 : decode cK_forward 9 = .ok (.if_icmp .ne 7, 3) := by decide +kernel
theorem dK_forward_12 : decode cK_forward 12 = .ok (.iconst (-1), 1) := by decide +kernel
theorem dK_forward_13 : decode cK_forward 13 = .ok (.goto 16, 3) := by decide +kernel
theorem dK_forward_16 : decode cK_forward 16 = .ok (.aload_n 0, 1) := by decide +kernel
theorem dK_forward_17 : decode cK_forward 17 = .ok (.getfield 30, 3) := by decide +kernel
theorem dK_forward_20 : decode cK_forward 20 = .ok (.iload_n 3, 1) := by decide +kernel
theorem dK_forward_21 : decode cK_forward 21 = .ok (.iload_n 2, 1) := by decide +kernel
theorem dK_forward_22 : decode cK_forward 22 = .ok (.aload_n 0, 1) := by decide +kernel
theorem dK_forward_23 : decode cK_forward 23 = .ok (.getfield 59, 3) := by decide +kernel
theorem dK_forward_26 : decode cK_forward 26 = .ok (.invokevirtual 95, 3) := by decide +kernel
theorem dK_forward_29 : decode cK_forward 29 = .ok (.istore 4, 2) := by decide +kernel
theorem dK_forward_31 : decode cK_forward 31 = .ok (.iconst 0, 1) := by decide +kernel
theorem dK_forward_32 : decode cK_forward 32 = .ok (.istore 5, 2) := by decide +kernel
theorem dK_forward_34 : decode cK_forward 34 = .ok (.iload 5, 2) := by decide +kernel
theorem dK_forward_36 : decode cK_forward 36 = .ok (.iconst 4, 1) := by decide +kernel
theorem dK_forward_37 : decode cK_forward 37 = .ok (.if_icmp .ge 91, 3) := by decide +kernel
theorem dK_forward_40 : decode cK_forward 40 = .ok (.iconst 4, 1) := by decide +kernel
theorem dK_forward_41 : decode cK_forward 41 = .ok (.iload_n 3, 1) := by decide +kernel
theorem dK_forward_42 : decode cK_forward 42 = .ok (.imul, 1) := by decide +kernel
theorem dK_forward_43 : decode cK_forward 43 = .ok (.iload 5, 2) := by decide +kernel
theorem dK_forward_45 : decode cK_forward 45 = .ok (.iadd, 1) := by decide +kernel
theorem dK_forward_46 : decode cK_forward 46 = .ok (.istore 6, 2) := by decide +kernel
theorem dK_forward_48 : decode cK_forward 48 = .ok (.iload 6, 2) := by decide +kernel
theorem dK_forward_50 : decode cK_forward 50 = .ok (.iload_n 1, 1) := by decide +kernel
theorem dK_forward_51 : decode cK_forward 51 = .ok (.if_icmp .eq 20, 3) := by decide +kernel
theorem dK_forward_54 : decode cK_forward 54 = .ok (.iload 4, 2) := by decide +kernel
theorem dK_forward_56 : decode cK_forward 56 = .ok (.iconst (-1), 1) := by decide +kernel
theorem dK_forward_57 : decode cK_forward 57 = .ok (.if_icmp .eq 10, 3) := by decide +kernel
theorem dK_forward_60 : decode cK_forward 60 = .ok (.iload 4, 2) := by decide +kernel
theorem dK_forward_62 : decode cK_forward 62 = .ok (.iload 5, 2) := by decide +kernel
theorem dK_forward_64 : decode cK_forward 64 = .ok (.if_icmp .ne 7, 3) := by decide +kernel
theorem dK_forward_67 : decode cK_forward 67 = .ok (.iconst 1, 1) := by decide +kernel
theorem dK_forward_68 : decode cK_forward 68 = .ok (.goto 4, 3) := by decide +kernel
theorem dK_forward_71 : decode cK_forward 71 = .ok (.iconst 0, 1) := by decide +kernel
theorem dK_forward_72 : decode cK_forward 72 = .ok (.istore 7, 2) := by decide +kernel
theorem dK_forward_74 : decode cK_forward 74 = .ok (.iload 7, 2) := by decide +kernel
theorem dK_forward_76 : decode cK_forward 76 = .ok (.ifCond .eq 46, 3) := by decide +kernel
theorem dK_forward_79 : decode cK_forward 79 = .ok (.aload_n 0, 1) := by decide +kernel
theorem dK_forward_80 : decode cK_forward 80 = .ok (.getfield 26, 3) := by decide +kernel
theorem dK_forward_83 : decode cK_forward 83 = .ok (.getfield 78, 3) := by decide +kernel
theorem dK_forward_86 : decode cK_forward 86 = .ok (.iload 6, 2) := by decide +kernel
theorem dK_forward_88 : decode cK_forward 88 = .ok (.iaload, 1) := by decide +kernel
theorem dK_forward_89 : decode cK_forward 89 = .ok (.iconst 3, 1) := by decide +kernel
theorem dK_forward_90 : decode cK_forward 90 = .ok (.if_icmp .ne 32, 3) := by decide +kernel
theorem dK_forward_93 : decode cK_forward 93 = .ok (.aload_n 0, 1) := by decide +kernel
theorem dK_forward_94 : decode cK_forward 94 = .ok (.getfield 22, 3) := by decide +kernel
theorem dK_forward_97 : decode cK_forward 97 = .ok (.iload 6, 2) := by decide +kernel
theorem dK_forward_99 : decode cK_forward 99 = .ok (.iload_n 2, 1) := by decide +kernel
theorem dK_forward_100 : decode cK_forward 100 = .ok (.invokevirtual 99, 3) := by decide +kernel
theorem dK_forward_103 : decode cK_forward 103 = .ok (.ifCond .eq 19, 3) := by decide +kernel
theorem dK_forward_106 : decode cK_forward 106 = .ok (.aload_n 0, 1) := by decide +kernel
theorem dK_forward_107 : decode cK_forward 107 = .ok (.iload 6, 2) := by decide +kernel
theorem dK_forward_109 : decode cK_forward 109 = .ok (.aload_n 0, 1) := by decide +kernel
theorem dK_forward_110 : decode cK_forward 110 = .ok (.getfield 22, 3) := by decide +kernel
theorem dK_forward_113 : decode cK_forward 113 = .ok (.iload 6, 2) := by decide +kernel
theorem dK_forward_115 : decode cK_forward 115 = .ok (.iload_n 2, 1) := by decide +kernel
theorem dK_forward_116 : decode cK_forward 116 = .ok (.invokevirtual 50, 3) := by decide +kernel
theorem dK_forward_119 : decode cK_forward 119 = .ok (.invokevirtual 103, 3) := by decide +kernel
theorem dK_forward_122 : decode cK_forward 122 = .ok (.iinc 5 1, 3) := by decide +kernel
theorem dK_forward_125 : decode cK_forward 125 = .ok (.goto (-91), 3) := by decide +kernel
theorem dK_forward_128 : decode cK_forward 128 = .ok (.return_, 1) := by decide +kernel
theorem dK_goOut_0 : decode cK_goOut 0 = .ok (.aload_n 0, 1) := by decide +kernel
theorem dK_goOut_1 : decode cK_goOut 1 = .ok (.getfield 62, 3) := by decide +kernel
theorem dK_goOut_4 : decode cK_goOut 4 = .ok (.bipush 60, 2) := by decide +kernel
theorem dK_goOut_6 : decode cK_goOut 6 = .ok (.if_icmp .lt 4, 3) := by decide +kernel
theorem dK_goOut_9 : decode cK_goOut 9 = .ok (.return_, 1) := by decide +kernel
theorem dK_goOut_10 : decode cK_goOut 10 = .ok (.aload_n 0, 1) := by decide +kernel
theorem dK_goOut_11 : decode cK_goOut 11 = .ok (.dup, 1) := by decide +kernel
theorem dK_goOut_12 : decode cK_goOut 12 = .ok (.getfield 62, 3) := by decide +kernel
theorem dK_goOut_15 : decode cK_goOut 15 = .ok (.iconst 1, 1) := by decide +kernel
theorem dK_goOut_16 : decode cK_goOut 16 = .ok (.iadd, 1) := by decide +kernel
theorem dK_goOut_17 : decode cK_goOut 17 = .ok (.putfield 62, 3) := by decide +kernel
theorem dK_goOut_20 : decode cK_goOut 20 = .ok (.aload_n 0, 1) := by decide +kernel
theorem dK_goOut_21 : decode cK_goOut 21 = .ok (.getfield 18, 3) := by decide +kernel
theorem dK_goOut_24 : decode cK_goOut 24 = .ok (.getfield 106, 3) := by decide +kernel
theorem dK_goOut_27 : decode cK_goOut 27 = .ok (.iload_n 1, 1) := by decide +kernel
theorem dK_goOut_28 : decode cK_goOut 28 = .ok (.iaload, 1) := by decide +kernel
theorem dK_goOut_29 : decode cK_goOut 29 = .ok (.istore_n 3, 1) := by decide +kernel
theorem dK_goOut_30 : decode cK_goOut 30 = .ok (.aload_n 0, 1) := by decide +kernel
theorem dK_goOut_31 : decode cK_goOut 31 = .ok (.getfield 18, 3) := by decide +kernel
theorem dK_goOut_34 : decode cK_goOut 34 = .ok (.getfield 109, 3) := by decide +kernel
theorem dK_goOut_37 : decode cK_goOut 37 = .ok (.iload_n 1, 1) := by decide +kernel
theorem dK_goOut_38 : decode cK_goOut 38 = .ok (.iaload, 1) := by decide +kernel
theorem dK_goOut_39 : decode cK_goOut 39 = .ok (.istore 4, 2) := by decide +kernel
theorem dK_goOut_41 : decode cK_goOut 41 = .ok (.iload_n 3, 1) := by decide +kernel
theorem dK_goOut_42 : decode cK_goOut 42 = .ok (.bipush 6, 2) := by decide +kernel
theorem dK_goOut_44 : decode cK_goOut 44 = .ok (.if_icmp .eq 13, 3) := by decide +kernel
theorem dK_goOut_47 : decode cK_goOut 47 = .ok (.iload_n 3, 1) := by decide +kernel
theorem dK_goOut_48 : decode cK_goOut 48 = .ok (.iconst (-1), 1) := by decide +kernel
theorem dK_goOut_49 : decode cK_goOut 49 = .ok (.if_icmp .eq 20, 3) := by decide +kernel
theorem dK_goOut_52 : decode cK_goOut 52 = .ok (.iload_n 2, 1) := by decide +kernel
theorem dK_goOut_53 : decode cK_goOut 53 = .ok (.iconst (-1), 1) := by decide +kernel
theorem dK_goOut_54 : decode cK_goOut 54 = .ok (.if_icmp .ne 15, 3) := by decide +kernel
theorem dK_goOut_57 : decode cK_goOut 57 = .ok (.aload_n 0, 1) := by decide +kernel
theorem dK_goOut_58 : decode cK_goOut 58 = .ok (.dup, 1) := by decide +kernel
theorem dK_goOut_59 : decode cK_goOut 59 = .ok (.getfield 65, 3) := by decide +kernel
theorem dK_goOut_62 : decode cK_goOut 62 = .ok (.iconst 1, 1) := by decide +kernel
theorem dK_goOut_63 : decode cK_goOut 63 = .ok (.iload_n 3, 1) := by decide +kernel
theorem dK_goOut_64 : decode cK_goOut 64 = .ok (.ishl, 1) := by decide +kernel
theorem dK_goOut_65 : decode cK_goOut 65 = .ok (.ior, 1) := by decide +kernel
theorem dK_goOut_66 : decode cK_goOut 66 = .ok (.putfield 65, 3) := by decide +kernel
theorem dK_goOut_69 : decode cK_goOut 69 = .ok (.iload 4, 2) := by decide +kernel
theorem dK_goOut_71 : decode cK_goOut 71 = .ok (.iconst (-1), 1) := by decide +kernel
theorem dK_goOut_72 : decode cK_goOut 72 = .ok (.if_icmp .eq 46, 3) := by decide +kernel
theorem dK_goOut_75 : decode cK_goOut 75 = .ok (.aload_n 0, 1) := by decide +kernel
theorem dK_goOut_76 : decode cK_goOut 76 = .ok (.getfield 68, 3) := by decide +kernel
theorem dK_goOut_79 : decode cK_goOut 79 = .ok (.aload_n 0, 1) := by decide +kernel
theorem dK_goOut_80 : decode cK_goOut 80 = .ok (.getfield 9, 3) := by decide +kernel
theorem dK_goOut_83 : decode cK_goOut 83 = .ok (.arraylength, 1) := by decide +kernel
theorem dK_goOut_84 : decode cK_goOut 84 = .ok (.if_icmp .ge 34, 3) := by decide +kernel
theorem dK_goOut_87 : decode cK_goOut 87 = .ok (.aload_n 0, 1) := by decide +kernel
theorem dK_goOut_88 : decode cK_goOut 88 = .ok (.getfield 9, 3) := by decide +kernel
theorem dK_goOut_91 : decode cK_goOut 91 = .ok (.aload_n 0, 1) := by decide +kernel
theorem dK_goOut_92 : decode cK_goOut 92 = .ok (.getfield 68, 3) := by decide +kernel
theorem dK_goOut_95 : decode cK_goOut 95 = .ok (.iload 4, 2) := by decide +kernel
theorem dK_goOut_97 : decode cK_goOut 97 = .ok (.iastore, 1) := by decide +kernel
theorem dK_goOut_98 : decode cK_goOut 98 = .ok (.aload_n 0, 1) := by decide +kernel
theorem dK_goOut_99 : decode cK_goOut 99 = .ok (.getfield 15, 3) := by decide +kernel
theorem dK_goOut_102 : decode cK_goOut 102 = .ok (.aload_n 0, 1) := by decide +kernel
theorem dK_goOut_103 : decode cK_goOut 103 = .ok (.getfield 68, 3) := by decide +kernel
theorem dK_goOut_106 : decode cK_goOut 106 = .ok (.iload_n 2, 1) := by decide +kernel
theorem dK_goOut_107 : decode cK_goOut 107 = .ok (.iastore, 1) := by decide +kernel
theorem dK_goOut_108 : decode cK_goOut 108 = .ok (.aload_n 0, 1) := by decide +kernel
theorem dK_goOut_109 : decode cK_goOut 109 = .ok (.dup, 1) := by decide +kernel
theorem dK_goOut_110 : decode cK_goOut 110 = .ok (.getfield 68, 3) := by decide +kernel
theorem dK_goOut_113 : decode cK_goOut 113 = .ok (.iconst 1, 1) := by decide +kernel
theorem dK_goOut_114 : decode cK_goOut 114 = .ok (.iadd, 1) := by decide +kernel
theorem dK_goOut_115 : decode cK_goOut 115 = .ok (.putfield 68, 3) := by decide +kernel
theorem dK_goOut_118 : decode cK_goOut 118 = .ok (.return_, 1) := by decide +kernel
end
section
/-! what each instruction is, by program -/
theorem dT_init_0 : decode cT_init 0 = .ok (.aload_n 0, 1) := by decide +kernel
theorem dT_init_1 : decode cT_init 1 = .ok (.invokespecial 3, 3) := by decide +kernel
theorem dT_init_4 : decode cT_init 4 = .ok (.aload_n 0, 1) := by decide +kernel
theorem dT_init_5 : decode cT_init 5 = .ok (.sipush 144, 3) := by decide +kernel
theorem dT_init_8 : decode cT_init 8 = .ok (.newarray .int, 2) := by decide +kernel
theorem dT_init_10 : decode cT_init 10 = .ok (.putfield 11, 3) := by decide +kernel
theorem dT_init_13 : decode cT_init 13 = .ok (.aload_n 0, 1) := by decide +kernel
theorem dT_init_14 : decode cT_init 14 = .ok (.bipush 24, 2) := by decide +kernel
theorem dT_init_16 : decode cT_init 16 = .ok (.newarray .boolean, 2) := by decide +kernel
theorem dT_init_18 : decode cT_init 18 = .ok (.putfield 15, 3) := by decide +kernel
theorem dT_init_21 : decode cT_init 21 = .ok (.aload_n 0, 1) := by decide +kernel
theorem dT_init_22 : decode cT_init 22 = .ok (.sipush 144, 3) := by decide +kernel
theorem dT_init_25 : decode cT_init 25 = .ok (.newarray .int, 2) := by decide +kernel
theorem dT_init_27 : decode cT_init 27 = .ok (.putfield 19, 3) := by decide +kernel
theorem dT_init_30 : decode cT_init 30 = .ok (.aload_n 0, 1) := by decide +kernel
theorem dT_init_31 : decode cT_init 31 = .ok (.bipush 24, 2) := by decide +kernel
theorem dT_init_33 : decode cT_init 33 = .ok (.newarray .boolean, 2) := by decide +kernel
theorem dT_init_35 : decode cT_init 35 = .ok (.putfield 22, 3) := by decide +kernel
theorem dT_init_38 : decode cT_init 38 = .ok (.aload_n 0, 1) := by decide +kernel
theorem dT_init_39 : decode cT_init 39 = .ok (.bipush 6, 2) := by decide +kernel
theorem dT_init_41 : decode cT_init 41 = .ok (.newarray .int, 2) := by decide +kernel
theorem dT_init_43 : decode cT_init 43 = .ok (.putfield 25, 3) := by decide +kernel
theorem dT_init_46 : decode cT_init 46 = .ok (.aload_n 0, 1) := by decide +kernel
theorem dT_init_47 : decode cT_init 47 = .ok (.bipush 6, 2) := by decide +kernel
theorem dT_init_49 : decode cT_init 49 = .ok (.newarray .int, 2) := by decide +kernel
theorem dT_init_51 : decode cT_init 51 = .ok (.putfield 28, 3) := by decide +kernel
theorem dT_init_54 : decode cT_init 54 = .ok (.aload_n 0, 1) := by decide +kernel
theorem dT_init_55 : decode cT_init 55 = .ok (.bipush 6, 2) := by decide +kernel
theorem dT_init_57 : decode cT_init 57 = .ok (.newarray .int, 2) := by decide +kernel
theorem dT_init_59 : decode cT_init 59 = .ok (.putfield 31, 3) := by decide +kernel
theorem dT_init_62 : decode cT_init 62 = .ok (.aload_n 0, 1) := by decide +kernel
theorem dT_init_63 : decode cT_init 63 = .ok (.bipush 24, 2) := by decide +kernel
theorem dT_init_65 : decode cT_init 65 = .ok (.newarray .int, 2) := by decide +kernel
theorem dT_init_67 : decode cT_init 67 = .ok (.putfield 34, 3) := by decide +kernel
theorem dT_init_70 : decode cT_init 70 = .ok (.aload_n 0, 1) := by decide +kernel
theorem dT_init_71 : decode cT_init 71 = .ok (.bipush 24, 2) := by decide +kernel
theorem dT_init_73 : decode cT_init 73 = .ok (.newarray .int, 2) := by decide +kernel
theorem dT_init_75 : decode cT_init 75 = .ok (.putfield 37, 3) := by decide +kernel
theorem dT_init_78 : decode cT_init 78 = .ok (.aload_n 0, 1) := by decide +kernel
theorem dT_init_79 : decode cT_init 79 = .ok (.bipush 24, 2) := by decide +kernel
theorem dT_init_81 : decode cT_init 81 = .ok (.newarray .int, 2) := by decide +kernel
theorem dT_init_83 : decode cT_init 83 = .ok (.putfield 40, 3) := by decide +kernel
theorem dT_init_86 : decode cT_init 86 = .ok (.aload_n 0, 1) := by decide +kernel
theorem dT_init_87 : decode cT_init 87 = .ok (.bipush 6, 2) := by decide +kernel
theorem dT_init_89 : decode cT_init 89 = .ok (.newarray .int, 2) := by decide +kernel
theorem dT_init_91 : decode cT_init 91 = .ok (.putfield 43, 3) := by decide +kernel
theorem dT_init_94 : decode cT_init 94 = .ok (.aload_n 0, 1) := by decide +kernel
theorem dT_init_95 : decode cT_init 95 = .ok (.bipush 6, 2) := by decide +kernel
theorem dT_init_97 : decode cT_init 97 = .ok (.newarray .boolean, 2) := by decide +kernel
theorem dT_init_99 : decode cT_init 99 = .ok (.putfield 46, 3) := by decide +kernel
theorem dT_init_102 : decode cT_init 102 = .ok (.aload_n 0, 1) := by decide +kernel
theorem dT_init_103 : decode cT_init 103 = .ok (.bipush 6, 2) := by decide +kernel
theorem dT_init_105 : decode cT_init 105 = .ok (.newarray .boolean, 2) := by decide +kernel
theorem dT_init_107 : decode cT_init 107 = .ok (.putfield 49, 3) := by decide +kernel
theorem dT_init_110 : decode cT_init 110 = .ok (.aload_n 0, 1) := by decide +kernel
theorem dT_init_111 : decode cT_init 111 = .ok (.aload_n 1, 1) := by decide +kernel
theorem dT_init_112 : decode cT_init 112 = .ok (.putfield 52, 3) := by decide +kernel
theorem dT_init_115 : decode cT_init 115 = .ok (.aload_n 0, 1) := by decide +kernel
theorem dT_init_116 : decode cT_init 116 = .ok (.iload_n 2, 1) := by decide +kernel
theorem dT_init_117 : decode cT_init 117 = .ok (.putfield 56, 3) := by decide +kernel
theorem dT_init_120 : decode cT_init 120 = .ok (.aload_n 0, 1) := by decide +kernel
theorem dT_init_121 : decode cT_init 121 = .ok (.iload_n 3, 1) := by decide +kernel
theorem dT_init_122 : decode cT_init 122 = .ok (.putfield 60, 3) := by decide +kernel
theorem dT_init_125 : decode cT_init 125 = .ok (.aload_n 0, 1) := by decide +kernel
theorem dT_init_126 : decode cT_init 126 = .ok (.getfield 31, 3) := by decide +kernel
theorem dT_init_129 : decode cT_init 129 = .ok (.iconst (-1), 1) := by decide +kernel
theorem dT_init_130 : decode cT_init 130 = .ok (.invokestatic 63, 3) := by decide +kernel
theorem dT_init_133 : decode cT_init 133 = .ok (.return_, 1) := by decide +kernel
theorem dT_passTime_0 : decode cT_passTime 0 = .ok (.aload_n 0, 1) := by decide +kernel
theorem dT_passTime_1 : decode cT_passTime 1 = .ok (.dup, 1) := by decide +kernel
theorem dT_passTime_2 : decode cT_passTime 2 = .ok (.getfield 69, 3) := by decide +kernel
theorem dT_passTime_5 : decode cT_passTime 5 = .ok (.iconst 1, 1) := by decide +kernel
theorem dT_passTime_6 : decode cT_passTime 6 = .ok (.iadd, 1) := by decide +kernel
theorem dT_passTime_7 : decode cT_passTime 7 = .ok (.putfield 69, 3) := by decide +kernel
theorem dT_passTime_10 : decode cT_passTime 10 = .ok (.aload_n 0, 1) := by decide +kernel
theorem dT_passTime_11 : decode cT_passTime 11 = .ok (.invokevirtual 72, 3) := by decide +kernel
theorem dT_passTime_14 : decode cT_passTime 14 = .ok (.aload_n 0, 1) := by decide +kernel
theorem dT_passTime_15 : decode cT_passTime 15 = .ok (.invokevirtual 75, 3) := by decide +kernel
theorem dT_passTime_18 : decode cT_passTime 18 = .ok (.aload_n 0, 1) := by decide +kernel
theorem dT_passTime_19 : decode cT_passTime 19 = .ok (.invokevirtual 78, 3) := by decide +kernel
theorem dT_passTime_22 : decode cT_passTime 22 = .ok (.aload_n 0, 1) := by decide +kernel
theorem dT_passTime_23 : decode cT_passTime 23 = .ok (.invokevirtual 81, 3) := by decide +kernel
theorem dT_passTime_26 : decode cT_passTime 26 = .ok (.aload_n 0, 1) := by decide +kernel
theorem dT_passTime_27 : decode cT_passTime 27 = .ok (.invokevirtual 84, 3) := by decide +kernel
theorem dT_passTime_30 : decode cT_passTime 30 = .ok (.aload_n 0, 1) := by decide +kernel
theorem dT_passTime_31 : decode cT_passTime 31 = .ok (.invokevirtual 87, 3) := by decide +kernel
theorem dT_passTime_34 : decode cT_passTime 34 = .ok (.return_, 1) := by decide +kernel
theorem dT_settle_0 : decode cT_settle 0 = .ok (.aload_n 0, 1) := by decide +kernel
theorem dT_settle_1 : decode cT_settle 1 = .ok (.invokevirtual 75, 3) := by decide +kernel
theorem dT_settle_4 : decode cT_settle 4 = .ok (.iconst 4, 1) := by decide +kernel
theorem dT_settle_5 : decode cT_settle 5 = .ok (.aload_n 0, 1) := by decide +kernel
theorem dT_settle_6 : decode cT_settle 6 = .ok (.getfield 52, 3) := by decide +kernel
theorem dT_settle_9 : decode cT_settle 9 = .ok (.getfield 90, 3) := by decide +kernel
theorem dT_settle_12 : decode cT_settle 12 = .ok (.imul, 1) := by decide +kernel
theorem dT_settle_13 : decode cT_settle 13 = .ok (.istore_n 1, 1) := by decide +kernel
theorem dT_settle_14 : decode cT_settle 14 = .ok (.iconst 0, 1) := by decide +kernel
theorem dT_settle_15 : decode cT_settle 15 = .ok (.istore_n 2, 1) := by decide +kernel
theorem dT_settle_16 : decode cT_settle 16 = .ok (.iload_n 2, 1) := by decide +kernel
theorem dT_settle_17 : decode cT_settle 17 = .ok (.iload_n 1, 1) := by decide +kernel
theorem dT_settle_18 : decode cT_settle 18 = .ok (.if_icmp .ge 54, 3) := by decide +kernel
theorem dT_settle_21 : decode cT_settle 21 = .ok (.aload_n 0, 1) := by decide +kernel
theorem dT_settle_22 : decode cT_settle 22 = .ok (.iload_n 2, 1) := by decide +kernel
theorem dT_settle_23 : decode cT_settle 23 = .ok (.invokevirtual 95, 3) := by decide +kernel
theorem dT_settle_26 : decode cT_settle 26 = .ok (.aload_n 0, 1) := by decide +kernel
theorem dT_settle_27 : decode cT_settle 27 = .ok (.getfield 40, 3) := by decide +kernel
theorem dT_settle_30 : decode cT_settle 30 = .ok (.iload_n 2, 1) := by decide +kernel
theorem dT_settle_31 : decode cT_settle 31 = .ok (.iaload, 1) := by decide +kernel
theorem dT_settle_32 : decode cT_settle 32 = .ok (.istore_n 3, 1) := by decide +kernel
theorem dT_settle_33 : decode cT_settle 33 = .ok (.aload_n 0, 1) := by decide +kernel
theorem dT_settle_34 : decode cT_settle 34 = .ok (.getfield 40, 3) := by decide +kernel
theorem dT_settle_37 : decode cT_settle 37 = .ok (.iload_n 2, 1) := by decide +kernel
theorem dT_settle_38 : decode cT_settle 38 = .ok (.aload_n 0, 1) := by decide +kernel
theorem dT_settle_39 : decode cT_settle 39 = .ok (.iload_n 2, 1) := by decide +kernel
theorem dT_settle_40 : decode cT_settle 40 = .ok (.invokevirtual 99, 3) := by decide +kernel
theorem dT_settle_43 : decode cT_settle 43 = .ok (.iastore, 1) := by decide +kernel
theorem dT_settle_44 : decode cT_settle 44 = .ok (.iload_n 3, 1) := by decide +kernel
theorem dT_settle_45 : decode cT_settle 45 = .ok (.aload_n 0, 1) := by decide +kernel
theorem dT_settle_46 : decode cT_settle 46 = .ok (.getfield 40, 3) := by decide +kernel
theorem dT_settle_49 : decode cT_settle 49 = .ok (.iload_n 2, 1) := by decide +kernel
theorem dT_settle_50 : decode cT_settle 50 = .ok (.iaload, 1) := by decide +kernel
theorem dT_settle_51 : decode cT_settle 51 = .ok (.invokestatic 103, 3) := by decide +kernel
theorem dT_settle_54 : decode cT_settle 54 = .ok (.ifCond .eq 12, 3) := by decide +kernel
theorem dT_settle_57 : decode cT_settle 57 = .ok (.aload_n 0, 1) := by decide +kernel
theorem dT_settle_58 : decode cT_settle 58 = .ok (.getfield 46, 3) := by decide +kernel
theorem dT_settle_61 : decode cT_settle 61 = .ok (.iload_n 2, 1) := by decide +kernel
theorem dT_settle_62 : decode cT_settle 62 = .ok (.iconst 4, 1) := by decide +kernel
theorem dT_settle_63 : decode cT_settle 63 = .ok (.idiv, 1) := by decide +kernel
theorem dT_settle_64 : decode cT_settle 64 = .ok (.iconst 1, 1) := by decide +kernel
theorem dT_settle_65 : decode cT_settle 65 = .ok (.bastore, 1) := by decide +kernel
theorem dT_settle_66 : decode cT_settle 66 = .ok (.iinc 2 1, 3) := by decide +kernel
theorem dT_settle_69 : decode cT_settle 69 = .ok (.goto (-53), 3) := by decide +kernel
theorem dT_settle_72 : decode cT_settle 72 = .ok (.return_, 1) := by decide +kernel
theorem dT_dropMessage_0 : decode cT_dropMessage 0 = .ok (.aload_n 0, 1) := by decide +kernel
theorem dT_dropMessage_1 : decode cT_dropMessage 1 = .ok (.getfield 15, 3) := by decide +kernel
theorem dT_dropMessage_4 : decode cT_dropMessage 4 = .ok (.iload_n 1, 1) := by decide +kernel
theorem dT_dropMessage_5 : decode cT_dropMessage 5 = .ok (.iconst 0, 1) := by decide +kernel
theorem dT_dropMessage_6 : decode cT_dropMessage 6 = .ok (.bastore, 1) := by decide +kernel
theorem dT_dropMessage_7 : decode cT_dropMessage 7 = .ok (.return_, 1) := by decide +kernel
theorem dT_isMarked_0 : decode cT_isMarked 0 = .ok (.aload_n 0, 1) := by decide +kernel
theorem dT_isMarked_1 : decode cT_isMarked 1 = .ok (.getfield 31, 3) := by decide +kernel
theorem dT_isMarked_4 : decode cT_isMarked 4 = .ok (.iload_n 1, 1) := by decide +kernel
theorem dT_isMarked_5 : decode cT_isMarked 5 = .ok (.iaload, 1) := by decide +kernel
theorem dT_isMarked_6 : decode cT_isMarked 6 = .ok (.iconst (-1), 1) := by decide +kernel
theorem dT_isMarked_7 : decode cT_isMarked 7 = .ok (.if_icmp .ne 22, 3) := by decide +kernel
theorem dT_isMarked_10 : decode cT_isMarked 10 = .ok (.aload_n 0, 1) := by decide +kernel
theorem dT_isMarked_11 : decode cT_isMarked 11 = .ok (.getfield 69, 3) := by decide +kernel
theorem dT_isMarked_14 : decode cT_isMarked 14 = .ok (.aload_n 0, 1) := by decide +kernel
theorem dT_isMarked_15 : decode cT_isMarked 15 = .ok (.getfield 43, 3) := by decide +kernel
theorem dT_isMarked_18 : decode cT_isMarked 18 = .ok (.iload_n 1, 1) := by decide +kernel
theorem dT_isMarked_19 : decode cT_isMarked 19 = .ok (.iaload, 1) := by decide +kernel
theorem dT_isMarked_20 : decode cT_isMarked 20 = .ok (.if_icmp .ge 7, 3) := by decide +kernel
theorem dT_isMarked_23 : decode cT_isMarked 23 = .ok (.iconst 1, 1) := by decide +kernel
theorem dT_isMarked_24 : decode cT_isMarked 24 = .ok (.goto 4, 3) := by decide +kernel
theorem dT_isMarked_27 : decode cT_isMarked 27 = .ok (.iconst 0, 1) := by decide +kernel
theorem dT_isMarked_28 : decode cT_isMarked 28 = .ok (.ireturn, 1) := by decide +kernel
theorem dT_isMarked_29 : decode cT_isMarked 29 = .ok (.aload_n 0, 1) := by decide +kernel
theorem dT_isMarked_30 : decode cT_isMarked 30 = .ok (.getfield 11, 3) := by decide +kernel
theorem dT_isMarked_33 : decode cT_isMarked 33 = .ok (.bipush 6, 2) := by decide +kernel
theorem dT_isMarked_35 : decode cT_isMarked 35 = .ok (.aload_n 0, 1) := by decide +kernel
theorem dT_isMarked_36 : decode cT_isMarked 36 = .ok (.getfield 31, 3) := by decide +kernel
theorem dT_isMarked_39 : decode cT_isMarked 39 = .ok (.iload_n 1, 1) := by decide +kernel
theorem dT_isMarked_40 : decode cT_isMarked 40 = .ok (.iaload, 1) := by decide +kernel
theorem dT_isMarked_41 : decode cT_isMarked 41 = .ok (.imul, 1) := by decide +kernel
theorem dT_isMarked_42 : decode cT_isMarked 42 = .ok (.iconst 5, 1) := by decide +kernel
theorem dT_isMarked_43 : decode cT_isMarked 43 = .ok (.iadd, 1) := by decide +kernel
theorem dT_isMarked_44 : decode cT_isMarked 44 = .ok (.iaload, 1) := by decide +kernel
theorem dT_isMarked_45 : decode cT_isMarked 45 = .ok (.iconst 1, 1) := by decide +kernel
theorem dT_isMarked_46 : decode cT_isMarked 46 = .ok (.if_icmp .ne 7, 3) := by decide +kernel
theorem dT_isMarked_49 : decode cT_isMarked 49 = .ok (.iconst 1, 1) := by decide +kernel
theorem dT_isMarked_50 : decode cT_isMarked 50 = .ok (.goto 4, 3) := by decide +kernel
theorem dT_isMarked_53 : decode cT_isMarked 53 = .ok (.iconst 0, 1) := by decide +kernel
theorem dT_isMarked_54 : decode cT_isMarked 54 = .ok (.ireturn, 1) := by decide +kernel
theorem dT_ageMessages_0 : decode cT_ageMessages 0 = .ok (.iconst 0, 1) := by decide +kernel
theorem dT_ageMessages_1 : decode cT_ageMessages 1 = .ok (.istore_n 1, 1) := by decide +kernel
theorem dT_ageMessages_2 : decode cT_ageMessages 2 = .ok (.iload_n 1, 1) := by decide +kernel
theorem dT_ageMessages_3 : decode cT_ageMessages 3 = .ok (.bipush 24, 2) := by decide +kernel
theorem dT_ageMessages_5 : decode cT_ageMessages 5 = .ok (.if_icmp .ge 62, 3) := by decide +kernel
theorem dT_ageMessages_8 : decode cT_ageMessages 8 = .ok (.aload_n 0, 1) := by decide +kernel
theorem dT_ageMessages_9 : decode cT_ageMessages 9 = .ok (.getfield 15, 3) := by decide +kernel
theorem dT_ageMessages_12 : decode cT_ageMessages 12 = .ok (.iload_n 1, 1) := by decide +kernel
theorem dT_ageMessages_13 : decode cT_ageMessages 13 = .ok (.baload, 1) := by decide +kernel
theorem dT_ageMessages_14 : decode cT_ageMessages 14 = .ok (.ifCond .eq 47, 3) := by decide +kernel
theorem dT_ageMessages_17 : decode cT_ageMessages 17 = .ok (.aload_n 0, 1) := by decide +kernel
theorem dT_ageMessages_18 : decode cT_ageMessages 18 = .ok (.getfield 11, 3) := by decide +kernel
theorem dT_ageMessages_21 : decode cT_ageMessages 21 = .ok (.bipush 6, 2) := by decide +kernel
theorem dT_ageMessages_23 : decode cT_ageMessages 23 = .ok (.iload_n 1, 1) := by decide +kernel
theorem dT_ageMessages_24 : decode cT_ageMessages 24 = .ok (.imul, 1) := by decide +kernel
theorem dT_ageMessages_25 : decode cT_ageMessages 25 = .ok (.iconst 4, 1) := by decide +kernel
theorem dT_ageMessages_26 : decode cT_ageMessages 26 = .ok (.iadd, 1) := by decide +kernel
theorem dT_ageMessages_27 : decode cT_ageMessages 27 = .ok (.dup2, 1) := by decide +kernel
theorem dT_ageMessages_28 : decode cT_ageMessages 28 = .ok (.iaload, 1) := by decide +kernel
theorem dT_ageMessages_29 : decode cT_ageMessages 29 = .ok (.iconst 1, 1) := by decide +kernel
theorem dT_ageMessages_30 : decode cT_ageMessages 30 = .ok (.iadd, 1) := by decide +kernel
theorem dT_ageMessages_31 : decode cT_ageMessages 31 = .ok (.iastore, 1) := by decide +kernel
theorem dT_ageMessages_32 : decode cT_ageMessages 32 = .ok (.aload_n 0, 1) := by decide +kernel
theorem dT_ageMessages_33 : decode cT_ageMessages 33 = .ok (.getfield 15, 3) := by decide +kernel
theorem dT_ageMessages_36 : decode cT_ageMessages 36 = .ok (.iload_n 1, 1) := by decide +kernel
theorem dT_ageMessages_37 : decode cT_ageMessages 37 = .ok (.aload_n 0, 1) := by decide +kernel
theorem dT_ageMessages_38 : decode cT_ageMessages 38 = .ok (.getfield 11, 3) := by decide +kernel
theorem dT_ageMessages_41 : decode cT_ageMessages 41 = .ok (.bipush 6, 2) := by decide +kernel
theorem dT_ageMessages_43 : decode cT_ageMessages 43 = .ok (.iload_n 1, 1) := by decide +kernel
theorem dT_ageMessages_44 : decode cT_ageMessages 44 = .ok (.imul, 1) := by decide +kernel
theorem dT_ageMessages_45 : decode cT_ageMessages 45 = .ok (.iconst 4, 1) := by decide +kernel
theorem dT_ageMessages_46 : decode cT_ageMessages 46 = .ok (.iadd, 1) := by decide +kernel
theorem dT_ageMessages_47 : decode cT_ageMessages 47 = .ok (.iaload, 1) := by decide +kernel
theorem dT_ageMessages_48 : decode cT_ageMessages 48 = .ok (.aload_n 0, 1) := by decide +kernel
theorem dT_ageMessages_49 : decode cT_ageMessages 49 = .ok (.getfield 56, 3) := by decide +kernel
theorem dT_ageMessages_52 : decode cT_ageMessages 52 = .ok (.if_icmp .ge 7, 3) := by decide +kernel
theorem dT_ageMessages_55 : decode cT_ageMessages 55 = .ok (.iconst 1, 1) := by decide +kernel
theorem dT_ageMessages_56 : decode cT_ageMessages 56 = .ok (.goto 4, 3) := by decide +kernel
theorem dT_ageMessages_59 : decode cT_ageMessages 59 = .ok (.iconst 0, 1) := by decide +kernel
theorem dT_ageMessages_60 : decode cT_ageMessages 60 = .ok (.bastore, 1) := by decide +kernel
theorem dT_ageMessages_61 : decode cT_ageMessages 61 = .ok (.iinc 1 1, 3) := by decide +kernel
theorem dT_ageMessages_64 : decode cT_ageMessages 64 = .ok (.goto (-62), 3) := by decide +kernel
theorem dT_ageMessages_67 : decode cT_ageMessages 67 = .ok (.return_, 1) := by decide +kernel
theorem dT_chooseRoots_0 : decode cT_chooseRoots 0 = .ok (.iconst 0, 1) := by decide +kernel
theorem dT_chooseRoots_1 : decode cT_chooseRoots 1 = .ok (.istore_n 1, 1) := by decide +kernel
theorem dT_chooseRoots_2 : decode cT_chooseRoots 2 = .ok (.iload_n 1, 1) := by decide +kernel
theorem dT_chooseRoots_3 : decode cT_chooseRoots 3 = .ok (.aload_n 0, 1) := by decide +kernel
theorem dT_chooseRoots_4 : decode cT_chooseRoots 4 = .ok (.getfield 52, 3) := by decide +kernel
theorem dT_chooseRoots_7 : decode cT_chooseRoots 7 = .ok (.getfield 90, 3) := by decide +kernel
theorem dT_chooseRoots_10 : decode cT_chooseRoots 10 = .ok (.if_icmp .ge 76, 3) := by decide +kernel
theorem dT_chooseRoots_13 : decode cT_chooseRoots 13 = .ok (.aload_n 0, 1) := by decide +kernel
theorem dT_chooseRoots_14 : decode cT_chooseRoots 14 = .ok (.iload_n 1, 1) := by decide +kernel
theorem dT_chooseRoots_15 : decode cT_chooseRoots 15 = .ok (.invokevirtual 107, 3) := by decide +kernel
theorem dT_chooseRoots_18 : decode cT_chooseRoots 18 = .ok (.istore_n 2, 1) := by decide +kernel
theorem dT_chooseRoots_19 : decode cT_chooseRoots 19 = .ok (.aload_n 0, 1) := by decide +kernel
theorem dT_chooseRoots_20 : decode cT_chooseRoots 20 = .ok (.getfield 31, 3) := by decide +kernel
theorem dT_chooseRoots_23 : decode cT_chooseRoots 23 = .ok (.iload_n 1, 1) := by decide +kernel
theorem dT_chooseRoots_24 : decode cT_chooseRoots 24 = .ok (.iload_n 2, 1) := by decide +kernel
theorem dT_chooseRoots_25 : decode cT_chooseRoots 25 = .ok (.iastore, 1) := by decide +kernel
theorem dT_chooseRoots_26 : decode cT_chooseRoots 26 = .ok (.aload_n 0, 1) := by decide +kernel
theorem dT_chooseRoots_27 : decode cT_chooseRoots 27 = .ok (.getfield 25, 3) := by decide +kernel
theorem dT_chooseRoots_30 : decode cT_chooseRoots 30 = .ok (.iload_n 1, 1) := by decide +kernel
theorem dT_chooseRoots_31 : decode cT_chooseRoots 31 = .ok (.iload_n 2, 1) := by decide +kernel
theorem dT_chooseRoots_32 : decode cT_chooseRoots 32 = .ok (.iconst (-1), 1) := by decide +kernel
theorem dT_chooseRoots_33 : decode cT_chooseRoots 33 = .ok (.if_icmp .ne 15, 3) := by decide +kernel
theorem dT_chooseRoots_36 : decode cT_chooseRoots 36 = .ok (.aload_n 0, 1) := by decide +kernel
theorem dT_chooseRoots_37 : decode cT_chooseRoots 37 = .ok (.getfield 52, 3) := by decide +kernel
theorem dT_chooseRoots_40 : decode cT_chooseRoots 40 = .ok (.getfield 110, 3) := by decide +kernel
theorem dT_chooseRoots_43 : decode cT_chooseRoots 43 = .ok (.iload_n 1, 1) := by decide +kernel
theorem dT_chooseRoots_44 : decode cT_chooseRoots 44 = .ok (.iaload, 1) := by decide +kernel
theorem dT_chooseRoots_45 : decode cT_chooseRoots 45 = .ok (.goto 14, 3) := by decide +kernel
theorem dT_chooseRoots_48 : decode cT_chooseRoots 48 = .ok (.aload_n 0, 1) := by decide +kernel
theorem dT_chooseRoots_49 : decode cT_chooseRoots 49 = .ok (.getfield 11, 3) := by decide +kernel
theorem dT_chooseRoots_52 : decode cT_chooseRoots 52 = .ok (.bipush 6, 2) := by decide +kernel
theorem dT_chooseRoots_54 : decode cT_chooseRoots 54 = .ok (.iload_n 2, 1) := by decide +kernel
theorem dT_chooseRoots_55 : decode cT_chooseRoots 55 = .ok (.imul, 1) := by decide +kernel
theorem dT_chooseRoots_56 : decode cT_chooseRoots 56 = .ok (.iconst 0, 1) := by decide +kernel
theorem dT_chooseRoots_57 : decode cT_chooseRoots 57 = .ok (.iadd, 1) := by decide +kernel
theorem dT_chooseRoots_58 : decode cT_chooseRoots 58 = .ok (.iaload, 1) := by decide +kernel
theorem dT_chooseRoots_59 : decode cT_chooseRoots 59 = .ok (.iastore, 1) := by decide +kernel
theorem dT_chooseRoots_60 : decode cT_chooseRoots 60 = .ok (.aload_n 0, 1) := by decide +kernel
theorem dT_chooseRoots_61 : decode cT_chooseRoots 61 = .ok (.getfield 28, 3) := by decide +kernel
theorem dT_chooseRoots_64 : decode cT_chooseRoots 64 = .ok (.iload_n 1, 1) := by decide +kernel
theorem dT_chooseRoots_65 : decode cT_chooseRoots 65 = .ok (.iload_n 2, 1) := by decide +kernel
theorem dT_chooseRoots_66 : decode cT_chooseRoots 66 = .ok (.iconst (-1), 1) := by decide +kernel
theorem dT_chooseRoots_67 : decode cT_chooseRoots 67 = .ok (.if_icmp .ne 7, 3) := by decide +kernel
theorem dT_chooseRoots_70 : decode cT_chooseRoots 70 = .ok (.iconst 0, 1) := by decide +kernel
theorem dT_chooseRoots_71 : decode cT_chooseRoots 71 = .ok (.goto 8, 3) := by decide +kernel
theorem dT_chooseRoots_74 : decode cT_chooseRoots 74 = .ok (.aload_n 0, 1) := by decide +kernel
theorem dT_chooseRoots_75 : decode cT_chooseRoots 75 = .ok (.iload_n 2, 1) := by decide +kernel
theorem dT_chooseRoots_76 : decode cT_chooseRoots 76 = .ok (.invokevirtual 113, 3) := by decide +kernel
theorem dT_chooseRoots_79 : decode cT_chooseRoots 79 = .ok (.iastore, 1) := by decide +kernel
theorem dT_chooseRoots_80 : decode cT_chooseRoots 80 = .ok (.iinc 1 1, 3) := by decide +kernel
theorem dT_chooseRoots_83 : decode cT_chooseRoots 83 = .ok (.goto (-81), 3) := by decide +kernel
theorem dT_chooseRoots_86 : decode cT_chooseRoots 86 = .ok (.return_, 1) := by decide +kernel
theorem dT_bestOffer_0 : decode cT_bestOffer 0 = .ok (.iconst (-1), 1) := by decide +kernel
theorem dT_bestOffer_1 : decode cT_bestOffer 1 = .ok (.istore_n 2, 1) := by decide +kernel
theorem dT_bestOffer_2 : decode cT_bestOffer 2 = .ok (.iconst 4, 1) := by decide +kernel
theorem dT_bestOffer_3 : decode cT_bestOffer 3 = .ok (.iload_n 1, 1) := by decide +kernel
theorem dT_bestOffer_4 : decode cT_bestOffer 4 = .ok (.imul, 1) := by decide +kernel
theorem dT_bestOffer_5 : decode cT_bestOffer 5 = .ok (.istore_n 3, 1) := by decide +kernel
theorem dT_bestOffer_6 : decode cT_bestOffer 6 = .ok (.iload_n 3, 1) := by decide +kernel
theorem dT_bestOffer_7 : decode cT_bestOffer 7 = .ok (.iconst 4, 1) := by decide +kernel
theorem dT_bestOffer_8 : decode cT_bestOffer 8 = .ok (.iload_n 1, 1) := by decide +kernel
theorem dT_bestOffer_9 : decode cT_bestOffer 9 = .ok (.imul, 1) := by decide +kernel
theorem dT_bestOffer_10 : decode cT_bestOffer 10 = .ok (.iconst 4, 1) := by decide +kernel
theorem dT_bestOffer_11 : decode cT_bestOffer 11 = .ok (.iadd, 1) := by decide +kernel
theorem dT_bestOffer_12 : decode cT_bestOffer 12 = .ok (.if_icmp .ge 38, 3) := by decide +kernel
theorem dT_bestOffer_15 : decode cT_bestOffer 15 = .ok (.aload_n 0, 1) := by decide +kernel
theorem dT_bestOffer_16 : decode cT_bestOffer 16 = .ok (.iload_n 3, 1) := by decide +kernel
theorem dT_bestOffer_17 : decode cT_bestOffer 17 = .ok (.invokevirtual 116, 3) := by decide +kernel
theorem dT_bestOffer_20 : decode cT_bestOffer 20 = .ok (.ifCond .eq 24, 3) := by decide +kernel
theorem dT_bestOffer_23 : decode cT_bestOffer 23 = .ok (.iload_n 2, 1) := by decide +kernel
theorem dT_bestOffer_24 : decode cT_bestOffer 24 = .ok (.iconst (-1), 1) := by decide +kernel
theorem dT_bestOffer_25 : decode cT_bestOffer 25 = .ok (.if_icmp .eq 17, 3) := by decide +kernel
theorem dT_bestOffer_28 : decode cT_bestOffer 28 = .ok (.aload_n 0, 1) := by decide +kernel
theorem dT_bestOffer_29 : decode cT_bestOffer 29 = .ok (.iload_n 3, 1) := by decide +kernel
theorem dT_bestOffer_30 : decode cT_bestOffer 30 = .ok (.invokevirtual 120, 3) := by decide +kernel
theorem dT_bestOffer_33 : decode cT_bestOffer 33 = .ok (.aload_n 0, 1) := by decide +kernel
theorem dT_bestOffer_34 : decode cT_bestOffer 34 = .ok (.iload_n 2, 1) := by decide +kernel
theorem dT_bestOffer_35 : decode cT_bestOffer 35 = .ok (.invokevirtual 120, 3) := by decide +kernel
theorem dT_bestOffer_38 : decode cT_bestOffer 38 = .ok (.lcmp, 1) := by decide +kernel
theorem dT_bestOffer_39 : decode cT_bestOffer 39 = .ok (.ifCond .ge 5, 3) := by decide +kernel
theorem dT_bestOffer_42 : decode cT_bestOffer 42 = .ok (.iload_n 3, 1) := by decide +kernel
theorem dT_bestOffer_43 : decode cT_bestOffer 43 = .ok (.istore_n 2, 1) := by decide +kernel
theorem dT_bestOffer_44 : decode cT_bestOffer 44 = .ok (.iinc 3 1, 3) := by decide +kernel
theorem dT_bestOffer_47 : decode cT_bestOffer 47 = .ok (.goto (-41), 3) := by decide +kernel
theorem dT_bestOffer_50 : decode cT_bestOffer 50 = .ok (.iload_n 2, 1) := by decide +kernel
theorem dT_bestOffer_51 : decode cT_bestOffer 51 = .ok (.ireturn, 1) := by decide +kernel
theorem dT_isOffering_0 : decode cT_isOffering 0 = .ok (.aload_n 0, 1) := by decide +kernel
theorem dT_isOffering_1 : decode cT_isOffering 1 = .ok (.getfield 15, 3) := by decide +kernel
theorem dT_isOffering_4 : decode cT_isOffering 4 = .ok (.iload_n 1, 1) := by decide +kernel
theorem dT_isOffering_5 : decode cT_isOffering 5 = .ok (.baload, 1) := by decide +kernel
theorem dT_isOffering_6 : decode cT_isOffering 6 = .ok (.ifCond .eq 43, 3) := by decide +kernel
theorem dT_isOffering_9 : decode cT_isOffering 9 = .ok (.aload_n 0, 1) := by decide +kernel
theorem dT_isOffering_10 : decode cT_isOffering 10 = .ok (.getfield 52, 3) := by decide +kernel
theorem dT_isOffering_13 : decode cT_isOffering 13 = .ok (.iload_n 1, 1) := by decide +kernel
theorem dT_isOffering_14 : decode cT_isOffering 14 = .ok (.invokevirtual 124, 3) := by decide +kernel
theorem dT_isOffering_17 : decode cT_isOffering 17 = .ok (.ifCond .eq 32, 3) := by decide +kernel
theorem dT_isOffering_20 : decode cT_isOffering 20 = .ok (.aload_n 0, 1) := by decide +kernel
theorem dT_isOffering_21 : decode cT_isOffering 21 = .ok (.getfield 11, 3) := by decide +kernel
theorem dT_isOffering_24 : decode cT_isOffering 24 = .ok (.bipush 6, 2) := by decide +kernel
theorem dT_isOffering_26 : decode cT_isOffering 26 = .ok (.iload_n 1, 1) := by decide +kernel
theorem dT_isOffering_27 : decode cT_isOffering 27 = .ok (.imul, 1) := by decide +kernel
theorem dT_isOffering_28 : decode cT_isOffering 28 = .ok (.iconst 0, 1) := by decide +kernel
theorem dT_isOffering_29 : decode cT_isOffering 29 = .ok (.iadd, 1) := by decide +kernel
theorem dT_isOffering_30 : decode cT_isOffering 30 = .ok (.iaload, 1) := by decide +kernel
theorem dT_isOffering_31 : decode cT_isOffering 31 = .ok (.aload_n 0, 1) := by decide +kernel
theorem dT_isOffering_32 : decode cT_isOffering 32 = .ok (.getfield 52, 3) := by decide +kernel
theorem dT_isOffering_35 : decode cT_isOffering 35 = .ok (.getfield 110, 3) := by decide +kernel
theorem dT_isOffering_38 : decode cT_isOffering 38 = .ok (.iload_n 1, 1) := by decide +kernel
theorem dT_isOffering_39 : decode cT_isOffering 39 = .ok (.iconst 4, 1) := by decide +kernel
theorem dT_isOffering_40 : decode cT_isOffering 40 = .ok (.idiv, 1) := by decide +kernel
theorem dT_isOffering_41 : decode cT_isOffering 41 = .ok (.iaload, 1) := by decide +kernel
theorem dT_isOffering_42 : decode cT_isOffering 42 = .ok (.if_icmp .ge 7, 3) := by decide +kernel
theorem dT_isOffering_45 : decode cT_isOffering 45 = .ok (.iconst 1, 1) := by decide +kernel
theorem dT_isOffering_46 : decode cT_isOffering 46 = .ok (.goto 4, 3) := by decide +kernel
theorem dT_isOffering_49 : decode cT_isOffering 49 = .ok (.iconst 0, 1) := by decide +kernel
theorem dT_isOffering_50 : decode cT_isOffering 50 = .ok (.ireturn, 1) := by decide +kernel
theorem dT_offeredCost_0 : decode cT_offeredCost 0 = .ok (.aload_n 0, 1) := by decide +kernel
theorem dT_offeredCost_1 : decode cT_offeredCost 1 = .ok (.getfield 52, 3) := by decide +kernel
theorem dT_offeredCost_4 : decode cT_offeredCost 4 = .ok (.getfield 127, 3) := by decide +kernel
theorem dT_offeredCost_7 : decode cT_offeredCost 7 = .ok (.iload_n 1, 1) := by decide +kernel
theorem dT_offeredCost_8 : decode cT_offeredCost 8 = .ok (.iaload, 1) := by decide +kernel
theorem dT_offeredCost_9 : decode cT_offeredCost 9 = .ok (.istore_n 2, 1) := by decide +kernel
theorem dT_offeredCost_10 : decode cT_offeredCost 10 = .ok (.aload_n 0, 1) := by decide +kernel
theorem dT_offeredCost_11 : decode cT_offeredCost 11 = .ok (.getfield 11, 3) := by decide +kernel
theorem dT_offeredCost_14 : decode cT_offeredCost 14 = .ok (.bipush 6, 2) := by decide +kernel
theorem dT_offeredCost_16 : decode cT_offeredCost 16 = .ok (.iload_n 1, 1) := by decide +kernel
theorem dT_offeredCost_17 : decode cT_offeredCost 17 = .ok (.imul, 1) := by decide +kernel
theorem dT_offeredCost_18 : decode cT_offeredCost 18 = .ok (.iconst 1, 1) := by decide +kernel
theorem dT_offeredCost_19 : decode cT_offeredCost 19 = .ok (.iadd, 1) := by decide +kernel
theorem dT_offeredCost_20 : decode cT_offeredCost 20 = .ok (.iaload, 1) := by decide +kernel
theorem dT_offeredCost_21 : decode cT_offeredCost 21 = .ok (.iload_n 2, 1) := by decide +kernel
theorem dT_offeredCost_22 : decode cT_offeredCost 22 = .ok (.iconst (-1), 1) := by decide +kernel
theorem dT_offeredCost_23 : decode cT_offeredCost 23 = .ok (.if_icmp .ne 7, 3) := by decide +kernel
theorem dT_offeredCost_26 : decode cT_offeredCost 26 = .ok (.iconst 0, 1) := by decide +kernel
theorem dT_offeredCost_27 : decode cT_offeredCost 27 = .ok (.goto 12, 3) := by decide +kernel
theorem dT_offeredCost_30 : decode cT_offeredCost 30 = .ok (.aload_n 0, 1) := by decide +kernel
theorem dT_offeredCost_31 : decode cT_offeredCost 31 = .ok (.getfield 52, 3) := by decide +kernel
theorem dT_offeredCost_34 : decode cT_offeredCost 34 = .ok (.getfield 130, 3) := by decide +kernel
theorem dT_offeredCost_37 : decode cT_offeredCost 37 = .ok (.iload_n 2, 1) := by decide +kernel
theorem dT_offeredCost_38 : decode cT_offeredCost 38 = .ok (.iaload, 1) := by decide +kernel
theorem dT_offeredCost_39 : decode cT_offeredCost 39 = .ok (.iadd, 1) := by decide +kernel
theorem dT_offeredCost_40 : decode cT_offeredCost 40 = .ok (.ireturn, 1) := by decide +kernel
theorem dT_offerRank_0 : decode cT_offerRank 0 = .ok (.bipush 6, 2) := by decide +kernel
theorem dT_offerRank_2 : decode cT_offerRank 2 = .ok (.iload_n 1, 1) := by decide +kernel
theorem dT_offerRank_3 : decode cT_offerRank 3 = .ok (.imul, 1) := by decide +kernel
theorem dT_offerRank_4 : decode cT_offerRank 4 = .ok (.istore_n 2, 1) := by decide +kernel
theorem dT_offerRank_5 : decode cT_offerRank 5 = .ok (.aload_n 0, 1) := by decide +kernel
theorem dT_offerRank_6 : decode cT_offerRank 6 = .ok (.getfield 11, 3) := by decide +kernel
theorem dT_offerRank_9 : decode cT_offerRank 9 = .ok (.iload_n 2, 1) := by decide +kernel
theorem dT_offerRank_10 : decode cT_offerRank 10 = .ok (.iconst 0, 1) := by decide +kernel
theorem dT_offerRank_11 : decode cT_offerRank 11 = .ok (.iadd, 1) := by decide +kernel
theorem dT_offerRank_12 : decode cT_offerRank 12 = .ok (.iaload, 1) := by decide +kernel
theorem dT_offerRank_13 : decode cT_offerRank 13 = .ok (.i2l, 1) := by decide +kernel
theorem dT_offerRank_14 : decode cT_offerRank 14 = .ok (.aload_n 0, 1) := by decide +kernel
theorem dT_offerRank_15 : decode cT_offerRank 15 = .ok (.iload_n 1, 1) := by decide +kernel
theorem dT_offerRank_16 : decode cT_offerRank 16 = .ok (.invokevirtual 113, 3) := by decide +kernel
theorem dT_offerRank_19 : decode cT_offerRank 19 = .ok (.i2l, 1) := by decide +kernel
theorem dT_offerRank_20 : decode cT_offerRank 20 = .ok (.aload_n 0, 1) := by decide +kernel
theorem dT_offerRank_21 : decode cT_offerRank 21 = .ok (.getfield 11, 3) := by decide +kernel
theorem dT_offerRank_24 : decode cT_offerRank 24 = .ok (.iload_n 2, 1) := by decide +kernel
theorem dT_offerRank_25 : decode cT_offerRank 25 = .ok (.iconst 2, 1) := by decide +kernel
theorem dT_offerRank_26 : decode cT_offerRank 26 = .ok (.iadd, 1) := by decide +kernel
theorem dT_offerRank_27 : decode cT_offerRank 27 = .ok (.iaload, 1) := by decide +kernel
theorem dT_offerRank_28 : decode cT_offerRank 28 = .ok (.i2l, 1) := by decide +kernel
theorem dT_offerRank_29 : decode cT_offerRank 29 = .ok (.aload_n 0, 1) := by decide +kernel
theorem dT_offerRank_30 : decode cT_offerRank 30 = .ok (.getfield 11, 3) := by decide +kernel
theorem dT_offerRank_33 : decode cT_offerRank 33 = .ok (.iload_n 2, 1) := by decide +kernel
theorem dT_offerRank_34 : decode cT_offerRank 34 = .ok (.iconst 3, 1) := by decide +kernel
theorem dT_offerRank_35 : decode cT_offerRank 35 = .ok (.iadd, 1) := by decide +kernel
theorem dT_offerRank_36 : decode cT_offerRank 36 = .ok (.iaload, 1) := by decide +kernel
theorem dT_offerRank_37 : decode cT_offerRank 37 = .ok (.i2l, 1) := by decide +kernel
theorem dT_offerRank_38 : decode cT_offerRank 38 = .ok (.invokestatic 133, 3) := by decide +kernel
theorem dT_offerRank_41 : decode cT_offerRank 41 = .ok (.lreturn, 1) := by decide +kernel
theorem dT_messageRank_0 : decode cT_messageRank 0 = .ok (.bipush 6, 2) := by decide +kernel
theorem dT_messageRank_2 : decode cT_messageRank 2 = .ok (.iload_n 1, 1) := by decide +kernel
theorem dT_messageRank_3 : decode cT_messageRank 3 = .ok (.imul, 1) := by decide +kernel
theorem dT_messageRank_4 : decode cT_messageRank 4 = .ok (.istore_n 2, 1) := by decide +kernel
theorem dT_messageRank_5 : decode cT_messageRank 5 = .ok (.aload_n 0, 1) := by decide +kernel
theorem dT_messageRank_6 : decode cT_messageRank 6 = .ok (.getfield 11, 3) := by decide +kernel
theorem dT_messageRank_9 : decode cT_messageRank 9 = .ok (.iload_n 2, 1) := by decide +kernel
theorem dT_messageRank_10 : decode cT_messageRank 10 = .ok (.iconst 0, 1) := by decide +kernel
theorem dT_messageRank_11 : decode cT_messageRank 11 = .ok (.iadd, 1) := by decide +kernel
theorem dT_messageRank_12 : decode cT_messageRank 12 = .ok (.iaload, 1) := by decide +kernel
theorem dT_messageRank_13 : decode cT_messageRank 13 = .ok (.i2l, 1) := by decide +kernel
theorem dT_messageRank_14 : decode cT_messageRank 14 = .ok (.aload_n 0, 1) := by decide +kernel
theorem dT_messageRank_15 : decode cT_messageRank 15 = .ok (.getfield 11, 3) := by decide +kernel
theorem dT_messageRank_18 : decode cT_messageRank 18 = .ok (.iload_n 2, 1) := by decide +kernel
theorem dT_messageRank_19 : decode cT_messageRank 19 = .ok (.iconst 1, 1) := by decide +kernel
theorem dT_messageRank_20 : decode cT_messageRank 20 = .ok (.iadd, 1) := by decide +kernel
theorem dT_messageRank_21 : decode cT_messageRank 21 = .ok (.iaload, 1) := by decide +kernel
theorem dT_messageRank_22 : decode cT_messageRank 22 = .ok (.i2l, 1) := by decide +kernel
theorem dT_messageRank_23 : decode cT_messageRank 23 = .ok (.aload_n 0, 1) := by decide +kernel
theorem dT_messageRank_24 : decode cT_messageRank 24 = .ok (.getfield 11, 3) := by decide +kernel
theorem dT_messageRank_27 : decode cT_messageRank 27 = .ok (.iload_n 2, 1) := by decide +kernel
theorem dT_messageRank_28 : decode cT_messageRank 28 = .ok (.iconst 2, 1) := by decide +kernel
theorem dT_messageRank_29 : decode cT_messageRank 29 = .ok (.iadd, 1) := by decide +kernel
theorem dT_messageRank_30 : decode cT_messageRank 30 = .ok (.iaload, 1) := by decide +kernel
theorem dT_messageRank_31 : decode cT_messageRank 31 = .ok (.i2l, 1) := by decide +kernel
theorem dT_messageRank_32 : decode cT_messageRank 32 = .ok (.aload_n 0, 1) := by decide +kernel
theorem dT_messageRank_33 : decode cT_messageRank 33 = .ok (.getfield 11, 3) := by decide +kernel
theorem dT_messageRank_36 : decode cT_messageRank 36 = .ok (.iload_n 2, 1) := by decide +kernel
theorem dT_messageRank_37 : decode cT_messageRank 37 = .ok (.iconst 3, 1) := by decide +kernel
theorem dT_messageRank_38 : decode cT_messageRank 38 = .ok (.iadd, 1) := by decide +kernel
theorem dT_messageRank_39 : decode cT_messageRank 39 = .ok (.iaload, 1) := by decide +kernel
theorem dT_messageRank_40 : decode cT_messageRank 40 = .ok (.i2l, 1) := by decide +kernel
theorem dT_messageRank_41 : decode cT_messageRank 41 = .ok (.invokestatic 133, 3) := by decide +kernel
theorem dT_messageRank_44 : decode cT_messageRank 44 = .ok (.lreturn, 1) := by decide +kernel
theorem dT_rank_0 : decode cT_rank 0 = .ok (.lload_n 0, 1) := by decide +kernel
theorem dT_rank_1 : decode cT_rank 1 = .ok (.bipush 20, 2) := by decide +kernel
theorem dT_rank_3 : decode cT_rank 3 = .ok (.lshl, 1) := by decide +kernel
theorem dT_rank_4 : decode cT_rank 4 = .ok (.lload_n 2, 1) := by decide +kernel
theorem dT_rank_5 : decode cT_rank 5 = .ok (.lor, 1) := by decide +kernel
theorem dT_rank_6 : decode cT_rank 6 = .ok (.bipush 6, 2) := by decide +kernel
theorem dT_rank_8 : decode cT_rank 8 = .ok (.lshl, 1) := by decide +kernel
theorem dT_rank_9 : decode cT_rank 9 = .ok (.lload 4, 2) := by decide +kernel
theorem dT_rank_11 : decode cT_rank 11 = .ok (.lor, 1) := by decide +kernel
theorem dT_rank_12 : decode cT_rank 12 = .ok (.iconst 2, 1) := by decide +kernel
theorem dT_rank_13 : decode cT_rank 13 = .ok (.lshl, 1) := by decide +kernel
theorem dT_rank_14 : decode cT_rank 14 = .ok (.lload 6, 2) := by decide +kernel
theorem dT_rank_16 : decode cT_rank 16 = .ok (.lor, 1) := by decide +kernel
theorem dT_rank_17 : decode cT_rank 17 = .ok (.lreturn, 1) := by decide +kernel
theorem dT_roleNow_0 : decode cT_roleNow 0 = .ok (.iload_n 1, 1) := by decide +kernel
theorem dT_roleNow_1 : decode cT_roleNow 1 = .ok (.iconst 4, 1) := by decide +kernel
theorem dT_roleNow_2 : decode cT_roleNow 2 = .ok (.idiv, 1) := by decide +kernel
theorem dT_roleNow_3 : decode cT_roleNow 3 = .ok (.istore_n 2, 1) := by decide +kernel
theorem dT_roleNow_4 : decode cT_roleNow 4 = .ok (.aload_n 0, 1) := by decide +kernel
theorem dT_roleNow_5 : decode cT_roleNow 5 = .ok (.getfield 52, 3) := by decide +kernel
theorem dT_roleNow_8 : decode cT_roleNow 8 = .ok (.iload_n 1, 1) := by decide +kernel
theorem dT_roleNow_9 : decode cT_roleNow 9 = .ok (.invokevirtual 137, 3) := by decide +kernel
theorem dT_roleNow_12 : decode cT_roleNow 12 = .ok (.ifCond .ne 5, 3) := by decide +kernel
theorem dT_roleNow_15 : decode cT_roleNow 15 = .ok (.iconst 0, 1) := by decide +kernel
theorem dT_roleNow_16 : decode cT_roleNow 16 = .ok (.ireturn, 1) := by decide +kernel
theorem dT_roleNow_17 : decode cT_roleNow 17 = .ok (.aload_n 0, 1) := by decide +kernel
theorem dT_roleNow_18 : decode cT_roleNow 18 = .ok (.getfield 31, 3) := by decide +kernel
theorem dT_roleNow_21 : decode cT_roleNow 21 = .ok (.iload_n 2, 1) := by decide +kernel
theorem dT_roleNow_22 : decode cT_roleNow 22 = .ok (.iaload, 1) := by decide +kernel
theorem dT_roleNow_23 : decode cT_roleNow 23 = .ok (.iload_n 1, 1) := by decide +kernel
theorem dT_roleNow_24 : decode cT_roleNow 24 = .ok (.if_icmp .ne 5, 3) := by decide +kernel
theorem dT_roleNow_27 : decode cT_roleNow 27 = .ok (.iconst 1, 1) := by decide +kernel
theorem dT_roleNow_28 : decode cT_roleNow 28 = .ok (.ireturn, 1) := by decide +kernel
theorem dT_roleNow_29 : decode cT_roleNow 29 = .ok (.aload_n 0, 1) := by decide +kernel
theorem dT_roleNow_30 : decode cT_roleNow 30 = .ok (.getfield 25, 3) := by decide +kernel
theorem dT_roleNow_33 : decode cT_roleNow 33 = .ok (.iload_n 2, 1) := by decide +kernel
theorem dT_roleNow_34 : decode cT_roleNow 34 = .ok (.iaload, 1) := by decide +kernel
theorem dT_roleNow_35 : decode cT_roleNow 35 = .ok (.i2l, 1) := by decide +kernel
theorem dT_roleNow_36 : decode cT_roleNow 36 = .ok (.aload_n 0, 1) := by decide +kernel
theorem dT_roleNow_37 : decode cT_roleNow 37 = .ok (.getfield 28, 3) := by decide +kernel
theorem dT_roleNow_40 : decode cT_roleNow 40 = .ok (.iload_n 2, 1) := by decide +kernel
theorem dT_roleNow_41 : decode cT_roleNow 41 = .ok (.iaload, 1) := by decide +kernel
theorem dT_roleNow_42 : decode cT_roleNow 42 = .ok (.i2l, 1) := by decide +kernel
theorem dT_roleNow_43 : decode cT_roleNow 43 = .ok (.aload_n 0, 1) := by decide +kernel
theorem dT_roleNow_44 : decode cT_roleNow 44 = .ok (.getfield 52, 3) := by decide +kernel
theorem dT_roleNow_47 : decode cT_roleNow 47 = .ok (.getfield 110, 3) := by decide +kernel
theorem dT_roleNow_50 : decode cT_roleNow 50 = .ok (.iload_n 2, 1) := by decide +kernel
theorem dT_roleNow_51 : decode cT_roleNow 51 = .ok (.iaload, 1) := by decide +kernel
theorem dT_roleNow_52 : decode cT_roleNow 52 = .ok (.i2l, 1) := by decide +kernel
theorem dT_roleNow_53 : decode cT_roleNow 53 = .ok (.iload_n 1, 1) := by decide +kernel
theorem dT_roleNow_54 : decode cT_roleNow 54 = .ok (.iconst 4, 1) := by decide +kernel
theorem dT_roleNow_55 : decode cT_roleNow 55 = .ok (.irem, 1) := by decide +kernel
theorem dT_roleNow_56 : decode cT_roleNow 56 = .ok (.i2l, 1) := by decide +kernel
theorem dT_roleNow_57 : decode cT_roleNow 57 = .ok (.invokestatic 133, 3) := by decide +kernel
theorem dT_roleNow_60 : decode cT_roleNow 60 = .ok (.lstore_n 3, 1) := by decide +kernel
theorem dT_roleNow_61 : decode cT_roleNow 61 = .ok (.aload_n 0, 1) := by decide +kernel
theorem dT_roleNow_62 : decode cT_roleNow 62 = .ok (.getfield 15, 3) := by decide +kernel
theorem dT_roleNow_65 : decode cT_roleNow 65 = .ok (.iload_n 1, 1) := by decide +kernel
theorem dT_roleNow_66 : decode cT_roleNow 66 = .ok (.baload, 1) := by decide +kernel
theorem dT_roleNow_67 : decode cT_roleNow 67 = .ok (.ifCond .eq 13, 3) := by decide +kernel
theorem dT_roleNow_70 : decode cT_roleNow 70 = .ok (.lload_n 3, 1) := by decide +kernel
theorem dT_roleNow_71 : decode cT_roleNow 71 = .ok (.aload_n 0, 1) := by decide +kernel
theorem dT_roleNow_72 : decode cT_roleNow 72 = .ok (.iload_n 1, 1) := by decide +kernel
theorem dT_roleNow_73 : decode cT_roleNow 73 = .ok (.invokevirtual 140, 3) := by decide +kernel
theorem dT_roleNow_76 : decode cT_roleNow 76 = .ok (.lcmp, 1) := by decide +kernel
theorem dT_roleNow_77 : decode cT_roleNow 77 = .ok (.ifCond .ge 7, 3) := by decide +kernel
theorem dT_roleNow_80 : decode cT_roleNow 80 = .ok (.iconst 2, 1) := by decide +kernel
theorem dT_roleNow_81 : decode cT_roleNow 81 = .ok (.goto 4, 3) := by decide +kernel
theorem dT_roleNow_84 : decode cT_roleNow 84 = .ok (.iconst 3, 1) := by decide +kernel
theorem dT_roleNow_85 : decode cT_roleNow 85 = .ok (.ireturn, 1) := by decide +kernel
theorem dT_lookAtRole_0 : decode cT_lookAtRole 0 = .ok (.aload_n 0, 1) := by decide +kernel
theorem dT_lookAtRole_1 : decode cT_lookAtRole 1 = .ok (.iload_n 1, 1) := by decide +kernel
theorem dT_lookAtRole_2 : decode cT_lookAtRole 2 = .ok (.invokevirtual 143, 3) := by decide +kernel
theorem dT_lookAtRole_5 : decode cT_lookAtRole 5 = .ok (.istore_n 2, 1) := by decide +kernel
theorem dT_lookAtRole_6 : decode cT_lookAtRole 6 = .ok (.iload_n 2, 1) := by decide +kernel
theorem dT_lookAtRole_7 : decode cT_lookAtRole 7 = .ok (.invokestatic 146, 3) := by decide +kernel
theorem dT_lookAtRole_10 : decode cT_lookAtRole 10 = .ok (.ifCond .eq 25, 3) := by decide +kernel
theorem dT_lookAtRole_13 : decode cT_lookAtRole 13 = .ok (.aload_n 0, 1) := by decide +kernel
theorem dT_lookAtRole_14 : decode cT_lookAtRole 14 = .ok (.getfield 34, 3) := by decide +kernel
theorem dT_lookAtRole_17 : decode cT_lookAtRole 17 = .ok (.iload_n 1, 1) := by decide +kernel
theorem dT_lookAtRole_18 : decode cT_lookAtRole 18 = .ok (.iaload, 1) := by decide +kernel
theorem dT_lookAtRole_19 : decode cT_lookAtRole 19 = .ok (.invokestatic 146, 3) := by decide +kernel
theorem dT_lookAtRole_22 : decode cT_lookAtRole 22 = .ok (.ifCond .ne 13, 3) := by decide +kernel
theorem dT_lookAtRole_25 : decode cT_lookAtRole 25 = .ok (.aload_n 0, 1) := by decide +kernel
theorem dT_lookAtRole_26 : decode cT_lookAtRole 26 = .ok (.getfield 37, 3) := by decide +kernel
theorem dT_lookAtRole_29 : decode cT_lookAtRole 29 = .ok (.iload_n 1, 1) := by decide +kernel
theorem dT_lookAtRole_30 : decode cT_lookAtRole 30 = .ok (.aload_n 0, 1) := by decide +kernel
theorem dT_lookAtRole_31 : decode cT_lookAtRole 31 = .ok (.getfield 69, 3) := by decide +kernel
theorem dT_lookAtRole_34 : decode cT_lookAtRole 34 = .ok (.iastore, 1) := by decide +kernel
theorem dT_lookAtRole_35 : decode cT_lookAtRole 35 = .ok (.aload_n 0, 1) := by decide +kernel
theorem dT_lookAtRole_36 : decode cT_lookAtRole 36 = .ok (.getfield 34, 3) := by decide +kernel
theorem dT_lookAtRole_39 : decode cT_lookAtRole 39 = .ok (.iload_n 1, 1) := by decide +kernel
theorem dT_lookAtRole_40 : decode cT_lookAtRole 40 = .ok (.iload_n 2, 1) := by decide +kernel
theorem dT_lookAtRole_41 : decode cT_lookAtRole 41 = .ok (.iastore, 1) := by decide +kernel
theorem dT_lookAtRole_42 : decode cT_lookAtRole 42 = .ok (.return_, 1) := by decide +kernel
theorem dT_isActive_0 : decode cT_isActive 0 = .ok (.iload_n 0, 1) := by decide +kernel
theorem dT_isActive_1 : decode cT_isActive 1 = .ok (.iconst 1, 1) := by decide +kernel
theorem dT_isActive_2 : decode cT_isActive 2 = .ok (.if_icmp .eq 8, 3) := by decide +kernel
theorem dT_isActive_5 : decode cT_isActive 5 = .ok (.iload_n 0, 1) := by decide +kernel
theorem dT_isActive_6 : decode cT_isActive 6 = .ok (.iconst 2, 1) := by decide +kernel
theorem dT_isActive_7 : decode cT_isActive 7 = .ok (.if_icmp .ne 7, 3) := by decide +kernel
theorem dT_isActive_10 : decode cT_isActive 10 = .ok (.iconst 1, 1) := by decide +kernel
theorem dT_isActive_11 : decode cT_isActive 11 = .ok (.goto 4, 3) := by decide +kernel
theorem dT_isActive_14 : decode cT_isActive 14 = .ok (.iconst 0, 1) := by decide +kernel
theorem dT_isActive_15 : decode cT_isActive 15 = .ok (.ireturn, 1) := by decide +kernel
theorem dT_stateNow_0 : decode cT_stateNow 0 = .ok (.aload_n 0, 1) := by decide +kernel
theorem dT_stateNow_1 : decode cT_stateNow 1 = .ok (.getfield 34, 3) := by decide +kernel
theorem dT_stateNow_4 : decode cT_stateNow 4 = .ok (.iload_n 1, 1) := by decide +kernel
theorem dT_stateNow_5 : decode cT_stateNow 5 = .ok (.iaload, 1) := by decide +kernel
theorem dT_stateNow_6 : decode cT_stateNow 6 = .ok (.invokestatic 146, 3) := by decide +kernel
theorem dT_stateNow_9 : decode cT_stateNow 9 = .ok (.ifCond .ne 5, 3) := by decide +kernel
theorem dT_stateNow_12 : decode cT_stateNow 12 = .ok (.iconst 0, 1) := by decide +kernel
theorem dT_stateNow_13 : decode cT_stateNow 13 = .ok (.ireturn, 1) := by decide +kernel
theorem dT_stateNow_14 : decode cT_stateNow 14 = .ok (.aload_n 0, 1) := by decide +kernel
theorem dT_stateNow_15 : decode cT_stateNow 15 = .ok (.getfield 69, 3) := by decide +kernel
theorem dT_stateNow_18 : decode cT_stateNow 18 = .ok (.aload_n 0, 1) := by decide +kernel
theorem dT_stateNow_19 : decode cT_stateNow 19 = .ok (.getfield 37, 3) := by decide +kernel
theorem dT_stateNow_22 : decode cT_stateNow 22 = .ok (.iload_n 1, 1) := by decide +kernel
theorem dT_stateNow_23 : decode cT_stateNow 23 = .ok (.iaload, 1) := by decide +kernel
theorem dT_stateNow_24 : decode cT_stateNow 24 = .ok (.isub, 1) := by decide +kernel
theorem dT_stateNow_25 : decode cT_stateNow 25 = .ok (.istore_n 2, 1) := by decide +kernel
theorem dT_stateNow_26 : decode cT_stateNow 26 = .ok (.iload_n 2, 1) := by decide +kernel
theorem dT_stateNow_27 : decode cT_stateNow 27 = .ok (.aload_n 0, 1) := by decide +kernel
theorem dT_stateNow_28 : decode cT_stateNow 28 = .ok (.getfield 60, 3) := by decide +kernel
theorem dT_stateNow_31 : decode cT_stateNow 31 = .ok (.if_icmp .ge 5, 3) := by decide +kernel
theorem dT_stateNow_34 : decode cT_stateNow 34 = .ok (.iconst 1, 1) := by decide +kernel
theorem dT_stateNow_35 : decode cT_stateNow 35 = .ok (.ireturn, 1) := by decide +kernel
theorem dT_stateNow_36 : decode cT_stateNow 36 = .ok (.iload_n 2, 1) := by decide +kernel
theorem dT_stateNow_37 : decode cT_stateNow 37 = .ok (.iconst 2, 1) := by decide +kernel
theorem dT_stateNow_38 : decode cT_stateNow 38 = .ok (.aload_n 0, 1) := by decide +kernel
theorem dT_stateNow_39 : decode cT_stateNow 39 = .ok (.getfield 60, 3) := by decide +kernel
theorem dT_stateNow_42 : decode cT_stateNow 42 = .ok (.imul, 1) := by decide +kernel
theorem dT_stateNow_43 : decode cT_stateNow 43 = .ok (.if_icmp .ge 7, 3) := by decide +kernel
theorem dT_stateNow_46 : decode cT_stateNow 46 = .ok (.iconst 2, 1) := by decide +kernel
theorem dT_stateNow_47 : decode cT_stateNow 47 = .ok (.goto 4, 3) := by decide +kernel
theorem dT_stateNow_50 : decode cT_stateNow 50 = .ok (.iconst 3, 1) := by decide +kernel
theorem dT_stateNow_51 : decode cT_stateNow 51 = .ok (.ireturn, 1) := by decide +kernel
theorem dT_isWorthNotice_0 : decode cT_isWorthNotice 0 = .ok (.iload_n 1, 1) := by decide +kernel
theorem dT_isWorthNotice_1 : decode cT_isWorthNotice 1 = .ok (.iconst 3, 1) := by decide +kernel
theorem dT_isWorthNotice_2 : decode cT_isWorthNotice 2 = .ok (.if_icmp .ne 12, 3) := by decide +kernel
theorem dT_isWorthNotice_5 : decode cT_isWorthNotice 5 = .ok (.iload_n 0, 1) := by decide +kernel
theorem dT_isWorthNotice_6 : decode cT_isWorthNotice 6 = .ok (.iconst 3, 1) := by decide +kernel
theorem dT_isWorthNotice_7 : decode cT_isWorthNotice 7 = .ok (.if_icmp .eq 7, 3) := by decide +kernel
theorem dT_isWorthNotice_10 : decode cT_isWorthNotice 10 = .ok (.iconst 1, 1) := by decide +kernel
theorem dT_isWorthNotice_11 : decode cT_isWorthNotice 11 = .ok (.goto 4, 3) := by decide +kernel
theorem dT_isWorthNotice_14 : decode cT_isWorthNotice 14 = .ok (.iconst 0, 1) := by decide +kernel
theorem dT_isWorthNotice_15 : decode cT_isWorthNotice 15 = .ok (.istore_n 2, 1) := by decide +kernel
theorem dT_isWorthNotice_16 : decode cT_isWorthNotice 16 = .ok (.iload_n 0, 1) := by decide +kernel
theorem dT_isWorthNotice_17 : decode cT_isWorthNotice 17 = .ok (.iconst 2, 1) := by decide +kernel
theorem dT_isWorthNotice_18 : decode cT_isWorthNotice 18 = .ok (.if_icmp .lt 12, 3) := by decide +kernel
theorem dT_isWorthNotice_21 : decode cT_isWorthNotice 21 = .ok (.iload_n 1, 1) := by decide +kernel
theorem dT_isWorthNotice_22 : decode cT_isWorthNotice 22 = .ok (.iconst 2, 1) := by decide +kernel
theorem dT_isWorthNotice_23 : decode cT_isWorthNotice 23 = .ok (.if_icmp .ge 7, 3) := by decide +kernel
theorem dT_isWorthNotice_26 : decode cT_isWorthNotice 26 = .ok (.iconst 1, 1) := by decide +kernel
theorem dT_isWorthNotice_27 : decode cT_isWorthNotice 27 = .ok (.goto 4, 3) := by decide +kernel
theorem dT_isWorthNotice_30 : decode cT_isWorthNotice 30 = .ok (.iconst 0, 1) := by decide +kernel
theorem dT_isWorthNotice_31 : decode cT_isWorthNotice 31 = .ok (.istore_n 3, 1) := by decide +kernel
theorem dT_isWorthNotice_32 : decode cT_isWorthNotice 32 = .ok (.iload_n 2, 1) := by decide +kernel
theorem dT_isWorthNotice_33 : decode cT_isWorthNotice 33 = .ok (.ifCond .ne 7, 3) := by decide +kernel
theorem dT_isWorthNotice_36 : decode cT_isWorthNotice 36 = .ok (.iload_n 3, 1) := by decide +kernel
theorem dT_isWorthNotice_37 : decode cT_isWorthNotice 37 = .ok (.ifCond .eq 7, 3) := by decide +kernel
theorem dT_isWorthNotice_40 : decode cT_isWorthNotice 40 = .ok (.iconst 1, 1) := by decide +kernel
theorem dT_isWorthNotice_41 : decode cT_isWorthNotice 41 = .ok (.goto 4, 3) := by decide +kernel
theorem dT_isWorthNotice_44 : decode cT_isWorthNotice 44 = .ok (.iconst 0, 1) := by decide +kernel
theorem dT_isWorthNotice_45 : decode cT_isWorthNotice 45 = .ok (.ireturn, 1) := by decide +kernel
theorem dT_passNotices_0 : decode cT_passNotices 0 = .ok (.iconst 0, 1) := by decide +kernel
theorem dT_passNotices_1 : decode cT_passNotices 1 = .ok (.istore_n 1, 1) := by decide +kernel
theorem dT_passNotices_2 : decode cT_passNotices 2 = .ok (.iload_n 1, 1) := by decide +kernel
theorem dT_passNotices_3 : decode cT_passNotices 3 = .ok (.aload_n 0, 1) := by decide +kernel
theorem dT_passNotices_4 : decode cT_passNotices 4 = .ok (.getfield 52, 3) := by decide +kernel
theorem dT_passNotices_7 : decode cT_passNotices 7 = .ok (.getfield 90, 3) := by decide +kernel
theorem dT_passNotices_10 : decode cT_passNotices 10 = .ok (.if_icmp .ge 28, 3) := by decide +kernel
theorem dT_passNotices_13 : decode cT_passNotices 13 = .ok (.aload_n 0, 1) := by decide +kernel
theorem dT_passNotices_14 : decode cT_passNotices 14 = .ok (.getfield 49, 3) := by decide +kernel
theorem dT_passNotices_17 : decode cT_passNotices 17 = .ok (.iload_n 1, 1) := by decide +kernel
theorem dT_passNotices_18 : decode cT_passNotices 18 = .ok (.aload_n 0, 1) := by decide +kernel
theorem dT_passNotices_19 : decode cT_passNotices 19 = .ok (.getfield 46, 3) := by decide +kernel
theorem dT_passNotices_22 : decode cT_passNotices 22 = .ok (.iload_n 1, 1) := by decide +kernel
theorem dT_passNotices_23 : decode cT_passNotices 23 = .ok (.baload, 1) := by decide +kernel
theorem dT_passNotices_24 : decode cT_passNotices 24 = .ok (.bastore, 1) := by decide +kernel
theorem dT_passNotices_25 : decode cT_passNotices 25 = .ok (.aload_n 0, 1) := by decide +kernel
theorem dT_passNotices_26 : decode cT_passNotices 26 = .ok (.getfield 46, 3) := by decide +kernel
theorem dT_passNotices_29 : decode cT_passNotices 29 = .ok (.iload_n 1, 1) := by decide +kernel
theorem dT_passNotices_30 : decode cT_passNotices 30 = .ok (.iconst 0, 1) := by decide +kernel
theorem dT_passNotices_31 : decode cT_passNotices 31 = .ok (.bastore, 1) := by decide +kernel
theorem dT_passNotices_32 : decode cT_passNotices 32 = .ok (.iinc 1 1, 3) := by decide +kernel
theorem dT_passNotices_35 : decode cT_passNotices 35 = .ok (.goto (-33), 3) := by decide +kernel
theorem dT_passNotices_38 : decode cT_passNotices 38 = .ok (.iconst 0, 1) := by decide +kernel
theorem dT_passNotices_39 : decode cT_passNotices 39 = .ok (.istore_n 1, 1) := by decide +kernel
theorem dT_passNotices_40 : decode cT_passNotices 40 = .ok (.iload_n 1, 1) := by decide +kernel
theorem dT_passNotices_41 : decode cT_passNotices 41 = .ok (.aload_n 0, 1) := by decide +kernel
theorem dT_passNotices_42 : decode cT_passNotices 42 = .ok (.getfield 52, 3) := by decide +kernel
theorem dT_passNotices_45 : decode cT_passNotices 45 = .ok (.getfield 90, 3) := by decide +kernel
theorem dT_passNotices_48 : decode cT_passNotices 48 = .ok (.if_icmp .ge 23, 3) := by decide +kernel
theorem dT_passNotices_51 : decode cT_passNotices 51 = .ok (.aload_n 0, 1) := by decide +kernel
theorem dT_passNotices_52 : decode cT_passNotices 52 = .ok (.getfield 49, 3) := by decide +kernel
theorem dT_passNotices_55 : decode cT_passNotices 55 = .ok (.iload_n 1, 1) := by decide +kernel
theorem dT_passNotices_56 : decode cT_passNotices 56 = .ok (.baload, 1) := by decide +kernel
theorem dT_passNotices_57 : decode cT_passNotices 57 = .ok (.ifCond .eq 8, 3) := by decide +kernel
theorem dT_passNotices_60 : decode cT_passNotices 60 = .ok (.aload_n 0, 1) := by decide +kernel
theorem dT_passNotices_61 : decode cT_passNotices 61 = .ok (.iload_n 1, 1) := by decide +kernel
theorem dT_passNotices_62 : decode cT_passNotices 62 = .ok (.invokevirtual 149, 3) := by decide +kernel
theorem dT_passNotices_65 : decode cT_passNotices 65 = .ok (.iinc 1 1, 3) := by decide +kernel
theorem dT_passNotices_68 : decode cT_passNotices 68 = .ok (.goto (-28), 3) := by decide +kernel
theorem dT_passNotices_71 : decode cT_passNotices 71 = .ok (.return_, 1) := by decide +kernel
theorem dT_passNoticeOf_0 : decode cT_passNoticeOf 0 = .ok (.aload_n 0, 1) := by decide +kernel
theorem dT_passNoticeOf_1 : decode cT_passNoticeOf 1 = .ok (.getfield 31, 3) := by decide +kernel
theorem dT_passNoticeOf_4 : decode cT_passNoticeOf 4 = .ok (.iload_n 1, 1) := by decide +kernel
theorem dT_passNoticeOf_5 : decode cT_passNoticeOf 5 = .ok (.iaload, 1) := by decide +kernel
theorem dT_passNoticeOf_6 : decode cT_passNoticeOf 6 = .ok (.iconst (-1), 1) := by decide +kernel
theorem dT_passNoticeOf_7 : decode cT_passNoticeOf 7 = .ok (.if_icmp .ne 24, 3) := by decide +kernel
theorem dT_passNoticeOf_10 : decode cT_passNoticeOf 10 = .ok (.aload_n 0, 1) := by decide +kernel
theorem dT_passNoticeOf_11 : decode cT_passNoticeOf 11 = .ok (.getfield 43, 3) := by decide +kernel
theorem dT_passNoticeOf_14 : decode cT_passNoticeOf 14 = .ok (.iload_n 1, 1) := by decide +kernel
theorem dT_passNoticeOf_15 : decode cT_passNoticeOf 15 = .ok (.aload_n 0, 1) := by decide +kernel
theorem dT_passNoticeOf_16 : decode cT_passNoticeOf 16 = .ok (.getfield 69, 3) := by decide +kernel
theorem dT_passNoticeOf_19 : decode cT_passNoticeOf 19 = .ok (.aload_n 0, 1) := by decide +kernel
theorem dT_passNoticeOf_20 : decode cT_passNoticeOf 20 = .ok (.getfield 56, 3) := by decide +kernel
theorem dT_passNoticeOf_23 : decode cT_passNoticeOf 23 = .ok (.iadd, 1) := by decide +kernel
theorem dT_passNoticeOf_24 : decode cT_passNoticeOf 24 = .ok (.aload_n 0, 1) := by decide +kernel
theorem dT_passNoticeOf_25 : decode cT_passNoticeOf 25 = .ok (.getfield 60, 3) := by decide +kernel
theorem dT_passNoticeOf_28 : decode cT_passNoticeOf 28 = .ok (.iadd, 1) := by decide +kernel
theorem dT_passNoticeOf_29 : decode cT_passNoticeOf 29 = .ok (.iastore, 1) := by decide +kernel
theorem dT_passNoticeOf_30 : decode cT_passNoticeOf 30 = .ok (.return_, 1) := by decide +kernel
theorem dT_passNoticeOf_31 : decode cT_passNoticeOf 31 = .ok (.aload_n 0, 1) := by decide +kernel
theorem dT_passNoticeOf_32 : decode cT_passNoticeOf 32 = .ok (.getfield 52, 3) := by decide +kernel
theorem dT_passNoticeOf_35 : decode cT_passNoticeOf 35 = .ok (.getfield 152, 3) := by decide +kernel
theorem dT_passNoticeOf_38 : decode cT_passNoticeOf 38 = .ok (.aload_n 0, 1) := by decide +kernel
theorem dT_passNoticeOf_39 : decode cT_passNoticeOf 39 = .ok (.getfield 31, 3) := by decide +kernel
theorem dT_passNoticeOf_42 : decode cT_passNoticeOf 42 = .ok (.iload_n 1, 1) := by decide +kernel
theorem dT_passNoticeOf_43 : decode cT_passNoticeOf 43 = .ok (.iaload, 1) := by decide +kernel
theorem dT_passNoticeOf_44 : decode cT_passNoticeOf 44 = .ok (.iaload, 1) := by decide +kernel
theorem dT_passNoticeOf_45 : decode cT_passNoticeOf 45 = .ok (.istore_n 2, 1) := by decide +kernel
theorem dT_passNoticeOf_46 : decode cT_passNoticeOf 46 = .ok (.iload_n 2, 1) := by decide +kernel
theorem dT_passNoticeOf_47 : decode cT_passNoticeOf 47 = .ok (.iconst (-1), 1) := by decide +kernel
theorem dT_passNoticeOf_48 : decode cT_passNoticeOf 48 = .ok (.if_icmp .eq 12, 3) := by decide +kernel
theorem dT_passNoticeOf_51 : decode cT_passNoticeOf 51 = .ok (.aload_n 0, 1) := by decide +kernel
theorem dT_passNoticeOf_52 : decode cT_passNoticeOf 52 = .ok (.getfield 46, 3) := by decide +kernel
theorem dT_passNoticeOf_55 : decode cT_passNoticeOf 55 = .ok (.iload_n 2, 1) := by decide +kernel
theorem dT_passNoticeOf_56 : decode cT_passNoticeOf 56 = .ok (.iconst 4, 1) := by decide +kernel
theorem dT_passNoticeOf_57 : decode cT_passNoticeOf 57 = .ok (.idiv, 1) := by decide +kernel
theorem dT_passNoticeOf_58 : decode cT_passNoticeOf 58 = .ok (.iconst 1, 1) := by decide +kernel
theorem dT_passNoticeOf_59 : decode cT_passNoticeOf 59 = .ok (.bastore, 1) := by decide +kernel
theorem dT_passNoticeOf_60 : decode cT_passNoticeOf 60 = .ok (.return_, 1) := by decide +kernel
theorem dT_sendMessages_0 : decode cT_sendMessages 0 = .ok (.iconst 4, 1) := by decide +kernel
theorem dT_sendMessages_1 : decode cT_sendMessages 1 = .ok (.aload_n 0, 1) := by decide +kernel
theorem dT_sendMessages_2 : decode cT_sendMessages 2 = .ok (.getfield 52, 3) := by decide +kernel
theorem dT_sendMessages_5 : decode cT_sendMessages 5 = .ok (.getfield 90, 3) := by decide +kernel
theorem dT_sendMessages_8 : decode cT_sendMessages 8 = .ok (.imul, 1) := by decide +kernel
theorem dT_sendMessages_9 : decode cT_sendMessages 9 = .ok (.istore_n 1, 1) := by decide +kernel
theorem dT_sendMessages_10 : decode cT_sendMessages 10 = .ok (.iconst 0, 1) := by decide +kernel
theorem dT_sendMessages_11 : decode cT_sendMessages 11 = .ok (.istore_n 2, 1) := by decide +kernel
theorem dT_sendMessages_12 : decode cT_sendMessages 12 = .ok (.iload_n 2, 1) := by decide +kernel
theorem dT_sendMessages_13 : decode cT_sendMessages 13 = .ok (.iload_n 1, 1) := by decide +kernel
theorem dT_sendMessages_14 : decode cT_sendMessages 14 = .ok (.if_icmp .ge 43, 3) := by decide +kernel
theorem dT_sendMessages_17 : decode cT_sendMessages 17 = .ok (.aload_n 0, 1) := by decide +kernel
theorem dT_sendMessages_18 : decode cT_sendMessages 18 = .ok (.getfield 52, 3) := by decide +kernel
theorem dT_sendMessages_21 : decode cT_sendMessages 21 = .ok (.iload_n 2, 1) := by decide +kernel
theorem dT_sendMessages_22 : decode cT_sendMessages 22 = .ok (.invokevirtual 124, 3) := by decide +kernel
theorem dT_sendMessages_25 : decode cT_sendMessages 25 = .ok (.ifCond .eq 26, 3) := by decide +kernel
theorem dT_sendMessages_28 : decode cT_sendMessages 28 = .ok (.aload_n 0, 1) := by decide +kernel
theorem dT_sendMessages_29 : decode cT_sendMessages 29 = .ok (.iload_n 2, 1) := by decide +kernel
theorem dT_sendMessages_30 : decode cT_sendMessages 30 = .ok (.invokevirtual 143, 3) := by decide +kernel
theorem dT_sendMessages_33 : decode cT_sendMessages 33 = .ok (.iconst 2, 1) := by decide +kernel
theorem dT_sendMessages_34 : decode cT_sendMessages 34 = .ok (.if_icmp .ne 17, 3) := by decide +kernel
theorem dT_sendMessages_37 : decode cT_sendMessages 37 = .ok (.aload_n 0, 1) := by decide +kernel
theorem dT_sendMessages_38 : decode cT_sendMessages 38 = .ok (.iload_n 2, 1) := by decide +kernel
theorem dT_sendMessages_39 : decode cT_sendMessages 39 = .ok (.aload_n 0, 1) := by decide +kernel
theorem dT_sendMessages_40 : decode cT_sendMessages 40 = .ok (.getfield 52, 3) := by decide +kernel
theorem dT_sendMessages_43 : decode cT_sendMessages 43 = .ok (.getfield 152, 3) := by decide +kernel
theorem dT_sendMessages_46 : decode cT_sendMessages 46 = .ok (.iload_n 2, 1) := by decide +kernel
theorem dT_sendMessages_47 : decode cT_sendMessages 47 = .ok (.iaload, 1) := by decide +kernel
theorem dT_sendMessages_48 : decode cT_sendMessages 48 = .ok (.invokevirtual 155, 3) := by decide +kernel
theorem dT_sendMessages_51 : decode cT_sendMessages 51 = .ok (.iinc 2 1, 3) := by decide +kernel
theorem dT_sendMessages_54 : decode cT_sendMessages 54 = .ok (.goto (-42), 3) := by decide +kernel
theorem dT_sendMessages_57 : decode cT_sendMessages 57 = .ok (.return_, 1) := by decide +kernel
theorem dT_sendMessage_0 : decode cT_sendMessage 0 = .ok (.iload_n 1, 1) := by decide +kernel
theorem dT_sendMessage_1 : decode cT_sendMessage 1 = .ok (.iconst 4, 1) := by decide +kernel
theorem dT_sendMessage_2 : decode cT_sendMessage 2 = .ok (.idiv, 1) := by decide +kernel
theorem dT_sendMessage_3 : decode cT_sendMessage 3 = .ok (.istore_n 3, 1) := by decide +kernel
theorem dT_sendMessage_4 : decode cT_sendMessage 4 = .ok (.bipush 6, 2) := by decide +kernel
theorem dT_sendMessage_6 : decode cT_sendMessage 6 = .ok (.iload_n 2, 1) := by decide +kernel
theorem dT_sendMessage_7 : decode cT_sendMessage 7 = .ok (.imul, 1) := by decide +kernel
theorem dT_sendMessage_8 : decode cT_sendMessage 8 = .ok (.istore 4, 2) := by decide +kernel
theorem dT_sendMessage_10 : decode cT_sendMessage 10 = .ok (.aload_n 0, 1) := by decide +kernel
theorem dT_sendMessage_11 : decode cT_sendMessage 11 = .ok (.getfield 31, 3) := by decide +kernel
theorem dT_sendMessage_14 : decode cT_sendMessage 14 = .ok (.iload_n 3, 1) := by decide +kernel
theorem dT_sendMessage_15 : decode cT_sendMessage 15 = .ok (.iaload, 1) := by decide +kernel
theorem dT_sendMessage_16 : decode cT_sendMessage 16 = .ok (.istore 5, 2) := by decide +kernel
theorem dT_sendMessage_18 : decode cT_sendMessage 18 = .ok (.aload_n 0, 1) := by decide +kernel
theorem dT_sendMessage_19 : decode cT_sendMessage 19 = .ok (.getfield 19, 3) := by decide +kernel
theorem dT_sendMessage_22 : decode cT_sendMessage 22 = .ok (.iload 4, 2) := by decide +kernel
theorem dT_sendMessage_24 : decode cT_sendMessage 24 = .ok (.iconst 0, 1) := by decide +kernel
theorem dT_sendMessage_25 : decode cT_sendMessage 25 = .ok (.iadd, 1) := by decide +kernel
theorem dT_sendMessage_26 : decode cT_sendMessage 26 = .ok (.aload_n 0, 1) := by decide +kernel
theorem dT_sendMessage_27 : decode cT_sendMessage 27 = .ok (.getfield 25, 3) := by decide +kernel
theorem dT_sendMessage_30 : decode cT_sendMessage 30 = .ok (.iload_n 3, 1) := by decide +kernel
theorem dT_sendMessage_31 : decode cT_sendMessage 31 = .ok (.iaload, 1) := by decide +kernel
theorem dT_sendMessage_32 : decode cT_sendMessage 32 = .ok (.iastore, 1) := by decide +kernel
theorem dT_sendMessage_33 : decode cT_sendMessage 33 = .ok (.aload_n 0, 1) := by decide +kernel
theorem dT_sendMessage_34 : decode cT_sendMessage 34 = .ok (.getfield 19, 3) := by decide +kernel
theorem dT_sendMessage_37 : decode cT_sendMessage 37 = .ok (.iload 4, 2) := by decide +kernel
theorem dT_sendMessage_39 : decode cT_sendMessage 39 = .ok (.iconst 1, 1) := by decide +kernel
theorem dT_sendMessage_40 : decode cT_sendMessage 40 = .ok (.iadd, 1) := by decide +kernel
theorem dT_sendMessage_41 : decode cT_sendMessage 41 = .ok (.aload_n 0, 1) := by decide +kernel
theorem dT_sendMessage_42 : decode cT_sendMessage 42 = .ok (.getfield 28, 3) := by decide +kernel
theorem dT_sendMessage_45 : decode cT_sendMessage 45 = .ok (.iload_n 3, 1) := by decide +kernel
theorem dT_sendMessage_46 : decode cT_sendMessage 46 = .ok (.iaload, 1) := by decide +kernel
theorem dT_sendMessage_47 : decode cT_sendMessage 47 = .ok (.iastore, 1) := by decide +kernel
theorem dT_sendMessage_48 : decode cT_sendMessage 48 = .ok (.aload_n 0, 1) := by decide +kernel
theorem dT_sendMessage_49 : decode cT_sendMessage 49 = .ok (.getfield 19, 3) := by decide +kernel
theorem dT_sendMessage_52 : decode cT_sendMessage 52 = .ok (.iload 4, 2) := by decide +kernel
theorem dT_sendMessage_54 : decode cT_sendMessage 54 = .ok (.iconst 2, 1) := by decide +kernel
theorem dT_sendMessage_55 : decode cT_sendMessage 55 = .ok (.iadd, 1) := by decide +kernel
theorem dT_sendMessage_56 : decode cT_sendMessage 56 = .ok (.aload_n 0, 1) := by decide +kernel
theorem dT_sendMessage_57 : decode cT_sendMessage 57 = .ok (.getfield 52, 3) := by decide +kernel
theorem dT_sendMessage_60 : decode cT_sendMessage 60 = .ok (.getfield 110, 3) := by decide +kernel
theorem dT_sendMessage_63 : decode cT_sendMessage 63 = .ok (.iload_n 3, 1) := by decide +kernel
theorem dT_sendMessage_64 : decode cT_sendMessage 64 = .ok (.iaload, 1) := by decide +kernel
theorem dT_sendMessage_65 : decode cT_sendMessage 65 = .ok (.iastore, 1) := by decide +kernel
theorem dT_sendMessage_66 : decode cT_sendMessage 66 = .ok (.aload_n 0, 1) := by decide +kernel
theorem dT_sendMessage_67 : decode cT_sendMessage 67 = .ok (.getfield 19, 3) := by decide +kernel
theorem dT_sendMessage_70 : decode cT_sendMessage 70 = .ok (.iload 4, 2) := by decide +kernel
theorem dT_sendMessage_72 : decode cT_sendMessage 72 = .ok (.iconst 3, 1) := by decide +kernel
theorem dT_sendMessage_73 : decode cT_sendMessage 73 = .ok (.iadd, 1) := by decide +kernel
theorem dT_sendMessage_74 : decode cT_sendMessage 74 = .ok (.iload_n 1, 1) := by decide +kernel
theorem dT_sendMessage_75 : decode cT_sendMessage 75 = .ok (.iconst 4, 1) := by decide +kernel
theorem dT_sendMessage_76 : decode cT_sendMessage 76 = .ok (.irem, 1) := by decide +kernel
theorem dT_sendMessage_77 : decode cT_sendMessage 77 = .ok (.iastore, 1) := by decide +kernel
theorem dT_sendMessage_78 : decode cT_sendMessage 78 = .ok (.aload_n 0, 1) := by decide +kernel
theorem dT_sendMessage_79 : decode cT_sendMessage 79 = .ok (.getfield 19, 3) := by decide +kernel
theorem dT_sendMessage_82 : decode cT_sendMessage 82 = .ok (.iload 4, 2) := by decide +kernel
theorem dT_sendMessage_84 : decode cT_sendMessage 84 = .ok (.iconst 4, 1) := by decide +kernel
theorem dT_sendMessage_85 : decode cT_sendMessage 85 = .ok (.iadd, 1) := by decide +kernel
theorem dT_sendMessage_86 : decode cT_sendMessage 86 = .ok (.iload 5, 2) := by decide +kernel
theorem dT_sendMessage_88 : decode cT_sendMessage 88 = .ok (.iconst (-1), 1) := by decide +kernel
theorem dT_sendMessage_89 : decode cT_sendMessage 89 = .ok (.if_icmp .ne 7, 3) := by decide +kernel
theorem dT_sendMessage_92 : decode cT_sendMessage 92 = .ok (.iconst 0, 1) := by decide +kernel
theorem dT_sendMessage_93 : decode cT_sendMessage 93 = .ok (.goto 15, 3) := by decide +kernel
theorem dT_sendMessage_96 : decode cT_sendMessage 96 = .ok (.aload_n 0, 1) := by decide +kernel
theorem dT_sendMessage_97 : decode cT_sendMessage 97 = .ok (.getfield 11, 3) := by decide +kernel
theorem dT_sendMessage_100 : decode cT_sendMessage 100 = .ok (.bipush 6, 2) := by decide +kernel
theorem dT_sendMessage_102 : decode cT_sendMessage 102 = .ok (.iload 5, 2) := by decide +kernel
theorem dT_sendMessage_104 : decode cT_sendMessage 104 = .ok (.imul, 1) := by decide +kernel
theorem dT_sendMessage_105 : decode cT_sendMessage 105 = .ok (.iconst 4, 1) := by decide +kernel
theorem dT_sendMessage_106 : decode cT_sendMessage 106 = .ok (.iadd, 1) := by decide +kernel
theorem dT_sendMessage_107 : decode cT_sendMessage 107 = .ok (.iaload, 1) := by decide +kernel
theorem dT_sendMessage_108 : decode cT_sendMessage 108 = .ok (.iastore, 1) := by decide +kernel
theorem dT_sendMessage_109 : decode cT_sendMessage 109 = .ok (.aload_n 0, 1) := by decide +kernel
theorem dT_sendMessage_110 : decode cT_sendMessage 110 = .ok (.getfield 19, 3) := by decide +kernel
theorem dT_sendMessage_113 : decode cT_sendMessage 113 = .ok (.iload 4, 2) := by decide +kernel
theorem dT_sendMessage_115 : decode cT_sendMessage 115 = .ok (.iconst 5, 1) := by decide +kernel
theorem dT_sendMessage_116 : decode cT_sendMessage 116 = .ok (.iadd, 1) := by decide +kernel
theorem dT_sendMessage_117 : decode cT_sendMessage 117 = .ok (.aload_n 0, 1) := by decide +kernel
theorem dT_sendMessage_118 : decode cT_sendMessage 118 = .ok (.iload_n 3, 1) := by decide +kernel
theorem dT_sendMessage_119 : decode cT_sendMessage 119 = .ok (.invokevirtual 159, 3) := by decide +kernel
theorem dT_sendMessage_122 : decode cT_sendMessage 122 = .ok (.ifCond .eq 7, 3) := by decide +kernel
theorem dT_sendMessage_125 : decode cT_sendMessage 125 = .ok (.iconst 1, 1) := by decide +kernel
theorem dT_sendMessage_126 : decode cT_sendMessage 126 = .ok (.goto 4, 3) := by decide +kernel
theorem dT_sendMessage_129 : decode cT_sendMessage 129 = .ok (.iconst 0, 1) := by decide +kernel
theorem dT_sendMessage_130 : decode cT_sendMessage 130 = .ok (.iastore, 1) := by decide +kernel
theorem dT_sendMessage_131 : decode cT_sendMessage 131 = .ok (.aload_n 0, 1) := by decide +kernel
theorem dT_sendMessage_132 : decode cT_sendMessage 132 = .ok (.getfield 22, 3) := by decide +kernel
theorem dT_sendMessage_135 : decode cT_sendMessage 135 = .ok (.iload_n 2, 1) := by decide +kernel
theorem dT_sendMessage_136 : decode cT_sendMessage 136 = .ok (.iconst 1, 1) := by decide +kernel
theorem dT_sendMessage_137 : decode cT_sendMessage 137 = .ok (.bastore, 1) := by decide +kernel
theorem dT_sendMessage_138 : decode cT_sendMessage 138 = .ok (.return_, 1) := by decide +kernel
theorem dT_takeMessages_0 : decode cT_takeMessages 0 = .ok (.iconst 0, 1) := by decide +kernel
theorem dT_takeMessages_1 : decode cT_takeMessages 1 = .ok (.istore_n 1, 1) := by decide +kernel
theorem dT_takeMessages_2 : decode cT_takeMessages 2 = .ok (.iload_n 1, 1) := by decide +kernel
theorem dT_takeMessages_3 : decode cT_takeMessages 3 = .ok (.bipush 24, 2) := by decide +kernel
theorem dT_takeMessages_5 : decode cT_takeMessages 5 = .ok (.if_icmp .ge 53, 3) := by decide +kernel
theorem dT_takeMessages_8 : decode cT_takeMessages 8 = .ok (.aload_n 0, 1) := by decide +kernel
theorem dT_takeMessages_9 : decode cT_takeMessages 9 = .ok (.getfield 22, 3) := by decide +kernel
theorem dT_takeMessages_12 : decode cT_takeMessages 12 = .ok (.iload_n 1, 1) := by decide +kernel
theorem dT_takeMessages_13 : decode cT_takeMessages 13 = .ok (.baload, 1) := by decide +kernel
theorem dT_takeMessages_14 : decode cT_takeMessages 14 = .ok (.ifCond .eq 38, 3) := by decide +kernel
theorem dT_takeMessages_17 : decode cT_takeMessages 17 = .ok (.aload_n 0, 1) := by decide +kernel
theorem dT_takeMessages_18 : decode cT_takeMessages 18 = .ok (.getfield 19, 3) := by decide +kernel
theorem dT_takeMessages_21 : decode cT_takeMessages 21 = .ok (.bipush 6, 2) := by decide +kernel
theorem dT_takeMessages_23 : decode cT_takeMessages 23 = .ok (.iload_n 1, 1) := by decide +kernel
theorem dT_takeMessages_24 : decode cT_takeMessages 24 = .ok (.imul, 1) := by decide +kernel
theorem dT_takeMessages_25 : decode cT_takeMessages 25 = .ok (.aload_n 0, 1) := by decide +kernel
theorem dT_takeMessages_26 : decode cT_takeMessages 26 = .ok (.getfield 11, 3) := by decide +kernel
theorem dT_takeMessages_29 : decode cT_takeMessages 29 = .ok (.bipush 6, 2) := by decide +kernel
theorem dT_takeMessages_31 : decode cT_takeMessages 31 = .ok (.iload_n 1, 1) := by decide +kernel
theorem dT_takeMessages_32 : decode cT_takeMessages 32 = .ok (.imul, 1) := by decide +kernel
theorem dT_takeMessages_33 : decode cT_takeMessages 33 = .ok (.bipush 6, 2) := by decide +kernel
theorem dT_takeMessages_35 : decode cT_takeMessages 35 = .ok (.invokestatic 162, 3) := by decide +kernel
theorem dT_takeMessages_38 : decode cT_takeMessages 38 = .ok (.aload_n 0, 1) := by decide +kernel
theorem dT_takeMessages_39 : decode cT_takeMessages 39 = .ok (.getfield 15, 3) := by decide +kernel
theorem dT_takeMessages_42 : decode cT_takeMessages 42 = .ok (.iload_n 1, 1) := by decide +kernel
theorem dT_takeMessages_43 : decode cT_takeMessages 43 = .ok (.iconst 1, 1) := by decide +kernel
theorem dT_takeMessages_44 : decode cT_takeMessages 44 = .ok (.bastore, 1) := by decide +kernel
theorem dT_takeMessages_45 : decode cT_takeMessages 45 = .ok (.aload_n 0, 1) := by decide +kernel
theorem dT_takeMessages_46 : decode cT_takeMessages 46 = .ok (.getfield 22, 3) := by decide +kernel
theorem dT_takeMessages_49 : decode cT_takeMessages 49 = .ok (.iload_n 1, 1) := by decide +kernel
theorem dT_takeMessages_50 : decode cT_takeMessages 50 = .ok (.iconst 0, 1) := by decide +kernel
theorem dT_takeMessages_51 : decode cT_takeMessages 51 = .ok (.bastore, 1) := by decide +kernel
theorem dT_takeMessages_52 : decode cT_takeMessages 52 = .ok (.iinc 1 1, 3) := by decide +kernel
theorem dT_takeMessages_55 : decode cT_takeMessages 55 = .ok (.goto (-53), 3) := by decide +kernel
theorem dT_takeMessages_58 : decode cT_takeMessages 58 = .ok (.return_, 1) := by decide +kernel
theorem dN_init_0 : decode cN_init 0 = .ok (.aload_n 0, 1) := by decide +kernel
theorem dN_init_1 : decode cN_init 1 = .ok (.invokespecial 3, 3) := by decide +kernel
theorem dN_init_4 : decode cN_init 4 = .ok (.aload_n 0, 1) := by decide +kernel
theorem dN_init_5 : decode cN_init 5 = .ok (.iload_n 3, 1) := by decide +kernel
theorem dN_init_6 : decode cN_init 6 = .ok (.iconst 5, 1) := by decide +kernel
theorem dN_init_7 : decode cN_init 7 = .ok (.bipush 40, 2) := by decide +kernel
theorem dN_init_9 : decode cN_init 9 = .ok (.invokestatic 9, 3) := by decide +kernel
theorem dN_init_12 : decode cN_init 12 = .ok (.putfield 13, 3) := by decide +kernel
theorem dN_init_15 : decode cN_init 15 = .ok (.aload_n 0, 1) := by decide +kernel
theorem dN_init_16 : decode cN_init 16 = .ok (.new 17, 3) := by decide +kernel
theorem dN_init_19 : decode cN_init 19 = .ok (.dup, 1) := by decide +kernel
theorem dN_init_20 : decode cN_init 20 = .ok (.invokespecial 19, 3) := by decide +kernel
theorem dN_init_23 : decode cN_init 23 = .ok (.putfield 20, 3) := by decide +kernel
theorem dN_init_26 : decode cN_init 26 = .ok (.aload_n 0, 1) := by decide +kernel
theorem dN_init_27 : decode cN_init 27 = .ok (.new 24, 3) := by decide +kernel
theorem dN_init_30 : decode cN_init 30 = .ok (.dup, 1) := by decide +kernel
theorem dN_init_31 : decode cN_init 31 = .ok (.invokespecial 26, 3) := by decide +kernel
theorem dN_init_34 : decode cN_init 34 = .ok (.putfield 27, 3) := by decide +kernel
theorem dN_init_37 : decode cN_init 37 = .ok (.aload_n 0, 1) := by decide +kernel
theorem dN_init_38 : decode cN_init 38 = .ok (.new 31, 3) := by decide +kernel
theorem dN_init_41 : decode cN_init 41 = .ok (.dup, 1) := by decide +kernel
theorem dN_init_42 : decode cN_init 42 = .ok (.aload_n 0, 1) := by decide +kernel
theorem dN_init_43 : decode cN_init 43 = .ok (.getfield 20, 3) := by decide +kernel
theorem dN_init_46 : decode cN_init 46 = .ok (.iload_n 1, 1) := by decide +kernel
theorem dN_init_47 : decode cN_init 47 = .ok (.bipush 6, 2) := by decide +kernel
theorem dN_init_49 : decode cN_init 49 = .ok (.bipush 12, 2) := by decide +kernel
theorem dN_init_51 : decode cN_init 51 = .ok (.invokestatic 9, 3) := by decide +kernel
theorem dN_init_54 : decode cN_init 54 = .ok (.iload_n 2, 1) := by decide +kernel
theorem dN_init_55 : decode cN_init 55 = .ok (.iconst 1, 1) := by decide +kernel
theorem dN_init_56 : decode cN_init 56 = .ok (.iconst 4, 1) := by decide +kernel
theorem dN_init_57 : decode cN_init 57 = .ok (.invokestatic 9, 3) := by decide +kernel
theorem dN_init_60 : decode cN_init 60 = .ok (.invokespecial 33, 3) := by decide +kernel
theorem dN_init_63 : decode cN_init 63 = .ok (.putfield 36, 3) := by decide +kernel
theorem dN_init_66 : decode cN_init 66 = .ok (.aload_n 0, 1) := by decide +kernel
theorem dN_init_67 : decode cN_init 67 = .ok (.new 40, 3) := by decide +kernel
theorem dN_init_70 : decode cN_init 70 = .ok (.dup, 1) := by decide +kernel
theorem dN_init_71 : decode cN_init 71 = .ok (.invokespecial 42, 3) := by decide +kernel
theorem dN_init_74 : decode cN_init 74 = .ok (.putfield 43, 3) := by decide +kernel
theorem dN_init_77 : decode cN_init 77 = .ok (.aload_n 0, 1) := by decide +kernel
theorem dN_init_78 : decode cN_init 78 = .ok (.new 47, 3) := by decide +kernel
theorem dN_init_81 : decode cN_init 81 = .ok (.dup, 1) := by decide +kernel
theorem dN_init_82 : decode cN_init 82 = .ok (.aload_n 0, 1) := by decide +kernel
theorem dN_init_83 : decode cN_init 83 = .ok (.getfield 20, 3) := by decide +kernel
theorem dN_init_86 : decode cN_init 86 = .ok (.aload_n 0, 1) := by decide +kernel
theorem dN_init_87 : decode cN_init 87 = .ok (.getfield 27, 3) := by decide +kernel
theorem dN_init_90 : decode cN_init 90 = .ok (.aload_n 0, 1) := by decide +kernel
theorem dN_init_91 : decode cN_init 91 = .ok (.getfield 36, 3) := by decide +kernel
theorem dN_init_94 : decode cN_init 94 = .ok (.aload_n 0, 1) := by decide +kernel
theorem dN_init_95 : decode cN_init 95 = .ok (.getfield 43, 3) := by decide +kernel
theorem dN_init_98 : decode cN_init 98 = .ok (.invokespecial 49, 3) := by decide +kernel
theorem dN_init_101 : decode cN_init 101 = .ok (.putfield 52, 3) := by decide +kernel
theorem dN_init_104 : decode cN_init 104 = .ok (.aload_n 0, 1) := by decide +kernel
theorem dN_init_105 : decode cN_init 105 = .ok (.iconst 0, 1) := by decide +kernel
theorem dN_init_106 : decode cN_init 106 = .ok (.putfield 56, 3) := by decide +kernel
theorem dN_init_109 : decode cN_init 109 = .ok (.return_, 1) := by decide +kernel
theorem dN_bridge_0 : decode cN_bridge 0 = .ok (.aload_n 0, 1) := by decide +kernel
theorem dN_bridge_1 : decode cN_bridge 1 = .ok (.getfield 20, 3) := by decide +kernel
theorem dN_bridge_4 : decode cN_bridge 4 = .ok (.getfield 59, 3) := by decide +kernel
theorem dN_bridge_7 : decode cN_bridge 7 = .ok (.bipush 6, 2) := by decide +kernel
theorem dN_bridge_9 : decode cN_bridge 9 = .ok (.if_icmp .ge 13, 3) := by decide +kernel
theorem dN_bridge_12 : decode cN_bridge 12 = .ok (.iload_n 1, 1) := by decide +kernel
theorem dN_bridge_13 : decode cN_bridge 13 = .ok (.iconst 0, 1) := by decide +kernel
theorem dN_bridge_14 : decode cN_bridge 14 = .ok (.bipush 7, 2) := by decide +kernel
theorem dN_bridge_16 : decode cN_bridge 16 = .ok (.invokestatic 62, 3) := by decide +kernel
theorem dN_bridge_19 : decode cN_bridge 19 = .ok (.ifCond .ne 5, 3) := by decide +kernel
theorem dN_bridge_22 : decode cN_bridge 22 = .ok (.iconst (-1), 1) := by decide +kernel
theorem dN_bridge_23 : decode cN_bridge 23 = .ok (.ireturn, 1) := by decide +kernel
theorem dN_bridge_24 : decode cN_bridge 24 = .ok (.aload_n 0, 1) := by decide +kernel
theorem dN_bridge_25 : decode cN_bridge 25 = .ok (.getfield 20, 3) := by decide +kernel
theorem dN_bridge_28 : decode cN_bridge 28 = .ok (.iload_n 1, 1) := by decide +kernel
theorem dN_bridge_29 : decode cN_bridge 29 = .ok (.invokevirtual 66, 3) := by decide +kernel
theorem dN_bridge_32 : decode cN_bridge 32 = .ok (.istore_n 2, 1) := by decide +kernel
theorem dN_bridge_33 : decode cN_bridge 33 = .ok (.aload_n 0, 1) := by decide +kernel
theorem dN_bridge_34 : decode cN_bridge 34 = .ok (.getfield 36, 3) := by decide +kernel
theorem dN_bridge_37 : decode cN_bridge 37 = .ok (.invokevirtual 70, 3) := by decide +kernel
theorem dN_bridge_40 : decode cN_bridge 40 = .ok (.iload_n 2, 1) := by decide +kernel
theorem dN_bridge_41 : decode cN_bridge 41 = .ok (.ireturn, 1) := by decide +kernel
theorem dN_wire_0 : decode cN_wire 0 = .ok (.aload_n 0, 1) := by decide +kernel
theorem dN_wire_1 : decode cN_wire 1 = .ok (.getfield 20, 3) := by decide +kernel
theorem dN_wire_4 : decode cN_wire 4 = .ok (.getfield 73, 3) := by decide +kernel
theorem dN_wire_7 : decode cN_wire 7 = .ok (.bipush 10, 2) := by decide +kernel
theorem dN_wire_9 : decode cN_wire 9 = .ok (.if_icmp .ge 25, 3) := by decide +kernel
theorem dN_wire_12 : decode cN_wire 12 = .ok (.aload_n 0, 1) := by decide +kernel
theorem dN_wire_13 : decode cN_wire 13 = .ok (.getfield 20, 3) := by decide +kernel
theorem dN_wire_16 : decode cN_wire 16 = .ok (.iload_n 1, 1) := by decide +kernel
theorem dN_wire_17 : decode cN_wire 17 = .ok (.invokevirtual 76, 3) := by decide +kernel
theorem dN_wire_20 : decode cN_wire 20 = .ok (.ifCond .eq 14, 3) := by decide +kernel
theorem dN_wire_23 : decode cN_wire 23 = .ok (.aload_n 0, 1) := by decide +kernel
theorem dN_wire_24 : decode cN_wire 24 = .ok (.getfield 20, 3) := by decide +kernel
theorem dN_wire_27 : decode cN_wire 27 = .ok (.iload_n 2, 1) := by decide +kernel
theorem dN_wire_28 : decode cN_wire 28 = .ok (.invokevirtual 76, 3) := by decide +kernel
theorem dN_wire_31 : decode cN_wire 31 = .ok (.ifCond .ne 5, 3) := by decide +kernel
theorem dN_wire_34 : decode cN_wire 34 = .ok (.iconst (-1), 1) := by decide +kernel
theorem dN_wire_35 : decode cN_wire 35 = .ok (.ireturn, 1) := by decide +kernel
theorem dN_wire_36 : decode cN_wire 36 = .ok (.iload_n 1, 1) := by decide +kernel
theorem dN_wire_37 : decode cN_wire 37 = .ok (.iload_n 2, 1) := by decide +kernel
theorem dN_wire_38 : decode cN_wire 38 = .ok (.if_icmp .eq 13, 3) := by decide +kernel
theorem dN_wire_41 : decode cN_wire 41 = .ok (.iload_n 3, 1) := by decide +kernel
theorem dN_wire_42 : decode cN_wire 42 = .ok (.iconst 1, 1) := by decide +kernel
theorem dN_wire_43 : decode cN_wire 43 = .ok (.bipush 9, 2) := by decide +kernel
theorem dN_wire_45 : decode cN_wire 45 = .ok (.invokestatic 62, 3) := by decide +kernel
theorem dN_wire_48 : decode cN_wire 48 = .ok (.ifCond .ne 5, 3) := by decide +kernel
theorem dN_wire_51 : decode cN_wire 51 = .ok (.iconst (-1), 1) := by decide +kernel
theorem dN_wire_52 : decode cN_wire 52 = .ok (.ireturn, 1) := by decide +kernel
theorem dN_wire_53 : decode cN_wire 53 = .ok (.aload_n 0, 1) := by decide +kernel
theorem dN_wire_54 : decode cN_wire 54 = .ok (.getfield 20, 3) := by decide +kernel
theorem dN_wire_57 : decode cN_wire 57 = .ok (.iload_n 1, 1) := by decide +kernel
theorem dN_wire_58 : decode cN_wire 58 = .ok (.iload_n 2, 1) := by decide +kernel
theorem dN_wire_59 : decode cN_wire 59 = .ok (.iload_n 3, 1) := by decide +kernel
theorem dN_wire_60 : decode cN_wire 60 = .ok (.invokevirtual 80, 3) := by decide +kernel
theorem dN_wire_63 : decode cN_wire 63 = .ok (.istore 4, 2) := by decide +kernel
theorem dN_wire_65 : decode cN_wire 65 = .ok (.aload_n 0, 1) := by decide +kernel
theorem dN_wire_66 : decode cN_wire 66 = .ok (.getfield 36, 3) := by decide +kernel
theorem dN_wire_69 : decode cN_wire 69 = .ok (.invokevirtual 70, 3) := by decide +kernel
theorem dN_wire_72 : decode cN_wire 72 = .ok (.iload 4, 2) := by decide +kernel
theorem dN_wire_74 : decode cN_wire 74 = .ok (.ireturn, 1) := by decide +kernel
theorem dN_host_0 : decode cN_host 0 = .ok (.aload_n 0, 1) := by decide +kernel
theorem dN_host_1 : decode cN_host 1 = .ok (.getfield 20, 3) := by decide +kernel
theorem dN_host_4 : decode cN_host 4 = .ok (.getfield 83, 3) := by decide +kernel
theorem dN_host_7 : decode cN_host 7 = .ok (.bipush 6, 2) := by decide +kernel
theorem dN_host_9 : decode cN_host 9 = .ok (.if_icmp .ge 21, 3) := by decide +kernel
theorem dN_host_12 : decode cN_host 12 = .ok (.aload_n 0, 1) := by decide +kernel
theorem dN_host_13 : decode cN_host 13 = .ok (.getfield 20, 3) := by decide +kernel
theorem dN_host_16 : decode cN_host 16 = .ok (.iload_n 1, 1) := by decide +kernel
theorem dN_host_17 : decode cN_host 17 = .ok (.invokevirtual 76, 3) := by decide +kernel
theorem dN_host_20 : decode cN_host 20 = .ok (.ifCond .eq 10, 3) := by decide +kernel
theorem dN_host_23 : decode cN_host 23 = .ok (.iload_n 2, 1) := by decide +kernel
theorem dN_host_24 : decode cN_host 24 = .ok (.invokestatic 86, 3) := by decide +kernel
theorem dN_host_27 : decode cN_host 27 = .ok (.ifCond .ne 5, 3) := by decide +kernel
theorem dN_host_30 : decode cN_host 30 = .ok (.iconst (-1), 1) := by decide +kernel
theorem dN_host_31 : decode cN_host 31 = .ok (.ireturn, 1) := by decide +kernel
theorem dN_host_32 : decode cN_host 32 = .ok (.aload_n 0, 1) := by decide +kernel
theorem dN_host_33 : decode cN_host 33 = .ok (.getfield 20, 3) := by decide +kernel
theorem dN_host_36 : decode cN_host 36 = .ok (.iload_n 1, 1) := by decide +kernel
theorem dN_host_37 : decode cN_host 37 = .ok (.iload_n 2, 1) := by decide +kernel
theorem dN_host_38 : decode cN_host 38 = .ok (.invokevirtual 89, 3) := by decide +kernel
theorem dN_host_41 : decode cN_host 41 = .ok (.istore_n 3, 1) := by decide +kernel
theorem dN_host_42 : decode cN_host 42 = .ok (.aload_n 0, 1) := by decide +kernel
theorem dN_host_43 : decode cN_host 43 = .ok (.getfield 36, 3) := by decide +kernel
theorem dN_host_46 : decode cN_host 46 = .ok (.invokevirtual 70, 3) := by decide +kernel
theorem dN_host_49 : decode cN_host 49 = .ok (.iload_n 3, 1) := by decide +kernel
theorem dN_host_50 : decode cN_host 50 = .ok (.ireturn, 1) := by decide +kernel
theorem dN_router_0 : decode cN_router 0 = .ok (.aload_n 0, 1) := by decide +kernel
theorem dN_router_1 : decode cN_router 1 = .ok (.getfield 20, 3) := by decide +kernel
theorem dN_router_4 : decode cN_router 4 = .ok (.invokevirtual 93, 3) := by decide +kernel
theorem dN_router_7 : decode cN_router 7 = .ok (.ifCond .ne 14, 3) := by decide +kernel
theorem dN_router_10 : decode cN_router 10 = .ok (.aload_n 0, 1) := by decide +kernel
theorem dN_router_11 : decode cN_router 11 = .ok (.getfield 20, 3) := by decide +kernel
theorem dN_router_14 : decode cN_router 14 = .ok (.iload_n 1, 1) := by decide +kernel
theorem dN_router_15 : decode cN_router 15 = .ok (.invokevirtual 76, 3) := by decide +kernel
theorem dN_router_18 : decode cN_router 18 = .ok (.ifCond .ne 5, 3) := by decide +kernel
theorem dN_router_21 : decode cN_router 21 = .ok (.iconst 0, 1) := by decide +kernel
theorem dN_router_22 : decode cN_router 22 = .ok (.ireturn, 1) := by decide +kernel
theorem dN_router_23 : decode cN_router 23 = .ok (.aload_n 0, 1) := by decide +kernel
theorem dN_router_24 : decode cN_router 24 = .ok (.getfield 20, 3) := by decide +kernel
theorem dN_router_27 : decode cN_router 27 = .ok (.iload_n 1, 1) := by decide +kernel
theorem dN_router_28 : decode cN_router 28 = .ok (.invokevirtual 97, 3) := by decide +kernel
theorem dN_router_31 : decode cN_router 31 = .ok (.aload_n 0, 1) := by decide +kernel
theorem dN_router_32 : decode cN_router 32 = .ok (.getfield 36, 3) := by decide +kernel
theorem dN_router_35 : decode cN_router 35 = .ok (.invokevirtual 70, 3) := by decide +kernel
theorem dN_router_38 : decode cN_router 38 = .ok (.iconst 1, 1) := by decide +kernel
theorem dN_router_39 : decode cN_router 39 = .ok (.ireturn, 1) := by decide +kernel
theorem dN_access_0 : decode cN_access 0 = .ok (.aload_n 0, 1) := by decide +kernel
theorem dN_access_1 : decode cN_access 1 = .ok (.getfield 20, 3) := by decide +kernel
theorem dN_access_4 : decode cN_access 4 = .ok (.iload_n 1, 1) := by decide +kernel
theorem dN_access_5 : decode cN_access 5 = .ok (.invokevirtual 101, 3) := by decide +kernel
theorem dN_access_8 : decode cN_access 8 = .ok (.ifCond .eq 10, 3) := by decide +kernel
theorem dN_access_11 : decode cN_access 11 = .ok (.iload_n 2, 1) := by decide +kernel
theorem dN_access_12 : decode cN_access 12 = .ok (.invokestatic 86, 3) := by decide +kernel
theorem dN_access_15 : decode cN_access 15 = .ok (.ifCond .ne 5, 3) := by decide +kernel
theorem dN_access_18 : decode cN_access 18 = .ok (.iconst 0, 1) := by decide +kernel
theorem dN_access_19 : decode cN_access 19 = .ok (.ireturn, 1) := by decide +kernel
theorem dN_access_20 : decode cN_access 20 = .ok (.aload_n 0, 1) := by decide +kernel
theorem dN_access_21 : decode cN_access 21 = .ok (.getfield 27, 3) := by decide +kernel
theorem dN_access_24 : decode cN_access 24 = .ok (.iload_n 1, 1) := by decide +kernel
theorem dN_access_25 : decode cN_access 25 = .ok (.iload_n 2, 1) := by decide +kernel
theorem dN_access_26 : decode cN_access 26 = .ok (.invokevirtual 104, 3) := by decide +kernel
theorem dN_access_29 : decode cN_access 29 = .ok (.iconst 1, 1) := by decide +kernel
theorem dN_access_30 : decode cN_access 30 = .ok (.ireturn, 1) := by decide +kernel
theorem dN_trunk_0 : decode cN_trunk 0 = .ok (.aload_n 0, 1) := by decide +kernel
theorem dN_trunk_1 : decode cN_trunk 1 = .ok (.getfield 20, 3) := by decide +kernel
theorem dN_trunk_4 : decode cN_trunk 4 = .ok (.iload_n 1, 1) := by decide +kernel
theorem dN_trunk_5 : decode cN_trunk 5 = .ok (.invokevirtual 101, 3) := by decide +kernel
theorem dN_trunk_8 : decode cN_trunk 8 = .ok (.ifCond .eq 20, 3) := by decide +kernel
theorem dN_trunk_11 : decode cN_trunk 11 = .ok (.iload_n 2, 1) := by decide +kernel
theorem dN_trunk_12 : decode cN_trunk 12 = .ok (.invokestatic 86, 3) := by decide +kernel
theorem dN_trunk_15 : decode cN_trunk 15 = .ok (.ifCond .eq 13, 3) := by decide +kernel
theorem dN_trunk_18 : decode cN_trunk 18 = .ok (.iload_n 3, 1) := by decide +kernel
theorem dN_trunk_19 : decode cN_trunk 19 = .ok (.iconst 0, 1) := by decide +kernel
theorem dN_trunk_20 : decode cN_trunk 20 = .ok (.bipush 15, 2) := by decide +kernel
theorem dN_trunk_22 : decode cN_trunk 22 = .ok (.invokestatic 62, 3) := by decide +kernel
theorem dN_trunk_25 : decode cN_trunk 25 = .ok (.ifCond .ne 5, 3) := by decide +kernel
theorem dN_trunk_28 : decode cN_trunk 28 = .ok (.iconst 0, 1) := by decide +kernel
theorem dN_trunk_29 : decode cN_trunk 29 = .ok (.ireturn, 1) := by decide +kernel
theorem dN_trunk_30 : decode cN_trunk 30 = .ok (.aload_n 0, 1) := by decide +kernel
theorem dN_trunk_31 : decode cN_trunk 31 = .ok (.getfield 27, 3) := by decide +kernel
theorem dN_trunk_34 : decode cN_trunk 34 = .ok (.iload_n 1, 1) := by decide +kernel
theorem dN_trunk_35 : decode cN_trunk 35 = .ok (.iload_n 2, 1) := by decide +kernel
theorem dN_trunk_36 : decode cN_trunk 36 = .ok (.iload_n 3, 1) := by decide +kernel
theorem dN_trunk_37 : decode cN_trunk 37 = .ok (.invokevirtual 108, 3) := by decide +kernel
theorem dN_trunk_40 : decode cN_trunk 40 = .ok (.iconst 1, 1) := by decide +kernel
theorem dN_trunk_41 : decode cN_trunk 41 = .ok (.ireturn, 1) := by decide +kernel
theorem dN_cut_0 : decode cN_cut 0 = .ok (.iload_n 1, 1) := by decide +kernel
theorem dN_cut_1 : decode cN_cut 1 = .ok (.iconst 0, 1) := by decide +kernel
theorem dN_cut_2 : decode cN_cut 2 = .ok (.aload_n 0, 1) := by decide +kernel
theorem dN_cut_3 : decode cN_cut 3 = .ok (.getfield 20, 3) := by decide +kernel
theorem dN_cut_6 : decode cN_cut 6 = .ok (.getfield 73, 3) := by decide +kernel
theorem dN_cut_9 : decode cN_cut 9 = .ok (.iconst 1, 1) := by decide +kernel
theorem dN_cut_10 : decode cN_cut 10 = .ok (.isub, 1) := by decide +kernel
theorem dN_cut_11 : decode cN_cut 11 = .ok (.invokestatic 62, 3) := by decide +kernel
theorem dN_cut_14 : decode cN_cut 14 = .ok (.ifCond .eq 16, 3) := by decide +kernel
theorem dN_cut_17 : decode cN_cut 17 = .ok (.aload_n 0, 1) := by decide +kernel
theorem dN_cut_18 : decode cN_cut 18 = .ok (.getfield 20, 3) := by decide +kernel
theorem dN_cut_21 : decode cN_cut 21 = .ok (.getfield 112, 3) := by decide +kernel
theorem dN_cut_24 : decode cN_cut 24 = .ok (.iload_n 1, 1) := by decide +kernel
theorem dN_cut_25 : decode cN_cut 25 = .ok (.baload, 1) := by decide +kernel
theorem dN_cut_26 : decode cN_cut 26 = .ok (.iload_n 2, 1) := by decide +kernel
theorem dN_cut_27 : decode cN_cut 27 = .ok (.if_icmp .ne 5, 3) := by decide +kernel
theorem dN_cut_30 : decode cN_cut 30 = .ok (.iconst 0, 1) := by decide +kernel
theorem dN_cut_31 : decode cN_cut 31 = .ok (.ireturn, 1) := by decide +kernel
theorem dN_cut_32 : decode cN_cut 32 = .ok (.aload_n 0, 1) := by decide +kernel
theorem dN_cut_33 : decode cN_cut 33 = .ok (.getfield 20, 3) := by decide +kernel
theorem dN_cut_36 : decode cN_cut 36 = .ok (.getfield 112, 3) := by decide +kernel
theorem dN_cut_39 : decode cN_cut 39 = .ok (.iload_n 1, 1) := by decide +kernel
theorem dN_cut_40 : decode cN_cut 40 = .ok (.iload_n 2, 1) := by decide +kernel
theorem dN_cut_41 : decode cN_cut 41 = .ok (.bastore, 1) := by decide +kernel
theorem dN_cut_42 : decode cN_cut 42 = .ok (.aload_n 0, 1) := by decide +kernel
theorem dN_cut_43 : decode cN_cut 43 = .ok (.getfield 20, 3) := by decide +kernel
theorem dN_cut_46 : decode cN_cut 46 = .ok (.getfield 116, 3) := by decide +kernel
theorem dN_cut_49 : decode cN_cut 49 = .ok (.iload_n 1, 1) := by decide +kernel
theorem dN_cut_50 : decode cN_cut 50 = .ok (.iaload, 1) := by decide +kernel
theorem dN_cut_51 : decode cN_cut 51 = .ok (.istore_n 3, 1) := by decide +kernel
theorem dN_cut_52 : decode cN_cut 52 = .ok (.aload_n 0, 1) := by decide +kernel
theorem dN_cut_53 : decode cN_cut 53 = .ok (.getfield 36, 3) := by decide +kernel
theorem dN_cut_56 : decode cN_cut 56 = .ok (.iload_n 3, 1) := by decide +kernel
theorem dN_cut_57 : decode cN_cut 57 = .ok (.invokevirtual 120, 3) := by decide +kernel
theorem dN_cut_60 : decode cN_cut 60 = .ok (.aload_n 0, 1) := by decide +kernel
theorem dN_cut_61 : decode cN_cut 61 = .ok (.getfield 36, 3) := by decide +kernel
theorem dN_cut_64 : decode cN_cut 64 = .ok (.aload_n 0, 1) := by decide +kernel
theorem dN_cut_65 : decode cN_cut 65 = .ok (.getfield 20, 3) := by decide +kernel
theorem dN_cut_68 : decode cN_cut 68 = .ok (.getfield 123, 3) := by decide +kernel
theorem dN_cut_71 : decode cN_cut 71 = .ok (.iload_n 3, 1) := by decide +kernel
theorem dN_cut_72 : decode cN_cut 72 = .ok (.iaload, 1) := by decide +kernel
theorem dN_cut_73 : decode cN_cut 73 = .ok (.invokevirtual 120, 3) := by decide +kernel
theorem dN_cut_76 : decode cN_cut 76 = .ok (.aload_n 0, 1) := by decide +kernel
theorem dN_cut_77 : decode cN_cut 77 = .ok (.getfield 36, 3) := by decide +kernel
theorem dN_cut_80 : decode cN_cut 80 = .ok (.invokevirtual 70, 3) := by decide +kernel
theorem dN_cut_83 : decode cN_cut 83 = .ok (.iconst 1, 1) := by decide +kernel
theorem dN_cut_84 : decode cN_cut 84 = .ok (.ireturn, 1) := by decide +kernel
theorem dN_tick_0 : decode cN_tick 0 = .ok (.iload_n 1, 1) := by decide +kernel
theorem dN_tick_1 : decode cN_tick 1 = .ok (.iconst 0, 1) := by decide +kernel
theorem dN_tick_2 : decode cN_tick 2 = .ok (.bipush 60, 2) := by decide +kernel
theorem dN_tick_4 : decode cN_tick 4 = .ok (.invokestatic 62, 3) := by decide +kernel
theorem dN_tick_7 : decode cN_tick 7 = .ok (.ifCond .ne 5, 3) := by decide +kernel
theorem dN_tick_10 : decode cN_tick 10 = .ok (.iconst (-1), 1) := by decide +kernel
theorem dN_tick_11 : decode cN_tick 11 = .ok (.ireturn, 1) := by decide +kernel
theorem dN_tick_12 : decode cN_tick 12 = .ok (.iconst 0, 1) := by decide +kernel
theorem dN_tick_13 : decode cN_tick 13 = .ok (.istore_n 2, 1) := by decide +kernel
theorem dN_tick_14 : decode cN_tick 14 = .ok (.iload_n 2, 1) := by decide +kernel
theorem dN_tick_15 : decode cN_tick 15 = .ok (.iload_n 1, 1) := by decide +kernel
theorem dN_tick_16 : decode cN_tick 16 = .ok (.if_icmp .ge 20, 3) := by decide +kernel
theorem dN_tick_19 : decode cN_tick 19 = .ok (.aload_n 0, 1) := by decide +kernel
theorem dN_tick_20 : decode cN_tick 20 = .ok (.getfield 36, 3) := by decide +kernel
theorem dN_tick_23 : decode cN_tick 23 = .ok (.invokevirtual 126, 3) := by decide +kernel
theorem dN_tick_26 : decode cN_tick 26 = .ok (.aload_n 0, 1) := by decide +kernel
theorem dN_tick_27 : decode cN_tick 27 = .ok (.invokevirtual 129, 3) := by decide +kernel
theorem dN_tick_30 : decode cN_tick 30 = .ok (.iinc 2 1, 3) := by decide +kernel
theorem dN_tick_33 : decode cN_tick 33 = .ok (.goto (-19), 3) := by decide +kernel
theorem dN_tick_36 : decode cN_tick 36 = .ok (.aload_n 0, 1) := by decide +kernel
theorem dN_tick_37 : decode cN_tick 37 = .ok (.getfield 36, 3) := by decide +kernel
theorem dN_tick_40 : decode cN_tick 40 = .ok (.getfield 132, 3) := by decide +kernel
theorem dN_tick_43 : decode cN_tick 43 = .ok (.ireturn, 1) := by decide +kernel
theorem dN_role_0 : decode cN_role 0 = .ok (.aload_n 0, 1) := by decide +kernel
theorem dN_role_1 : decode cN_role 1 = .ok (.getfield 20, 3) := by decide +kernel
theorem dN_role_4 : decode cN_role 4 = .ok (.iload_n 1, 1) := by decide +kernel
theorem dN_role_5 : decode cN_role 5 = .ok (.invokevirtual 101, 3) := by decide +kernel
theorem dN_role_8 : decode cN_role 8 = .ok (.ifCond .eq 15, 3) := by decide +kernel
theorem dN_role_11 : decode cN_role 11 = .ok (.aload_n 0, 1) := by decide +kernel
theorem dN_role_12 : decode cN_role 12 = .ok (.getfield 36, 3) := by decide +kernel
theorem dN_role_15 : decode cN_role 15 = .ok (.getfield 135, 3) := by decide +kernel
theorem dN_role_18 : decode cN_role 18 = .ok (.iload_n 1, 1) := by decide +kernel
theorem dN_role_19 : decode cN_role 19 = .ok (.iaload, 1) := by decide +kernel
theorem dN_role_20 : decode cN_role 20 = .ok (.goto 4, 3) := by decide +kernel
theorem dN_role_23 : decode cN_role 23 = .ok (.iconst (-1), 1) := by decide +kernel
theorem dN_role_24 : decode cN_role 24 = .ok (.ireturn, 1) := by decide +kernel
theorem dN_state_0 : decode cN_state 0 = .ok (.aload_n 0, 1) := by decide +kernel
theorem dN_state_1 : decode cN_state 1 = .ok (.getfield 20, 3) := by decide +kernel
theorem dN_state_4 : decode cN_state 4 = .ok (.iload_n 1, 1) := by decide +kernel
theorem dN_state_5 : decode cN_state 5 = .ok (.invokevirtual 101, 3) := by decide +kernel
theorem dN_state_8 : decode cN_state 8 = .ok (.ifCond .eq 15, 3) := by decide +kernel
theorem dN_state_11 : decode cN_state 11 = .ok (.aload_n 0, 1) := by decide +kernel
theorem dN_state_12 : decode cN_state 12 = .ok (.getfield 36, 3) := by decide +kernel
theorem dN_state_15 : decode cN_state 15 = .ok (.getfield 138, 3) := by decide +kernel
theorem dN_state_18 : decode cN_state 18 = .ok (.iload_n 1, 1) := by decide +kernel
theorem dN_state_19 : decode cN_state 19 = .ok (.iaload, 1) := by decide +kernel
theorem dN_state_20 : decode cN_state 20 = .ok (.goto 4, 3) := by decide +kernel
theorem dN_state_23 : decode cN_state 23 = .ok (.iconst (-1), 1) := by decide +kernel
theorem dN_state_24 : decode cN_state 24 = .ok (.ireturn, 1) := by decide +kernel
theorem dN_root_0 : decode cN_root 0 = .ok (.aload_n 0, 1) := by decide +kernel
theorem dN_root_1 : decode cN_root 1 = .ok (.getfield 20, 3) := by decide +kernel
theorem dN_root_4 : decode cN_root 4 = .ok (.iload_n 1, 1) := by decide +kernel
theorem dN_root_5 : decode cN_root 5 = .ok (.invokevirtual 141, 3) := by decide +kernel
theorem dN_root_8 : decode cN_root 8 = .ok (.ifCond .ne 5, 3) := by decide +kernel
theorem dN_root_11 : decode cN_root 11 = .ok (.iconst (-1), 1) := by decide +kernel
theorem dN_root_12 : decode cN_root 12 = .ok (.ireturn, 1) := by decide +kernel
theorem dN_root_13 : decode cN_root 13 = .ok (.aload_n 0, 1) := by decide +kernel
theorem dN_root_14 : decode cN_root 14 = .ok (.getfield 36, 3) := by decide +kernel
theorem dN_root_17 : decode cN_root 17 = .ok (.iload_n 1, 1) := by decide +kernel
theorem dN_root_18 : decode cN_root 18 = .ok (.invokevirtual 144, 3) := by decide +kernel
theorem dN_root_21 : decode cN_root 21 = .ok (.ifCond .eq 7, 3) := by decide +kernel
theorem dN_root_24 : decode cN_root 24 = .ok (.iconst 1, 1) := by decide +kernel
theorem dN_root_25 : decode cN_root 25 = .ok (.goto 4, 3) := by decide +kernel
theorem dN_root_28 : decode cN_root 28 = .ok (.iconst 0, 1) := by decide +kernel
theorem dN_root_29 : decode cN_root 29 = .ok (.istore_n 2, 1) := by decide +kernel
theorem dN_root_30 : decode cN_root 30 = .ok (.aload_n 0, 1) := by decide +kernel
theorem dN_root_31 : decode cN_root 31 = .ok (.getfield 36, 3) := by decide +kernel
theorem dN_root_34 : decode cN_root 34 = .ok (.getfield 147, 3) := by decide +kernel
theorem dN_root_37 : decode cN_root 37 = .ok (.iload_n 1, 1) := by decide +kernel
theorem dN_root_38 : decode cN_root 38 = .ok (.iaload, 1) := by decide +kernel
theorem dN_root_39 : decode cN_root 39 = .ok (.sipush 2048, 3) := by decide +kernel
theorem dN_root_42 : decode cN_root 42 = .ok (.imul, 1) := by decide +kernel
theorem dN_root_43 : decode cN_root 43 = .ok (.aload_n 0, 1) := by decide +kernel
theorem dN_root_44 : decode cN_root 44 = .ok (.getfield 36, 3) := by decide +kernel
theorem dN_root_47 : decode cN_root 47 = .ok (.getfield 150, 3) := by decide +kernel
theorem dN_root_50 : decode cN_root 50 = .ok (.iload_n 1, 1) := by decide +kernel
theorem dN_root_51 : decode cN_root 51 = .ok (.iaload, 1) := by decide +kernel
theorem dN_root_52 : decode cN_root 52 = .ok (.iconst 2, 1) := by decide +kernel
theorem dN_root_53 : decode cN_root 53 = .ok (.imul, 1) := by decide +kernel
theorem dN_root_54 : decode cN_root 54 = .ok (.iadd, 1) := by decide +kernel
theorem dN_root_55 : decode cN_root 55 = .ok (.iload_n 2, 1) := by decide +kernel
theorem dN_root_56 : decode cN_root 56 = .ok (.iadd, 1) := by decide +kernel
theorem dN_root_57 : decode cN_root 57 = .ok (.ireturn, 1) := by decide +kernel
theorem dN_held_0 : decode cN_held 0 = .ok (.aload_n 0, 1) := by decide +kernel
theorem dN_held_1 : decode cN_held 1 = .ok (.getfield 20, 3) := by decide +kernel
theorem dN_held_4 : decode cN_held 4 = .ok (.iload_n 1, 1) := by decide +kernel
theorem dN_held_5 : decode cN_held 5 = .ok (.invokevirtual 101, 3) := by decide +kernel
theorem dN_held_8 : decode cN_held 8 = .ok (.ifCond .eq 24, 3) := by decide +kernel
theorem dN_held_11 : decode cN_held 11 = .ok (.aload_n 0, 1) := by decide +kernel
theorem dN_held_12 : decode cN_held 12 = .ok (.getfield 36, 3) := by decide +kernel
theorem dN_held_15 : decode cN_held 15 = .ok (.getfield 153, 3) := by decide +kernel
theorem dN_held_18 : decode cN_held 18 = .ok (.iload_n 1, 1) := by decide +kernel
theorem dN_held_19 : decode cN_held 19 = .ok (.baload, 1) := by decide +kernel
theorem dN_held_20 : decode cN_held 20 = .ok (.ifCond .eq 12, 3) := by decide +kernel
theorem dN_held_23 : decode cN_held 23 = .ok (.iload_n 2, 1) := by decide +kernel
theorem dN_held_24 : decode cN_held 24 = .ok (.iconst 0, 1) := by decide +kernel
theorem dN_held_25 : decode cN_held 25 = .ok (.iconst 5, 1) := by decide +kernel
theorem dN_held_26 : decode cN_held 26 = .ok (.invokestatic 62, 3) := by decide +kernel
theorem dN_held_29 : decode cN_held 29 = .ok (.ifCond .ne 5, 3) := by decide +kernel
theorem dN_held_32 : decode cN_held 32 = .ok (.iconst (-1), 1) := by decide +kernel
theorem dN_held_33 : decode cN_held 33 = .ok (.ireturn, 1) := by decide +kernel
theorem dN_held_34 : decode cN_held 34 = .ok (.aload_n 0, 1) := by decide +kernel
theorem dN_held_35 : decode cN_held 35 = .ok (.getfield 36, 3) := by decide +kernel
theorem dN_held_38 : decode cN_held 38 = .ok (.getfield 156, 3) := by decide +kernel
theorem dN_held_41 : decode cN_held 41 = .ok (.bipush 6, 2) := by decide +kernel
theorem dN_held_43 : decode cN_held 43 = .ok (.iload_n 1, 1) := by decide +kernel
theorem dN_held_44 : decode cN_held 44 = .ok (.imul, 1) := by decide +kernel
theorem dN_held_45 : decode cN_held 45 = .ok (.iload_n 2, 1) := by decide +kernel
theorem dN_held_46 : decode cN_held 46 = .ok (.iadd, 1) := by decide +kernel
theorem dN_held_47 : decode cN_held 47 = .ok (.iaload, 1) := by decide +kernel
theorem dN_held_48 : decode cN_held 48 = .ok (.ireturn, 1) := by decide +kernel
theorem dN_learned_0 : decode cN_learned 0 = .ok (.aload_n 0, 1) := by decide +kernel
theorem dN_learned_1 : decode cN_learned 1 = .ok (.getfield 20, 3) := by decide +kernel
theorem dN_learned_4 : decode cN_learned 4 = .ok (.iload_n 1, 1) := by decide +kernel
theorem dN_learned_5 : decode cN_learned 5 = .ok (.invokevirtual 141, 3) := by decide +kernel
theorem dN_learned_8 : decode cN_learned 8 = .ok (.ifCond .eq 20, 3) := by decide +kernel
theorem dN_learned_11 : decode cN_learned 11 = .ok (.iload_n 2, 1) := by decide +kernel
theorem dN_learned_12 : decode cN_learned 12 = .ok (.invokestatic 86, 3) := by decide +kernel
theorem dN_learned_15 : decode cN_learned 15 = .ok (.ifCond .eq 13, 3) := by decide +kernel
theorem dN_learned_18 : decode cN_learned 18 = .ok (.iload_n 3, 1) := by decide +kernel
theorem dN_learned_19 : decode cN_learned 19 = .ok (.iconst 0, 1) := by decide +kernel
theorem dN_learned_20 : decode cN_learned 20 = .ok (.bipush 6, 2) := by decide +kernel
theorem dN_learned_22 : decode cN_learned 22 = .ok (.invokestatic 62, 3) := by decide +kernel
theorem dN_learned_25 : decode cN_learned 25 = .ok (.ifCond .ne 5, 3) := by decide +kernel
theorem dN_learned_28 : decode cN_learned 28 = .ok (.iconst (-1), 1) := by decide +kernel
theorem dN_learned_29 : decode cN_learned 29 = .ok (.ireturn, 1) := by decide +kernel
theorem dN_learned_30 : decode cN_learned 30 = .ok (.aload_n 0, 1) := by decide +kernel
theorem dN_learned_31 : decode cN_learned 31 = .ok (.getfield 43, 3) := by decide +kernel
theorem dN_learned_34 : decode cN_learned 34 = .ok (.iload_n 1, 1) := by decide +kernel
theorem dN_learned_35 : decode cN_learned 35 = .ok (.iload_n 2, 1) := by decide +kernel
theorem dN_learned_36 : decode cN_learned 36 = .ok (.iload_n 3, 1) := by decide +kernel
theorem dN_learned_37 : decode cN_learned 37 = .ok (.invokevirtual 159, 3) := by decide +kernel
theorem dN_learned_40 : decode cN_learned 40 = .ok (.ireturn, 1) := by decide +kernel
theorem dN_entries_0 : decode cN_entries 0 = .ok (.aload_n 0, 1) := by decide +kernel
theorem dN_entries_1 : decode cN_entries 1 = .ok (.getfield 20, 3) := by decide +kernel
theorem dN_entries_4 : decode cN_entries 4 = .ok (.iload_n 1, 1) := by decide +kernel
theorem dN_entries_5 : decode cN_entries 5 = .ok (.invokevirtual 141, 3) := by decide +kernel
theorem dN_entries_8 : decode cN_entries 8 = .ok (.ifCond .eq 14, 3) := by decide +kernel
theorem dN_entries_11 : decode cN_entries 11 = .ok (.aload_n 0, 1) := by decide +kernel
theorem dN_entries_12 : decode cN_entries 12 = .ok (.getfield 43, 3) := by decide +kernel
theorem dN_entries_15 : decode cN_entries 15 = .ok (.iload_n 1, 1) := by decide +kernel
theorem dN_entries_16 : decode cN_entries 16 = .ok (.invokevirtual 162, 3) := by decide +kernel
theorem dN_entries_19 : decode cN_entries 19 = .ok (.goto 4, 3) := by decide +kernel
theorem dN_entries_22 : decode cN_entries 22 = .ok (.iconst (-1), 1) := by decide +kernel
theorem dN_entries_23 : decode cN_entries 23 = .ok (.ireturn, 1) := by decide +kernel
theorem dN_send_0 : decode cN_send 0 = .ok (.aload_n 0, 1) := by decide +kernel
theorem dN_send_1 : decode cN_send 1 = .ok (.getfield 20, 3) := by decide +kernel
theorem dN_send_4 : decode cN_send 4 = .ok (.iload_n 1, 1) := by decide +kernel
theorem dN_send_5 : decode cN_send 5 = .ok (.invokevirtual 165, 3) := by decide +kernel
theorem dN_send_8 : decode cN_send 8 = .ok (.ifCond .eq 11, 3) := by decide +kernel
theorem dN_send_11 : decode cN_send 11 = .ok (.aload_n 0, 1) := by decide +kernel
theorem dN_send_12 : decode cN_send 12 = .ok (.iload_n 2, 1) := by decide +kernel
theorem dN_send_13 : decode cN_send 13 = .ok (.invokevirtual 168, 3) := by decide +kernel
theorem dN_send_16 : decode cN_send 16 = .ok (.ifCond .ne 5, 3) := by decide +kernel
theorem dN_send_19 : decode cN_send 19 = .ok (.iconst (-1), 1) := by decide +kernel
theorem dN_send_20 : decode cN_send 20 = .ok (.ireturn, 1) := by decide +kernel
theorem dN_send_21 : decode cN_send 21 = .ok (.aload_n 0, 1) := by decide +kernel
theorem dN_send_22 : decode cN_send 22 = .ok (.getfield 52, 3) := by decide +kernel
theorem dN_send_25 : decode cN_send 25 = .ok (.invokevirtual 171, 3) := by decide +kernel
theorem dN_send_28 : decode cN_send 28 = .ok (.aload_n 0, 1) := by decide +kernel
theorem dN_send_29 : decode cN_send 29 = .ok (.getfield 52, 3) := by decide +kernel
theorem dN_send_32 : decode cN_send 32 = .ok (.iload_n 1, 1) := by decide +kernel
theorem dN_send_33 : decode cN_send 33 = .ok (.iload_n 2, 1) := by decide +kernel
theorem dN_send_34 : decode cN_send 34 = .ok (.invokevirtual 174, 3) := by decide +kernel
theorem dN_send_37 : decode cN_send 37 = .ok (.ireturn, 1) := by decide +kernel
theorem dN_ask_0 : decode cN_ask 0 = .ok (.aload_n 0, 1) := by decide +kernel
theorem dN_ask_1 : decode cN_ask 1 = .ok (.getfield 20, 3) := by decide +kernel
theorem dN_ask_4 : decode cN_ask 4 = .ok (.iload_n 1, 1) := by decide +kernel
theorem dN_ask_5 : decode cN_ask 5 = .ok (.invokevirtual 165, 3) := by decide +kernel
theorem dN_ask_8 : decode cN_ask 8 = .ok (.ifCond .eq 14, 3) := by decide +kernel
theorem dN_ask_11 : decode cN_ask 11 = .ok (.aload_n 0, 1) := by decide +kernel
theorem dN_ask_12 : decode cN_ask 12 = .ok (.getfield 20, 3) := by decide +kernel
theorem dN_ask_15 : decode cN_ask 15 = .ok (.iload_n 2, 1) := by decide +kernel
theorem dN_ask_16 : decode cN_ask 16 = .ok (.invokevirtual 165, 3) := by decide +kernel
theorem dN_ask_19 : decode cN_ask 19 = .ok (.ifCond .ne 5, 3) := by decide +kernel
theorem dN_ask_22 : decode cN_ask 22 = .ok (.iconst (-1), 1) := by decide +kernel
theorem dN_ask_23 : decode cN_ask 23 = .ok (.ireturn, 1) := by decide +kernel
theorem dN_ask_24 : decode cN_ask 24 = .ok (.aload_n 0, 1) := by decide +kernel
theorem dN_ask_25 : decode cN_ask 25 = .ok (.getfield 20, 3) := by decide +kernel
theorem dN_ask_28 : decode cN_ask 28 = .ok (.getfield 177, 3) := by decide +kernel
theorem dN_ask_31 : decode cN_ask 31 = .ok (.iload_n 1, 1) := by decide +kernel
theorem dN_ask_32 : decode cN_ask 32 = .ok (.iaload, 1) := by decide +kernel
theorem dN_ask_33 : decode cN_ask 33 = .ok (.aload_n 0, 1) := by decide +kernel
theorem dN_ask_34 : decode cN_ask 34 = .ok (.getfield 20, 3) := by decide +kernel
theorem dN_ask_37 : decode cN_ask 37 = .ok (.getfield 177, 3) := by decide +kernel
theorem dN_ask_40 : decode cN_ask 40 = .ok (.iload_n 2, 1) := by decide +kernel
theorem dN_ask_41 : decode cN_ask 41 = .ok (.iaload, 1) := by decide +kernel
theorem dN_ask_42 : decode cN_ask 42 = .ok (.if_icmp .eq 7, 3) := by decide +kernel
theorem dN_ask_45 : decode cN_ask 45 = .ok (.iconst 1, 1) := by decide +kernel
theorem dN_ask_46 : decode cN_ask 46 = .ok (.goto 4, 3) := by decide +kernel
theorem dN_ask_49 : decode cN_ask 49 = .ok (.iconst 0, 1) := by decide +kernel
theorem dN_ask_50 : decode cN_ask 50 = .ok (.istore 4, 2) := by decide +kernel
theorem dN_ask_52 : decode cN_ask 52 = .ok (.iload 4, 2) := by decide +kernel
theorem dN_ask_54 : decode cN_ask 54 = .ok (.ifCond .eq 15, 3) := by decide +kernel
theorem dN_ask_57 : decode cN_ask 57 = .ok (.aload_n 0, 1) := by decide +kernel
theorem dN_ask_58 : decode cN_ask 58 = .ok (.getfield 20, 3) := by decide +kernel
theorem dN_ask_61 : decode cN_ask 61 = .ok (.invokevirtual 93, 3) := by decide +kernel
theorem dN_ask_64 : decode cN_ask 64 = .ok (.ifCond .ne 5, 3) := by decide +kernel
theorem dN_ask_67 : decode cN_ask 67 = .ok (.iconst (-1), 1) := by decide +kernel
theorem dN_ask_68 : decode cN_ask 68 = .ok (.ireturn, 1) := by decide +kernel
theorem dN_ask_69 : decode cN_ask 69 = .ok (.aload_n 0, 1) := by decide +kernel
theorem dN_ask_70 : decode cN_ask 70 = .ok (.getfield 52, 3) := by decide +kernel
theorem dN_ask_73 : decode cN_ask 73 = .ok (.invokevirtual 171, 3) := by decide +kernel
theorem dN_ask_76 : decode cN_ask 76 = .ok (.iload 4, 2) := by decide +kernel
theorem dN_ask_78 : decode cN_ask 78 = .ok (.ifCond .eq 8, 3) := by decide +kernel
theorem dN_ask_81 : decode cN_ask 81 = .ok (.bipush 8, 2) := by decide +kernel
theorem dN_ask_83 : decode cN_ask 83 = .ok (.goto 4, 3) := by decide +kernel
theorem dN_ask_86 : decode cN_ask 86 = .ok (.iconst 4, 1) := by decide +kernel
theorem dN_ask_87 : decode cN_ask 87 = .ok (.istore 5, 2) := by decide +kernel
theorem dN_ask_89 : decode cN_ask 89 = .ok (.iconst 0, 1) := by decide +kernel
theorem dN_ask_90 : decode cN_ask 90 = .ok (.istore 6, 2) := by decide +kernel
theorem dN_ask_92 : decode cN_ask 92 = .ok (.iload 6, 2) := by decide +kernel
theorem dN_ask_94 : decode cN_ask 94 = .ok (.iload 5, 2) := by decide +kernel
theorem dN_ask_96 : decode cN_ask 96 = .ok (.if_icmp .ge 39, 3) := by decide +kernel
theorem dN_ask_99 : decode cN_ask 99 = .ok (.iload 4, 2) := by decide +kernel
theorem dN_ask_101 : decode cN_ask 101 = .ok (.ifCond .eq 17, 3) := by decide +kernel
theorem dN_ask_104 : decode cN_ask 104 = .ok (.aload_n 0, 1) := by decide +kernel
theorem dN_ask_105 : decode cN_ask 105 = .ok (.iload 6, 2) := by decide +kernel
theorem dN_ask_107 : decode cN_ask 107 = .ok (.iload_n 1, 1) := by decide +kernel
theorem dN_ask_108 : decode cN_ask 108 = .ok (.iload_n 2, 1) := by decide +kernel
theorem dN_ask_109 : decode cN_ask 109 = .ok (.invokevirtual 180, 3) := by decide +kernel
theorem dN_ask_112 : decode cN_ask 112 = .ok (.ifCond .eq 23, 3) := by decide +kernel
theorem dN_ask_115 : decode cN_ask 115 = .ok (.goto 14, 3) := by decide +kernel
theorem dN_ask_118 : decode cN_ask 118 = .ok (.aload_n 0, 1) := by decide +kernel
theorem dN_ask_119 : decode cN_ask 119 = .ok (.iload 6, 2) := by decide +kernel
theorem dN_ask_121 : decode cN_ask 121 = .ok (.iload_n 1, 1) := by decide +kernel
theorem dN_ask_122 : decode cN_ask 122 = .ok (.iload_n 2, 1) := by decide +kernel
theorem dN_ask_123 : decode cN_ask 123 = .ok (.invokevirtual 183, 3) := by decide +kernel
theorem dN_ask_126 : decode cN_ask 126 = .ok (.ifCond .eq 9, 3) := by decide +kernel
theorem dN_ask_129 : decode cN_ask 129 = .ok (.iinc 6 1, 3) := by decide +kernel
theorem dN_ask_132 : decode cN_ask 132 = .ok (.goto (-40), 3) := by decide +kernel
theorem dN_ask_135 : decode cN_ask 135 = .ok (.iload 6, 2) := by decide +kernel
theorem dN_ask_137 : decode cN_ask 137 = .ok (.iload 5, 2) := by decide +kernel
theorem dN_ask_139 : decode cN_ask 139 = .ok (.if_icmp .ne 13, 3) := by decide +kernel
theorem dN_ask_142 : decode cN_ask 142 = .ok (.aload_n 0, 1) := by decide +kernel
theorem dN_ask_143 : decode cN_ask 143 = .ok (.bipush 31, 2) := by decide +kernel
theorem dN_ask_145 : decode cN_ask 145 = .ok (.iload_n 3, 1) := by decide +kernel
theorem dN_ask_146 : decode cN_ask 146 = .ok (.imul, 1) := by decide +kernel
theorem dN_ask_147 : decode cN_ask 147 = .ok (.iload_n 2, 1) := by decide +kernel
theorem dN_ask_148 : decode cN_ask 148 = .ok (.iadd, 1) := by decide +kernel
theorem dN_ask_149 : decode cN_ask 149 = .ok (.putfield 56, 3) := by decide +kernel
theorem dN_ask_152 : decode cN_ask 152 = .ok (.iload 6, 2) := by decide +kernel
theorem dN_ask_154 : decode cN_ask 154 = .ok (.ireturn, 1) := by decide +kernel
theorem dN_answer_0 : decode cN_answer 0 = .ok (.aload_n 0, 1) := by decide +kernel
theorem dN_answer_1 : decode cN_answer 1 = .ok (.getfield 56, 3) := by decide +kernel
theorem dN_answer_4 : decode cN_answer 4 = .ok (.ireturn, 1) := by decide +kernel
theorem dN_crossings_0 : decode cN_crossings 0 = .ok (.aload_n 0, 1) := by decide +kernel
theorem dN_crossings_1 : decode cN_crossings 1 = .ok (.getfield 52, 3) := by decide +kernel
theorem dN_crossings_4 : decode cN_crossings 4 = .ok (.getfield 186, 3) := by decide +kernel
theorem dN_crossings_7 : decode cN_crossings 7 = .ok (.ireturn, 1) := by decide +kernel
theorem dN_forgetOldEntries_0 : decode cN_forgetOldEntries 0 = .ok (.iconst 0, 1) := by decide +kernel
theorem dN_forgetOldEntries_1 : decode cN_forgetOldEntries 1 = .ok (.istore_n 1, 1) := by decide +kernel
theorem dN_forgetOldEntries_2 : decode cN_forgetOldEntries 2 = .ok (.iload_n 1, 1) := by decide +kernel
theorem dN_forgetOldEntries_3 : decode cN_forgetOldEntries 3 = .ok (.aload_n 0, 1) := by decide +kernel
theorem dN_forgetOldEntries_4 : decode cN_forgetOldEntries 4 = .ok (.getfield 20, 3) := by decide +kernel
theorem dN_forgetOldEntries_7 : decode cN_forgetOldEntries 7 = .ok (.getfield 59, 3) := by decide +kernel
theorem dN_forgetOldEntries_10 : decode cN_forgetOldEntries 10 = .ok (.if_icmp .ge 49, 3) := by decide +kernel
theorem dN_forgetOldEntries_13 : decode cN_forgetOldEntries 13 = .ok (.aload_n 0, 1) := by decide +kernel
theorem dN_forgetOldEntries_14 : decode cN_forgetOldEntries 14 = .ok (.getfield 43, 3) := by decide +kernel
theorem dN_forgetOldEntries_17 : decode cN_forgetOldEntries 17 = .ok (.iload_n 1, 1) := by decide +kernel
theorem dN_forgetOldEntries_18 : decode cN_forgetOldEntries 18 = .ok (.aload_n 0, 1) := by decide +kernel
theorem dN_forgetOldEntries_19 : decode cN_forgetOldEntries 19 = .ok (.getfield 36, 3) := by decide +kernel
theorem dN_forgetOldEntries_22 : decode cN_forgetOldEntries 22 = .ok (.getfield 132, 3) := by decide +kernel
theorem dN_forgetOldEntries_25 : decode cN_forgetOldEntries 25 = .ok (.aload_n 0, 1) := by decide +kernel
theorem dN_forgetOldEntries_26 : decode cN_forgetOldEntries 26 = .ok (.getfield 36, 3) := by decide +kernel
theorem dN_forgetOldEntries_29 : decode cN_forgetOldEntries 29 = .ok (.iload_n 1, 1) := by decide +kernel
theorem dN_forgetOldEntries_30 : decode cN_forgetOldEntries 30 = .ok (.invokevirtual 144, 3) := by decide +kernel
theorem dN_forgetOldEntries_33 : decode cN_forgetOldEntries 33 = .ok (.ifCond .eq 13, 3) := by decide +kernel
theorem dN_forgetOldEntries_36 : decode cN_forgetOldEntries 36 = .ok (.aload_n 0, 1) := by decide +kernel
theorem dN_forgetOldEntries_37 : decode cN_forgetOldEntries 37 = .ok (.getfield 36, 3) := by decide +kernel
theorem dN_forgetOldEntries_40 : decode cN_forgetOldEntries 40 = .ok (.getfield 189, 3) := by decide +kernel
theorem dN_forgetOldEntries_43 : decode cN_forgetOldEntries 43 = .ok (.goto 7, 3) := by decide +kernel
theorem dN_forgetOldEntries_46 : decode cN_forgetOldEntries 46 = .ok (.aload_n 0, 1) := by decide +kernel
theorem dN_forgetOldEntries_47 : decode cN_forgetOldEntries 47 = .ok (.getfield 13, 3) := by decide +kernel
theorem dN_forgetOldEntries_50 : decode cN_forgetOldEntries 50 = .ok (.invokevirtual 192, 3) := by decide +kernel
theorem dN_forgetOldEntries_53 : decode cN_forgetOldEntries 53 = .ok (.iinc 1 1, 3) := by decide +kernel
theorem dN_forgetOldEntries_56 : decode cN_forgetOldEntries 56 = .ok (.goto (-54), 3) := by decide +kernel
theorem dN_forgetOldEntries_59 : decode cN_forgetOldEntries 59 = .ok (.return_, 1) := by decide +kernel
theorem dN_isDestination_0 : decode cN_isDestination 0 = .ok (.iload_n 1, 1) := by decide +kernel
theorem dN_isDestination_1 : decode cN_isDestination 1 = .ok (.iconst (-1), 1) := by decide +kernel
theorem dN_isDestination_2 : decode cN_isDestination 2 = .ok (.if_icmp .eq 30, 3) := by decide +kernel
theorem dN_isDestination_5 : decode cN_isDestination 5 = .ok (.aload_n 0, 1) := by decide +kernel
theorem dN_isDestination_6 : decode cN_isDestination 6 = .ok (.getfield 20, 3) := by decide +kernel
theorem dN_isDestination_9 : decode cN_isDestination 9 = .ok (.iload_n 1, 1) := by decide +kernel
theorem dN_isDestination_10 : decode cN_isDestination 10 = .ok (.invokevirtual 165, 3) := by decide +kernel
theorem dN_isDestination_13 : decode cN_isDestination 13 = .ok (.ifCond .ne 19, 3) := by decide +kernel
theorem dN_isDestination_16 : decode cN_isDestination 16 = .ok (.iload_n 1, 1) := by decide +kernel
theorem dN_isDestination_17 : decode cN_isDestination 17 = .ok (.bipush 6, 2) := by decide +kernel
theorem dN_isDestination_19 : decode cN_isDestination 19 = .ok (.if_icmp .ne 17, 3) := by decide +kernel
theorem dN_isDestination_22 : decode cN_isDestination 22 = .ok (.aload_n 0, 1) := by decide +kernel
theorem dN_isDestination_23 : decode cN_isDestination 23 = .ok (.getfield 20, 3) := by decide +kernel
theorem dN_isDestination_26 : decode cN_isDestination 26 = .ok (.invokevirtual 93, 3) := by decide +kernel
theorem dN_isDestination_29 : decode cN_isDestination 29 = .ok (.ifCond .eq 7, 3) := by decide +kernel
theorem dN_isDestination_32 : decode cN_isDestination 32 = .ok (.iconst 1, 1) := by decide +kernel
theorem dN_isDestination_33 : decode cN_isDestination 33 = .ok (.goto 4, 3) := by decide +kernel
theorem dN_isDestination_36 : decode cN_isDestination 36 = .ok (.iconst 0, 1) := by decide +kernel
theorem dN_isDestination_37 : decode cN_isDestination 37 = .ok (.ireturn, 1) := by decide +kernel
theorem dN_directStep_0 : decode cN_directStep 0 = .ok (.iload_n 1, 1) := by decide +kernel
theorem dN_directStep_1 : decode cN_directStep 1 = .ok (.lookupswitch 55 #[(0, 27), (2, 41)], 27) := by decide +kernel
theorem dN_directStep_28 : decode cN_directStep 28 = .ok (.aload_n 0, 1) := by decide +kernel
theorem dN_directStep_29 : decode cN_directStep 29 = .ok (.getfield 52, 3) := by decide +kernel
theorem dN_directStep_32 : decode cN_directStep 32 = .ok (.iload_n 2, 1) := by decide +kernel
theorem dN_directStep_33 : decode cN_directStep 33 = .ok (.iconst (-1), 1) := by decide +kernel
theorem dN_directStep_34 : decode cN_directStep 34 = .ok (.invokevirtual 174, 3) := by decide +kernel
theorem dN_directStep_37 : decode cN_directStep 37 = .ok (.iload_n 3, 1) := by decide +kernel
theorem dN_directStep_38 : decode cN_directStep 38 = .ok (.invokestatic 195, 3) := by decide +kernel
theorem dN_directStep_41 : decode cN_directStep 41 = .ok (.ireturn, 1) := by decide +kernel
theorem dN_directStep_42 : decode cN_directStep 42 = .ok (.aload_n 0, 1) := by decide +kernel
theorem dN_directStep_43 : decode cN_directStep 43 = .ok (.getfield 52, 3) := by decide +kernel
theorem dN_directStep_46 : decode cN_directStep 46 = .ok (.iload_n 2, 1) := by decide +kernel
theorem dN_directStep_47 : decode cN_directStep 47 = .ok (.iload_n 3, 1) := by decide +kernel
theorem dN_directStep_48 : decode cN_directStep 48 = .ok (.invokevirtual 174, 3) := by decide +kernel
theorem dN_directStep_51 : decode cN_directStep 51 = .ok (.iload_n 3, 1) := by decide +kernel
theorem dN_directStep_52 : decode cN_directStep 52 = .ok (.invokestatic 195, 3) := by decide +kernel
theorem dN_directStep_55 : decode cN_directStep 55 = .ok (.ireturn, 1) := by decide +kernel
theorem dN_directStep_56 : decode cN_directStep 56 = .ok (.aload_n 0, 1) := by decide +kernel
theorem dN_directStep_57 : decode cN_directStep 57 = .ok (.getfield 52, 3) := by decide +kernel
theorem dN_directStep_60 : decode cN_directStep 60 = .ok (.iload_n 3, 1) := by decide +kernel
theorem dN_directStep_61 : decode cN_directStep 61 = .ok (.iload_n 2, 1) := by decide +kernel
theorem dN_directStep_62 : decode cN_directStep 62 = .ok (.invokevirtual 174, 3) := by decide +kernel
theorem dN_directStep_65 : decode cN_directStep 65 = .ok (.iload_n 2, 1) := by decide +kernel
theorem dN_directStep_66 : decode cN_directStep 66 = .ok (.invokestatic 195, 3) := by decide +kernel
theorem dN_directStep_69 : decode cN_directStep 69 = .ok (.ireturn, 1) := by decide +kernel
theorem dN_routedStep_0 : decode cN_routedStep 0 = .ok (.iload_n 1, 1) := by decide +kernel
theorem dN_routedStep_1 : decode cN_routedStep 1 = .ok (.tableswitch 134 0 6 #[43, 134, 58, 74, 96, 112, 96], 43) := by decide +kernel
theorem dN_routedStep_44 : decode cN_routedStep 44 = .ok (.aload_n 0, 1) := by decide +kernel
theorem dN_routedStep_45 : decode cN_routedStep 45 = .ok (.getfield 52, 3) := by decide +kernel
theorem dN_routedStep_48 : decode cN_routedStep 48 = .ok (.iload_n 2, 1) := by decide +kernel
theorem dN_routedStep_49 : decode cN_routedStep 49 = .ok (.iconst (-1), 1) := by decide +kernel
theorem dN_routedStep_50 : decode cN_routedStep 50 = .ok (.invokevirtual 174, 3) := by decide +kernel
theorem dN_routedStep_53 : decode cN_routedStep 53 = .ok (.bipush 6, 2) := by decide +kernel
theorem dN_routedStep_55 : decode cN_routedStep 55 = .ok (.invokestatic 195, 3) := by decide +kernel
theorem dN_routedStep_58 : decode cN_routedStep 58 = .ok (.ireturn, 1) := by decide +kernel
theorem dN_routedStep_59 : decode cN_routedStep 59 = .ok (.aload_n 0, 1) := by decide +kernel
theorem dN_routedStep_60 : decode cN_routedStep 60 = .ok (.getfield 52, 3) := by decide +kernel
theorem dN_routedStep_63 : decode cN_routedStep 63 = .ok (.iload_n 2, 1) := by decide +kernel
theorem dN_routedStep_64 : decode cN_routedStep 64 = .ok (.bipush 6, 2) := by decide +kernel
theorem dN_routedStep_66 : decode cN_routedStep 66 = .ok (.invokevirtual 174, 3) := by decide +kernel
theorem dN_routedStep_69 : decode cN_routedStep 69 = .ok (.bipush 6, 2) := by decide +kernel
theorem dN_routedStep_71 : decode cN_routedStep 71 = .ok (.invokestatic 195, 3) := by decide +kernel
theorem dN_routedStep_74 : decode cN_routedStep 74 = .ok (.ireturn, 1) := by decide +kernel
theorem dN_routedStep_75 : decode cN_routedStep 75 = .ok (.aload_n 0, 1) := by decide +kernel
theorem dN_routedStep_76 : decode cN_routedStep 76 = .ok (.getfield 52, 3) := by decide +kernel
theorem dN_routedStep_79 : decode cN_routedStep 79 = .ok (.aload_n 0, 1) := by decide +kernel
theorem dN_routedStep_80 : decode cN_routedStep 80 = .ok (.getfield 20, 3) := by decide +kernel
theorem dN_routedStep_83 : decode cN_routedStep 83 = .ok (.getfield 177, 3) := by decide +kernel
theorem dN_routedStep_86 : decode cN_routedStep 86 = .ok (.iload_n 3, 1) := by decide +kernel
theorem dN_routedStep_87 : decode cN_routedStep 87 = .ok (.iaload, 1) := by decide +kernel
theorem dN_routedStep_88 : decode cN_routedStep 88 = .ok (.iconst (-1), 1) := by decide +kernel
theorem dN_routedStep_89 : decode cN_routedStep 89 = .ok (.invokevirtual 199, 3) := by decide +kernel
theorem dN_routedStep_92 : decode cN_routedStep 92 = .ok (.iload_n 3, 1) := by decide +kernel
theorem dN_routedStep_93 : decode cN_routedStep 93 = .ok (.invokestatic 195, 3) := by decide +kernel
theorem dN_routedStep_96 : decode cN_routedStep 96 = .ok (.ireturn, 1) := by decide +kernel
theorem dN_routedStep_97 : decode cN_routedStep 97 = .ok (.aload_n 0, 1) := by decide +kernel
theorem dN_routedStep_98 : decode cN_routedStep 98 = .ok (.getfield 52, 3) := by decide +kernel
theorem dN_routedStep_101 : decode cN_routedStep 101 = .ok (.iload_n 3, 1) := by decide +kernel
theorem dN_routedStep_102 : decode cN_routedStep 102 = .ok (.bipush 6, 2) := by decide +kernel
theorem dN_routedStep_104 : decode cN_routedStep 104 = .ok (.invokevirtual 174, 3) := by decide +kernel
theorem dN_routedStep_107 : decode cN_routedStep 107 = .ok (.bipush 6, 2) := by decide +kernel
theorem dN_routedStep_109 : decode cN_routedStep 109 = .ok (.invokestatic 195, 3) := by decide +kernel
theorem dN_routedStep_112 : decode cN_routedStep 112 = .ok (.ireturn, 1) := by decide +kernel
theorem dN_routedStep_113 : decode cN_routedStep 113 = .ok (.aload_n 0, 1) := by decide +kernel
theorem dN_routedStep_114 : decode cN_routedStep 114 = .ok (.getfield 52, 3) := by decide +kernel
theorem dN_routedStep_117 : decode cN_routedStep 117 = .ok (.aload_n 0, 1) := by decide +kernel
theorem dN_routedStep_118 : decode cN_routedStep 118 = .ok (.getfield 20, 3) := by decide +kernel
theorem dN_routedStep_121 : decode cN_routedStep 121 = .ok (.getfield 177, 3) := by decide +kernel
theorem dN_routedStep_124 : decode cN_routedStep 124 = .ok (.iload_n 3, 1) := by decide +kernel
theorem dN_routedStep_125 : decode cN_routedStep 125 = .ok (.iaload, 1) := by decide +kernel
theorem dN_routedStep_126 : decode cN_routedStep 126 = .ok (.iload_n 3, 1) := by decide +kernel
theorem dN_routedStep_127 : decode cN_routedStep 127 = .ok (.invokevirtual 199, 3) := by decide +kernel
theorem dN_routedStep_130 : decode cN_routedStep 130 = .ok (.iload_n 3, 1) := by decide +kernel
theorem dN_routedStep_131 : decode cN_routedStep 131 = .ok (.invokestatic 195, 3) := by decide +kernel
theorem dN_routedStep_134 : decode cN_routedStep 134 = .ok (.ireturn, 1) := by decide +kernel
theorem dN_routedStep_135 : decode cN_routedStep 135 = .ok (.aload_n 0, 1) := by decide +kernel
theorem dN_routedStep_136 : decode cN_routedStep 136 = .ok (.getfield 52, 3) := by decide +kernel
theorem dN_routedStep_139 : decode cN_routedStep 139 = .ok (.aload_n 0, 1) := by decide +kernel
theorem dN_routedStep_140 : decode cN_routedStep 140 = .ok (.getfield 20, 3) := by decide +kernel
theorem dN_routedStep_143 : decode cN_routedStep 143 = .ok (.getfield 177, 3) := by decide +kernel
theorem dN_routedStep_146 : decode cN_routedStep 146 = .ok (.iload_n 2, 1) := by decide +kernel
theorem dN_routedStep_147 : decode cN_routedStep 147 = .ok (.iaload, 1) := by decide +kernel
theorem dN_routedStep_148 : decode cN_routedStep 148 = .ok (.iload_n 2, 1) := by decide +kernel
theorem dN_routedStep_149 : decode cN_routedStep 149 = .ok (.invokevirtual 199, 3) := by decide +kernel
theorem dN_routedStep_152 : decode cN_routedStep 152 = .ok (.iload_n 2, 1) := by decide +kernel
theorem dN_routedStep_153 : decode cN_routedStep 153 = .ok (.invokestatic 195, 3) := by decide +kernel
theorem dN_routedStep_156 : decode cN_routedStep 156 = .ok (.ireturn, 1) := by decide +kernel
theorem dN_isNetwork_0 : decode cN_isNetwork 0 = .ok (.iload_n 0, 1) := by decide +kernel
theorem dN_isNetwork_1 : decode cN_isNetwork 1 = .ok (.iconst 0, 1) := by decide +kernel
theorem dN_isNetwork_2 : decode cN_isNetwork 2 = .ok (.iconst 3, 1) := by decide +kernel
theorem dN_isNetwork_3 : decode cN_isNetwork 3 = .ok (.invokestatic 62, 3) := by decide +kernel
theorem dN_isNetwork_6 : decode cN_isNetwork 6 = .ok (.ireturn, 1) := by decide +kernel
theorem dN_isWithin_0 : decode cN_isWithin 0 = .ok (.iload_n 0, 1) := by decide +kernel
theorem dN_isWithin_1 : decode cN_isWithin 1 = .ok (.iload_n 1, 1) := by decide +kernel
theorem dN_isWithin_2 : decode cN_isWithin 2 = .ok (.if_icmp .lt 12, 3) := by decide +kernel
theorem dN_isWithin_5 : decode cN_isWithin 5 = .ok (.iload_n 0, 1) := by decide +kernel
theorem dN_isWithin_6 : decode cN_isWithin 6 = .ok (.iload_n 2, 1) := by decide +kernel
theorem dN_isWithin_7 : decode cN_isWithin 7 = .ok (.if_icmp .gt 7, 3) := by decide +kernel
theorem dN_isWithin_10 : decode cN_isWithin 10 = .ok (.iconst 1, 1) := by decide +kernel
theorem dN_isWithin_11 : decode cN_isWithin 11 = .ok (.goto 4, 3) := by decide +kernel
theorem dN_isWithin_14 : decode cN_isWithin 14 = .ok (.iconst 0, 1) := by decide +kernel
theorem dN_isWithin_15 : decode cN_isWithin 15 = .ok (.ireturn, 1) := by decide +kernel
theorem dN_nearest_0 : decode cN_nearest 0 = .ok (.iload_n 1, 1) := by decide +kernel
theorem dN_nearest_1 : decode cN_nearest 1 = .ok (.iload_n 2, 1) := by decide +kernel
theorem dN_nearest_2 : decode cN_nearest 2 = .ok (.iload_n 0, 1) := by decide +kernel
theorem dN_nearest_3 : decode cN_nearest 3 = .ok (.invokestatic 202, 3) := by decide +kernel
theorem dN_nearest_6 : decode cN_nearest 6 = .ok (.invokestatic 207, 3) := by decide +kernel
theorem dN_nearest_9 : decode cN_nearest 9 = .ok (.ireturn, 1) := by decide +kernel
theorem dN_hasBit_0 : decode cN_hasBit 0 = .ok (.iload_n 0, 1) := by decide +kernel
theorem dN_hasBit_1 : decode cN_hasBit 1 = .ok (.iload_n 1, 1) := by decide +kernel
theorem dN_hasBit_2 : decode cN_hasBit 2 = .ok (.ishr, 1) := by decide +kernel
theorem dN_hasBit_3 : decode cN_hasBit 3 = .ok (.iconst 1, 1) := by decide +kernel
theorem dN_hasBit_4 : decode cN_hasBit 4 = .ok (.iand, 1) := by decide +kernel
theorem dN_hasBit_5 : decode cN_hasBit 5 = .ok (.iconst 1, 1) := by decide +kernel
theorem dN_hasBit_6 : decode cN_hasBit 6 = .ok (.if_icmp .ne 7, 3) := by decide +kernel
theorem dN_hasBit_9 : decode cN_hasBit 9 = .ok (.iconst 1, 1) := by decide +kernel
theorem dN_hasBit_10 : decode cN_hasBit 10 = .ok (.goto 4, 3) := by decide +kernel
theorem dN_hasBit_13 : decode cN_hasBit 13 = .ok (.iconst 0, 1) := by decide +kernel
theorem dN_hasBit_14 : decode cN_hasBit 14 = .ok (.ireturn, 1) := by decide +kernel
end
section
/-! the generic walk layer: jJ says 'from any heap that holds the world wl, at pc with these locals and this stack, the machine comes to Q' -/
/-- the context of a walk, in one tuple -/
abbrev jX : Type := Program × Env × State × MethodId × (Array Value) × (List Frame) × Method × Code × Nat × Nat × (State → Prop) × (Nat → Prop) × Heap
section JQ
variable {l : Launch} {D : va_G} {R : Room} {nL : Nat} {X : jX} {cc : ByteArray} {own : String} {Ts : List Cond} {tys : List (ClassId × FieldType)} {ret : Option FieldType} {wl : va_W} {pc : Nat} {L : List (Nat × Value)} {st : List Value}
def jJ (l : Launch) (D : va_G) (R : Room) (nL : Nat) (X : jX) (wl : va_W) (pc : Nat) (L : List (Nat × Value)) (st : List Value) : Prop :=
  ∀ (H : Heap) (locs : List Loc) (ls : Array Slot), va_P D vwCl wl H → va_D (X.2.2.2.2.2.2.2.2.2.2.2.1) wl → va_S (X.2.2.2.2.2.2.2.2.2.2.2.1) (X.2.2.2.2.2.2.2.2.2.2.2.2) H locs → lv_has ls nL L → W (X.1) l (X.2.1) R (X.2.2.1) (X.2.2.2.1) (X.2.2.2.2.1) (X.2.2.2.2.2.1) (X.2.2.2.2.2.2.1) (X.2.2.2.2.2.2.2.1) H locs (X.2.2.2.2.2.2.2.2.1) (X.2.2.2.2.2.2.2.2.2.1) (X.2.2.2.2.2.2.2.2.2.2.1) (F0 (X.2.2.2.1) pc ls st)
/-- what stays through a walk -/
def jF (D : va_G) (R : Room) (nL : Nat) (X : jX) (cc : ByteArray) (own : String) (Ts : List Cond) (tys : List (ClassId × FieldType)) (ret : Option FieldType) : Prop :=
  (X.1).tables.exec = Jvm.exec ∧ (X.2.2.2.2.2.2.2.1).code = cc ∧ (X.2.2.2.2.2.2.2.1).maxLocals = nL ∧ (X.2.2.1).vm.findClass own = some (X.2.2.2.1).cls ∧ (∀ w ∈ Ts, w.before (X.2.2.2.2.1) (X.2.2.1) = true) ∧ va_K D vwCl tys (X.2.2.1) ∧ (X.2.2.2.2.2.2.1).sig.returnType = ret ∧ (X.2.2.2.2.2.2.1).locks = false ∧ (∀ q, (X.2.2.2.2.2.2.2.2.2.2.2.2).size ≤ q → (X.2.2.2.2.2.2.2.2.2.2.2.1) q) ∧ (X.2.2.2.2.2.2.2.2.1) ≤ R.cells ∧ (X.2.2.2.2.2.2.2.2.2.1) ≤ R.slots ∧ ∀ w ∈ jNest, va_Nw w (X.2.2.1)
theorem jq_iconst (hF : jF D R nL X cc own Ts tys ret) {n : Int} {v : Int32} (hd : decode cc pc = .ok (.iconst n, 1)) (hv : Int32.ofInt n = v) (k : jJ l D R nL X wl (pc + 1) L (.int v :: st)) : jJ l D R nL X wl pc L st :=
  fun H locs ls hP hD hS hl => lv_iconst hF.1 hF.2.1 hd hv (k H locs ls hP hD hS hl)
theorem jq_bipush (hF : jF D R nL X cc own Ts tys ret) {n : Int} {v : Int32} (hd : decode cc pc = .ok (.bipush n, 2)) (hv : (Int8.ofInt n).toInt32 = v) (k : jJ l D R nL X wl (pc + 2) L (.int v :: st)) : jJ l D R nL X wl pc L st :=
  fun H locs ls hP hD hS hl => lv_bipush hF.1 hF.2.1 hd hv (k H locs ls hP hD hS hl)
theorem jq_sipush (hF : jF D R nL X cc own Ts tys ret) {n : Int} {v : Int32} (hd : decode cc pc = .ok (.sipush n, 3)) (hv : (Int16.ofInt n).toInt32 = v) (k : jJ l D R nL X wl (pc + 3) L (.int v :: st)) : jJ l D R nL X wl pc L st :=
  fun H locs ls hP hD hS hl => lv_sipush hF.1 hF.2.1 hd hv (k H locs ls hP hD hS hl)
theorem jq_lconst (hF : jF D R nL X cc own Ts tys ret) {n : Fin 2} {v : Int64} (hd : decode cc pc = .ok (.lconst n, 1)) (hv : Int64.ofNat (n : Nat) = v) (k : jJ l D R nL X wl (pc + 1) L (.long v :: st)) : jJ l D R nL X wl pc L st :=
  fun H locs ls hP hD hS hl => lv_lconst hF.1 hF.2.1 hd hv (k H locs ls hP hD hS hl)
theorem jq_iload_n (hF : jF D R nL X cc own Ts tys ret) {i : Fin 4} (j : Nat) {x : Int32} (hd : decode cc pc = .ok (.iload_n i, 1)) (hj : L[j]? = some ((i : Nat), .int x)) (k : jJ l D R nL X wl (pc + 1) L (.int x :: st)) : jJ l D R nL X wl pc L st :=
  fun H locs ls hP hD hS hl => lv_iload_n hF.1 hF.2.1 hd rfl (lv_at hl j hj) (k H locs ls hP hD hS hl)
theorem jq_iload (hF : jF D R nL X cc own Ts tys ret) {i : Nat} (j : Nat) {x : Int32} (hd : decode cc pc = .ok (.iload i, 2)) (hj : L[j]? = some (i, .int x)) (k : jJ l D R nL X wl (pc + 2) L (.int x :: st)) : jJ l D R nL X wl pc L st :=
  fun H locs ls hP hD hS hl => lv_iload hF.1 hF.2.1 hd (lv_at hl j hj) (k H locs ls hP hD hS hl)
theorem jq_lload_n (hF : jF D R nL X cc own Ts tys ret) {i : Fin 4} (j : Nat) {x : Int64} (hd : decode cc pc = .ok (.lload_n i, 1)) (hj : L[j]? = some ((i : Nat), .long x)) (k : jJ l D R nL X wl (pc + 1) L (.long x :: st)) : jJ l D R nL X wl pc L st :=
  fun H locs ls hP hD hS hl => lv_lload_n hF.1 hF.2.1 hd rfl (lv_at hl j hj) (k H locs ls hP hD hS hl)
theorem jq_lload (hF : jF D R nL X cc own Ts tys ret) {i : Nat} (j : Nat) {x : Int64} (hd : decode cc pc = .ok (.lload i, 2)) (hj : L[j]? = some (i, .long x)) (k : jJ l D R nL X wl (pc + 2) L (.long x :: st)) : jJ l D R nL X wl pc L st :=
  fun H locs ls hP hD hS hl => lv_lload hF.1 hF.2.1 hd (lv_at hl j hj) (k H locs ls hP hD hS hl)
theorem jq_aload_n (hF : jF D R nL X cc own Ts tys ret) {i : Fin 4} (j : Nat) {x : Nat} (hd : decode cc pc = .ok (.aload_n i, 1)) (hj : L[j]? = some ((i : Nat), .ref x)) (k : jJ l D R nL X wl (pc + 1) L (.ref x :: st)) : jJ l D R nL X wl pc L st :=
  fun H locs ls hP hD hS hl => lv_aload_n hF.1 hF.2.1 hd rfl (lv_at hl j hj) (k H locs ls hP hD hS hl)
theorem jq_aload (hF : jF D R nL X cc own Ts tys ret) {i : Nat} (j : Nat) {x : Nat} (hd : decode cc pc = .ok (.aload i, 2)) (hj : L[j]? = some (i, .ref x)) (k : jJ l D R nL X wl (pc + 2) L (.ref x :: st)) : jJ l D R nL X wl pc L st :=
  fun H locs ls hP hD hS hl => lv_aload hF.1 hF.2.1 hd (lv_at hl j hj) (k H locs ls hP hD hS hl)
theorem jq_istore_n (hF : jF D R nL X cc own Ts tys ret) {i : Fin 4} {x : Int32} (L' : List (Nat × Value)) (hd : decode cc pc = .ok (.istore_n i, 1)) (hn : (i : Nat) < nL) (hL : L' = ((i : Nat), Value.int x) :: L.filter (fun q => !(q.1 == (i : Nat)) && !(q.1 + 1 == (i : Nat) && q.2.category == 2))) (k : jJ l D R nL X wl (pc + 1) L' st) : jJ l D R nL X wl pc L (.int x :: st) :=
  fun H locs ls hP hD hS hl => lv_istore_n hF.1 hF.2.1 hd rfl hl hn hL.symm (fun ls' hl' => k H locs ls' hP hD hS hl')
theorem jq_istore (hF : jF D R nL X cc own Ts tys ret) {i : Nat} {x : Int32} (L' : List (Nat × Value)) (hd : decode cc pc = .ok (.istore i, 2)) (hn : i < nL) (hL : L' = (i, Value.int x) :: L.filter (fun q => !(q.1 == i) && !(q.1 + 1 == i && q.2.category == 2))) (k : jJ l D R nL X wl (pc + 2) L' st) : jJ l D R nL X wl pc L (.int x :: st) :=
  fun H locs ls hP hD hS hl => lv_istore hF.1 hF.2.1 hd hl hn hL.symm (fun ls' hl' => k H locs ls' hP hD hS hl')
theorem jq_lstore_n (hF : jF D R nL X cc own Ts tys ret) {i : Fin 4} {x : Int64} (L' : List (Nat × Value)) (hd : decode cc pc = .ok (.lstore_n i, 1)) (hn : (i : Nat) + 1 < nL) (hL : L' = ((i : Nat), Value.long x) :: L.filter (fun q => !(q.1 == (i : Nat)) && (!(q.1 == (i : Nat) + 1) && !(q.1 + 1 == (i : Nat) && q.2.category == 2)))) (k : jJ l D R nL X wl (pc + 1) L' st) : jJ l D R nL X wl pc L (.long x :: st) :=
  fun H locs ls hP hD hS hl => lv_lstore_n hF.1 hF.2.1 hd rfl hl hn hL.symm (fun ls' hl' => k H locs ls' hP hD hS hl')
theorem jq_lstore (hF : jF D R nL X cc own Ts tys ret) {i : Nat} {x : Int64} (L' : List (Nat × Value)) (hd : decode cc pc = .ok (.lstore i, 2)) (hn : i + 1 < nL) (hL : L' = (i, Value.long x) :: L.filter (fun q => !(q.1 == i) && (!(q.1 == i + 1) && !(q.1 + 1 == i && q.2.category == 2)))) (k : jJ l D R nL X wl (pc + 2) L' st) : jJ l D R nL X wl pc L (.long x :: st) :=
  fun H locs ls hP hD hS hl => lv_lstore hF.1 hF.2.1 hd hl hn hL.symm (fun ls' hl' => k H locs ls' hP hD hS hl')
theorem jq_iinc (hF : jF D R nL X cc own Ts tys ret) {i : Nat} (j : Nat) {n : Int} {x v : Int32} (L' : List (Nat × Value)) (hd : decode cc pc = .ok (.iinc i n, 3)) (hj : L[j]? = some (i, .int x)) (hv : x + Int32.ofInt n = v) (hn : i < nL) (hL : L' = (i, Value.int v) :: L.filter (fun q => !(q.1 == i) && !(q.1 + 1 == i && q.2.category == 2))) (k : jJ l D R nL X wl (pc + 3) L' st) : jJ l D R nL X wl pc L st :=
  fun H locs ls hP hD hS hl => lv_iinc hF.1 hF.2.1 hd hl hj hv hn hL.symm (fun ls' hl' => k H locs ls' hP hD hS hl')
/-- fewer locals, in any order -/
theorem jq_sub (L' : List (Nat × Value)) (js : List Nat) (hL : lv_pick L js = L') (k : jJ l D R nL X wl pc L' st) : jJ l D R nL X wl pc L st := fun H locs ls hP hD hS hl => k H locs ls hP hD hS (lv_sub hl js hL)
theorem jq_iadd (hF : jF D R nL X cc own Ts tys ret) {x y : Int32} (hd : decode cc pc = .ok (.iadd, 1)) (k : jJ l D R nL X wl (pc + 1) L (.int (x + y) :: st)) : jJ l D R nL X wl pc L (.int y :: .int x :: st) :=
  fun H locs ls hP hD hS hl => lv_iadd hF.1 hF.2.1 hd (k H locs ls hP hD hS hl)
theorem jq_isub (hF : jF D R nL X cc own Ts tys ret) {x y : Int32} (hd : decode cc pc = .ok (.isub, 1)) (k : jJ l D R nL X wl (pc + 1) L (.int (x - y) :: st)) : jJ l D R nL X wl pc L (.int y :: .int x :: st) :=
  fun H locs ls hP hD hS hl => lv_isub hF.1 hF.2.1 hd (k H locs ls hP hD hS hl)
theorem jq_imul (hF : jF D R nL X cc own Ts tys ret) {x y : Int32} (hd : decode cc pc = .ok (.imul, 1)) (k : jJ l D R nL X wl (pc + 1) L (.int (x * y) :: st)) : jJ l D R nL X wl pc L (.int y :: .int x :: st) :=
  fun H locs ls hP hD hS hl => lv_imul hF.1 hF.2.1 hd (k H locs ls hP hD hS hl)
theorem jq_iand (hF : jF D R nL X cc own Ts tys ret) {x y : Int32} (hd : decode cc pc = .ok (.iand, 1)) (k : jJ l D R nL X wl (pc + 1) L (.int (x &&& y) :: st)) : jJ l D R nL X wl pc L (.int y :: .int x :: st) :=
  fun H locs ls hP hD hS hl => lv_iand hF.1 hF.2.1 hd (k H locs ls hP hD hS hl)
theorem jq_ior (hF : jF D R nL X cc own Ts tys ret) {x y : Int32} (hd : decode cc pc = .ok (.ior, 1)) (k : jJ l D R nL X wl (pc + 1) L (.int (x ||| y) :: st)) : jJ l D R nL X wl pc L (.int y :: .int x :: st) :=
  fun H locs ls hP hD hS hl => lv_ior hF.1 hF.2.1 hd (k H locs ls hP hD hS hl)
theorem jq_ishl (hF : jF D R nL X cc own Ts tys ret) {x y : Int32} (hd : decode cc pc = .ok (.ishl, 1)) (k : jJ l D R nL X wl (pc + 1) L (.int (x <<< (y &&& 31)) :: st)) : jJ l D R nL X wl pc L (.int y :: .int x :: st) :=
  fun H locs ls hP hD hS hl => lv_ishl hF.1 hF.2.1 hd (k H locs ls hP hD hS hl)
theorem jq_ishr (hF : jF D R nL X cc own Ts tys ret) {x y : Int32} (hd : decode cc pc = .ok (.ishr, 1)) (k : jJ l D R nL X wl (pc + 1) L (.int (x >>> (y &&& 31)) :: st)) : jJ l D R nL X wl pc L (.int y :: .int x :: st) :=
  fun H locs ls hP hD hS hl => lv_ishr hF.1 hF.2.1 hd (k H locs ls hP hD hS hl)
theorem jq_ladd (hF : jF D R nL X cc own Ts tys ret) {x y : Int64} (hd : decode cc pc = .ok (.ladd, 1)) (k : jJ l D R nL X wl (pc + 1) L (.long (x + y) :: st)) : jJ l D R nL X wl pc L (.long y :: .long x :: st) :=
  fun H locs ls hP hD hS hl => lv_ladd hF.1 hF.2.1 hd (k H locs ls hP hD hS hl)
theorem jq_lmul (hF : jF D R nL X cc own Ts tys ret) {x y : Int64} (hd : decode cc pc = .ok (.lmul, 1)) (k : jJ l D R nL X wl (pc + 1) L (.long (x * y) :: st)) : jJ l D R nL X wl pc L (.long y :: .long x :: st) :=
  fun H locs ls hP hD hS hl => lv_lmul hF.1 hF.2.1 hd (k H locs ls hP hD hS hl)
theorem jq_lor (hF : jF D R nL X cc own Ts tys ret) {x y : Int64} (hd : decode cc pc = .ok (.lor, 1)) (k : jJ l D R nL X wl (pc + 1) L (.long (x ||| y) :: st)) : jJ l D R nL X wl pc L (.long y :: .long x :: st) :=
  fun H locs ls hP hD hS hl => lv_lor hF.1 hF.2.1 hd (k H locs ls hP hD hS hl)
theorem jq_lsub (hF : jF D R nL X cc own Ts tys ret) {x y : Int64} (hd : decode cc pc = .ok (.lsub, 1)) (k : jJ l D R nL X wl (pc + 1) L (.long (x - y) :: st)) : jJ l D R nL X wl pc L (.long y :: .long x :: st) :=
  fun H locs ls hP hD hS hl => lv_lsub hF.1 hF.2.1 hd (k H locs ls hP hD hS hl)
theorem jq_land (hF : jF D R nL X cc own Ts tys ret) {x y : Int64} (hd : decode cc pc = .ok (.land, 1)) (k : jJ l D R nL X wl (pc + 1) L (.long (x &&& y) :: st)) : jJ l D R nL X wl pc L (.long y :: .long x :: st) :=
  fun H locs ls hP hD hS hl => lv_land hF.1 hF.2.1 hd (k H locs ls hP hD hS hl)
theorem jq_idiv (hF : jF D R nL X cc own Ts tys ret) {x y : Int32} (hd : decode cc pc = .ok (.idiv, 1)) (hne : ¬ y = 0) (k : jJ l D R nL X wl (pc + 1) L (.int (x / y) :: st)) : jJ l D R nL X wl pc L (.int y :: .int x :: st) :=
  fun H locs ls hP hD hS hl => lv_idiv hF.1 hF.2.1 hd hne (k H locs ls hP hD hS hl)
theorem jq_irem (hF : jF D R nL X cc own Ts tys ret) {x y : Int32} (hd : decode cc pc = .ok (.irem, 1)) (hne : ¬ y = 0) (k : jJ l D R nL X wl (pc + 1) L (.int (x - x / y * y) :: st)) : jJ l D R nL X wl pc L (.int y :: .int x :: st) :=
  fun H locs ls hP hD hS hl => lv_irem hF.1 hF.2.1 hd hne (k H locs ls hP hD hS hl)
theorem jq_lshl (hF : jF D R nL X cc own Ts tys ret) {x v : Int64} {y : Int32} (hd : decode cc pc = .ok (.lshl, 1)) (hv : x <<< (y.toInt64 &&& 63) = v) (k : jJ l D R nL X wl (pc + 1) L (.long v :: st)) : jJ l D R nL X wl pc L (.int y :: .long x :: st) :=
  fun H locs ls hP hD hS hl => lv_lshl hF.1 hF.2.1 hd hv (k H locs ls hP hD hS hl)
theorem jq_i2l (hF : jF D R nL X cc own Ts tys ret) {x : Int32} (hd : decode cc pc = .ok (.i2l, 1)) (k : jJ l D R nL X wl (pc + 1) L (.long x.toInt64 :: st)) : jJ l D R nL X wl pc L (.int x :: st) :=
  fun H locs ls hP hD hS hl => lv_i2l hF.1 hF.2.1 hd rfl (k H locs ls hP hD hS hl)
theorem jq_lcmp (hF : jF D R nL X cc own Ts tys ret) {x y : Int64} (hd : decode cc pc = .ok (.lcmp, 1)) (k : jJ l D R nL X wl (pc + 1) L (.int (lg_cmp x y) :: st)) : jJ l D R nL X wl pc L (.long y :: .long x :: st) :=
  fun H locs ls hP hD hS hl => W.lcmp hF.1 hF.2.1 hd (k H locs ls hP hD hS hl)
theorem jq_ldc (hF : jF D R nL X cc own Ts tys ret) {i : Nat} {v : Int32} (hc : Cond.constant own i v ∈ Ts) (hd : decode cc pc = .ok (.ldc i, 2)) (k : jJ l D R nL X wl (pc + 2) L (.int v :: st)) : jJ l D R nL X wl pc L st :=
  fun H locs ls hP hD hS hl => lv_ldc hF.1 hF.2.1 hF.2.2.2.1 (hF.2.2.2.2.1 _ hc) hd (k H locs ls hP hD hS hl)
theorem jq_ldc2 (hF : jF D R nL X cc own Ts tys ret) {i : Nat} {v : Int64} (hc : Cond.constantLong own i v ∈ Ts) (hd : decode cc pc = .ok (.ldc2_w i, 3)) (k : jJ l D R nL X wl (pc + 3) L (.long v :: st)) : jJ l D R nL X wl pc L st :=
  fun H locs ls hP hD hS hl => lv_ldc2 hF.1 hF.2.1 hF.2.2.2.1 (hF.2.2.2.2.1 _ hc) hd (k H locs ls hP hD hS hl)
theorem jq_dup (hF : jF D R nL X cc own Ts tys ret) {v : Value} (hd : decode cc pc = .ok (.dup, 1)) (hv : v.category = 1) (k : jJ l D R nL X wl (pc + 1) L (v :: v :: st)) : jJ l D R nL X wl pc L (v :: st) :=
  fun H locs ls hP hD hS hl => lv_dup hF.1 hF.2.1 hd hv (k H locs ls hP hD hS hl)
theorem jq_pop (hF : jF D R nL X cc own Ts tys ret) {v : Value} (hd : decode cc pc = .ok (.pop, 1)) (hv : v.category = 1) (k : jJ l D R nL X wl (pc + 1) L st) : jJ l D R nL X wl pc L (v :: st) :=
  fun H locs ls hP hD hS hl => lv_pop hF.1 hF.2.1 hd hv (k H locs ls hP hD hS hl)
theorem jq_dup_x1 (hF : jF D R nL X cc own Ts tys ret) {u v : Value} (hd : decode cc pc = .ok (.dup_x1, 1)) (hu : u.category = 1) (hv : v.category = 1) (k : jJ l D R nL X wl (pc + 1) L (u :: v :: u :: st)) : jJ l D R nL X wl pc L (u :: v :: st) :=
  fun H locs ls hP hD hS hl => lv_dup_x1 hF.1 hF.2.1 hd hu hv (k H locs ls hP hD hS hl)
theorem jq_dup2 (hF : jF D R nL X cc own Ts tys ret) {u v : Value} (hd : decode cc pc = .ok (.dup2, 1)) (hu : u.category = 1) (hv : v.category = 1) (k : jJ l D R nL X wl (pc + 1) L (u :: v :: u :: v :: st)) : jJ l D R nL X wl pc L (u :: v :: st) :=
  fun H locs ls hP hD hS hl => lv_dup2_11 hF.1 hF.2.1 hd hu hv (k H locs ls hP hD hS hl)
theorem jq_if_eq (hF : jF D R nL X cc own Ts tys ret) {x : Int32} {off : Int} (tgt : Nat) (hd : decode cc pc = .ok (.ifCond .eq off, 3)) (ht : (pc : Int) + off = (tgt : Int)) (kt : x = 0 → jJ l D R nL X wl tgt L st) (kf : ¬ x = 0 → jJ l D R nL X wl (pc + 3) L st) : jJ l D R nL X wl pc L (.int x :: st) :=
  fun H locs ls hP hD hS hl => lv_if_eq hF.1 hF.2.1 hd ht (fun h => kt h H locs ls hP hD hS hl) (fun h => kf h H locs ls hP hD hS hl)
theorem jq_icmp_eq (hF : jF D R nL X cc own Ts tys ret) {x y : Int32} {off : Int} (tgt : Nat) (hd : decode cc pc = .ok (.if_icmp .eq off, 3)) (ht : (pc : Int) + off = (tgt : Int)) (kt : x = y → jJ l D R nL X wl tgt L st) (kf : ¬ x = y → jJ l D R nL X wl (pc + 3) L st) : jJ l D R nL X wl pc L (.int y :: .int x :: st) :=
  fun H locs ls hP hD hS hl => lv_icmp_eq hF.1 hF.2.1 hd ht (fun h => kt h H locs ls hP hD hS hl) (fun h => kf h H locs ls hP hD hS hl)
theorem jq_if_ne (hF : jF D R nL X cc own Ts tys ret) {x : Int32} {off : Int} (tgt : Nat) (hd : decode cc pc = .ok (.ifCond .ne off, 3)) (ht : (pc : Int) + off = (tgt : Int)) (kt : ¬ x = 0 → jJ l D R nL X wl tgt L st) (kf : x = 0 → jJ l D R nL X wl (pc + 3) L st) : jJ l D R nL X wl pc L (.int x :: st) :=
  fun H locs ls hP hD hS hl => lv_if_ne hF.1 hF.2.1 hd ht (fun h => kt h H locs ls hP hD hS hl) (fun h => kf h H locs ls hP hD hS hl)
theorem jq_icmp_ne (hF : jF D R nL X cc own Ts tys ret) {x y : Int32} {off : Int} (tgt : Nat) (hd : decode cc pc = .ok (.if_icmp .ne off, 3)) (ht : (pc : Int) + off = (tgt : Int)) (kt : ¬ x = y → jJ l D R nL X wl tgt L st) (kf : x = y → jJ l D R nL X wl (pc + 3) L st) : jJ l D R nL X wl pc L (.int y :: .int x :: st) :=
  fun H locs ls hP hD hS hl => lv_icmp_ne hF.1 hF.2.1 hd ht (fun h => kt h H locs ls hP hD hS hl) (fun h => kf h H locs ls hP hD hS hl)
theorem jq_if_lt (hF : jF D R nL X cc own Ts tys ret) {x : Int32} {off : Int} (tgt : Nat) (hd : decode cc pc = .ok (.ifCond .lt off, 3)) (ht : (pc : Int) + off = (tgt : Int)) (kt : x < 0 → jJ l D R nL X wl tgt L st) (kf : ¬ x < 0 → jJ l D R nL X wl (pc + 3) L st) : jJ l D R nL X wl pc L (.int x :: st) :=
  fun H locs ls hP hD hS hl => lv_if_lt hF.1 hF.2.1 hd ht (fun h => kt h H locs ls hP hD hS hl) (fun h => kf h H locs ls hP hD hS hl)
theorem jq_icmp_lt (hF : jF D R nL X cc own Ts tys ret) {x y : Int32} {off : Int} (tgt : Nat) (hd : decode cc pc = .ok (.if_icmp .lt off, 3)) (ht : (pc : Int) + off = (tgt : Int)) (kt : x < y → jJ l D R nL X wl tgt L st) (kf : ¬ x < y → jJ l D R nL X wl (pc + 3) L st) : jJ l D R nL X wl pc L (.int y :: .int x :: st) :=
  fun H locs ls hP hD hS hl => lv_icmp_lt hF.1 hF.2.1 hd ht (fun h => kt h H locs ls hP hD hS hl) (fun h => kf h H locs ls hP hD hS hl)
theorem jq_if_ge (hF : jF D R nL X cc own Ts tys ret) {x : Int32} {off : Int} (tgt : Nat) (hd : decode cc pc = .ok (.ifCond .ge off, 3)) (ht : (pc : Int) + off = (tgt : Int)) (kt : 0 ≤ x → jJ l D R nL X wl tgt L st) (kf : ¬ 0 ≤ x → jJ l D R nL X wl (pc + 3) L st) : jJ l D R nL X wl pc L (.int x :: st) :=
  fun H locs ls hP hD hS hl => lv_if_ge hF.1 hF.2.1 hd ht (fun h => kt h H locs ls hP hD hS hl) (fun h => kf h H locs ls hP hD hS hl)
theorem jq_icmp_ge (hF : jF D R nL X cc own Ts tys ret) {x y : Int32} {off : Int} (tgt : Nat) (hd : decode cc pc = .ok (.if_icmp .ge off, 3)) (ht : (pc : Int) + off = (tgt : Int)) (kt : y ≤ x → jJ l D R nL X wl tgt L st) (kf : ¬ y ≤ x → jJ l D R nL X wl (pc + 3) L st) : jJ l D R nL X wl pc L (.int y :: .int x :: st) :=
  fun H locs ls hP hD hS hl => lv_icmp_ge hF.1 hF.2.1 hd ht (fun h => kt h H locs ls hP hD hS hl) (fun h => kf h H locs ls hP hD hS hl)
theorem jq_if_gt (hF : jF D R nL X cc own Ts tys ret) {x : Int32} {off : Int} (tgt : Nat) (hd : decode cc pc = .ok (.ifCond .gt off, 3)) (ht : (pc : Int) + off = (tgt : Int)) (kt : 0 < x → jJ l D R nL X wl tgt L st) (kf : ¬ 0 < x → jJ l D R nL X wl (pc + 3) L st) : jJ l D R nL X wl pc L (.int x :: st) :=
  fun H locs ls hP hD hS hl => lv_if_gt hF.1 hF.2.1 hd ht (fun h => kt h H locs ls hP hD hS hl) (fun h => kf h H locs ls hP hD hS hl)
theorem jq_icmp_gt (hF : jF D R nL X cc own Ts tys ret) {x y : Int32} {off : Int} (tgt : Nat) (hd : decode cc pc = .ok (.if_icmp .gt off, 3)) (ht : (pc : Int) + off = (tgt : Int)) (kt : y < x → jJ l D R nL X wl tgt L st) (kf : ¬ y < x → jJ l D R nL X wl (pc + 3) L st) : jJ l D R nL X wl pc L (.int y :: .int x :: st) :=
  fun H locs ls hP hD hS hl => lv_icmp_gt hF.1 hF.2.1 hd ht (fun h => kt h H locs ls hP hD hS hl) (fun h => kf h H locs ls hP hD hS hl)
theorem jq_if_le (hF : jF D R nL X cc own Ts tys ret) {x : Int32} {off : Int} (tgt : Nat) (hd : decode cc pc = .ok (.ifCond .le off, 3)) (ht : (pc : Int) + off = (tgt : Int)) (kt : x ≤ 0 → jJ l D R nL X wl tgt L st) (kf : ¬ x ≤ 0 → jJ l D R nL X wl (pc + 3) L st) : jJ l D R nL X wl pc L (.int x :: st) :=
  fun H locs ls hP hD hS hl => lv_if_le hF.1 hF.2.1 hd ht (fun h => kt h H locs ls hP hD hS hl) (fun h => kf h H locs ls hP hD hS hl)
theorem jq_icmp_le (hF : jF D R nL X cc own Ts tys ret) {x y : Int32} {off : Int} (tgt : Nat) (hd : decode cc pc = .ok (.if_icmp .le off, 3)) (ht : (pc : Int) + off = (tgt : Int)) (kt : x ≤ y → jJ l D R nL X wl tgt L st) (kf : ¬ x ≤ y → jJ l D R nL X wl (pc + 3) L st) : jJ l D R nL X wl pc L (.int y :: .int x :: st) :=
  fun H locs ls hP hD hS hl => lv_icmp_le hF.1 hF.2.1 hd ht (fun h => kt h H locs ls hP hD hS hl) (fun h => kf h H locs ls hP hD hS hl)
theorem jq_goto (hF : jF D R nL X cc own Ts tys ret) {off : Int} (tgt : Nat) (hd : decode cc pc = .ok (.goto off, 3)) (ht : (pc : Int) + off = (tgt : Int)) (k : jJ l D R nL X wl tgt L st) : jJ l D R nL X wl pc L st :=
  fun H locs ls hP hD hS hl => lv_goto hF.1 hF.2.1 hd ht (k H locs ls hP hD hS hl)
/-- the value on top, written otherwise -/
theorem jq_top {x : Int32} (y : Int32) (h : x = y) (k : jJ l D R nL X wl pc L (.int y :: st)) : jJ l D R nL X wl pc L (.int x :: st) := h ▸ k
theorem jq_topl {x : Int64} (y : Int64) (h : x = y) (k : jJ l D R nL X wl pc L (.long y :: st)) : jJ l D R nL X wl pc L (.long x :: st) := h ▸ k
theorem jq_w (wl' : va_W) (h : wl = wl') (k : jJ l D R nL X wl' pc L st) : jJ l D R nL X wl pc L st := h ▸ k
theorem jq_at {wl' : va_W} {pc' : Nat} {L' : List (Nat × Value)} {st' : List Value} (h : jJ l D R nL X wl' pc' L' st') (h1 : wl' = wl) (h2 : pc' = pc) (h3 : L' = L) (h4 : st' = st) : jJ l D R nL X wl pc L st := by subst h1; subst h2; subst h3; subst h4; exact h
theorem jq_iald (hF : jF D R nL X cc own Ts tys ret) (q0 t0 : Nat) {a : Nat} {cA : ClassId} {n : Nat} {f : Nat → Int32} {i : Int32} (ha : wl[q0]? = some (a, .inl (cA, n, .inl f))) (ht : tys[t0]? = some (cA, .int)) (hin : vp_in i n) (hd : decode cc pc = .ok (.iaload, 1)) (k : jJ l D R nL X wl (pc + 1) L (.int (f i.toNatClampNeg) :: st)) : jJ l D R nL X wl pc L (.int i :: .ref a :: st) :=
  fun H locs ls hP hD hS hl => va_iald hF.1 hF.2.1 hF.2.2.2.2.2.1 hP q0 t0 ha ht hin hd (k H locs ls hP hD hS hl)
theorem jq_ialdN (hF : jF D R nL X cc own Ts tys ret) (q0 t0 : Nat) {a : Nat} {cA : ClassId} {n : Nat} {f : Nat → Int32} {i : Nat} (ha : wl[q0]? = some (a, .inl (cA, n, .inl f))) (ht : tys[t0]? = some (cA, .int)) (hn : n < 2 ^ 31) (hin : i < n) (hd : decode cc pc = .ok (.iaload, 1)) (k : jJ l D R nL X wl (pc + 1) L (.int (f i) :: st)) : jJ l D R nL X wl pc L (.int (nI i) :: .ref a :: st) :=
  jq_iald hF q0 t0 ha ht (vp_in_nI hin hn) hd (by rw [nI_clamp (Nat.lt_trans hin hn)]; exact k)
theorem jq_zald (hF : jF D R nL X cc own Ts tys ret) (q0 t0 : Nat) {a : Nat} {cA : ClassId} {n : Nat} {f : Nat → Int32} {i : Int32} (ha : wl[q0]? = some (a, .inl (cA, n, .inl f))) (ht : tys[t0]? = some (cA, .boolean)) (hin : vp_in i n) (hd : decode cc pc = .ok (.baload, 1)) (k : jJ l D R nL X wl (pc + 1) L (.int (f i.toNatClampNeg) :: st)) : jJ l D R nL X wl pc L (.int i :: .ref a :: st) :=
  fun H locs ls hP hD hS hl => va_zald hF.1 hF.2.1 hF.2.2.2.2.2.1 hP q0 t0 ha ht hin hd (k H locs ls hP hD hS hl)
theorem jq_zaldN (hF : jF D R nL X cc own Ts tys ret) (q0 t0 : Nat) {a : Nat} {cA : ClassId} {n : Nat} {f : Nat → Int32} {i : Nat} (ha : wl[q0]? = some (a, .inl (cA, n, .inl f))) (ht : tys[t0]? = some (cA, .boolean)) (hn : n < 2 ^ 31) (hin : i < n) (hd : decode cc pc = .ok (.baload, 1)) (k : jJ l D R nL X wl (pc + 1) L (.int (f i) :: st)) : jJ l D R nL X wl pc L (.int (nI i) :: .ref a :: st) :=
  jq_zald hF q0 t0 ha ht (vp_in_nI hin hn) hd (by rw [nI_clamp (Nat.lt_trans hin hn)]; exact k)
theorem jq_iast (hF : jF D R nL X cc own Ts tys ret) (q0 t0 : Nat) {a : Nat} {cA : ClassId} {n : Nat} {f : Nat → Int32} {i x : Int32} (wl' : va_W) (ha : wl[q0]? = some (a, .inl (cA, n, .inl f))) (ht : tys[t0]? = some (cA, .int)) (hin : vp_in i n) (hw : wl.set q0 (a, .inl (cA, n, .inl (upd f i.toNatClampNeg x))) = wl') (hd : decode cc pc = .ok (.iastore, 1)) (k : jJ l D R nL X wl' (pc + 1) L st) : jJ l D R nL X wl pc L (.int x :: .int i :: .ref a :: st) :=
  fun H locs ls hP hD hS hl => va_iast hF.1 hF.2.1 hF.2.2.2.2.2.1 hP hD hS q0 t0 ha ht hin hd (fun H1 locs1 hP1 hD1 hS1 => k H1 locs1 ls (hw ▸ hP1) (hw ▸ hD1) hS1 hl)
theorem jq_iastN (hF : jF D R nL X cc own Ts tys ret) (q0 t0 : Nat) {a : Nat} {cA : ClassId} {n : Nat} {f : Nat → Int32} {i : Nat} {x : Int32} (wl' : va_W) (ha : wl[q0]? = some (a, .inl (cA, n, .inl f))) (ht : tys[t0]? = some (cA, .int)) (hn : n < 2 ^ 31) (hin : i < n) (hw : wl.set q0 (a, .inl (cA, n, .inl (upd f i x))) = wl') (hd : decode cc pc = .ok (.iastore, 1)) (k : jJ l D R nL X wl' (pc + 1) L st) : jJ l D R nL X wl pc L (.int x :: .int (nI i) :: .ref a :: st) :=
  jq_iast hF q0 t0 wl' ha ht (vp_in_nI hin hn) (by rw [nI_clamp (Nat.lt_trans hin hn)]; exact hw) hd k
theorem jq_zast (hF : jF D R nL X cc own Ts tys ret) (q0 t0 : Nat) {a : Nat} {cA : ClassId} {n : Nat} {f : Nat → Int32} {i x : Int32} (wl' : va_W) (ha : wl[q0]? = some (a, .inl (cA, n, .inl f))) (ht : tys[t0]? = some (cA, .boolean)) (hin : vp_in i n) (hw : wl.set q0 (a, .inl (cA, n, .inl (upd f i.toNatClampNeg (vp_nar .boolean x)))) = wl') (hd : decode cc pc = .ok (.bastore, 1)) (k : jJ l D R nL X wl' (pc + 1) L st) : jJ l D R nL X wl pc L (.int x :: .int i :: .ref a :: st) :=
  fun H locs ls hP hD hS hl => va_zast hF.1 hF.2.1 hF.2.2.2.2.2.1 hP hD hS q0 t0 ha ht hin hd (fun H1 locs1 hP1 hD1 hS1 => k H1 locs1 ls (hw ▸ hP1) (hw ▸ hD1) hS1 hl)
theorem jq_zastN (hF : jF D R nL X cc own Ts tys ret) (q0 t0 : Nat) {a : Nat} {cA : ClassId} {n : Nat} {f : Nat → Int32} {i : Nat} {x : Int32} (wl' : va_W) (ha : wl[q0]? = some (a, .inl (cA, n, .inl f))) (ht : tys[t0]? = some (cA, .boolean)) (hn : n < 2 ^ 31) (hin : i < n) (hw : wl.set q0 (a, .inl (cA, n, .inl (upd f i (vp_nar .boolean x)))) = wl') (hd : decode cc pc = .ok (.bastore, 1)) (k : jJ l D R nL X wl' (pc + 1) L st) : jJ l D R nL X wl pc L (.int x :: .int (nI i) :: .ref a :: st) :=
  jq_zast hF q0 t0 wl' ha ht (vp_in_nI hin hn) (by rw [nI_clamp (Nat.lt_trans hin hn)]; exact hw) hd k
theorem jq_alen (hF : jF D R nL X cc own Ts tys ret) (q0 t0 : Nat) {a : Nat} {cA : ClassId} {x : vp_A} {ty : FieldType} (ha : wl[q0]? = some (a, .inl (cA, x))) (ht : tys[t0]? = some (cA, ty)) (hd : decode cc pc = .ok (.arraylength, 1)) (k : jJ l D R nL X wl (pc + 1) L (.int (nI x.1) :: st)) : jJ l D R nL X wl pc L (.ref a :: st) :=
  fun H locs ls hP hD hS hl => va_alen hF.1 hF.2.1 hF.2.2.2.2.2.1 hP q0 t0 ha ht rfl hd (k H locs ls hP hD hS hl)
theorem jq_get (hF : jF D R nL X cc own Ts tys ret) {C : String} {T : u_T} {N ci index : Nat} {a : Nat} {fs : List Value} {v : Value} (hin : ∀ w ∈ u_ws C T N, w ∈ Ts) (q0 : Nat) (he : wl[q0]? = some (a, .inr (ci, fs))) (hc : vwCl[ci]? = some (C, T, N)) (k0 : Nat) (hk : k0 < N) (hlink : Cond.fieldLink own index (T k0).1 (T k0).2.1 (T k0).2.2.1 ∈ Ts) (hv : fs[k0]? = some v) (hd : decode cc pc = .ok (.getfield index, 3)) (k : jJ l D R nL X wl (pc + 3) L (v :: st)) : jJ l D R nL X wl pc L (.ref a :: st) :=
  fun H locs ls hP hD hS hl => va_get hF.1 hF.2.1 hF.2.2.2.2.1 hin hF.2.2.2.1 hF.2.2.2.2.2.1 hP q0 he hc k0 hk (hF.2.2.2.2.1 _ hlink) (fun _ h9 => h9) hv hd (k H locs ls hP hD hS hl)
theorem jq_put (hF : jF D R nL X cc own Ts tys ret) {C : String} {T : u_T} {N ci index : Nat} {a : Nat} {fs : List Value} {v : Value} {ty : FieldType} (wl' : va_W) (hin : ∀ w ∈ u_ws C T N, w ∈ Ts) (ty0 : Nat → FieldType) (hty : ∀ k, k < N → parseFieldDescriptor (T k).2.2.1 = some (ty0 k)) (hnm : ∀ a, a < N → ∀ b, b < N → a ≠ b → (T a).2.1 ≠ (T b).2.1) (q0 : Nat) (he : wl[q0]? = some (a, .inr (ci, fs))) (hc : vwCl[ci]? = some (C, T, N)) (k0 : Nat) (hk : k0 < N) (hlink : Cond.fieldLink own index (T k0).1 (T k0).2.1 (T k0).2.2.1 ∈ Ts) (hfin : (T k0).2.2.2 = false) (hdesc : parseFieldDescriptor (T k0).2.2.1 = some ty) (hn : narrow ty v = v) (hfit : fits ty v = true) (hlen : k0 < fs.length) (hw : wl.set q0 (a, .inr (ci, fs.set k0 v)) = wl') (hd : decode cc pc = .ok (.putfield index, 3)) (k : jJ l D R nL X wl' (pc + 3) L st) : jJ l D R nL X wl pc L (v :: .ref a :: st) :=
  fun H locs ls hP hD hS hl => va_put hF.1 hF.2.1 hF.2.2.2.2.1 hin ty0 hty hnm hF.2.2.2.1 hF.2.2.2.2.2.1 hP hD hS q0 he hc k0 hk (hF.2.2.2.2.1 _ hlink) (fun _ h9 => h9) hfin hdesc hn hfit hlen hd (fun H1 locs1 hP1 hD1 hS1 => k H1 locs1 ls (hw ▸ hP1) (hw ▸ hD1) hS1 hl)
end JQ
end
section
/-! contracts: 'called with av in the world wl it answers r, and the world is wl2' -/
theorem jn_warm {s U : State} (hW : s.WarmedH U.vm) (h : ∀ w ∈ jNest, va_Nw w s) : ∀ w ∈ jNest, va_Nw w U := by
  intro w hw
  have h1 := h w hw
  have h2 := jNest_kind w hw
  rcases h2 with ⟨a, i, x, g, rfl⟩ | ⟨a, i, b, n, d, g, rfl⟩
  · exact va_Nw.warmM hW h1
  · exact va_Nw.warmF hW h1
theorem jn_same {u U : State} (hv : u.vm = U.vm) (h : ∀ w ∈ jNest, va_Nw w u) : ∀ w ∈ jNest, va_Nw w U := by
  intro w hw
  have h1 := h w hw
  rcases jNest_kind w hw with ⟨a, i, x, g, rfl⟩ | ⟨a, i, b, n, d, g, rfl⟩
  · exact va_Nw.same rfl hv h1
  · exact va_Nw.same rfl hv h1
def jPre (D : va_G) (tys : List (ClassId × FieldType)) (av : List Value) (wl : va_W) (sz : Nat) : Array Value → State → Prop :=
  va_Pc av (fun U => U.heap.size = sz ∧ va_P D vwCl wl U.heap ∧ va_K D vwCl tys U ∧ va_D (fun _ => True) wl ∧ ∀ w ∈ jNest, va_Nw w U)
def jB (D : va_G) (tys : List (ClassId × FieldType)) (A : Nat → Prop) (wl2 : va_W) : Unit → State → Prop := fun _ t => va_P D vwCl wl2 t.heap ∧ va_K D vwCl tys t ∧ va_D A wl2
def jI (l : Launch) (y : MethodName) (ws : List Cond) (rm : Room) (D : va_G) (tys : List (ClassId × FieldType)) (av : List Value) (wl wl2 : va_W) (r : Int32) : Prop :=
  ∀ sz : Nat, Met l y ws rm (jPre D tys av wl sz) (va_Qi (fun r' (_ : Unit) => r' = r) (jB D tys (va_A wl sz) wl2) (va_A wl sz)) 0 0 (va_A wl sz)
def jL (l : Launch) (y : MethodName) (ws : List Cond) (rm : Room) (D : va_G) (tys : List (ClassId × FieldType)) (av : List Value) (wl wl2 : va_W) (r : Int64) : Prop :=
  ∀ sz : Nat, Met l y ws rm (jPre D tys av wl sz) (va_Ql (fun r' (_ : Unit) => r' = r) (jB D tys (va_A wl sz) wl2) (va_A wl sz)) 0 0 (va_A wl sz)
def jV (l : Launch) (y : MethodName) (ws : List Cond) (rm : Room) (D : va_G) (tys : List (ClassId × FieldType)) (av : List Value) (wl wl2 : va_W)  : Prop :=
  ∀ sz : Nat, Met l y ws rm (jPre D tys av wl sz) (va_Qv (fun (_ : Unit) => True) (jB D tys (va_A wl sz) wl2) (va_A wl sz)) 0 0 (va_A wl sz)
section JC
variable {l : Launch} {D : va_G} {R : Room} {nL : Nat} {X : jX} {cc : ByteArray} {own : String} {Ts : List Cond} {tys : List (ClassId × FieldType)} {ret : Option FieldType} {wl wl2 : va_W} {pc : Nat} {L : List (Nat × Value)} {st : List Value}
theorem jI_of {y : MethodName} {ws ws' : List Cond} {rm : Room} {av : List Value} {maxL : Nat} {ty : FieldType} {r : Int32} (hn : narrow ty (.int r) = .int r) (hy : plainName y.cls = true) (hw : ws = Cond.code y cc maxL (some ty) :: ws') (hlen : (lg_sl av).length ≤ maxL)
    (body : ∀ X : jX, jF D rm maxL X cc y.cls ws tys (some ty) → (∀ (pc : Nat) (L : List (Nat × Value)), decode cc pc = .ok (.ireturn, 1) → jJ l D rm maxL X wl2 pc L [.int r]) → jJ l D rm maxL X wl 0 (lv_args 0 av) []) : jI l y ws rm D tys av wl wl2 r := by
  intro sz
  refine Met.ofW (cc := cc) (maxL := maxL) (ret := (some ty)) hy hw ?_
  intro p e s m args below meth c s₁ B hml hv
  obtain ⟨rfl, hsz, hP, hK, hD0, hNw⟩ := hv
  subst hsz
  have hD := hD0.self (sz := s.heap.size)
  rw [lg_entry_eq]
  refine body (p, e, s, m, av.toArray, below, meth, c, 0, 0, MQ below (va_Qi (fun r' (_ : Unit) => r' = r) (jB D tys (va_A wl s.heap.size) wl2) (va_A wl s.heap.size)) av.toArray s 0 0 (va_A wl s.heap.size), va_A wl s.heap.size, s.heap) ⟨B.exec, B.bytes, hml, findClass_of_methodNamed B.named, atoms_spec (ws := ws) B.pre, hK, B.returns, B.notSynchronized, fun q h => Or.inr h, Nat.zero_le _, Nat.zero_le _, hNw⟩ ?_ s.heap [] _ hP hD va_S.rf (lv_entry av hlen)
  intro pc L hd H locs ls hP1 hD1 hS1 hl1
  exact W.zret B.exec B.bytes B.returns hn (fun t ht hW => ⟨⟨r, (), rfl, rfl, by rw [ht]; exact hP1, va_K.moved hW.alike hK, hD1⟩, hS1.F ht⟩) hS1.2.2 hd B.notSynchronized
theorem jL_of {y : MethodName} {ws ws' : List Cond} {rm : Room} {av : List Value} {maxL : Nat} {r : Int64} (hy : plainName y.cls = true) (hw : ws = Cond.code y cc maxL (some .long) :: ws') (hlen : (lg_sl av).length ≤ maxL)
    (body : ∀ X : jX, jF D rm maxL X cc y.cls ws tys (some .long) → (∀ (pc : Nat) (L : List (Nat × Value)), decode cc pc = .ok (.lreturn, 1) → jJ l D rm maxL X wl2 pc L [.long r]) → jJ l D rm maxL X wl 0 (lv_args 0 av) []) : jL l y ws rm D tys av wl wl2 r := by
  intro sz
  refine Met.ofW (cc := cc) (maxL := maxL) (ret := (some .long)) hy hw ?_
  intro p e s m args below meth c s₁ B hml hv
  obtain ⟨rfl, hsz, hP, hK, hD0, hNw⟩ := hv
  subst hsz
  have hD := hD0.self (sz := s.heap.size)
  rw [lg_entry_eq]
  refine body (p, e, s, m, av.toArray, below, meth, c, 0, 0, MQ below (va_Ql (fun r' (_ : Unit) => r' = r) (jB D tys (va_A wl s.heap.size) wl2) (va_A wl s.heap.size)) av.toArray s 0 0 (va_A wl s.heap.size), va_A wl s.heap.size, s.heap) ⟨B.exec, B.bytes, hml, findClass_of_methodNamed B.named, atoms_spec (ws := ws) B.pre, hK, B.returns, B.notSynchronized, fun q h => Or.inr h, Nat.zero_le _, Nat.zero_le _, hNw⟩ ?_ s.heap [] _ hP hD va_S.rf (lv_entry av hlen)
  intro pc L hd H locs ls hP1 hD1 hS1 hl1
  exact W.lret B.exec B.bytes B.returns (fun t ht hW => ⟨⟨r, (), rfl, rfl, by rw [ht]; exact hP1, va_K.moved hW.alike hK, hD1⟩, hS1.F ht⟩) hS1.2.2 hd B.notSynchronized
theorem jV_of {y : MethodName} {ws ws' : List Cond} {rm : Room} {av : List Value} {maxL : Nat}  (hy : plainName y.cls = true) (hw : ws = Cond.code y cc maxL none :: ws') (hlen : (lg_sl av).length ≤ maxL)
    (body : ∀ X : jX, jF D rm maxL X cc y.cls ws tys none → (∀ (pc : Nat) (L : List (Nat × Value)), decode cc pc = .ok (.return_, 1) → jJ l D rm maxL X wl2 pc L []) → jJ l D rm maxL X wl 0 (lv_args 0 av) []) : jV l y ws rm D tys av wl wl2  := by
  intro sz
  refine Met.ofW (cc := cc) (maxL := maxL) (ret := none) hy hw ?_
  intro p e s m args below meth c s₁ B hml hv
  obtain ⟨rfl, hsz, hP, hK, hD0, hNw⟩ := hv
  subst hsz
  have hD := hD0.self (sz := s.heap.size)
  rw [lg_entry_eq]
  refine body (p, e, s, m, av.toArray, below, meth, c, 0, 0, MQ below (va_Qv (fun (_ : Unit) => True) (jB D tys (va_A wl s.heap.size) wl2) (va_A wl s.heap.size)) av.toArray s 0 0 (va_A wl s.heap.size), va_A wl s.heap.size, s.heap) ⟨B.exec, B.bytes, hml, findClass_of_methodNamed B.named, atoms_spec (ws := ws) B.pre, hK, B.returns, B.notSynchronized, fun q h => Or.inr h, Nat.zero_le _, Nat.zero_le _, hNw⟩ ?_ s.heap [] _ hP hD va_S.rf (lv_entry av hlen)
  intro pc L hd H locs ls hP1 hD1 hS1 hl1
  exact W.vret B.exec B.bytes B.returns (fun t ht hW => ⟨⟨(), rfl, trivial, by rw [ht]; exact hP1, va_K.moved hW.alike hK, hD1⟩, hS1.F ht⟩) hS1.2.2 hd B.notSynchronized
theorem jq_free {A0 : Nat → Prop} {H0 H : Heap} {locs : List Loc} (hD : va_D A0 wl) (hS : va_S A0 H0 H locs) (hA : ∀ q, H0.size ≤ q → A0 q) : ∀ q, va_A wl H.size q → A0 q := by
  intro q h
  rcases h with ⟨k, e, h⟩ | h
  · exact hD.2 k _ h
  · exact hA q (Nat.le_trans hS.1 h)
theorem jq_blind {av : List Value} {sz : Nat} : FrameBlind (jPre D tys av wl sz) := fun a U g mk q => by
  obtain ⟨q0, q1, qP, qK, qD, qN⟩ := q
  exact ⟨q0, q1, qP, va_K.moved (u := U) (U := U.calling g mk a) (Vm.Alike.refl U.vm) qK, qD, jn_same (u := U) (U := U.calling g mk a) rfl qN⟩
theorem jq_cVI (hF : jF D R nL X cc own Ts tys ret) {y : MethodName} {ws' wsT : List Cond} {rm' : Room} {idx maxL' n : Nat} {bytes : ByteArray} {rt : Option FieldType} {As rest : List Value} {b : Nat} {C : String} {ci : Nat} {fs : List Value} {T : u_T} {N : Nat} {r : Int32} (hM : jI l y wsT rm' D tys (.ref b :: As) wl wl2 r) (hG : GoodIn Ts (wsV own idx C y wsT)) (hw : wsT = Cond.code y bytes maxL' rt :: ws') (hrc : rm'.cells = 0) (hrs : rm'.slots = 0) (hdd : y.cls = C ∧ y.cls ≠ "java/lang/invoke/MethodHandle" ∧ y.cls ≠ "java/lang/invoke/VarHandle" ∧ (parseMethodDescriptor y.desc).map (fun d => d.parameters.length) = some n) (hR : rm'.frames + 1 ≤ R.frames ∧ 8 + (maxL' + 11) + rm'.locals ≤ R.locals) (q0 : Nat) (he : wl[q0]? = some (b, .inr (ci, fs))) (hc : vwCl[ci]? = some (C, T, N)) (hn : As.length = n) (hst : st = As.reverse ++ .ref b :: rest) (hW : (rest.map fun v => v.category).sum ≤ 8) (hd : decode cc pc = .ok (.invokevirtual idx, 3)) (k : jJ l D R nL X wl2 (pc + 3) L (.int r :: rest)) : jJ l D R nL X wl pc L st :=
  fun H locs ls hP hD hS hl => va_calli (va_runV (As := As) (rest := rest) ⟨hF.1, hF.2.1, hF.2.2.1, hF.2.2.2.1, hF.2.2.2.2.1⟩ (hM H.size) (cwV n hF.2.2.2.2.1 hG hw hrc hrs hdd hR) ⟨jq_blind, va_recv hF.2.2.2.2.2.1 hP hc he, fun U hU hW => ⟨rfl, by rw [hU], by rw [hU]; exact hP, va_K.moved hW.alike hF.2.2.2.2.2.1, hD.weaken (fun _ _ _ _ => trivial), jn_warm hW hF.2.2.2.2.2.2.2.2.2.2.2⟩⟩ rfl hn hl.1 hst (lv_room hW) hd ⟨hF.2.2.2.2.2.2.2.2.2.1, hF.2.2.2.2.2.2.2.2.2.2.1⟩) hS (fun q _ h => jq_free hD hS hF.2.2.2.2.2.2.2.2.1 q h) (jq_free hD hS hF.2.2.2.2.2.2.2.2.1) (fun r' u t H1 locs1 ht hvm hp hB hz hk hS1 => by cases hp; exact k H1 locs1 ls (ht ▸ hB.1) (hB.2.2.weaken (fun _ _ _ h => jq_free hD hS hF.2.2.2.2.2.2.2.2.1 _ h)) hS1 hl)
theorem jq_cNI (hF : jF D R nL X cc own Ts tys ret) {y : MethodName} {ws' wsT : List Cond} {rm' : Room} {idx maxL' n : Nat} {bytes : ByteArray} {rt : Option FieldType} {As rest : List Value} {b : Nat} {C host : String} {ci : Nat} {fs : List Value} {T : u_T} {N : Nat} {r : Int32} (hM : jI l y wsT rm' D tys (.ref b :: As) wl wl2 r) (hG : GoodIn Ts wsT) (hlk : Cond.methodLinkNest own idx y host ∈ jNest) (hini : Cond.initialized y.cls ∈ Ts) (hinst : Cond.instanceMethod y ∈ Ts) (hsel : Cond.selects C y y ∈ Ts) (hw : wsT = Cond.code y bytes maxL' rt :: ws') (hrc : rm'.cells = 0) (hrs : rm'.slots = 0) (hdd : y.cls ≠ "java/lang/invoke/MethodHandle" ∧ y.cls ≠ "java/lang/invoke/VarHandle" ∧ (parseMethodDescriptor y.desc).map (fun d => d.parameters.length) = some n) (hR : rm'.frames + 1 ≤ R.frames ∧ 8 + (maxL' + 11) + rm'.locals ≤ R.locals) (q0 : Nat) (he : wl[q0]? = some (b, .inr (ci, fs))) (hc : vwCl[ci]? = some (C, T, N)) (hn : As.length = n) (hst : st = As.reverse ++ .ref b :: rest) (hW : (rest.map fun v => v.category).sum ≤ 8) (hd : decode cc pc = .ok (.invokevirtual idx, 3)) (k : jJ l D R nL X wl2 (pc + 3) L (.int r :: rest)) : jJ l D R nL X wl pc L st :=
  fun H locs ls hP hD hS hl => va_calli (va_runVN (As := As) (rest := rest) ⟨hF.1, hF.2.1, hF.2.2.1, hF.2.2.2.1, hF.2.2.2.2.1⟩ (hM H.size) ⟨va_cnB n hF.2.2.2.2.1 hG hw hrc hrs (hF.2.2.2.2.2.2.2.2.2.2.2 _ hlk) (hF.2.2.2.2.1 _ hini) hdd hR, hF.2.2.2.2.1 _ hinst, hF.2.2.2.2.1 _ hsel⟩ ⟨jq_blind, va_recv hF.2.2.2.2.2.1 hP hc he, fun U hU hW => ⟨rfl, by rw [hU], by rw [hU]; exact hP, va_K.moved hW.alike hF.2.2.2.2.2.1, hD.weaken (fun _ _ _ _ => trivial), jn_warm hW hF.2.2.2.2.2.2.2.2.2.2.2⟩⟩ rfl hn hl.1 hst (lv_room hW) hd ⟨hF.2.2.2.2.2.2.2.2.2.1, hF.2.2.2.2.2.2.2.2.2.2.1⟩) hS (fun q _ h => jq_free hD hS hF.2.2.2.2.2.2.2.2.1 q h) (jq_free hD hS hF.2.2.2.2.2.2.2.2.1) (fun r' u t H1 locs1 ht hvm hp hB hz hk hS1 => by cases hp; exact k H1 locs1 ls (ht ▸ hB.1) (hB.2.2.weaken (fun _ _ _ h => jq_free hD hS hF.2.2.2.2.2.2.2.2.1 _ h)) hS1 hl)
theorem jq_cSI (hF : jF D R nL X cc own Ts tys ret) {y : MethodName} {ws' wsT : List Cond} {rm' : Room} {idx maxL' n : Nat} {bytes : ByteArray} {rt : Option FieldType} {As rest : List Value} {r : Int32} (hM : jI l y wsT rm' D tys As wl wl2 r) (hG : GoodIn Ts (wsS own idx y wsT)) (hw : wsT = Cond.code y bytes maxL' rt :: ws') (hrc : rm'.cells = 0) (hrs : rm'.slots = 0) (hdd : y.cls = own ∧ y.cls ≠ "java/lang/invoke/MethodHandle" ∧ y.cls ≠ "java/lang/invoke/VarHandle" ∧ (parseMethodDescriptor y.desc).map (fun d => d.parameters.length) = some n) (hR : rm'.frames + 1 ≤ R.frames ∧ 8 + (maxL' + 11) + rm'.locals ≤ R.locals) (hn : As.length = n) (hst : st = As.reverse ++ rest) (hW : (rest.map fun v => v.category).sum ≤ 8) (hd : decode cc pc = .ok (.invokestatic idx, 3)) (k : jJ l D R nL X wl2 (pc + 3) L (.int r :: rest)) : jJ l D R nL X wl pc L st :=
  fun H locs ls hP hD hS hl => va_calli (va_runS (As := As) (rest := rest) ⟨hF.1, hF.2.1, hF.2.2.1, hF.2.2.2.1, hF.2.2.2.2.1⟩ (hM H.size) (cwS n hF.2.2.2.2.1 hG hw hrc hrs hdd hR) ⟨jq_blind, fun U hU hW => ⟨rfl, by rw [hU], by rw [hU]; exact hP, va_K.moved hW.alike hF.2.2.2.2.2.1, hD.weaken (fun _ _ _ _ => trivial), jn_warm hW hF.2.2.2.2.2.2.2.2.2.2.2⟩⟩ rfl hn hl.1 hst (lv_room hW) hd ⟨hF.2.2.2.2.2.2.2.2.2.1, hF.2.2.2.2.2.2.2.2.2.2.1⟩) hS (fun q _ h => jq_free hD hS hF.2.2.2.2.2.2.2.2.1 q h) (jq_free hD hS hF.2.2.2.2.2.2.2.2.1) (fun r' u t H1 locs1 ht hvm hp hB hz hk hS1 => by cases hp; exact k H1 locs1 ls (ht ▸ hB.1) (hB.2.2.weaken (fun _ _ _ h => jq_free hD hS hF.2.2.2.2.2.2.2.2.1 _ h)) hS1 hl)
theorem jq_cMI (hF : jF D R nL X cc own Ts tys ret) {y : MethodName} {ws' wsT : List Cond} {rm' : Room} {idx maxL' n : Nat} {bytes : ByteArray} {rt : Option FieldType} {As rest : List Value} {host : String} {r : Int32} (hM : jI l y wsT rm' D tys As wl wl2 r) (hG : GoodIn Ts wsT) (hlk : Cond.methodLinkNest own idx y host ∈ jNest) (hini : Cond.initialized y.cls ∈ Ts) (hstt : Cond.static y ∈ Ts) (hw : wsT = Cond.code y bytes maxL' rt :: ws') (hrc : rm'.cells = 0) (hrs : rm'.slots = 0) (hdd : y.cls ≠ "java/lang/invoke/MethodHandle" ∧ y.cls ≠ "java/lang/invoke/VarHandle" ∧ (parseMethodDescriptor y.desc).map (fun d => d.parameters.length) = some n) (hR : rm'.frames + 1 ≤ R.frames ∧ 8 + (maxL' + 11) + rm'.locals ≤ R.locals) (hn : As.length = n) (hst : st = As.reverse ++ rest) (hW : (rest.map fun v => v.category).sum ≤ 8) (hd : decode cc pc = .ok (.invokestatic idx, 3)) (k : jJ l D R nL X wl2 (pc + 3) L (.int r :: rest)) : jJ l D R nL X wl pc L st :=
  fun H locs ls hP hD hS hl => va_calli (va_runSN (As := As) (rest := rest) ⟨hF.1, hF.2.1, hF.2.2.1, hF.2.2.2.1, hF.2.2.2.2.1⟩ (hM H.size) ⟨va_cnB n hF.2.2.2.2.1 hG hw hrc hrs (hF.2.2.2.2.2.2.2.2.2.2.2 _ hlk) (hF.2.2.2.2.1 _ hini) hdd hR, hF.2.2.2.2.1 _ hstt, trivial⟩ ⟨jq_blind, fun U hU hW => ⟨rfl, by rw [hU], by rw [hU]; exact hP, va_K.moved hW.alike hF.2.2.2.2.2.1, hD.weaken (fun _ _ _ _ => trivial), jn_warm hW hF.2.2.2.2.2.2.2.2.2.2.2⟩⟩ rfl hn hl.1 hst (lv_room hW) hd ⟨hF.2.2.2.2.2.2.2.2.2.1, hF.2.2.2.2.2.2.2.2.2.2.1⟩) hS (fun q _ h => jq_free hD hS hF.2.2.2.2.2.2.2.2.1 q h) (jq_free hD hS hF.2.2.2.2.2.2.2.2.1) (fun r' u t H1 locs1 ht hvm hp hB hz hk hS1 => by cases hp; exact k H1 locs1 ls (ht ▸ hB.1) (hB.2.2.weaken (fun _ _ _ h => jq_free hD hS hF.2.2.2.2.2.2.2.2.1 _ h)) hS1 hl)
theorem jq_cVL (hF : jF D R nL X cc own Ts tys ret) {y : MethodName} {ws' wsT : List Cond} {rm' : Room} {idx maxL' n : Nat} {bytes : ByteArray} {rt : Option FieldType} {As rest : List Value} {b : Nat} {C : String} {ci : Nat} {fs : List Value} {T : u_T} {N : Nat} {r : Int64} (hM : jL l y wsT rm' D tys (.ref b :: As) wl wl2 r) (hG : GoodIn Ts (wsV own idx C y wsT)) (hw : wsT = Cond.code y bytes maxL' rt :: ws') (hrc : rm'.cells = 0) (hrs : rm'.slots = 0) (hdd : y.cls = C ∧ y.cls ≠ "java/lang/invoke/MethodHandle" ∧ y.cls ≠ "java/lang/invoke/VarHandle" ∧ (parseMethodDescriptor y.desc).map (fun d => d.parameters.length) = some n) (hR : rm'.frames + 1 ≤ R.frames ∧ 8 + (maxL' + 11) + rm'.locals ≤ R.locals) (q0 : Nat) (he : wl[q0]? = some (b, .inr (ci, fs))) (hc : vwCl[ci]? = some (C, T, N)) (hn : As.length = n) (hst : st = As.reverse ++ .ref b :: rest) (hW : (rest.map fun v => v.category).sum ≤ 8) (hd : decode cc pc = .ok (.invokevirtual idx, 3)) (k : jJ l D R nL X wl2 (pc + 3) L (.long r :: rest)) : jJ l D R nL X wl pc L st :=
  fun H locs ls hP hD hS hl => va_calll (va_runV (As := As) (rest := rest) ⟨hF.1, hF.2.1, hF.2.2.1, hF.2.2.2.1, hF.2.2.2.2.1⟩ (hM H.size) (cwV n hF.2.2.2.2.1 hG hw hrc hrs hdd hR) ⟨jq_blind, va_recv hF.2.2.2.2.2.1 hP hc he, fun U hU hW => ⟨rfl, by rw [hU], by rw [hU]; exact hP, va_K.moved hW.alike hF.2.2.2.2.2.1, hD.weaken (fun _ _ _ _ => trivial), jn_warm hW hF.2.2.2.2.2.2.2.2.2.2.2⟩⟩ rfl hn hl.1 hst (lv_room hW) hd ⟨hF.2.2.2.2.2.2.2.2.2.1, hF.2.2.2.2.2.2.2.2.2.2.1⟩) hS (fun q _ h => jq_free hD hS hF.2.2.2.2.2.2.2.2.1 q h) (jq_free hD hS hF.2.2.2.2.2.2.2.2.1) (fun r' u t H1 locs1 ht hvm hp hB hz hk hS1 => by cases hp; exact k H1 locs1 ls (ht ▸ hB.1) (hB.2.2.weaken (fun _ _ _ h => jq_free hD hS hF.2.2.2.2.2.2.2.2.1 _ h)) hS1 hl)
theorem jq_cNL (hF : jF D R nL X cc own Ts tys ret) {y : MethodName} {ws' wsT : List Cond} {rm' : Room} {idx maxL' n : Nat} {bytes : ByteArray} {rt : Option FieldType} {As rest : List Value} {b : Nat} {C host : String} {ci : Nat} {fs : List Value} {T : u_T} {N : Nat} {r : Int64} (hM : jL l y wsT rm' D tys (.ref b :: As) wl wl2 r) (hG : GoodIn Ts wsT) (hlk : Cond.methodLinkNest own idx y host ∈ jNest) (hini : Cond.initialized y.cls ∈ Ts) (hinst : Cond.instanceMethod y ∈ Ts) (hsel : Cond.selects C y y ∈ Ts) (hw : wsT = Cond.code y bytes maxL' rt :: ws') (hrc : rm'.cells = 0) (hrs : rm'.slots = 0) (hdd : y.cls ≠ "java/lang/invoke/MethodHandle" ∧ y.cls ≠ "java/lang/invoke/VarHandle" ∧ (parseMethodDescriptor y.desc).map (fun d => d.parameters.length) = some n) (hR : rm'.frames + 1 ≤ R.frames ∧ 8 + (maxL' + 11) + rm'.locals ≤ R.locals) (q0 : Nat) (he : wl[q0]? = some (b, .inr (ci, fs))) (hc : vwCl[ci]? = some (C, T, N)) (hn : As.length = n) (hst : st = As.reverse ++ .ref b :: rest) (hW : (rest.map fun v => v.category).sum ≤ 8) (hd : decode cc pc = .ok (.invokevirtual idx, 3)) (k : jJ l D R nL X wl2 (pc + 3) L (.long r :: rest)) : jJ l D R nL X wl pc L st :=
  fun H locs ls hP hD hS hl => va_calll (va_runVN (As := As) (rest := rest) ⟨hF.1, hF.2.1, hF.2.2.1, hF.2.2.2.1, hF.2.2.2.2.1⟩ (hM H.size) ⟨va_cnB n hF.2.2.2.2.1 hG hw hrc hrs (hF.2.2.2.2.2.2.2.2.2.2.2 _ hlk) (hF.2.2.2.2.1 _ hini) hdd hR, hF.2.2.2.2.1 _ hinst, hF.2.2.2.2.1 _ hsel⟩ ⟨jq_blind, va_recv hF.2.2.2.2.2.1 hP hc he, fun U hU hW => ⟨rfl, by rw [hU], by rw [hU]; exact hP, va_K.moved hW.alike hF.2.2.2.2.2.1, hD.weaken (fun _ _ _ _ => trivial), jn_warm hW hF.2.2.2.2.2.2.2.2.2.2.2⟩⟩ rfl hn hl.1 hst (lv_room hW) hd ⟨hF.2.2.2.2.2.2.2.2.2.1, hF.2.2.2.2.2.2.2.2.2.2.1⟩) hS (fun q _ h => jq_free hD hS hF.2.2.2.2.2.2.2.2.1 q h) (jq_free hD hS hF.2.2.2.2.2.2.2.2.1) (fun r' u t H1 locs1 ht hvm hp hB hz hk hS1 => by cases hp; exact k H1 locs1 ls (ht ▸ hB.1) (hB.2.2.weaken (fun _ _ _ h => jq_free hD hS hF.2.2.2.2.2.2.2.2.1 _ h)) hS1 hl)
theorem jq_cSL (hF : jF D R nL X cc own Ts tys ret) {y : MethodName} {ws' wsT : List Cond} {rm' : Room} {idx maxL' n : Nat} {bytes : ByteArray} {rt : Option FieldType} {As rest : List Value} {r : Int64} (hM : jL l y wsT rm' D tys As wl wl2 r) (hG : GoodIn Ts (wsS own idx y wsT)) (hw : wsT = Cond.code y bytes maxL' rt :: ws') (hrc : rm'.cells = 0) (hrs : rm'.slots = 0) (hdd : y.cls = own ∧ y.cls ≠ "java/lang/invoke/MethodHandle" ∧ y.cls ≠ "java/lang/invoke/VarHandle" ∧ (parseMethodDescriptor y.desc).map (fun d => d.parameters.length) = some n) (hR : rm'.frames + 1 ≤ R.frames ∧ 8 + (maxL' + 11) + rm'.locals ≤ R.locals) (hn : As.length = n) (hst : st = As.reverse ++ rest) (hW : (rest.map fun v => v.category).sum ≤ 8) (hd : decode cc pc = .ok (.invokestatic idx, 3)) (k : jJ l D R nL X wl2 (pc + 3) L (.long r :: rest)) : jJ l D R nL X wl pc L st :=
  fun H locs ls hP hD hS hl => va_calll (va_runS (As := As) (rest := rest) ⟨hF.1, hF.2.1, hF.2.2.1, hF.2.2.2.1, hF.2.2.2.2.1⟩ (hM H.size) (cwS n hF.2.2.2.2.1 hG hw hrc hrs hdd hR) ⟨jq_blind, fun U hU hW => ⟨rfl, by rw [hU], by rw [hU]; exact hP, va_K.moved hW.alike hF.2.2.2.2.2.1, hD.weaken (fun _ _ _ _ => trivial), jn_warm hW hF.2.2.2.2.2.2.2.2.2.2.2⟩⟩ rfl hn hl.1 hst (lv_room hW) hd ⟨hF.2.2.2.2.2.2.2.2.2.1, hF.2.2.2.2.2.2.2.2.2.2.1⟩) hS (fun q _ h => jq_free hD hS hF.2.2.2.2.2.2.2.2.1 q h) (jq_free hD hS hF.2.2.2.2.2.2.2.2.1) (fun r' u t H1 locs1 ht hvm hp hB hz hk hS1 => by cases hp; exact k H1 locs1 ls (ht ▸ hB.1) (hB.2.2.weaken (fun _ _ _ h => jq_free hD hS hF.2.2.2.2.2.2.2.2.1 _ h)) hS1 hl)
theorem jq_cML (hF : jF D R nL X cc own Ts tys ret) {y : MethodName} {ws' wsT : List Cond} {rm' : Room} {idx maxL' n : Nat} {bytes : ByteArray} {rt : Option FieldType} {As rest : List Value} {host : String} {r : Int64} (hM : jL l y wsT rm' D tys As wl wl2 r) (hG : GoodIn Ts wsT) (hlk : Cond.methodLinkNest own idx y host ∈ jNest) (hini : Cond.initialized y.cls ∈ Ts) (hstt : Cond.static y ∈ Ts) (hw : wsT = Cond.code y bytes maxL' rt :: ws') (hrc : rm'.cells = 0) (hrs : rm'.slots = 0) (hdd : y.cls ≠ "java/lang/invoke/MethodHandle" ∧ y.cls ≠ "java/lang/invoke/VarHandle" ∧ (parseMethodDescriptor y.desc).map (fun d => d.parameters.length) = some n) (hR : rm'.frames + 1 ≤ R.frames ∧ 8 + (maxL' + 11) + rm'.locals ≤ R.locals) (hn : As.length = n) (hst : st = As.reverse ++ rest) (hW : (rest.map fun v => v.category).sum ≤ 8) (hd : decode cc pc = .ok (.invokestatic idx, 3)) (k : jJ l D R nL X wl2 (pc + 3) L (.long r :: rest)) : jJ l D R nL X wl pc L st :=
  fun H locs ls hP hD hS hl => va_calll (va_runSN (As := As) (rest := rest) ⟨hF.1, hF.2.1, hF.2.2.1, hF.2.2.2.1, hF.2.2.2.2.1⟩ (hM H.size) ⟨va_cnB n hF.2.2.2.2.1 hG hw hrc hrs (hF.2.2.2.2.2.2.2.2.2.2.2 _ hlk) (hF.2.2.2.2.1 _ hini) hdd hR, hF.2.2.2.2.1 _ hstt, trivial⟩ ⟨jq_blind, fun U hU hW => ⟨rfl, by rw [hU], by rw [hU]; exact hP, va_K.moved hW.alike hF.2.2.2.2.2.1, hD.weaken (fun _ _ _ _ => trivial), jn_warm hW hF.2.2.2.2.2.2.2.2.2.2.2⟩⟩ rfl hn hl.1 hst (lv_room hW) hd ⟨hF.2.2.2.2.2.2.2.2.2.1, hF.2.2.2.2.2.2.2.2.2.2.1⟩) hS (fun q _ h => jq_free hD hS hF.2.2.2.2.2.2.2.2.1 q h) (jq_free hD hS hF.2.2.2.2.2.2.2.2.1) (fun r' u t H1 locs1 ht hvm hp hB hz hk hS1 => by cases hp; exact k H1 locs1 ls (ht ▸ hB.1) (hB.2.2.weaken (fun _ _ _ h => jq_free hD hS hF.2.2.2.2.2.2.2.2.1 _ h)) hS1 hl)
theorem jq_cVV (hF : jF D R nL X cc own Ts tys ret) {y : MethodName} {ws' wsT : List Cond} {rm' : Room} {idx maxL' n : Nat} {bytes : ByteArray} {rt : Option FieldType} {As rest : List Value} {b : Nat} {C : String} {ci : Nat} {fs : List Value} {T : u_T} {N : Nat}  (hM : jV l y wsT rm' D tys (.ref b :: As) wl wl2 ) (hG : GoodIn Ts (wsV own idx C y wsT)) (hw : wsT = Cond.code y bytes maxL' rt :: ws') (hrc : rm'.cells = 0) (hrs : rm'.slots = 0) (hdd : y.cls = C ∧ y.cls ≠ "java/lang/invoke/MethodHandle" ∧ y.cls ≠ "java/lang/invoke/VarHandle" ∧ (parseMethodDescriptor y.desc).map (fun d => d.parameters.length) = some n) (hR : rm'.frames + 1 ≤ R.frames ∧ 8 + (maxL' + 11) + rm'.locals ≤ R.locals) (q0 : Nat) (he : wl[q0]? = some (b, .inr (ci, fs))) (hc : vwCl[ci]? = some (C, T, N)) (hn : As.length = n) (hst : st = As.reverse ++ .ref b :: rest) (hW : (rest.map fun v => v.category).sum ≤ 8) (hd : decode cc pc = .ok (.invokevirtual idx, 3)) (k : jJ l D R nL X wl2 (pc + 3) L (rest)) : jJ l D R nL X wl pc L st :=
  fun H locs ls hP hD hS hl => va_callv (va_runV (As := As) (rest := rest) ⟨hF.1, hF.2.1, hF.2.2.1, hF.2.2.2.1, hF.2.2.2.2.1⟩ (hM H.size) (cwV n hF.2.2.2.2.1 hG hw hrc hrs hdd hR) ⟨jq_blind, va_recv hF.2.2.2.2.2.1 hP hc he, fun U hU hW => ⟨rfl, by rw [hU], by rw [hU]; exact hP, va_K.moved hW.alike hF.2.2.2.2.2.1, hD.weaken (fun _ _ _ _ => trivial), jn_warm hW hF.2.2.2.2.2.2.2.2.2.2.2⟩⟩ rfl hn hl.1 hst (lv_room hW) hd ⟨hF.2.2.2.2.2.2.2.2.2.1, hF.2.2.2.2.2.2.2.2.2.2.1⟩) hS (fun q _ h => jq_free hD hS hF.2.2.2.2.2.2.2.2.1 q h) (jq_free hD hS hF.2.2.2.2.2.2.2.2.1) (fun u t H1 locs1 ht hvm hp hB hz hk hS1 => by exact k H1 locs1 ls (ht ▸ hB.1) (hB.2.2.weaken (fun _ _ _ h => jq_free hD hS hF.2.2.2.2.2.2.2.2.1 _ h)) hS1 hl)
theorem jq_cNV (hF : jF D R nL X cc own Ts tys ret) {y : MethodName} {ws' wsT : List Cond} {rm' : Room} {idx maxL' n : Nat} {bytes : ByteArray} {rt : Option FieldType} {As rest : List Value} {b : Nat} {C host : String} {ci : Nat} {fs : List Value} {T : u_T} {N : Nat}  (hM : jV l y wsT rm' D tys (.ref b :: As) wl wl2 ) (hG : GoodIn Ts wsT) (hlk : Cond.methodLinkNest own idx y host ∈ jNest) (hini : Cond.initialized y.cls ∈ Ts) (hinst : Cond.instanceMethod y ∈ Ts) (hsel : Cond.selects C y y ∈ Ts) (hw : wsT = Cond.code y bytes maxL' rt :: ws') (hrc : rm'.cells = 0) (hrs : rm'.slots = 0) (hdd : y.cls ≠ "java/lang/invoke/MethodHandle" ∧ y.cls ≠ "java/lang/invoke/VarHandle" ∧ (parseMethodDescriptor y.desc).map (fun d => d.parameters.length) = some n) (hR : rm'.frames + 1 ≤ R.frames ∧ 8 + (maxL' + 11) + rm'.locals ≤ R.locals) (q0 : Nat) (he : wl[q0]? = some (b, .inr (ci, fs))) (hc : vwCl[ci]? = some (C, T, N)) (hn : As.length = n) (hst : st = As.reverse ++ .ref b :: rest) (hW : (rest.map fun v => v.category).sum ≤ 8) (hd : decode cc pc = .ok (.invokevirtual idx, 3)) (k : jJ l D R nL X wl2 (pc + 3) L (rest)) : jJ l D R nL X wl pc L st :=
  fun H locs ls hP hD hS hl => va_callv (va_runVN (As := As) (rest := rest) ⟨hF.1, hF.2.1, hF.2.2.1, hF.2.2.2.1, hF.2.2.2.2.1⟩ (hM H.size) ⟨va_cnB n hF.2.2.2.2.1 hG hw hrc hrs (hF.2.2.2.2.2.2.2.2.2.2.2 _ hlk) (hF.2.2.2.2.1 _ hini) hdd hR, hF.2.2.2.2.1 _ hinst, hF.2.2.2.2.1 _ hsel⟩ ⟨jq_blind, va_recv hF.2.2.2.2.2.1 hP hc he, fun U hU hW => ⟨rfl, by rw [hU], by rw [hU]; exact hP, va_K.moved hW.alike hF.2.2.2.2.2.1, hD.weaken (fun _ _ _ _ => trivial), jn_warm hW hF.2.2.2.2.2.2.2.2.2.2.2⟩⟩ rfl hn hl.1 hst (lv_room hW) hd ⟨hF.2.2.2.2.2.2.2.2.2.1, hF.2.2.2.2.2.2.2.2.2.2.1⟩) hS (fun q _ h => jq_free hD hS hF.2.2.2.2.2.2.2.2.1 q h) (jq_free hD hS hF.2.2.2.2.2.2.2.2.1) (fun u t H1 locs1 ht hvm hp hB hz hk hS1 => by exact k H1 locs1 ls (ht ▸ hB.1) (hB.2.2.weaken (fun _ _ _ h => jq_free hD hS hF.2.2.2.2.2.2.2.2.1 _ h)) hS1 hl)
theorem jq_cSV (hF : jF D R nL X cc own Ts tys ret) {y : MethodName} {ws' wsT : List Cond} {rm' : Room} {idx maxL' n : Nat} {bytes : ByteArray} {rt : Option FieldType} {As rest : List Value}  (hM : jV l y wsT rm' D tys As wl wl2 ) (hG : GoodIn Ts (wsS own idx y wsT)) (hw : wsT = Cond.code y bytes maxL' rt :: ws') (hrc : rm'.cells = 0) (hrs : rm'.slots = 0) (hdd : y.cls = own ∧ y.cls ≠ "java/lang/invoke/MethodHandle" ∧ y.cls ≠ "java/lang/invoke/VarHandle" ∧ (parseMethodDescriptor y.desc).map (fun d => d.parameters.length) = some n) (hR : rm'.frames + 1 ≤ R.frames ∧ 8 + (maxL' + 11) + rm'.locals ≤ R.locals) (hn : As.length = n) (hst : st = As.reverse ++ rest) (hW : (rest.map fun v => v.category).sum ≤ 8) (hd : decode cc pc = .ok (.invokestatic idx, 3)) (k : jJ l D R nL X wl2 (pc + 3) L (rest)) : jJ l D R nL X wl pc L st :=
  fun H locs ls hP hD hS hl => va_callv (va_runS (As := As) (rest := rest) ⟨hF.1, hF.2.1, hF.2.2.1, hF.2.2.2.1, hF.2.2.2.2.1⟩ (hM H.size) (cwS n hF.2.2.2.2.1 hG hw hrc hrs hdd hR) ⟨jq_blind, fun U hU hW => ⟨rfl, by rw [hU], by rw [hU]; exact hP, va_K.moved hW.alike hF.2.2.2.2.2.1, hD.weaken (fun _ _ _ _ => trivial), jn_warm hW hF.2.2.2.2.2.2.2.2.2.2.2⟩⟩ rfl hn hl.1 hst (lv_room hW) hd ⟨hF.2.2.2.2.2.2.2.2.2.1, hF.2.2.2.2.2.2.2.2.2.2.1⟩) hS (fun q _ h => jq_free hD hS hF.2.2.2.2.2.2.2.2.1 q h) (jq_free hD hS hF.2.2.2.2.2.2.2.2.1) (fun u t H1 locs1 ht hvm hp hB hz hk hS1 => by exact k H1 locs1 ls (ht ▸ hB.1) (hB.2.2.weaken (fun _ _ _ h => jq_free hD hS hF.2.2.2.2.2.2.2.2.1 _ h)) hS1 hl)
theorem jq_cMV (hF : jF D R nL X cc own Ts tys ret) {y : MethodName} {ws' wsT : List Cond} {rm' : Room} {idx maxL' n : Nat} {bytes : ByteArray} {rt : Option FieldType} {As rest : List Value} {host : String}  (hM : jV l y wsT rm' D tys As wl wl2 ) (hG : GoodIn Ts wsT) (hlk : Cond.methodLinkNest own idx y host ∈ jNest) (hini : Cond.initialized y.cls ∈ Ts) (hstt : Cond.static y ∈ Ts) (hw : wsT = Cond.code y bytes maxL' rt :: ws') (hrc : rm'.cells = 0) (hrs : rm'.slots = 0) (hdd : y.cls ≠ "java/lang/invoke/MethodHandle" ∧ y.cls ≠ "java/lang/invoke/VarHandle" ∧ (parseMethodDescriptor y.desc).map (fun d => d.parameters.length) = some n) (hR : rm'.frames + 1 ≤ R.frames ∧ 8 + (maxL' + 11) + rm'.locals ≤ R.locals) (hn : As.length = n) (hst : st = As.reverse ++ rest) (hW : (rest.map fun v => v.category).sum ≤ 8) (hd : decode cc pc = .ok (.invokestatic idx, 3)) (k : jJ l D R nL X wl2 (pc + 3) L (rest)) : jJ l D R nL X wl pc L st :=
  fun H locs ls hP hD hS hl => va_callv (va_runSN (As := As) (rest := rest) ⟨hF.1, hF.2.1, hF.2.2.1, hF.2.2.2.1, hF.2.2.2.2.1⟩ (hM H.size) ⟨va_cnB n hF.2.2.2.2.1 hG hw hrc hrs (hF.2.2.2.2.2.2.2.2.2.2.2 _ hlk) (hF.2.2.2.2.1 _ hini) hdd hR, hF.2.2.2.2.1 _ hstt, trivial⟩ ⟨jq_blind, fun U hU hW => ⟨rfl, by rw [hU], by rw [hU]; exact hP, va_K.moved hW.alike hF.2.2.2.2.2.1, hD.weaken (fun _ _ _ _ => trivial), jn_warm hW hF.2.2.2.2.2.2.2.2.2.2.2⟩⟩ rfl hn hl.1 hst (lv_room hW) hd ⟨hF.2.2.2.2.2.2.2.2.2.1, hF.2.2.2.2.2.2.2.2.2.2.1⟩) hS (fun q _ h => jq_free hD hS hF.2.2.2.2.2.2.2.2.1 q h) (jq_free hD hS hF.2.2.2.2.2.2.2.2.1) (fun u t H1 locs1 ht hvm hp hB hz hk hS1 => by exact k H1 locs1 ls (ht ▸ hB.1) (hB.2.2.weaken (fun _ _ _ h => jq_free hD hS hF.2.2.2.2.2.2.2.2.1 _ h)) hS1 hl)
end JC
end
section
/-! the states and the worlds -/
abbrev jS : Type := Nat → Nat → Int32
def sF (σ : jS) (k : Nat) (f : Nat → Int32) : jS := fun j => if j = k then f else σ j
def sU (σ : jS) (k i : Nat) (v : Int32) : jS := sF σ k (upd (σ k) i v)
def bI (b : Bool) : Int32 := if b = true then 1 else 0
def forN (f : Nat → jS → jS) (σ : jS) : Nat → jS
  | 0 => σ
  | n + 1 => f n (forN f σ n)
theorem bI_t : bI true = 1 := rfl
theorem bI_f : bI false = 0 := rfl
theorem bI_nar (b : Bool) : vp_nar .boolean (bI b) = bI b := by cases b <;> rfl
theorem bI_nw (b : Bool) : narrow .boolean (.int (bI b)) = .int (bI b) := by cases b <;> rfl
theorem bI_0 {b : Bool} : bI b = 0 ↔ b = false := by cases b <;> decide
theorem sF_eq (σ : jS) (k : Nat) (f : Nat → Int32) : sF σ k f k = f := if_pos rfl
theorem sF_ne (σ : jS) {k j : Nat} (f : Nat → Int32) (h : j ≠ k) : sF σ k f j = σ j := if_neg h
theorem sU_eq (σ : jS) (k i : Nat) (v : Int32) (j : Nat) : sU σ k i v k j = if j = i then v else σ k j := by rw [sU, sF_eq]; rfl
theorem sU_ne (σ : jS) {k j : Nat} (i : Nat) (v : Int32) (h : j ≠ k) : sU σ k i v j = σ j := if_neg h
abbrev jTys (cI cZ : ClassId) : List (ClassId × FieldType) := [(cI, .int), (cZ, .boolean)]
theorem loop_up {P : Nat → Prop} {N : Nat} (h : ∀ i, i ≤ N → (i < N → P (i + 1)) → P i) : ∀ i, i ≤ N → P i := by
  have key : ∀ k i, i ≤ N → N - i = k → P i := by
    intro k
    induction k with
    | zero => exact fun i hi hk => h i hi (fun hlt => absurd hlt (by omega))
    | succ k ih => exact fun i hi hk => h i hi (fun hlt => ih (i + 1) (by omega) (by omega))
  exact fun i hi => key (N - i) i hi rfl
def wC (a : Nat → Nat) (cI cZ : ClassId) (σ : jS) : va_W := [(a 0, .inr (0, [.int (σ 0 0), .ref (a 1), .ref (a 2), .ref (a 3), .ref (a 4), .ref (a 5), .int (σ 0 1)])),
  (a 1, .inr (1, [.int (σ 1 0), .ref (a 6), .int (σ 1 1), .ref (a 7), .ref (a 8), .ref (a 9), .int (σ 1 2), .ref (a 10), .ref (a 11), .int (σ 1 3), .ref (a 12), .ref (a 13), .ref (a 14)])),
  (a 2, .inr (2, [.ref (a 15), .ref (a 16), .ref (a 17)])),
  (a 3, .inr (3, [.ref (a 1), .int (σ 3 0), .int (σ 3 1), .int (σ 3 2), .ref (a 18), .ref (a 19), .ref (a 20), .ref (a 21), .ref (a 22), .ref (a 23), .ref (a 24), .ref (a 25), .ref (a 26), .ref (a 27), .ref (a 28), .ref (a 29), .ref (a 30)])),
  (a 4, .inr (4, [.ref (a 31), .ref (a 32)])),
  (a 5, .inr (5, [.ref (a 1), .ref (a 2), .ref (a 3), .ref (a 4), .ref (a 33), .ref (a 34), .int (σ 5 0), .int (σ 5 1), .int (σ 5 2), .int (σ 5 3), .int (σ 5 4), .int (σ 5 5)])),
  (a 6, .inl (cI, 6, .inl (σ 6))),
  (a 7, .inl (cI, 10, .inl (σ 7))),
  (a 8, .inl (cI, 10, .inl (σ 8))),
  (a 9, .inl (cZ, 10, .inl (σ 9))),
  (a 10, .inl (cI, 6, .inl (σ 10))),
  (a 11, .inl (cI, 6, .inl (σ 11))),
  (a 12, .inl (cI, 24, .inl (σ 12))),
  (a 13, .inl (cI, 24, .inl (σ 13))),
  (a 14, .inl (cI, 24, .inl (σ 14))),
  (a 15, .inl (cI, 24, .inl (σ 15))),
  (a 16, .inl (cI, 24, .inl (σ 16))),
  (a 17, .inl (cZ, 24, .inl (σ 17))),
  (a 18, .inl (cI, 144, .inl (σ 18))),
  (a 19, .inl (cZ, 24, .inl (σ 19))),
  (a 20, .inl (cI, 144, .inl (σ 20))),
  (a 21, .inl (cZ, 24, .inl (σ 21))),
  (a 22, .inl (cI, 6, .inl (σ 22))),
  (a 23, .inl (cI, 6, .inl (σ 23))),
  (a 24, .inl (cI, 6, .inl (σ 24))),
  (a 25, .inl (cI, 24, .inl (σ 25))),
  (a 26, .inl (cI, 24, .inl (σ 26))),
  (a 27, .inl (cI, 24, .inl (σ 27))),
  (a 28, .inl (cI, 6, .inl (σ 28))),
  (a 29, .inl (cZ, 6, .inl (σ 29))),
  (a 30, .inl (cZ, 6, .inl (σ 30))),
  (a 31, .inl (cI, 168, .inl (σ 31))),
  (a 32, .inl (cI, 168, .inl (σ 32))),
  (a 33, .inl (cI, 61, .inl (σ 33))),
  (a 34, .inl (cI, 61, .inl (σ 34)))]
section WC
variable {l : Launch} {D : va_G} {R : Room} {nL : Nat} {X : jX} {cc : ByteArray} {own : String} {cw : Cond} {cI cZ : ClassId} {ret : Option FieldType} {a : Nat → Nat} {σ : jS} {pc : Nat} {L : List (Nat × Value)} {st : List Value}
theorem Cw_6 (f : Nat → Int32) : (wC a cI cZ σ).set 6 (a 6, .inl (cI, 6, .inl f)) = wC a cI cZ (sF σ 6 f) := rfl
theorem Cl_6 (hF : jF D R nL X cc own (cw :: jG) (jTys cI cZ) ret) {i : Nat} (hi : i < 6) (hd : decode cc pc = .ok (.iaload, 1)) (k : jJ l D R nL X (wC a cI cZ σ) (pc + 1) L (.int (σ 6 i) :: st)) : jJ l D R nL X (wC a cI cZ σ) pc L (.int (nI i) :: .ref (a 6) :: st) :=
  jq_ialdN hF 6 0 rfl rfl (by decide) hi hd k
theorem CL_6 (hF : jF D R nL X cc own (cw :: jG) (jTys cI cZ) ret) {i : Int32} (hi : vp_in i 6) (hd : decode cc pc = .ok (.iaload, 1)) (k : jJ l D R nL X (wC a cI cZ σ) (pc + 1) L (.int (σ 6 i.toNatClampNeg) :: st)) : jJ l D R nL X (wC a cI cZ σ) pc L (.int i :: .ref (a 6) :: st) :=
  jq_iald hF 6 0 rfl rfl hi hd k
theorem Cs_6 (hF : jF D R nL X cc own (cw :: jG) (jTys cI cZ) ret) {i : Nat} {x : Int32} (hi : i < 6) (hd : decode cc pc = .ok (.iastore, 1)) (k : jJ l D R nL X (wC a cI cZ (sU σ 6 i x)) (pc + 1) L st) : jJ l D R nL X (wC a cI cZ σ) pc L (.int x :: .int (nI i) :: .ref (a 6) :: st) :=
  jq_iastN hF 6 0 _ rfl rfl (by decide) hi rfl hd k
theorem CS_6 (hF : jF D R nL X cc own (cw :: jG) (jTys cI cZ) ret) {i x : Int32} (hi : vp_in i 6) (hd : decode cc pc = .ok (.iastore, 1)) (k : jJ l D R nL X (wC a cI cZ (sU σ 6 i.toNatClampNeg x)) (pc + 1) L st) : jJ l D R nL X (wC a cI cZ σ) pc L (.int x :: .int i :: .ref (a 6) :: st) :=
  jq_iast hF 6 0 _ rfl rfl hi rfl hd k
theorem Cw_7 (f : Nat → Int32) : (wC a cI cZ σ).set 7 (a 7, .inl (cI, 10, .inl f)) = wC a cI cZ (sF σ 7 f) := rfl
theorem Cl_7 (hF : jF D R nL X cc own (cw :: jG) (jTys cI cZ) ret) {i : Nat} (hi : i < 10) (hd : decode cc pc = .ok (.iaload, 1)) (k : jJ l D R nL X (wC a cI cZ σ) (pc + 1) L (.int (σ 7 i) :: st)) : jJ l D R nL X (wC a cI cZ σ) pc L (.int (nI i) :: .ref (a 7) :: st) :=
  jq_ialdN hF 7 0 rfl rfl (by decide) hi hd k
theorem CL_7 (hF : jF D R nL X cc own (cw :: jG) (jTys cI cZ) ret) {i : Int32} (hi : vp_in i 10) (hd : decode cc pc = .ok (.iaload, 1)) (k : jJ l D R nL X (wC a cI cZ σ) (pc + 1) L (.int (σ 7 i.toNatClampNeg) :: st)) : jJ l D R nL X (wC a cI cZ σ) pc L (.int i :: .ref (a 7) :: st) :=
  jq_iald hF 7 0 rfl rfl hi hd k
theorem Cs_7 (hF : jF D R nL X cc own (cw :: jG) (jTys cI cZ) ret) {i : Nat} {x : Int32} (hi : i < 10) (hd : decode cc pc = .ok (.iastore, 1)) (k : jJ l D R nL X (wC a cI cZ (sU σ 7 i x)) (pc + 1) L st) : jJ l D R nL X (wC a cI cZ σ) pc L (.int x :: .int (nI i) :: .ref (a 7) :: st) :=
  jq_iastN hF 7 0 _ rfl rfl (by decide) hi rfl hd k
theorem CS_7 (hF : jF D R nL X cc own (cw :: jG) (jTys cI cZ) ret) {i x : Int32} (hi : vp_in i 10) (hd : decode cc pc = .ok (.iastore, 1)) (k : jJ l D R nL X (wC a cI cZ (sU σ 7 i.toNatClampNeg x)) (pc + 1) L st) : jJ l D R nL X (wC a cI cZ σ) pc L (.int x :: .int i :: .ref (a 7) :: st) :=
  jq_iast hF 7 0 _ rfl rfl hi rfl hd k
theorem Cw_8 (f : Nat → Int32) : (wC a cI cZ σ).set 8 (a 8, .inl (cI, 10, .inl f)) = wC a cI cZ (sF σ 8 f) := rfl
theorem Cl_8 (hF : jF D R nL X cc own (cw :: jG) (jTys cI cZ) ret) {i : Nat} (hi : i < 10) (hd : decode cc pc = .ok (.iaload, 1)) (k : jJ l D R nL X (wC a cI cZ σ) (pc + 1) L (.int (σ 8 i) :: st)) : jJ l D R nL X (wC a cI cZ σ) pc L (.int (nI i) :: .ref (a 8) :: st) :=
  jq_ialdN hF 8 0 rfl rfl (by decide) hi hd k
theorem CL_8 (hF : jF D R nL X cc own (cw :: jG) (jTys cI cZ) ret) {i : Int32} (hi : vp_in i 10) (hd : decode cc pc = .ok (.iaload, 1)) (k : jJ l D R nL X (wC a cI cZ σ) (pc + 1) L (.int (σ 8 i.toNatClampNeg) :: st)) : jJ l D R nL X (wC a cI cZ σ) pc L (.int i :: .ref (a 8) :: st) :=
  jq_iald hF 8 0 rfl rfl hi hd k
theorem Cs_8 (hF : jF D R nL X cc own (cw :: jG) (jTys cI cZ) ret) {i : Nat} {x : Int32} (hi : i < 10) (hd : decode cc pc = .ok (.iastore, 1)) (k : jJ l D R nL X (wC a cI cZ (sU σ 8 i x)) (pc + 1) L st) : jJ l D R nL X (wC a cI cZ σ) pc L (.int x :: .int (nI i) :: .ref (a 8) :: st) :=
  jq_iastN hF 8 0 _ rfl rfl (by decide) hi rfl hd k
theorem CS_8 (hF : jF D R nL X cc own (cw :: jG) (jTys cI cZ) ret) {i x : Int32} (hi : vp_in i 10) (hd : decode cc pc = .ok (.iastore, 1)) (k : jJ l D R nL X (wC a cI cZ (sU σ 8 i.toNatClampNeg x)) (pc + 1) L st) : jJ l D R nL X (wC a cI cZ σ) pc L (.int x :: .int i :: .ref (a 8) :: st) :=
  jq_iast hF 8 0 _ rfl rfl hi rfl hd k
theorem Cw_9 (f : Nat → Int32) : (wC a cI cZ σ).set 9 (a 9, .inl (cZ, 10, .inl f)) = wC a cI cZ (sF σ 9 f) := rfl
theorem Cl_9 (hF : jF D R nL X cc own (cw :: jG) (jTys cI cZ) ret) {i : Nat} (hi : i < 10) (hd : decode cc pc = .ok (.baload, 1)) (k : jJ l D R nL X (wC a cI cZ σ) (pc + 1) L (.int (σ 9 i) :: st)) : jJ l D R nL X (wC a cI cZ σ) pc L (.int (nI i) :: .ref (a 9) :: st) :=
  jq_zaldN hF 9 1 rfl rfl (by decide) hi hd k
theorem CL_9 (hF : jF D R nL X cc own (cw :: jG) (jTys cI cZ) ret) {i : Int32} (hi : vp_in i 10) (hd : decode cc pc = .ok (.baload, 1)) (k : jJ l D R nL X (wC a cI cZ σ) (pc + 1) L (.int (σ 9 i.toNatClampNeg) :: st)) : jJ l D R nL X (wC a cI cZ σ) pc L (.int i :: .ref (a 9) :: st) :=
  jq_zald hF 9 1 rfl rfl hi hd k
theorem Cs_9 (hF : jF D R nL X cc own (cw :: jG) (jTys cI cZ) ret) {i : Nat} {x : Int32} (hi : i < 10) (hx : vp_nar .boolean x = x) (hd : decode cc pc = .ok (.bastore, 1)) (k : jJ l D R nL X (wC a cI cZ (sU σ 9 i x)) (pc + 1) L st) : jJ l D R nL X (wC a cI cZ σ) pc L (.int x :: .int (nI i) :: .ref (a 9) :: st) :=
  jq_zastN hF 9 1 _ rfl rfl (by decide) hi (by rw [hx]; rfl) hd k
theorem CS_9 (hF : jF D R nL X cc own (cw :: jG) (jTys cI cZ) ret) {i x : Int32} (hi : vp_in i 10) (hx : vp_nar .boolean x = x) (hd : decode cc pc = .ok (.bastore, 1)) (k : jJ l D R nL X (wC a cI cZ (sU σ 9 i.toNatClampNeg x)) (pc + 1) L st) : jJ l D R nL X (wC a cI cZ σ) pc L (.int x :: .int i :: .ref (a 9) :: st) :=
  jq_zast hF 9 1 _ rfl rfl hi (by rw [hx]; rfl) hd k
theorem Cw_10 (f : Nat → Int32) : (wC a cI cZ σ).set 10 (a 10, .inl (cI, 6, .inl f)) = wC a cI cZ (sF σ 10 f) := rfl
theorem Cl_10 (hF : jF D R nL X cc own (cw :: jG) (jTys cI cZ) ret) {i : Nat} (hi : i < 6) (hd : decode cc pc = .ok (.iaload, 1)) (k : jJ l D R nL X (wC a cI cZ σ) (pc + 1) L (.int (σ 10 i) :: st)) : jJ l D R nL X (wC a cI cZ σ) pc L (.int (nI i) :: .ref (a 10) :: st) :=
  jq_ialdN hF 10 0 rfl rfl (by decide) hi hd k
theorem CL_10 (hF : jF D R nL X cc own (cw :: jG) (jTys cI cZ) ret) {i : Int32} (hi : vp_in i 6) (hd : decode cc pc = .ok (.iaload, 1)) (k : jJ l D R nL X (wC a cI cZ σ) (pc + 1) L (.int (σ 10 i.toNatClampNeg) :: st)) : jJ l D R nL X (wC a cI cZ σ) pc L (.int i :: .ref (a 10) :: st) :=
  jq_iald hF 10 0 rfl rfl hi hd k
theorem Cs_10 (hF : jF D R nL X cc own (cw :: jG) (jTys cI cZ) ret) {i : Nat} {x : Int32} (hi : i < 6) (hd : decode cc pc = .ok (.iastore, 1)) (k : jJ l D R nL X (wC a cI cZ (sU σ 10 i x)) (pc + 1) L st) : jJ l D R nL X (wC a cI cZ σ) pc L (.int x :: .int (nI i) :: .ref (a 10) :: st) :=
  jq_iastN hF 10 0 _ rfl rfl (by decide) hi rfl hd k
theorem CS_10 (hF : jF D R nL X cc own (cw :: jG) (jTys cI cZ) ret) {i x : Int32} (hi : vp_in i 6) (hd : decode cc pc = .ok (.iastore, 1)) (k : jJ l D R nL X (wC a cI cZ (sU σ 10 i.toNatClampNeg x)) (pc + 1) L st) : jJ l D R nL X (wC a cI cZ σ) pc L (.int x :: .int i :: .ref (a 10) :: st) :=
  jq_iast hF 10 0 _ rfl rfl hi rfl hd k
theorem Cw_11 (f : Nat → Int32) : (wC a cI cZ σ).set 11 (a 11, .inl (cI, 6, .inl f)) = wC a cI cZ (sF σ 11 f) := rfl
theorem Cl_11 (hF : jF D R nL X cc own (cw :: jG) (jTys cI cZ) ret) {i : Nat} (hi : i < 6) (hd : decode cc pc = .ok (.iaload, 1)) (k : jJ l D R nL X (wC a cI cZ σ) (pc + 1) L (.int (σ 11 i) :: st)) : jJ l D R nL X (wC a cI cZ σ) pc L (.int (nI i) :: .ref (a 11) :: st) :=
  jq_ialdN hF 11 0 rfl rfl (by decide) hi hd k
theorem CL_11 (hF : jF D R nL X cc own (cw :: jG) (jTys cI cZ) ret) {i : Int32} (hi : vp_in i 6) (hd : decode cc pc = .ok (.iaload, 1)) (k : jJ l D R nL X (wC a cI cZ σ) (pc + 1) L (.int (σ 11 i.toNatClampNeg) :: st)) : jJ l D R nL X (wC a cI cZ σ) pc L (.int i :: .ref (a 11) :: st) :=
  jq_iald hF 11 0 rfl rfl hi hd k
theorem Cs_11 (hF : jF D R nL X cc own (cw :: jG) (jTys cI cZ) ret) {i : Nat} {x : Int32} (hi : i < 6) (hd : decode cc pc = .ok (.iastore, 1)) (k : jJ l D R nL X (wC a cI cZ (sU σ 11 i x)) (pc + 1) L st) : jJ l D R nL X (wC a cI cZ σ) pc L (.int x :: .int (nI i) :: .ref (a 11) :: st) :=
  jq_iastN hF 11 0 _ rfl rfl (by decide) hi rfl hd k
theorem CS_11 (hF : jF D R nL X cc own (cw :: jG) (jTys cI cZ) ret) {i x : Int32} (hi : vp_in i 6) (hd : decode cc pc = .ok (.iastore, 1)) (k : jJ l D R nL X (wC a cI cZ (sU σ 11 i.toNatClampNeg x)) (pc + 1) L st) : jJ l D R nL X (wC a cI cZ σ) pc L (.int x :: .int i :: .ref (a 11) :: st) :=
  jq_iast hF 11 0 _ rfl rfl hi rfl hd k
theorem Cw_12 (f : Nat → Int32) : (wC a cI cZ σ).set 12 (a 12, .inl (cI, 24, .inl f)) = wC a cI cZ (sF σ 12 f) := rfl
theorem Cl_12 (hF : jF D R nL X cc own (cw :: jG) (jTys cI cZ) ret) {i : Nat} (hi : i < 24) (hd : decode cc pc = .ok (.iaload, 1)) (k : jJ l D R nL X (wC a cI cZ σ) (pc + 1) L (.int (σ 12 i) :: st)) : jJ l D R nL X (wC a cI cZ σ) pc L (.int (nI i) :: .ref (a 12) :: st) :=
  jq_ialdN hF 12 0 rfl rfl (by decide) hi hd k
theorem CL_12 (hF : jF D R nL X cc own (cw :: jG) (jTys cI cZ) ret) {i : Int32} (hi : vp_in i 24) (hd : decode cc pc = .ok (.iaload, 1)) (k : jJ l D R nL X (wC a cI cZ σ) (pc + 1) L (.int (σ 12 i.toNatClampNeg) :: st)) : jJ l D R nL X (wC a cI cZ σ) pc L (.int i :: .ref (a 12) :: st) :=
  jq_iald hF 12 0 rfl rfl hi hd k
theorem Cs_12 (hF : jF D R nL X cc own (cw :: jG) (jTys cI cZ) ret) {i : Nat} {x : Int32} (hi : i < 24) (hd : decode cc pc = .ok (.iastore, 1)) (k : jJ l D R nL X (wC a cI cZ (sU σ 12 i x)) (pc + 1) L st) : jJ l D R nL X (wC a cI cZ σ) pc L (.int x :: .int (nI i) :: .ref (a 12) :: st) :=
  jq_iastN hF 12 0 _ rfl rfl (by decide) hi rfl hd k
theorem CS_12 (hF : jF D R nL X cc own (cw :: jG) (jTys cI cZ) ret) {i x : Int32} (hi : vp_in i 24) (hd : decode cc pc = .ok (.iastore, 1)) (k : jJ l D R nL X (wC a cI cZ (sU σ 12 i.toNatClampNeg x)) (pc + 1) L st) : jJ l D R nL X (wC a cI cZ σ) pc L (.int x :: .int i :: .ref (a 12) :: st) :=
  jq_iast hF 12 0 _ rfl rfl hi rfl hd k
theorem Cw_13 (f : Nat → Int32) : (wC a cI cZ σ).set 13 (a 13, .inl (cI, 24, .inl f)) = wC a cI cZ (sF σ 13 f) := rfl
theorem Cl_13 (hF : jF D R nL X cc own (cw :: jG) (jTys cI cZ) ret) {i : Nat} (hi : i < 24) (hd : decode cc pc = .ok (.iaload, 1)) (k : jJ l D R nL X (wC a cI cZ σ) (pc + 1) L (.int (σ 13 i) :: st)) : jJ l D R nL X (wC a cI cZ σ) pc L (.int (nI i) :: .ref (a 13) :: st) :=
  jq_ialdN hF 13 0 rfl rfl (by decide) hi hd k
theorem CL_13 (hF : jF D R nL X cc own (cw :: jG) (jTys cI cZ) ret) {i : Int32} (hi : vp_in i 24) (hd : decode cc pc = .ok (.iaload, 1)) (k : jJ l D R nL X (wC a cI cZ σ) (pc + 1) L (.int (σ 13 i.toNatClampNeg) :: st)) : jJ l D R nL X (wC a cI cZ σ) pc L (.int i :: .ref (a 13) :: st) :=
  jq_iald hF 13 0 rfl rfl hi hd k
theorem Cs_13 (hF : jF D R nL X cc own (cw :: jG) (jTys cI cZ) ret) {i : Nat} {x : Int32} (hi : i < 24) (hd : decode cc pc = .ok (.iastore, 1)) (k : jJ l D R nL X (wC a cI cZ (sU σ 13 i x)) (pc + 1) L st) : jJ l D R nL X (wC a cI cZ σ) pc L (.int x :: .int (nI i) :: .ref (a 13) :: st) :=
  jq_iastN hF 13 0 _ rfl rfl (by decide) hi rfl hd k
theorem CS_13 (hF : jF D R nL X cc own (cw :: jG) (jTys cI cZ) ret) {i x : Int32} (hi : vp_in i 24) (hd : decode cc pc = .ok (.iastore, 1)) (k : jJ l D R nL X (wC a cI cZ (sU σ 13 i.toNatClampNeg x)) (pc + 1) L st) : jJ l D R nL X (wC a cI cZ σ) pc L (.int x :: .int i :: .ref (a 13) :: st) :=
  jq_iast hF 13 0 _ rfl rfl hi rfl hd k
theorem Cw_14 (f : Nat → Int32) : (wC a cI cZ σ).set 14 (a 14, .inl (cI, 24, .inl f)) = wC a cI cZ (sF σ 14 f) := rfl
theorem Cl_14 (hF : jF D R nL X cc own (cw :: jG) (jTys cI cZ) ret) {i : Nat} (hi : i < 24) (hd : decode cc pc = .ok (.iaload, 1)) (k : jJ l D R nL X (wC a cI cZ σ) (pc + 1) L (.int (σ 14 i) :: st)) : jJ l D R nL X (wC a cI cZ σ) pc L (.int (nI i) :: .ref (a 14) :: st) :=
  jq_ialdN hF 14 0 rfl rfl (by decide) hi hd k
theorem CL_14 (hF : jF D R nL X cc own (cw :: jG) (jTys cI cZ) ret) {i : Int32} (hi : vp_in i 24) (hd : decode cc pc = .ok (.iaload, 1)) (k : jJ l D R nL X (wC a cI cZ σ) (pc + 1) L (.int (σ 14 i.toNatClampNeg) :: st)) : jJ l D R nL X (wC a cI cZ σ) pc L (.int i :: .ref (a 14) :: st) :=
  jq_iald hF 14 0 rfl rfl hi hd k
theorem Cs_14 (hF : jF D R nL X cc own (cw :: jG) (jTys cI cZ) ret) {i : Nat} {x : Int32} (hi : i < 24) (hd : decode cc pc = .ok (.iastore, 1)) (k : jJ l D R nL X (wC a cI cZ (sU σ 14 i x)) (pc + 1) L st) : jJ l D R nL X (wC a cI cZ σ) pc L (.int x :: .int (nI i) :: .ref (a 14) :: st) :=
  jq_iastN hF 14 0 _ rfl rfl (by decide) hi rfl hd k
theorem CS_14 (hF : jF D R nL X cc own (cw :: jG) (jTys cI cZ) ret) {i x : Int32} (hi : vp_in i 24) (hd : decode cc pc = .ok (.iastore, 1)) (k : jJ l D R nL X (wC a cI cZ (sU σ 14 i.toNatClampNeg x)) (pc + 1) L st) : jJ l D R nL X (wC a cI cZ σ) pc L (.int x :: .int i :: .ref (a 14) :: st) :=
  jq_iast hF 14 0 _ rfl rfl hi rfl hd k
theorem Cw_15 (f : Nat → Int32) : (wC a cI cZ σ).set 15 (a 15, .inl (cI, 24, .inl f)) = wC a cI cZ (sF σ 15 f) := rfl
theorem Cl_15 (hF : jF D R nL X cc own (cw :: jG) (jTys cI cZ) ret) {i : Nat} (hi : i < 24) (hd : decode cc pc = .ok (.iaload, 1)) (k : jJ l D R nL X (wC a cI cZ σ) (pc + 1) L (.int (σ 15 i) :: st)) : jJ l D R nL X (wC a cI cZ σ) pc L (.int (nI i) :: .ref (a 15) :: st) :=
  jq_ialdN hF 15 0 rfl rfl (by decide) hi hd k
theorem CL_15 (hF : jF D R nL X cc own (cw :: jG) (jTys cI cZ) ret) {i : Int32} (hi : vp_in i 24) (hd : decode cc pc = .ok (.iaload, 1)) (k : jJ l D R nL X (wC a cI cZ σ) (pc + 1) L (.int (σ 15 i.toNatClampNeg) :: st)) : jJ l D R nL X (wC a cI cZ σ) pc L (.int i :: .ref (a 15) :: st) :=
  jq_iald hF 15 0 rfl rfl hi hd k
theorem Cs_15 (hF : jF D R nL X cc own (cw :: jG) (jTys cI cZ) ret) {i : Nat} {x : Int32} (hi : i < 24) (hd : decode cc pc = .ok (.iastore, 1)) (k : jJ l D R nL X (wC a cI cZ (sU σ 15 i x)) (pc + 1) L st) : jJ l D R nL X (wC a cI cZ σ) pc L (.int x :: .int (nI i) :: .ref (a 15) :: st) :=
  jq_iastN hF 15 0 _ rfl rfl (by decide) hi rfl hd k
theorem CS_15 (hF : jF D R nL X cc own (cw :: jG) (jTys cI cZ) ret) {i x : Int32} (hi : vp_in i 24) (hd : decode cc pc = .ok (.iastore, 1)) (k : jJ l D R nL X (wC a cI cZ (sU σ 15 i.toNatClampNeg x)) (pc + 1) L st) : jJ l D R nL X (wC a cI cZ σ) pc L (.int x :: .int i :: .ref (a 15) :: st) :=
  jq_iast hF 15 0 _ rfl rfl hi rfl hd k
theorem Cw_16 (f : Nat → Int32) : (wC a cI cZ σ).set 16 (a 16, .inl (cI, 24, .inl f)) = wC a cI cZ (sF σ 16 f) := rfl
theorem Cl_16 (hF : jF D R nL X cc own (cw :: jG) (jTys cI cZ) ret) {i : Nat} (hi : i < 24) (hd : decode cc pc = .ok (.iaload, 1)) (k : jJ l D R nL X (wC a cI cZ σ) (pc + 1) L (.int (σ 16 i) :: st)) : jJ l D R nL X (wC a cI cZ σ) pc L (.int (nI i) :: .ref (a 16) :: st) :=
  jq_ialdN hF 16 0 rfl rfl (by decide) hi hd k
theorem CL_16 (hF : jF D R nL X cc own (cw :: jG) (jTys cI cZ) ret) {i : Int32} (hi : vp_in i 24) (hd : decode cc pc = .ok (.iaload, 1)) (k : jJ l D R nL X (wC a cI cZ σ) (pc + 1) L (.int (σ 16 i.toNatClampNeg) :: st)) : jJ l D R nL X (wC a cI cZ σ) pc L (.int i :: .ref (a 16) :: st) :=
  jq_iald hF 16 0 rfl rfl hi hd k
theorem Cs_16 (hF : jF D R nL X cc own (cw :: jG) (jTys cI cZ) ret) {i : Nat} {x : Int32} (hi : i < 24) (hd : decode cc pc = .ok (.iastore, 1)) (k : jJ l D R nL X (wC a cI cZ (sU σ 16 i x)) (pc + 1) L st) : jJ l D R nL X (wC a cI cZ σ) pc L (.int x :: .int (nI i) :: .ref (a 16) :: st) :=
  jq_iastN hF 16 0 _ rfl rfl (by decide) hi rfl hd k
theorem CS_16 (hF : jF D R nL X cc own (cw :: jG) (jTys cI cZ) ret) {i x : Int32} (hi : vp_in i 24) (hd : decode cc pc = .ok (.iastore, 1)) (k : jJ l D R nL X (wC a cI cZ (sU σ 16 i.toNatClampNeg x)) (pc + 1) L st) : jJ l D R nL X (wC a cI cZ σ) pc L (.int x :: .int i :: .ref (a 16) :: st) :=
  jq_iast hF 16 0 _ rfl rfl hi rfl hd k
theorem Cw_17 (f : Nat → Int32) : (wC a cI cZ σ).set 17 (a 17, .inl (cZ, 24, .inl f)) = wC a cI cZ (sF σ 17 f) := rfl
theorem Cl_17 (hF : jF D R nL X cc own (cw :: jG) (jTys cI cZ) ret) {i : Nat} (hi : i < 24) (hd : decode cc pc = .ok (.baload, 1)) (k : jJ l D R nL X (wC a cI cZ σ) (pc + 1) L (.int (σ 17 i) :: st)) : jJ l D R nL X (wC a cI cZ σ) pc L (.int (nI i) :: .ref (a 17) :: st) :=
  jq_zaldN hF 17 1 rfl rfl (by decide) hi hd k
theorem CL_17 (hF : jF D R nL X cc own (cw :: jG) (jTys cI cZ) ret) {i : Int32} (hi : vp_in i 24) (hd : decode cc pc = .ok (.baload, 1)) (k : jJ l D R nL X (wC a cI cZ σ) (pc + 1) L (.int (σ 17 i.toNatClampNeg) :: st)) : jJ l D R nL X (wC a cI cZ σ) pc L (.int i :: .ref (a 17) :: st) :=
  jq_zald hF 17 1 rfl rfl hi hd k
theorem Cs_17 (hF : jF D R nL X cc own (cw :: jG) (jTys cI cZ) ret) {i : Nat} {x : Int32} (hi : i < 24) (hx : vp_nar .boolean x = x) (hd : decode cc pc = .ok (.bastore, 1)) (k : jJ l D R nL X (wC a cI cZ (sU σ 17 i x)) (pc + 1) L st) : jJ l D R nL X (wC a cI cZ σ) pc L (.int x :: .int (nI i) :: .ref (a 17) :: st) :=
  jq_zastN hF 17 1 _ rfl rfl (by decide) hi (by rw [hx]; rfl) hd k
theorem CS_17 (hF : jF D R nL X cc own (cw :: jG) (jTys cI cZ) ret) {i x : Int32} (hi : vp_in i 24) (hx : vp_nar .boolean x = x) (hd : decode cc pc = .ok (.bastore, 1)) (k : jJ l D R nL X (wC a cI cZ (sU σ 17 i.toNatClampNeg x)) (pc + 1) L st) : jJ l D R nL X (wC a cI cZ σ) pc L (.int x :: .int i :: .ref (a 17) :: st) :=
  jq_zast hF 17 1 _ rfl rfl hi (by rw [hx]; rfl) hd k
theorem Cw_18 (f : Nat → Int32) : (wC a cI cZ σ).set 18 (a 18, .inl (cI, 144, .inl f)) = wC a cI cZ (sF σ 18 f) := rfl
theorem Cl_18 (hF : jF D R nL X cc own (cw :: jG) (jTys cI cZ) ret) {i : Nat} (hi : i < 144) (hd : decode cc pc = .ok (.iaload, 1)) (k : jJ l D R nL X (wC a cI cZ σ) (pc + 1) L (.int (σ 18 i) :: st)) : jJ l D R nL X (wC a cI cZ σ) pc L (.int (nI i) :: .ref (a 18) :: st) :=
  jq_ialdN hF 18 0 rfl rfl (by decide) hi hd k
theorem CL_18 (hF : jF D R nL X cc own (cw :: jG) (jTys cI cZ) ret) {i : Int32} (hi : vp_in i 144) (hd : decode cc pc = .ok (.iaload, 1)) (k : jJ l D R nL X (wC a cI cZ σ) (pc + 1) L (.int (σ 18 i.toNatClampNeg) :: st)) : jJ l D R nL X (wC a cI cZ σ) pc L (.int i :: .ref (a 18) :: st) :=
  jq_iald hF 18 0 rfl rfl hi hd k
theorem Cs_18 (hF : jF D R nL X cc own (cw :: jG) (jTys cI cZ) ret) {i : Nat} {x : Int32} (hi : i < 144) (hd : decode cc pc = .ok (.iastore, 1)) (k : jJ l D R nL X (wC a cI cZ (sU σ 18 i x)) (pc + 1) L st) : jJ l D R nL X (wC a cI cZ σ) pc L (.int x :: .int (nI i) :: .ref (a 18) :: st) :=
  jq_iastN hF 18 0 _ rfl rfl (by decide) hi rfl hd k
theorem CS_18 (hF : jF D R nL X cc own (cw :: jG) (jTys cI cZ) ret) {i x : Int32} (hi : vp_in i 144) (hd : decode cc pc = .ok (.iastore, 1)) (k : jJ l D R nL X (wC a cI cZ (sU σ 18 i.toNatClampNeg x)) (pc + 1) L st) : jJ l D R nL X (wC a cI cZ σ) pc L (.int x :: .int i :: .ref (a 18) :: st) :=
  jq_iast hF 18 0 _ rfl rfl hi rfl hd k
theorem Cw_19 (f : Nat → Int32) : (wC a cI cZ σ).set 19 (a 19, .inl (cZ, 24, .inl f)) = wC a cI cZ (sF σ 19 f) := rfl
theorem Cl_19 (hF : jF D R nL X cc own (cw :: jG) (jTys cI cZ) ret) {i : Nat} (hi : i < 24) (hd : decode cc pc = .ok (.baload, 1)) (k : jJ l D R nL X (wC a cI cZ σ) (pc + 1) L (.int (σ 19 i) :: st)) : jJ l D R nL X (wC a cI cZ σ) pc L (.int (nI i) :: .ref (a 19) :: st) :=
  jq_zaldN hF 19 1 rfl rfl (by decide) hi hd k
theorem CL_19 (hF : jF D R nL X cc own (cw :: jG) (jTys cI cZ) ret) {i : Int32} (hi : vp_in i 24) (hd : decode cc pc = .ok (.baload, 1)) (k : jJ l D R nL X (wC a cI cZ σ) (pc + 1) L (.int (σ 19 i.toNatClampNeg) :: st)) : jJ l D R nL X (wC a cI cZ σ) pc L (.int i :: .ref (a 19) :: st) :=
  jq_zald hF 19 1 rfl rfl hi hd k
theorem Cs_19 (hF : jF D R nL X cc own (cw :: jG) (jTys cI cZ) ret) {i : Nat} {x : Int32} (hi : i < 24) (hx : vp_nar .boolean x = x) (hd : decode cc pc = .ok (.bastore, 1)) (k : jJ l D R nL X (wC a cI cZ (sU σ 19 i x)) (pc + 1) L st) : jJ l D R nL X (wC a cI cZ σ) pc L (.int x :: .int (nI i) :: .ref (a 19) :: st) :=
  jq_zastN hF 19 1 _ rfl rfl (by decide) hi (by rw [hx]; rfl) hd k
theorem CS_19 (hF : jF D R nL X cc own (cw :: jG) (jTys cI cZ) ret) {i x : Int32} (hi : vp_in i 24) (hx : vp_nar .boolean x = x) (hd : decode cc pc = .ok (.bastore, 1)) (k : jJ l D R nL X (wC a cI cZ (sU σ 19 i.toNatClampNeg x)) (pc + 1) L st) : jJ l D R nL X (wC a cI cZ σ) pc L (.int x :: .int i :: .ref (a 19) :: st) :=
  jq_zast hF 19 1 _ rfl rfl hi (by rw [hx]; rfl) hd k
theorem Cw_20 (f : Nat → Int32) : (wC a cI cZ σ).set 20 (a 20, .inl (cI, 144, .inl f)) = wC a cI cZ (sF σ 20 f) := rfl
theorem Cl_20 (hF : jF D R nL X cc own (cw :: jG) (jTys cI cZ) ret) {i : Nat} (hi : i < 144) (hd : decode cc pc = .ok (.iaload, 1)) (k : jJ l D R nL X (wC a cI cZ σ) (pc + 1) L (.int (σ 20 i) :: st)) : jJ l D R nL X (wC a cI cZ σ) pc L (.int (nI i) :: .ref (a 20) :: st) :=
  jq_ialdN hF 20 0 rfl rfl (by decide) hi hd k
theorem CL_20 (hF : jF D R nL X cc own (cw :: jG) (jTys cI cZ) ret) {i : Int32} (hi : vp_in i 144) (hd : decode cc pc = .ok (.iaload, 1)) (k : jJ l D R nL X (wC a cI cZ σ) (pc + 1) L (.int (σ 20 i.toNatClampNeg) :: st)) : jJ l D R nL X (wC a cI cZ σ) pc L (.int i :: .ref (a 20) :: st) :=
  jq_iald hF 20 0 rfl rfl hi hd k
theorem Cs_20 (hF : jF D R nL X cc own (cw :: jG) (jTys cI cZ) ret) {i : Nat} {x : Int32} (hi : i < 144) (hd : decode cc pc = .ok (.iastore, 1)) (k : jJ l D R nL X (wC a cI cZ (sU σ 20 i x)) (pc + 1) L st) : jJ l D R nL X (wC a cI cZ σ) pc L (.int x :: .int (nI i) :: .ref (a 20) :: st) :=
  jq_iastN hF 20 0 _ rfl rfl (by decide) hi rfl hd k
theorem CS_20 (hF : jF D R nL X cc own (cw :: jG) (jTys cI cZ) ret) {i x : Int32} (hi : vp_in i 144) (hd : decode cc pc = .ok (.iastore, 1)) (k : jJ l D R nL X (wC a cI cZ (sU σ 20 i.toNatClampNeg x)) (pc + 1) L st) : jJ l D R nL X (wC a cI cZ σ) pc L (.int x :: .int i :: .ref (a 20) :: st) :=
  jq_iast hF 20 0 _ rfl rfl hi rfl hd k
theorem Cw_21 (f : Nat → Int32) : (wC a cI cZ σ).set 21 (a 21, .inl (cZ, 24, .inl f)) = wC a cI cZ (sF σ 21 f) := rfl
theorem Cl_21 (hF : jF D R nL X cc own (cw :: jG) (jTys cI cZ) ret) {i : Nat} (hi : i < 24) (hd : decode cc pc = .ok (.baload, 1)) (k : jJ l D R nL X (wC a cI cZ σ) (pc + 1) L (.int (σ 21 i) :: st)) : jJ l D R nL X (wC a cI cZ σ) pc L (.int (nI i) :: .ref (a 21) :: st) :=
  jq_zaldN hF 21 1 rfl rfl (by decide) hi hd k
theorem CL_21 (hF : jF D R nL X cc own (cw :: jG) (jTys cI cZ) ret) {i : Int32} (hi : vp_in i 24) (hd : decode cc pc = .ok (.baload, 1)) (k : jJ l D R nL X (wC a cI cZ σ) (pc + 1) L (.int (σ 21 i.toNatClampNeg) :: st)) : jJ l D R nL X (wC a cI cZ σ) pc L (.int i :: .ref (a 21) :: st) :=
  jq_zald hF 21 1 rfl rfl hi hd k
theorem Cs_21 (hF : jF D R nL X cc own (cw :: jG) (jTys cI cZ) ret) {i : Nat} {x : Int32} (hi : i < 24) (hx : vp_nar .boolean x = x) (hd : decode cc pc = .ok (.bastore, 1)) (k : jJ l D R nL X (wC a cI cZ (sU σ 21 i x)) (pc + 1) L st) : jJ l D R nL X (wC a cI cZ σ) pc L (.int x :: .int (nI i) :: .ref (a 21) :: st) :=
  jq_zastN hF 21 1 _ rfl rfl (by decide) hi (by rw [hx]; rfl) hd k
theorem CS_21 (hF : jF D R nL X cc own (cw :: jG) (jTys cI cZ) ret) {i x : Int32} (hi : vp_in i 24) (hx : vp_nar .boolean x = x) (hd : decode cc pc = .ok (.bastore, 1)) (k : jJ l D R nL X (wC a cI cZ (sU σ 21 i.toNatClampNeg x)) (pc + 1) L st) : jJ l D R nL X (wC a cI cZ σ) pc L (.int x :: .int i :: .ref (a 21) :: st) :=
  jq_zast hF 21 1 _ rfl rfl hi (by rw [hx]; rfl) hd k
theorem Cw_22 (f : Nat → Int32) : (wC a cI cZ σ).set 22 (a 22, .inl (cI, 6, .inl f)) = wC a cI cZ (sF σ 22 f) := rfl
theorem Cl_22 (hF : jF D R nL X cc own (cw :: jG) (jTys cI cZ) ret) {i : Nat} (hi : i < 6) (hd : decode cc pc = .ok (.iaload, 1)) (k : jJ l D R nL X (wC a cI cZ σ) (pc + 1) L (.int (σ 22 i) :: st)) : jJ l D R nL X (wC a cI cZ σ) pc L (.int (nI i) :: .ref (a 22) :: st) :=
  jq_ialdN hF 22 0 rfl rfl (by decide) hi hd k
theorem CL_22 (hF : jF D R nL X cc own (cw :: jG) (jTys cI cZ) ret) {i : Int32} (hi : vp_in i 6) (hd : decode cc pc = .ok (.iaload, 1)) (k : jJ l D R nL X (wC a cI cZ σ) (pc + 1) L (.int (σ 22 i.toNatClampNeg) :: st)) : jJ l D R nL X (wC a cI cZ σ) pc L (.int i :: .ref (a 22) :: st) :=
  jq_iald hF 22 0 rfl rfl hi hd k
theorem Cs_22 (hF : jF D R nL X cc own (cw :: jG) (jTys cI cZ) ret) {i : Nat} {x : Int32} (hi : i < 6) (hd : decode cc pc = .ok (.iastore, 1)) (k : jJ l D R nL X (wC a cI cZ (sU σ 22 i x)) (pc + 1) L st) : jJ l D R nL X (wC a cI cZ σ) pc L (.int x :: .int (nI i) :: .ref (a 22) :: st) :=
  jq_iastN hF 22 0 _ rfl rfl (by decide) hi rfl hd k
theorem CS_22 (hF : jF D R nL X cc own (cw :: jG) (jTys cI cZ) ret) {i x : Int32} (hi : vp_in i 6) (hd : decode cc pc = .ok (.iastore, 1)) (k : jJ l D R nL X (wC a cI cZ (sU σ 22 i.toNatClampNeg x)) (pc + 1) L st) : jJ l D R nL X (wC a cI cZ σ) pc L (.int x :: .int i :: .ref (a 22) :: st) :=
  jq_iast hF 22 0 _ rfl rfl hi rfl hd k
theorem Cw_23 (f : Nat → Int32) : (wC a cI cZ σ).set 23 (a 23, .inl (cI, 6, .inl f)) = wC a cI cZ (sF σ 23 f) := rfl
theorem Cl_23 (hF : jF D R nL X cc own (cw :: jG) (jTys cI cZ) ret) {i : Nat} (hi : i < 6) (hd : decode cc pc = .ok (.iaload, 1)) (k : jJ l D R nL X (wC a cI cZ σ) (pc + 1) L (.int (σ 23 i) :: st)) : jJ l D R nL X (wC a cI cZ σ) pc L (.int (nI i) :: .ref (a 23) :: st) :=
  jq_ialdN hF 23 0 rfl rfl (by decide) hi hd k
theorem CL_23 (hF : jF D R nL X cc own (cw :: jG) (jTys cI cZ) ret) {i : Int32} (hi : vp_in i 6) (hd : decode cc pc = .ok (.iaload, 1)) (k : jJ l D R nL X (wC a cI cZ σ) (pc + 1) L (.int (σ 23 i.toNatClampNeg) :: st)) : jJ l D R nL X (wC a cI cZ σ) pc L (.int i :: .ref (a 23) :: st) :=
  jq_iald hF 23 0 rfl rfl hi hd k
theorem Cs_23 (hF : jF D R nL X cc own (cw :: jG) (jTys cI cZ) ret) {i : Nat} {x : Int32} (hi : i < 6) (hd : decode cc pc = .ok (.iastore, 1)) (k : jJ l D R nL X (wC a cI cZ (sU σ 23 i x)) (pc + 1) L st) : jJ l D R nL X (wC a cI cZ σ) pc L (.int x :: .int (nI i) :: .ref (a 23) :: st) :=
  jq_iastN hF 23 0 _ rfl rfl (by decide) hi rfl hd k
theorem CS_23 (hF : jF D R nL X cc own (cw :: jG) (jTys cI cZ) ret) {i x : Int32} (hi : vp_in i 6) (hd : decode cc pc = .ok (.iastore, 1)) (k : jJ l D R nL X (wC a cI cZ (sU σ 23 i.toNatClampNeg x)) (pc + 1) L st) : jJ l D R nL X (wC a cI cZ σ) pc L (.int x :: .int i :: .ref (a 23) :: st) :=
  jq_iast hF 23 0 _ rfl rfl hi rfl hd k
theorem Cw_24 (f : Nat → Int32) : (wC a cI cZ σ).set 24 (a 24, .inl (cI, 6, .inl f)) = wC a cI cZ (sF σ 24 f) := rfl
theorem Cl_24 (hF : jF D R nL X cc own (cw :: jG) (jTys cI cZ) ret) {i : Nat} (hi : i < 6) (hd : decode cc pc = .ok (.iaload, 1)) (k : jJ l D R nL X (wC a cI cZ σ) (pc + 1) L (.int (σ 24 i) :: st)) : jJ l D R nL X (wC a cI cZ σ) pc L (.int (nI i) :: .ref (a 24) :: st) :=
  jq_ialdN hF 24 0 rfl rfl (by decide) hi hd k
theorem CL_24 (hF : jF D R nL X cc own (cw :: jG) (jTys cI cZ) ret) {i : Int32} (hi : vp_in i 6) (hd : decode cc pc = .ok (.iaload, 1)) (k : jJ l D R nL X (wC a cI cZ σ) (pc + 1) L (.int (σ 24 i.toNatClampNeg) :: st)) : jJ l D R nL X (wC a cI cZ σ) pc L (.int i :: .ref (a 24) :: st) :=
  jq_iald hF 24 0 rfl rfl hi hd k
theorem Cs_24 (hF : jF D R nL X cc own (cw :: jG) (jTys cI cZ) ret) {i : Nat} {x : Int32} (hi : i < 6) (hd : decode cc pc = .ok (.iastore, 1)) (k : jJ l D R nL X (wC a cI cZ (sU σ 24 i x)) (pc + 1) L st) : jJ l D R nL X (wC a cI cZ σ) pc L (.int x :: .int (nI i) :: .ref (a 24) :: st) :=
  jq_iastN hF 24 0 _ rfl rfl (by decide) hi rfl hd k
theorem CS_24 (hF : jF D R nL X cc own (cw :: jG) (jTys cI cZ) ret) {i x : Int32} (hi : vp_in i 6) (hd : decode cc pc = .ok (.iastore, 1)) (k : jJ l D R nL X (wC a cI cZ (sU σ 24 i.toNatClampNeg x)) (pc + 1) L st) : jJ l D R nL X (wC a cI cZ σ) pc L (.int x :: .int i :: .ref (a 24) :: st) :=
  jq_iast hF 24 0 _ rfl rfl hi rfl hd k
theorem Cw_25 (f : Nat → Int32) : (wC a cI cZ σ).set 25 (a 25, .inl (cI, 24, .inl f)) = wC a cI cZ (sF σ 25 f) := rfl
theorem Cl_25 (hF : jF D R nL X cc own (cw :: jG) (jTys cI cZ) ret) {i : Nat} (hi : i < 24) (hd : decode cc pc = .ok (.iaload, 1)) (k : jJ l D R nL X (wC a cI cZ σ) (pc + 1) L (.int (σ 25 i) :: st)) : jJ l D R nL X (wC a cI cZ σ) pc L (.int (nI i) :: .ref (a 25) :: st) :=
  jq_ialdN hF 25 0 rfl rfl (by decide) hi hd k
theorem CL_25 (hF : jF D R nL X cc own (cw :: jG) (jTys cI cZ) ret) {i : Int32} (hi : vp_in i 24) (hd : decode cc pc = .ok (.iaload, 1)) (k : jJ l D R nL X (wC a cI cZ σ) (pc + 1) L (.int (σ 25 i.toNatClampNeg) :: st)) : jJ l D R nL X (wC a cI cZ σ) pc L (.int i :: .ref (a 25) :: st) :=
  jq_iald hF 25 0 rfl rfl hi hd k
theorem Cs_25 (hF : jF D R nL X cc own (cw :: jG) (jTys cI cZ) ret) {i : Nat} {x : Int32} (hi : i < 24) (hd : decode cc pc = .ok (.iastore, 1)) (k : jJ l D R nL X (wC a cI cZ (sU σ 25 i x)) (pc + 1) L st) : jJ l D R nL X (wC a cI cZ σ) pc L (.int x :: .int (nI i) :: .ref (a 25) :: st) :=
  jq_iastN hF 25 0 _ rfl rfl (by decide) hi rfl hd k
theorem CS_25 (hF : jF D R nL X cc own (cw :: jG) (jTys cI cZ) ret) {i x : Int32} (hi : vp_in i 24) (hd : decode cc pc = .ok (.iastore, 1)) (k : jJ l D R nL X (wC a cI cZ (sU σ 25 i.toNatClampNeg x)) (pc + 1) L st) : jJ l D R nL X (wC a cI cZ σ) pc L (.int x :: .int i :: .ref (a 25) :: st) :=
  jq_iast hF 25 0 _ rfl rfl hi rfl hd k
theorem Cw_26 (f : Nat → Int32) : (wC a cI cZ σ).set 26 (a 26, .inl (cI, 24, .inl f)) = wC a cI cZ (sF σ 26 f) := rfl
theorem Cl_26 (hF : jF D R nL X cc own (cw :: jG) (jTys cI cZ) ret) {i : Nat} (hi : i < 24) (hd : decode cc pc = .ok (.iaload, 1)) (k : jJ l D R nL X (wC a cI cZ σ) (pc + 1) L (.int (σ 26 i) :: st)) : jJ l D R nL X (wC a cI cZ σ) pc L (.int (nI i) :: .ref (a 26) :: st) :=
  jq_ialdN hF 26 0 rfl rfl (by decide) hi hd k
theorem CL_26 (hF : jF D R nL X cc own (cw :: jG) (jTys cI cZ) ret) {i : Int32} (hi : vp_in i 24) (hd : decode cc pc = .ok (.iaload, 1)) (k : jJ l D R nL X (wC a cI cZ σ) (pc + 1) L (.int (σ 26 i.toNatClampNeg) :: st)) : jJ l D R nL X (wC a cI cZ σ) pc L (.int i :: .ref (a 26) :: st) :=
  jq_iald hF 26 0 rfl rfl hi hd k
theorem Cs_26 (hF : jF D R nL X cc own (cw :: jG) (jTys cI cZ) ret) {i : Nat} {x : Int32} (hi : i < 24) (hd : decode cc pc = .ok (.iastore, 1)) (k : jJ l D R nL X (wC a cI cZ (sU σ 26 i x)) (pc + 1) L st) : jJ l D R nL X (wC a cI cZ σ) pc L (.int x :: .int (nI i) :: .ref (a 26) :: st) :=
  jq_iastN hF 26 0 _ rfl rfl (by decide) hi rfl hd k
theorem CS_26 (hF : jF D R nL X cc own (cw :: jG) (jTys cI cZ) ret) {i x : Int32} (hi : vp_in i 24) (hd : decode cc pc = .ok (.iastore, 1)) (k : jJ l D R nL X (wC a cI cZ (sU σ 26 i.toNatClampNeg x)) (pc + 1) L st) : jJ l D R nL X (wC a cI cZ σ) pc L (.int x :: .int i :: .ref (a 26) :: st) :=
  jq_iast hF 26 0 _ rfl rfl hi rfl hd k
theorem Cw_27 (f : Nat → Int32) : (wC a cI cZ σ).set 27 (a 27, .inl (cI, 24, .inl f)) = wC a cI cZ (sF σ 27 f) := rfl
theorem Cl_27 (hF : jF D R nL X cc own (cw :: jG) (jTys cI cZ) ret) {i : Nat} (hi : i < 24) (hd : decode cc pc = .ok (.iaload, 1)) (k : jJ l D R nL X (wC a cI cZ σ) (pc + 1) L (.int (σ 27 i) :: st)) : jJ l D R nL X (wC a cI cZ σ) pc L (.int (nI i) :: .ref (a 27) :: st) :=
  jq_ialdN hF 27 0 rfl rfl (by decide) hi hd k
theorem CL_27 (hF : jF D R nL X cc own (cw :: jG) (jTys cI cZ) ret) {i : Int32} (hi : vp_in i 24) (hd : decode cc pc = .ok (.iaload, 1)) (k : jJ l D R nL X (wC a cI cZ σ) (pc + 1) L (.int (σ 27 i.toNatClampNeg) :: st)) : jJ l D R nL X (wC a cI cZ σ) pc L (.int i :: .ref (a 27) :: st) :=
  jq_iald hF 27 0 rfl rfl hi hd k
theorem Cs_27 (hF : jF D R nL X cc own (cw :: jG) (jTys cI cZ) ret) {i : Nat} {x : Int32} (hi : i < 24) (hd : decode cc pc = .ok (.iastore, 1)) (k : jJ l D R nL X (wC a cI cZ (sU σ 27 i x)) (pc + 1) L st) : jJ l D R nL X (wC a cI cZ σ) pc L (.int x :: .int (nI i) :: .ref (a 27) :: st) :=
  jq_iastN hF 27 0 _ rfl rfl (by decide) hi rfl hd k
theorem CS_27 (hF : jF D R nL X cc own (cw :: jG) (jTys cI cZ) ret) {i x : Int32} (hi : vp_in i 24) (hd : decode cc pc = .ok (.iastore, 1)) (k : jJ l D R nL X (wC a cI cZ (sU σ 27 i.toNatClampNeg x)) (pc + 1) L st) : jJ l D R nL X (wC a cI cZ σ) pc L (.int x :: .int i :: .ref (a 27) :: st) :=
  jq_iast hF 27 0 _ rfl rfl hi rfl hd k
theorem Cw_28 (f : Nat → Int32) : (wC a cI cZ σ).set 28 (a 28, .inl (cI, 6, .inl f)) = wC a cI cZ (sF σ 28 f) := rfl
theorem Cl_28 (hF : jF D R nL X cc own (cw :: jG) (jTys cI cZ) ret) {i : Nat} (hi : i < 6) (hd : decode cc pc = .ok (.iaload, 1)) (k : jJ l D R nL X (wC a cI cZ σ) (pc + 1) L (.int (σ 28 i) :: st)) : jJ l D R nL X (wC a cI cZ σ) pc L (.int (nI i) :: .ref (a 28) :: st) :=
  jq_ialdN hF 28 0 rfl rfl (by decide) hi hd k
theorem CL_28 (hF : jF D R nL X cc own (cw :: jG) (jTys cI cZ) ret) {i : Int32} (hi : vp_in i 6) (hd : decode cc pc = .ok (.iaload, 1)) (k : jJ l D R nL X (wC a cI cZ σ) (pc + 1) L (.int (σ 28 i.toNatClampNeg) :: st)) : jJ l D R nL X (wC a cI cZ σ) pc L (.int i :: .ref (a 28) :: st) :=
  jq_iald hF 28 0 rfl rfl hi hd k
theorem Cs_28 (hF : jF D R nL X cc own (cw :: jG) (jTys cI cZ) ret) {i : Nat} {x : Int32} (hi : i < 6) (hd : decode cc pc = .ok (.iastore, 1)) (k : jJ l D R nL X (wC a cI cZ (sU σ 28 i x)) (pc + 1) L st) : jJ l D R nL X (wC a cI cZ σ) pc L (.int x :: .int (nI i) :: .ref (a 28) :: st) :=
  jq_iastN hF 28 0 _ rfl rfl (by decide) hi rfl hd k
theorem CS_28 (hF : jF D R nL X cc own (cw :: jG) (jTys cI cZ) ret) {i x : Int32} (hi : vp_in i 6) (hd : decode cc pc = .ok (.iastore, 1)) (k : jJ l D R nL X (wC a cI cZ (sU σ 28 i.toNatClampNeg x)) (pc + 1) L st) : jJ l D R nL X (wC a cI cZ σ) pc L (.int x :: .int i :: .ref (a 28) :: st) :=
  jq_iast hF 28 0 _ rfl rfl hi rfl hd k
theorem Cw_29 (f : Nat → Int32) : (wC a cI cZ σ).set 29 (a 29, .inl (cZ, 6, .inl f)) = wC a cI cZ (sF σ 29 f) := rfl
theorem Cl_29 (hF : jF D R nL X cc own (cw :: jG) (jTys cI cZ) ret) {i : Nat} (hi : i < 6) (hd : decode cc pc = .ok (.baload, 1)) (k : jJ l D R nL X (wC a cI cZ σ) (pc + 1) L (.int (σ 29 i) :: st)) : jJ l D R nL X (wC a cI cZ σ) pc L (.int (nI i) :: .ref (a 29) :: st) :=
  jq_zaldN hF 29 1 rfl rfl (by decide) hi hd k
theorem CL_29 (hF : jF D R nL X cc own (cw :: jG) (jTys cI cZ) ret) {i : Int32} (hi : vp_in i 6) (hd : decode cc pc = .ok (.baload, 1)) (k : jJ l D R nL X (wC a cI cZ σ) (pc + 1) L (.int (σ 29 i.toNatClampNeg) :: st)) : jJ l D R nL X (wC a cI cZ σ) pc L (.int i :: .ref (a 29) :: st) :=
  jq_zald hF 29 1 rfl rfl hi hd k
theorem Cs_29 (hF : jF D R nL X cc own (cw :: jG) (jTys cI cZ) ret) {i : Nat} {x : Int32} (hi : i < 6) (hx : vp_nar .boolean x = x) (hd : decode cc pc = .ok (.bastore, 1)) (k : jJ l D R nL X (wC a cI cZ (sU σ 29 i x)) (pc + 1) L st) : jJ l D R nL X (wC a cI cZ σ) pc L (.int x :: .int (nI i) :: .ref (a 29) :: st) :=
  jq_zastN hF 29 1 _ rfl rfl (by decide) hi (by rw [hx]; rfl) hd k
theorem CS_29 (hF : jF D R nL X cc own (cw :: jG) (jTys cI cZ) ret) {i x : Int32} (hi : vp_in i 6) (hx : vp_nar .boolean x = x) (hd : decode cc pc = .ok (.bastore, 1)) (k : jJ l D R nL X (wC a cI cZ (sU σ 29 i.toNatClampNeg x)) (pc + 1) L st) : jJ l D R nL X (wC a cI cZ σ) pc L (.int x :: .int i :: .ref (a 29) :: st) :=
  jq_zast hF 29 1 _ rfl rfl hi (by rw [hx]; rfl) hd k
theorem Cw_30 (f : Nat → Int32) : (wC a cI cZ σ).set 30 (a 30, .inl (cZ, 6, .inl f)) = wC a cI cZ (sF σ 30 f) := rfl
theorem Cl_30 (hF : jF D R nL X cc own (cw :: jG) (jTys cI cZ) ret) {i : Nat} (hi : i < 6) (hd : decode cc pc = .ok (.baload, 1)) (k : jJ l D R nL X (wC a cI cZ σ) (pc + 1) L (.int (σ 30 i) :: st)) : jJ l D R nL X (wC a cI cZ σ) pc L (.int (nI i) :: .ref (a 30) :: st) :=
  jq_zaldN hF 30 1 rfl rfl (by decide) hi hd k
theorem CL_30 (hF : jF D R nL X cc own (cw :: jG) (jTys cI cZ) ret) {i : Int32} (hi : vp_in i 6) (hd : decode cc pc = .ok (.baload, 1)) (k : jJ l D R nL X (wC a cI cZ σ) (pc + 1) L (.int (σ 30 i.toNatClampNeg) :: st)) : jJ l D R nL X (wC a cI cZ σ) pc L (.int i :: .ref (a 30) :: st) :=
  jq_zald hF 30 1 rfl rfl hi hd k
theorem Cs_30 (hF : jF D R nL X cc own (cw :: jG) (jTys cI cZ) ret) {i : Nat} {x : Int32} (hi : i < 6) (hx : vp_nar .boolean x = x) (hd : decode cc pc = .ok (.bastore, 1)) (k : jJ l D R nL X (wC a cI cZ (sU σ 30 i x)) (pc + 1) L st) : jJ l D R nL X (wC a cI cZ σ) pc L (.int x :: .int (nI i) :: .ref (a 30) :: st) :=
  jq_zastN hF 30 1 _ rfl rfl (by decide) hi (by rw [hx]; rfl) hd k
theorem CS_30 (hF : jF D R nL X cc own (cw :: jG) (jTys cI cZ) ret) {i x : Int32} (hi : vp_in i 6) (hx : vp_nar .boolean x = x) (hd : decode cc pc = .ok (.bastore, 1)) (k : jJ l D R nL X (wC a cI cZ (sU σ 30 i.toNatClampNeg x)) (pc + 1) L st) : jJ l D R nL X (wC a cI cZ σ) pc L (.int x :: .int i :: .ref (a 30) :: st) :=
  jq_zast hF 30 1 _ rfl rfl hi (by rw [hx]; rfl) hd k
theorem Cw_31 (f : Nat → Int32) : (wC a cI cZ σ).set 31 (a 31, .inl (cI, 168, .inl f)) = wC a cI cZ (sF σ 31 f) := rfl
theorem Cl_31 (hF : jF D R nL X cc own (cw :: jG) (jTys cI cZ) ret) {i : Nat} (hi : i < 168) (hd : decode cc pc = .ok (.iaload, 1)) (k : jJ l D R nL X (wC a cI cZ σ) (pc + 1) L (.int (σ 31 i) :: st)) : jJ l D R nL X (wC a cI cZ σ) pc L (.int (nI i) :: .ref (a 31) :: st) :=
  jq_ialdN hF 31 0 rfl rfl (by decide) hi hd k
theorem CL_31 (hF : jF D R nL X cc own (cw :: jG) (jTys cI cZ) ret) {i : Int32} (hi : vp_in i 168) (hd : decode cc pc = .ok (.iaload, 1)) (k : jJ l D R nL X (wC a cI cZ σ) (pc + 1) L (.int (σ 31 i.toNatClampNeg) :: st)) : jJ l D R nL X (wC a cI cZ σ) pc L (.int i :: .ref (a 31) :: st) :=
  jq_iald hF 31 0 rfl rfl hi hd k
theorem Cs_31 (hF : jF D R nL X cc own (cw :: jG) (jTys cI cZ) ret) {i : Nat} {x : Int32} (hi : i < 168) (hd : decode cc pc = .ok (.iastore, 1)) (k : jJ l D R nL X (wC a cI cZ (sU σ 31 i x)) (pc + 1) L st) : jJ l D R nL X (wC a cI cZ σ) pc L (.int x :: .int (nI i) :: .ref (a 31) :: st) :=
  jq_iastN hF 31 0 _ rfl rfl (by decide) hi rfl hd k
theorem CS_31 (hF : jF D R nL X cc own (cw :: jG) (jTys cI cZ) ret) {i x : Int32} (hi : vp_in i 168) (hd : decode cc pc = .ok (.iastore, 1)) (k : jJ l D R nL X (wC a cI cZ (sU σ 31 i.toNatClampNeg x)) (pc + 1) L st) : jJ l D R nL X (wC a cI cZ σ) pc L (.int x :: .int i :: .ref (a 31) :: st) :=
  jq_iast hF 31 0 _ rfl rfl hi rfl hd k
theorem Cw_32 (f : Nat → Int32) : (wC a cI cZ σ).set 32 (a 32, .inl (cI, 168, .inl f)) = wC a cI cZ (sF σ 32 f) := rfl
theorem Cl_32 (hF : jF D R nL X cc own (cw :: jG) (jTys cI cZ) ret) {i : Nat} (hi : i < 168) (hd : decode cc pc = .ok (.iaload, 1)) (k : jJ l D R nL X (wC a cI cZ σ) (pc + 1) L (.int (σ 32 i) :: st)) : jJ l D R nL X (wC a cI cZ σ) pc L (.int (nI i) :: .ref (a 32) :: st) :=
  jq_ialdN hF 32 0 rfl rfl (by decide) hi hd k
theorem CL_32 (hF : jF D R nL X cc own (cw :: jG) (jTys cI cZ) ret) {i : Int32} (hi : vp_in i 168) (hd : decode cc pc = .ok (.iaload, 1)) (k : jJ l D R nL X (wC a cI cZ σ) (pc + 1) L (.int (σ 32 i.toNatClampNeg) :: st)) : jJ l D R nL X (wC a cI cZ σ) pc L (.int i :: .ref (a 32) :: st) :=
  jq_iald hF 32 0 rfl rfl hi hd k
theorem Cs_32 (hF : jF D R nL X cc own (cw :: jG) (jTys cI cZ) ret) {i : Nat} {x : Int32} (hi : i < 168) (hd : decode cc pc = .ok (.iastore, 1)) (k : jJ l D R nL X (wC a cI cZ (sU σ 32 i x)) (pc + 1) L st) : jJ l D R nL X (wC a cI cZ σ) pc L (.int x :: .int (nI i) :: .ref (a 32) :: st) :=
  jq_iastN hF 32 0 _ rfl rfl (by decide) hi rfl hd k
theorem CS_32 (hF : jF D R nL X cc own (cw :: jG) (jTys cI cZ) ret) {i x : Int32} (hi : vp_in i 168) (hd : decode cc pc = .ok (.iastore, 1)) (k : jJ l D R nL X (wC a cI cZ (sU σ 32 i.toNatClampNeg x)) (pc + 1) L st) : jJ l D R nL X (wC a cI cZ σ) pc L (.int x :: .int i :: .ref (a 32) :: st) :=
  jq_iast hF 32 0 _ rfl rfl hi rfl hd k
theorem Cw_33 (f : Nat → Int32) : (wC a cI cZ σ).set 33 (a 33, .inl (cI, 61, .inl f)) = wC a cI cZ (sF σ 33 f) := rfl
theorem Cl_33 (hF : jF D R nL X cc own (cw :: jG) (jTys cI cZ) ret) {i : Nat} (hi : i < 61) (hd : decode cc pc = .ok (.iaload, 1)) (k : jJ l D R nL X (wC a cI cZ σ) (pc + 1) L (.int (σ 33 i) :: st)) : jJ l D R nL X (wC a cI cZ σ) pc L (.int (nI i) :: .ref (a 33) :: st) :=
  jq_ialdN hF 33 0 rfl rfl (by decide) hi hd k
theorem CL_33 (hF : jF D R nL X cc own (cw :: jG) (jTys cI cZ) ret) {i : Int32} (hi : vp_in i 61) (hd : decode cc pc = .ok (.iaload, 1)) (k : jJ l D R nL X (wC a cI cZ σ) (pc + 1) L (.int (σ 33 i.toNatClampNeg) :: st)) : jJ l D R nL X (wC a cI cZ σ) pc L (.int i :: .ref (a 33) :: st) :=
  jq_iald hF 33 0 rfl rfl hi hd k
theorem Cs_33 (hF : jF D R nL X cc own (cw :: jG) (jTys cI cZ) ret) {i : Nat} {x : Int32} (hi : i < 61) (hd : decode cc pc = .ok (.iastore, 1)) (k : jJ l D R nL X (wC a cI cZ (sU σ 33 i x)) (pc + 1) L st) : jJ l D R nL X (wC a cI cZ σ) pc L (.int x :: .int (nI i) :: .ref (a 33) :: st) :=
  jq_iastN hF 33 0 _ rfl rfl (by decide) hi rfl hd k
theorem CS_33 (hF : jF D R nL X cc own (cw :: jG) (jTys cI cZ) ret) {i x : Int32} (hi : vp_in i 61) (hd : decode cc pc = .ok (.iastore, 1)) (k : jJ l D R nL X (wC a cI cZ (sU σ 33 i.toNatClampNeg x)) (pc + 1) L st) : jJ l D R nL X (wC a cI cZ σ) pc L (.int x :: .int i :: .ref (a 33) :: st) :=
  jq_iast hF 33 0 _ rfl rfl hi rfl hd k
theorem Cw_34 (f : Nat → Int32) : (wC a cI cZ σ).set 34 (a 34, .inl (cI, 61, .inl f)) = wC a cI cZ (sF σ 34 f) := rfl
theorem Cl_34 (hF : jF D R nL X cc own (cw :: jG) (jTys cI cZ) ret) {i : Nat} (hi : i < 61) (hd : decode cc pc = .ok (.iaload, 1)) (k : jJ l D R nL X (wC a cI cZ σ) (pc + 1) L (.int (σ 34 i) :: st)) : jJ l D R nL X (wC a cI cZ σ) pc L (.int (nI i) :: .ref (a 34) :: st) :=
  jq_ialdN hF 34 0 rfl rfl (by decide) hi hd k
theorem CL_34 (hF : jF D R nL X cc own (cw :: jG) (jTys cI cZ) ret) {i : Int32} (hi : vp_in i 61) (hd : decode cc pc = .ok (.iaload, 1)) (k : jJ l D R nL X (wC a cI cZ σ) (pc + 1) L (.int (σ 34 i.toNatClampNeg) :: st)) : jJ l D R nL X (wC a cI cZ σ) pc L (.int i :: .ref (a 34) :: st) :=
  jq_iald hF 34 0 rfl rfl hi hd k
theorem Cs_34 (hF : jF D R nL X cc own (cw :: jG) (jTys cI cZ) ret) {i : Nat} {x : Int32} (hi : i < 61) (hd : decode cc pc = .ok (.iastore, 1)) (k : jJ l D R nL X (wC a cI cZ (sU σ 34 i x)) (pc + 1) L st) : jJ l D R nL X (wC a cI cZ σ) pc L (.int x :: .int (nI i) :: .ref (a 34) :: st) :=
  jq_iastN hF 34 0 _ rfl rfl (by decide) hi rfl hd k
theorem CS_34 (hF : jF D R nL X cc own (cw :: jG) (jTys cI cZ) ret) {i x : Int32} (hi : vp_in i 61) (hd : decode cc pc = .ok (.iastore, 1)) (k : jJ l D R nL X (wC a cI cZ (sU σ 34 i.toNatClampNeg x)) (pc + 1) L st) : jJ l D R nL X (wC a cI cZ σ) pc L (.int x :: .int i :: .ref (a 34) :: st) :=
  jq_iast hF 34 0 _ rfl rfl hi rfl hd k
theorem Cg_P_50 (hF : jF D R nL X cc rP (cw :: jG) (jTys cI cZ) ret) (hd : decode cc pc = .ok (.getfield 50, 3)) (k : jJ l D R nL X (wC a cI cZ σ) (pc + 3) L (.int (σ 1 0) :: st)) : jJ l D R nL X (wC a cI cZ σ) pc L (.ref (a 1) :: st) :=
  jq_get hF (fun w h => List.mem_cons_of_mem _ (inP w h)) 1 rfl rfl 0 (by decide) (List.mem_cons_of_mem _ mF_P_50) rfl hd k
theorem Cp_P_50 (hF : jF D R nL X cc rP (cw :: jG) (jTys cI cZ) ret) {x : Int32} (hd : decode cc pc = .ok (.putfield 50, 3)) (k : jJ l D R nL X (wC a cI cZ (sU σ 1 0 x)) (pc + 3) L st) : jJ l D R nL X (wC a cI cZ σ) pc L (.int x :: .ref (a 1) :: st) :=
  jq_put hF _ (fun w h => List.mem_cons_of_mem _ (inP w h)) tyP tkP nmP 1 rfl rfl 0 (by decide) (List.mem_cons_of_mem _ mF_P_50) rfl rfl rfl rfl (Nat.le_of_ble_eq_true rfl) rfl hd k
theorem Cg_N_59 (hF : jF D R nL X cc rN (cw :: jG) (jTys cI cZ) ret) (hd : decode cc pc = .ok (.getfield 59, 3)) (k : jJ l D R nL X (wC a cI cZ σ) (pc + 3) L (.int (σ 1 0) :: st)) : jJ l D R nL X (wC a cI cZ σ) pc L (.ref (a 1) :: st) :=
  jq_get hF (fun w h => List.mem_cons_of_mem _ (inP w h)) 1 rfl rfl 0 (by decide) (List.mem_cons_of_mem _ mF_N_59) rfl hd k
theorem Cp_N_59 (hF : jF D R nL X cc rN (cw :: jG) (jTys cI cZ) ret) {x : Int32} (hd : decode cc pc = .ok (.putfield 59, 3)) (k : jJ l D R nL X (wC a cI cZ (sU σ 1 0 x)) (pc + 3) L st) : jJ l D R nL X (wC a cI cZ σ) pc L (.int x :: .ref (a 1) :: st) :=
  jq_put hF _ (fun w h => List.mem_cons_of_mem _ (inP w h)) tyP tkP nmP 1 rfl rfl 0 (by decide) (List.mem_cons_of_mem _ mF_N_59) rfl rfl rfl rfl (Nat.le_of_ble_eq_true rfl) rfl hd k
theorem Cg_T_90 (hF : jF D R nL X cc rT (cw :: jG) (jTys cI cZ) ret) (hd : decode cc pc = .ok (.getfield 90, 3)) (k : jJ l D R nL X (wC a cI cZ σ) (pc + 3) L (.int (σ 1 0) :: st)) : jJ l D R nL X (wC a cI cZ σ) pc L (.ref (a 1) :: st) :=
  jq_get hF (fun w h => List.mem_cons_of_mem _ (inP w h)) 1 rfl rfl 0 (by decide) (List.mem_cons_of_mem _ mF_T_90) rfl hd k
theorem Cp_T_90 (hF : jF D R nL X cc rT (cw :: jG) (jTys cI cZ) ret) {x : Int32} (hd : decode cc pc = .ok (.putfield 90, 3)) (k : jJ l D R nL X (wC a cI cZ (sU σ 1 0 x)) (pc + 3) L st) : jJ l D R nL X (wC a cI cZ σ) pc L (.int x :: .ref (a 1) :: st) :=
  jq_put hF _ (fun w h => List.mem_cons_of_mem _ (inP w h)) tyP tkP nmP 1 rfl rfl 0 (by decide) (List.mem_cons_of_mem _ mF_T_90) rfl rfl rfl rfl (Nat.le_of_ble_eq_true rfl) rfl hd k
theorem Cg_P_9 (hF : jF D R nL X cc rP (cw :: jG) (jTys cI cZ) ret) (hd : decode cc pc = .ok (.getfield 9, 3)) (k : jJ l D R nL X (wC a cI cZ σ) (pc + 3) L (.ref (a 6) :: st)) : jJ l D R nL X (wC a cI cZ σ) pc L (.ref (a 1) :: st) :=
  jq_get hF (fun w h => List.mem_cons_of_mem _ (inP w h)) 1 rfl rfl 1 (by decide) (List.mem_cons_of_mem _ mF_P_9) rfl hd k
theorem Cg_T_110 (hF : jF D R nL X cc rT (cw :: jG) (jTys cI cZ) ret) (hd : decode cc pc = .ok (.getfield 110, 3)) (k : jJ l D R nL X (wC a cI cZ σ) (pc + 3) L (.ref (a 6) :: st)) : jJ l D R nL X (wC a cI cZ σ) pc L (.ref (a 1) :: st) :=
  jq_get hF (fun w h => List.mem_cons_of_mem _ (inP w h)) 1 rfl rfl 1 (by decide) (List.mem_cons_of_mem _ mF_T_110) rfl hd k
theorem Cg_P_53 (hF : jF D R nL X cc rP (cw :: jG) (jTys cI cZ) ret) (hd : decode cc pc = .ok (.getfield 53, 3)) (k : jJ l D R nL X (wC a cI cZ σ) (pc + 3) L (.int (σ 1 1) :: st)) : jJ l D R nL X (wC a cI cZ σ) pc L (.ref (a 1) :: st) :=
  jq_get hF (fun w h => List.mem_cons_of_mem _ (inP w h)) 1 rfl rfl 2 (by decide) (List.mem_cons_of_mem _ mF_P_53) rfl hd k
theorem Cp_P_53 (hF : jF D R nL X cc rP (cw :: jG) (jTys cI cZ) ret) {x : Int32} (hd : decode cc pc = .ok (.putfield 53, 3)) (k : jJ l D R nL X (wC a cI cZ (sU σ 1 1 x)) (pc + 3) L st) : jJ l D R nL X (wC a cI cZ σ) pc L (.int x :: .ref (a 1) :: st) :=
  jq_put hF _ (fun w h => List.mem_cons_of_mem _ (inP w h)) tyP tkP nmP 1 rfl rfl 2 (by decide) (List.mem_cons_of_mem _ mF_P_53) rfl rfl rfl rfl (Nat.le_of_ble_eq_true rfl) rfl hd k
theorem Cg_N_73 (hF : jF D R nL X cc rN (cw :: jG) (jTys cI cZ) ret) (hd : decode cc pc = .ok (.getfield 73, 3)) (k : jJ l D R nL X (wC a cI cZ σ) (pc + 3) L (.int (σ 1 1) :: st)) : jJ l D R nL X (wC a cI cZ σ) pc L (.ref (a 1) :: st) :=
  jq_get hF (fun w h => List.mem_cons_of_mem _ (inP w h)) 1 rfl rfl 2 (by decide) (List.mem_cons_of_mem _ mF_N_73) rfl hd k
theorem Cp_N_73 (hF : jF D R nL X cc rN (cw :: jG) (jTys cI cZ) ret) {x : Int32} (hd : decode cc pc = .ok (.putfield 73, 3)) (k : jJ l D R nL X (wC a cI cZ (sU σ 1 1 x)) (pc + 3) L st) : jJ l D R nL X (wC a cI cZ σ) pc L (.int x :: .ref (a 1) :: st) :=
  jq_put hF _ (fun w h => List.mem_cons_of_mem _ (inP w h)) tyP tkP nmP 1 rfl rfl 2 (by decide) (List.mem_cons_of_mem _ mF_N_73) rfl rfl rfl rfl (Nat.le_of_ble_eq_true rfl) rfl hd k
theorem Cg_P_15 (hF : jF D R nL X cc rP (cw :: jG) (jTys cI cZ) ret) (hd : decode cc pc = .ok (.getfield 15, 3)) (k : jJ l D R nL X (wC a cI cZ σ) (pc + 3) L (.ref (a 7) :: st)) : jJ l D R nL X (wC a cI cZ σ) pc L (.ref (a 1) :: st) :=
  jq_get hF (fun w h => List.mem_cons_of_mem _ (inP w h)) 1 rfl rfl 3 (by decide) (List.mem_cons_of_mem _ mF_P_15) rfl hd k
theorem Cg_N_116 (hF : jF D R nL X cc rN (cw :: jG) (jTys cI cZ) ret) (hd : decode cc pc = .ok (.getfield 116, 3)) (k : jJ l D R nL X (wC a cI cZ σ) (pc + 3) L (.ref (a 7) :: st)) : jJ l D R nL X (wC a cI cZ σ) pc L (.ref (a 1) :: st) :=
  jq_get hF (fun w h => List.mem_cons_of_mem _ (inP w h)) 1 rfl rfl 3 (by decide) (List.mem_cons_of_mem _ mF_N_116) rfl hd k
theorem Cg_P_18 (hF : jF D R nL X cc rP (cw :: jG) (jTys cI cZ) ret) (hd : decode cc pc = .ok (.getfield 18, 3)) (k : jJ l D R nL X (wC a cI cZ σ) (pc + 3) L (.ref (a 8) :: st)) : jJ l D R nL X (wC a cI cZ σ) pc L (.ref (a 1) :: st) :=
  jq_get hF (fun w h => List.mem_cons_of_mem _ (inP w h)) 1 rfl rfl 4 (by decide) (List.mem_cons_of_mem _ mF_P_18) rfl hd k
theorem Cg_T_130 (hF : jF D R nL X cc rT (cw :: jG) (jTys cI cZ) ret) (hd : decode cc pc = .ok (.getfield 130, 3)) (k : jJ l D R nL X (wC a cI cZ σ) (pc + 3) L (.ref (a 8) :: st)) : jJ l D R nL X (wC a cI cZ σ) pc L (.ref (a 1) :: st) :=
  jq_get hF (fun w h => List.mem_cons_of_mem _ (inP w h)) 1 rfl rfl 4 (by decide) (List.mem_cons_of_mem _ mF_T_130) rfl hd k
theorem Cg_P_21 (hF : jF D R nL X cc rP (cw :: jG) (jTys cI cZ) ret) (hd : decode cc pc = .ok (.getfield 21, 3)) (k : jJ l D R nL X (wC a cI cZ σ) (pc + 3) L (.ref (a 9) :: st)) : jJ l D R nL X (wC a cI cZ σ) pc L (.ref (a 1) :: st) :=
  jq_get hF (fun w h => List.mem_cons_of_mem _ (inP w h)) 1 rfl rfl 5 (by decide) (List.mem_cons_of_mem _ mF_P_21) rfl hd k
theorem Cg_N_112 (hF : jF D R nL X cc rN (cw :: jG) (jTys cI cZ) ret) (hd : decode cc pc = .ok (.getfield 112, 3)) (k : jJ l D R nL X (wC a cI cZ σ) (pc + 3) L (.ref (a 9) :: st)) : jJ l D R nL X (wC a cI cZ σ) pc L (.ref (a 1) :: st) :=
  jq_get hF (fun w h => List.mem_cons_of_mem _ (inP w h)) 1 rfl rfl 5 (by decide) (List.mem_cons_of_mem _ mF_N_112) rfl hd k
theorem Cg_P_56 (hF : jF D R nL X cc rP (cw :: jG) (jTys cI cZ) ret) (hd : decode cc pc = .ok (.getfield 56, 3)) (k : jJ l D R nL X (wC a cI cZ σ) (pc + 3) L (.int (σ 1 2) :: st)) : jJ l D R nL X (wC a cI cZ σ) pc L (.ref (a 1) :: st) :=
  jq_get hF (fun w h => List.mem_cons_of_mem _ (inP w h)) 1 rfl rfl 6 (by decide) (List.mem_cons_of_mem _ mF_P_56) rfl hd k
theorem Cp_P_56 (hF : jF D R nL X cc rP (cw :: jG) (jTys cI cZ) ret) {x : Int32} (hd : decode cc pc = .ok (.putfield 56, 3)) (k : jJ l D R nL X (wC a cI cZ (sU σ 1 2 x)) (pc + 3) L st) : jJ l D R nL X (wC a cI cZ σ) pc L (.int x :: .ref (a 1) :: st) :=
  jq_put hF _ (fun w h => List.mem_cons_of_mem _ (inP w h)) tyP tkP nmP 1 rfl rfl 6 (by decide) (List.mem_cons_of_mem _ mF_P_56) rfl rfl rfl rfl (Nat.le_of_ble_eq_true rfl) rfl hd k
theorem Cg_N_83 (hF : jF D R nL X cc rN (cw :: jG) (jTys cI cZ) ret) (hd : decode cc pc = .ok (.getfield 83, 3)) (k : jJ l D R nL X (wC a cI cZ σ) (pc + 3) L (.int (σ 1 2) :: st)) : jJ l D R nL X (wC a cI cZ σ) pc L (.ref (a 1) :: st) :=
  jq_get hF (fun w h => List.mem_cons_of_mem _ (inP w h)) 1 rfl rfl 6 (by decide) (List.mem_cons_of_mem _ mF_N_83) rfl hd k
theorem Cp_N_83 (hF : jF D R nL X cc rN (cw :: jG) (jTys cI cZ) ret) {x : Int32} (hd : decode cc pc = .ok (.putfield 83, 3)) (k : jJ l D R nL X (wC a cI cZ (sU σ 1 2 x)) (pc + 3) L st) : jJ l D R nL X (wC a cI cZ σ) pc L (.int x :: .ref (a 1) :: st) :=
  jq_put hF _ (fun w h => List.mem_cons_of_mem _ (inP w h)) tyP tkP nmP 1 rfl rfl 6 (by decide) (List.mem_cons_of_mem _ mF_N_83) rfl rfl rfl rfl (Nat.le_of_ble_eq_true rfl) rfl hd k
theorem Cg_P_25 (hF : jF D R nL X cc rP (cw :: jG) (jTys cI cZ) ret) (hd : decode cc pc = .ok (.getfield 25, 3)) (k : jJ l D R nL X (wC a cI cZ σ) (pc + 3) L (.ref (a 10) :: st)) : jJ l D R nL X (wC a cI cZ σ) pc L (.ref (a 1) :: st) :=
  jq_get hF (fun w h => List.mem_cons_of_mem _ (inP w h)) 1 rfl rfl 7 (by decide) (List.mem_cons_of_mem _ mF_P_25) rfl hd k
theorem Cg_K_38 (hF : jF D R nL X cc rK (cw :: jG) (jTys cI cZ) ret) (hd : decode cc pc = .ok (.getfield 38, 3)) (k : jJ l D R nL X (wC a cI cZ σ) (pc + 3) L (.ref (a 10) :: st)) : jJ l D R nL X (wC a cI cZ σ) pc L (.ref (a 1) :: st) :=
  jq_get hF (fun w h => List.mem_cons_of_mem _ (inP w h)) 1 rfl rfl 7 (by decide) (List.mem_cons_of_mem _ mF_K_38) rfl hd k
theorem Cg_P_28 (hF : jF D R nL X cc rP (cw :: jG) (jTys cI cZ) ret) (hd : decode cc pc = .ok (.getfield 28, 3)) (k : jJ l D R nL X (wC a cI cZ σ) (pc + 3) L (.ref (a 11) :: st)) : jJ l D R nL X (wC a cI cZ σ) pc L (.ref (a 1) :: st) :=
  jq_get hF (fun w h => List.mem_cons_of_mem _ (inP w h)) 1 rfl rfl 8 (by decide) (List.mem_cons_of_mem _ mF_P_28) rfl hd k
theorem Cg_N_177 (hF : jF D R nL X cc rN (cw :: jG) (jTys cI cZ) ret) (hd : decode cc pc = .ok (.getfield 177, 3)) (k : jJ l D R nL X (wC a cI cZ σ) (pc + 3) L (.ref (a 11) :: st)) : jJ l D R nL X (wC a cI cZ σ) pc L (.ref (a 1) :: st) :=
  jq_get hF (fun w h => List.mem_cons_of_mem _ (inP w h)) 1 rfl rfl 8 (by decide) (List.mem_cons_of_mem _ mF_N_177) rfl hd k
theorem Cg_P_31 (hF : jF D R nL X cc rP (cw :: jG) (jTys cI cZ) ret) (hd : decode cc pc = .ok (.getfield 31, 3)) (k : jJ l D R nL X (wC a cI cZ σ) (pc + 3) L (.int (σ 1 3) :: st)) : jJ l D R nL X (wC a cI cZ σ) pc L (.ref (a 1) :: st) :=
  jq_get hF (fun w h => List.mem_cons_of_mem _ (inP w h)) 1 rfl rfl 9 (by decide) (List.mem_cons_of_mem _ mF_P_31) rfl hd k
theorem Cp_P_31 (hF : jF D R nL X cc rP (cw :: jG) (jTys cI cZ) ret) {x : Int32} (hd : decode cc pc = .ok (.putfield 31, 3)) (k : jJ l D R nL X (wC a cI cZ (sU σ 1 3 x)) (pc + 3) L st) : jJ l D R nL X (wC a cI cZ σ) pc L (.int x :: .ref (a 1) :: st) :=
  jq_put hF _ (fun w h => List.mem_cons_of_mem _ (inP w h)) tyP tkP nmP 1 rfl rfl 9 (by decide) (List.mem_cons_of_mem _ mF_P_31) rfl rfl rfl rfl (Nat.le_of_ble_eq_true rfl) rfl hd k
theorem Cg_K_47 (hF : jF D R nL X cc rK (cw :: jG) (jTys cI cZ) ret) (hd : decode cc pc = .ok (.getfield 47, 3)) (k : jJ l D R nL X (wC a cI cZ σ) (pc + 3) L (.int (σ 1 3) :: st)) : jJ l D R nL X (wC a cI cZ σ) pc L (.ref (a 1) :: st) :=
  jq_get hF (fun w h => List.mem_cons_of_mem _ (inP w h)) 1 rfl rfl 9 (by decide) (List.mem_cons_of_mem _ mF_K_47) rfl hd k
theorem Cp_K_47 (hF : jF D R nL X cc rK (cw :: jG) (jTys cI cZ) ret) {x : Int32} (hd : decode cc pc = .ok (.putfield 47, 3)) (k : jJ l D R nL X (wC a cI cZ (sU σ 1 3 x)) (pc + 3) L st) : jJ l D R nL X (wC a cI cZ σ) pc L (.int x :: .ref (a 1) :: st) :=
  jq_put hF _ (fun w h => List.mem_cons_of_mem _ (inP w h)) tyP tkP nmP 1 rfl rfl 9 (by decide) (List.mem_cons_of_mem _ mF_K_47) rfl rfl rfl rfl (Nat.le_of_ble_eq_true rfl) rfl hd k
theorem Cg_P_35 (hF : jF D R nL X cc rP (cw :: jG) (jTys cI cZ) ret) (hd : decode cc pc = .ok (.getfield 35, 3)) (k : jJ l D R nL X (wC a cI cZ σ) (pc + 3) L (.ref (a 12) :: st)) : jJ l D R nL X (wC a cI cZ σ) pc L (.ref (a 1) :: st) :=
  jq_get hF (fun w h => List.mem_cons_of_mem _ (inP w h)) 1 rfl rfl 10 (by decide) (List.mem_cons_of_mem _ mF_P_35) rfl hd k
theorem Cg_T_127 (hF : jF D R nL X cc rT (cw :: jG) (jTys cI cZ) ret) (hd : decode cc pc = .ok (.getfield 127, 3)) (k : jJ l D R nL X (wC a cI cZ σ) (pc + 3) L (.ref (a 12) :: st)) : jJ l D R nL X (wC a cI cZ σ) pc L (.ref (a 1) :: st) :=
  jq_get hF (fun w h => List.mem_cons_of_mem _ (inP w h)) 1 rfl rfl 10 (by decide) (List.mem_cons_of_mem _ mF_T_127) rfl hd k
theorem Cg_P_38 (hF : jF D R nL X cc rP (cw :: jG) (jTys cI cZ) ret) (hd : decode cc pc = .ok (.getfield 38, 3)) (k : jJ l D R nL X (wC a cI cZ σ) (pc + 3) L (.ref (a 13) :: st)) : jJ l D R nL X (wC a cI cZ σ) pc L (.ref (a 1) :: st) :=
  jq_get hF (fun w h => List.mem_cons_of_mem _ (inP w h)) 1 rfl rfl 11 (by decide) (List.mem_cons_of_mem _ mF_P_38) rfl hd k
theorem Cg_K_109 (hF : jF D R nL X cc rK (cw :: jG) (jTys cI cZ) ret) (hd : decode cc pc = .ok (.getfield 109, 3)) (k : jJ l D R nL X (wC a cI cZ σ) (pc + 3) L (.ref (a 13) :: st)) : jJ l D R nL X (wC a cI cZ σ) pc L (.ref (a 1) :: st) :=
  jq_get hF (fun w h => List.mem_cons_of_mem _ (inP w h)) 1 rfl rfl 11 (by decide) (List.mem_cons_of_mem _ mF_K_109) rfl hd k
theorem Cg_N_123 (hF : jF D R nL X cc rN (cw :: jG) (jTys cI cZ) ret) (hd : decode cc pc = .ok (.getfield 123, 3)) (k : jJ l D R nL X (wC a cI cZ σ) (pc + 3) L (.ref (a 13) :: st)) : jJ l D R nL X (wC a cI cZ σ) pc L (.ref (a 1) :: st) :=
  jq_get hF (fun w h => List.mem_cons_of_mem _ (inP w h)) 1 rfl rfl 11 (by decide) (List.mem_cons_of_mem _ mF_N_123) rfl hd k
theorem Cg_T_152 (hF : jF D R nL X cc rT (cw :: jG) (jTys cI cZ) ret) (hd : decode cc pc = .ok (.getfield 152, 3)) (k : jJ l D R nL X (wC a cI cZ σ) (pc + 3) L (.ref (a 13) :: st)) : jJ l D R nL X (wC a cI cZ σ) pc L (.ref (a 1) :: st) :=
  jq_get hF (fun w h => List.mem_cons_of_mem _ (inP w h)) 1 rfl rfl 11 (by decide) (List.mem_cons_of_mem _ mF_T_152) rfl hd k
theorem Cg_P_41 (hF : jF D R nL X cc rP (cw :: jG) (jTys cI cZ) ret) (hd : decode cc pc = .ok (.getfield 41, 3)) (k : jJ l D R nL X (wC a cI cZ σ) (pc + 3) L (.ref (a 14) :: st)) : jJ l D R nL X (wC a cI cZ σ) pc L (.ref (a 1) :: st) :=
  jq_get hF (fun w h => List.mem_cons_of_mem _ (inP w h)) 1 rfl rfl 12 (by decide) (List.mem_cons_of_mem _ mF_P_41) rfl hd k
theorem Cg_K_106 (hF : jF D R nL X cc rK (cw :: jG) (jTys cI cZ) ret) (hd : decode cc pc = .ok (.getfield 106, 3)) (k : jJ l D R nL X (wC a cI cZ σ) (pc + 3) L (.ref (a 14) :: st)) : jJ l D R nL X (wC a cI cZ σ) pc L (.ref (a 1) :: st) :=
  jq_get hF (fun w h => List.mem_cons_of_mem _ (inP w h)) 1 rfl rfl 12 (by decide) (List.mem_cons_of_mem _ mF_K_106) rfl hd k
theorem Cg_W_9 (hF : jF D R nL X cc rW (cw :: jG) (jTys cI cZ) ret) (hd : decode cc pc = .ok (.getfield 9, 3)) (k : jJ l D R nL X (wC a cI cZ σ) (pc + 3) L (.ref (a 15) :: st)) : jJ l D R nL X (wC a cI cZ σ) pc L (.ref (a 2) :: st) :=
  jq_get hF (fun w h => List.mem_cons_of_mem _ (inW w h)) 2 rfl rfl 0 (by decide) (List.mem_cons_of_mem _ mF_W_9) rfl hd k
theorem Cg_W_15 (hF : jF D R nL X cc rW (cw :: jG) (jTys cI cZ) ret) (hd : decode cc pc = .ok (.getfield 15, 3)) (k : jJ l D R nL X (wC a cI cZ σ) (pc + 3) L (.ref (a 16) :: st)) : jJ l D R nL X (wC a cI cZ σ) pc L (.ref (a 2) :: st) :=
  jq_get hF (fun w h => List.mem_cons_of_mem _ (inW w h)) 2 rfl rfl 1 (by decide) (List.mem_cons_of_mem _ mF_W_15) rfl hd k
theorem Cg_W_18 (hF : jF D R nL X cc rW (cw :: jG) (jTys cI cZ) ret) (hd : decode cc pc = .ok (.getfield 18, 3)) (k : jJ l D R nL X (wC a cI cZ σ) (pc + 3) L (.ref (a 17) :: st)) : jJ l D R nL X (wC a cI cZ σ) pc L (.ref (a 2) :: st) :=
  jq_get hF (fun w h => List.mem_cons_of_mem _ (inW w h)) 2 rfl rfl 2 (by decide) (List.mem_cons_of_mem _ mF_W_18) rfl hd k
theorem Cg_T_52 (hF : jF D R nL X cc rT (cw :: jG) (jTys cI cZ) ret) (hd : decode cc pc = .ok (.getfield 52, 3)) (k : jJ l D R nL X (wC a cI cZ σ) (pc + 3) L (.ref (a 1) :: st)) : jJ l D R nL X (wC a cI cZ σ) pc L (.ref (a 3) :: st) :=
  jq_get hF (fun w h => List.mem_cons_of_mem _ (inT w h)) 3 rfl rfl 0 (by decide) (List.mem_cons_of_mem _ mF_T_52) rfl hd k
theorem Cg_T_56 (hF : jF D R nL X cc rT (cw :: jG) (jTys cI cZ) ret) (hd : decode cc pc = .ok (.getfield 56, 3)) (k : jJ l D R nL X (wC a cI cZ σ) (pc + 3) L (.int (σ 3 0) :: st)) : jJ l D R nL X (wC a cI cZ σ) pc L (.ref (a 3) :: st) :=
  jq_get hF (fun w h => List.mem_cons_of_mem _ (inT w h)) 3 rfl rfl 1 (by decide) (List.mem_cons_of_mem _ mF_T_56) rfl hd k
theorem Cg_T_60 (hF : jF D R nL X cc rT (cw :: jG) (jTys cI cZ) ret) (hd : decode cc pc = .ok (.getfield 60, 3)) (k : jJ l D R nL X (wC a cI cZ σ) (pc + 3) L (.int (σ 3 1) :: st)) : jJ l D R nL X (wC a cI cZ σ) pc L (.ref (a 3) :: st) :=
  jq_get hF (fun w h => List.mem_cons_of_mem _ (inT w h)) 3 rfl rfl 2 (by decide) (List.mem_cons_of_mem _ mF_T_60) rfl hd k
theorem Cg_N_189 (hF : jF D R nL X cc rN (cw :: jG) (jTys cI cZ) ret) (hd : decode cc pc = .ok (.getfield 189, 3)) (k : jJ l D R nL X (wC a cI cZ σ) (pc + 3) L (.int (σ 3 1) :: st)) : jJ l D R nL X (wC a cI cZ σ) pc L (.ref (a 3) :: st) :=
  jq_get hF (fun w h => List.mem_cons_of_mem _ (inT w h)) 3 rfl rfl 2 (by decide) (List.mem_cons_of_mem _ mF_N_189) rfl hd k
theorem Cg_T_69 (hF : jF D R nL X cc rT (cw :: jG) (jTys cI cZ) ret) (hd : decode cc pc = .ok (.getfield 69, 3)) (k : jJ l D R nL X (wC a cI cZ σ) (pc + 3) L (.int (σ 3 2) :: st)) : jJ l D R nL X (wC a cI cZ σ) pc L (.ref (a 3) :: st) :=
  jq_get hF (fun w h => List.mem_cons_of_mem _ (inT w h)) 3 rfl rfl 3 (by decide) (List.mem_cons_of_mem _ mF_T_69) rfl hd k
theorem Cp_T_69 (hF : jF D R nL X cc rT (cw :: jG) (jTys cI cZ) ret) {x : Int32} (hd : decode cc pc = .ok (.putfield 69, 3)) (k : jJ l D R nL X (wC a cI cZ (sU σ 3 2 x)) (pc + 3) L st) : jJ l D R nL X (wC a cI cZ σ) pc L (.int x :: .ref (a 3) :: st) :=
  jq_put hF _ (fun w h => List.mem_cons_of_mem _ (inT w h)) tyT tkT nmT 3 rfl rfl 3 (by decide) (List.mem_cons_of_mem _ mF_T_69) rfl rfl rfl rfl (Nat.le_of_ble_eq_true rfl) rfl hd k
theorem Cg_K_83 (hF : jF D R nL X cc rK (cw :: jG) (jTys cI cZ) ret) (hd : decode cc pc = .ok (.getfield 83, 3)) (k : jJ l D R nL X (wC a cI cZ σ) (pc + 3) L (.int (σ 3 2) :: st)) : jJ l D R nL X (wC a cI cZ σ) pc L (.ref (a 3) :: st) :=
  jq_get hF (fun w h => List.mem_cons_of_mem _ (inT w h)) 3 rfl rfl 3 (by decide) (List.mem_cons_of_mem _ mF_K_83) rfl hd k
theorem Cp_K_83 (hF : jF D R nL X cc rK (cw :: jG) (jTys cI cZ) ret) {x : Int32} (hd : decode cc pc = .ok (.putfield 83, 3)) (k : jJ l D R nL X (wC a cI cZ (sU σ 3 2 x)) (pc + 3) L st) : jJ l D R nL X (wC a cI cZ σ) pc L (.int x :: .ref (a 3) :: st) :=
  jq_put hF _ (fun w h => List.mem_cons_of_mem _ (inT w h)) tyT tkT nmT 3 rfl rfl 3 (by decide) (List.mem_cons_of_mem _ mF_K_83) rfl rfl rfl rfl (Nat.le_of_ble_eq_true rfl) rfl hd k
theorem Cg_N_132 (hF : jF D R nL X cc rN (cw :: jG) (jTys cI cZ) ret) (hd : decode cc pc = .ok (.getfield 132, 3)) (k : jJ l D R nL X (wC a cI cZ σ) (pc + 3) L (.int (σ 3 2) :: st)) : jJ l D R nL X (wC a cI cZ σ) pc L (.ref (a 3) :: st) :=
  jq_get hF (fun w h => List.mem_cons_of_mem _ (inT w h)) 3 rfl rfl 3 (by decide) (List.mem_cons_of_mem _ mF_N_132) rfl hd k
theorem Cp_N_132 (hF : jF D R nL X cc rN (cw :: jG) (jTys cI cZ) ret) {x : Int32} (hd : decode cc pc = .ok (.putfield 132, 3)) (k : jJ l D R nL X (wC a cI cZ (sU σ 3 2 x)) (pc + 3) L st) : jJ l D R nL X (wC a cI cZ σ) pc L (.int x :: .ref (a 3) :: st) :=
  jq_put hF _ (fun w h => List.mem_cons_of_mem _ (inT w h)) tyT tkT nmT 3 rfl rfl 3 (by decide) (List.mem_cons_of_mem _ mF_N_132) rfl rfl rfl rfl (Nat.le_of_ble_eq_true rfl) rfl hd k
theorem Cg_T_11 (hF : jF D R nL X cc rT (cw :: jG) (jTys cI cZ) ret) (hd : decode cc pc = .ok (.getfield 11, 3)) (k : jJ l D R nL X (wC a cI cZ σ) (pc + 3) L (.ref (a 18) :: st)) : jJ l D R nL X (wC a cI cZ σ) pc L (.ref (a 3) :: st) :=
  jq_get hF (fun w h => List.mem_cons_of_mem _ (inT w h)) 3 rfl rfl 4 (by decide) (List.mem_cons_of_mem _ mF_T_11) rfl hd k
theorem Cg_N_156 (hF : jF D R nL X cc rN (cw :: jG) (jTys cI cZ) ret) (hd : decode cc pc = .ok (.getfield 156, 3)) (k : jJ l D R nL X (wC a cI cZ σ) (pc + 3) L (.ref (a 18) :: st)) : jJ l D R nL X (wC a cI cZ σ) pc L (.ref (a 3) :: st) :=
  jq_get hF (fun w h => List.mem_cons_of_mem _ (inT w h)) 3 rfl rfl 4 (by decide) (List.mem_cons_of_mem _ mF_N_156) rfl hd k
theorem Cg_T_15 (hF : jF D R nL X cc rT (cw :: jG) (jTys cI cZ) ret) (hd : decode cc pc = .ok (.getfield 15, 3)) (k : jJ l D R nL X (wC a cI cZ σ) (pc + 3) L (.ref (a 19) :: st)) : jJ l D R nL X (wC a cI cZ σ) pc L (.ref (a 3) :: st) :=
  jq_get hF (fun w h => List.mem_cons_of_mem _ (inT w h)) 3 rfl rfl 5 (by decide) (List.mem_cons_of_mem _ mF_T_15) rfl hd k
theorem Cg_N_153 (hF : jF D R nL X cc rN (cw :: jG) (jTys cI cZ) ret) (hd : decode cc pc = .ok (.getfield 153, 3)) (k : jJ l D R nL X (wC a cI cZ σ) (pc + 3) L (.ref (a 19) :: st)) : jJ l D R nL X (wC a cI cZ σ) pc L (.ref (a 3) :: st) :=
  jq_get hF (fun w h => List.mem_cons_of_mem _ (inT w h)) 3 rfl rfl 5 (by decide) (List.mem_cons_of_mem _ mF_N_153) rfl hd k
theorem Cg_T_19 (hF : jF D R nL X cc rT (cw :: jG) (jTys cI cZ) ret) (hd : decode cc pc = .ok (.getfield 19, 3)) (k : jJ l D R nL X (wC a cI cZ σ) (pc + 3) L (.ref (a 20) :: st)) : jJ l D R nL X (wC a cI cZ σ) pc L (.ref (a 3) :: st) :=
  jq_get hF (fun w h => List.mem_cons_of_mem _ (inT w h)) 3 rfl rfl 6 (by decide) (List.mem_cons_of_mem _ mF_T_19) rfl hd k
theorem Cg_T_22 (hF : jF D R nL X cc rT (cw :: jG) (jTys cI cZ) ret) (hd : decode cc pc = .ok (.getfield 22, 3)) (k : jJ l D R nL X (wC a cI cZ σ) (pc + 3) L (.ref (a 21) :: st)) : jJ l D R nL X (wC a cI cZ σ) pc L (.ref (a 3) :: st) :=
  jq_get hF (fun w h => List.mem_cons_of_mem _ (inT w h)) 3 rfl rfl 7 (by decide) (List.mem_cons_of_mem _ mF_T_22) rfl hd k
theorem Cg_T_25 (hF : jF D R nL X cc rT (cw :: jG) (jTys cI cZ) ret) (hd : decode cc pc = .ok (.getfield 25, 3)) (k : jJ l D R nL X (wC a cI cZ σ) (pc + 3) L (.ref (a 22) :: st)) : jJ l D R nL X (wC a cI cZ σ) pc L (.ref (a 3) :: st) :=
  jq_get hF (fun w h => List.mem_cons_of_mem _ (inT w h)) 3 rfl rfl 8 (by decide) (List.mem_cons_of_mem _ mF_T_25) rfl hd k
theorem Cg_N_147 (hF : jF D R nL X cc rN (cw :: jG) (jTys cI cZ) ret) (hd : decode cc pc = .ok (.getfield 147, 3)) (k : jJ l D R nL X (wC a cI cZ σ) (pc + 3) L (.ref (a 22) :: st)) : jJ l D R nL X (wC a cI cZ σ) pc L (.ref (a 3) :: st) :=
  jq_get hF (fun w h => List.mem_cons_of_mem _ (inT w h)) 3 rfl rfl 8 (by decide) (List.mem_cons_of_mem _ mF_N_147) rfl hd k
theorem Cg_T_28 (hF : jF D R nL X cc rT (cw :: jG) (jTys cI cZ) ret) (hd : decode cc pc = .ok (.getfield 28, 3)) (k : jJ l D R nL X (wC a cI cZ σ) (pc + 3) L (.ref (a 23) :: st)) : jJ l D R nL X (wC a cI cZ σ) pc L (.ref (a 3) :: st) :=
  jq_get hF (fun w h => List.mem_cons_of_mem _ (inT w h)) 3 rfl rfl 9 (by decide) (List.mem_cons_of_mem _ mF_T_28) rfl hd k
theorem Cg_N_150 (hF : jF D R nL X cc rN (cw :: jG) (jTys cI cZ) ret) (hd : decode cc pc = .ok (.getfield 150, 3)) (k : jJ l D R nL X (wC a cI cZ σ) (pc + 3) L (.ref (a 23) :: st)) : jJ l D R nL X (wC a cI cZ σ) pc L (.ref (a 3) :: st) :=
  jq_get hF (fun w h => List.mem_cons_of_mem _ (inT w h)) 3 rfl rfl 9 (by decide) (List.mem_cons_of_mem _ mF_N_150) rfl hd k
theorem Cg_T_31 (hF : jF D R nL X cc rT (cw :: jG) (jTys cI cZ) ret) (hd : decode cc pc = .ok (.getfield 31, 3)) (k : jJ l D R nL X (wC a cI cZ σ) (pc + 3) L (.ref (a 24) :: st)) : jJ l D R nL X (wC a cI cZ σ) pc L (.ref (a 3) :: st) :=
  jq_get hF (fun w h => List.mem_cons_of_mem _ (inT w h)) 3 rfl rfl 10 (by decide) (List.mem_cons_of_mem _ mF_T_31) rfl hd k
theorem Cg_T_34 (hF : jF D R nL X cc rT (cw :: jG) (jTys cI cZ) ret) (hd : decode cc pc = .ok (.getfield 34, 3)) (k : jJ l D R nL X (wC a cI cZ σ) (pc + 3) L (.ref (a 25) :: st)) : jJ l D R nL X (wC a cI cZ σ) pc L (.ref (a 3) :: st) :=
  jq_get hF (fun w h => List.mem_cons_of_mem _ (inT w h)) 3 rfl rfl 11 (by decide) (List.mem_cons_of_mem _ mF_T_34) rfl hd k
theorem Cg_N_135 (hF : jF D R nL X cc rN (cw :: jG) (jTys cI cZ) ret) (hd : decode cc pc = .ok (.getfield 135, 3)) (k : jJ l D R nL X (wC a cI cZ σ) (pc + 3) L (.ref (a 25) :: st)) : jJ l D R nL X (wC a cI cZ σ) pc L (.ref (a 3) :: st) :=
  jq_get hF (fun w h => List.mem_cons_of_mem _ (inT w h)) 3 rfl rfl 11 (by decide) (List.mem_cons_of_mem _ mF_N_135) rfl hd k
theorem Cg_T_37 (hF : jF D R nL X cc rT (cw :: jG) (jTys cI cZ) ret) (hd : decode cc pc = .ok (.getfield 37, 3)) (k : jJ l D R nL X (wC a cI cZ σ) (pc + 3) L (.ref (a 26) :: st)) : jJ l D R nL X (wC a cI cZ σ) pc L (.ref (a 3) :: st) :=
  jq_get hF (fun w h => List.mem_cons_of_mem _ (inT w h)) 3 rfl rfl 12 (by decide) (List.mem_cons_of_mem _ mF_T_37) rfl hd k
theorem Cg_T_40 (hF : jF D R nL X cc rT (cw :: jG) (jTys cI cZ) ret) (hd : decode cc pc = .ok (.getfield 40, 3)) (k : jJ l D R nL X (wC a cI cZ σ) (pc + 3) L (.ref (a 27) :: st)) : jJ l D R nL X (wC a cI cZ σ) pc L (.ref (a 3) :: st) :=
  jq_get hF (fun w h => List.mem_cons_of_mem _ (inT w h)) 3 rfl rfl 13 (by decide) (List.mem_cons_of_mem _ mF_T_40) rfl hd k
theorem Cg_K_78 (hF : jF D R nL X cc rK (cw :: jG) (jTys cI cZ) ret) (hd : decode cc pc = .ok (.getfield 78, 3)) (k : jJ l D R nL X (wC a cI cZ σ) (pc + 3) L (.ref (a 27) :: st)) : jJ l D R nL X (wC a cI cZ σ) pc L (.ref (a 3) :: st) :=
  jq_get hF (fun w h => List.mem_cons_of_mem _ (inT w h)) 3 rfl rfl 13 (by decide) (List.mem_cons_of_mem _ mF_K_78) rfl hd k
theorem Cg_N_138 (hF : jF D R nL X cc rN (cw :: jG) (jTys cI cZ) ret) (hd : decode cc pc = .ok (.getfield 138, 3)) (k : jJ l D R nL X (wC a cI cZ σ) (pc + 3) L (.ref (a 27) :: st)) : jJ l D R nL X (wC a cI cZ σ) pc L (.ref (a 3) :: st) :=
  jq_get hF (fun w h => List.mem_cons_of_mem _ (inT w h)) 3 rfl rfl 13 (by decide) (List.mem_cons_of_mem _ mF_N_138) rfl hd k
theorem Cg_T_43 (hF : jF D R nL X cc rT (cw :: jG) (jTys cI cZ) ret) (hd : decode cc pc = .ok (.getfield 43, 3)) (k : jJ l D R nL X (wC a cI cZ σ) (pc + 3) L (.ref (a 28) :: st)) : jJ l D R nL X (wC a cI cZ σ) pc L (.ref (a 3) :: st) :=
  jq_get hF (fun w h => List.mem_cons_of_mem _ (inT w h)) 3 rfl rfl 14 (by decide) (List.mem_cons_of_mem _ mF_T_43) rfl hd k
theorem Cg_T_46 (hF : jF D R nL X cc rT (cw :: jG) (jTys cI cZ) ret) (hd : decode cc pc = .ok (.getfield 46, 3)) (k : jJ l D R nL X (wC a cI cZ σ) (pc + 3) L (.ref (a 29) :: st)) : jJ l D R nL X (wC a cI cZ σ) pc L (.ref (a 3) :: st) :=
  jq_get hF (fun w h => List.mem_cons_of_mem _ (inT w h)) 3 rfl rfl 15 (by decide) (List.mem_cons_of_mem _ mF_T_46) rfl hd k
theorem Cg_T_49 (hF : jF D R nL X cc rT (cw :: jG) (jTys cI cZ) ret) (hd : decode cc pc = .ok (.getfield 49, 3)) (k : jJ l D R nL X (wC a cI cZ σ) (pc + 3) L (.ref (a 30) :: st)) : jJ l D R nL X (wC a cI cZ σ) pc L (.ref (a 3) :: st) :=
  jq_get hF (fun w h => List.mem_cons_of_mem _ (inT w h)) 3 rfl rfl 16 (by decide) (List.mem_cons_of_mem _ mF_T_49) rfl hd k
theorem Cg_B_11 (hF : jF D R nL X cc rB (cw :: jG) (jTys cI cZ) ret) (hd : decode cc pc = .ok (.getfield 11, 3)) (k : jJ l D R nL X (wC a cI cZ σ) (pc + 3) L (.ref (a 31) :: st)) : jJ l D R nL X (wC a cI cZ σ) pc L (.ref (a 4) :: st) :=
  jq_get hF (fun w h => List.mem_cons_of_mem _ (inB w h)) 4 rfl rfl 0 (by decide) (List.mem_cons_of_mem _ mF_B_11) rfl hd k
theorem Cg_B_15 (hF : jF D R nL X cc rB (cw :: jG) (jTys cI cZ) ret) (hd : decode cc pc = .ok (.getfield 15, 3)) (k : jJ l D R nL X (wC a cI cZ σ) (pc + 3) L (.ref (a 32) :: st)) : jJ l D R nL X (wC a cI cZ σ) pc L (.ref (a 4) :: st) :=
  jq_get hF (fun w h => List.mem_cons_of_mem _ (inB w h)) 4 rfl rfl 1 (by decide) (List.mem_cons_of_mem _ mF_B_15) rfl hd k
theorem Cg_K_18 (hF : jF D R nL X cc rK (cw :: jG) (jTys cI cZ) ret) (hd : decode cc pc = .ok (.getfield 18, 3)) (k : jJ l D R nL X (wC a cI cZ σ) (pc + 3) L (.ref (a 1) :: st)) : jJ l D R nL X (wC a cI cZ σ) pc L (.ref (a 5) :: st) :=
  jq_get hF (fun w h => List.mem_cons_of_mem _ (inK w h)) 5 rfl rfl 0 (by decide) (List.mem_cons_of_mem _ mF_K_18) rfl hd k
theorem Cg_K_22 (hF : jF D R nL X cc rK (cw :: jG) (jTys cI cZ) ret) (hd : decode cc pc = .ok (.getfield 22, 3)) (k : jJ l D R nL X (wC a cI cZ σ) (pc + 3) L (.ref (a 2) :: st)) : jJ l D R nL X (wC a cI cZ σ) pc L (.ref (a 5) :: st) :=
  jq_get hF (fun w h => List.mem_cons_of_mem _ (inK w h)) 5 rfl rfl 1 (by decide) (List.mem_cons_of_mem _ mF_K_22) rfl hd k
theorem Cg_K_26 (hF : jF D R nL X cc rK (cw :: jG) (jTys cI cZ) ret) (hd : decode cc pc = .ok (.getfield 26, 3)) (k : jJ l D R nL X (wC a cI cZ σ) (pc + 3) L (.ref (a 3) :: st)) : jJ l D R nL X (wC a cI cZ σ) pc L (.ref (a 5) :: st) :=
  jq_get hF (fun w h => List.mem_cons_of_mem _ (inK w h)) 5 rfl rfl 2 (by decide) (List.mem_cons_of_mem _ mF_K_26) rfl hd k
theorem Cg_K_30 (hF : jF D R nL X cc rK (cw :: jG) (jTys cI cZ) ret) (hd : decode cc pc = .ok (.getfield 30, 3)) (k : jJ l D R nL X (wC a cI cZ σ) (pc + 3) L (.ref (a 4) :: st)) : jJ l D R nL X (wC a cI cZ σ) pc L (.ref (a 5) :: st) :=
  jq_get hF (fun w h => List.mem_cons_of_mem _ (inK w h)) 5 rfl rfl 3 (by decide) (List.mem_cons_of_mem _ mF_K_30) rfl hd k
theorem Cg_K_9 (hF : jF D R nL X cc rK (cw :: jG) (jTys cI cZ) ret) (hd : decode cc pc = .ok (.getfield 9, 3)) (k : jJ l D R nL X (wC a cI cZ σ) (pc + 3) L (.ref (a 33) :: st)) : jJ l D R nL X (wC a cI cZ σ) pc L (.ref (a 5) :: st) :=
  jq_get hF (fun w h => List.mem_cons_of_mem _ (inK w h)) 5 rfl rfl 4 (by decide) (List.mem_cons_of_mem _ mF_K_9) rfl hd k
theorem Cg_K_15 (hF : jF D R nL X cc rK (cw :: jG) (jTys cI cZ) ret) (hd : decode cc pc = .ok (.getfield 15, 3)) (k : jJ l D R nL X (wC a cI cZ σ) (pc + 3) L (.ref (a 34) :: st)) : jJ l D R nL X (wC a cI cZ σ) pc L (.ref (a 5) :: st) :=
  jq_get hF (fun w h => List.mem_cons_of_mem _ (inK w h)) 5 rfl rfl 5 (by decide) (List.mem_cons_of_mem _ mF_K_15) rfl hd k
theorem Cg_K_68 (hF : jF D R nL X cc rK (cw :: jG) (jTys cI cZ) ret) (hd : decode cc pc = .ok (.getfield 68, 3)) (k : jJ l D R nL X (wC a cI cZ σ) (pc + 3) L (.int (σ 5 0) :: st)) : jJ l D R nL X (wC a cI cZ σ) pc L (.ref (a 5) :: st) :=
  jq_get hF (fun w h => List.mem_cons_of_mem _ (inK w h)) 5 rfl rfl 6 (by decide) (List.mem_cons_of_mem _ mF_K_68) rfl hd k
theorem Cp_K_68 (hF : jF D R nL X cc rK (cw :: jG) (jTys cI cZ) ret) {x : Int32} (hd : decode cc pc = .ok (.putfield 68, 3)) (k : jJ l D R nL X (wC a cI cZ (sU σ 5 0 x)) (pc + 3) L st) : jJ l D R nL X (wC a cI cZ σ) pc L (.int x :: .ref (a 5) :: st) :=
  jq_put hF _ (fun w h => List.mem_cons_of_mem _ (inK w h)) tyK tkK nmK 5 rfl rfl 6 (by decide) (List.mem_cons_of_mem _ mF_K_68) rfl rfl rfl rfl (Nat.le_of_ble_eq_true rfl) rfl hd k
theorem Cg_K_56 (hF : jF D R nL X cc rK (cw :: jG) (jTys cI cZ) ret) (hd : decode cc pc = .ok (.getfield 56, 3)) (k : jJ l D R nL X (wC a cI cZ σ) (pc + 3) L (.int (σ 5 1) :: st)) : jJ l D R nL X (wC a cI cZ σ) pc L (.ref (a 5) :: st) :=
  jq_get hF (fun w h => List.mem_cons_of_mem _ (inK w h)) 5 rfl rfl 7 (by decide) (List.mem_cons_of_mem _ mF_K_56) rfl hd k
theorem Cp_K_56 (hF : jF D R nL X cc rK (cw :: jG) (jTys cI cZ) ret) {x : Int32} (hd : decode cc pc = .ok (.putfield 56, 3)) (k : jJ l D R nL X (wC a cI cZ (sU σ 5 1 x)) (pc + 3) L st) : jJ l D R nL X (wC a cI cZ σ) pc L (.int x :: .ref (a 5) :: st) :=
  jq_put hF _ (fun w h => List.mem_cons_of_mem _ (inK w h)) tyK tkK nmK 5 rfl rfl 7 (by decide) (List.mem_cons_of_mem _ mF_K_56) rfl rfl rfl rfl (Nat.le_of_ble_eq_true rfl) rfl hd k
theorem Cg_K_59 (hF : jF D R nL X cc rK (cw :: jG) (jTys cI cZ) ret) (hd : decode cc pc = .ok (.getfield 59, 3)) (k : jJ l D R nL X (wC a cI cZ σ) (pc + 3) L (.int (σ 5 2) :: st)) : jJ l D R nL X (wC a cI cZ σ) pc L (.ref (a 5) :: st) :=
  jq_get hF (fun w h => List.mem_cons_of_mem _ (inK w h)) 5 rfl rfl 8 (by decide) (List.mem_cons_of_mem _ mF_K_59) rfl hd k
theorem Cp_K_59 (hF : jF D R nL X cc rK (cw :: jG) (jTys cI cZ) ret) {x : Int32} (hd : decode cc pc = .ok (.putfield 59, 3)) (k : jJ l D R nL X (wC a cI cZ (sU σ 5 2 x)) (pc + 3) L st) : jJ l D R nL X (wC a cI cZ σ) pc L (.int x :: .ref (a 5) :: st) :=
  jq_put hF _ (fun w h => List.mem_cons_of_mem _ (inK w h)) tyK tkK nmK 5 rfl rfl 8 (by decide) (List.mem_cons_of_mem _ mF_K_59) rfl rfl rfl rfl (Nat.le_of_ble_eq_true rfl) rfl hd k
theorem Cg_K_62 (hF : jF D R nL X cc rK (cw :: jG) (jTys cI cZ) ret) (hd : decode cc pc = .ok (.getfield 62, 3)) (k : jJ l D R nL X (wC a cI cZ σ) (pc + 3) L (.int (σ 5 3) :: st)) : jJ l D R nL X (wC a cI cZ σ) pc L (.ref (a 5) :: st) :=
  jq_get hF (fun w h => List.mem_cons_of_mem _ (inK w h)) 5 rfl rfl 9 (by decide) (List.mem_cons_of_mem _ mF_K_62) rfl hd k
theorem Cp_K_62 (hF : jF D R nL X cc rK (cw :: jG) (jTys cI cZ) ret) {x : Int32} (hd : decode cc pc = .ok (.putfield 62, 3)) (k : jJ l D R nL X (wC a cI cZ (sU σ 5 3 x)) (pc + 3) L st) : jJ l D R nL X (wC a cI cZ σ) pc L (.int x :: .ref (a 5) :: st) :=
  jq_put hF _ (fun w h => List.mem_cons_of_mem _ (inK w h)) tyK tkK nmK 5 rfl rfl 9 (by decide) (List.mem_cons_of_mem _ mF_K_62) rfl rfl rfl rfl (Nat.le_of_ble_eq_true rfl) rfl hd k
theorem Cg_K_65 (hF : jF D R nL X cc rK (cw :: jG) (jTys cI cZ) ret) (hd : decode cc pc = .ok (.getfield 65, 3)) (k : jJ l D R nL X (wC a cI cZ σ) (pc + 3) L (.int (σ 5 4) :: st)) : jJ l D R nL X (wC a cI cZ σ) pc L (.ref (a 5) :: st) :=
  jq_get hF (fun w h => List.mem_cons_of_mem _ (inK w h)) 5 rfl rfl 10 (by decide) (List.mem_cons_of_mem _ mF_K_65) rfl hd k
theorem Cp_K_65 (hF : jF D R nL X cc rK (cw :: jG) (jTys cI cZ) ret) {x : Int32} (hd : decode cc pc = .ok (.putfield 65, 3)) (k : jJ l D R nL X (wC a cI cZ (sU σ 5 4 x)) (pc + 3) L st) : jJ l D R nL X (wC a cI cZ σ) pc L (.int x :: .ref (a 5) :: st) :=
  jq_put hF _ (fun w h => List.mem_cons_of_mem _ (inK w h)) tyK tkK nmK 5 rfl rfl 10 (by decide) (List.mem_cons_of_mem _ mF_K_65) rfl rfl rfl rfl (Nat.le_of_ble_eq_true rfl) rfl hd k
theorem Cg_K_34 (hF : jF D R nL X cc rK (cw :: jG) (jTys cI cZ) ret) (hd : decode cc pc = .ok (.getfield 34, 3)) (k : jJ l D R nL X (wC a cI cZ σ) (pc + 3) L (.int (σ 5 5) :: st)) : jJ l D R nL X (wC a cI cZ σ) pc L (.ref (a 5) :: st) :=
  jq_get hF (fun w h => List.mem_cons_of_mem _ (inK w h)) 5 rfl rfl 11 (by decide) (List.mem_cons_of_mem _ mF_K_34) rfl hd k
theorem Cp_K_34 (hF : jF D R nL X cc rK (cw :: jG) (jTys cI cZ) ret) {x : Int32} (hd : decode cc pc = .ok (.putfield 34, 3)) (k : jJ l D R nL X (wC a cI cZ (sU σ 5 5 x)) (pc + 3) L st) : jJ l D R nL X (wC a cI cZ σ) pc L (.int x :: .ref (a 5) :: st) :=
  jq_put hF _ (fun w h => List.mem_cons_of_mem _ (inK w h)) tyK tkK nmK 5 rfl rfl 11 (by decide) (List.mem_cons_of_mem _ mF_K_34) rfl rfl rfl rfl (Nat.le_of_ble_eq_true rfl) rfl hd k
theorem Cg_N_186 (hF : jF D R nL X cc rN (cw :: jG) (jTys cI cZ) ret) (hd : decode cc pc = .ok (.getfield 186, 3)) (k : jJ l D R nL X (wC a cI cZ σ) (pc + 3) L (.int (σ 5 5) :: st)) : jJ l D R nL X (wC a cI cZ σ) pc L (.ref (a 5) :: st) :=
  jq_get hF (fun w h => List.mem_cons_of_mem _ (inK w h)) 5 rfl rfl 11 (by decide) (List.mem_cons_of_mem _ mF_N_186) rfl hd k
theorem Cp_N_186 (hF : jF D R nL X cc rN (cw :: jG) (jTys cI cZ) ret) {x : Int32} (hd : decode cc pc = .ok (.putfield 186, 3)) (k : jJ l D R nL X (wC a cI cZ (sU σ 5 5 x)) (pc + 3) L st) : jJ l D R nL X (wC a cI cZ σ) pc L (.int x :: .ref (a 5) :: st) :=
  jq_put hF _ (fun w h => List.mem_cons_of_mem _ (inK w h)) tyK tkK nmK 5 rfl rfl 11 (by decide) (List.mem_cons_of_mem _ mF_N_186) rfl rfl rfl rfl (Nat.le_of_ble_eq_true rfl) rfl hd k
theorem Cg_N_13 (hF : jF D R nL X cc rN (cw :: jG) (jTys cI cZ) ret) (hd : decode cc pc = .ok (.getfield 13, 3)) (k : jJ l D R nL X (wC a cI cZ σ) (pc + 3) L (.int (σ 0 0) :: st)) : jJ l D R nL X (wC a cI cZ σ) pc L (.ref (a 0) :: st) :=
  jq_get hF (fun w h => List.mem_cons_of_mem _ (inN w h)) 0 rfl rfl 0 (by decide) (List.mem_cons_of_mem _ mF_N_13) rfl hd k
theorem Cg_N_20 (hF : jF D R nL X cc rN (cw :: jG) (jTys cI cZ) ret) (hd : decode cc pc = .ok (.getfield 20, 3)) (k : jJ l D R nL X (wC a cI cZ σ) (pc + 3) L (.ref (a 1) :: st)) : jJ l D R nL X (wC a cI cZ σ) pc L (.ref (a 0) :: st) :=
  jq_get hF (fun w h => List.mem_cons_of_mem _ (inN w h)) 0 rfl rfl 1 (by decide) (List.mem_cons_of_mem _ mF_N_20) rfl hd k
theorem Cg_N_27 (hF : jF D R nL X cc rN (cw :: jG) (jTys cI cZ) ret) (hd : decode cc pc = .ok (.getfield 27, 3)) (k : jJ l D R nL X (wC a cI cZ σ) (pc + 3) L (.ref (a 2) :: st)) : jJ l D R nL X (wC a cI cZ σ) pc L (.ref (a 0) :: st) :=
  jq_get hF (fun w h => List.mem_cons_of_mem _ (inN w h)) 0 rfl rfl 2 (by decide) (List.mem_cons_of_mem _ mF_N_27) rfl hd k
theorem Cg_N_36 (hF : jF D R nL X cc rN (cw :: jG) (jTys cI cZ) ret) (hd : decode cc pc = .ok (.getfield 36, 3)) (k : jJ l D R nL X (wC a cI cZ σ) (pc + 3) L (.ref (a 3) :: st)) : jJ l D R nL X (wC a cI cZ σ) pc L (.ref (a 0) :: st) :=
  jq_get hF (fun w h => List.mem_cons_of_mem _ (inN w h)) 0 rfl rfl 3 (by decide) (List.mem_cons_of_mem _ mF_N_36) rfl hd k
theorem Cg_N_43 (hF : jF D R nL X cc rN (cw :: jG) (jTys cI cZ) ret) (hd : decode cc pc = .ok (.getfield 43, 3)) (k : jJ l D R nL X (wC a cI cZ σ) (pc + 3) L (.ref (a 4) :: st)) : jJ l D R nL X (wC a cI cZ σ) pc L (.ref (a 0) :: st) :=
  jq_get hF (fun w h => List.mem_cons_of_mem _ (inN w h)) 0 rfl rfl 4 (by decide) (List.mem_cons_of_mem _ mF_N_43) rfl hd k
theorem Cg_N_52 (hF : jF D R nL X cc rN (cw :: jG) (jTys cI cZ) ret) (hd : decode cc pc = .ok (.getfield 52, 3)) (k : jJ l D R nL X (wC a cI cZ σ) (pc + 3) L (.ref (a 5) :: st)) : jJ l D R nL X (wC a cI cZ σ) pc L (.ref (a 0) :: st) :=
  jq_get hF (fun w h => List.mem_cons_of_mem _ (inN w h)) 0 rfl rfl 5 (by decide) (List.mem_cons_of_mem _ mF_N_52) rfl hd k
theorem Cg_N_56 (hF : jF D R nL X cc rN (cw :: jG) (jTys cI cZ) ret) (hd : decode cc pc = .ok (.getfield 56, 3)) (k : jJ l D R nL X (wC a cI cZ σ) (pc + 3) L (.int (σ 0 1) :: st)) : jJ l D R nL X (wC a cI cZ σ) pc L (.ref (a 0) :: st) :=
  jq_get hF (fun w h => List.mem_cons_of_mem _ (inN w h)) 0 rfl rfl 6 (by decide) (List.mem_cons_of_mem _ mF_N_56) rfl hd k
theorem Cp_N_56 (hF : jF D R nL X cc rN (cw :: jG) (jTys cI cZ) ret) {x : Int32} (hd : decode cc pc = .ok (.putfield 56, 3)) (k : jJ l D R nL X (wC a cI cZ (sU σ 0 1 x)) (pc + 3) L st) : jJ l D R nL X (wC a cI cZ σ) pc L (.int x :: .ref (a 0) :: st) :=
  jq_put hF _ (fun w h => List.mem_cons_of_mem _ (inN w h)) tyN tkN nmN 0 rfl rfl 6 (by decide) (List.mem_cons_of_mem _ mF_N_56) rfl rfl rfl rfl (Nat.le_of_ble_eq_true rfl) rfl hd k
end WC
end
section
def wM (a : Nat → Nat) (cI cZ : ClassId) (τ : jS) : va_W := [(a 0, .inr (6, [.int (τ 0 0), .int (τ 0 1), .int (τ 0 2), .int (τ 0 3), .int (τ 0 4), .ref (a 1), .ref (a 2), .ref (a 3), .ref (a 4), .ref (a 5), .ref (a 6), .ref (a 7), .ref (a 8), .ref (a 9), .int (τ 0 5), .ref (a 10), .ref (a 11), .ref (a 12), .ref (a 13), .int (τ 0 6), .ref (a 14), .ref (a 15), .int (τ 0 7), .ref (a 16), .ref (a 17), .ref (a 18), .ref (a 19), .ref (a 20), .ref (a 21), .ref (a 22), .ref (a 23), .ref (a 24), .ref (a 25), .ref (a 26), .ref (a 27), .ref (a 28), .ref (a 29), .int (τ 0 8), .int (τ 0 9), .int (τ 0 10), .int (τ 0 11), .int (τ 0 12)])),
  (a 1, .inl (cI, 6, .inl (τ 1))),
  (a 2, .inl (cI, 6, .inl (τ 2))),
  (a 3, .inl (cZ, 6, .inl (τ 3))),
  (a 4, .inl (cZ, 6, .inl (τ 4))),
  (a 5, .inl (cI, 24, .inl (τ 5))),
  (a 6, .inl (cI, 24, .inl (τ 6))),
  (a 7, .inl (cZ, 24, .inl (τ 7))),
  (a 8, .inl (cI, 24, .inl (τ 8))),
  (a 9, .inl (cI, 24, .inl (τ 9))),
  (a 10, .inl (cI, 10, .inl (τ 10))),
  (a 11, .inl (cI, 10, .inl (τ 11))),
  (a 12, .inl (cI, 10, .inl (τ 12))),
  (a 13, .inl (cZ, 10, .inl (τ 13))),
  (a 14, .inl (cI, 6, .inl (τ 14))),
  (a 15, .inl (cI, 6, .inl (τ 15))),
  (a 16, .inl (cZ, 48, .inl (τ 16))),
  (a 17, .inl (cI, 48, .inl (τ 17))),
  (a 18, .inl (cI, 48, .inl (τ 18))),
  (a 19, .inl (cI, 48, .inl (τ 19))),
  (a 20, .inl (cI, 48, .inl (τ 20))),
  (a 21, .inl (cI, 48, .inl (τ 21))),
  (a 22, .inl (cZ, 48, .inl (τ 22))),
  (a 23, .inl (cZ, 24, .inl (τ 23))),
  (a 24, .inl (cI, 24, .inl (τ 24))),
  (a 25, .inl (cI, 24, .inl (τ 25))),
  (a 26, .inl (cI, 168, .inl (τ 26))),
  (a 27, .inl (cI, 168, .inl (τ 27))),
  (a 28, .inl (cI, 64, .inl (τ 28))),
  (a 29, .inl (cI, 64, .inl (τ 29)))]
section WM
variable {l : Launch} {D : va_G} {R : Room} {nL : Nat} {X : jX} {cc : ByteArray} {own : String} {cw : Cond} {cI cZ : ClassId} {ret : Option FieldType} {a : Nat → Nat} {τ : jS} {pc : Nat} {L : List (Nat × Value)} {st : List Value}
theorem Mw_1 (f : Nat → Int32) : (wM a cI cZ τ).set 1 (a 1, .inl (cI, 6, .inl f)) = wM a cI cZ (sF τ 1 f) := rfl
theorem Ml_1 (hF : jF D R nL X cc own (cw :: jG) (jTys cI cZ) ret) {i : Nat} (hi : i < 6) (hd : decode cc pc = .ok (.iaload, 1)) (k : jJ l D R nL X (wM a cI cZ τ) (pc + 1) L (.int (τ 1 i) :: st)) : jJ l D R nL X (wM a cI cZ τ) pc L (.int (nI i) :: .ref (a 1) :: st) :=
  jq_ialdN hF 1 0 rfl rfl (by decide) hi hd k
theorem ML_1 (hF : jF D R nL X cc own (cw :: jG) (jTys cI cZ) ret) {i : Int32} (hi : vp_in i 6) (hd : decode cc pc = .ok (.iaload, 1)) (k : jJ l D R nL X (wM a cI cZ τ) (pc + 1) L (.int (τ 1 i.toNatClampNeg) :: st)) : jJ l D R nL X (wM a cI cZ τ) pc L (.int i :: .ref (a 1) :: st) :=
  jq_iald hF 1 0 rfl rfl hi hd k
theorem Ms_1 (hF : jF D R nL X cc own (cw :: jG) (jTys cI cZ) ret) {i : Nat} {x : Int32} (hi : i < 6) (hd : decode cc pc = .ok (.iastore, 1)) (k : jJ l D R nL X (wM a cI cZ (sU τ 1 i x)) (pc + 1) L st) : jJ l D R nL X (wM a cI cZ τ) pc L (.int x :: .int (nI i) :: .ref (a 1) :: st) :=
  jq_iastN hF 1 0 _ rfl rfl (by decide) hi rfl hd k
theorem MS_1 (hF : jF D R nL X cc own (cw :: jG) (jTys cI cZ) ret) {i x : Int32} (hi : vp_in i 6) (hd : decode cc pc = .ok (.iastore, 1)) (k : jJ l D R nL X (wM a cI cZ (sU τ 1 i.toNatClampNeg x)) (pc + 1) L st) : jJ l D R nL X (wM a cI cZ τ) pc L (.int x :: .int i :: .ref (a 1) :: st) :=
  jq_iast hF 1 0 _ rfl rfl hi rfl hd k
theorem Mw_2 (f : Nat → Int32) : (wM a cI cZ τ).set 2 (a 2, .inl (cI, 6, .inl f)) = wM a cI cZ (sF τ 2 f) := rfl
theorem Ml_2 (hF : jF D R nL X cc own (cw :: jG) (jTys cI cZ) ret) {i : Nat} (hi : i < 6) (hd : decode cc pc = .ok (.iaload, 1)) (k : jJ l D R nL X (wM a cI cZ τ) (pc + 1) L (.int (τ 2 i) :: st)) : jJ l D R nL X (wM a cI cZ τ) pc L (.int (nI i) :: .ref (a 2) :: st) :=
  jq_ialdN hF 2 0 rfl rfl (by decide) hi hd k
theorem ML_2 (hF : jF D R nL X cc own (cw :: jG) (jTys cI cZ) ret) {i : Int32} (hi : vp_in i 6) (hd : decode cc pc = .ok (.iaload, 1)) (k : jJ l D R nL X (wM a cI cZ τ) (pc + 1) L (.int (τ 2 i.toNatClampNeg) :: st)) : jJ l D R nL X (wM a cI cZ τ) pc L (.int i :: .ref (a 2) :: st) :=
  jq_iald hF 2 0 rfl rfl hi hd k
theorem Ms_2 (hF : jF D R nL X cc own (cw :: jG) (jTys cI cZ) ret) {i : Nat} {x : Int32} (hi : i < 6) (hd : decode cc pc = .ok (.iastore, 1)) (k : jJ l D R nL X (wM a cI cZ (sU τ 2 i x)) (pc + 1) L st) : jJ l D R nL X (wM a cI cZ τ) pc L (.int x :: .int (nI i) :: .ref (a 2) :: st) :=
  jq_iastN hF 2 0 _ rfl rfl (by decide) hi rfl hd k
theorem MS_2 (hF : jF D R nL X cc own (cw :: jG) (jTys cI cZ) ret) {i x : Int32} (hi : vp_in i 6) (hd : decode cc pc = .ok (.iastore, 1)) (k : jJ l D R nL X (wM a cI cZ (sU τ 2 i.toNatClampNeg x)) (pc + 1) L st) : jJ l D R nL X (wM a cI cZ τ) pc L (.int x :: .int i :: .ref (a 2) :: st) :=
  jq_iast hF 2 0 _ rfl rfl hi rfl hd k
theorem Mw_3 (f : Nat → Int32) : (wM a cI cZ τ).set 3 (a 3, .inl (cZ, 6, .inl f)) = wM a cI cZ (sF τ 3 f) := rfl
theorem Ml_3 (hF : jF D R nL X cc own (cw :: jG) (jTys cI cZ) ret) {i : Nat} (hi : i < 6) (hd : decode cc pc = .ok (.baload, 1)) (k : jJ l D R nL X (wM a cI cZ τ) (pc + 1) L (.int (τ 3 i) :: st)) : jJ l D R nL X (wM a cI cZ τ) pc L (.int (nI i) :: .ref (a 3) :: st) :=
  jq_zaldN hF 3 1 rfl rfl (by decide) hi hd k
theorem ML_3 (hF : jF D R nL X cc own (cw :: jG) (jTys cI cZ) ret) {i : Int32} (hi : vp_in i 6) (hd : decode cc pc = .ok (.baload, 1)) (k : jJ l D R nL X (wM a cI cZ τ) (pc + 1) L (.int (τ 3 i.toNatClampNeg) :: st)) : jJ l D R nL X (wM a cI cZ τ) pc L (.int i :: .ref (a 3) :: st) :=
  jq_zald hF 3 1 rfl rfl hi hd k
theorem Ms_3 (hF : jF D R nL X cc own (cw :: jG) (jTys cI cZ) ret) {i : Nat} {x : Int32} (hi : i < 6) (hx : vp_nar .boolean x = x) (hd : decode cc pc = .ok (.bastore, 1)) (k : jJ l D R nL X (wM a cI cZ (sU τ 3 i x)) (pc + 1) L st) : jJ l D R nL X (wM a cI cZ τ) pc L (.int x :: .int (nI i) :: .ref (a 3) :: st) :=
  jq_zastN hF 3 1 _ rfl rfl (by decide) hi (by rw [hx]; rfl) hd k
theorem MS_3 (hF : jF D R nL X cc own (cw :: jG) (jTys cI cZ) ret) {i x : Int32} (hi : vp_in i 6) (hx : vp_nar .boolean x = x) (hd : decode cc pc = .ok (.bastore, 1)) (k : jJ l D R nL X (wM a cI cZ (sU τ 3 i.toNatClampNeg x)) (pc + 1) L st) : jJ l D R nL X (wM a cI cZ τ) pc L (.int x :: .int i :: .ref (a 3) :: st) :=
  jq_zast hF 3 1 _ rfl rfl hi (by rw [hx]; rfl) hd k
theorem Mw_4 (f : Nat → Int32) : (wM a cI cZ τ).set 4 (a 4, .inl (cZ, 6, .inl f)) = wM a cI cZ (sF τ 4 f) := rfl
theorem Ml_4 (hF : jF D R nL X cc own (cw :: jG) (jTys cI cZ) ret) {i : Nat} (hi : i < 6) (hd : decode cc pc = .ok (.baload, 1)) (k : jJ l D R nL X (wM a cI cZ τ) (pc + 1) L (.int (τ 4 i) :: st)) : jJ l D R nL X (wM a cI cZ τ) pc L (.int (nI i) :: .ref (a 4) :: st) :=
  jq_zaldN hF 4 1 rfl rfl (by decide) hi hd k
theorem ML_4 (hF : jF D R nL X cc own (cw :: jG) (jTys cI cZ) ret) {i : Int32} (hi : vp_in i 6) (hd : decode cc pc = .ok (.baload, 1)) (k : jJ l D R nL X (wM a cI cZ τ) (pc + 1) L (.int (τ 4 i.toNatClampNeg) :: st)) : jJ l D R nL X (wM a cI cZ τ) pc L (.int i :: .ref (a 4) :: st) :=
  jq_zald hF 4 1 rfl rfl hi hd k
theorem Ms_4 (hF : jF D R nL X cc own (cw :: jG) (jTys cI cZ) ret) {i : Nat} {x : Int32} (hi : i < 6) (hx : vp_nar .boolean x = x) (hd : decode cc pc = .ok (.bastore, 1)) (k : jJ l D R nL X (wM a cI cZ (sU τ 4 i x)) (pc + 1) L st) : jJ l D R nL X (wM a cI cZ τ) pc L (.int x :: .int (nI i) :: .ref (a 4) :: st) :=
  jq_zastN hF 4 1 _ rfl rfl (by decide) hi (by rw [hx]; rfl) hd k
theorem MS_4 (hF : jF D R nL X cc own (cw :: jG) (jTys cI cZ) ret) {i x : Int32} (hi : vp_in i 6) (hx : vp_nar .boolean x = x) (hd : decode cc pc = .ok (.bastore, 1)) (k : jJ l D R nL X (wM a cI cZ (sU τ 4 i.toNatClampNeg x)) (pc + 1) L st) : jJ l D R nL X (wM a cI cZ τ) pc L (.int x :: .int i :: .ref (a 4) :: st) :=
  jq_zast hF 4 1 _ rfl rfl hi (by rw [hx]; rfl) hd k
theorem Mw_5 (f : Nat → Int32) : (wM a cI cZ τ).set 5 (a 5, .inl (cI, 24, .inl f)) = wM a cI cZ (sF τ 5 f) := rfl
theorem Ml_5 (hF : jF D R nL X cc own (cw :: jG) (jTys cI cZ) ret) {i : Nat} (hi : i < 24) (hd : decode cc pc = .ok (.iaload, 1)) (k : jJ l D R nL X (wM a cI cZ τ) (pc + 1) L (.int (τ 5 i) :: st)) : jJ l D R nL X (wM a cI cZ τ) pc L (.int (nI i) :: .ref (a 5) :: st) :=
  jq_ialdN hF 5 0 rfl rfl (by decide) hi hd k
theorem ML_5 (hF : jF D R nL X cc own (cw :: jG) (jTys cI cZ) ret) {i : Int32} (hi : vp_in i 24) (hd : decode cc pc = .ok (.iaload, 1)) (k : jJ l D R nL X (wM a cI cZ τ) (pc + 1) L (.int (τ 5 i.toNatClampNeg) :: st)) : jJ l D R nL X (wM a cI cZ τ) pc L (.int i :: .ref (a 5) :: st) :=
  jq_iald hF 5 0 rfl rfl hi hd k
theorem Ms_5 (hF : jF D R nL X cc own (cw :: jG) (jTys cI cZ) ret) {i : Nat} {x : Int32} (hi : i < 24) (hd : decode cc pc = .ok (.iastore, 1)) (k : jJ l D R nL X (wM a cI cZ (sU τ 5 i x)) (pc + 1) L st) : jJ l D R nL X (wM a cI cZ τ) pc L (.int x :: .int (nI i) :: .ref (a 5) :: st) :=
  jq_iastN hF 5 0 _ rfl rfl (by decide) hi rfl hd k
theorem MS_5 (hF : jF D R nL X cc own (cw :: jG) (jTys cI cZ) ret) {i x : Int32} (hi : vp_in i 24) (hd : decode cc pc = .ok (.iastore, 1)) (k : jJ l D R nL X (wM a cI cZ (sU τ 5 i.toNatClampNeg x)) (pc + 1) L st) : jJ l D R nL X (wM a cI cZ τ) pc L (.int x :: .int i :: .ref (a 5) :: st) :=
  jq_iast hF 5 0 _ rfl rfl hi rfl hd k
theorem Mw_6 (f : Nat → Int32) : (wM a cI cZ τ).set 6 (a 6, .inl (cI, 24, .inl f)) = wM a cI cZ (sF τ 6 f) := rfl
theorem Ml_6 (hF : jF D R nL X cc own (cw :: jG) (jTys cI cZ) ret) {i : Nat} (hi : i < 24) (hd : decode cc pc = .ok (.iaload, 1)) (k : jJ l D R nL X (wM a cI cZ τ) (pc + 1) L (.int (τ 6 i) :: st)) : jJ l D R nL X (wM a cI cZ τ) pc L (.int (nI i) :: .ref (a 6) :: st) :=
  jq_ialdN hF 6 0 rfl rfl (by decide) hi hd k
theorem ML_6 (hF : jF D R nL X cc own (cw :: jG) (jTys cI cZ) ret) {i : Int32} (hi : vp_in i 24) (hd : decode cc pc = .ok (.iaload, 1)) (k : jJ l D R nL X (wM a cI cZ τ) (pc + 1) L (.int (τ 6 i.toNatClampNeg) :: st)) : jJ l D R nL X (wM a cI cZ τ) pc L (.int i :: .ref (a 6) :: st) :=
  jq_iald hF 6 0 rfl rfl hi hd k
theorem Ms_6 (hF : jF D R nL X cc own (cw :: jG) (jTys cI cZ) ret) {i : Nat} {x : Int32} (hi : i < 24) (hd : decode cc pc = .ok (.iastore, 1)) (k : jJ l D R nL X (wM a cI cZ (sU τ 6 i x)) (pc + 1) L st) : jJ l D R nL X (wM a cI cZ τ) pc L (.int x :: .int (nI i) :: .ref (a 6) :: st) :=
  jq_iastN hF 6 0 _ rfl rfl (by decide) hi rfl hd k
theorem MS_6 (hF : jF D R nL X cc own (cw :: jG) (jTys cI cZ) ret) {i x : Int32} (hi : vp_in i 24) (hd : decode cc pc = .ok (.iastore, 1)) (k : jJ l D R nL X (wM a cI cZ (sU τ 6 i.toNatClampNeg x)) (pc + 1) L st) : jJ l D R nL X (wM a cI cZ τ) pc L (.int x :: .int i :: .ref (a 6) :: st) :=
  jq_iast hF 6 0 _ rfl rfl hi rfl hd k
theorem Mw_7 (f : Nat → Int32) : (wM a cI cZ τ).set 7 (a 7, .inl (cZ, 24, .inl f)) = wM a cI cZ (sF τ 7 f) := rfl
theorem Ml_7 (hF : jF D R nL X cc own (cw :: jG) (jTys cI cZ) ret) {i : Nat} (hi : i < 24) (hd : decode cc pc = .ok (.baload, 1)) (k : jJ l D R nL X (wM a cI cZ τ) (pc + 1) L (.int (τ 7 i) :: st)) : jJ l D R nL X (wM a cI cZ τ) pc L (.int (nI i) :: .ref (a 7) :: st) :=
  jq_zaldN hF 7 1 rfl rfl (by decide) hi hd k
theorem ML_7 (hF : jF D R nL X cc own (cw :: jG) (jTys cI cZ) ret) {i : Int32} (hi : vp_in i 24) (hd : decode cc pc = .ok (.baload, 1)) (k : jJ l D R nL X (wM a cI cZ τ) (pc + 1) L (.int (τ 7 i.toNatClampNeg) :: st)) : jJ l D R nL X (wM a cI cZ τ) pc L (.int i :: .ref (a 7) :: st) :=
  jq_zald hF 7 1 rfl rfl hi hd k
theorem Ms_7 (hF : jF D R nL X cc own (cw :: jG) (jTys cI cZ) ret) {i : Nat} {x : Int32} (hi : i < 24) (hx : vp_nar .boolean x = x) (hd : decode cc pc = .ok (.bastore, 1)) (k : jJ l D R nL X (wM a cI cZ (sU τ 7 i x)) (pc + 1) L st) : jJ l D R nL X (wM a cI cZ τ) pc L (.int x :: .int (nI i) :: .ref (a 7) :: st) :=
  jq_zastN hF 7 1 _ rfl rfl (by decide) hi (by rw [hx]; rfl) hd k
theorem MS_7 (hF : jF D R nL X cc own (cw :: jG) (jTys cI cZ) ret) {i x : Int32} (hi : vp_in i 24) (hx : vp_nar .boolean x = x) (hd : decode cc pc = .ok (.bastore, 1)) (k : jJ l D R nL X (wM a cI cZ (sU τ 7 i.toNatClampNeg x)) (pc + 1) L st) : jJ l D R nL X (wM a cI cZ τ) pc L (.int x :: .int i :: .ref (a 7) :: st) :=
  jq_zast hF 7 1 _ rfl rfl hi (by rw [hx]; rfl) hd k
theorem Mw_8 (f : Nat → Int32) : (wM a cI cZ τ).set 8 (a 8, .inl (cI, 24, .inl f)) = wM a cI cZ (sF τ 8 f) := rfl
theorem Ml_8 (hF : jF D R nL X cc own (cw :: jG) (jTys cI cZ) ret) {i : Nat} (hi : i < 24) (hd : decode cc pc = .ok (.iaload, 1)) (k : jJ l D R nL X (wM a cI cZ τ) (pc + 1) L (.int (τ 8 i) :: st)) : jJ l D R nL X (wM a cI cZ τ) pc L (.int (nI i) :: .ref (a 8) :: st) :=
  jq_ialdN hF 8 0 rfl rfl (by decide) hi hd k
theorem ML_8 (hF : jF D R nL X cc own (cw :: jG) (jTys cI cZ) ret) {i : Int32} (hi : vp_in i 24) (hd : decode cc pc = .ok (.iaload, 1)) (k : jJ l D R nL X (wM a cI cZ τ) (pc + 1) L (.int (τ 8 i.toNatClampNeg) :: st)) : jJ l D R nL X (wM a cI cZ τ) pc L (.int i :: .ref (a 8) :: st) :=
  jq_iald hF 8 0 rfl rfl hi hd k
theorem Ms_8 (hF : jF D R nL X cc own (cw :: jG) (jTys cI cZ) ret) {i : Nat} {x : Int32} (hi : i < 24) (hd : decode cc pc = .ok (.iastore, 1)) (k : jJ l D R nL X (wM a cI cZ (sU τ 8 i x)) (pc + 1) L st) : jJ l D R nL X (wM a cI cZ τ) pc L (.int x :: .int (nI i) :: .ref (a 8) :: st) :=
  jq_iastN hF 8 0 _ rfl rfl (by decide) hi rfl hd k
theorem MS_8 (hF : jF D R nL X cc own (cw :: jG) (jTys cI cZ) ret) {i x : Int32} (hi : vp_in i 24) (hd : decode cc pc = .ok (.iastore, 1)) (k : jJ l D R nL X (wM a cI cZ (sU τ 8 i.toNatClampNeg x)) (pc + 1) L st) : jJ l D R nL X (wM a cI cZ τ) pc L (.int x :: .int i :: .ref (a 8) :: st) :=
  jq_iast hF 8 0 _ rfl rfl hi rfl hd k
theorem Mw_9 (f : Nat → Int32) : (wM a cI cZ τ).set 9 (a 9, .inl (cI, 24, .inl f)) = wM a cI cZ (sF τ 9 f) := rfl
theorem Ml_9 (hF : jF D R nL X cc own (cw :: jG) (jTys cI cZ) ret) {i : Nat} (hi : i < 24) (hd : decode cc pc = .ok (.iaload, 1)) (k : jJ l D R nL X (wM a cI cZ τ) (pc + 1) L (.int (τ 9 i) :: st)) : jJ l D R nL X (wM a cI cZ τ) pc L (.int (nI i) :: .ref (a 9) :: st) :=
  jq_ialdN hF 9 0 rfl rfl (by decide) hi hd k
theorem ML_9 (hF : jF D R nL X cc own (cw :: jG) (jTys cI cZ) ret) {i : Int32} (hi : vp_in i 24) (hd : decode cc pc = .ok (.iaload, 1)) (k : jJ l D R nL X (wM a cI cZ τ) (pc + 1) L (.int (τ 9 i.toNatClampNeg) :: st)) : jJ l D R nL X (wM a cI cZ τ) pc L (.int i :: .ref (a 9) :: st) :=
  jq_iald hF 9 0 rfl rfl hi hd k
theorem Ms_9 (hF : jF D R nL X cc own (cw :: jG) (jTys cI cZ) ret) {i : Nat} {x : Int32} (hi : i < 24) (hd : decode cc pc = .ok (.iastore, 1)) (k : jJ l D R nL X (wM a cI cZ (sU τ 9 i x)) (pc + 1) L st) : jJ l D R nL X (wM a cI cZ τ) pc L (.int x :: .int (nI i) :: .ref (a 9) :: st) :=
  jq_iastN hF 9 0 _ rfl rfl (by decide) hi rfl hd k
theorem MS_9 (hF : jF D R nL X cc own (cw :: jG) (jTys cI cZ) ret) {i x : Int32} (hi : vp_in i 24) (hd : decode cc pc = .ok (.iastore, 1)) (k : jJ l D R nL X (wM a cI cZ (sU τ 9 i.toNatClampNeg x)) (pc + 1) L st) : jJ l D R nL X (wM a cI cZ τ) pc L (.int x :: .int i :: .ref (a 9) :: st) :=
  jq_iast hF 9 0 _ rfl rfl hi rfl hd k
theorem Mw_10 (f : Nat → Int32) : (wM a cI cZ τ).set 10 (a 10, .inl (cI, 10, .inl f)) = wM a cI cZ (sF τ 10 f) := rfl
theorem Ml_10 (hF : jF D R nL X cc own (cw :: jG) (jTys cI cZ) ret) {i : Nat} (hi : i < 10) (hd : decode cc pc = .ok (.iaload, 1)) (k : jJ l D R nL X (wM a cI cZ τ) (pc + 1) L (.int (τ 10 i) :: st)) : jJ l D R nL X (wM a cI cZ τ) pc L (.int (nI i) :: .ref (a 10) :: st) :=
  jq_ialdN hF 10 0 rfl rfl (by decide) hi hd k
theorem ML_10 (hF : jF D R nL X cc own (cw :: jG) (jTys cI cZ) ret) {i : Int32} (hi : vp_in i 10) (hd : decode cc pc = .ok (.iaload, 1)) (k : jJ l D R nL X (wM a cI cZ τ) (pc + 1) L (.int (τ 10 i.toNatClampNeg) :: st)) : jJ l D R nL X (wM a cI cZ τ) pc L (.int i :: .ref (a 10) :: st) :=
  jq_iald hF 10 0 rfl rfl hi hd k
theorem Ms_10 (hF : jF D R nL X cc own (cw :: jG) (jTys cI cZ) ret) {i : Nat} {x : Int32} (hi : i < 10) (hd : decode cc pc = .ok (.iastore, 1)) (k : jJ l D R nL X (wM a cI cZ (sU τ 10 i x)) (pc + 1) L st) : jJ l D R nL X (wM a cI cZ τ) pc L (.int x :: .int (nI i) :: .ref (a 10) :: st) :=
  jq_iastN hF 10 0 _ rfl rfl (by decide) hi rfl hd k
theorem MS_10 (hF : jF D R nL X cc own (cw :: jG) (jTys cI cZ) ret) {i x : Int32} (hi : vp_in i 10) (hd : decode cc pc = .ok (.iastore, 1)) (k : jJ l D R nL X (wM a cI cZ (sU τ 10 i.toNatClampNeg x)) (pc + 1) L st) : jJ l D R nL X (wM a cI cZ τ) pc L (.int x :: .int i :: .ref (a 10) :: st) :=
  jq_iast hF 10 0 _ rfl rfl hi rfl hd k
theorem Mw_11 (f : Nat → Int32) : (wM a cI cZ τ).set 11 (a 11, .inl (cI, 10, .inl f)) = wM a cI cZ (sF τ 11 f) := rfl
theorem Ml_11 (hF : jF D R nL X cc own (cw :: jG) (jTys cI cZ) ret) {i : Nat} (hi : i < 10) (hd : decode cc pc = .ok (.iaload, 1)) (k : jJ l D R nL X (wM a cI cZ τ) (pc + 1) L (.int (τ 11 i) :: st)) : jJ l D R nL X (wM a cI cZ τ) pc L (.int (nI i) :: .ref (a 11) :: st) :=
  jq_ialdN hF 11 0 rfl rfl (by decide) hi hd k
theorem ML_11 (hF : jF D R nL X cc own (cw :: jG) (jTys cI cZ) ret) {i : Int32} (hi : vp_in i 10) (hd : decode cc pc = .ok (.iaload, 1)) (k : jJ l D R nL X (wM a cI cZ τ) (pc + 1) L (.int (τ 11 i.toNatClampNeg) :: st)) : jJ l D R nL X (wM a cI cZ τ) pc L (.int i :: .ref (a 11) :: st) :=
  jq_iald hF 11 0 rfl rfl hi hd k
theorem Ms_11 (hF : jF D R nL X cc own (cw :: jG) (jTys cI cZ) ret) {i : Nat} {x : Int32} (hi : i < 10) (hd : decode cc pc = .ok (.iastore, 1)) (k : jJ l D R nL X (wM a cI cZ (sU τ 11 i x)) (pc + 1) L st) : jJ l D R nL X (wM a cI cZ τ) pc L (.int x :: .int (nI i) :: .ref (a 11) :: st) :=
  jq_iastN hF 11 0 _ rfl rfl (by decide) hi rfl hd k
theorem MS_11 (hF : jF D R nL X cc own (cw :: jG) (jTys cI cZ) ret) {i x : Int32} (hi : vp_in i 10) (hd : decode cc pc = .ok (.iastore, 1)) (k : jJ l D R nL X (wM a cI cZ (sU τ 11 i.toNatClampNeg x)) (pc + 1) L st) : jJ l D R nL X (wM a cI cZ τ) pc L (.int x :: .int i :: .ref (a 11) :: st) :=
  jq_iast hF 11 0 _ rfl rfl hi rfl hd k
theorem Mw_12 (f : Nat → Int32) : (wM a cI cZ τ).set 12 (a 12, .inl (cI, 10, .inl f)) = wM a cI cZ (sF τ 12 f) := rfl
theorem Ml_12 (hF : jF D R nL X cc own (cw :: jG) (jTys cI cZ) ret) {i : Nat} (hi : i < 10) (hd : decode cc pc = .ok (.iaload, 1)) (k : jJ l D R nL X (wM a cI cZ τ) (pc + 1) L (.int (τ 12 i) :: st)) : jJ l D R nL X (wM a cI cZ τ) pc L (.int (nI i) :: .ref (a 12) :: st) :=
  jq_ialdN hF 12 0 rfl rfl (by decide) hi hd k
theorem ML_12 (hF : jF D R nL X cc own (cw :: jG) (jTys cI cZ) ret) {i : Int32} (hi : vp_in i 10) (hd : decode cc pc = .ok (.iaload, 1)) (k : jJ l D R nL X (wM a cI cZ τ) (pc + 1) L (.int (τ 12 i.toNatClampNeg) :: st)) : jJ l D R nL X (wM a cI cZ τ) pc L (.int i :: .ref (a 12) :: st) :=
  jq_iald hF 12 0 rfl rfl hi hd k
theorem Ms_12 (hF : jF D R nL X cc own (cw :: jG) (jTys cI cZ) ret) {i : Nat} {x : Int32} (hi : i < 10) (hd : decode cc pc = .ok (.iastore, 1)) (k : jJ l D R nL X (wM a cI cZ (sU τ 12 i x)) (pc + 1) L st) : jJ l D R nL X (wM a cI cZ τ) pc L (.int x :: .int (nI i) :: .ref (a 12) :: st) :=
  jq_iastN hF 12 0 _ rfl rfl (by decide) hi rfl hd k
theorem MS_12 (hF : jF D R nL X cc own (cw :: jG) (jTys cI cZ) ret) {i x : Int32} (hi : vp_in i 10) (hd : decode cc pc = .ok (.iastore, 1)) (k : jJ l D R nL X (wM a cI cZ (sU τ 12 i.toNatClampNeg x)) (pc + 1) L st) : jJ l D R nL X (wM a cI cZ τ) pc L (.int x :: .int i :: .ref (a 12) :: st) :=
  jq_iast hF 12 0 _ rfl rfl hi rfl hd k
theorem Mw_13 (f : Nat → Int32) : (wM a cI cZ τ).set 13 (a 13, .inl (cZ, 10, .inl f)) = wM a cI cZ (sF τ 13 f) := rfl
theorem Ml_13 (hF : jF D R nL X cc own (cw :: jG) (jTys cI cZ) ret) {i : Nat} (hi : i < 10) (hd : decode cc pc = .ok (.baload, 1)) (k : jJ l D R nL X (wM a cI cZ τ) (pc + 1) L (.int (τ 13 i) :: st)) : jJ l D R nL X (wM a cI cZ τ) pc L (.int (nI i) :: .ref (a 13) :: st) :=
  jq_zaldN hF 13 1 rfl rfl (by decide) hi hd k
theorem ML_13 (hF : jF D R nL X cc own (cw :: jG) (jTys cI cZ) ret) {i : Int32} (hi : vp_in i 10) (hd : decode cc pc = .ok (.baload, 1)) (k : jJ l D R nL X (wM a cI cZ τ) (pc + 1) L (.int (τ 13 i.toNatClampNeg) :: st)) : jJ l D R nL X (wM a cI cZ τ) pc L (.int i :: .ref (a 13) :: st) :=
  jq_zald hF 13 1 rfl rfl hi hd k
theorem Ms_13 (hF : jF D R nL X cc own (cw :: jG) (jTys cI cZ) ret) {i : Nat} {x : Int32} (hi : i < 10) (hx : vp_nar .boolean x = x) (hd : decode cc pc = .ok (.bastore, 1)) (k : jJ l D R nL X (wM a cI cZ (sU τ 13 i x)) (pc + 1) L st) : jJ l D R nL X (wM a cI cZ τ) pc L (.int x :: .int (nI i) :: .ref (a 13) :: st) :=
  jq_zastN hF 13 1 _ rfl rfl (by decide) hi (by rw [hx]; rfl) hd k
theorem MS_13 (hF : jF D R nL X cc own (cw :: jG) (jTys cI cZ) ret) {i x : Int32} (hi : vp_in i 10) (hx : vp_nar .boolean x = x) (hd : decode cc pc = .ok (.bastore, 1)) (k : jJ l D R nL X (wM a cI cZ (sU τ 13 i.toNatClampNeg x)) (pc + 1) L st) : jJ l D R nL X (wM a cI cZ τ) pc L (.int x :: .int i :: .ref (a 13) :: st) :=
  jq_zast hF 13 1 _ rfl rfl hi (by rw [hx]; rfl) hd k
theorem Mw_14 (f : Nat → Int32) : (wM a cI cZ τ).set 14 (a 14, .inl (cI, 6, .inl f)) = wM a cI cZ (sF τ 14 f) := rfl
theorem Ml_14 (hF : jF D R nL X cc own (cw :: jG) (jTys cI cZ) ret) {i : Nat} (hi : i < 6) (hd : decode cc pc = .ok (.iaload, 1)) (k : jJ l D R nL X (wM a cI cZ τ) (pc + 1) L (.int (τ 14 i) :: st)) : jJ l D R nL X (wM a cI cZ τ) pc L (.int (nI i) :: .ref (a 14) :: st) :=
  jq_ialdN hF 14 0 rfl rfl (by decide) hi hd k
theorem ML_14 (hF : jF D R nL X cc own (cw :: jG) (jTys cI cZ) ret) {i : Int32} (hi : vp_in i 6) (hd : decode cc pc = .ok (.iaload, 1)) (k : jJ l D R nL X (wM a cI cZ τ) (pc + 1) L (.int (τ 14 i.toNatClampNeg) :: st)) : jJ l D R nL X (wM a cI cZ τ) pc L (.int i :: .ref (a 14) :: st) :=
  jq_iald hF 14 0 rfl rfl hi hd k
theorem Ms_14 (hF : jF D R nL X cc own (cw :: jG) (jTys cI cZ) ret) {i : Nat} {x : Int32} (hi : i < 6) (hd : decode cc pc = .ok (.iastore, 1)) (k : jJ l D R nL X (wM a cI cZ (sU τ 14 i x)) (pc + 1) L st) : jJ l D R nL X (wM a cI cZ τ) pc L (.int x :: .int (nI i) :: .ref (a 14) :: st) :=
  jq_iastN hF 14 0 _ rfl rfl (by decide) hi rfl hd k
theorem MS_14 (hF : jF D R nL X cc own (cw :: jG) (jTys cI cZ) ret) {i x : Int32} (hi : vp_in i 6) (hd : decode cc pc = .ok (.iastore, 1)) (k : jJ l D R nL X (wM a cI cZ (sU τ 14 i.toNatClampNeg x)) (pc + 1) L st) : jJ l D R nL X (wM a cI cZ τ) pc L (.int x :: .int i :: .ref (a 14) :: st) :=
  jq_iast hF 14 0 _ rfl rfl hi rfl hd k
theorem Mw_15 (f : Nat → Int32) : (wM a cI cZ τ).set 15 (a 15, .inl (cI, 6, .inl f)) = wM a cI cZ (sF τ 15 f) := rfl
theorem Ml_15 (hF : jF D R nL X cc own (cw :: jG) (jTys cI cZ) ret) {i : Nat} (hi : i < 6) (hd : decode cc pc = .ok (.iaload, 1)) (k : jJ l D R nL X (wM a cI cZ τ) (pc + 1) L (.int (τ 15 i) :: st)) : jJ l D R nL X (wM a cI cZ τ) pc L (.int (nI i) :: .ref (a 15) :: st) :=
  jq_ialdN hF 15 0 rfl rfl (by decide) hi hd k
theorem ML_15 (hF : jF D R nL X cc own (cw :: jG) (jTys cI cZ) ret) {i : Int32} (hi : vp_in i 6) (hd : decode cc pc = .ok (.iaload, 1)) (k : jJ l D R nL X (wM a cI cZ τ) (pc + 1) L (.int (τ 15 i.toNatClampNeg) :: st)) : jJ l D R nL X (wM a cI cZ τ) pc L (.int i :: .ref (a 15) :: st) :=
  jq_iald hF 15 0 rfl rfl hi hd k
theorem Ms_15 (hF : jF D R nL X cc own (cw :: jG) (jTys cI cZ) ret) {i : Nat} {x : Int32} (hi : i < 6) (hd : decode cc pc = .ok (.iastore, 1)) (k : jJ l D R nL X (wM a cI cZ (sU τ 15 i x)) (pc + 1) L st) : jJ l D R nL X (wM a cI cZ τ) pc L (.int x :: .int (nI i) :: .ref (a 15) :: st) :=
  jq_iastN hF 15 0 _ rfl rfl (by decide) hi rfl hd k
theorem MS_15 (hF : jF D R nL X cc own (cw :: jG) (jTys cI cZ) ret) {i x : Int32} (hi : vp_in i 6) (hd : decode cc pc = .ok (.iastore, 1)) (k : jJ l D R nL X (wM a cI cZ (sU τ 15 i.toNatClampNeg x)) (pc + 1) L st) : jJ l D R nL X (wM a cI cZ τ) pc L (.int x :: .int i :: .ref (a 15) :: st) :=
  jq_iast hF 15 0 _ rfl rfl hi rfl hd k
theorem Mw_16 (f : Nat → Int32) : (wM a cI cZ τ).set 16 (a 16, .inl (cZ, 48, .inl f)) = wM a cI cZ (sF τ 16 f) := rfl
theorem Ml_16 (hF : jF D R nL X cc own (cw :: jG) (jTys cI cZ) ret) {i : Nat} (hi : i < 48) (hd : decode cc pc = .ok (.baload, 1)) (k : jJ l D R nL X (wM a cI cZ τ) (pc + 1) L (.int (τ 16 i) :: st)) : jJ l D R nL X (wM a cI cZ τ) pc L (.int (nI i) :: .ref (a 16) :: st) :=
  jq_zaldN hF 16 1 rfl rfl (by decide) hi hd k
theorem ML_16 (hF : jF D R nL X cc own (cw :: jG) (jTys cI cZ) ret) {i : Int32} (hi : vp_in i 48) (hd : decode cc pc = .ok (.baload, 1)) (k : jJ l D R nL X (wM a cI cZ τ) (pc + 1) L (.int (τ 16 i.toNatClampNeg) :: st)) : jJ l D R nL X (wM a cI cZ τ) pc L (.int i :: .ref (a 16) :: st) :=
  jq_zald hF 16 1 rfl rfl hi hd k
theorem Ms_16 (hF : jF D R nL X cc own (cw :: jG) (jTys cI cZ) ret) {i : Nat} {x : Int32} (hi : i < 48) (hx : vp_nar .boolean x = x) (hd : decode cc pc = .ok (.bastore, 1)) (k : jJ l D R nL X (wM a cI cZ (sU τ 16 i x)) (pc + 1) L st) : jJ l D R nL X (wM a cI cZ τ) pc L (.int x :: .int (nI i) :: .ref (a 16) :: st) :=
  jq_zastN hF 16 1 _ rfl rfl (by decide) hi (by rw [hx]; rfl) hd k
theorem MS_16 (hF : jF D R nL X cc own (cw :: jG) (jTys cI cZ) ret) {i x : Int32} (hi : vp_in i 48) (hx : vp_nar .boolean x = x) (hd : decode cc pc = .ok (.bastore, 1)) (k : jJ l D R nL X (wM a cI cZ (sU τ 16 i.toNatClampNeg x)) (pc + 1) L st) : jJ l D R nL X (wM a cI cZ τ) pc L (.int x :: .int i :: .ref (a 16) :: st) :=
  jq_zast hF 16 1 _ rfl rfl hi (by rw [hx]; rfl) hd k
theorem Mw_17 (f : Nat → Int32) : (wM a cI cZ τ).set 17 (a 17, .inl (cI, 48, .inl f)) = wM a cI cZ (sF τ 17 f) := rfl
theorem Ml_17 (hF : jF D R nL X cc own (cw :: jG) (jTys cI cZ) ret) {i : Nat} (hi : i < 48) (hd : decode cc pc = .ok (.iaload, 1)) (k : jJ l D R nL X (wM a cI cZ τ) (pc + 1) L (.int (τ 17 i) :: st)) : jJ l D R nL X (wM a cI cZ τ) pc L (.int (nI i) :: .ref (a 17) :: st) :=
  jq_ialdN hF 17 0 rfl rfl (by decide) hi hd k
theorem ML_17 (hF : jF D R nL X cc own (cw :: jG) (jTys cI cZ) ret) {i : Int32} (hi : vp_in i 48) (hd : decode cc pc = .ok (.iaload, 1)) (k : jJ l D R nL X (wM a cI cZ τ) (pc + 1) L (.int (τ 17 i.toNatClampNeg) :: st)) : jJ l D R nL X (wM a cI cZ τ) pc L (.int i :: .ref (a 17) :: st) :=
  jq_iald hF 17 0 rfl rfl hi hd k
theorem Ms_17 (hF : jF D R nL X cc own (cw :: jG) (jTys cI cZ) ret) {i : Nat} {x : Int32} (hi : i < 48) (hd : decode cc pc = .ok (.iastore, 1)) (k : jJ l D R nL X (wM a cI cZ (sU τ 17 i x)) (pc + 1) L st) : jJ l D R nL X (wM a cI cZ τ) pc L (.int x :: .int (nI i) :: .ref (a 17) :: st) :=
  jq_iastN hF 17 0 _ rfl rfl (by decide) hi rfl hd k
theorem MS_17 (hF : jF D R nL X cc own (cw :: jG) (jTys cI cZ) ret) {i x : Int32} (hi : vp_in i 48) (hd : decode cc pc = .ok (.iastore, 1)) (k : jJ l D R nL X (wM a cI cZ (sU τ 17 i.toNatClampNeg x)) (pc + 1) L st) : jJ l D R nL X (wM a cI cZ τ) pc L (.int x :: .int i :: .ref (a 17) :: st) :=
  jq_iast hF 17 0 _ rfl rfl hi rfl hd k
theorem Mw_18 (f : Nat → Int32) : (wM a cI cZ τ).set 18 (a 18, .inl (cI, 48, .inl f)) = wM a cI cZ (sF τ 18 f) := rfl
theorem Ml_18 (hF : jF D R nL X cc own (cw :: jG) (jTys cI cZ) ret) {i : Nat} (hi : i < 48) (hd : decode cc pc = .ok (.iaload, 1)) (k : jJ l D R nL X (wM a cI cZ τ) (pc + 1) L (.int (τ 18 i) :: st)) : jJ l D R nL X (wM a cI cZ τ) pc L (.int (nI i) :: .ref (a 18) :: st) :=
  jq_ialdN hF 18 0 rfl rfl (by decide) hi hd k
theorem ML_18 (hF : jF D R nL X cc own (cw :: jG) (jTys cI cZ) ret) {i : Int32} (hi : vp_in i 48) (hd : decode cc pc = .ok (.iaload, 1)) (k : jJ l D R nL X (wM a cI cZ τ) (pc + 1) L (.int (τ 18 i.toNatClampNeg) :: st)) : jJ l D R nL X (wM a cI cZ τ) pc L (.int i :: .ref (a 18) :: st) :=
  jq_iald hF 18 0 rfl rfl hi hd k
theorem Ms_18 (hF : jF D R nL X cc own (cw :: jG) (jTys cI cZ) ret) {i : Nat} {x : Int32} (hi : i < 48) (hd : decode cc pc = .ok (.iastore, 1)) (k : jJ l D R nL X (wM a cI cZ (sU τ 18 i x)) (pc + 1) L st) : jJ l D R nL X (wM a cI cZ τ) pc L (.int x :: .int (nI i) :: .ref (a 18) :: st) :=
  jq_iastN hF 18 0 _ rfl rfl (by decide) hi rfl hd k
theorem MS_18 (hF : jF D R nL X cc own (cw :: jG) (jTys cI cZ) ret) {i x : Int32} (hi : vp_in i 48) (hd : decode cc pc = .ok (.iastore, 1)) (k : jJ l D R nL X (wM a cI cZ (sU τ 18 i.toNatClampNeg x)) (pc + 1) L st) : jJ l D R nL X (wM a cI cZ τ) pc L (.int x :: .int i :: .ref (a 18) :: st) :=
  jq_iast hF 18 0 _ rfl rfl hi rfl hd k
theorem Mw_19 (f : Nat → Int32) : (wM a cI cZ τ).set 19 (a 19, .inl (cI, 48, .inl f)) = wM a cI cZ (sF τ 19 f) := rfl
theorem Ml_19 (hF : jF D R nL X cc own (cw :: jG) (jTys cI cZ) ret) {i : Nat} (hi : i < 48) (hd : decode cc pc = .ok (.iaload, 1)) (k : jJ l D R nL X (wM a cI cZ τ) (pc + 1) L (.int (τ 19 i) :: st)) : jJ l D R nL X (wM a cI cZ τ) pc L (.int (nI i) :: .ref (a 19) :: st) :=
  jq_ialdN hF 19 0 rfl rfl (by decide) hi hd k
theorem ML_19 (hF : jF D R nL X cc own (cw :: jG) (jTys cI cZ) ret) {i : Int32} (hi : vp_in i 48) (hd : decode cc pc = .ok (.iaload, 1)) (k : jJ l D R nL X (wM a cI cZ τ) (pc + 1) L (.int (τ 19 i.toNatClampNeg) :: st)) : jJ l D R nL X (wM a cI cZ τ) pc L (.int i :: .ref (a 19) :: st) :=
  jq_iald hF 19 0 rfl rfl hi hd k
theorem Ms_19 (hF : jF D R nL X cc own (cw :: jG) (jTys cI cZ) ret) {i : Nat} {x : Int32} (hi : i < 48) (hd : decode cc pc = .ok (.iastore, 1)) (k : jJ l D R nL X (wM a cI cZ (sU τ 19 i x)) (pc + 1) L st) : jJ l D R nL X (wM a cI cZ τ) pc L (.int x :: .int (nI i) :: .ref (a 19) :: st) :=
  jq_iastN hF 19 0 _ rfl rfl (by decide) hi rfl hd k
theorem MS_19 (hF : jF D R nL X cc own (cw :: jG) (jTys cI cZ) ret) {i x : Int32} (hi : vp_in i 48) (hd : decode cc pc = .ok (.iastore, 1)) (k : jJ l D R nL X (wM a cI cZ (sU τ 19 i.toNatClampNeg x)) (pc + 1) L st) : jJ l D R nL X (wM a cI cZ τ) pc L (.int x :: .int i :: .ref (a 19) :: st) :=
  jq_iast hF 19 0 _ rfl rfl hi rfl hd k
theorem Mw_20 (f : Nat → Int32) : (wM a cI cZ τ).set 20 (a 20, .inl (cI, 48, .inl f)) = wM a cI cZ (sF τ 20 f) := rfl
theorem Ml_20 (hF : jF D R nL X cc own (cw :: jG) (jTys cI cZ) ret) {i : Nat} (hi : i < 48) (hd : decode cc pc = .ok (.iaload, 1)) (k : jJ l D R nL X (wM a cI cZ τ) (pc + 1) L (.int (τ 20 i) :: st)) : jJ l D R nL X (wM a cI cZ τ) pc L (.int (nI i) :: .ref (a 20) :: st) :=
  jq_ialdN hF 20 0 rfl rfl (by decide) hi hd k
theorem ML_20 (hF : jF D R nL X cc own (cw :: jG) (jTys cI cZ) ret) {i : Int32} (hi : vp_in i 48) (hd : decode cc pc = .ok (.iaload, 1)) (k : jJ l D R nL X (wM a cI cZ τ) (pc + 1) L (.int (τ 20 i.toNatClampNeg) :: st)) : jJ l D R nL X (wM a cI cZ τ) pc L (.int i :: .ref (a 20) :: st) :=
  jq_iald hF 20 0 rfl rfl hi hd k
theorem Ms_20 (hF : jF D R nL X cc own (cw :: jG) (jTys cI cZ) ret) {i : Nat} {x : Int32} (hi : i < 48) (hd : decode cc pc = .ok (.iastore, 1)) (k : jJ l D R nL X (wM a cI cZ (sU τ 20 i x)) (pc + 1) L st) : jJ l D R nL X (wM a cI cZ τ) pc L (.int x :: .int (nI i) :: .ref (a 20) :: st) :=
  jq_iastN hF 20 0 _ rfl rfl (by decide) hi rfl hd k
theorem MS_20 (hF : jF D R nL X cc own (cw :: jG) (jTys cI cZ) ret) {i x : Int32} (hi : vp_in i 48) (hd : decode cc pc = .ok (.iastore, 1)) (k : jJ l D R nL X (wM a cI cZ (sU τ 20 i.toNatClampNeg x)) (pc + 1) L st) : jJ l D R nL X (wM a cI cZ τ) pc L (.int x :: .int i :: .ref (a 20) :: st) :=
  jq_iast hF 20 0 _ rfl rfl hi rfl hd k
theorem Mw_21 (f : Nat → Int32) : (wM a cI cZ τ).set 21 (a 21, .inl (cI, 48, .inl f)) = wM a cI cZ (sF τ 21 f) := rfl
theorem Ml_21 (hF : jF D R nL X cc own (cw :: jG) (jTys cI cZ) ret) {i : Nat} (hi : i < 48) (hd : decode cc pc = .ok (.iaload, 1)) (k : jJ l D R nL X (wM a cI cZ τ) (pc + 1) L (.int (τ 21 i) :: st)) : jJ l D R nL X (wM a cI cZ τ) pc L (.int (nI i) :: .ref (a 21) :: st) :=
  jq_ialdN hF 21 0 rfl rfl (by decide) hi hd k
theorem ML_21 (hF : jF D R nL X cc own (cw :: jG) (jTys cI cZ) ret) {i : Int32} (hi : vp_in i 48) (hd : decode cc pc = .ok (.iaload, 1)) (k : jJ l D R nL X (wM a cI cZ τ) (pc + 1) L (.int (τ 21 i.toNatClampNeg) :: st)) : jJ l D R nL X (wM a cI cZ τ) pc L (.int i :: .ref (a 21) :: st) :=
  jq_iald hF 21 0 rfl rfl hi hd k
theorem Ms_21 (hF : jF D R nL X cc own (cw :: jG) (jTys cI cZ) ret) {i : Nat} {x : Int32} (hi : i < 48) (hd : decode cc pc = .ok (.iastore, 1)) (k : jJ l D R nL X (wM a cI cZ (sU τ 21 i x)) (pc + 1) L st) : jJ l D R nL X (wM a cI cZ τ) pc L (.int x :: .int (nI i) :: .ref (a 21) :: st) :=
  jq_iastN hF 21 0 _ rfl rfl (by decide) hi rfl hd k
theorem MS_21 (hF : jF D R nL X cc own (cw :: jG) (jTys cI cZ) ret) {i x : Int32} (hi : vp_in i 48) (hd : decode cc pc = .ok (.iastore, 1)) (k : jJ l D R nL X (wM a cI cZ (sU τ 21 i.toNatClampNeg x)) (pc + 1) L st) : jJ l D R nL X (wM a cI cZ τ) pc L (.int x :: .int i :: .ref (a 21) :: st) :=
  jq_iast hF 21 0 _ rfl rfl hi rfl hd k
theorem Mw_22 (f : Nat → Int32) : (wM a cI cZ τ).set 22 (a 22, .inl (cZ, 48, .inl f)) = wM a cI cZ (sF τ 22 f) := rfl
theorem Ml_22 (hF : jF D R nL X cc own (cw :: jG) (jTys cI cZ) ret) {i : Nat} (hi : i < 48) (hd : decode cc pc = .ok (.baload, 1)) (k : jJ l D R nL X (wM a cI cZ τ) (pc + 1) L (.int (τ 22 i) :: st)) : jJ l D R nL X (wM a cI cZ τ) pc L (.int (nI i) :: .ref (a 22) :: st) :=
  jq_zaldN hF 22 1 rfl rfl (by decide) hi hd k
theorem ML_22 (hF : jF D R nL X cc own (cw :: jG) (jTys cI cZ) ret) {i : Int32} (hi : vp_in i 48) (hd : decode cc pc = .ok (.baload, 1)) (k : jJ l D R nL X (wM a cI cZ τ) (pc + 1) L (.int (τ 22 i.toNatClampNeg) :: st)) : jJ l D R nL X (wM a cI cZ τ) pc L (.int i :: .ref (a 22) :: st) :=
  jq_zald hF 22 1 rfl rfl hi hd k
theorem Ms_22 (hF : jF D R nL X cc own (cw :: jG) (jTys cI cZ) ret) {i : Nat} {x : Int32} (hi : i < 48) (hx : vp_nar .boolean x = x) (hd : decode cc pc = .ok (.bastore, 1)) (k : jJ l D R nL X (wM a cI cZ (sU τ 22 i x)) (pc + 1) L st) : jJ l D R nL X (wM a cI cZ τ) pc L (.int x :: .int (nI i) :: .ref (a 22) :: st) :=
  jq_zastN hF 22 1 _ rfl rfl (by decide) hi (by rw [hx]; rfl) hd k
theorem MS_22 (hF : jF D R nL X cc own (cw :: jG) (jTys cI cZ) ret) {i x : Int32} (hi : vp_in i 48) (hx : vp_nar .boolean x = x) (hd : decode cc pc = .ok (.bastore, 1)) (k : jJ l D R nL X (wM a cI cZ (sU τ 22 i.toNatClampNeg x)) (pc + 1) L st) : jJ l D R nL X (wM a cI cZ τ) pc L (.int x :: .int i :: .ref (a 22) :: st) :=
  jq_zast hF 22 1 _ rfl rfl hi (by rw [hx]; rfl) hd k
theorem Mw_23 (f : Nat → Int32) : (wM a cI cZ τ).set 23 (a 23, .inl (cZ, 24, .inl f)) = wM a cI cZ (sF τ 23 f) := rfl
theorem Ml_23 (hF : jF D R nL X cc own (cw :: jG) (jTys cI cZ) ret) {i : Nat} (hi : i < 24) (hd : decode cc pc = .ok (.baload, 1)) (k : jJ l D R nL X (wM a cI cZ τ) (pc + 1) L (.int (τ 23 i) :: st)) : jJ l D R nL X (wM a cI cZ τ) pc L (.int (nI i) :: .ref (a 23) :: st) :=
  jq_zaldN hF 23 1 rfl rfl (by decide) hi hd k
theorem ML_23 (hF : jF D R nL X cc own (cw :: jG) (jTys cI cZ) ret) {i : Int32} (hi : vp_in i 24) (hd : decode cc pc = .ok (.baload, 1)) (k : jJ l D R nL X (wM a cI cZ τ) (pc + 1) L (.int (τ 23 i.toNatClampNeg) :: st)) : jJ l D R nL X (wM a cI cZ τ) pc L (.int i :: .ref (a 23) :: st) :=
  jq_zald hF 23 1 rfl rfl hi hd k
theorem Ms_23 (hF : jF D R nL X cc own (cw :: jG) (jTys cI cZ) ret) {i : Nat} {x : Int32} (hi : i < 24) (hx : vp_nar .boolean x = x) (hd : decode cc pc = .ok (.bastore, 1)) (k : jJ l D R nL X (wM a cI cZ (sU τ 23 i x)) (pc + 1) L st) : jJ l D R nL X (wM a cI cZ τ) pc L (.int x :: .int (nI i) :: .ref (a 23) :: st) :=
  jq_zastN hF 23 1 _ rfl rfl (by decide) hi (by rw [hx]; rfl) hd k
theorem MS_23 (hF : jF D R nL X cc own (cw :: jG) (jTys cI cZ) ret) {i x : Int32} (hi : vp_in i 24) (hx : vp_nar .boolean x = x) (hd : decode cc pc = .ok (.bastore, 1)) (k : jJ l D R nL X (wM a cI cZ (sU τ 23 i.toNatClampNeg x)) (pc + 1) L st) : jJ l D R nL X (wM a cI cZ τ) pc L (.int x :: .int i :: .ref (a 23) :: st) :=
  jq_zast hF 23 1 _ rfl rfl hi (by rw [hx]; rfl) hd k
theorem Mw_24 (f : Nat → Int32) : (wM a cI cZ τ).set 24 (a 24, .inl (cI, 24, .inl f)) = wM a cI cZ (sF τ 24 f) := rfl
theorem Ml_24 (hF : jF D R nL X cc own (cw :: jG) (jTys cI cZ) ret) {i : Nat} (hi : i < 24) (hd : decode cc pc = .ok (.iaload, 1)) (k : jJ l D R nL X (wM a cI cZ τ) (pc + 1) L (.int (τ 24 i) :: st)) : jJ l D R nL X (wM a cI cZ τ) pc L (.int (nI i) :: .ref (a 24) :: st) :=
  jq_ialdN hF 24 0 rfl rfl (by decide) hi hd k
theorem ML_24 (hF : jF D R nL X cc own (cw :: jG) (jTys cI cZ) ret) {i : Int32} (hi : vp_in i 24) (hd : decode cc pc = .ok (.iaload, 1)) (k : jJ l D R nL X (wM a cI cZ τ) (pc + 1) L (.int (τ 24 i.toNatClampNeg) :: st)) : jJ l D R nL X (wM a cI cZ τ) pc L (.int i :: .ref (a 24) :: st) :=
  jq_iald hF 24 0 rfl rfl hi hd k
theorem Ms_24 (hF : jF D R nL X cc own (cw :: jG) (jTys cI cZ) ret) {i : Nat} {x : Int32} (hi : i < 24) (hd : decode cc pc = .ok (.iastore, 1)) (k : jJ l D R nL X (wM a cI cZ (sU τ 24 i x)) (pc + 1) L st) : jJ l D R nL X (wM a cI cZ τ) pc L (.int x :: .int (nI i) :: .ref (a 24) :: st) :=
  jq_iastN hF 24 0 _ rfl rfl (by decide) hi rfl hd k
theorem MS_24 (hF : jF D R nL X cc own (cw :: jG) (jTys cI cZ) ret) {i x : Int32} (hi : vp_in i 24) (hd : decode cc pc = .ok (.iastore, 1)) (k : jJ l D R nL X (wM a cI cZ (sU τ 24 i.toNatClampNeg x)) (pc + 1) L st) : jJ l D R nL X (wM a cI cZ τ) pc L (.int x :: .int i :: .ref (a 24) :: st) :=
  jq_iast hF 24 0 _ rfl rfl hi rfl hd k
theorem Mw_25 (f : Nat → Int32) : (wM a cI cZ τ).set 25 (a 25, .inl (cI, 24, .inl f)) = wM a cI cZ (sF τ 25 f) := rfl
theorem Ml_25 (hF : jF D R nL X cc own (cw :: jG) (jTys cI cZ) ret) {i : Nat} (hi : i < 24) (hd : decode cc pc = .ok (.iaload, 1)) (k : jJ l D R nL X (wM a cI cZ τ) (pc + 1) L (.int (τ 25 i) :: st)) : jJ l D R nL X (wM a cI cZ τ) pc L (.int (nI i) :: .ref (a 25) :: st) :=
  jq_ialdN hF 25 0 rfl rfl (by decide) hi hd k
theorem ML_25 (hF : jF D R nL X cc own (cw :: jG) (jTys cI cZ) ret) {i : Int32} (hi : vp_in i 24) (hd : decode cc pc = .ok (.iaload, 1)) (k : jJ l D R nL X (wM a cI cZ τ) (pc + 1) L (.int (τ 25 i.toNatClampNeg) :: st)) : jJ l D R nL X (wM a cI cZ τ) pc L (.int i :: .ref (a 25) :: st) :=
  jq_iald hF 25 0 rfl rfl hi hd k
theorem Ms_25 (hF : jF D R nL X cc own (cw :: jG) (jTys cI cZ) ret) {i : Nat} {x : Int32} (hi : i < 24) (hd : decode cc pc = .ok (.iastore, 1)) (k : jJ l D R nL X (wM a cI cZ (sU τ 25 i x)) (pc + 1) L st) : jJ l D R nL X (wM a cI cZ τ) pc L (.int x :: .int (nI i) :: .ref (a 25) :: st) :=
  jq_iastN hF 25 0 _ rfl rfl (by decide) hi rfl hd k
theorem MS_25 (hF : jF D R nL X cc own (cw :: jG) (jTys cI cZ) ret) {i x : Int32} (hi : vp_in i 24) (hd : decode cc pc = .ok (.iastore, 1)) (k : jJ l D R nL X (wM a cI cZ (sU τ 25 i.toNatClampNeg x)) (pc + 1) L st) : jJ l D R nL X (wM a cI cZ τ) pc L (.int x :: .int i :: .ref (a 25) :: st) :=
  jq_iast hF 25 0 _ rfl rfl hi rfl hd k
theorem Mw_26 (f : Nat → Int32) : (wM a cI cZ τ).set 26 (a 26, .inl (cI, 168, .inl f)) = wM a cI cZ (sF τ 26 f) := rfl
theorem Ml_26 (hF : jF D R nL X cc own (cw :: jG) (jTys cI cZ) ret) {i : Nat} (hi : i < 168) (hd : decode cc pc = .ok (.iaload, 1)) (k : jJ l D R nL X (wM a cI cZ τ) (pc + 1) L (.int (τ 26 i) :: st)) : jJ l D R nL X (wM a cI cZ τ) pc L (.int (nI i) :: .ref (a 26) :: st) :=
  jq_ialdN hF 26 0 rfl rfl (by decide) hi hd k
theorem ML_26 (hF : jF D R nL X cc own (cw :: jG) (jTys cI cZ) ret) {i : Int32} (hi : vp_in i 168) (hd : decode cc pc = .ok (.iaload, 1)) (k : jJ l D R nL X (wM a cI cZ τ) (pc + 1) L (.int (τ 26 i.toNatClampNeg) :: st)) : jJ l D R nL X (wM a cI cZ τ) pc L (.int i :: .ref (a 26) :: st) :=
  jq_iald hF 26 0 rfl rfl hi hd k
theorem Ms_26 (hF : jF D R nL X cc own (cw :: jG) (jTys cI cZ) ret) {i : Nat} {x : Int32} (hi : i < 168) (hd : decode cc pc = .ok (.iastore, 1)) (k : jJ l D R nL X (wM a cI cZ (sU τ 26 i x)) (pc + 1) L st) : jJ l D R nL X (wM a cI cZ τ) pc L (.int x :: .int (nI i) :: .ref (a 26) :: st) :=
  jq_iastN hF 26 0 _ rfl rfl (by decide) hi rfl hd k
theorem MS_26 (hF : jF D R nL X cc own (cw :: jG) (jTys cI cZ) ret) {i x : Int32} (hi : vp_in i 168) (hd : decode cc pc = .ok (.iastore, 1)) (k : jJ l D R nL X (wM a cI cZ (sU τ 26 i.toNatClampNeg x)) (pc + 1) L st) : jJ l D R nL X (wM a cI cZ τ) pc L (.int x :: .int i :: .ref (a 26) :: st) :=
  jq_iast hF 26 0 _ rfl rfl hi rfl hd k
theorem Mw_27 (f : Nat → Int32) : (wM a cI cZ τ).set 27 (a 27, .inl (cI, 168, .inl f)) = wM a cI cZ (sF τ 27 f) := rfl
theorem Ml_27 (hF : jF D R nL X cc own (cw :: jG) (jTys cI cZ) ret) {i : Nat} (hi : i < 168) (hd : decode cc pc = .ok (.iaload, 1)) (k : jJ l D R nL X (wM a cI cZ τ) (pc + 1) L (.int (τ 27 i) :: st)) : jJ l D R nL X (wM a cI cZ τ) pc L (.int (nI i) :: .ref (a 27) :: st) :=
  jq_ialdN hF 27 0 rfl rfl (by decide) hi hd k
theorem ML_27 (hF : jF D R nL X cc own (cw :: jG) (jTys cI cZ) ret) {i : Int32} (hi : vp_in i 168) (hd : decode cc pc = .ok (.iaload, 1)) (k : jJ l D R nL X (wM a cI cZ τ) (pc + 1) L (.int (τ 27 i.toNatClampNeg) :: st)) : jJ l D R nL X (wM a cI cZ τ) pc L (.int i :: .ref (a 27) :: st) :=
  jq_iald hF 27 0 rfl rfl hi hd k
theorem Ms_27 (hF : jF D R nL X cc own (cw :: jG) (jTys cI cZ) ret) {i : Nat} {x : Int32} (hi : i < 168) (hd : decode cc pc = .ok (.iastore, 1)) (k : jJ l D R nL X (wM a cI cZ (sU τ 27 i x)) (pc + 1) L st) : jJ l D R nL X (wM a cI cZ τ) pc L (.int x :: .int (nI i) :: .ref (a 27) :: st) :=
  jq_iastN hF 27 0 _ rfl rfl (by decide) hi rfl hd k
theorem MS_27 (hF : jF D R nL X cc own (cw :: jG) (jTys cI cZ) ret) {i x : Int32} (hi : vp_in i 168) (hd : decode cc pc = .ok (.iastore, 1)) (k : jJ l D R nL X (wM a cI cZ (sU τ 27 i.toNatClampNeg x)) (pc + 1) L st) : jJ l D R nL X (wM a cI cZ τ) pc L (.int x :: .int i :: .ref (a 27) :: st) :=
  jq_iast hF 27 0 _ rfl rfl hi rfl hd k
theorem Mw_28 (f : Nat → Int32) : (wM a cI cZ τ).set 28 (a 28, .inl (cI, 64, .inl f)) = wM a cI cZ (sF τ 28 f) := rfl
theorem Ml_28 (hF : jF D R nL X cc own (cw :: jG) (jTys cI cZ) ret) {i : Nat} (hi : i < 64) (hd : decode cc pc = .ok (.iaload, 1)) (k : jJ l D R nL X (wM a cI cZ τ) (pc + 1) L (.int (τ 28 i) :: st)) : jJ l D R nL X (wM a cI cZ τ) pc L (.int (nI i) :: .ref (a 28) :: st) :=
  jq_ialdN hF 28 0 rfl rfl (by decide) hi hd k
theorem ML_28 (hF : jF D R nL X cc own (cw :: jG) (jTys cI cZ) ret) {i : Int32} (hi : vp_in i 64) (hd : decode cc pc = .ok (.iaload, 1)) (k : jJ l D R nL X (wM a cI cZ τ) (pc + 1) L (.int (τ 28 i.toNatClampNeg) :: st)) : jJ l D R nL X (wM a cI cZ τ) pc L (.int i :: .ref (a 28) :: st) :=
  jq_iald hF 28 0 rfl rfl hi hd k
theorem Ms_28 (hF : jF D R nL X cc own (cw :: jG) (jTys cI cZ) ret) {i : Nat} {x : Int32} (hi : i < 64) (hd : decode cc pc = .ok (.iastore, 1)) (k : jJ l D R nL X (wM a cI cZ (sU τ 28 i x)) (pc + 1) L st) : jJ l D R nL X (wM a cI cZ τ) pc L (.int x :: .int (nI i) :: .ref (a 28) :: st) :=
  jq_iastN hF 28 0 _ rfl rfl (by decide) hi rfl hd k
theorem MS_28 (hF : jF D R nL X cc own (cw :: jG) (jTys cI cZ) ret) {i x : Int32} (hi : vp_in i 64) (hd : decode cc pc = .ok (.iastore, 1)) (k : jJ l D R nL X (wM a cI cZ (sU τ 28 i.toNatClampNeg x)) (pc + 1) L st) : jJ l D R nL X (wM a cI cZ τ) pc L (.int x :: .int i :: .ref (a 28) :: st) :=
  jq_iast hF 28 0 _ rfl rfl hi rfl hd k
theorem Mw_29 (f : Nat → Int32) : (wM a cI cZ τ).set 29 (a 29, .inl (cI, 64, .inl f)) = wM a cI cZ (sF τ 29 f) := rfl
theorem Ml_29 (hF : jF D R nL X cc own (cw :: jG) (jTys cI cZ) ret) {i : Nat} (hi : i < 64) (hd : decode cc pc = .ok (.iaload, 1)) (k : jJ l D R nL X (wM a cI cZ τ) (pc + 1) L (.int (τ 29 i) :: st)) : jJ l D R nL X (wM a cI cZ τ) pc L (.int (nI i) :: .ref (a 29) :: st) :=
  jq_ialdN hF 29 0 rfl rfl (by decide) hi hd k
theorem ML_29 (hF : jF D R nL X cc own (cw :: jG) (jTys cI cZ) ret) {i : Int32} (hi : vp_in i 64) (hd : decode cc pc = .ok (.iaload, 1)) (k : jJ l D R nL X (wM a cI cZ τ) (pc + 1) L (.int (τ 29 i.toNatClampNeg) :: st)) : jJ l D R nL X (wM a cI cZ τ) pc L (.int i :: .ref (a 29) :: st) :=
  jq_iald hF 29 0 rfl rfl hi hd k
theorem Ms_29 (hF : jF D R nL X cc own (cw :: jG) (jTys cI cZ) ret) {i : Nat} {x : Int32} (hi : i < 64) (hd : decode cc pc = .ok (.iastore, 1)) (k : jJ l D R nL X (wM a cI cZ (sU τ 29 i x)) (pc + 1) L st) : jJ l D R nL X (wM a cI cZ τ) pc L (.int x :: .int (nI i) :: .ref (a 29) :: st) :=
  jq_iastN hF 29 0 _ rfl rfl (by decide) hi rfl hd k
theorem MS_29 (hF : jF D R nL X cc own (cw :: jG) (jTys cI cZ) ret) {i x : Int32} (hi : vp_in i 64) (hd : decode cc pc = .ok (.iastore, 1)) (k : jJ l D R nL X (wM a cI cZ (sU τ 29 i.toNatClampNeg x)) (pc + 1) L st) : jJ l D R nL X (wM a cI cZ τ) pc L (.int x :: .int i :: .ref (a 29) :: st) :=
  jq_iast hF 29 0 _ rfl rfl hi rfl hd k
theorem Mg_M_106 (hF : jF D R nL X cc rM (cw :: jG) (jTys cI cZ) ret) (hd : decode cc pc = .ok (.getfield 106, 3)) (k : jJ l D R nL X (wM a cI cZ τ) (pc + 3) L (.int (τ 0 0) :: st)) : jJ l D R nL X (wM a cI cZ τ) pc L (.ref (a 0) :: st) :=
  jq_get hF (fun w h => List.mem_cons_of_mem _ (inM w h)) 0 rfl rfl 0 (by decide) (List.mem_cons_of_mem _ mF_M_106) rfl hd k
theorem Mg_M_109 (hF : jF D R nL X cc rM (cw :: jG) (jTys cI cZ) ret) (hd : decode cc pc = .ok (.getfield 109, 3)) (k : jJ l D R nL X (wM a cI cZ τ) (pc + 3) L (.int (τ 0 1) :: st)) : jJ l D R nL X (wM a cI cZ τ) pc L (.ref (a 0) :: st) :=
  jq_get hF (fun w h => List.mem_cons_of_mem _ (inM w h)) 0 rfl rfl 1 (by decide) (List.mem_cons_of_mem _ mF_M_109) rfl hd k
theorem Mg_M_112 (hF : jF D R nL X cc rM (cw :: jG) (jTys cI cZ) ret) (hd : decode cc pc = .ok (.getfield 112, 3)) (k : jJ l D R nL X (wM a cI cZ τ) (pc + 3) L (.int (τ 0 2) :: st)) : jJ l D R nL X (wM a cI cZ τ) pc L (.ref (a 0) :: st) :=
  jq_get hF (fun w h => List.mem_cons_of_mem _ (inM w h)) 0 rfl rfl 2 (by decide) (List.mem_cons_of_mem _ mF_M_112) rfl hd k
theorem Mg_M_154 (hF : jF D R nL X cc rM (cw :: jG) (jTys cI cZ) ret) (hd : decode cc pc = .ok (.getfield 154, 3)) (k : jJ l D R nL X (wM a cI cZ τ) (pc + 3) L (.int (τ 0 3) :: st)) : jJ l D R nL X (wM a cI cZ τ) pc L (.ref (a 0) :: st) :=
  jq_get hF (fun w h => List.mem_cons_of_mem _ (inM w h)) 0 rfl rfl 3 (by decide) (List.mem_cons_of_mem _ mF_M_154) rfl hd k
theorem Mp_M_154 (hF : jF D R nL X cc rM (cw :: jG) (jTys cI cZ) ret) {x : Int32} (hd : decode cc pc = .ok (.putfield 154, 3)) (k : jJ l D R nL X (wM a cI cZ (sU τ 0 3 x)) (pc + 3) L st) : jJ l D R nL X (wM a cI cZ τ) pc L (.int x :: .ref (a 0) :: st) :=
  jq_put hF _ (fun w h => List.mem_cons_of_mem _ (inM w h)) tyM tkM nmM 0 rfl rfl 3 (by decide) (List.mem_cons_of_mem _ mF_M_154) rfl rfl rfl rfl (Nat.le_of_ble_eq_true rfl) rfl hd k
theorem Mg_M_115 (hF : jF D R nL X cc rM (cw :: jG) (jTys cI cZ) ret) (hd : decode cc pc = .ok (.getfield 115, 3)) (k : jJ l D R nL X (wM a cI cZ τ) (pc + 3) L (.int (τ 0 4) :: st)) : jJ l D R nL X (wM a cI cZ τ) pc L (.ref (a 0) :: st) :=
  jq_get hF (fun w h => List.mem_cons_of_mem _ (inM w h)) 0 rfl rfl 4 (by decide) (List.mem_cons_of_mem _ mF_M_115) rfl hd k
theorem Mp_M_115 (hF : jF D R nL X cc rM (cw :: jG) (jTys cI cZ) ret) {x : Int32} (hd : decode cc pc = .ok (.putfield 115, 3)) (k : jJ l D R nL X (wM a cI cZ (sU τ 0 4 x)) (pc + 3) L st) : jJ l D R nL X (wM a cI cZ τ) pc L (.int x :: .ref (a 0) :: st) :=
  jq_put hF _ (fun w h => List.mem_cons_of_mem _ (inM w h)) tyM tkM nmM 0 rfl rfl 4 (by decide) (List.mem_cons_of_mem _ mF_M_115) rfl rfl rfl rfl (Nat.le_of_ble_eq_true rfl) rfl hd k
theorem Mg_M_7 (hF : jF D R nL X cc rM (cw :: jG) (jTys cI cZ) ret) (hd : decode cc pc = .ok (.getfield 7, 3)) (k : jJ l D R nL X (wM a cI cZ τ) (pc + 3) L (.ref (a 1) :: st)) : jJ l D R nL X (wM a cI cZ τ) pc L (.ref (a 0) :: st) :=
  jq_get hF (fun w h => List.mem_cons_of_mem _ (inM w h)) 0 rfl rfl 5 (by decide) (List.mem_cons_of_mem _ mF_M_7) rfl hd k
theorem Mg_M_13 (hF : jF D R nL X cc rM (cw :: jG) (jTys cI cZ) ret) (hd : decode cc pc = .ok (.getfield 13, 3)) (k : jJ l D R nL X (wM a cI cZ τ) (pc + 3) L (.ref (a 2) :: st)) : jJ l D R nL X (wM a cI cZ τ) pc L (.ref (a 0) :: st) :=
  jq_get hF (fun w h => List.mem_cons_of_mem _ (inM w h)) 0 rfl rfl 6 (by decide) (List.mem_cons_of_mem _ mF_M_13) rfl hd k
theorem Mg_M_16 (hF : jF D R nL X cc rM (cw :: jG) (jTys cI cZ) ret) (hd : decode cc pc = .ok (.getfield 16, 3)) (k : jJ l D R nL X (wM a cI cZ τ) (pc + 3) L (.ref (a 3) :: st)) : jJ l D R nL X (wM a cI cZ τ) pc L (.ref (a 0) :: st) :=
  jq_get hF (fun w h => List.mem_cons_of_mem _ (inM w h)) 0 rfl rfl 7 (by decide) (List.mem_cons_of_mem _ mF_M_16) rfl hd k
theorem Mg_M_20 (hF : jF D R nL X cc rM (cw :: jG) (jTys cI cZ) ret) (hd : decode cc pc = .ok (.getfield 20, 3)) (k : jJ l D R nL X (wM a cI cZ τ) (pc + 3) L (.ref (a 4) :: st)) : jJ l D R nL X (wM a cI cZ τ) pc L (.ref (a 0) :: st) :=
  jq_get hF (fun w h => List.mem_cons_of_mem _ (inM w h)) 0 rfl rfl 8 (by decide) (List.mem_cons_of_mem _ mF_M_20) rfl hd k
theorem Mg_M_23 (hF : jF D R nL X cc rM (cw :: jG) (jTys cI cZ) ret) (hd : decode cc pc = .ok (.getfield 23, 3)) (k : jJ l D R nL X (wM a cI cZ τ) (pc + 3) L (.ref (a 5) :: st)) : jJ l D R nL X (wM a cI cZ τ) pc L (.ref (a 0) :: st) :=
  jq_get hF (fun w h => List.mem_cons_of_mem _ (inM w h)) 0 rfl rfl 9 (by decide) (List.mem_cons_of_mem _ mF_M_23) rfl hd k
theorem Mg_M_26 (hF : jF D R nL X cc rM (cw :: jG) (jTys cI cZ) ret) (hd : decode cc pc = .ok (.getfield 26, 3)) (k : jJ l D R nL X (wM a cI cZ τ) (pc + 3) L (.ref (a 6) :: st)) : jJ l D R nL X (wM a cI cZ τ) pc L (.ref (a 0) :: st) :=
  jq_get hF (fun w h => List.mem_cons_of_mem _ (inM w h)) 0 rfl rfl 10 (by decide) (List.mem_cons_of_mem _ mF_M_26) rfl hd k
theorem Mg_M_29 (hF : jF D R nL X cc rM (cw :: jG) (jTys cI cZ) ret) (hd : decode cc pc = .ok (.getfield 29, 3)) (k : jJ l D R nL X (wM a cI cZ τ) (pc + 3) L (.ref (a 7) :: st)) : jJ l D R nL X (wM a cI cZ τ) pc L (.ref (a 0) :: st) :=
  jq_get hF (fun w h => List.mem_cons_of_mem _ (inM w h)) 0 rfl rfl 11 (by decide) (List.mem_cons_of_mem _ mF_M_29) rfl hd k
theorem Mg_M_32 (hF : jF D R nL X cc rM (cw :: jG) (jTys cI cZ) ret) (hd : decode cc pc = .ok (.getfield 32, 3)) (k : jJ l D R nL X (wM a cI cZ τ) (pc + 3) L (.ref (a 8) :: st)) : jJ l D R nL X (wM a cI cZ τ) pc L (.ref (a 0) :: st) :=
  jq_get hF (fun w h => List.mem_cons_of_mem _ (inM w h)) 0 rfl rfl 12 (by decide) (List.mem_cons_of_mem _ mF_M_32) rfl hd k
theorem Mg_M_35 (hF : jF D R nL X cc rM (cw :: jG) (jTys cI cZ) ret) (hd : decode cc pc = .ok (.getfield 35, 3)) (k : jJ l D R nL X (wM a cI cZ τ) (pc + 3) L (.ref (a 9) :: st)) : jJ l D R nL X (wM a cI cZ τ) pc L (.ref (a 0) :: st) :=
  jq_get hF (fun w h => List.mem_cons_of_mem _ (inM w h)) 0 rfl rfl 13 (by decide) (List.mem_cons_of_mem _ mF_M_35) rfl hd k
theorem Mg_M_126 (hF : jF D R nL X cc rM (cw :: jG) (jTys cI cZ) ret) (hd : decode cc pc = .ok (.getfield 126, 3)) (k : jJ l D R nL X (wM a cI cZ τ) (pc + 3) L (.int (τ 0 5) :: st)) : jJ l D R nL X (wM a cI cZ τ) pc L (.ref (a 0) :: st) :=
  jq_get hF (fun w h => List.mem_cons_of_mem _ (inM w h)) 0 rfl rfl 14 (by decide) (List.mem_cons_of_mem _ mF_M_126) rfl hd k
theorem Mp_M_126 (hF : jF D R nL X cc rM (cw :: jG) (jTys cI cZ) ret) {x : Int32} (hd : decode cc pc = .ok (.putfield 126, 3)) (k : jJ l D R nL X (wM a cI cZ (sU τ 0 5 x)) (pc + 3) L st) : jJ l D R nL X (wM a cI cZ τ) pc L (.int x :: .ref (a 0) :: st) :=
  jq_put hF _ (fun w h => List.mem_cons_of_mem _ (inM w h)) tyM tkM nmM 0 rfl rfl 14 (by decide) (List.mem_cons_of_mem _ mF_M_126) rfl rfl rfl rfl (Nat.le_of_ble_eq_true rfl) rfl hd k
theorem Mg_M_38 (hF : jF D R nL X cc rM (cw :: jG) (jTys cI cZ) ret) (hd : decode cc pc = .ok (.getfield 38, 3)) (k : jJ l D R nL X (wM a cI cZ τ) (pc + 3) L (.ref (a 10) :: st)) : jJ l D R nL X (wM a cI cZ τ) pc L (.ref (a 0) :: st) :=
  jq_get hF (fun w h => List.mem_cons_of_mem _ (inM w h)) 0 rfl rfl 15 (by decide) (List.mem_cons_of_mem _ mF_M_38) rfl hd k
theorem Mg_M_41 (hF : jF D R nL X cc rM (cw :: jG) (jTys cI cZ) ret) (hd : decode cc pc = .ok (.getfield 41, 3)) (k : jJ l D R nL X (wM a cI cZ τ) (pc + 3) L (.ref (a 11) :: st)) : jJ l D R nL X (wM a cI cZ τ) pc L (.ref (a 0) :: st) :=
  jq_get hF (fun w h => List.mem_cons_of_mem _ (inM w h)) 0 rfl rfl 16 (by decide) (List.mem_cons_of_mem _ mF_M_41) rfl hd k
theorem Mg_M_44 (hF : jF D R nL X cc rM (cw :: jG) (jTys cI cZ) ret) (hd : decode cc pc = .ok (.getfield 44, 3)) (k : jJ l D R nL X (wM a cI cZ τ) (pc + 3) L (.ref (a 12) :: st)) : jJ l D R nL X (wM a cI cZ τ) pc L (.ref (a 0) :: st) :=
  jq_get hF (fun w h => List.mem_cons_of_mem _ (inM w h)) 0 rfl rfl 17 (by decide) (List.mem_cons_of_mem _ mF_M_44) rfl hd k
theorem Mg_M_47 (hF : jF D R nL X cc rM (cw :: jG) (jTys cI cZ) ret) (hd : decode cc pc = .ok (.getfield 47, 3)) (k : jJ l D R nL X (wM a cI cZ τ) (pc + 3) L (.ref (a 13) :: st)) : jJ l D R nL X (wM a cI cZ τ) pc L (.ref (a 0) :: st) :=
  jq_get hF (fun w h => List.mem_cons_of_mem _ (inM w h)) 0 rfl rfl 18 (by decide) (List.mem_cons_of_mem _ mF_M_47) rfl hd k
theorem Mg_M_136 (hF : jF D R nL X cc rM (cw :: jG) (jTys cI cZ) ret) (hd : decode cc pc = .ok (.getfield 136, 3)) (k : jJ l D R nL X (wM a cI cZ τ) (pc + 3) L (.int (τ 0 6) :: st)) : jJ l D R nL X (wM a cI cZ τ) pc L (.ref (a 0) :: st) :=
  jq_get hF (fun w h => List.mem_cons_of_mem _ (inM w h)) 0 rfl rfl 19 (by decide) (List.mem_cons_of_mem _ mF_M_136) rfl hd k
theorem Mp_M_136 (hF : jF D R nL X cc rM (cw :: jG) (jTys cI cZ) ret) {x : Int32} (hd : decode cc pc = .ok (.putfield 136, 3)) (k : jJ l D R nL X (wM a cI cZ (sU τ 0 6 x)) (pc + 3) L st) : jJ l D R nL X (wM a cI cZ τ) pc L (.int x :: .ref (a 0) :: st) :=
  jq_put hF _ (fun w h => List.mem_cons_of_mem _ (inM w h)) tyM tkM nmM 0 rfl rfl 19 (by decide) (List.mem_cons_of_mem _ mF_M_136) rfl rfl rfl rfl (Nat.le_of_ble_eq_true rfl) rfl hd k
theorem Mg_M_50 (hF : jF D R nL X cc rM (cw :: jG) (jTys cI cZ) ret) (hd : decode cc pc = .ok (.getfield 50, 3)) (k : jJ l D R nL X (wM a cI cZ τ) (pc + 3) L (.ref (a 14) :: st)) : jJ l D R nL X (wM a cI cZ τ) pc L (.ref (a 0) :: st) :=
  jq_get hF (fun w h => List.mem_cons_of_mem _ (inM w h)) 0 rfl rfl 20 (by decide) (List.mem_cons_of_mem _ mF_M_50) rfl hd k
theorem Mg_M_53 (hF : jF D R nL X cc rM (cw :: jG) (jTys cI cZ) ret) (hd : decode cc pc = .ok (.getfield 53, 3)) (k : jJ l D R nL X (wM a cI cZ τ) (pc + 3) L (.ref (a 15) :: st)) : jJ l D R nL X (wM a cI cZ τ) pc L (.ref (a 0) :: st) :=
  jq_get hF (fun w h => List.mem_cons_of_mem _ (inM w h)) 0 rfl rfl 21 (by decide) (List.mem_cons_of_mem _ mF_M_53) rfl hd k
theorem Mg_M_56 (hF : jF D R nL X cc rM (cw :: jG) (jTys cI cZ) ret) (hd : decode cc pc = .ok (.getfield 56, 3)) (k : jJ l D R nL X (wM a cI cZ τ) (pc + 3) L (.int (τ 0 7) :: st)) : jJ l D R nL X (wM a cI cZ τ) pc L (.ref (a 0) :: st) :=
  jq_get hF (fun w h => List.mem_cons_of_mem _ (inM w h)) 0 rfl rfl 22 (by decide) (List.mem_cons_of_mem _ mF_M_56) rfl hd k
theorem Mp_M_56 (hF : jF D R nL X cc rM (cw :: jG) (jTys cI cZ) ret) {x : Int32} (hd : decode cc pc = .ok (.putfield 56, 3)) (k : jJ l D R nL X (wM a cI cZ (sU τ 0 7 x)) (pc + 3) L st) : jJ l D R nL X (wM a cI cZ τ) pc L (.int x :: .ref (a 0) :: st) :=
  jq_put hF _ (fun w h => List.mem_cons_of_mem _ (inM w h)) tyM tkM nmM 0 rfl rfl 22 (by decide) (List.mem_cons_of_mem _ mF_M_56) rfl rfl rfl rfl (Nat.le_of_ble_eq_true rfl) rfl hd k
theorem Mg_M_60 (hF : jF D R nL X cc rM (cw :: jG) (jTys cI cZ) ret) (hd : decode cc pc = .ok (.getfield 60, 3)) (k : jJ l D R nL X (wM a cI cZ τ) (pc + 3) L (.ref (a 16) :: st)) : jJ l D R nL X (wM a cI cZ τ) pc L (.ref (a 0) :: st) :=
  jq_get hF (fun w h => List.mem_cons_of_mem _ (inM w h)) 0 rfl rfl 23 (by decide) (List.mem_cons_of_mem _ mF_M_60) rfl hd k
theorem Mg_M_63 (hF : jF D R nL X cc rM (cw :: jG) (jTys cI cZ) ret) (hd : decode cc pc = .ok (.getfield 63, 3)) (k : jJ l D R nL X (wM a cI cZ τ) (pc + 3) L (.ref (a 17) :: st)) : jJ l D R nL X (wM a cI cZ τ) pc L (.ref (a 0) :: st) :=
  jq_get hF (fun w h => List.mem_cons_of_mem _ (inM w h)) 0 rfl rfl 24 (by decide) (List.mem_cons_of_mem _ mF_M_63) rfl hd k
theorem Mg_M_66 (hF : jF D R nL X cc rM (cw :: jG) (jTys cI cZ) ret) (hd : decode cc pc = .ok (.getfield 66, 3)) (k : jJ l D R nL X (wM a cI cZ τ) (pc + 3) L (.ref (a 18) :: st)) : jJ l D R nL X (wM a cI cZ τ) pc L (.ref (a 0) :: st) :=
  jq_get hF (fun w h => List.mem_cons_of_mem _ (inM w h)) 0 rfl rfl 25 (by decide) (List.mem_cons_of_mem _ mF_M_66) rfl hd k
theorem Mg_M_69 (hF : jF D R nL X cc rM (cw :: jG) (jTys cI cZ) ret) (hd : decode cc pc = .ok (.getfield 69, 3)) (k : jJ l D R nL X (wM a cI cZ τ) (pc + 3) L (.ref (a 19) :: st)) : jJ l D R nL X (wM a cI cZ τ) pc L (.ref (a 0) :: st) :=
  jq_get hF (fun w h => List.mem_cons_of_mem _ (inM w h)) 0 rfl rfl 26 (by decide) (List.mem_cons_of_mem _ mF_M_69) rfl hd k
theorem Mg_M_72 (hF : jF D R nL X cc rM (cw :: jG) (jTys cI cZ) ret) (hd : decode cc pc = .ok (.getfield 72, 3)) (k : jJ l D R nL X (wM a cI cZ τ) (pc + 3) L (.ref (a 20) :: st)) : jJ l D R nL X (wM a cI cZ τ) pc L (.ref (a 0) :: st) :=
  jq_get hF (fun w h => List.mem_cons_of_mem _ (inM w h)) 0 rfl rfl 27 (by decide) (List.mem_cons_of_mem _ mF_M_72) rfl hd k
theorem Mg_M_75 (hF : jF D R nL X cc rM (cw :: jG) (jTys cI cZ) ret) (hd : decode cc pc = .ok (.getfield 75, 3)) (k : jJ l D R nL X (wM a cI cZ τ) (pc + 3) L (.ref (a 21) :: st)) : jJ l D R nL X (wM a cI cZ τ) pc L (.ref (a 0) :: st) :=
  jq_get hF (fun w h => List.mem_cons_of_mem _ (inM w h)) 0 rfl rfl 28 (by decide) (List.mem_cons_of_mem _ mF_M_75) rfl hd k
theorem Mg_M_78 (hF : jF D R nL X cc rM (cw :: jG) (jTys cI cZ) ret) (hd : decode cc pc = .ok (.getfield 78, 3)) (k : jJ l D R nL X (wM a cI cZ τ) (pc + 3) L (.ref (a 22) :: st)) : jJ l D R nL X (wM a cI cZ τ) pc L (.ref (a 0) :: st) :=
  jq_get hF (fun w h => List.mem_cons_of_mem _ (inM w h)) 0 rfl rfl 29 (by decide) (List.mem_cons_of_mem _ mF_M_78) rfl hd k
theorem Mg_M_81 (hF : jF D R nL X cc rM (cw :: jG) (jTys cI cZ) ret) (hd : decode cc pc = .ok (.getfield 81, 3)) (k : jJ l D R nL X (wM a cI cZ τ) (pc + 3) L (.ref (a 23) :: st)) : jJ l D R nL X (wM a cI cZ τ) pc L (.ref (a 0) :: st) :=
  jq_get hF (fun w h => List.mem_cons_of_mem _ (inM w h)) 0 rfl rfl 30 (by decide) (List.mem_cons_of_mem _ mF_M_81) rfl hd k
theorem Mg_M_84 (hF : jF D R nL X cc rM (cw :: jG) (jTys cI cZ) ret) (hd : decode cc pc = .ok (.getfield 84, 3)) (k : jJ l D R nL X (wM a cI cZ τ) (pc + 3) L (.ref (a 24) :: st)) : jJ l D R nL X (wM a cI cZ τ) pc L (.ref (a 0) :: st) :=
  jq_get hF (fun w h => List.mem_cons_of_mem _ (inM w h)) 0 rfl rfl 31 (by decide) (List.mem_cons_of_mem _ mF_M_84) rfl hd k
theorem Mg_M_87 (hF : jF D R nL X cc rM (cw :: jG) (jTys cI cZ) ret) (hd : decode cc pc = .ok (.getfield 87, 3)) (k : jJ l D R nL X (wM a cI cZ τ) (pc + 3) L (.ref (a 25) :: st)) : jJ l D R nL X (wM a cI cZ τ) pc L (.ref (a 0) :: st) :=
  jq_get hF (fun w h => List.mem_cons_of_mem _ (inM w h)) 0 rfl rfl 32 (by decide) (List.mem_cons_of_mem _ mF_M_87) rfl hd k
theorem Mg_M_90 (hF : jF D R nL X cc rM (cw :: jG) (jTys cI cZ) ret) (hd : decode cc pc = .ok (.getfield 90, 3)) (k : jJ l D R nL X (wM a cI cZ τ) (pc + 3) L (.ref (a 26) :: st)) : jJ l D R nL X (wM a cI cZ τ) pc L (.ref (a 0) :: st) :=
  jq_get hF (fun w h => List.mem_cons_of_mem _ (inM w h)) 0 rfl rfl 33 (by decide) (List.mem_cons_of_mem _ mF_M_90) rfl hd k
theorem Mg_M_93 (hF : jF D R nL X cc rM (cw :: jG) (jTys cI cZ) ret) (hd : decode cc pc = .ok (.getfield 93, 3)) (k : jJ l D R nL X (wM a cI cZ τ) (pc + 3) L (.ref (a 27) :: st)) : jJ l D R nL X (wM a cI cZ τ) pc L (.ref (a 0) :: st) :=
  jq_get hF (fun w h => List.mem_cons_of_mem _ (inM w h)) 0 rfl rfl 34 (by decide) (List.mem_cons_of_mem _ mF_M_93) rfl hd k
theorem Mg_M_96 (hF : jF D R nL X cc rM (cw :: jG) (jTys cI cZ) ret) (hd : decode cc pc = .ok (.getfield 96, 3)) (k : jJ l D R nL X (wM a cI cZ τ) (pc + 3) L (.ref (a 28) :: st)) : jJ l D R nL X (wM a cI cZ τ) pc L (.ref (a 0) :: st) :=
  jq_get hF (fun w h => List.mem_cons_of_mem _ (inM w h)) 0 rfl rfl 35 (by decide) (List.mem_cons_of_mem _ mF_M_96) rfl hd k
theorem Mg_M_99 (hF : jF D R nL X cc rM (cw :: jG) (jTys cI cZ) ret) (hd : decode cc pc = .ok (.getfield 99, 3)) (k : jJ l D R nL X (wM a cI cZ τ) (pc + 3) L (.ref (a 29) :: st)) : jJ l D R nL X (wM a cI cZ τ) pc L (.ref (a 0) :: st) :=
  jq_get hF (fun w h => List.mem_cons_of_mem _ (inM w h)) 0 rfl rfl 36 (by decide) (List.mem_cons_of_mem _ mF_M_99) rfl hd k
theorem Mg_M_194 (hF : jF D R nL X cc rM (cw :: jG) (jTys cI cZ) ret) (hd : decode cc pc = .ok (.getfield 194, 3)) (k : jJ l D R nL X (wM a cI cZ τ) (pc + 3) L (.int (τ 0 8) :: st)) : jJ l D R nL X (wM a cI cZ τ) pc L (.ref (a 0) :: st) :=
  jq_get hF (fun w h => List.mem_cons_of_mem _ (inM w h)) 0 rfl rfl 37 (by decide) (List.mem_cons_of_mem _ mF_M_194) rfl hd k
theorem Mp_M_194 (hF : jF D R nL X cc rM (cw :: jG) (jTys cI cZ) ret) {x : Int32} (hd : decode cc pc = .ok (.putfield 194, 3)) (k : jJ l D R nL X (wM a cI cZ (sU τ 0 8 x)) (pc + 3) L st) : jJ l D R nL X (wM a cI cZ τ) pc L (.int x :: .ref (a 0) :: st) :=
  jq_put hF _ (fun w h => List.mem_cons_of_mem _ (inM w h)) tyM tkM nmM 0 rfl rfl 37 (by decide) (List.mem_cons_of_mem _ mF_M_194) rfl rfl rfl rfl (Nat.le_of_ble_eq_true rfl) rfl hd k
theorem Mg_M_197 (hF : jF D R nL X cc rM (cw :: jG) (jTys cI cZ) ret) (hd : decode cc pc = .ok (.getfield 197, 3)) (k : jJ l D R nL X (wM a cI cZ τ) (pc + 3) L (.int (τ 0 9) :: st)) : jJ l D R nL X (wM a cI cZ τ) pc L (.ref (a 0) :: st) :=
  jq_get hF (fun w h => List.mem_cons_of_mem _ (inM w h)) 0 rfl rfl 38 (by decide) (List.mem_cons_of_mem _ mF_M_197) rfl hd k
theorem Mp_M_197 (hF : jF D R nL X cc rM (cw :: jG) (jTys cI cZ) ret) {x : Int32} (hd : decode cc pc = .ok (.putfield 197, 3)) (k : jJ l D R nL X (wM a cI cZ (sU τ 0 9 x)) (pc + 3) L st) : jJ l D R nL X (wM a cI cZ τ) pc L (.int x :: .ref (a 0) :: st) :=
  jq_put hF _ (fun w h => List.mem_cons_of_mem _ (inM w h)) tyM tkM nmM 0 rfl rfl 38 (by decide) (List.mem_cons_of_mem _ mF_M_197) rfl rfl rfl rfl (Nat.le_of_ble_eq_true rfl) rfl hd k
theorem Mg_M_203 (hF : jF D R nL X cc rM (cw :: jG) (jTys cI cZ) ret) (hd : decode cc pc = .ok (.getfield 203, 3)) (k : jJ l D R nL X (wM a cI cZ τ) (pc + 3) L (.int (τ 0 10) :: st)) : jJ l D R nL X (wM a cI cZ τ) pc L (.ref (a 0) :: st) :=
  jq_get hF (fun w h => List.mem_cons_of_mem _ (inM w h)) 0 rfl rfl 39 (by decide) (List.mem_cons_of_mem _ mF_M_203) rfl hd k
theorem Mp_M_203 (hF : jF D R nL X cc rM (cw :: jG) (jTys cI cZ) ret) {x : Int32} (hd : decode cc pc = .ok (.putfield 203, 3)) (k : jJ l D R nL X (wM a cI cZ (sU τ 0 10 x)) (pc + 3) L st) : jJ l D R nL X (wM a cI cZ τ) pc L (.int x :: .ref (a 0) :: st) :=
  jq_put hF _ (fun w h => List.mem_cons_of_mem _ (inM w h)) tyM tkM nmM 0 rfl rfl 39 (by decide) (List.mem_cons_of_mem _ mF_M_203) rfl rfl rfl rfl (Nat.le_of_ble_eq_true rfl) rfl hd k
theorem Mg_M_217 (hF : jF D R nL X cc rM (cw :: jG) (jTys cI cZ) ret) (hd : decode cc pc = .ok (.getfield 217, 3)) (k : jJ l D R nL X (wM a cI cZ τ) (pc + 3) L (.int (τ 0 11) :: st)) : jJ l D R nL X (wM a cI cZ τ) pc L (.ref (a 0) :: st) :=
  jq_get hF (fun w h => List.mem_cons_of_mem _ (inM w h)) 0 rfl rfl 40 (by decide) (List.mem_cons_of_mem _ mF_M_217) rfl hd k
theorem Mp_M_217 (hF : jF D R nL X cc rM (cw :: jG) (jTys cI cZ) ret) {x : Int32} (hd : decode cc pc = .ok (.putfield 217, 3)) (k : jJ l D R nL X (wM a cI cZ (sU τ 0 11 x)) (pc + 3) L st) : jJ l D R nL X (wM a cI cZ τ) pc L (.int x :: .ref (a 0) :: st) :=
  jq_put hF _ (fun w h => List.mem_cons_of_mem _ (inM w h)) tyM tkM nmM 0 rfl rfl 40 (by decide) (List.mem_cons_of_mem _ mF_M_217) rfl rfl rfl rfl (Nat.le_of_ble_eq_true rfl) rfl hd k
theorem Mg_M_234 (hF : jF D R nL X cc rM (cw :: jG) (jTys cI cZ) ret) (hd : decode cc pc = .ok (.getfield 234, 3)) (k : jJ l D R nL X (wM a cI cZ τ) (pc + 3) L (.int (τ 0 12) :: st)) : jJ l D R nL X (wM a cI cZ τ) pc L (.ref (a 0) :: st) :=
  jq_get hF (fun w h => List.mem_cons_of_mem _ (inM w h)) 0 rfl rfl 41 (by decide) (List.mem_cons_of_mem _ mF_M_234) rfl hd k
theorem Mp_M_234 (hF : jF D R nL X cc rM (cw :: jG) (jTys cI cZ) ret) {x : Int32} (hd : decode cc pc = .ok (.putfield 234, 3)) (k : jJ l D R nL X (wM a cI cZ (sU τ 0 12 x)) (pc + 3) L st) : jJ l D R nL X (wM a cI cZ τ) pc L (.int x :: .ref (a 0) :: st) :=
  jq_put hF _ (fun w h => List.mem_cons_of_mem _ (inM w h)) tyM tkM nmM 0 rfl rfl 41 (by decide) (List.mem_cons_of_mem _ mF_M_234) rfl rfl rfl rfl (Nat.le_of_ble_eq_true rfl) rfl hd k
end WM
end
section
/-! rows over numbers -/
section JN
variable {l : Launch} {D : va_G} {R : Room} {nL : Nat} {X : jX} {cc : ByteArray} {own : String} {Ts : List Cond} {tys : List (ClassId × FieldType)} {ret : Option FieldType} {wl : va_W} {pc : Nat} {L : List (Nat × Value)} {st : List Value}
theorem jq_iaddN (hF : jF D R nL X cc own Ts tys ret) {x y : Nat} (hd : decode cc pc = .ok (.iadd, 1)) (k : jJ l D R nL X wl (pc + 1) L (.int (nI (x + y)) :: st)) : jJ l D R nL X wl pc L (.int (nI y) :: .int (nI x) :: st) := jq_iadd hF hd (jq_top _ (nI_add x y) k)
theorem jq_imulN (hF : jF D R nL X cc own Ts tys ret) {x y : Nat} (hd : decode cc pc = .ok (.imul, 1)) (k : jJ l D R nL X wl (pc + 1) L (.int (nI (x * y)) :: st)) : jJ l D R nL X wl pc L (.int (nI y) :: .int (nI x) :: st) := jq_imul hF hd (jq_top _ (pk_mul x y) k)
theorem jq_isubN (hF : jF D R nL X cc own Ts tys ret) {x y : Nat} (h : y ≤ x) (hd : decode cc pc = .ok (.isub, 1)) (k : jJ l D R nL X wl (pc + 1) L (.int (nI (x - y)) :: st)) : jJ l D R nL X wl pc L (.int (nI y) :: .int (nI x) :: st) := jq_isub hF hd (jq_top _ (pk_sub h) k)
theorem jq_idivN (hF : jF D R nL X cc own Ts tys ret) {x y : Nat} (hx : x < 2 ^ 31) (h0 : 0 < y) (hy : y < 2 ^ 31) (hd : decode cc pc = .ok (.idiv, 1)) (k : jJ l D R nL X wl (pc + 1) L (.int (nI (x / y)) :: st)) : jJ l D R nL X wl pc L (.int (nI y) :: .int (nI x) :: st) := jq_idiv hF hd (nI_ne0 h0 hy) (jq_top _ (pk_div hx h0 hy) k)
theorem jq_iremN (hF : jF D R nL X cc own Ts tys ret) {x y : Nat} (hx : x < 2 ^ 31) (h0 : 0 < y) (hy : y < 2 ^ 31) (hd : decode cc pc = .ok (.irem, 1)) (k : jJ l D R nL X wl (pc + 1) L (.int (nI (x % y)) :: st)) : jJ l D R nL X wl pc L (.int (nI y) :: .int (nI x) :: st) := jq_irem hF hd (nI_ne0 h0 hy) (jq_top _ (pk_rem hx h0 hy) k)
theorem jq_icmp_eqN (hF : jF D R nL X cc own Ts tys ret) {x y : Nat} {off : Int} (tgt : Nat) (hx : x < 2 ^ 31) (hy : y < 2 ^ 31) (hd : decode cc pc = .ok (.if_icmp .eq off, 3)) (ht : (pc : Int) + off = (tgt : Int)) (kt : x = y → jJ l D R nL X wl tgt L st) (kf : ¬ x = y → jJ l D R nL X wl (pc + 3) L st) : jJ l D R nL X wl pc L (.int (nI y) :: .int (nI x) :: st) :=
  jq_icmp_eq hF tgt hd ht (fun h => kt ((nI_eq hx hy).mp h)) (fun h => kf (fun e => h ((nI_eq hx hy).mpr e)))
theorem jq_icmp_ltN (hF : jF D R nL X cc own Ts tys ret) {x y : Nat} {off : Int} (tgt : Nat) (hx : x < 2 ^ 31) (hy : y < 2 ^ 31) (hd : decode cc pc = .ok (.if_icmp .lt off, 3)) (ht : (pc : Int) + off = (tgt : Int)) (kt : x < y → jJ l D R nL X wl tgt L st) (kf : y ≤ x → jJ l D R nL X wl (pc + 3) L st) : jJ l D R nL X wl pc L (.int (nI y) :: .int (nI x) :: st) :=
  jq_icmp_lt hF tgt hd ht (fun h => kt ((nI_ltI hx hy).mp h)) (fun h => kf (Nat.le_of_not_lt (fun e => h ((nI_ltI hx hy).mpr e))))
theorem jq_icmp_leN (hF : jF D R nL X cc own Ts tys ret) {x y : Nat} {off : Int} (tgt : Nat) (hx : x < 2 ^ 31) (hy : y < 2 ^ 31) (hd : decode cc pc = .ok (.if_icmp .le off, 3)) (ht : (pc : Int) + off = (tgt : Int)) (kt : x ≤ y → jJ l D R nL X wl tgt L st) (kf : y < x → jJ l D R nL X wl (pc + 3) L st) : jJ l D R nL X wl pc L (.int (nI y) :: .int (nI x) :: st) :=
  jq_icmp_le hF tgt hd ht (fun h => kt ((nI_leI hx hy).mp h)) (fun h => kf (Nat.lt_of_not_le (fun e => h ((nI_leI hx hy).mpr e))))
theorem jq_icmp_geN (hF : jF D R nL X cc own Ts tys ret) {x y : Nat} {off : Int} (tgt : Nat) (hx : x < 2 ^ 31) (hy : y < 2 ^ 31) (hd : decode cc pc = .ok (.if_icmp .ge off, 3)) (ht : (pc : Int) + off = (tgt : Int)) (kt : y ≤ x → jJ l D R nL X wl tgt L st) (kf : x < y → jJ l D R nL X wl (pc + 3) L st) : jJ l D R nL X wl pc L (.int (nI y) :: .int (nI x) :: st) :=
  jq_icmp_ge hF tgt hd ht (fun h => kt ((nI_leI hy hx).mp h)) (fun h => kf (Nat.lt_of_not_le (fun e => h ((nI_leI hy hx).mpr e))))
theorem jq_icmp_gtN (hF : jF D R nL X cc own Ts tys ret) {x y : Nat} {off : Int} (tgt : Nat) (hx : x < 2 ^ 31) (hy : y < 2 ^ 31) (hd : decode cc pc = .ok (.if_icmp .gt off, 3)) (ht : (pc : Int) + off = (tgt : Int)) (kt : y < x → jJ l D R nL X wl tgt L st) (kf : x ≤ y → jJ l D R nL X wl (pc + 3) L st) : jJ l D R nL X wl pc L (.int (nI y) :: .int (nI x) :: st) :=
  jq_icmp_gt hF tgt hd ht (fun h => kt ((nI_ltI hy hx).mp h)) (fun h => kf (Nat.le_of_not_lt (fun e => h ((nI_ltI hy hx).mpr e))))
theorem jq_icmp_neN (hF : jF D R nL X cc own Ts tys ret) {x y : Nat} {off : Int} (tgt : Nat) (hx : x < 2 ^ 31) (hy : y < 2 ^ 31) (hd : decode cc pc = .ok (.if_icmp .ne off, 3)) (ht : (pc : Int) + off = (tgt : Int)) (kt : ¬ x = y → jJ l D R nL X wl tgt L st) (kf : x = y → jJ l D R nL X wl (pc + 3) L st) : jJ l D R nL X wl pc L (.int (nI y) :: .int (nI x) :: st) :=
  jq_icmp_ne hF tgt hd ht (fun h => kt (fun e => h ((nI_eq hx hy).mpr e))) (fun h => kf ((nI_eq hx hy).mp h))
theorem jq_if_eqB (hF : jF D R nL X cc own Ts tys ret) {b : Bool} {off : Int} (tgt : Nat) (hd : decode cc pc = .ok (.ifCond .eq off, 3)) (ht : (pc : Int) + off = (tgt : Int)) (kt : b = false → jJ l D R nL X wl tgt L st) (kf : b = true → jJ l D R nL X wl (pc + 3) L st) : jJ l D R nL X wl pc L (.int (bI b) :: st) :=
  jq_if_eq hF tgt hd ht (fun h => kt (bI_0.mp h)) (fun h => kf (by cases b <;> first | rfl | exact absurd rfl h))
theorem jq_if_neB (hF : jF D R nL X cc own Ts tys ret) {b : Bool} {off : Int} (tgt : Nat) (hd : decode cc pc = .ok (.ifCond .ne off, 3)) (ht : (pc : Int) + off = (tgt : Int)) (kt : b = true → jJ l D R nL X wl tgt L st) (kf : b = false → jJ l D R nL X wl (pc + 3) L st) : jJ l D R nL X wl pc L (.int (bI b) :: st) :=
  jq_if_ne hF tgt hd ht (fun h => kt (by cases b <;> first | rfl | exact absurd rfl h)) (fun h => kf (bI_0.mp h))
theorem jq_if_geL (hF : jF D R nL X cc own Ts tys ret) {x y : Int64} {off : Int} (tgt : Nat) (hd : decode cc pc = .ok (.ifCond .ge off, 3)) (ht : (pc : Int) + off = (tgt : Int)) (kt : y ≤ x → jJ l D R nL X wl tgt L st) (kf : ¬ y ≤ x → jJ l D R nL X wl (pc + 3) L st) : jJ l D R nL X wl pc L (.int (lg_cmp x y) :: st) :=
  jq_if_ge hF tgt hd ht (fun h => kt ((lg_cmp_ge x y).mp h)) (fun h => kf (fun e => h ((lg_cmp_ge x y).mpr e)))
theorem jq_if_leL (hF : jF D R nL X cc own Ts tys ret) {x y : Int64} {off : Int} (tgt : Nat) (hd : decode cc pc = .ok (.ifCond .le off, 3)) (ht : (pc : Int) + off = (tgt : Int)) (kt : x ≤ y → jJ l D R nL X wl tgt L st) (kf : ¬ x ≤ y → jJ l D R nL X wl (pc + 3) L st) : jJ l D R nL X wl pc L (.int (lg_cmp x y) :: st) :=
  jq_if_le hF tgt hd ht (fun h => kt ((lg_cmp_le x y).mp h)) (fun h => kf (fun e => h ((lg_cmp_le x y).mpr e)))
theorem jq_if_gtL (hF : jF D R nL X cc own Ts tys ret) {x y : Int64} {off : Int} (tgt : Nat) (hd : decode cc pc = .ok (.ifCond .gt off, 3)) (ht : (pc : Int) + off = (tgt : Int)) (kt : y < x → jJ l D R nL X wl tgt L st) (kf : ¬ y < x → jJ l D R nL X wl (pc + 3) L st) : jJ l D R nL X wl pc L (.int (lg_cmp x y) :: st) :=
  jq_if_gt hF tgt hd ht (fun h => kt ((lg_cmp_gt x y).mp h)) (fun h => kf (fun e => h ((lg_cmp_gt x y).mpr e)))
theorem jq_if_ltL (hF : jF D R nL X cc own Ts tys ret) {x y : Int64} {off : Int} (tgt : Nat) (hd : decode cc pc = .ok (.ifCond .lt off, 3)) (ht : (pc : Int) + off = (tgt : Int)) (kt : x < y → jJ l D R nL X wl tgt L st) (kf : ¬ x < y → jJ l D R nL X wl (pc + 3) L st) : jJ l D R nL X wl pc L (.int (lg_cmp x y) :: st) :=
  jq_if_lt hF tgt hd ht (fun h => kt ((lg_cmp_lt x y).mp h)) (fun h => kf (fun e => h ((lg_cmp_lt x y).mpr e)))
theorem jq_iincN (hF : jF D R nL X cc own Ts tys ret) {i : Nat} (j : Nat) {x : Nat} (L' : List (Nat × Value)) (hd : decode cc pc = .ok (.iinc i 1, 3)) (hj : L[j]? = some (i, .int (nI x))) (hn : i < nL) (hL : L' = (i, Value.int (nI (x + 1))) :: L.filter (fun q => !(q.1 == i) && !(q.1 + 1 == i && q.2.category == 2))) (k : jJ l D R nL X wl (pc + 3) L' st) : jJ l D R nL X wl pc L st :=
  jq_iinc hF j L' hd hj (by rw [nI_succ]; rfl) hn hL k
end JN
def rmD (d : Nat) : Room := { frames := d, cells := 0, slots := 0, locals := 40 * d }
theorem ic_m1 : Int32.ofInt (-1) = (-1) := by decide +kernel
theorem ic_0 : Int32.ofInt (0) = nI 0 := by decide +kernel
theorem ic_1 : Int32.ofInt (1) = nI 1 := by decide +kernel
theorem ic_2 : Int32.ofInt (2) = nI 2 := by decide +kernel
theorem ic_3 : Int32.ofInt (3) = nI 3 := by decide +kernel
theorem ic_4 : Int32.ofInt (4) = nI 4 := by decide +kernel
theorem ic_5 : Int32.ofInt (5) = nI 5 := by decide +kernel
theorem bi_6 : (Int8.ofInt (6)).toInt32 = nI 6 := by decide +kernel
theorem bi_7 : (Int8.ofInt (7)).toInt32 = nI 7 := by decide +kernel
theorem bi_8 : (Int8.ofInt (8)).toInt32 = nI 8 := by decide +kernel
theorem bi_9 : (Int8.ofInt (9)).toInt32 = nI 9 := by decide +kernel
theorem bi_10 : (Int8.ofInt (10)).toInt32 = nI 10 := by decide +kernel
theorem bi_12 : (Int8.ofInt (12)).toInt32 = nI 12 := by decide +kernel
theorem bi_15 : (Int8.ofInt (15)).toInt32 = nI 15 := by decide +kernel
theorem bi_20 : (Int8.ofInt (20)).toInt32 = nI 20 := by decide +kernel
theorem bi_24 : (Int8.ofInt (24)).toInt32 = nI 24 := by decide +kernel
theorem bi_28 : (Int8.ofInt (28)).toInt32 = nI 28 := by decide +kernel
theorem bi_31 : (Int8.ofInt (31)).toInt32 = nI 31 := by decide +kernel
theorem bi_40 : (Int8.ofInt (40)).toInt32 = nI 40 := by decide +kernel
theorem bi_48 : (Int8.ofInt (48)).toInt32 = nI 48 := by decide +kernel
theorem bi_60 : (Int8.ofInt (60)).toInt32 = nI 60 := by decide +kernel
theorem bi_61 : (Int8.ofInt (61)).toInt32 = nI 61 := by decide +kernel
theorem bi_64 : (Int8.ofInt (64)).toInt32 = nI 64 := by decide +kernel
theorem si_144 : (Int16.ofInt (144)).toInt32 = nI 144 := by decide +kernel
theorem si_168 : (Int16.ofInt (168)).toInt32 = nI 168 := by decide +kernel
theorem si_2048 : (Int16.ofInt (2048)).toInt32 = nI 2048 := by decide +kernel
theorem dd_N_init : yN_init.cls = rN ∧ yN_init.cls ≠ "java/lang/invoke/MethodHandle" ∧ yN_init.cls ≠ "java/lang/invoke/VarHandle" ∧ (parseMethodDescriptor yN_init.desc).map (fun d => d.parameters.length) = some 3 := by decide +kernel
abbrev w_N_init : List Cond := Cond.code yN_init cN_init 4 none :: jG
theorem dd_N_nearest : yN_nearest.cls = rN ∧ yN_nearest.cls ≠ "java/lang/invoke/MethodHandle" ∧ yN_nearest.cls ≠ "java/lang/invoke/VarHandle" ∧ (parseMethodDescriptor yN_nearest.desc).map (fun d => d.parameters.length) = some 3 := by decide +kernel
abbrev w_N_nearest : List Cond := Cond.code yN_nearest cN_nearest 3 (some .int) :: jG
theorem dd_H_min : yH_min.cls = rH ∧ yH_min.cls ≠ "java/lang/invoke/MethodHandle" ∧ yH_min.cls ≠ "java/lang/invoke/VarHandle" ∧ (parseMethodDescriptor yH_min.desc).map (fun d => d.parameters.length) = some 2 := by decide +kernel
abbrev w_H_min : List Cond := Cond.code yH_min cH_min 2 (some .int) :: jG
theorem dd_H_max : yH_max.cls = rH ∧ yH_max.cls ≠ "java/lang/invoke/MethodHandle" ∧ yH_max.cls ≠ "java/lang/invoke/VarHandle" ∧ (parseMethodDescriptor yH_max.desc).map (fun d => d.parameters.length) = some 2 := by decide +kernel
abbrev w_H_max : List Cond := Cond.code yH_max cH_max 2 (some .int) :: jG
theorem dd_P_init : yP_init.cls = rP ∧ yP_init.cls ≠ "java/lang/invoke/MethodHandle" ∧ yP_init.cls ≠ "java/lang/invoke/VarHandle" ∧ (parseMethodDescriptor yP_init.desc).map (fun d => d.parameters.length) = some 0 := by decide +kernel
abbrev w_P_init : List Cond := Cond.code yP_init cP_init 1 none :: jG
theorem dd_A_fill : yA_fill.cls = rA ∧ yA_fill.cls ≠ "java/lang/invoke/MethodHandle" ∧ yA_fill.cls ≠ "java/lang/invoke/VarHandle" ∧ (parseMethodDescriptor yA_fill.desc).map (fun d => d.parameters.length) = some 2 := by decide +kernel
abbrev w_A_fill : List Cond := Cond.code yA_fill cA_fill 4 none :: jG
theorem dd_W_init : yW_init.cls = rW ∧ yW_init.cls ≠ "java/lang/invoke/MethodHandle" ∧ yW_init.cls ≠ "java/lang/invoke/VarHandle" ∧ (parseMethodDescriptor yW_init.desc).map (fun d => d.parameters.length) = some 0 := by decide +kernel
abbrev w_W_init : List Cond := Cond.code yW_init cW_init 1 none :: jG
theorem dd_T_init : yT_init.cls = rT ∧ yT_init.cls ≠ "java/lang/invoke/MethodHandle" ∧ yT_init.cls ≠ "java/lang/invoke/VarHandle" ∧ (parseMethodDescriptor yT_init.desc).map (fun d => d.parameters.length) = some 3 := by decide +kernel
abbrev w_T_init : List Cond := Cond.code yT_init cT_init 4 none :: jG
theorem dd_B_init : yB_init.cls = rB ∧ yB_init.cls ≠ "java/lang/invoke/MethodHandle" ∧ yB_init.cls ≠ "java/lang/invoke/VarHandle" ∧ (parseMethodDescriptor yB_init.desc).map (fun d => d.parameters.length) = some 0 := by decide +kernel
abbrev w_B_init : List Cond := Cond.code yB_init cB_init 1 none :: jG
theorem dd_K_init : yK_init.cls = rK ∧ yK_init.cls ≠ "java/lang/invoke/MethodHandle" ∧ yK_init.cls ≠ "java/lang/invoke/VarHandle" ∧ (parseMethodDescriptor yK_init.desc).map (fun d => d.parameters.length) = some 4 := by decide +kernel
abbrev w_K_init : List Cond := Cond.code yK_init cK_init 5 none :: jG
theorem dd_N_bridge : yN_bridge.cls = rN ∧ yN_bridge.cls ≠ "java/lang/invoke/MethodHandle" ∧ yN_bridge.cls ≠ "java/lang/invoke/VarHandle" ∧ (parseMethodDescriptor yN_bridge.desc).map (fun d => d.parameters.length) = some 1 := by decide +kernel
abbrev w_N_bridge : List Cond := Cond.code yN_bridge cN_bridge 3 (some .int) :: jG
theorem dd_N_isWithin : yN_isWithin.cls = rN ∧ yN_isWithin.cls ≠ "java/lang/invoke/MethodHandle" ∧ yN_isWithin.cls ≠ "java/lang/invoke/VarHandle" ∧ (parseMethodDescriptor yN_isWithin.desc).map (fun d => d.parameters.length) = some 3 := by decide +kernel
abbrev w_N_isWithin : List Cond := Cond.code yN_isWithin cN_isWithin 3 (some .boolean) :: jG
theorem dd_P_addBridge : yP_addBridge.cls = rP ∧ yP_addBridge.cls ≠ "java/lang/invoke/MethodHandle" ∧ yP_addBridge.cls ≠ "java/lang/invoke/VarHandle" ∧ (parseMethodDescriptor yP_addBridge.desc).map (fun d => d.parameters.length) = some 1 := by decide +kernel
abbrev w_P_addBridge : List Cond := Cond.code yP_addBridge cP_addBridge 3 (some .int) :: jG
theorem dd_T_settle : yT_settle.cls = rT ∧ yT_settle.cls ≠ "java/lang/invoke/MethodHandle" ∧ yT_settle.cls ≠ "java/lang/invoke/VarHandle" ∧ (parseMethodDescriptor yT_settle.desc).map (fun d => d.parameters.length) = some 0 := by decide +kernel
abbrev w_T_settle : List Cond := Cond.code yT_settle cT_settle 4 none :: jG
theorem dd_T_chooseRoots : yT_chooseRoots.cls = rT ∧ yT_chooseRoots.cls ≠ "java/lang/invoke/MethodHandle" ∧ yT_chooseRoots.cls ≠ "java/lang/invoke/VarHandle" ∧ (parseMethodDescriptor yT_chooseRoots.desc).map (fun d => d.parameters.length) = some 0 := by decide +kernel
abbrev w_T_chooseRoots : List Cond := Cond.code yT_chooseRoots cT_chooseRoots 3 none :: jG
theorem dd_T_bestOffer : yT_bestOffer.cls = rT ∧ yT_bestOffer.cls ≠ "java/lang/invoke/MethodHandle" ∧ yT_bestOffer.cls ≠ "java/lang/invoke/VarHandle" ∧ (parseMethodDescriptor yT_bestOffer.desc).map (fun d => d.parameters.length) = some 1 := by decide +kernel
abbrev w_T_bestOffer : List Cond := Cond.code yT_bestOffer cT_bestOffer 4 (some .int) :: jG
theorem dd_T_isOffering : yT_isOffering.cls = rT ∧ yT_isOffering.cls ≠ "java/lang/invoke/MethodHandle" ∧ yT_isOffering.cls ≠ "java/lang/invoke/VarHandle" ∧ (parseMethodDescriptor yT_isOffering.desc).map (fun d => d.parameters.length) = some 1 := by decide +kernel
abbrev w_T_isOffering : List Cond := Cond.code yT_isOffering cT_isOffering 2 (some .boolean) :: jG
theorem dd_P_hasWholeWire : yP_hasWholeWire.cls = rP ∧ yP_hasWholeWire.cls ≠ "java/lang/invoke/MethodHandle" ∧ yP_hasWholeWire.cls ≠ "java/lang/invoke/VarHandle" ∧ (parseMethodDescriptor yP_hasWholeWire.desc).map (fun d => d.parameters.length) = some 1 := by decide +kernel
abbrev w_P_hasWholeWire : List Cond := Cond.code yP_hasWholeWire cP_hasWholeWire 2 (some .boolean) :: jG
theorem dd_T_offerRank : yT_offerRank.cls = rT ∧ yT_offerRank.cls ≠ "java/lang/invoke/MethodHandle" ∧ yT_offerRank.cls ≠ "java/lang/invoke/VarHandle" ∧ (parseMethodDescriptor yT_offerRank.desc).map (fun d => d.parameters.length) = some 1 := by decide +kernel
abbrev w_T_offerRank : List Cond := Cond.code yT_offerRank cT_offerRank 3 (some .long) :: jG
theorem dd_T_offeredCost : yT_offeredCost.cls = rT ∧ yT_offeredCost.cls ≠ "java/lang/invoke/MethodHandle" ∧ yT_offeredCost.cls ≠ "java/lang/invoke/VarHandle" ∧ (parseMethodDescriptor yT_offeredCost.desc).map (fun d => d.parameters.length) = some 1 := by decide +kernel
abbrev w_T_offeredCost : List Cond := Cond.code yT_offeredCost cT_offeredCost 3 (some .int) :: jG
theorem dd_T_rank : yT_rank.cls = rT ∧ yT_rank.cls ≠ "java/lang/invoke/MethodHandle" ∧ yT_rank.cls ≠ "java/lang/invoke/VarHandle" ∧ (parseMethodDescriptor yT_rank.desc).map (fun d => d.parameters.length) = some 4 := by decide +kernel
abbrev w_T_rank : List Cond := Cond.code yT_rank cT_rank 8 (some .long) :: jG
theorem dd_T_lookAtRole : yT_lookAtRole.cls = rT ∧ yT_lookAtRole.cls ≠ "java/lang/invoke/MethodHandle" ∧ yT_lookAtRole.cls ≠ "java/lang/invoke/VarHandle" ∧ (parseMethodDescriptor yT_lookAtRole.desc).map (fun d => d.parameters.length) = some 1 := by decide +kernel
abbrev w_T_lookAtRole : List Cond := Cond.code yT_lookAtRole cT_lookAtRole 3 none :: jG
theorem dd_T_roleNow : yT_roleNow.cls = rT ∧ yT_roleNow.cls ≠ "java/lang/invoke/MethodHandle" ∧ yT_roleNow.cls ≠ "java/lang/invoke/VarHandle" ∧ (parseMethodDescriptor yT_roleNow.desc).map (fun d => d.parameters.length) = some 1 := by decide +kernel
abbrev w_T_roleNow : List Cond := Cond.code yT_roleNow cT_roleNow 5 (some .int) :: jG
theorem dd_P_isUp : yP_isUp.cls = rP ∧ yP_isUp.cls ≠ "java/lang/invoke/MethodHandle" ∧ yP_isUp.cls ≠ "java/lang/invoke/VarHandle" ∧ (parseMethodDescriptor yP_isUp.desc).map (fun d => d.parameters.length) = some 1 := by decide +kernel
abbrev w_P_isUp : List Cond := Cond.code yP_isUp cP_isUp 2 (some .boolean) :: jG
theorem dd_T_messageRank : yT_messageRank.cls = rT ∧ yT_messageRank.cls ≠ "java/lang/invoke/MethodHandle" ∧ yT_messageRank.cls ≠ "java/lang/invoke/VarHandle" ∧ (parseMethodDescriptor yT_messageRank.desc).map (fun d => d.parameters.length) = some 1 := by decide +kernel
abbrev w_T_messageRank : List Cond := Cond.code yT_messageRank cT_messageRank 3 (some .long) :: jG
theorem dd_T_isActive : yT_isActive.cls = rT ∧ yT_isActive.cls ≠ "java/lang/invoke/MethodHandle" ∧ yT_isActive.cls ≠ "java/lang/invoke/VarHandle" ∧ (parseMethodDescriptor yT_isActive.desc).map (fun d => d.parameters.length) = some 1 := by decide +kernel
abbrev w_T_isActive : List Cond := Cond.code yT_isActive cT_isActive 1 (some .boolean) :: jG
theorem dd_T_stateNow : yT_stateNow.cls = rT ∧ yT_stateNow.cls ≠ "java/lang/invoke/MethodHandle" ∧ yT_stateNow.cls ≠ "java/lang/invoke/VarHandle" ∧ (parseMethodDescriptor yT_stateNow.desc).map (fun d => d.parameters.length) = some 1 := by decide +kernel
abbrev w_T_stateNow : List Cond := Cond.code yT_stateNow cT_stateNow 3 (some .int) :: jG
theorem dd_T_isWorthNotice : yT_isWorthNotice.cls = rT ∧ yT_isWorthNotice.cls ≠ "java/lang/invoke/MethodHandle" ∧ yT_isWorthNotice.cls ≠ "java/lang/invoke/VarHandle" ∧ (parseMethodDescriptor yT_isWorthNotice.desc).map (fun d => d.parameters.length) = some 2 := by decide +kernel
abbrev w_T_isWorthNotice : List Cond := Cond.code yT_isWorthNotice cT_isWorthNotice 4 (some .boolean) :: jG
theorem dd_N_wire : yN_wire.cls = rN ∧ yN_wire.cls ≠ "java/lang/invoke/MethodHandle" ∧ yN_wire.cls ≠ "java/lang/invoke/VarHandle" ∧ (parseMethodDescriptor yN_wire.desc).map (fun d => d.parameters.length) = some 3 := by decide +kernel
abbrev w_N_wire : List Cond := Cond.code yN_wire cN_wire 5 (some .int) :: jG
theorem dd_P_isFree : yP_isFree.cls = rP ∧ yP_isFree.cls ≠ "java/lang/invoke/MethodHandle" ∧ yP_isFree.cls ≠ "java/lang/invoke/VarHandle" ∧ (parseMethodDescriptor yP_isFree.desc).map (fun d => d.parameters.length) = some 1 := by decide +kernel
abbrev w_P_isFree : List Cond := Cond.code yP_isFree cP_isFree 2 (some .boolean) :: jG
theorem dd_P_isPlace : yP_isPlace.cls = rP ∧ yP_isPlace.cls ≠ "java/lang/invoke/MethodHandle" ∧ yP_isPlace.cls ≠ "java/lang/invoke/VarHandle" ∧ (parseMethodDescriptor yP_isPlace.desc).map (fun d => d.parameters.length) = some 1 := by decide +kernel
abbrev w_P_isPlace : List Cond := Cond.code yP_isPlace cP_isPlace 2 (some .boolean) :: jG
theorem dd_P_addWire : yP_addWire.cls = rP ∧ yP_addWire.cls ≠ "java/lang/invoke/MethodHandle" ∧ yP_addWire.cls ≠ "java/lang/invoke/VarHandle" ∧ (parseMethodDescriptor yP_addWire.desc).map (fun d => d.parameters.length) = some 3 := by decide +kernel
abbrev w_P_addWire : List Cond := Cond.code yP_addWire cP_addWire 5 (some .int) :: jG
theorem dd_N_host : yN_host.cls = rN ∧ yN_host.cls ≠ "java/lang/invoke/MethodHandle" ∧ yN_host.cls ≠ "java/lang/invoke/VarHandle" ∧ (parseMethodDescriptor yN_host.desc).map (fun d => d.parameters.length) = some 2 := by decide +kernel
abbrev w_N_host : List Cond := Cond.code yN_host cN_host 4 (some .int) :: jG
theorem dd_N_isNetwork : yN_isNetwork.cls = rN ∧ yN_isNetwork.cls ≠ "java/lang/invoke/MethodHandle" ∧ yN_isNetwork.cls ≠ "java/lang/invoke/VarHandle" ∧ (parseMethodDescriptor yN_isNetwork.desc).map (fun d => d.parameters.length) = some 1 := by decide +kernel
abbrev w_N_isNetwork : List Cond := Cond.code yN_isNetwork cN_isNetwork 1 (some .boolean) :: jG
theorem dd_P_addHost : yP_addHost.cls = rP ∧ yP_addHost.cls ≠ "java/lang/invoke/MethodHandle" ∧ yP_addHost.cls ≠ "java/lang/invoke/VarHandle" ∧ (parseMethodDescriptor yP_addHost.desc).map (fun d => d.parameters.length) = some 2 := by decide +kernel
abbrev w_P_addHost : List Cond := Cond.code yP_addHost cP_addHost 4 (some .int) :: jG
theorem dd_N_router : yN_router.cls = rN ∧ yN_router.cls ≠ "java/lang/invoke/MethodHandle" ∧ yN_router.cls ≠ "java/lang/invoke/VarHandle" ∧ (parseMethodDescriptor yN_router.desc).map (fun d => d.parameters.length) = some 1 := by decide +kernel
abbrev w_N_router : List Cond := Cond.code yN_router cN_router 2 (some .boolean) :: jG
theorem dd_P_hasRouter : yP_hasRouter.cls = rP ∧ yP_hasRouter.cls ≠ "java/lang/invoke/MethodHandle" ∧ yP_hasRouter.cls ≠ "java/lang/invoke/VarHandle" ∧ (parseMethodDescriptor yP_hasRouter.desc).map (fun d => d.parameters.length) = some 0 := by decide +kernel
abbrev w_P_hasRouter : List Cond := Cond.code yP_hasRouter cP_hasRouter 1 (some .boolean) :: jG
theorem dd_P_addRouter : yP_addRouter.cls = rP ∧ yP_addRouter.cls ≠ "java/lang/invoke/MethodHandle" ∧ yP_addRouter.cls ≠ "java/lang/invoke/VarHandle" ∧ (parseMethodDescriptor yP_addRouter.desc).map (fun d => d.parameters.length) = some 1 := by decide +kernel
abbrev w_P_addRouter : List Cond := Cond.code yP_addRouter cP_addRouter 2 none :: jG
theorem dd_N_access : yN_access.cls = rN ∧ yN_access.cls ≠ "java/lang/invoke/MethodHandle" ∧ yN_access.cls ≠ "java/lang/invoke/VarHandle" ∧ (parseMethodDescriptor yN_access.desc).map (fun d => d.parameters.length) = some 2 := by decide +kernel
abbrev w_N_access : List Cond := Cond.code yN_access cN_access 3 (some .boolean) :: jG
theorem dd_W_makeAccess : yW_makeAccess.cls = rW ∧ yW_makeAccess.cls ≠ "java/lang/invoke/MethodHandle" ∧ yW_makeAccess.cls ≠ "java/lang/invoke/VarHandle" ∧ (parseMethodDescriptor yW_makeAccess.desc).map (fun d => d.parameters.length) = some 2 := by decide +kernel
abbrev w_W_makeAccess : List Cond := Cond.code yW_makeAccess cW_makeAccess 3 none :: jG
theorem dd_N_trunk : yN_trunk.cls = rN ∧ yN_trunk.cls ≠ "java/lang/invoke/MethodHandle" ∧ yN_trunk.cls ≠ "java/lang/invoke/VarHandle" ∧ (parseMethodDescriptor yN_trunk.desc).map (fun d => d.parameters.length) = some 3 := by decide +kernel
abbrev w_N_trunk : List Cond := Cond.code yN_trunk cN_trunk 4 (some .boolean) :: jG
theorem dd_W_makeTrunk : yW_makeTrunk.cls = rW ∧ yW_makeTrunk.cls ≠ "java/lang/invoke/MethodHandle" ∧ yW_makeTrunk.cls ≠ "java/lang/invoke/VarHandle" ∧ (parseMethodDescriptor yW_makeTrunk.desc).map (fun d => d.parameters.length) = some 3 := by decide +kernel
abbrev w_W_makeTrunk : List Cond := Cond.code yW_makeTrunk cW_makeTrunk 4 none :: jG
theorem dd_N_cut : yN_cut.cls = rN ∧ yN_cut.cls ≠ "java/lang/invoke/MethodHandle" ∧ yN_cut.cls ≠ "java/lang/invoke/VarHandle" ∧ (parseMethodDescriptor yN_cut.desc).map (fun d => d.parameters.length) = some 2 := by decide +kernel
abbrev w_N_cut : List Cond := Cond.code yN_cut cN_cut 4 (some .boolean) :: jG
theorem dd_T_dropMessage : yT_dropMessage.cls = rT ∧ yT_dropMessage.cls ≠ "java/lang/invoke/MethodHandle" ∧ yT_dropMessage.cls ≠ "java/lang/invoke/VarHandle" ∧ (parseMethodDescriptor yT_dropMessage.desc).map (fun d => d.parameters.length) = some 1 := by decide +kernel
abbrev w_T_dropMessage : List Cond := Cond.code yT_dropMessage cT_dropMessage 2 none :: jG
theorem dd_N_tick : yN_tick.cls = rN ∧ yN_tick.cls ≠ "java/lang/invoke/MethodHandle" ∧ yN_tick.cls ≠ "java/lang/invoke/VarHandle" ∧ (parseMethodDescriptor yN_tick.desc).map (fun d => d.parameters.length) = some 1 := by decide +kernel
abbrev w_N_tick : List Cond := Cond.code yN_tick cN_tick 3 (some .int) :: jG
theorem dd_T_passTime : yT_passTime.cls = rT ∧ yT_passTime.cls ≠ "java/lang/invoke/MethodHandle" ∧ yT_passTime.cls ≠ "java/lang/invoke/VarHandle" ∧ (parseMethodDescriptor yT_passTime.desc).map (fun d => d.parameters.length) = some 0 := by decide +kernel
abbrev w_T_passTime : List Cond := Cond.code yT_passTime cT_passTime 1 none :: jG
theorem dd_T_ageMessages : yT_ageMessages.cls = rT ∧ yT_ageMessages.cls ≠ "java/lang/invoke/MethodHandle" ∧ yT_ageMessages.cls ≠ "java/lang/invoke/VarHandle" ∧ (parseMethodDescriptor yT_ageMessages.desc).map (fun d => d.parameters.length) = some 0 := by decide +kernel
abbrev w_T_ageMessages : List Cond := Cond.code yT_ageMessages cT_ageMessages 2 none :: jG
theorem dd_T_passNotices : yT_passNotices.cls = rT ∧ yT_passNotices.cls ≠ "java/lang/invoke/MethodHandle" ∧ yT_passNotices.cls ≠ "java/lang/invoke/VarHandle" ∧ (parseMethodDescriptor yT_passNotices.desc).map (fun d => d.parameters.length) = some 0 := by decide +kernel
abbrev w_T_passNotices : List Cond := Cond.code yT_passNotices cT_passNotices 2 none :: jG
theorem dd_T_passNoticeOf : yT_passNoticeOf.cls = rT ∧ yT_passNoticeOf.cls ≠ "java/lang/invoke/MethodHandle" ∧ yT_passNoticeOf.cls ≠ "java/lang/invoke/VarHandle" ∧ (parseMethodDescriptor yT_passNoticeOf.desc).map (fun d => d.parameters.length) = some 1 := by decide +kernel
abbrev w_T_passNoticeOf : List Cond := Cond.code yT_passNoticeOf cT_passNoticeOf 3 none :: jG
theorem dd_T_sendMessages : yT_sendMessages.cls = rT ∧ yT_sendMessages.cls ≠ "java/lang/invoke/MethodHandle" ∧ yT_sendMessages.cls ≠ "java/lang/invoke/VarHandle" ∧ (parseMethodDescriptor yT_sendMessages.desc).map (fun d => d.parameters.length) = some 0 := by decide +kernel
abbrev w_T_sendMessages : List Cond := Cond.code yT_sendMessages cT_sendMessages 3 none :: jG
theorem dd_T_sendMessage : yT_sendMessage.cls = rT ∧ yT_sendMessage.cls ≠ "java/lang/invoke/MethodHandle" ∧ yT_sendMessage.cls ≠ "java/lang/invoke/VarHandle" ∧ (parseMethodDescriptor yT_sendMessage.desc).map (fun d => d.parameters.length) = some 2 := by decide +kernel
abbrev w_T_sendMessage : List Cond := Cond.code yT_sendMessage cT_sendMessage 6 none :: jG
theorem dd_T_isMarked : yT_isMarked.cls = rT ∧ yT_isMarked.cls ≠ "java/lang/invoke/MethodHandle" ∧ yT_isMarked.cls ≠ "java/lang/invoke/VarHandle" ∧ (parseMethodDescriptor yT_isMarked.desc).map (fun d => d.parameters.length) = some 1 := by decide +kernel
abbrev w_T_isMarked : List Cond := Cond.code yT_isMarked cT_isMarked 2 (some .boolean) :: jG
theorem dd_T_takeMessages : yT_takeMessages.cls = rT ∧ yT_takeMessages.cls ≠ "java/lang/invoke/MethodHandle" ∧ yT_takeMessages.cls ≠ "java/lang/invoke/VarHandle" ∧ (parseMethodDescriptor yT_takeMessages.desc).map (fun d => d.parameters.length) = some 0 := by decide +kernel
abbrev w_T_takeMessages : List Cond := Cond.code yT_takeMessages cT_takeMessages 2 none :: jG
theorem dd_N_forgetOldEntries : yN_forgetOldEntries.cls = rN ∧ yN_forgetOldEntries.cls ≠ "java/lang/invoke/MethodHandle" ∧ yN_forgetOldEntries.cls ≠ "java/lang/invoke/VarHandle" ∧ (parseMethodDescriptor yN_forgetOldEntries.desc).map (fun d => d.parameters.length) = some 0 := by decide +kernel
abbrev w_N_forgetOldEntries : List Cond := Cond.code yN_forgetOldEntries cN_forgetOldEntries 2 none :: jG
theorem dd_B_forget : yB_forget.cls = rB ∧ yB_forget.cls ≠ "java/lang/invoke/MethodHandle" ∧ yB_forget.cls ≠ "java/lang/invoke/VarHandle" ∧ (parseMethodDescriptor yB_forget.desc).map (fun d => d.parameters.length) = some 3 := by decide +kernel
abbrev w_B_forget : List Cond := Cond.code yB_forget cB_forget 5 none :: jG
theorem dd_N_role : yN_role.cls = rN ∧ yN_role.cls ≠ "java/lang/invoke/MethodHandle" ∧ yN_role.cls ≠ "java/lang/invoke/VarHandle" ∧ (parseMethodDescriptor yN_role.desc).map (fun d => d.parameters.length) = some 1 := by decide +kernel
abbrev w_N_role : List Cond := Cond.code yN_role cN_role 2 (some .int) :: jG
theorem dd_N_state : yN_state.cls = rN ∧ yN_state.cls ≠ "java/lang/invoke/MethodHandle" ∧ yN_state.cls ≠ "java/lang/invoke/VarHandle" ∧ (parseMethodDescriptor yN_state.desc).map (fun d => d.parameters.length) = some 1 := by decide +kernel
abbrev w_N_state : List Cond := Cond.code yN_state cN_state 2 (some .int) :: jG
theorem dd_N_root : yN_root.cls = rN ∧ yN_root.cls ≠ "java/lang/invoke/MethodHandle" ∧ yN_root.cls ≠ "java/lang/invoke/VarHandle" ∧ (parseMethodDescriptor yN_root.desc).map (fun d => d.parameters.length) = some 1 := by decide +kernel
abbrev w_N_root : List Cond := Cond.code yN_root cN_root 3 (some .int) :: jG
theorem dd_P_isBridge : yP_isBridge.cls = rP ∧ yP_isBridge.cls ≠ "java/lang/invoke/MethodHandle" ∧ yP_isBridge.cls ≠ "java/lang/invoke/VarHandle" ∧ (parseMethodDescriptor yP_isBridge.desc).map (fun d => d.parameters.length) = some 1 := by decide +kernel
abbrev w_P_isBridge : List Cond := Cond.code yP_isBridge cP_isBridge 2 (some .boolean) :: jG
theorem dd_N_held : yN_held.cls = rN ∧ yN_held.cls ≠ "java/lang/invoke/MethodHandle" ∧ yN_held.cls ≠ "java/lang/invoke/VarHandle" ∧ (parseMethodDescriptor yN_held.desc).map (fun d => d.parameters.length) = some 2 := by decide +kernel
abbrev w_N_held : List Cond := Cond.code yN_held cN_held 3 (some .int) :: jG
theorem dd_N_learned : yN_learned.cls = rN ∧ yN_learned.cls ≠ "java/lang/invoke/MethodHandle" ∧ yN_learned.cls ≠ "java/lang/invoke/VarHandle" ∧ (parseMethodDescriptor yN_learned.desc).map (fun d => d.parameters.length) = some 3 := by decide +kernel
abbrev w_N_learned : List Cond := Cond.code yN_learned cN_learned 4 (some .int) :: jG
theorem dd_B_portOf : yB_portOf.cls = rB ∧ yB_portOf.cls ≠ "java/lang/invoke/MethodHandle" ∧ yB_portOf.cls ≠ "java/lang/invoke/VarHandle" ∧ (parseMethodDescriptor yB_portOf.desc).map (fun d => d.parameters.length) = some 3 := by decide +kernel
abbrev w_B_portOf : List Cond := Cond.code yB_portOf cB_portOf 4 (some .int) :: jG
theorem dd_N_entries : yN_entries.cls = rN ∧ yN_entries.cls ≠ "java/lang/invoke/MethodHandle" ∧ yN_entries.cls ≠ "java/lang/invoke/VarHandle" ∧ (parseMethodDescriptor yN_entries.desc).map (fun d => d.parameters.length) = some 1 := by decide +kernel
abbrev w_N_entries : List Cond := Cond.code yN_entries cN_entries 2 (some .int) :: jG
theorem dd_B_countOf : yB_countOf.cls = rB ∧ yB_countOf.cls ≠ "java/lang/invoke/MethodHandle" ∧ yB_countOf.cls ≠ "java/lang/invoke/VarHandle" ∧ (parseMethodDescriptor yB_countOf.desc).map (fun d => d.parameters.length) = some 1 := by decide +kernel
abbrev w_B_countOf : List Cond := Cond.code yB_countOf cB_countOf 4 (some .int) :: jG
theorem dd_N_send : yN_send.cls = rN ∧ yN_send.cls ≠ "java/lang/invoke/MethodHandle" ∧ yN_send.cls ≠ "java/lang/invoke/VarHandle" ∧ (parseMethodDescriptor yN_send.desc).map (fun d => d.parameters.length) = some 2 := by decide +kernel
abbrev w_N_send : List Cond := Cond.code yN_send cN_send 3 (some .int) :: jG
theorem dd_P_isHost : yP_isHost.cls = rP ∧ yP_isHost.cls ≠ "java/lang/invoke/MethodHandle" ∧ yP_isHost.cls ≠ "java/lang/invoke/VarHandle" ∧ (parseMethodDescriptor yP_isHost.desc).map (fun d => d.parameters.length) = some 1 := by decide +kernel
abbrev w_P_isHost : List Cond := Cond.code yP_isHost cP_isHost 2 (some .boolean) :: jG
theorem dd_N_isDestination : yN_isDestination.cls = rN ∧ yN_isDestination.cls ≠ "java/lang/invoke/MethodHandle" ∧ yN_isDestination.cls ≠ "java/lang/invoke/VarHandle" ∧ (parseMethodDescriptor yN_isDestination.desc).map (fun d => d.parameters.length) = some 1 := by decide +kernel
abbrev w_N_isDestination : List Cond := Cond.code yN_isDestination cN_isDestination 2 (some .boolean) :: jG
theorem dd_K_startCount : yK_startCount.cls = rK ∧ yK_startCount.cls ≠ "java/lang/invoke/MethodHandle" ∧ yK_startCount.cls ≠ "java/lang/invoke/VarHandle" ∧ (parseMethodDescriptor yK_startCount.desc).map (fun d => d.parameters.length) = some 0 := by decide +kernel
abbrev w_K_startCount : List Cond := Cond.code yK_startCount cK_startCount 1 none :: jG
theorem dd_K_carryFromHost : yK_carryFromHost.cls = rK ∧ yK_carryFromHost.cls ≠ "java/lang/invoke/MethodHandle" ∧ yK_carryFromHost.cls ≠ "java/lang/invoke/VarHandle" ∧ (parseMethodDescriptor yK_carryFromHost.desc).map (fun d => d.parameters.length) = some 2 := by decide +kernel
abbrev w_K_carryFromHost : List Cond := Cond.code yK_carryFromHost cK_carryFromHost 3 (some .int) :: jG
theorem dd_K_carry : yK_carry.cls = rK ∧ yK_carry.cls ≠ "java/lang/invoke/MethodHandle" ∧ yK_carry.cls ≠ "java/lang/invoke/VarHandle" ∧ (parseMethodDescriptor yK_carry.desc).map (fun d => d.parameters.length) = some 4 := by decide +kernel
abbrev w_K_carry : List Cond := Cond.code yK_carry cK_carry 6 (some .int) :: jG
theorem dd_K_handleArrival : yK_handleArrival.cls = rK ∧ yK_handleArrival.cls ≠ "java/lang/invoke/MethodHandle" ∧ yK_handleArrival.cls ≠ "java/lang/invoke/VarHandle" ∧ (parseMethodDescriptor yK_handleArrival.desc).map (fun d => d.parameters.length) = some 2 := by decide +kernel
abbrev w_K_handleArrival : List Cond := Cond.code yK_handleArrival cK_handleArrival 4 none :: jG
theorem dd_W_networkInside : yW_networkInside.cls = rW ∧ yW_networkInside.cls ≠ "java/lang/invoke/MethodHandle" ∧ yW_networkInside.cls ≠ "java/lang/invoke/VarHandle" ∧ (parseMethodDescriptor yW_networkInside.desc).map (fun d => d.parameters.length) = some 2 := by decide +kernel
abbrev w_W_networkInside : List Cond := Cond.code yW_networkInside cW_networkInside 4 (some .int) :: jG
theorem dd_W_isMember : yW_isMember.cls = rW ∧ yW_isMember.cls ≠ "java/lang/invoke/MethodHandle" ∧ yW_isMember.cls ≠ "java/lang/invoke/VarHandle" ∧ (parseMethodDescriptor yW_isMember.desc).map (fun d => d.parameters.length) = some 2 := by decide +kernel
abbrev w_W_isMember : List Cond := Cond.code yW_isMember cW_isMember 3 (some .boolean) :: jG
theorem dd_B_learn : yB_learn.cls = rB ∧ yB_learn.cls ≠ "java/lang/invoke/MethodHandle" ∧ yB_learn.cls ≠ "java/lang/invoke/VarHandle" ∧ (parseMethodDescriptor yB_learn.desc).map (fun d => d.parameters.length) = some 4 := by decide +kernel
abbrev w_B_learn : List Cond := Cond.code yB_learn cB_learn 6 none :: jG
theorem dd_K_forward : yK_forward.cls = rK ∧ yK_forward.cls ≠ "java/lang/invoke/MethodHandle" ∧ yK_forward.cls ≠ "java/lang/invoke/VarHandle" ∧ (parseMethodDescriptor yK_forward.desc).map (fun d => d.parameters.length) = some 2 := by decide +kernel
abbrev w_K_forward : List Cond := Cond.code yK_forward cK_forward 8 none :: jG
theorem dd_W_tagOutside : yW_tagOutside.cls = rW ∧ yW_tagOutside.cls ≠ "java/lang/invoke/MethodHandle" ∧ yW_tagOutside.cls ≠ "java/lang/invoke/VarHandle" ∧ (parseMethodDescriptor yW_tagOutside.desc).map (fun d => d.parameters.length) = some 2 := by decide +kernel
abbrev w_W_tagOutside : List Cond := Cond.code yW_tagOutside cW_tagOutside 3 (some .int) :: jG
theorem dd_K_goOut : yK_goOut.cls = rK ∧ yK_goOut.cls ≠ "java/lang/invoke/MethodHandle" ∧ yK_goOut.cls ≠ "java/lang/invoke/VarHandle" ∧ (parseMethodDescriptor yK_goOut.desc).map (fun d => d.parameters.length) = some 2 := by decide +kernel
abbrev w_K_goOut : List Cond := Cond.code yK_goOut cK_goOut 5 none :: jG
theorem dd_N_ask : yN_ask.cls = rN ∧ yN_ask.cls ≠ "java/lang/invoke/MethodHandle" ∧ yN_ask.cls ≠ "java/lang/invoke/VarHandle" ∧ (parseMethodDescriptor yN_ask.desc).map (fun d => d.parameters.length) = some 3 := by decide +kernel
abbrev w_N_ask : List Cond := Cond.code yN_ask cN_ask 7 (some .int) :: jG
theorem dd_N_routedStep : yN_routedStep.cls = rN ∧ yN_routedStep.cls ≠ "java/lang/invoke/MethodHandle" ∧ yN_routedStep.cls ≠ "java/lang/invoke/VarHandle" ∧ (parseMethodDescriptor yN_routedStep.desc).map (fun d => d.parameters.length) = some 3 := by decide +kernel
abbrev w_N_routedStep : List Cond := Cond.code yN_routedStep cN_routedStep 4 (some .boolean) :: jG
theorem dd_N_hasBit : yN_hasBit.cls = rN ∧ yN_hasBit.cls ≠ "java/lang/invoke/MethodHandle" ∧ yN_hasBit.cls ≠ "java/lang/invoke/VarHandle" ∧ (parseMethodDescriptor yN_hasBit.desc).map (fun d => d.parameters.length) = some 2 := by decide +kernel
abbrev w_N_hasBit : List Cond := Cond.code yN_hasBit cN_hasBit 2 (some .boolean) :: jG
theorem dd_K_carryFromRouter : yK_carryFromRouter.cls = rK ∧ yK_carryFromRouter.cls ≠ "java/lang/invoke/MethodHandle" ∧ yK_carryFromRouter.cls ≠ "java/lang/invoke/VarHandle" ∧ (parseMethodDescriptor yK_carryFromRouter.desc).map (fun d => d.parameters.length) = some 2 := by decide +kernel
abbrev w_K_carryFromRouter : List Cond := Cond.code yK_carryFromRouter cK_carryFromRouter 4 (some .int) :: jG
theorem dd_N_directStep : yN_directStep.cls = rN ∧ yN_directStep.cls ≠ "java/lang/invoke/MethodHandle" ∧ yN_directStep.cls ≠ "java/lang/invoke/VarHandle" ∧ (parseMethodDescriptor yN_directStep.desc).map (fun d => d.parameters.length) = some 3 := by decide +kernel
abbrev w_N_directStep : List Cond := Cond.code yN_directStep cN_directStep 4 (some .boolean) :: jG
theorem dd_N_answer : yN_answer.cls = rN ∧ yN_answer.cls ≠ "java/lang/invoke/MethodHandle" ∧ yN_answer.cls ≠ "java/lang/invoke/VarHandle" ∧ (parseMethodDescriptor yN_answer.desc).map (fun d => d.parameters.length) = some 0 := by decide +kernel
abbrev w_N_answer : List Cond := Cond.code yN_answer cN_answer 1 (some .int) :: jG
theorem dd_N_crossings : yN_crossings.cls = rN ∧ yN_crossings.cls ≠ "java/lang/invoke/MethodHandle" ∧ yN_crossings.cls ≠ "java/lang/invoke/VarHandle" ∧ (parseMethodDescriptor yN_crossings.desc).map (fun d => d.parameters.length) = some 0 := by decide +kernel
abbrev w_N_crossings : List Cond := Cond.code yN_crossings cN_crossings 1 (some .int) :: jG
theorem dd_L_cell : yL_cell.cls = rL ∧ yL_cell.cls ≠ "java/lang/invoke/MethodHandle" ∧ yL_cell.cls ≠ "java/lang/invoke/VarHandle" ∧ (parseMethodDescriptor yL_cell.desc).map (fun d => d.parameters.length) = some 2 := by decide +kernel
abbrev w_L_cell : List Cond := Cond.code yL_cell cL_cell 2 (some .int) :: jG
theorem dd_M_init : yM_init.cls = rM ∧ yM_init.cls ≠ "java/lang/invoke/MethodHandle" ∧ yM_init.cls ≠ "java/lang/invoke/VarHandle" ∧ (parseMethodDescriptor yM_init.desc).map (fun d => d.parameters.length) = some 3 := by decide +kernel
abbrev w_M_init : List Cond := Cond.code yM_init cM_init 5 none :: jG
theorem dd_M_near : yM_near.cls = rM ∧ yM_near.cls ≠ "java/lang/invoke/MethodHandle" ∧ yM_near.cls ≠ "java/lang/invoke/VarHandle" ∧ (parseMethodDescriptor yM_near.desc).map (fun d => d.parameters.length) = some 3 := by decide +kernel
abbrev w_M_near : List Cond := Cond.code yM_near cM_near 3 (some .int) :: jG
theorem dd_M_bridge : yM_bridge.cls = rM ∧ yM_bridge.cls ≠ "java/lang/invoke/MethodHandle" ∧ yM_bridge.cls ≠ "java/lang/invoke/VarHandle" ∧ (parseMethodDescriptor yM_bridge.desc).map (fun d => d.parameters.length) = some 1 := by decide +kernel
abbrev w_M_bridge : List Cond := Cond.code yM_bridge cM_bridge 2 (some .int) :: jG
theorem dd_M_look : yM_look.cls = rM ∧ yM_look.cls ≠ "java/lang/invoke/MethodHandle" ∧ yM_look.cls ≠ "java/lang/invoke/VarHandle" ∧ (parseMethodDescriptor yM_look.desc).map (fun d => d.parameters.length) = some 1 := by decide +kernel
abbrev w_M_look : List Cond := Cond.code yM_look cM_look 7 none :: jG
theorem dd_M_roleOf : yM_roleOf.cls = rM ∧ yM_roleOf.cls ≠ "java/lang/invoke/MethodHandle" ∧ yM_roleOf.cls ≠ "java/lang/invoke/VarHandle" ∧ (parseMethodDescriptor yM_roleOf.desc).map (fun d => d.parameters.length) = some 1 := by decide +kernel
abbrev w_M_roleOf : List Cond := Cond.code yM_roleOf cM_roleOf 5 (some .int) :: jG
theorem dd_M_isUp : yM_isUp.cls = rM ∧ yM_isUp.cls ≠ "java/lang/invoke/MethodHandle" ∧ yM_isUp.cls ≠ "java/lang/invoke/VarHandle" ∧ (parseMethodDescriptor yM_isUp.desc).map (fun d => d.parameters.length) = some 1 := by decide +kernel
abbrev w_M_isUp : List Cond := Cond.code yM_isUp cM_isUp 2 (some .boolean) :: jG
theorem dd_M_rootPort : yM_rootPort.cls = rM ∧ yM_rootPort.cls ≠ "java/lang/invoke/MethodHandle" ∧ yM_rootPort.cls ≠ "java/lang/invoke/VarHandle" ∧ (parseMethodDescriptor yM_rootPort.desc).map (fun d => d.parameters.length) = some 1 := by decide +kernel
abbrev w_M_rootPort : List Cond := Cond.code yM_rootPort cM_rootPort 9 (some .int) :: jG
theorem dd_M_id : yM_id.cls = rM ∧ yM_id.cls ≠ "java/lang/invoke/MethodHandle" ∧ yM_id.cls ≠ "java/lang/invoke/VarHandle" ∧ (parseMethodDescriptor yM_id.desc).map (fun d => d.parameters.length) = some 1 := by decide +kernel
abbrev w_M_id : List Cond := Cond.code yM_id cM_id 2 (some .int) :: jG
theorem dd_M_key : yM_key.cls = rM ∧ yM_key.cls ≠ "java/lang/invoke/MethodHandle" ∧ yM_key.cls ≠ "java/lang/invoke/VarHandle" ∧ (parseMethodDescriptor yM_key.desc).map (fun d => d.parameters.length) = some 4 := by decide +kernel
abbrev w_M_key : List Cond := Cond.code yM_key cM_key 4 (some .long) :: jG
theorem dd_M_rootOf : yM_rootOf.cls = rM ∧ yM_rootOf.cls ≠ "java/lang/invoke/MethodHandle" ∧ yM_rootOf.cls ≠ "java/lang/invoke/VarHandle" ∧ (parseMethodDescriptor yM_rootOf.desc).map (fun d => d.parameters.length) = some 1 := by decide +kernel
abbrev w_M_rootOf : List Cond := Cond.code yM_rootOf cM_rootOf 3 (some .int) :: jG
theorem dd_M_distance : yM_distance.cls = rM ∧ yM_distance.cls ≠ "java/lang/invoke/MethodHandle" ∧ yM_distance.cls ≠ "java/lang/invoke/VarHandle" ∧ (parseMethodDescriptor yM_distance.desc).map (fun d => d.parameters.length) = some 1 := by decide +kernel
abbrev w_M_distance : List Cond := Cond.code yM_distance cM_distance 3 (some .int) :: jG
theorem dd_M_stateOf : yM_stateOf.cls = rM ∧ yM_stateOf.cls ≠ "java/lang/invoke/MethodHandle" ∧ yM_stateOf.cls ≠ "java/lang/invoke/VarHandle" ∧ (parseMethodDescriptor yM_stateOf.desc).map (fun d => d.parameters.length) = some 1 := by decide +kernel
abbrev w_M_stateOf : List Cond := Cond.code yM_stateOf cM_stateOf 4 (some .int) :: jG
theorem dd_M_wire : yM_wire.cls = rM ∧ yM_wire.cls ≠ "java/lang/invoke/MethodHandle" ∧ yM_wire.cls ≠ "java/lang/invoke/VarHandle" ∧ (parseMethodDescriptor yM_wire.desc).map (fun d => d.parameters.length) = some 3 := by decide +kernel
abbrev w_M_wire : List Cond := Cond.code yM_wire cM_wire 4 (some .int) :: jG
theorem dd_M_isFree : yM_isFree.cls = rM ∧ yM_isFree.cls ≠ "java/lang/invoke/MethodHandle" ∧ yM_isFree.cls ≠ "java/lang/invoke/VarHandle" ∧ (parseMethodDescriptor yM_isFree.desc).map (fun d => d.parameters.length) = some 1 := by decide +kernel
abbrev w_M_isFree : List Cond := Cond.code yM_isFree cM_isFree 2 (some .boolean) :: jG
theorem dd_M_isPlace : yM_isPlace.cls = rM ∧ yM_isPlace.cls ≠ "java/lang/invoke/MethodHandle" ∧ yM_isPlace.cls ≠ "java/lang/invoke/VarHandle" ∧ (parseMethodDescriptor yM_isPlace.desc).map (fun d => d.parameters.length) = some 1 := by decide +kernel
abbrev w_M_isPlace : List Cond := Cond.code yM_isPlace cM_isPlace 2 (some .boolean) :: jG
theorem dd_M_put : yM_put.cls = rM ∧ yM_put.cls ≠ "java/lang/invoke/MethodHandle" ∧ yM_put.cls ≠ "java/lang/invoke/VarHandle" ∧ (parseMethodDescriptor yM_put.desc).map (fun d => d.parameters.length) = some 3 := by decide +kernel
abbrev w_M_put : List Cond := Cond.code yM_put cM_put 4 none :: jG
theorem dd_M_host : yM_host.cls = rM ∧ yM_host.cls ≠ "java/lang/invoke/MethodHandle" ∧ yM_host.cls ≠ "java/lang/invoke/VarHandle" ∧ (parseMethodDescriptor yM_host.desc).map (fun d => d.parameters.length) = some 2 := by decide +kernel
abbrev w_M_host : List Cond := Cond.code yM_host cM_host 3 (some .int) :: jG
theorem dd_M_router : yM_router.cls = rM ∧ yM_router.cls ≠ "java/lang/invoke/MethodHandle" ∧ yM_router.cls ≠ "java/lang/invoke/VarHandle" ∧ (parseMethodDescriptor yM_router.desc).map (fun d => d.parameters.length) = some 1 := by decide +kernel
abbrev w_M_router : List Cond := Cond.code yM_router cM_router 2 (some .boolean) :: jG
theorem dd_M_access : yM_access.cls = rM ∧ yM_access.cls ≠ "java/lang/invoke/MethodHandle" ∧ yM_access.cls ≠ "java/lang/invoke/VarHandle" ∧ (parseMethodDescriptor yM_access.desc).map (fun d => d.parameters.length) = some 2 := by decide +kernel
abbrev w_M_access : List Cond := Cond.code yM_access cM_access 3 (some .boolean) :: jG
theorem dd_M_trunk : yM_trunk.cls = rM ∧ yM_trunk.cls ≠ "java/lang/invoke/MethodHandle" ∧ yM_trunk.cls ≠ "java/lang/invoke/VarHandle" ∧ (parseMethodDescriptor yM_trunk.desc).map (fun d => d.parameters.length) = some 3 := by decide +kernel
abbrev w_M_trunk : List Cond := Cond.code yM_trunk cM_trunk 4 (some .boolean) :: jG
theorem dd_M_cut : yM_cut.cls = rM ∧ yM_cut.cls ≠ "java/lang/invoke/MethodHandle" ∧ yM_cut.cls ≠ "java/lang/invoke/VarHandle" ∧ (parseMethodDescriptor yM_cut.desc).map (fun d => d.parameters.length) = some 2 := by decide +kernel
abbrev w_M_cut : List Cond := Cond.code yM_cut cM_cut 3 (some .boolean) :: jG
theorem dd_M_tick : yM_tick.cls = rM ∧ yM_tick.cls ≠ "java/lang/invoke/MethodHandle" ∧ yM_tick.cls ≠ "java/lang/invoke/VarHandle" ∧ (parseMethodDescriptor yM_tick.desc).map (fun d => d.parameters.length) = some 1 := by decide +kernel
abbrev w_M_tick : List Cond := Cond.code yM_tick cM_tick 3 (some .int) :: jG
theorem dd_M_age : yM_age.cls = rM ∧ yM_age.cls ≠ "java/lang/invoke/MethodHandle" ∧ yM_age.cls ≠ "java/lang/invoke/VarHandle" ∧ (parseMethodDescriptor yM_age.desc).map (fun d => d.parameters.length) = some 0 := by decide +kernel
abbrev w_M_age : List Cond := Cond.code yM_age cM_age 2 none :: jG
theorem dd_M_passNotices : yM_passNotices.cls = rM ∧ yM_passNotices.cls ≠ "java/lang/invoke/MethodHandle" ∧ yM_passNotices.cls ≠ "java/lang/invoke/VarHandle" ∧ (parseMethodDescriptor yM_passNotices.desc).map (fun d => d.parameters.length) = some 0 := by decide +kernel
abbrev w_M_passNotices : List Cond := Cond.code yM_passNotices cM_passNotices 3 none :: jG
theorem dd_M_other : yM_other.cls = rM ∧ yM_other.cls ≠ "java/lang/invoke/MethodHandle" ∧ yM_other.cls ≠ "java/lang/invoke/VarHandle" ∧ (parseMethodDescriptor yM_other.desc).map (fun d => d.parameters.length) = some 1 := by decide +kernel
abbrev w_M_other : List Cond := Cond.code yM_other cM_other 3 (some .int) :: jG
theorem dd_M_sendMessages : yM_sendMessages.cls = rM ∧ yM_sendMessages.cls ≠ "java/lang/invoke/MethodHandle" ∧ yM_sendMessages.cls ≠ "java/lang/invoke/VarHandle" ∧ (parseMethodDescriptor yM_sendMessages.desc).map (fun d => d.parameters.length) = some 0 := by decide +kernel
abbrev w_M_sendMessages : List Cond := Cond.code yM_sendMessages cM_sendMessages 5 none :: jG
theorem dd_M_marked : yM_marked.cls = rM ∧ yM_marked.cls ≠ "java/lang/invoke/MethodHandle" ∧ yM_marked.cls ≠ "java/lang/invoke/VarHandle" ∧ (parseMethodDescriptor yM_marked.desc).map (fun d => d.parameters.length) = some 1 := by decide +kernel
abbrev w_M_marked : List Cond := Cond.code yM_marked cM_marked 3 (some .boolean) :: jG
theorem dd_M_hold : yM_hold.cls = rM ∧ yM_hold.cls ≠ "java/lang/invoke/MethodHandle" ∧ yM_hold.cls ≠ "java/lang/invoke/VarHandle" ∧ (parseMethodDescriptor yM_hold.desc).map (fun d => d.parameters.length) = some 2 := by decide +kernel
abbrev w_M_hold : List Cond := Cond.code yM_hold cM_hold 3 none :: jG
theorem dd_M_forget : yM_forget.cls = rM ∧ yM_forget.cls ≠ "java/lang/invoke/MethodHandle" ∧ yM_forget.cls ≠ "java/lang/invoke/VarHandle" ∧ (parseMethodDescriptor yM_forget.desc).map (fun d => d.parameters.length) = some 0 := by decide +kernel
abbrev w_M_forget : List Cond := Cond.code yM_forget cM_forget 4 none :: jG
theorem dd_M_role : yM_role.cls = rM ∧ yM_role.cls ≠ "java/lang/invoke/MethodHandle" ∧ yM_role.cls ≠ "java/lang/invoke/VarHandle" ∧ (parseMethodDescriptor yM_role.desc).map (fun d => d.parameters.length) = some 1 := by decide +kernel
abbrev w_M_role : List Cond := Cond.code yM_role cM_role 2 (some .int) :: jG
theorem dd_M_state : yM_state.cls = rM ∧ yM_state.cls ≠ "java/lang/invoke/MethodHandle" ∧ yM_state.cls ≠ "java/lang/invoke/VarHandle" ∧ (parseMethodDescriptor yM_state.desc).map (fun d => d.parameters.length) = some 1 := by decide +kernel
abbrev w_M_state : List Cond := Cond.code yM_state cM_state 2 (some .int) :: jG
theorem dd_M_root : yM_root.cls = rM ∧ yM_root.cls ≠ "java/lang/invoke/MethodHandle" ∧ yM_root.cls ≠ "java/lang/invoke/VarHandle" ∧ (parseMethodDescriptor yM_root.desc).map (fun d => d.parameters.length) = some 1 := by decide +kernel
abbrev w_M_root : List Cond := Cond.code yM_root cM_root 2 (some .int) :: jG
theorem dd_M_held : yM_held.cls = rM ∧ yM_held.cls ≠ "java/lang/invoke/MethodHandle" ∧ yM_held.cls ≠ "java/lang/invoke/VarHandle" ∧ (parseMethodDescriptor yM_held.desc).map (fun d => d.parameters.length) = some 2 := by decide +kernel
abbrev w_M_held : List Cond := Cond.code yM_held cM_held 3 (some .int) :: jG
theorem dd_M_learned : yM_learned.cls = rM ∧ yM_learned.cls ≠ "java/lang/invoke/MethodHandle" ∧ yM_learned.cls ≠ "java/lang/invoke/VarHandle" ∧ (parseMethodDescriptor yM_learned.desc).map (fun d => d.parameters.length) = some 3 := by decide +kernel
abbrev w_M_learned : List Cond := Cond.code yM_learned cM_learned 4 (some .int) :: jG
theorem dd_M_entries : yM_entries.cls = rM ∧ yM_entries.cls ≠ "java/lang/invoke/MethodHandle" ∧ yM_entries.cls ≠ "java/lang/invoke/VarHandle" ∧ (parseMethodDescriptor yM_entries.desc).map (fun d => d.parameters.length) = some 1 := by decide +kernel
abbrev w_M_entries : List Cond := Cond.code yM_entries cM_entries 4 (some .int) :: jG
theorem dd_M_send : yM_send.cls = rM ∧ yM_send.cls ≠ "java/lang/invoke/MethodHandle" ∧ yM_send.cls ≠ "java/lang/invoke/VarHandle" ∧ (parseMethodDescriptor yM_send.desc).map (fun d => d.parameters.length) = some 2 := by decide +kernel
abbrev w_M_send : List Cond := Cond.code yM_send cM_send 3 (some .int) :: jG
theorem dd_M_isHost : yM_isHost.cls = rM ∧ yM_isHost.cls ≠ "java/lang/invoke/MethodHandle" ∧ yM_isHost.cls ≠ "java/lang/invoke/VarHandle" ∧ (parseMethodDescriptor yM_isHost.desc).map (fun d => d.parameters.length) = some 1 := by decide +kernel
abbrev w_M_isHost : List Cond := Cond.code yM_isHost cM_isHost 2 (some .boolean) :: jG
theorem dd_M_frame : yM_frame.cls = rM ∧ yM_frame.cls ≠ "java/lang/invoke/MethodHandle" ∧ yM_frame.cls ≠ "java/lang/invoke/VarHandle" ∧ (parseMethodDescriptor yM_frame.desc).map (fun d => d.parameters.length) = some 4 := by decide +kernel
abbrev w_M_frame : List Cond := Cond.code yM_frame cM_frame 6 (some .int) :: jG
theorem dd_M_arrive : yM_arrive.cls = rM ∧ yM_arrive.cls ≠ "java/lang/invoke/MethodHandle" ∧ yM_arrive.cls ≠ "java/lang/invoke/VarHandle" ∧ (parseMethodDescriptor yM_arrive.desc).map (fun d => d.parameters.length) = some 2 := by decide +kernel
abbrev w_M_arrive : List Cond := Cond.code yM_arrive cM_arrive 3 none :: jG
theorem dd_M_handle : yM_handle.cls = rM ∧ yM_handle.cls ≠ "java/lang/invoke/MethodHandle" ∧ yM_handle.cls ≠ "java/lang/invoke/VarHandle" ∧ (parseMethodDescriptor yM_handle.desc).map (fun d => d.parameters.length) = some 4 := by decide +kernel
abbrev w_M_handle : List Cond := Cond.code yM_handle cM_handle 12 none :: jG
theorem dd_M_isMember : yM_isMember.cls = rM ∧ yM_isMember.cls ≠ "java/lang/invoke/MethodHandle" ∧ yM_isMember.cls ≠ "java/lang/invoke/VarHandle" ∧ (parseMethodDescriptor yM_isMember.desc).map (fun d => d.parameters.length) = some 2 := by decide +kernel
abbrev w_M_isMember : List Cond := Cond.code yM_isMember cM_isMember 3 (some .boolean) :: jG
theorem dd_M_goOut : yM_goOut.cls = rM ∧ yM_goOut.cls ≠ "java/lang/invoke/MethodHandle" ∧ yM_goOut.cls ≠ "java/lang/invoke/VarHandle" ∧ (parseMethodDescriptor yM_goOut.desc).map (fun d => d.parameters.length) = some 2 := by decide +kernel
abbrev w_M_goOut : List Cond := Cond.code yM_goOut cM_goOut 4 none :: jG
theorem dd_M_ask : yM_ask.cls = rM ∧ yM_ask.cls ≠ "java/lang/invoke/MethodHandle" ∧ yM_ask.cls ≠ "java/lang/invoke/VarHandle" ∧ (parseMethodDescriptor yM_ask.desc).map (fun d => d.parameters.length) = some 3 := by decide +kernel
abbrev w_M_ask : List Cond := Cond.code yM_ask cM_ask 6 (some .int) :: jG
theorem dd_M_askNear : yM_askNear.cls = rM ∧ yM_askNear.cls ≠ "java/lang/invoke/MethodHandle" ∧ yM_askNear.cls ≠ "java/lang/invoke/VarHandle" ∧ (parseMethodDescriptor yM_askNear.desc).map (fun d => d.parameters.length) = some 2 := by decide +kernel
abbrev w_M_askNear : List Cond := Cond.code yM_askNear cM_askNear 3 (some .int) :: jG
theorem dd_M_reaches : yM_reaches.cls = rM ∧ yM_reaches.cls ≠ "java/lang/invoke/MethodHandle" ∧ yM_reaches.cls ≠ "java/lang/invoke/VarHandle" ∧ (parseMethodDescriptor yM_reaches.desc).map (fun d => d.parameters.length) = some 4 := by decide +kernel
abbrev w_M_reaches : List Cond := Cond.code yM_reaches cM_reaches 6 (some .boolean) :: jG
theorem dd_M_askFar : yM_askFar.cls = rM ∧ yM_askFar.cls ≠ "java/lang/invoke/MethodHandle" ∧ yM_askFar.cls ≠ "java/lang/invoke/VarHandle" ∧ (parseMethodDescriptor yM_askFar.desc).map (fun d => d.parameters.length) = some 4 := by decide +kernel
abbrev w_M_askFar : List Cond := Cond.code yM_askFar cM_askFar 5 (some .int) :: jG
theorem dd_M_answer : yM_answer.cls = rM ∧ yM_answer.cls ≠ "java/lang/invoke/MethodHandle" ∧ yM_answer.cls ≠ "java/lang/invoke/VarHandle" ∧ (parseMethodDescriptor yM_answer.desc).map (fun d => d.parameters.length) = some 0 := by decide +kernel
abbrev w_M_answer : List Cond := Cond.code yM_answer cM_answer 1 (some .int) :: jG
theorem dd_M_crossings : yM_crossings.cls = rM ∧ yM_crossings.cls ≠ "java/lang/invoke/MethodHandle" ∧ yM_crossings.cls ≠ "java/lang/invoke/VarHandle" ∧ (parseMethodDescriptor yM_crossings.desc).map (fun d => d.parameters.length) = some 0 := by decide +kernel
abbrev w_M_crossings : List Cond := Cond.code yM_crossings cM_crossings 1 (some .int) :: jG
end
section
/-! the class's methods as functions on a state. A state: σ k i is element i of array k, or (k ≤ 5) the i-th int field of object k.
objects: 0 CampusNet (0 memory, 1 latestAnswer), 1 Plan (0 bridgeCount, 1 wireCount, 2 hostCount, 3 routerPlace), 2 Networks, 3 Tree (0 limit, 1 delay, 2 time), 4 Table, 5 Carrier (0 arrivalCount, 1 source, 2 destination, 3 frameCrossings, 4 reached, 5 countedCrossings)
arrays: 6 bridgeIds 7 wireEnds 8 wireCosts 9 wireIsCut 10 hostPlaces 11 hostSubnets 12 wires 13 farPlaces 14 guests 15 untagged 16 members 17 isTrunk 18 messages 19 holds 20 sentMessages 21 isSentTo 22 roots 23 distances 24 rootPlaces 25 roles 26 since 27 states 28 until 29 hasNotice 30 passesNotice 31 ports 32 times 33 arrivalPlaces 34 arrivalTags -/
def cWithin (n lo hi : Int32) : Bool := decide (lo ≤ n) && decide (n ≤ hi)
def cHasBit (bits n : Int32) : Bool := ((bits >>> (n &&& 31)) &&& nI 1) == nI 1
def cNear (n lo hi : Int32) : Int32 := if lo < (if n < hi then n else hi) then (if n < hi then n else hi) else lo
/-! ranges, and the class's own bounds (what keeps every index within its array) -/
def okP (n : Nat) (x : Int32) : Prop := ∃ k, k < n ∧ x = nI k
def okQ (n : Nat) (x : Int32) : Prop := x = -1 ∨ okP n x
theorem okP.inn {n : Nat} {x : Int32} (h : okP n x) (hn : n < 2 ^ 31) : vp_in x n := by
  obtain ⟨k, hk, rfl⟩ := h
  exact vp_in_nI hk hn
theorem okP.cl {n : Nat} {x : Int32} (h : okP n x) (hn : n < 2 ^ 31) : x.toNatClampNeg < n ∧ x = nI x.toNatClampNeg := by
  obtain ⟨k, hk, rfl⟩ := h
  rw [nI_clamp (by omega)]
  exact ⟨hk, rfl⟩
theorem okQ.inn {n : Nat} {x : Int32} (h : okQ n x) (hx : ¬ x = -1) (hn : n < 2 ^ 31) : vp_in x n := (h.resolve_left hx).inn hn
theorem okQ.cl {n : Nat} {x : Int32} (h : okQ n x) (hx : ¬ x = -1) (hn : n < 2 ^ 31) : x.toNatClampNeg < n ∧ x = nI x.toNatClampNeg := (h.resolve_left hx).cl hn
def cInv (σ : jS) : Prop :=
  okP 7 (σ 1 0) ∧ okP 11 (σ 1 1) ∧ okP 7 (σ 1 2) ∧ okQ 24 (σ 1 3) ∧ (∀ w, w < 10 → okP 24 (σ 7 w)) ∧ (∀ h, h < 6 → okP 24 (σ 10 h)) ∧ (∀ h, h < 6 → okP 4 (σ 11 h)) ∧
  (∀ p, p < 24 → okQ 10 (σ 12 p)) ∧ (∀ p, p < 24 → okQ 24 (σ 13 p)) ∧ (∀ p, p < 24 → okP 4 (σ 15 p)) ∧ (∀ b, b < 6 → okQ 24 (σ 24 b)) ∧ (∀ i, i < 61 → okP 24 (σ 33 i)) ∧ (∀ i, i < 61 → okQ 4 (σ 34 i)) ∧ (∀ p, p < 24 → ¬ σ 12 p = -1 → okP 24 (σ 13 p)) ∧ (∀ w, w < (σ 1 1).toNatClampNeg → okP 24 (σ 13 (σ 7 w).toNatClampNeg))
theorem cInv.nb {σ : jS} (h : cInv σ) : okP 7 (σ 1 0) := h.1
theorem cInv.nw {σ : jS} (h : cInv σ) : okP 11 (σ 1 1) := h.2.1
theorem cInv.nh {σ : jS} (h : cInv σ) : okP 7 (σ 1 2) := h.2.2.1
theorem cInv.rt {σ : jS} (h : cInv σ) : okQ 24 (σ 1 3) := h.2.2.2.1
theorem cInv.ends {σ : jS} (h : cInv σ) {w : Nat} (hw : w < 10) : okP 24 (σ 7 w) := h.2.2.2.2.1 w hw
theorem cInv.hp {σ : jS} (h : cInv σ) {w : Nat} (hw : w < 6) : okP 24 (σ 10 w) := h.2.2.2.2.2.1 w hw
theorem cInv.sn {σ : jS} (h : cInv σ) {w : Nat} (hw : w < 6) : okP 4 (σ 11 w) := h.2.2.2.2.2.2.1 w hw
theorem cInv.wires {σ : jS} (h : cInv σ) {p : Nat} (hp : p < 24) : okQ 10 (σ 12 p) := h.2.2.2.2.2.2.2.1 p hp
theorem cInv.far {σ : jS} (h : cInv σ) {p : Nat} (hp : p < 24) : okQ 24 (σ 13 p) := h.2.2.2.2.2.2.2.2.1 p hp
theorem cInv.unt {σ : jS} (h : cInv σ) {p : Nat} (hp : p < 24) : okP 4 (σ 15 p) := h.2.2.2.2.2.2.2.2.2.1 p hp
theorem cInv.rp {σ : jS} (h : cInv σ) {b : Nat} (hb : b < 6) : okQ 24 (σ 24 b) := h.2.2.2.2.2.2.2.2.2.2.1 b hb
theorem cInv.ap {σ : jS} (h : cInv σ) {i : Nat} (hi : i < 61) : okP 24 (σ 33 i) := h.2.2.2.2.2.2.2.2.2.2.2.1 i hi
theorem cInv.tag {σ : jS} (h : cInv σ) {i : Nat} (hi : i < 61) : okQ 4 (σ 34 i) := h.2.2.2.2.2.2.2.2.2.2.2.2.1 i hi
theorem cInv.wf {σ : jS} (h : cInv σ) {p : Nat} (hp : p < 24) (hw : ¬ σ 12 p = -1) : okP 24 (σ 13 p) := h.2.2.2.2.2.2.2.2.2.2.2.2.2.1 p hp hw
theorem cInv.we {σ : jS} (h : cInv σ) {w : Nat} (hw : w < (σ 1 1).toNatClampNeg) : okP 24 (σ 13 (σ 7 w).toNatClampNeg) := h.2.2.2.2.2.2.2.2.2.2.2.2.2.2 w hw
/-- a number within 0 .. n - 1, n read as an int of at most m -/
theorem cWithin_in {x y : Int32} {m : Nat} (hy : okP (m + 1) y) (hm : m < 2 ^ 30) (h : cWithin x (nI 0) (y - nI 1) = true) : ∃ k, x = nI k ∧ k < y.toNatClampNeg := by
  obtain ⟨n, hn, rfl⟩ := hy
  simp only [cWithin, Bool.and_eq_true, decide_eq_true_eq] at h
  obtain ⟨h0, h1⟩ := h
  obtain ⟨k, hk, rfl⟩ := nI_of (x := x) (by rw [nI_0] at h0; exact Int32.not_lt.mpr h0)
  refine ⟨k, rfl, ?_⟩
  rw [nI_clamp (by omega)]
  rw [Int32.le_iff_toInt_le, nI_toInt hk, pk_sub_toInt (by omega) (by omega)] at h1
  omega
theorem cWithin_nI {k n : Nat} (hk : k < 2 ^ 31) (hn : n < 2 ^ 30) : cWithin (nI k) (nI 0) (nI n - nI 1) = decide (k < n) := by
  have h1 : (nI 0 ≤ nI k) := nI_le (Nat.zero_le _) hk
  have h2 : (nI k ≤ nI n - nI 1) ↔ k < n := by
    rw [Int32.le_iff_toInt_le, nI_toInt hk, pk_sub_toInt (by omega) (by omega)]
    omega
  simp only [cWithin, h1, decide_true, Bool.true_and]
  exact decide_eq_decide.mpr h2
def cNb (σ : jS) : Nat := (σ 1 0).toNatClampNeg
theorem cInv.nbl {σ : jS} (h : cInv σ) : cNb σ < 7 ∧ σ 1 0 = nI (cNb σ) := h.nb.cl (by decide)
-- Plan
def cIsBridge (σ : jS) (b : Int32) : Bool := cWithin b (nI 0) (σ 1 0 - nI 1)
def cIsPlace (σ : jS) (p : Int32) : Bool := cWithin p (nI 0) (nI 4 * σ 1 0 - nI 1)
def cIsHost (σ : jS) (h : Int32) : Bool := cWithin h (nI 0) (σ 1 2 - nI 1)
def cIsFree (σ : jS) (p : Int32) : Bool := cIsPlace σ p && (σ 12 p.toNatClampNeg == -1) && (σ 14 p.toNatClampNeg == -1)
def cHasRouter (σ : jS) : Bool := σ 1 3 != -1
def cWhole (σ : jS) (p : Nat) : Bool := σ 12 p != -1 && (σ 9 (σ 12 p).toNatClampNeg == 0)
def cIsUp (σ : jS) (p : Nat) : Bool := σ 14 p != -1 || cWhole σ p
def cAddBridge (σ : jS) (pr : Int32) : jS := sU (sU σ 6 (σ 1 0).toNatClampNeg (nI 8 * pr + σ 1 0)) 1 0 (σ 1 0 + nI 1)
def cAddWire (σ : jS) (p q cost : Int32) : jS :=
  sU (sU (sU (sU (sU (sU (sU σ 7 (σ 1 1).toNatClampNeg p) 8 (σ 1 1).toNatClampNeg cost) 12 p.toNatClampNeg (σ 1 1)) 12 q.toNatClampNeg (σ 1 1)) 13 p.toNatClampNeg q) 13 q.toNatClampNeg p) 1 1 (σ 1 1 + nI 1)
def cAddHost (σ : jS) (p sn : Int32) : jS :=
  sU (sU (sU (sU σ 10 (σ 1 2).toNatClampNeg p) 11 (σ 1 2).toNatClampNeg sn) 14 p.toNatClampNeg (σ 1 2)) 1 2 (σ 1 2 + nI 1)
def cAddRouter (σ : jS) (p : Int32) : jS := sU (sU σ 1 3 p) 14 p.toNatClampNeg (nI 6)
-- Networks
def cAccess (σ : jS) (p nw : Int32) : jS := sU (sU (sU σ 15 p.toNatClampNeg nw) 16 p.toNatClampNeg (nI 1 <<< (nw &&& 31))) 17 p.toNatClampNeg (nI 0)
def cTrunk (σ : jS) (p nn mb : Int32) : jS := sU (sU (sU σ 15 p.toNatClampNeg nn) 16 p.toNatClampNeg mb) 17 p.toNatClampNeg (nI 1)
def cIsMember (σ : jS) (p : Nat) (nw : Int32) : Bool := ((σ 16 p >>> (nw &&& 31)) &&& nI 1) == nI 1
def cInside (σ : jS) (p : Nat) (tag : Int32) : Int32 :=
  if ¬ tag = -1 ∧ σ 17 p = 0 then -1 else if cIsMember σ p (if ¬ tag = -1 then tag else σ 15 p) = true then (if ¬ tag = -1 then tag else σ 15 p) else -1
def cTagOut (σ : jS) (p : Nat) (nw : Int32) : Int32 := if σ 15 p = nw then -1 else nw
-- Tree
def cMarked (σ : jS) (b : Nat) : Bool := if σ 24 b = -1 then !decide (σ 28 b ≤ σ 3 2) else σ 18 (nI 6 * σ 24 b + nI 5).toNatClampNeg == nI 1
def cDrop (σ : jS) (p : Int32) : jS := sU σ 19 p.toNatClampNeg (nI 0)
def cAge1 (p : Nat) (σ : jS) : jS :=
  if σ 19 p = 0 then σ
  else sU (sU σ 18 (6 * p + 4) (σ 18 (6 * p + 4) + nI 1)) 19 p (bI (!decide (σ 3 0 ≤ (sU σ 18 (6 * p + 4) (σ 18 (6 * p + 4) + nI 1)) 18 (6 * p + 4))))
def cAge (σ : jS) : jS := forN cAge1 σ 24
def cOffCost (σ : jS) (p : Nat) : Int32 := σ 18 (6 * p + 1) + (if ¬ σ 12 p = -1 then σ 8 (σ 12 p).toNatClampNeg else nI 0)
def cRank (r c s p : Int64) : Int64 := ((((r <<< ((nI 20).toInt64 &&& 63)) ||| c) <<< ((nI 6).toInt64 &&& 63) ||| s) <<< ((nI 2).toInt64 &&& 63)) ||| p
def cOffRank (σ : jS) (p : Nat) : Int64 := cRank (σ 18 (6 * p + 0)).toInt64 (cOffCost σ p).toInt64 (σ 18 (6 * p + 2)).toInt64 (σ 18 (6 * p + 3)).toInt64
def cMsgRank (σ : jS) (p : Nat) : Int64 := cRank (σ 18 (6 * p + 0)).toInt64 (σ 18 (6 * p + 1)).toInt64 (σ 18 (6 * p + 2)).toInt64 (σ 18 (6 * p + 3)).toInt64
def cOffering (σ : jS) (p : Nat) : Bool := σ 19 p != 0 && cWhole σ p && !decide (σ 6 (p / 4) ≤ σ 18 (6 * p + 0))
/-- after the first n ports of the bridge b -/
def cBestN (σ : jS) (b : Nat) : Nat → Int32
  | 0 => -1
  | n + 1 => if cOffering σ (4 * b + n) = true then (if cBestN σ b n = -1 then nI (4 * b + n) else if cOffRank σ (cBestN σ b n).toNatClampNeg ≤ cOffRank σ (4 * b + n) then cBestN σ b n else nI (4 * b + n)) else cBestN σ b n
def cBest (σ : jS) (b : Nat) : Int32 := cBestN σ b 4
def cRoot1 (b : Nat) (σ : jS) : jS :=
  sU (sU (sU σ 24 b (cBest σ b)) 22 b (if ¬ cBest σ b = -1 then σ 18 (nI 6 * cBest σ b + nI 0).toNatClampNeg else σ 6 b)) 23 b (if ¬ cBest σ b = -1 then cOffCost σ (cBest σ b).toNatClampNeg else nI 0)
def cRoots (σ : jS) : jS := forN cRoot1 σ (cNb σ)
def cOwnRank (σ : jS) (p : Nat) : Int64 := cRank (σ 22 (p / 4)).toInt64 (σ 23 (p / 4)).toInt64 (σ 6 (p / 4)).toInt64 (nI (p % 4)).toInt64
def cRole (σ : jS) (p : Nat) : Int32 :=
  if cIsUp σ p = true then (if ¬ σ 24 (p / 4) = nI p then (if σ 19 p = 0 then nI 2 else if cMsgRank σ p ≤ cOwnRank σ p then nI 3 else nI 2) else nI 1) else nI 0
def cActive (r : Int32) : Bool := decide (r = nI 1) || decide (r = nI 2)
def cLook (σ : jS) (p : Nat) : jS :=
  sU (if cActive (cRole σ p) = true ∧ cActive (σ 25 p) = false then sU σ 26 p (σ 3 2) else σ) 25 p (cRole σ p)
def cState (σ : jS) (p : Nat) : Int32 :=
  if cActive (σ 25 p) = true then (if σ 3 1 ≤ σ 3 2 - σ 26 p then (if nI 2 * σ 3 1 ≤ σ 3 2 - σ 26 p then nI 3 else nI 2) else nI 1) else nI 0
def cWorth (b a : Int32) : Bool := (decide (a = nI 3) && !decide (b = nI 3)) || (!decide (b < nI 2) && !decide (nI 2 ≤ a))
def cSettle1 (p : Nat) (σ : jS) : jS :=
  if cWorth (cLook σ p 27 p) ((sU (cLook σ p) 27 p (cState (cLook σ p) p)) 27 p) = true then sU (sU (cLook σ p) 27 p (cState (cLook σ p) p)) 29 (p / 4) (nI 1) else sU (cLook σ p) 27 p (cState (cLook σ p) p)
def cSettle (σ : jS) : jS := forN cSettle1 (cRoots σ) (4 * cNb σ)
def cPassA (b : Nat) (σ : jS) : jS := sU (sU σ 30 b (vp_nar .boolean (σ 29 b))) 29 b (nI 0)
def cPassOf (σ : jS) (b : Nat) : jS :=
  if ¬ σ 24 b = -1 then (if σ 13 (σ 24 b).toNatClampNeg = -1 then σ else sU σ 29 (σ 13 (σ 24 b).toNatClampNeg / nI 4).toNatClampNeg (nI 1))
  else sU σ 28 b (σ 3 2 + σ 3 0 + σ 3 1)
def cPassB (b : Nat) (σ : jS) : jS := if σ 30 b = 0 then σ else cPassOf σ b
def cPass (σ : jS) : jS := forN cPassB (forN cPassA σ (cNb σ)) (cNb σ)
def cSend (σ : jS) (p far : Nat) : jS :=
  sU (sU (sU (sU (sU (sU (sU σ 20 (6 * far + 0) (σ 22 (p / 4))) 20 (6 * far + 1) (σ 23 (p / 4))) 20 (6 * far + 2) (σ 6 (p / 4))) 20 (6 * far + 3) (nI (p % 4)))
    20 (6 * far + 4) (if ¬ σ 24 (p / 4) = -1 then σ 18 (nI 6 * σ 24 (p / 4) + nI 4).toNatClampNeg else nI 0)) 20 (6 * far + 5) (bI (cMarked σ (p / 4)))) 21 far (nI 1)
def cSend1 (p : Nat) (σ : jS) : jS := if cWhole σ p = true then (if ¬ cRole σ p = nI 2 then σ else cSend σ p (σ 13 p).toNatClampNeg) else σ
def cSends (σ : jS) : jS := forN cSend1 σ (4 * cNb σ)
def cTake1 (p : Nat) (σ : jS) : jS := if σ 21 p = 0 then σ else sU (sU (sF σ 18 (va_cpy (σ 20) (σ 18) (6 * p) (6 * p) 6)) 19 p (nI 1)) 21 p (nI 0)
def cTake (σ : jS) : jS := forN cTake1 σ 24
def cTick (σ : jS) : jS := cSettle (cTake (cSends (cPass (cRoots (cAge (sU σ 3 2 (σ 3 2 + nI 1)))))))
-- Table
def cPort (σ : jS) (b nw ad : Nat) : Int32 := σ 31 (28 * b + 7 * nw + ad)
def cLearn (σ : jS) (p nw ad : Nat) (time : Int32) : jS := sU (sU σ 31 (28 * (p / 4) + 7 * nw + ad) (nI (p % 4))) 32 (28 * (p / 4) + 7 * nw + ad) time
def cCountN (σ : jS) (b : Nat) : Nat → Nat
  | 0 => 0
  | n + 1 => if σ 31 (28 * b + n) = -1 then cCountN σ b n else cCountN σ b n + 1
def cForget1 (b : Nat) (time span : Int32) (e : Nat) (σ : jS) : jS := if time - σ 32 (28 * b + e) < span then σ else sU σ 31 (28 * b + e) (-1)
def cForget (σ : jS) (b : Nat) (time span : Int32) : jS := forN (cForget1 b time span) σ 28
def cOld1 (b : Nat) (σ : jS) : jS := cForget σ b (σ 3 2) (if cMarked σ b = false then σ 0 0 else σ 3 1)
def cOld (σ : jS) : jS := forN cOld1 σ (cNb σ)
def cTick1 (σ : jS) : jS := cOld (cTick σ)
def cTicks (σ : jS) (n : Nat) : jS := forN (fun _ => cTick1) σ n
-- which cells a function leaves alone
def fr (ks : List Nat) (σ σ' : jS) : Prop := ∀ k, k ∉ ks → σ' k = σ k
theorem fr.rf {ks : List Nat} {σ : jS} : fr ks σ σ := fun _ _ => rfl
theorem fr.tr {ks : List Nat} {σ σ' σ'' : jS} (h1 : fr ks σ σ') (h2 : fr ks σ' σ'') : fr ks σ σ'' := fun k hk => (h2 k hk).trans (h1 k hk)
theorem fr.u {ks : List Nat} {σ σ' : jS} (h : fr ks σ σ') {k : Nat} (hk : k ∈ ks) (i : Nat) (v : Int32) : fr ks σ (sU σ' k i v) := fun j hj => (sU_ne (k := k) (j := j) σ' i v (fun e => hj (e.symm ▸ hk))).trans (h j hj)
theorem fr.f {ks : List Nat} {σ σ' : jS} (h : fr ks σ σ') {k : Nat} (hk : k ∈ ks) (f : Nat → Int32) : fr ks σ (sF σ' k f) := fun j hj => (sF_ne (k := k) (j := j) σ' f (fun e => hj (e.symm ▸ hk))).trans (h j hj)
theorem fr.ite {ks : List Nat} {σ σ' σ'' : jS} {c : Prop} [Decidable c] (h1 : fr ks σ σ') (h2 : fr ks σ σ'') : fr ks σ (if c then σ' else σ'') := by
  by_cases h : c
  · rw [if_pos h]; exact h1
  · rw [if_neg h]; exact h2
theorem fr.n {ks : List Nat} {f : Nat → jS → jS} (h : ∀ i σ, fr ks σ (f i σ)) (σ : jS) (n : Nat) : fr ks σ (forN f σ n) := by
  induction n with
  | zero => exact fr.rf
  | succ n ih => exact ih.tr (h n _)
theorem fr.wk {ks ks' : List Nat} {σ σ' : jS} (h : fr ks σ σ') (hs : ∀ k ∈ ks, k ∈ ks') : fr ks' σ σ' := fun k hk => h k (fun e => hk (hs k e))
theorem cInv.of_fr {ks : List Nat} {σ σ' : jS} (hI : cInv σ) (h : fr ks σ σ') (hk : ∀ k ∈ [1, 7, 10, 11, 12, 13, 15, 24, 33, 34], k ∉ ks) : cInv σ' := by
  have e : ∀ k ∈ [1, 7, 10, 11, 12, 13, 15, 24, 33, 34], σ' k = σ k := fun k hk' => h k (hk k hk')
  have e1 := e 1 (by decide); have e7 := e 7 (by decide); have e10 := e 10 (by decide); have e11 := e 11 (by decide); have e12 := e 12 (by decide)
  have e13 := e 13 (by decide); have e15 := e 15 (by decide); have e24 := e 24 (by decide); have e33 := e 33 (by decide); have e34 := e 34 (by decide)
  unfold cInv at hI ⊢
  rw [e1, e7, e10, e11, e12, e13, e15, e24, e33, e34]
  exact hI
theorem cAge1_fr (p : Nat) (σ : jS) : fr [18, 19] σ (cAge1 p σ) := fr.ite fr.rf ((fr.rf.u (by decide) _ _).u (by decide) _ _)
theorem cRoot1_fr (b : Nat) (σ : jS) : fr [22, 23, 24] σ (cRoot1 b σ) := ((fr.rf.u (by decide) _ _).u (by decide) _ _).u (by decide) _ _
theorem cRoots_fr (σ : jS) : fr [22, 23, 24] σ (cRoots σ) := fr.n cRoot1_fr σ _
theorem cLook_fr (σ : jS) (p : Nat) : fr [25, 26] σ (cLook σ p) := (fr.ite (fr.rf.u (by decide) _ _) fr.rf).u (by decide) _ _
theorem cSettle1_fr (p : Nat) (σ : jS) : fr [25, 26, 27, 29] σ (cSettle1 p σ) := fr.ite ((((cLook_fr σ p).wk (by decide)).u (by decide) _ _).u (by decide) _ _) (((cLook_fr σ p).wk (by decide)).u (by decide) _ _)
theorem cPassA_fr (b : Nat) (σ : jS) : fr [28, 29, 30] σ (cPassA b σ) := (fr.rf.u (by decide) _ _).u (by decide) _ _
theorem cPassOf_fr (σ : jS) (b : Nat) : fr [28, 29, 30] σ (cPassOf σ b) := fr.ite (fr.ite fr.rf (fr.rf.u (by decide) _ _)) (fr.rf.u (by decide) _ _)
theorem cPassB_fr (b : Nat) (σ : jS) : fr [28, 29, 30] σ (cPassB b σ) := fr.ite fr.rf (cPassOf_fr σ b)
theorem cPass_fr (σ : jS) : fr [28, 29, 30] σ (cPass σ) := (fr.n cPassA_fr σ _).tr (fr.n cPassB_fr _ _)
theorem cSend_fr (σ : jS) (p far : Nat) : fr [20, 21] σ (cSend σ p far) := ((((((fr.rf.u (by decide) _ _).u (by decide) _ _).u (by decide) _ _).u (by decide) _ _).u (by decide) _ _).u (by decide) _ _).u (by decide) _ _
theorem cSend1_fr (p : Nat) (σ : jS) : fr [20, 21] σ (cSend1 p σ) := fr.ite (fr.ite fr.rf (cSend_fr σ p _)) fr.rf
theorem cTake1_fr (p : Nat) (σ : jS) : fr [18, 19, 21] σ (cTake1 p σ) := fr.ite fr.rf (((fr.rf.f (by decide) _).u (by decide) _ _).u (by decide) _ _)
theorem cForget1_fr (b : Nat) (t s : Int32) (e : Nat) (σ : jS) : fr [31] σ (cForget1 b t s e σ) := fr.ite fr.rf (fr.rf.u (by decide) _ _)
theorem cOld1_fr (b : Nat) (σ : jS) : fr [31] σ (cOld1 b σ) := fr.n (cForget1_fr b _ _) σ _
-- the best place is a place of the bridge, or none
theorem cBestN_ok (σ : jS) (b n : Nat) (hb : b < 6) (hn : n ≤ 4) : okQ 24 (cBestN σ b n) := by
  induction n with
  | zero => exact Or.inl rfl
  | succ n ih =>
    have h := ih (by omega)
    have hp : okQ 24 (nI (4 * b + n)) := Or.inr ⟨4 * b + n, by omega, rfl⟩
    unfold cBestN
    by_cases h1 : cOffering σ (4 * b + n) = true
    · rw [if_pos h1]
      by_cases h2 : cBestN σ b n = -1
      · rw [if_pos h2]; exact hp
      · rw [if_neg h2]
        by_cases h3 : cOffRank σ (cBestN σ b n).toNatClampNeg ≤ cOffRank σ (4 * b + n)
        · rw [if_pos h3]; exact h
        · rw [if_neg h3]; exact hp
    · rw [if_neg h1]; exact h
theorem cRoot1_inv (b : Nat) (σ : jS) (hb : b < 6) (hI : cInv σ) : cInv (cRoot1 b σ) := by
  have h := cRoot1_fr b σ
  have e24 : ∀ j, cRoot1 b σ 24 j = if j = b then cBest σ b else σ 24 j := fun j => sU_eq σ 24 b (cBest σ b) j
  unfold cInv at hI ⊢
  rw [h 1 (by decide), h 7 (by decide), h 10 (by decide), h 11 (by decide), h 12 (by decide), h 13 (by decide), h 15 (by decide), h 33 (by decide), h 34 (by decide)]
  refine ⟨hI.1, hI.2.1, hI.2.2.1, hI.2.2.2.1, hI.2.2.2.2.1, hI.2.2.2.2.2.1, hI.2.2.2.2.2.2.1, hI.2.2.2.2.2.2.2.1, hI.2.2.2.2.2.2.2.2.1, hI.2.2.2.2.2.2.2.2.2.1, fun j hj => ?_, hI.2.2.2.2.2.2.2.2.2.2.2.1, hI.2.2.2.2.2.2.2.2.2.2.2.2⟩
  rw [e24]
  by_cases e : j = b
  · rw [if_pos e]; exact cBestN_ok σ b 4 hb (Nat.le_refl _)
  · rw [if_neg e]; exact hI.2.2.2.2.2.2.2.2.2.2.1 j hj
theorem cRootN_inv {σ : jS} (hI : cInv σ) : ∀ n, n ≤ 6 → cInv (forN cRoot1 σ n) := by
  intro n
  induction n with
  | zero => exact fun _ => hI
  | succ n ih => exact fun hn => cRoot1_inv n _ (by omega) (ih (by omega))
end
section
/-! leaves: walks by program (wip/whole/gen/specC1.py) -/
theorem nI1 : nI 1 = 1 := by decide +kernel
theorem bI1 {b : Bool} (h : b = true) : bI b = nI 1 := by rw [h]; decide +kernel
theorem bI0 {b : Bool} (h : b = false) : bI b = nI 0 := by rw [h]; decide +kernel
theorem cIsPlace_in {σ : jS} (hI : cInv σ) {p : Int32} (h : cIsPlace σ p = true) : vp_in p 24 := by
  obtain ⟨n, hn, e⟩ := hI.nb
  unfold cIsPlace at h
  rw [e, pk_mul] at h
  obtain ⟨k, rfl, hk⟩ := cWithin_in (m := 24) ⟨4 * n, by omega, rfl⟩ (by decide) h
  rw [nI_clamp (by omega)] at hk
  exact vp_in_nI (by omega) (by decide)
set_option maxHeartbeats 4000000 in
set_option maxRecDepth 100000 in
theorem mN_isWithin (l : Launch) (D : va_G) (a : Nat → Nat) (cI cZ : ClassId) (σ : jS) (n : Int32) (lo : Int32) (hi : Int32)  : jI l yN_isWithin w_N_isWithin (rmD 0) D (jTys cI cZ) [.int (n), .int (lo), .int (hi)] (wC a cI cZ σ) (wC a cI cZ (σ)) (bI (cWithin n lo hi)) := by
  refine jI_of (ws' := jG) (bI_nw _) (by decide) rfl (Nat.le_of_ble_eq_true rfl) ?_
  intro X hF hk
  show jJ l D (rmD 0) 3 X (wC a cI cZ σ) 0 [(0, .int (n)), (1, .int (lo)), (2, .int (hi))] []
  refine jq_iload_n (pc := 0) hF 0 dN_isWithin_0 rfl ?_
  refine jq_iload_n (pc := 1) hF 1 dN_isWithin_1 rfl ?_
  refine jq_icmp_lt (pc := 2) hF 14 dN_isWithin_2 rfl (fun h2 => ?_) (fun h2 => ?_)
  · refine jq_iconst (pc := 14) hF dN_isWithin_14 ic_0 ?_
    exact jq_at (hk 15 _ dN_isWithin_15) rfl rfl rfl (congrArg (fun z => [Value.int z]) (bI0 (by first | simp [cWithin, Int32.not_le.mpr h2] | simp [cWithin, Int32.not_le.mpr h7] | simp [cWithin, Int32.not_lt.mp h2, Int32.not_lt.mp h7])))
  · refine jq_iload_n (pc := 5) hF 0 dN_isWithin_5 rfl ?_
    refine jq_iload_n (pc := 6) hF 2 dN_isWithin_6 rfl ?_
    refine jq_icmp_gt (pc := 7) hF 14 dN_isWithin_7 rfl (fun h7 => ?_) (fun h7 => ?_)
    · refine jq_iconst (pc := 14) hF dN_isWithin_14 ic_0 ?_
      exact jq_at (hk 15 _ dN_isWithin_15) rfl rfl rfl (congrArg (fun z => [Value.int z]) (bI0 (by first | simp [cWithin, Int32.not_le.mpr h2] | simp [cWithin, Int32.not_le.mpr h7] | simp [cWithin, Int32.not_lt.mp h2, Int32.not_lt.mp h7])))
    · refine jq_iconst (pc := 10) hF dN_isWithin_10 ic_1 ?_
      refine jq_goto (pc := 11) hF 15 dN_isWithin_11 rfl ?_
      exact jq_at (hk 15 _ dN_isWithin_15) rfl rfl rfl (congrArg (fun z => [Value.int z]) (bI1 (by first | simp [cWithin, Int32.not_le.mpr h2] | simp [cWithin, Int32.not_le.mpr h7] | simp [cWithin, Int32.not_lt.mp h2, Int32.not_lt.mp h7])))
set_option maxHeartbeats 4000000 in
set_option maxRecDepth 100000 in
theorem mN_isNetwork (l : Launch) (D : va_G) (a : Nat → Nat) (cI cZ : ClassId) (σ : jS) (n : Int32)  : jI l yN_isNetwork w_N_isNetwork (rmD 1) D (jTys cI cZ) [.int (n)] (wC a cI cZ σ) (wC a cI cZ (σ)) (bI (cWithin n (nI 0) (nI 3))) := by
  refine jI_of (ws' := jG) (bI_nw _) (by decide) rfl (Nat.le_of_ble_eq_true rfl) ?_
  intro X hF hk
  show jJ l D (rmD 1) 1 X (wC a cI cZ σ) 0 [(0, .int (n))] []
  refine jq_iload_n (pc := 0) hF 0 dN_isNetwork_0 rfl ?_
  refine jq_iconst (pc := 1) hF dN_isNetwork_1 ic_0 ?_
  refine jq_iconst (pc := 2) hF dN_isNetwork_2 ic_3 ?_
  refine jq_cSI (pc := 3) hF (As := [.int (n), .int (nI 0), .int (nI 3)]) (rest := []) (mN_isWithin l D a cI cZ σ (n) (nI (0)) (nI (3)) ) (jG_st mL_N_62 mT_N_isWithin mZ_N mC_N_isWithin) rfl rfl rfl dd_N_isWithin ⟨Nat.le_of_ble_eq_true rfl, Nat.le_of_ble_eq_true rfl⟩ rfl rfl (Nat.le_of_ble_eq_true rfl) dN_isNetwork_3 ?_
  exact jq_at (hk 6 _ dN_isNetwork_6) rfl rfl rfl (congrArg (fun z => [Value.int z]) (by rfl))
set_option maxHeartbeats 4000000 in
set_option maxRecDepth 100000 in
theorem mN_hasBit (l : Launch) (D : va_G) (a : Nat → Nat) (cI cZ : ClassId) (σ : jS) (b : Int32) (n : Int32)  : jI l yN_hasBit w_N_hasBit (rmD 0) D (jTys cI cZ) [.int (b), .int (n)] (wC a cI cZ σ) (wC a cI cZ (σ)) (bI (cHasBit b n)) := by
  refine jI_of (ws' := jG) (bI_nw _) (by decide) rfl (Nat.le_of_ble_eq_true rfl) ?_
  intro X hF hk
  show jJ l D (rmD 0) 2 X (wC a cI cZ σ) 0 [(0, .int (b)), (1, .int (n))] []
  refine jq_iload_n (pc := 0) hF 0 dN_hasBit_0 rfl ?_
  refine jq_iload_n (pc := 1) hF 1 dN_hasBit_1 rfl ?_
  refine jq_ishr (pc := 2) hF dN_hasBit_2 ?_
  refine jq_iconst (pc := 3) hF dN_hasBit_3 ic_1 ?_
  refine jq_iand (pc := 4) hF dN_hasBit_4 ?_
  refine jq_iconst (pc := 5) hF dN_hasBit_5 ic_1 ?_
  refine jq_icmp_ne (pc := 6) hF 13 dN_hasBit_6 rfl (fun h6 => ?_) (fun h6 => ?_)
  · refine jq_iconst (pc := 13) hF dN_hasBit_13 ic_0 ?_
    exact jq_at (hk 14 _ dN_hasBit_14) rfl rfl rfl (congrArg (fun z => [Value.int z]) (bI0 (by simp [cHasBit, h6])))
  · refine jq_iconst (pc := 9) hF dN_hasBit_9 ic_1 ?_
    refine jq_goto (pc := 10) hF 14 dN_hasBit_10 rfl ?_
    exact jq_at (hk 14 _ dN_hasBit_14) rfl rfl rfl (congrArg (fun z => [Value.int z]) (bI1 (by simp [cHasBit, h6])))
set_option maxHeartbeats 4000000 in
set_option maxRecDepth 100000 in
theorem mP_isBridge (l : Launch) (D : va_G) (a : Nat → Nat) (cI cZ : ClassId) (σ : jS) (b : Int32)  : jI l yP_isBridge w_P_isBridge (rmD 1) D (jTys cI cZ) [.ref (a 1), .int (b)] (wC a cI cZ σ) (wC a cI cZ (σ)) (bI (cIsBridge σ b)) := by
  refine jI_of (ws' := jG) (bI_nw _) (by decide) rfl (Nat.le_of_ble_eq_true rfl) ?_
  intro X hF hk
  show jJ l D (rmD 1) 2 X (wC a cI cZ σ) 0 [(0, .ref (a 1)), (1, .int (b))] []
  refine jq_iload_n (pc := 0) hF 1 dP_isBridge_0 rfl ?_
  refine jq_iconst (pc := 1) hF dP_isBridge_1 ic_0 ?_
  refine jq_aload_n (pc := 2) hF 0 dP_isBridge_2 rfl ?_
  refine Cg_P_50 (pc := 3) hF dP_isBridge_3 ?_
  refine jq_iconst (pc := 6) hF dP_isBridge_6 ic_1 ?_
  refine jq_isub (pc := 7) hF dP_isBridge_7 ?_
  refine jq_cMI (pc := 8) hF (As := [.int (b), .int (nI 0), .int ((σ 1 0) - (nI (1)))]) (rest := []) (mN_isWithin l D a cI cZ σ (b) (nI (0)) ((σ 1 0) - (nI (1))) ) (jG_n mC_N_isWithin) List.mem_cons_self (List.mem_cons_of_mem _ mZ_N) (List.mem_cons_of_mem _ mT_N_isWithin) rfl rfl rfl dd_N_isWithin.2 ⟨Nat.le_of_ble_eq_true rfl, Nat.le_of_ble_eq_true rfl⟩ rfl rfl (Nat.le_of_ble_eq_true rfl) dP_isBridge_8 ?_
  exact jq_at (hk 11 _ dP_isBridge_11) rfl rfl rfl (congrArg (fun z => [Value.int z]) (by rfl))
set_option maxHeartbeats 4000000 in
set_option maxRecDepth 100000 in
theorem mP_isPlace (l : Launch) (D : va_G) (a : Nat → Nat) (cI cZ : ClassId) (σ : jS) (p : Int32)  : jI l yP_isPlace w_P_isPlace (rmD 1) D (jTys cI cZ) [.ref (a 1), .int (p)] (wC a cI cZ σ) (wC a cI cZ (σ)) (bI (cIsPlace σ p)) := by
  refine jI_of (ws' := jG) (bI_nw _) (by decide) rfl (Nat.le_of_ble_eq_true rfl) ?_
  intro X hF hk
  show jJ l D (rmD 1) 2 X (wC a cI cZ σ) 0 [(0, .ref (a 1)), (1, .int (p))] []
  refine jq_iload_n (pc := 0) hF 1 dP_isPlace_0 rfl ?_
  refine jq_iconst (pc := 1) hF dP_isPlace_1 ic_0 ?_
  refine jq_iconst (pc := 2) hF dP_isPlace_2 ic_4 ?_
  refine jq_aload_n (pc := 3) hF 0 dP_isPlace_3 rfl ?_
  refine Cg_P_50 (pc := 4) hF dP_isPlace_4 ?_
  refine jq_imul (pc := 7) hF dP_isPlace_7 ?_
  refine jq_iconst (pc := 8) hF dP_isPlace_8 ic_1 ?_
  refine jq_isub (pc := 9) hF dP_isPlace_9 ?_
  refine jq_cMI (pc := 10) hF (As := [.int (p), .int (nI 0), .int (((nI (4)) * (σ 1 0)) - (nI (1)))]) (rest := []) (mN_isWithin l D a cI cZ σ (p) (nI (0)) (((nI (4)) * (σ 1 0)) - (nI (1))) ) (jG_n mC_N_isWithin) List.mem_cons_self (List.mem_cons_of_mem _ mZ_N) (List.mem_cons_of_mem _ mT_N_isWithin) rfl rfl rfl dd_N_isWithin.2 ⟨Nat.le_of_ble_eq_true rfl, Nat.le_of_ble_eq_true rfl⟩ rfl rfl (Nat.le_of_ble_eq_true rfl) dP_isPlace_10 ?_
  exact jq_at (hk 13 _ dP_isPlace_13) rfl rfl rfl (congrArg (fun z => [Value.int z]) (by rfl))
set_option maxHeartbeats 4000000 in
set_option maxRecDepth 100000 in
theorem mP_isHost (l : Launch) (D : va_G) (a : Nat → Nat) (cI cZ : ClassId) (σ : jS) (h : Int32)  : jI l yP_isHost w_P_isHost (rmD 1) D (jTys cI cZ) [.ref (a 1), .int (h)] (wC a cI cZ σ) (wC a cI cZ (σ)) (bI (cIsHost σ h)) := by
  refine jI_of (ws' := jG) (bI_nw _) (by decide) rfl (Nat.le_of_ble_eq_true rfl) ?_
  intro X hF hk
  show jJ l D (rmD 1) 2 X (wC a cI cZ σ) 0 [(0, .ref (a 1)), (1, .int (h))] []
  refine jq_iload_n (pc := 0) hF 1 dP_isHost_0 rfl ?_
  refine jq_iconst (pc := 1) hF dP_isHost_1 ic_0 ?_
  refine jq_aload_n (pc := 2) hF 0 dP_isHost_2 rfl ?_
  refine Cg_P_56 (pc := 3) hF dP_isHost_3 ?_
  refine jq_iconst (pc := 6) hF dP_isHost_6 ic_1 ?_
  refine jq_isub (pc := 7) hF dP_isHost_7 ?_
  refine jq_cMI (pc := 8) hF (As := [.int (h), .int (nI 0), .int ((σ 1 2) - (nI (1)))]) (rest := []) (mN_isWithin l D a cI cZ σ (h) (nI (0)) ((σ 1 2) - (nI (1))) ) (jG_n mC_N_isWithin) List.mem_cons_self (List.mem_cons_of_mem _ mZ_N) (List.mem_cons_of_mem _ mT_N_isWithin) rfl rfl rfl dd_N_isWithin.2 ⟨Nat.le_of_ble_eq_true rfl, Nat.le_of_ble_eq_true rfl⟩ rfl rfl (Nat.le_of_ble_eq_true rfl) dP_isHost_8 ?_
  exact jq_at (hk 11 _ dP_isHost_11) rfl rfl rfl (congrArg (fun z => [Value.int z]) (by rfl))
set_option maxHeartbeats 4000000 in
set_option maxRecDepth 100000 in
theorem mP_isFree (l : Launch) (D : va_G) (a : Nat → Nat) (cI cZ : ClassId) (σ : jS) (p : Int32) (hI : cInv σ) : jI l yP_isFree w_P_isFree (rmD 2) D (jTys cI cZ) [.ref (a 1), .int (p)] (wC a cI cZ σ) (wC a cI cZ (σ)) (bI (cIsFree σ p)) := by
  refine jI_of (ws' := jG) (bI_nw _) (by decide) rfl (Nat.le_of_ble_eq_true rfl) ?_
  intro X hF hk
  show jJ l D (rmD 2) 2 X (wC a cI cZ σ) 0 [(0, .ref (a 1)), (1, .int (p))] []
  refine jq_aload_n (pc := 0) hF 0 dP_isFree_0 rfl ?_
  refine jq_iload_n (pc := 1) hF 1 dP_isFree_1 rfl ?_
  refine jq_cVI (pc := 2) hF (As := [.int (p)]) (rest := []) (mP_isPlace l D a cI cZ σ (p) ) (jG_v mL_P_63 mI_P_isPlace mS_P_isPlace mZ_P mC_P_isPlace) rfl rfl rfl dd_P_isPlace ⟨Nat.le_of_ble_eq_true rfl, Nat.le_of_ble_eq_true rfl⟩ 1 rfl rfl rfl rfl (Nat.le_of_ble_eq_true rfl) dP_isFree_2 ?_
  refine jq_if_eqB (pc := 5) hF 32 dP_isFree_5 rfl (fun h5 => ?_) (fun h5 => ?_)
  · refine jq_iconst (pc := 32) hF dP_isFree_32 ic_0 ?_
    exact jq_at (hk 33 _ dP_isFree_33) rfl rfl rfl (congrArg (fun z => [Value.int z]) (bI0 (by simp [cIsFree, h5])))
  · refine jq_aload_n (pc := 8) hF 0 dP_isFree_8 rfl ?_
    refine Cg_P_35 (pc := 9) hF dP_isFree_9 ?_
    refine jq_iload_n (pc := 12) hF 1 dP_isFree_12 rfl ?_
    refine CL_12 (pc := 13) hF (cIsPlace_in hI h5) dP_isFree_13 ?_
    refine jq_iconst (pc := 14) hF dP_isFree_14 ic_m1 ?_
    refine jq_icmp_ne (pc := 15) hF 32 dP_isFree_15 rfl (fun h15 => ?_) (fun h15 => ?_)
    · refine jq_iconst (pc := 32) hF dP_isFree_32 ic_0 ?_
      exact jq_at (hk 33 _ dP_isFree_33) rfl rfl rfl (congrArg (fun z => [Value.int z]) (bI0 (by simp [cIsFree, h5, h15])))
    · refine jq_aload_n (pc := 18) hF 0 dP_isFree_18 rfl ?_
      refine Cg_P_41 (pc := 19) hF dP_isFree_19 ?_
      refine jq_iload_n (pc := 22) hF 1 dP_isFree_22 rfl ?_
      refine CL_14 (pc := 23) hF (cIsPlace_in hI h5) dP_isFree_23 ?_
      refine jq_iconst (pc := 24) hF dP_isFree_24 ic_m1 ?_
      refine jq_icmp_ne (pc := 25) hF 32 dP_isFree_25 rfl (fun h25 => ?_) (fun h25 => ?_)
      · refine jq_iconst (pc := 32) hF dP_isFree_32 ic_0 ?_
        exact jq_at (hk 33 _ dP_isFree_33) rfl rfl rfl (congrArg (fun z => [Value.int z]) (bI0 (by simp [cIsFree, h5, h15, h25])))
      · refine jq_iconst (pc := 28) hF dP_isFree_28 ic_1 ?_
        refine jq_goto (pc := 29) hF 33 dP_isFree_29 rfl ?_
        exact jq_at (hk 33 _ dP_isFree_33) rfl rfl rfl (congrArg (fun z => [Value.int z]) (bI1 (by simp [cIsFree, h5, h15, h25])))
set_option maxHeartbeats 4000000 in
set_option maxRecDepth 100000 in
theorem mP_hasRouter (l : Launch) (D : va_G) (a : Nat → Nat) (cI cZ : ClassId) (σ : jS)   : jI l yP_hasRouter w_P_hasRouter (rmD 0) D (jTys cI cZ) [.ref (a 1)] (wC a cI cZ σ) (wC a cI cZ (σ)) (bI (cHasRouter σ)) := by
  refine jI_of (ws' := jG) (bI_nw _) (by decide) rfl (Nat.le_of_ble_eq_true rfl) ?_
  intro X hF hk
  show jJ l D (rmD 0) 1 X (wC a cI cZ σ) 0 [(0, .ref (a 1))] []
  refine jq_aload_n (pc := 0) hF 0 dP_hasRouter_0 rfl ?_
  refine Cg_P_31 (pc := 1) hF dP_hasRouter_1 ?_
  refine jq_iconst (pc := 4) hF dP_hasRouter_4 ic_m1 ?_
  refine jq_icmp_eq (pc := 5) hF 12 dP_hasRouter_5 rfl (fun h5 => ?_) (fun h5 => ?_)
  · refine jq_iconst (pc := 12) hF dP_hasRouter_12 ic_0 ?_
    exact jq_at (hk 13 _ dP_hasRouter_13) rfl rfl rfl (congrArg (fun z => [Value.int z]) (bI0 (by simp [cHasRouter, h5])))
  · refine jq_iconst (pc := 8) hF dP_hasRouter_8 ic_1 ?_
    refine jq_goto (pc := 9) hF 13 dP_hasRouter_9 rfl ?_
    exact jq_at (hk 13 _ dP_hasRouter_13) rfl rfl rfl (congrArg (fun z => [Value.int z]) (bI1 (by simp [cHasRouter, h5])))
set_option maxHeartbeats 4000000 in
set_option maxRecDepth 100000 in
theorem mP_hasWholeWire (l : Launch) (D : va_G) (a : Nat → Nat) (cI cZ : ClassId) (σ : jS) (p : Nat) (hp : p < 24) (hI : cInv σ) : jI l yP_hasWholeWire w_P_hasWholeWire (rmD 0) D (jTys cI cZ) [.ref (a 1), .int (nI p)] (wC a cI cZ σ) (wC a cI cZ (σ)) (bI (cWhole σ p)) := by
  refine jI_of (ws' := jG) (bI_nw _) (by decide) rfl (Nat.le_of_ble_eq_true rfl) ?_
  intro X hF hk
  show jJ l D (rmD 0) 2 X (wC a cI cZ σ) 0 [(0, .ref (a 1)), (1, .int (nI p))] []
  refine jq_aload_n (pc := 0) hF 0 dP_hasWholeWire_0 rfl ?_
  refine Cg_P_35 (pc := 1) hF dP_hasWholeWire_1 ?_
  refine jq_iload_n (pc := 4) hF 1 dP_hasWholeWire_4 rfl ?_
  refine Cl_12 (pc := 5) hF (by omega) dP_hasWholeWire_5 ?_
  refine jq_iconst (pc := 6) hF dP_hasWholeWire_6 ic_m1 ?_
  refine jq_icmp_eq (pc := 7) hF 28 dP_hasWholeWire_7 rfl (fun h7 => ?_) (fun h7 => ?_)
  · refine jq_iconst (pc := 28) hF dP_hasWholeWire_28 ic_0 ?_
    exact jq_at (hk 29 _ dP_hasWholeWire_29) rfl rfl rfl (congrArg (fun z => [Value.int z]) (bI0 (by simp [cWhole, h7])))
  · refine jq_aload_n (pc := 10) hF 0 dP_hasWholeWire_10 rfl ?_
    refine Cg_P_21 (pc := 11) hF dP_hasWholeWire_11 ?_
    refine jq_aload_n (pc := 14) hF 0 dP_hasWholeWire_14 rfl ?_
    refine Cg_P_35 (pc := 15) hF dP_hasWholeWire_15 ?_
    refine jq_iload_n (pc := 18) hF 1 dP_hasWholeWire_18 rfl ?_
    refine Cl_12 (pc := 19) hF (by omega) dP_hasWholeWire_19 ?_
    refine CL_9 (pc := 20) hF ((hI.wires hp).inn h7 (by decide)) dP_hasWholeWire_20 ?_
    refine jq_if_ne (pc := 21) hF 28 dP_hasWholeWire_21 rfl (fun h21 => ?_) (fun h21 => ?_)
    · refine jq_iconst (pc := 28) hF dP_hasWholeWire_28 ic_0 ?_
      exact jq_at (hk 29 _ dP_hasWholeWire_29) rfl rfl rfl (congrArg (fun z => [Value.int z]) (bI0 (by simp [cWhole, h7, h21])))
    · refine jq_iconst (pc := 24) hF dP_hasWholeWire_24 ic_1 ?_
      refine jq_goto (pc := 25) hF 29 dP_hasWholeWire_25 rfl ?_
      exact jq_at (hk 29 _ dP_hasWholeWire_29) rfl rfl rfl (congrArg (fun z => [Value.int z]) (bI1 (by simp [cWhole, h7, h21])))
set_option maxHeartbeats 4000000 in
set_option maxRecDepth 100000 in
theorem mP_isUp (l : Launch) (D : va_G) (a : Nat → Nat) (cI cZ : ClassId) (σ : jS) (p : Nat) (hp : p < 24) (hI : cInv σ) : jI l yP_isUp w_P_isUp (rmD 1) D (jTys cI cZ) [.ref (a 1), .int (nI p)] (wC a cI cZ σ) (wC a cI cZ (σ)) (bI (cIsUp σ p)) := by
  refine jI_of (ws' := jG) (bI_nw _) (by decide) rfl (Nat.le_of_ble_eq_true rfl) ?_
  intro X hF hk
  show jJ l D (rmD 1) 2 X (wC a cI cZ σ) 0 [(0, .ref (a 1)), (1, .int (nI p))] []
  refine jq_aload_n (pc := 0) hF 0 dP_isUp_0 rfl ?_
  refine Cg_P_41 (pc := 1) hF dP_isUp_1 ?_
  refine jq_iload_n (pc := 4) hF 1 dP_isUp_4 rfl ?_
  refine Cl_14 (pc := 5) hF (by omega) dP_isUp_5 ?_
  refine jq_iconst (pc := 6) hF dP_isUp_6 ic_m1 ?_
  refine jq_icmp_ne (pc := 7) hF 18 dP_isUp_7 rfl (fun h7 => ?_) (fun h7 => ?_)
  · refine jq_iconst (pc := 18) hF dP_isUp_18 ic_1 ?_
    refine jq_goto (pc := 19) hF 23 dP_isUp_19 rfl ?_
    exact jq_at (hk 23 _ dP_isUp_23) rfl rfl rfl (congrArg (fun z => [Value.int z]) (bI1 (by simp [cIsUp, h7])))
  · refine jq_aload_n (pc := 10) hF 0 dP_isUp_10 rfl ?_
    refine jq_iload_n (pc := 11) hF 1 dP_isUp_11 rfl ?_
    refine jq_cVI (pc := 12) hF (As := [.int (nI p)]) (rest := []) (mP_hasWholeWire l D a cI cZ σ (p) (by omega) hI) (jG_v mL_P_67 mI_P_hasWholeWire mS_P_hasWholeWire mZ_P mC_P_hasWholeWire) rfl rfl rfl dd_P_hasWholeWire ⟨Nat.le_of_ble_eq_true rfl, Nat.le_of_ble_eq_true rfl⟩ 1 rfl rfl rfl rfl (Nat.le_of_ble_eq_true rfl) dP_isUp_12 ?_
    refine jq_if_eqB (pc := 15) hF 22 dP_isUp_15 rfl (fun h15 => ?_) (fun h15 => ?_)
    · refine jq_iconst (pc := 22) hF dP_isUp_22 ic_0 ?_
      exact jq_at (hk 23 _ dP_isUp_23) rfl rfl rfl (congrArg (fun z => [Value.int z]) (bI0 (by simp [cIsUp, h7, h15])))
    · refine jq_iconst (pc := 18) hF dP_isUp_18 ic_1 ?_
      refine jq_goto (pc := 19) hF 23 dP_isUp_19 rfl ?_
      exact jq_at (hk 23 _ dP_isUp_23) rfl rfl rfl (congrArg (fun z => [Value.int z]) (bI1 (by simp [cIsUp, h7, h15])))
end
section
/-! walks by program (wip/whole/gen/specC2.py) -/
theorem in6 {x : Int32} {j : Nat} (h : okP 24 x) (hj : j < 6) : vp_in (nI 6 * x + nI j) 144 := by
  obtain ⟨k, hk, rfl⟩ := h
  rw [pk_mul, nI_add]
  exact vp_in_nI (by omega) (by decide)
set_option maxHeartbeats 4000000 in
set_option maxRecDepth 100000 in
theorem mP_addBridge (l : Launch) (D : va_G) (a : Nat → Nat) (cI cZ : ClassId) (σ : jS) (pr : Int32) (hb : vp_in (σ 1 0) 6) : jI l yP_addBridge w_P_addBridge (rmD 0) D (jTys cI cZ) [.ref (a 1), .int (pr)] (wC a cI cZ σ) (wC a cI cZ (cAddBridge σ pr)) (σ 1 0) := by
  refine jI_of (ws' := jG) rfl (by decide) rfl (Nat.le_of_ble_eq_true rfl) ?_
  intro X hF hk
  show jJ l D (rmD 0) 3 X (wC a cI cZ σ) 0 [(0, .ref (a 1)), (1, .int (pr))] []
  refine jq_aload_n (pc := 0) hF 0 dP_addBridge_0 rfl ?_
  refine Cg_P_50 (pc := 1) hF dP_addBridge_1 ?_
  refine jq_istore_n (pc := 4) hF [(2, .int (σ 1 0)), (0, .ref (a 1)), (1, .int (pr))] dP_addBridge_4 (Nat.le_of_ble_eq_true rfl) rfl ?_
  refine jq_aload_n (pc := 5) hF 1 dP_addBridge_5 rfl ?_
  refine Cg_P_9 (pc := 6) hF dP_addBridge_6 ?_
  refine jq_iload_n (pc := 9) hF 0 dP_addBridge_9 rfl ?_
  refine jq_bipush (pc := 10) hF dP_addBridge_10 bi_8 ?_
  refine jq_iload_n (pc := 12) hF 2 dP_addBridge_12 rfl ?_
  refine jq_imul (pc := 13) hF dP_addBridge_13 ?_
  refine jq_iload_n (pc := 14) hF 0 dP_addBridge_14 rfl ?_
  refine jq_iadd (pc := 15) hF dP_addBridge_15 ?_
  refine CS_6 (pc := 16) hF (by assumption) dP_addBridge_16 ?_
  refine jq_aload_n (pc := 17) hF 1 dP_addBridge_17 rfl ?_
  refine jq_dup (pc := 18) hF dP_addBridge_18 rfl ?_
  refine Cg_P_50 (pc := 19) hF dP_addBridge_19 ?_
  refine jq_iconst (pc := 22) hF dP_addBridge_22 ic_1 ?_
  refine jq_iadd (pc := 23) hF dP_addBridge_23 ?_
  refine Cp_P_50 (pc := 24) hF dP_addBridge_24 ?_
  refine jq_iload_n (pc := 27) hF 0 dP_addBridge_27 rfl ?_
  exact jq_at (hk 28 _ dP_addBridge_28) (congrArg (wC a cI cZ) (by rfl)) rfl rfl rfl
set_option maxHeartbeats 4000000 in
set_option maxRecDepth 100000 in
theorem mP_addWire (l : Launch) (D : va_G) (a : Nat → Nat) (cI cZ : ClassId) (σ : jS) (p : Int32) (q : Int32) (cost : Int32) (hw : vp_in (σ 1 1) 10) (hp : vp_in p 24) (hq : vp_in q 24) : jI l yP_addWire w_P_addWire (rmD 0) D (jTys cI cZ) [.ref (a 1), .int (p), .int (q), .int (cost)] (wC a cI cZ σ) (wC a cI cZ (cAddWire σ p q cost)) (σ 1 1) := by
  refine jI_of (ws' := jG) rfl (by decide) rfl (Nat.le_of_ble_eq_true rfl) ?_
  intro X hF hk
  show jJ l D (rmD 0) 5 X (wC a cI cZ σ) 0 [(0, .ref (a 1)), (1, .int (p)), (2, .int (q)), (3, .int (cost))] []
  refine jq_aload_n (pc := 0) hF 0 dP_addWire_0 rfl ?_
  refine Cg_P_53 (pc := 1) hF dP_addWire_1 ?_
  refine jq_istore (pc := 4) hF [(4, .int (σ 1 1)), (0, .ref (a 1)), (1, .int (p)), (2, .int (q)), (3, .int (cost))] dP_addWire_4 (Nat.le_of_ble_eq_true rfl) rfl ?_
  refine jq_aload_n (pc := 6) hF 1 dP_addWire_6 rfl ?_
  refine Cg_P_15 (pc := 7) hF dP_addWire_7 ?_
  refine jq_iload (pc := 10) hF 0 dP_addWire_10 rfl ?_
  refine jq_iload_n (pc := 12) hF 2 dP_addWire_12 rfl ?_
  refine CS_7 (pc := 13) hF (by assumption) dP_addWire_13 ?_
  refine jq_aload_n (pc := 14) hF 1 dP_addWire_14 rfl ?_
  refine Cg_P_18 (pc := 15) hF dP_addWire_15 ?_
  refine jq_iload (pc := 18) hF 0 dP_addWire_18 rfl ?_
  refine jq_iload_n (pc := 20) hF 4 dP_addWire_20 rfl ?_
  refine CS_8 (pc := 21) hF (by assumption) dP_addWire_21 ?_
  refine jq_aload_n (pc := 22) hF 1 dP_addWire_22 rfl ?_
  refine Cg_P_35 (pc := 23) hF dP_addWire_23 ?_
  refine jq_iload_n (pc := 26) hF 2 dP_addWire_26 rfl ?_
  refine jq_iload (pc := 27) hF 0 dP_addWire_27 rfl ?_
  refine CS_12 (pc := 29) hF (by assumption) dP_addWire_29 ?_
  refine jq_aload_n (pc := 30) hF 1 dP_addWire_30 rfl ?_
  refine Cg_P_35 (pc := 31) hF dP_addWire_31 ?_
  refine jq_iload_n (pc := 34) hF 3 dP_addWire_34 rfl ?_
  refine jq_iload (pc := 35) hF 0 dP_addWire_35 rfl ?_
  refine CS_12 (pc := 37) hF (by assumption) dP_addWire_37 ?_
  refine jq_aload_n (pc := 38) hF 1 dP_addWire_38 rfl ?_
  refine Cg_P_38 (pc := 39) hF dP_addWire_39 ?_
  refine jq_iload_n (pc := 42) hF 2 dP_addWire_42 rfl ?_
  refine jq_iload_n (pc := 43) hF 3 dP_addWire_43 rfl ?_
  refine CS_13 (pc := 44) hF (by assumption) dP_addWire_44 ?_
  refine jq_aload_n (pc := 45) hF 1 dP_addWire_45 rfl ?_
  refine Cg_P_38 (pc := 46) hF dP_addWire_46 ?_
  refine jq_iload_n (pc := 49) hF 3 dP_addWire_49 rfl ?_
  refine jq_iload_n (pc := 50) hF 2 dP_addWire_50 rfl ?_
  refine CS_13 (pc := 51) hF (by assumption) dP_addWire_51 ?_
  refine jq_aload_n (pc := 52) hF 1 dP_addWire_52 rfl ?_
  refine jq_dup (pc := 53) hF dP_addWire_53 rfl ?_
  refine Cg_P_53 (pc := 54) hF dP_addWire_54 ?_
  refine jq_iconst (pc := 57) hF dP_addWire_57 ic_1 ?_
  refine jq_iadd (pc := 58) hF dP_addWire_58 ?_
  refine Cp_P_53 (pc := 59) hF dP_addWire_59 ?_
  refine jq_iload (pc := 62) hF 0 dP_addWire_62 rfl ?_
  exact jq_at (hk 64 _ dP_addWire_64) (congrArg (wC a cI cZ) (by rfl)) rfl rfl rfl
set_option maxHeartbeats 4000000 in
set_option maxRecDepth 100000 in
theorem mP_addHost (l : Launch) (D : va_G) (a : Nat → Nat) (cI cZ : ClassId) (σ : jS) (p : Int32) (sn : Int32) (hh : vp_in (σ 1 2) 6) (hp : vp_in p 24) : jI l yP_addHost w_P_addHost (rmD 0) D (jTys cI cZ) [.ref (a 1), .int (p), .int (sn)] (wC a cI cZ σ) (wC a cI cZ (cAddHost σ p sn)) (σ 1 2) := by
  refine jI_of (ws' := jG) rfl (by decide) rfl (Nat.le_of_ble_eq_true rfl) ?_
  intro X hF hk
  show jJ l D (rmD 0) 4 X (wC a cI cZ σ) 0 [(0, .ref (a 1)), (1, .int (p)), (2, .int (sn))] []
  refine jq_aload_n (pc := 0) hF 0 dP_addHost_0 rfl ?_
  refine Cg_P_56 (pc := 1) hF dP_addHost_1 ?_
  refine jq_istore_n (pc := 4) hF [(3, .int (σ 1 2)), (0, .ref (a 1)), (1, .int (p)), (2, .int (sn))] dP_addHost_4 (Nat.le_of_ble_eq_true rfl) rfl ?_
  refine jq_aload_n (pc := 5) hF 1 dP_addHost_5 rfl ?_
  refine Cg_P_25 (pc := 6) hF dP_addHost_6 ?_
  refine jq_iload_n (pc := 9) hF 0 dP_addHost_9 rfl ?_
  refine jq_iload_n (pc := 10) hF 2 dP_addHost_10 rfl ?_
  refine CS_10 (pc := 11) hF (by assumption) dP_addHost_11 ?_
  refine jq_aload_n (pc := 12) hF 1 dP_addHost_12 rfl ?_
  refine Cg_P_28 (pc := 13) hF dP_addHost_13 ?_
  refine jq_iload_n (pc := 16) hF 0 dP_addHost_16 rfl ?_
  refine jq_iload_n (pc := 17) hF 3 dP_addHost_17 rfl ?_
  refine CS_11 (pc := 18) hF (by assumption) dP_addHost_18 ?_
  refine jq_aload_n (pc := 19) hF 1 dP_addHost_19 rfl ?_
  refine Cg_P_41 (pc := 20) hF dP_addHost_20 ?_
  refine jq_iload_n (pc := 23) hF 2 dP_addHost_23 rfl ?_
  refine jq_iload_n (pc := 24) hF 0 dP_addHost_24 rfl ?_
  refine CS_14 (pc := 25) hF (by assumption) dP_addHost_25 ?_
  refine jq_aload_n (pc := 26) hF 1 dP_addHost_26 rfl ?_
  refine jq_dup (pc := 27) hF dP_addHost_27 rfl ?_
  refine Cg_P_56 (pc := 28) hF dP_addHost_28 ?_
  refine jq_iconst (pc := 31) hF dP_addHost_31 ic_1 ?_
  refine jq_iadd (pc := 32) hF dP_addHost_32 ?_
  refine Cp_P_56 (pc := 33) hF dP_addHost_33 ?_
  refine jq_iload_n (pc := 36) hF 0 dP_addHost_36 rfl ?_
  exact jq_at (hk 37 _ dP_addHost_37) (congrArg (wC a cI cZ) (by rfl)) rfl rfl rfl
set_option maxHeartbeats 4000000 in
set_option maxRecDepth 100000 in
theorem mP_addRouter (l : Launch) (D : va_G) (a : Nat → Nat) (cI cZ : ClassId) (σ : jS) (p : Int32) (hp : vp_in p 24) : jV l yP_addRouter w_P_addRouter (rmD 0) D (jTys cI cZ) [.ref (a 1), .int (p)] (wC a cI cZ σ) (wC a cI cZ (cAddRouter σ p)) := by
  refine jV_of (ws' := jG) (by decide) rfl (Nat.le_of_ble_eq_true rfl) ?_
  intro X hF hk
  show jJ l D (rmD 0) 2 X (wC a cI cZ σ) 0 [(0, .ref (a 1)), (1, .int (p))] []
  refine jq_aload_n (pc := 0) hF 0 dP_addRouter_0 rfl ?_
  refine jq_iload_n (pc := 1) hF 1 dP_addRouter_1 rfl ?_
  refine Cp_P_31 (pc := 2) hF dP_addRouter_2 ?_
  refine jq_aload_n (pc := 5) hF 0 dP_addRouter_5 rfl ?_
  refine Cg_P_41 (pc := 6) hF dP_addRouter_6 ?_
  refine jq_iload_n (pc := 9) hF 1 dP_addRouter_9 rfl ?_
  refine jq_bipush (pc := 10) hF dP_addRouter_10 bi_6 ?_
  refine CS_14 (pc := 12) hF (by assumption) dP_addRouter_12 ?_
  exact jq_at (hk 13 _ dP_addRouter_13) (congrArg (wC a cI cZ) (by rfl)) rfl rfl rfl
set_option maxHeartbeats 4000000 in
set_option maxRecDepth 100000 in
theorem mW_makeAccess (l : Launch) (D : va_G) (a : Nat → Nat) (cI cZ : ClassId) (σ : jS) (p : Int32) (nw : Int32) (hp : vp_in p 24) : jV l yW_makeAccess w_W_makeAccess (rmD 0) D (jTys cI cZ) [.ref (a 2), .int (p), .int (nw)] (wC a cI cZ σ) (wC a cI cZ (cAccess σ p nw)) := by
  refine jV_of (ws' := jG) (by decide) rfl (Nat.le_of_ble_eq_true rfl) ?_
  intro X hF hk
  show jJ l D (rmD 0) 3 X (wC a cI cZ σ) 0 [(0, .ref (a 2)), (1, .int (p)), (2, .int (nw))] []
  refine jq_aload_n (pc := 0) hF 0 dW_makeAccess_0 rfl ?_
  refine Cg_W_9 (pc := 1) hF dW_makeAccess_1 ?_
  refine jq_iload_n (pc := 4) hF 1 dW_makeAccess_4 rfl ?_
  refine jq_iload_n (pc := 5) hF 2 dW_makeAccess_5 rfl ?_
  refine CS_15 (pc := 6) hF (by assumption) dW_makeAccess_6 ?_
  refine jq_aload_n (pc := 7) hF 0 dW_makeAccess_7 rfl ?_
  refine Cg_W_15 (pc := 8) hF dW_makeAccess_8 ?_
  refine jq_iload_n (pc := 11) hF 1 dW_makeAccess_11 rfl ?_
  refine jq_iconst (pc := 12) hF dW_makeAccess_12 ic_1 ?_
  refine jq_iload_n (pc := 13) hF 2 dW_makeAccess_13 rfl ?_
  refine jq_ishl (pc := 14) hF dW_makeAccess_14 ?_
  refine CS_16 (pc := 15) hF (by assumption) dW_makeAccess_15 ?_
  refine jq_aload_n (pc := 16) hF 0 dW_makeAccess_16 rfl ?_
  refine Cg_W_18 (pc := 17) hF dW_makeAccess_17 ?_
  refine jq_iload_n (pc := 20) hF 1 dW_makeAccess_20 rfl ?_
  refine jq_iconst (pc := 21) hF dW_makeAccess_21 ic_0 ?_
  refine CS_17 (pc := 22) hF (by assumption) rfl dW_makeAccess_22 ?_
  exact jq_at (hk 23 _ dW_makeAccess_23) (congrArg (wC a cI cZ) (by rfl)) rfl rfl rfl
set_option maxHeartbeats 4000000 in
set_option maxRecDepth 100000 in
theorem mW_makeTrunk (l : Launch) (D : va_G) (a : Nat → Nat) (cI cZ : ClassId) (σ : jS) (p : Int32) (nn : Int32) (mb : Int32) (hp : vp_in p 24) : jV l yW_makeTrunk w_W_makeTrunk (rmD 0) D (jTys cI cZ) [.ref (a 2), .int (p), .int (nn), .int (mb)] (wC a cI cZ σ) (wC a cI cZ (cTrunk σ p nn mb)) := by
  refine jV_of (ws' := jG) (by decide) rfl (Nat.le_of_ble_eq_true rfl) ?_
  intro X hF hk
  show jJ l D (rmD 0) 4 X (wC a cI cZ σ) 0 [(0, .ref (a 2)), (1, .int (p)), (2, .int (nn)), (3, .int (mb))] []
  refine jq_aload_n (pc := 0) hF 0 dW_makeTrunk_0 rfl ?_
  refine Cg_W_9 (pc := 1) hF dW_makeTrunk_1 ?_
  refine jq_iload_n (pc := 4) hF 1 dW_makeTrunk_4 rfl ?_
  refine jq_iload_n (pc := 5) hF 2 dW_makeTrunk_5 rfl ?_
  refine CS_15 (pc := 6) hF (by assumption) dW_makeTrunk_6 ?_
  refine jq_aload_n (pc := 7) hF 0 dW_makeTrunk_7 rfl ?_
  refine Cg_W_15 (pc := 8) hF dW_makeTrunk_8 ?_
  refine jq_iload_n (pc := 11) hF 1 dW_makeTrunk_11 rfl ?_
  refine jq_iload_n (pc := 12) hF 3 dW_makeTrunk_12 rfl ?_
  refine CS_16 (pc := 13) hF (by assumption) dW_makeTrunk_13 ?_
  refine jq_aload_n (pc := 14) hF 0 dW_makeTrunk_14 rfl ?_
  refine Cg_W_18 (pc := 15) hF dW_makeTrunk_15 ?_
  refine jq_iload_n (pc := 18) hF 1 dW_makeTrunk_18 rfl ?_
  refine jq_iconst (pc := 19) hF dW_makeTrunk_19 ic_1 ?_
  refine CS_17 (pc := 20) hF (by assumption) rfl dW_makeTrunk_20 ?_
  exact jq_at (hk 21 _ dW_makeTrunk_21) (congrArg (wC a cI cZ) (by rfl)) rfl rfl rfl
set_option maxHeartbeats 4000000 in
set_option maxRecDepth 100000 in
theorem mW_isMember (l : Launch) (D : va_G) (a : Nat → Nat) (cI cZ : ClassId) (σ : jS) (p : Nat) (nw : Int32) (hp : p < 24) : jI l yW_isMember w_W_isMember (rmD 0) D (jTys cI cZ) [.ref (a 2), .int (nI p), .int (nw)] (wC a cI cZ σ) (wC a cI cZ (σ)) (bI (cIsMember σ p nw)) := by
  refine jI_of (ws' := jG) (bI_nw _) (by decide) rfl (Nat.le_of_ble_eq_true rfl) ?_
  intro X hF hk
  show jJ l D (rmD 0) 3 X (wC a cI cZ σ) 0 [(0, .ref (a 2)), (1, .int (nI p)), (2, .int (nw))] []
  refine jq_aload_n (pc := 0) hF 0 dW_isMember_0 rfl ?_
  refine Cg_W_15 (pc := 1) hF dW_isMember_1 ?_
  refine jq_iload_n (pc := 4) hF 1 dW_isMember_4 rfl ?_
  refine Cl_16 (pc := 5) hF (by omega) dW_isMember_5 ?_
  refine jq_iload_n (pc := 6) hF 2 dW_isMember_6 rfl ?_
  refine jq_ishr (pc := 7) hF dW_isMember_7 ?_
  refine jq_iconst (pc := 8) hF dW_isMember_8 ic_1 ?_
  refine jq_iand (pc := 9) hF dW_isMember_9 ?_
  refine jq_iconst (pc := 10) hF dW_isMember_10 ic_1 ?_
  refine jq_icmp_ne (pc := 11) hF 18 dW_isMember_11 rfl (fun h11 => ?_) (fun h11 => ?_)
  · refine jq_iconst (pc := 18) hF dW_isMember_18 ic_0 ?_
    exact jq_at (hk 19 _ dW_isMember_19) rfl rfl rfl (congrArg (fun z => [Value.int z]) (bI0 (by simp [cIsMember, h11])))
  · refine jq_iconst (pc := 14) hF dW_isMember_14 ic_1 ?_
    refine jq_goto (pc := 15) hF 19 dW_isMember_15 rfl ?_
    exact jq_at (hk 19 _ dW_isMember_19) rfl rfl rfl (congrArg (fun z => [Value.int z]) (bI1 (by simp [cIsMember, h11])))
set_option maxHeartbeats 4000000 in
set_option maxRecDepth 100000 in
theorem mW_networkInside (l : Launch) (D : va_G) (a : Nat → Nat) (cI cZ : ClassId) (σ : jS) (p : Nat) (tag : Int32) (hp : p < 24) : jI l yW_networkInside w_W_networkInside (rmD 1) D (jTys cI cZ) [.ref (a 2), .int (nI p), .int (tag)] (wC a cI cZ σ) (wC a cI cZ (σ)) (cInside σ p tag) := by
  refine jI_of (ws' := jG) rfl (by decide) rfl (Nat.le_of_ble_eq_true rfl) ?_
  intro X hF hk
  show jJ l D (rmD 1) 4 X (wC a cI cZ σ) 0 [(0, .ref (a 2)), (1, .int (nI p)), (2, .int (tag))] []
  refine jq_iload_n (pc := 0) hF 2 dW_networkInside_0 rfl ?_
  refine jq_iconst (pc := 1) hF dW_networkInside_1 ic_m1 ?_
  refine jq_icmp_eq (pc := 2) hF 16 dW_networkInside_2 rfl (fun h2 => ?_) (fun h2 => ?_)
  · refine jq_iload_n (pc := 16) hF 2 dW_networkInside_16 rfl ?_
    refine jq_iconst (pc := 17) hF dW_networkInside_17 ic_m1 ?_
    have j31 : jJ l D (rmD 1) 4 X (wC a cI cZ σ) 31 [(0, .ref (a 2)), (1, .int (nI p)), (2, .int (tag))] [.int (if ¬ (tag = -1) then tag else σ 15 (p))] := by
      refine jq_istore_n (pc := 31) hF [(3, .int (if ¬ (tag = -1) then tag else σ 15 (p))), (0, .ref (a 2)), (1, .int (nI p)), (2, .int (tag))] dW_networkInside_31 (Nat.le_of_ble_eq_true rfl) rfl ?_
      refine jq_aload_n (pc := 32) hF 1 dW_networkInside_32 rfl ?_
      refine jq_iload_n (pc := 33) hF 2 dW_networkInside_33 rfl ?_
      refine jq_iload_n (pc := 34) hF 0 dW_networkInside_34 rfl ?_
      refine jq_cVI (pc := 35) hF (As := [.int (nI p), .int (if ¬ (tag = -1) then tag else σ 15 (p))]) (rest := []) (mW_isMember l D a cI cZ σ (p) (if ¬ (tag = -1) then tag else σ 15 (p)) (by omega)) (jG_v mL_W_28 mI_W_isMember mS_W_isMember mZ_W mC_W_isMember) rfl rfl rfl dd_W_isMember ⟨Nat.le_of_ble_eq_true rfl, Nat.le_of_ble_eq_true rfl⟩ 2 rfl rfl rfl rfl (Nat.le_of_ble_eq_true rfl) dW_networkInside_35 ?_
      refine jq_if_eqB (pc := 38) hF 45 dW_networkInside_38 rfl (fun h38 => ?_) (fun h38 => ?_)
      · refine jq_iconst (pc := 45) hF dW_networkInside_45 ic_m1 ?_
        exact jq_at (hk 46 _ dW_networkInside_46) rfl rfl rfl (congrArg (fun z => [Value.int z]) (by rw [cInside, if_neg (by simp [h2, h38])]; first | exact if_pos h38 | exact if_neg (by rw [h38]; decide)))
      · refine jq_iload_n (pc := 41) hF 0 dW_networkInside_41 rfl ?_
        refine jq_goto (pc := 42) hF 46 dW_networkInside_42 rfl ?_
        exact jq_at (hk 46 _ dW_networkInside_46) rfl rfl rfl (congrArg (fun z => [Value.int z]) (by rw [cInside, if_neg (by simp [h2, h38])]; first | exact if_pos h38 | exact if_neg (by rw [h38]; decide)))
    refine jq_icmp_ne (pc := 18) hF 30 dW_networkInside_18 rfl (fun h18 => ?_) (fun h18 => ?_)
    · refine jq_iload_n (pc := 30) hF 2 dW_networkInside_30 rfl ?_
      exact jq_at j31 rfl rfl rfl (by rw [if_pos h18])
    · refine jq_aload_n (pc := 21) hF 0 dW_networkInside_21 rfl ?_
      refine Cg_W_9 (pc := 22) hF dW_networkInside_22 ?_
      refine jq_iload_n (pc := 25) hF 1 dW_networkInside_25 rfl ?_
      refine Cl_15 (pc := 26) hF (by omega) dW_networkInside_26 ?_
      refine jq_goto (pc := 27) hF 31 dW_networkInside_27 rfl ?_
      exact jq_at j31 rfl rfl rfl (by rw [if_neg (show ¬ (¬ (tag = -1)) by simp [h18])])
  · refine jq_aload_n (pc := 5) hF 0 dW_networkInside_5 rfl ?_
    refine Cg_W_18 (pc := 6) hF dW_networkInside_6 ?_
    refine jq_iload_n (pc := 9) hF 1 dW_networkInside_9 rfl ?_
    refine Cl_17 (pc := 10) hF (by omega) dW_networkInside_10 ?_
    refine jq_if_ne (pc := 11) hF 16 dW_networkInside_11 rfl (fun h11 => ?_) (fun h11 => ?_)
    · refine jq_iload_n (pc := 16) hF 2 dW_networkInside_16 rfl ?_
      refine jq_iconst (pc := 17) hF dW_networkInside_17 ic_m1 ?_
      have j31 : jJ l D (rmD 1) 4 X (wC a cI cZ σ) 31 [(0, .ref (a 2)), (1, .int (nI p)), (2, .int (tag))] [.int (if ¬ (tag = -1) then tag else σ 15 (p))] := by
        refine jq_istore_n (pc := 31) hF [(3, .int (if ¬ (tag = -1) then tag else σ 15 (p))), (0, .ref (a 2)), (1, .int (nI p)), (2, .int (tag))] dW_networkInside_31 (Nat.le_of_ble_eq_true rfl) rfl ?_
        refine jq_aload_n (pc := 32) hF 1 dW_networkInside_32 rfl ?_
        refine jq_iload_n (pc := 33) hF 2 dW_networkInside_33 rfl ?_
        refine jq_iload_n (pc := 34) hF 0 dW_networkInside_34 rfl ?_
        refine jq_cVI (pc := 35) hF (As := [.int (nI p), .int (if ¬ (tag = -1) then tag else σ 15 (p))]) (rest := []) (mW_isMember l D a cI cZ σ (p) (if ¬ (tag = -1) then tag else σ 15 (p)) (by omega)) (jG_v mL_W_28 mI_W_isMember mS_W_isMember mZ_W mC_W_isMember) rfl rfl rfl dd_W_isMember ⟨Nat.le_of_ble_eq_true rfl, Nat.le_of_ble_eq_true rfl⟩ 2 rfl rfl rfl rfl (Nat.le_of_ble_eq_true rfl) dW_networkInside_35 ?_
        refine jq_if_eqB (pc := 38) hF 45 dW_networkInside_38 rfl (fun h38 => ?_) (fun h38 => ?_)
        · refine jq_iconst (pc := 45) hF dW_networkInside_45 ic_m1 ?_
          exact jq_at (hk 46 _ dW_networkInside_46) rfl rfl rfl (congrArg (fun z => [Value.int z]) (by rw [cInside, if_neg (by simp [h2, h11, h38])]; first | exact if_pos h38 | exact if_neg (by rw [h38]; decide)))
        · refine jq_iload_n (pc := 41) hF 0 dW_networkInside_41 rfl ?_
          refine jq_goto (pc := 42) hF 46 dW_networkInside_42 rfl ?_
          exact jq_at (hk 46 _ dW_networkInside_46) rfl rfl rfl (congrArg (fun z => [Value.int z]) (by rw [cInside, if_neg (by simp [h2, h11, h38])]; first | exact if_pos h38 | exact if_neg (by rw [h38]; decide)))
      refine jq_icmp_ne (pc := 18) hF 30 dW_networkInside_18 rfl (fun h18 => ?_) (fun h18 => ?_)
      · refine jq_iload_n (pc := 30) hF 2 dW_networkInside_30 rfl ?_
        exact jq_at j31 rfl rfl rfl (by rw [if_pos h18])
      · refine jq_aload_n (pc := 21) hF 0 dW_networkInside_21 rfl ?_
        refine Cg_W_9 (pc := 22) hF dW_networkInside_22 ?_
        refine jq_iload_n (pc := 25) hF 1 dW_networkInside_25 rfl ?_
        refine Cl_15 (pc := 26) hF (by omega) dW_networkInside_26 ?_
        refine jq_goto (pc := 27) hF 31 dW_networkInside_27 rfl ?_
        exact jq_at j31 rfl rfl rfl (by rw [if_neg (show ¬ (¬ (tag = -1)) by simp [h18])])
    · refine jq_iconst (pc := 14) hF dW_networkInside_14 ic_m1 ?_
      exact jq_at (hk 15 _ dW_networkInside_15) rfl rfl rfl (congrArg (fun z => [Value.int z]) (by simp [cInside, h2, h11]))
set_option maxHeartbeats 4000000 in
set_option maxRecDepth 100000 in
theorem mW_tagOutside (l : Launch) (D : va_G) (a : Nat → Nat) (cI cZ : ClassId) (σ : jS) (p : Nat) (nw : Int32) (hp : p < 24) : jI l yW_tagOutside w_W_tagOutside (rmD 0) D (jTys cI cZ) [.ref (a 2), .int (nI p), .int (nw)] (wC a cI cZ σ) (wC a cI cZ (σ)) (cTagOut σ p nw) := by
  refine jI_of (ws' := jG) rfl (by decide) rfl (Nat.le_of_ble_eq_true rfl) ?_
  intro X hF hk
  show jJ l D (rmD 0) 3 X (wC a cI cZ σ) 0 [(0, .ref (a 2)), (1, .int (nI p)), (2, .int (nw))] []
  refine jq_aload_n (pc := 0) hF 0 dW_tagOutside_0 rfl ?_
  refine Cg_W_9 (pc := 1) hF dW_tagOutside_1 ?_
  refine jq_iload_n (pc := 4) hF 1 dW_tagOutside_4 rfl ?_
  refine Cl_15 (pc := 5) hF (by omega) dW_tagOutside_5 ?_
  refine jq_iload_n (pc := 6) hF 2 dW_tagOutside_6 rfl ?_
  refine jq_icmp_ne (pc := 7) hF 14 dW_tagOutside_7 rfl (fun h7 => ?_) (fun h7 => ?_)
  · refine jq_iload_n (pc := 14) hF 2 dW_tagOutside_14 rfl ?_
    exact jq_at (hk 15 _ dW_tagOutside_15) rfl rfl rfl (congrArg (fun z => [Value.int z]) (by simp [cTagOut, h7]))
  · refine jq_iconst (pc := 10) hF dW_tagOutside_10 ic_m1 ?_
    refine jq_goto (pc := 11) hF 15 dW_tagOutside_11 rfl ?_
    exact jq_at (hk 15 _ dW_tagOutside_15) rfl rfl rfl (congrArg (fun z => [Value.int z]) (by simp [cTagOut, h7]))
set_option maxHeartbeats 4000000 in
set_option maxRecDepth 100000 in
theorem mB_portOf (l : Launch) (D : va_G) (a : Nat → Nat) (cI cZ : ClassId) (σ : jS) (b : Nat) (nw : Nat) (ad : Nat) (hb : b < 6) (hn : nw < 4) (ha : ad < 7) : jI l yB_portOf w_B_portOf (rmD 0) D (jTys cI cZ) [.ref (a 4), .int (nI b), .int (nI nw), .int (nI ad)] (wC a cI cZ σ) (wC a cI cZ (σ)) (cPort σ b nw ad) := by
  refine jI_of (ws' := jG) rfl (by decide) rfl (Nat.le_of_ble_eq_true rfl) ?_
  intro X hF hk
  show jJ l D (rmD 0) 4 X (wC a cI cZ σ) 0 [(0, .ref (a 4)), (1, .int (nI b)), (2, .int (nI nw)), (3, .int (nI ad))] []
  refine jq_aload_n (pc := 0) hF 0 dB_portOf_0 rfl ?_
  refine Cg_B_11 (pc := 1) hF dB_portOf_1 ?_
  refine jq_bipush (pc := 4) hF dB_portOf_4 bi_28 ?_
  refine jq_iload_n (pc := 6) hF 1 dB_portOf_6 rfl ?_
  refine jq_imulN (pc := 7) hF dB_portOf_7 ?_
  refine jq_bipush (pc := 8) hF dB_portOf_8 bi_7 ?_
  refine jq_iload_n (pc := 10) hF 2 dB_portOf_10 rfl ?_
  refine jq_imulN (pc := 11) hF dB_portOf_11 ?_
  refine jq_iaddN (pc := 12) hF dB_portOf_12 ?_
  refine jq_iload_n (pc := 13) hF 3 dB_portOf_13 rfl ?_
  refine jq_iaddN (pc := 14) hF dB_portOf_14 ?_
  refine Cl_31 (pc := 15) hF (by omega) dB_portOf_15 ?_
  exact jq_at (hk 16 _ dB_portOf_16) rfl rfl rfl (congrArg (fun z => [Value.int z]) (by rfl))
set_option maxHeartbeats 4000000 in
set_option maxRecDepth 100000 in
theorem mB_learn (l : Launch) (D : va_G) (a : Nat → Nat) (cI cZ : ClassId) (σ : jS) (p : Nat) (nw : Nat) (ad : Nat) (time : Int32) (hp : p < 24) (hn : nw < 4) (ha : ad < 7) : jV l yB_learn w_B_learn (rmD 0) D (jTys cI cZ) [.ref (a 4), .int (nI p), .int (nI nw), .int (nI ad), .int (time)] (wC a cI cZ σ) (wC a cI cZ (cLearn σ p nw ad time)) := by
  refine jV_of (ws' := jG) (by decide) rfl (Nat.le_of_ble_eq_true rfl) ?_
  intro X hF hk
  show jJ l D (rmD 0) 6 X (wC a cI cZ σ) 0 [(0, .ref (a 4)), (1, .int (nI p)), (2, .int (nI nw)), (3, .int (nI ad)), (4, .int (time))] []
  refine jq_bipush (pc := 0) hF dB_learn_0 bi_28 ?_
  refine jq_iload_n (pc := 2) hF 1 dB_learn_2 rfl ?_
  refine jq_iconst (pc := 3) hF dB_learn_3 ic_4 ?_
  refine jq_idivN (pc := 4) hF (by omega) (by decide) (by decide) dB_learn_4 ?_
  refine jq_imulN (pc := 5) hF dB_learn_5 ?_
  refine jq_bipush (pc := 6) hF dB_learn_6 bi_7 ?_
  refine jq_iload_n (pc := 8) hF 2 dB_learn_8 rfl ?_
  refine jq_imulN (pc := 9) hF dB_learn_9 ?_
  refine jq_iaddN (pc := 10) hF dB_learn_10 ?_
  refine jq_iload_n (pc := 11) hF 3 dB_learn_11 rfl ?_
  refine jq_iaddN (pc := 12) hF dB_learn_12 ?_
  refine jq_istore (pc := 13) hF [(5, .int (nI (28 * (p / 4) + (7 * nw) + ad))), (0, .ref (a 4)), (1, .int (nI p)), (2, .int (nI nw)), (3, .int (nI ad)), (4, .int (time))] dB_learn_13 (Nat.le_of_ble_eq_true rfl) rfl ?_
  refine jq_aload_n (pc := 15) hF 1 dB_learn_15 rfl ?_
  refine Cg_B_11 (pc := 16) hF dB_learn_16 ?_
  refine jq_iload (pc := 19) hF 0 dB_learn_19 rfl ?_
  refine jq_iload_n (pc := 21) hF 2 dB_learn_21 rfl ?_
  refine jq_iconst (pc := 22) hF dB_learn_22 ic_4 ?_
  refine jq_iremN (pc := 23) hF (by omega) (by decide) (by decide) dB_learn_23 ?_
  refine Cs_31 (pc := 24) hF (by omega) dB_learn_24 ?_
  refine jq_aload_n (pc := 25) hF 1 dB_learn_25 rfl ?_
  refine Cg_B_15 (pc := 26) hF dB_learn_26 ?_
  refine jq_iload (pc := 29) hF 0 dB_learn_29 rfl ?_
  refine jq_iload (pc := 31) hF 5 dB_learn_31 rfl ?_
  refine Cs_32 (pc := 33) hF (by omega) dB_learn_33 ?_
  exact jq_at (hk 34 _ dB_learn_34) (congrArg (wC a cI cZ) (by rfl)) rfl rfl rfl
set_option maxHeartbeats 4000000 in
set_option maxRecDepth 100000 in
theorem mB_countOf (l : Launch) (D : va_G) (a : Nat → Nat) (cI cZ : ClassId) (σ : jS) (b : Nat) (hb : b < 6) : jI l yB_countOf w_B_countOf (rmD 0) D (jTys cI cZ) [.ref (a 4), .int (nI b)] (wC a cI cZ σ) (wC a cI cZ (σ)) (nI (cCountN σ b 28)) := by
  refine jI_of (ws' := jG) rfl (by decide) rfl (Nat.le_of_ble_eq_true rfl) ?_
  intro X hF hk
  show jJ l D (rmD 0) 4 X (wC a cI cZ σ) 0 [(0, .ref (a 4)), (1, .int (nI b))] []
  refine jq_iconst (pc := 0) hF dB_countOf_0 ic_0 ?_
  refine jq_istore_n (pc := 1) hF [(2, .int (nI 0)), (0, .ref (a 4)), (1, .int (nI b))] dB_countOf_1 (Nat.le_of_ble_eq_true rfl) rfl ?_
  refine jq_bipush (pc := 2) hF dB_countOf_2 bi_28 ?_
  refine jq_iload_n (pc := 4) hF 2 dB_countOf_4 rfl ?_
  refine jq_imulN (pc := 5) hF dB_countOf_5 ?_
  refine jq_istore_n (pc := 6) hF [(3, .int (nI (28 * b))), (2, .int (nI 0)), (0, .ref (a 4)), (1, .int (nI b))] dB_countOf_6 (Nat.le_of_ble_eq_true rfl) rfl ?_
  have lp7 : ∀ i, i ≤ 28 → jJ l D (rmD 0) 4 X (wC a cI cZ (σ)) 7 [(3, .int (nI (28 * b + i))), (2, .int (nI (cCountN σ b i))), (0, .ref (a 4)), (1, .int (nI b))] [] := by
    refine loop_up (fun i hi ih => ?_)
    refine jq_iload_n (pc := 7) hF 0 dB_countOf_7 rfl ?_
    refine jq_bipush (pc := 8) hF dB_countOf_8 bi_28 ?_
    refine jq_iload_n (pc := 10) hF 3 dB_countOf_10 rfl ?_
    refine jq_imulN (pc := 11) hF dB_countOf_11 ?_
    refine jq_bipush (pc := 12) hF dB_countOf_12 bi_28 ?_
    refine jq_iaddN (pc := 14) hF dB_countOf_14 ?_
    refine jq_icmp_geN (pc := 15) hF 37 (by omega) (by omega) dB_countOf_15 rfl (fun h15 => ?_) (fun h15 => ?_)
    · obtain rfl : i = 28 := by omega
      refine jq_iload_n (pc := 37) hF 1 dB_countOf_37 rfl ?_
      exact jq_at (hk 38 _ dB_countOf_38) rfl rfl rfl (congrArg (fun z => [Value.int z]) (by rfl))
    · refine jq_aload_n (pc := 18) hF 2 dB_countOf_18 rfl ?_
      refine Cg_B_11 (pc := 19) hF dB_countOf_19 ?_
      refine jq_iload_n (pc := 22) hF 0 dB_countOf_22 rfl ?_
      refine Cl_31 (pc := 23) hF (by omega) dB_countOf_23 ?_
      refine jq_iconst (pc := 24) hF dB_countOf_24 ic_m1 ?_
      refine jq_icmp_eq (pc := 25) hF 31 dB_countOf_25 rfl (fun h25 => ?_) (fun h25 => ?_)
      · refine jq_iincN (pc := 31) hF 0 [(3, .int (nI (28 * b + i + 1))), (2, .int (nI (cCountN σ b i))), (0, .ref (a 4)), (1, .int (nI b))] dB_countOf_31 rfl (Nat.le_of_ble_eq_true rfl) rfl ?_
        refine jq_goto (pc := 34) hF 7 dB_countOf_34 rfl ?_
        refine jq_sub [(3, .int (nI (28 * b + i + 1))), (2, .int (nI (cCountN σ b i))), (0, .ref (a 4)), (1, .int (nI b))] [0, 1, 2, 3] rfl ?_
        exact jq_at (ih (by omega)) rfl rfl (by simp [cCountN, h15, h25, Nat.add_assoc]) rfl
      · refine jq_iincN (pc := 28) hF 1 [(2, .int (nI (cCountN σ b i + 1))), (3, .int (nI (28 * b + i))), (0, .ref (a 4)), (1, .int (nI b))] dB_countOf_28 rfl (Nat.le_of_ble_eq_true rfl) rfl ?_
        refine jq_iincN (pc := 31) hF 1 [(3, .int (nI (28 * b + i + 1))), (2, .int (nI (cCountN σ b i + 1))), (0, .ref (a 4)), (1, .int (nI b))] dB_countOf_31 rfl (Nat.le_of_ble_eq_true rfl) rfl ?_
        refine jq_goto (pc := 34) hF 7 dB_countOf_34 rfl ?_
        refine jq_sub [(3, .int (nI (28 * b + i + 1))), (2, .int (nI (cCountN σ b i + 1))), (0, .ref (a 4)), (1, .int (nI b))] [0, 1, 2, 3] rfl ?_
        exact jq_at (ih (by omega)) rfl rfl (by simp [cCountN, h15, h25, Nat.add_assoc]) rfl
  exact jq_at (lp7 0 (by omega)) rfl rfl rfl rfl
set_option maxHeartbeats 4000000 in
set_option maxRecDepth 100000 in
theorem mB_forget (l : Launch) (D : va_G) (a : Nat → Nat) (cI cZ : ClassId) (σ : jS) (b : Nat) (time : Int32) (span : Int32) (hb : b < 6) : jV l yB_forget w_B_forget (rmD 0) D (jTys cI cZ) [.ref (a 4), .int (nI b), .int (time), .int (span)] (wC a cI cZ σ) (wC a cI cZ (cForget σ b time span)) := by
  refine jV_of (ws' := jG) (by decide) rfl (Nat.le_of_ble_eq_true rfl) ?_
  intro X hF hk
  show jJ l D (rmD 0) 5 X (wC a cI cZ σ) 0 [(0, .ref (a 4)), (1, .int (nI b)), (2, .int (time)), (3, .int (span))] []
  refine jq_bipush (pc := 0) hF dB_forget_0 bi_28 ?_
  refine jq_iload_n (pc := 2) hF 1 dB_forget_2 rfl ?_
  refine jq_imulN (pc := 3) hF dB_forget_3 ?_
  refine jq_istore (pc := 4) hF [(4, .int (nI (28 * b))), (0, .ref (a 4)), (1, .int (nI b)), (2, .int (time)), (3, .int (span))] dB_forget_4 (Nat.le_of_ble_eq_true rfl) rfl ?_
  have lp6 : ∀ i, i ≤ 28 → jJ l D (rmD 0) 5 X (wC a cI cZ (forN (cForget1 b time span) σ i)) 6 [(4, .int (nI (28 * b + i))), (0, .ref (a 4)), (1, .int (nI b)), (2, .int (time)), (3, .int (span))] [] := by
    refine loop_up (fun i hi ih => ?_)
    refine jq_iload (pc := 6) hF 0 dB_forget_6 rfl ?_
    refine jq_bipush (pc := 8) hF dB_forget_8 bi_28 ?_
    refine jq_iload_n (pc := 10) hF 2 dB_forget_10 rfl ?_
    refine jq_imulN (pc := 11) hF dB_forget_11 ?_
    refine jq_bipush (pc := 12) hF dB_forget_12 bi_28 ?_
    refine jq_iaddN (pc := 14) hF dB_forget_14 ?_
    refine jq_icmp_geN (pc := 15) hF 45 (by omega) (by omega) dB_forget_15 rfl (fun h15 => ?_) (fun h15 => ?_)
    · obtain rfl : i = 28 := by omega
      exact jq_at (hk 45 _ dB_forget_45) (congrArg (wC a cI cZ) (by rfl)) rfl rfl rfl
    · refine jq_iload_n (pc := 18) hF 3 dB_forget_18 rfl ?_
      refine jq_aload_n (pc := 19) hF 1 dB_forget_19 rfl ?_
      refine Cg_B_15 (pc := 20) hF dB_forget_20 ?_
      refine jq_iload (pc := 23) hF 0 dB_forget_23 rfl ?_
      refine Cl_32 (pc := 25) hF (by omega) dB_forget_25 ?_
      refine jq_isub (pc := 26) hF dB_forget_26 ?_
      refine jq_iload_n (pc := 27) hF 4 dB_forget_27 rfl ?_
      refine jq_icmp_lt (pc := 28) hF 39 dB_forget_28 rfl (fun h28 => ?_) (fun h28 => ?_)
      · refine jq_iincN (pc := 39) hF 0 [(4, .int (nI (28 * b + i + 1))), (0, .ref (a 4)), (1, .int (nI b)), (2, .int (time)), (3, .int (span))] dB_forget_39 rfl (Nat.le_of_ble_eq_true rfl) rfl ?_
        refine jq_goto (pc := 42) hF 6 dB_forget_42 rfl ?_
        refine jq_sub [(4, .int (nI (28 * b + i + 1))), (0, .ref (a 4)), (1, .int (nI b)), (2, .int (time)), (3, .int (span))] [0, 1, 2, 3, 4] rfl ?_
        exact jq_at (ih (by omega)) (congrArg (wC a cI cZ) (by first | exact if_pos h28 | exact if_neg h28)) rfl rfl rfl
      · refine jq_aload_n (pc := 31) hF 1 dB_forget_31 rfl ?_
        refine Cg_B_11 (pc := 32) hF dB_forget_32 ?_
        refine jq_iload (pc := 35) hF 0 dB_forget_35 rfl ?_
        refine jq_iconst (pc := 37) hF dB_forget_37 ic_m1 ?_
        refine Cs_31 (pc := 38) hF (by omega) dB_forget_38 ?_
        refine jq_iincN (pc := 39) hF 0 [(4, .int (nI (28 * b + i + 1))), (0, .ref (a 4)), (1, .int (nI b)), (2, .int (time)), (3, .int (span))] dB_forget_39 rfl (Nat.le_of_ble_eq_true rfl) rfl ?_
        refine jq_goto (pc := 42) hF 6 dB_forget_42 rfl ?_
        refine jq_sub [(4, .int (nI (28 * b + i + 1))), (0, .ref (a 4)), (1, .int (nI b)), (2, .int (time)), (3, .int (span))] [0, 1, 2, 3, 4] rfl ?_
        exact jq_at (ih (by omega)) (congrArg (wC a cI cZ) (by first | exact if_pos h28 | exact if_neg h28)) rfl rfl rfl
  exact jq_at (lp6 0 (by omega)) rfl rfl rfl rfl
set_option maxHeartbeats 4000000 in
set_option maxRecDepth 100000 in
theorem mK_startCount (l : Launch) (D : va_G) (a : Nat → Nat) (cI cZ : ClassId) (σ : jS)   : jV l yK_startCount w_K_startCount (rmD 0) D (jTys cI cZ) [.ref (a 5)] (wC a cI cZ σ) (wC a cI cZ (sU σ 5 5 (nI 0))) := by
  refine jV_of (ws' := jG) (by decide) rfl (Nat.le_of_ble_eq_true rfl) ?_
  intro X hF hk
  show jJ l D (rmD 0) 1 X (wC a cI cZ σ) 0 [(0, .ref (a 5))] []
  refine jq_aload_n (pc := 0) hF 0 dK_startCount_0 rfl ?_
  refine jq_iconst (pc := 1) hF dK_startCount_1 ic_0 ?_
  refine Cp_K_34 (pc := 2) hF dK_startCount_2 ?_
  exact jq_at (hk 5 _ dK_startCount_5) (congrArg (wC a cI cZ) (by rfl)) rfl rfl rfl
set_option maxHeartbeats 4000000 in
set_option maxRecDepth 100000 in
theorem mT_dropMessage (l : Launch) (D : va_G) (a : Nat → Nat) (cI cZ : ClassId) (σ : jS) (p : Int32) (hp : vp_in p 24) : jV l yT_dropMessage w_T_dropMessage (rmD 0) D (jTys cI cZ) [.ref (a 3), .int (p)] (wC a cI cZ σ) (wC a cI cZ (cDrop σ p)) := by
  refine jV_of (ws' := jG) (by decide) rfl (Nat.le_of_ble_eq_true rfl) ?_
  intro X hF hk
  show jJ l D (rmD 0) 2 X (wC a cI cZ σ) 0 [(0, .ref (a 3)), (1, .int (p))] []
  refine jq_aload_n (pc := 0) hF 0 dT_dropMessage_0 rfl ?_
  refine Cg_T_15 (pc := 1) hF dT_dropMessage_1 ?_
  refine jq_iload_n (pc := 4) hF 1 dT_dropMessage_4 rfl ?_
  refine jq_iconst (pc := 5) hF dT_dropMessage_5 ic_0 ?_
  refine CS_19 (pc := 6) hF (by assumption) rfl dT_dropMessage_6 ?_
  exact jq_at (hk 7 _ dT_dropMessage_7) (congrArg (wC a cI cZ) (by rfl)) rfl rfl rfl
set_option maxHeartbeats 4000000 in
set_option maxRecDepth 100000 in
theorem mT_isMarked (l : Launch) (D : va_G) (a : Nat → Nat) (cI cZ : ClassId) (σ : jS) (b : Nat) (hb : b < 6) (hI : cInv σ) : jI l yT_isMarked w_T_isMarked (rmD 0) D (jTys cI cZ) [.ref (a 3), .int (nI b)] (wC a cI cZ σ) (wC a cI cZ (σ)) (bI (cMarked σ b)) := by
  refine jI_of (ws' := jG) (bI_nw _) (by decide) rfl (Nat.le_of_ble_eq_true rfl) ?_
  intro X hF hk
  show jJ l D (rmD 0) 2 X (wC a cI cZ σ) 0 [(0, .ref (a 3)), (1, .int (nI b))] []
  refine jq_aload_n (pc := 0) hF 0 dT_isMarked_0 rfl ?_
  refine Cg_T_31 (pc := 1) hF dT_isMarked_1 ?_
  refine jq_iload_n (pc := 4) hF 1 dT_isMarked_4 rfl ?_
  refine Cl_24 (pc := 5) hF (by omega) dT_isMarked_5 ?_
  refine jq_iconst (pc := 6) hF dT_isMarked_6 ic_m1 ?_
  refine jq_icmp_ne (pc := 7) hF 29 dT_isMarked_7 rfl (fun h7 => ?_) (fun h7 => ?_)
  · refine jq_aload_n (pc := 29) hF 0 dT_isMarked_29 rfl ?_
    refine Cg_T_11 (pc := 30) hF dT_isMarked_30 ?_
    refine jq_bipush (pc := 33) hF dT_isMarked_33 bi_6 ?_
    refine jq_aload_n (pc := 35) hF 0 dT_isMarked_35 rfl ?_
    refine Cg_T_31 (pc := 36) hF dT_isMarked_36 ?_
    refine jq_iload_n (pc := 39) hF 1 dT_isMarked_39 rfl ?_
    refine Cl_24 (pc := 40) hF (by omega) dT_isMarked_40 ?_
    refine jq_imul (pc := 41) hF dT_isMarked_41 ?_
    refine jq_iconst (pc := 42) hF dT_isMarked_42 ic_5 ?_
    refine jq_iadd (pc := 43) hF dT_isMarked_43 ?_
    refine CL_18 (pc := 44) hF (in6 ((hI.rp hb).resolve_left h7) (by decide)) dT_isMarked_44 ?_
    refine jq_iconst (pc := 45) hF dT_isMarked_45 ic_1 ?_
    refine jq_icmp_ne (pc := 46) hF 53 dT_isMarked_46 rfl (fun h46 => ?_) (fun h46 => ?_)
    · refine jq_iconst (pc := 53) hF dT_isMarked_53 ic_0 ?_
      exact jq_at (hk 54 _ dT_isMarked_54) rfl rfl rfl (congrArg (fun z => [Value.int z]) (bI0 (by simp [cMarked, h7, h46])))
    · refine jq_iconst (pc := 49) hF dT_isMarked_49 ic_1 ?_
      refine jq_goto (pc := 50) hF 54 dT_isMarked_50 rfl ?_
      exact jq_at (hk 54 _ dT_isMarked_54) rfl rfl rfl (congrArg (fun z => [Value.int z]) (bI1 (by simp [cMarked, h7, h46])))
  · refine jq_aload_n (pc := 10) hF 0 dT_isMarked_10 rfl ?_
    refine Cg_T_69 (pc := 11) hF dT_isMarked_11 ?_
    refine jq_aload_n (pc := 14) hF 0 dT_isMarked_14 rfl ?_
    refine Cg_T_43 (pc := 15) hF dT_isMarked_15 ?_
    refine jq_iload_n (pc := 18) hF 1 dT_isMarked_18 rfl ?_
    refine Cl_28 (pc := 19) hF (by omega) dT_isMarked_19 ?_
    refine jq_icmp_ge (pc := 20) hF 27 dT_isMarked_20 rfl (fun h20 => ?_) (fun h20 => ?_)
    · refine jq_iconst (pc := 27) hF dT_isMarked_27 ic_0 ?_
      exact jq_at (hk 28 _ dT_isMarked_28) rfl rfl rfl (congrArg (fun z => [Value.int z]) (bI0 (by simp [cMarked, h7, h20])))
    · refine jq_iconst (pc := 23) hF dT_isMarked_23 ic_1 ?_
      refine jq_goto (pc := 24) hF 28 dT_isMarked_24 rfl ?_
      exact jq_at (hk 28 _ dT_isMarked_28) rfl rfl rfl (congrArg (fun z => [Value.int z]) (bI1 (by simp [cMarked, h7, h20])))
set_option maxHeartbeats 4000000 in
set_option maxRecDepth 100000 in
theorem mT_isActive (l : Launch) (D : va_G) (a : Nat → Nat) (cI cZ : ClassId) (σ : jS) (r : Int32)  : jI l yT_isActive w_T_isActive (rmD 0) D (jTys cI cZ) [.int (r)] (wC a cI cZ σ) (wC a cI cZ (σ)) (bI (cActive r)) := by
  refine jI_of (ws' := jG) (bI_nw _) (by decide) rfl (Nat.le_of_ble_eq_true rfl) ?_
  intro X hF hk
  show jJ l D (rmD 0) 1 X (wC a cI cZ σ) 0 [(0, .int (r))] []
  refine jq_iload_n (pc := 0) hF 0 dT_isActive_0 rfl ?_
  refine jq_iconst (pc := 1) hF dT_isActive_1 ic_1 ?_
  refine jq_icmp_eq (pc := 2) hF 10 dT_isActive_2 rfl (fun h2 => ?_) (fun h2 => ?_)
  · refine jq_iconst (pc := 10) hF dT_isActive_10 ic_1 ?_
    refine jq_goto (pc := 11) hF 15 dT_isActive_11 rfl ?_
    exact jq_at (hk 15 _ dT_isActive_15) rfl rfl rfl (congrArg (fun z => [Value.int z]) (bI1 (by simp [cActive, h2])))
  · refine jq_iload_n (pc := 5) hF 0 dT_isActive_5 rfl ?_
    refine jq_iconst (pc := 6) hF dT_isActive_6 ic_2 ?_
    refine jq_icmp_ne (pc := 7) hF 14 dT_isActive_7 rfl (fun h7 => ?_) (fun h7 => ?_)
    · refine jq_iconst (pc := 14) hF dT_isActive_14 ic_0 ?_
      exact jq_at (hk 15 _ dT_isActive_15) rfl rfl rfl (congrArg (fun z => [Value.int z]) (bI0 (by simp [cActive, h2, h7])))
    · refine jq_iconst (pc := 10) hF dT_isActive_10 ic_1 ?_
      refine jq_goto (pc := 11) hF 15 dT_isActive_11 rfl ?_
      exact jq_at (hk 15 _ dT_isActive_15) rfl rfl rfl (congrArg (fun z => [Value.int z]) (bI1 (by simp [cActive, h2, h7])))
set_option maxHeartbeats 4000000 in
set_option maxRecDepth 100000 in
theorem mT_isWorthNotice (l : Launch) (D : va_G) (a : Nat → Nat) (cI cZ : ClassId) (σ : jS) (b : Int32) (a0 : Int32)  : jI l yT_isWorthNotice w_T_isWorthNotice (rmD 0) D (jTys cI cZ) [.int (b), .int (a0)] (wC a cI cZ σ) (wC a cI cZ (σ)) (bI (cWorth b a0)) := by
  refine jI_of (ws' := jG) (bI_nw _) (by decide) rfl (Nat.le_of_ble_eq_true rfl) ?_
  intro X hF hk
  show jJ l D (rmD 0) 4 X (wC a cI cZ σ) 0 [(0, .int (b)), (1, .int (a0))] []
  have j15 : jJ l D (rmD 0) 4 X (wC a cI cZ σ) 15 [(0, .int (b)), (1, .int (a0))] [.int (bI (decide (a0 = nI 3) && !decide (b = nI 3)))] := by
    refine jq_istore_n (pc := 15) hF [(2, .int (bI (decide (a0 = nI 3) && !decide (b = nI 3)))), (0, .int (b)), (1, .int (a0))] dT_isWorthNotice_15 (Nat.le_of_ble_eq_true rfl) rfl ?_
    have j31 : jJ l D (rmD 0) 4 X (wC a cI cZ σ) 31 [(2, .int (bI (decide (a0 = nI 3) && !decide (b = nI 3)))), (0, .int (b)), (1, .int (a0))] [.int (bI (!decide (b < nI 2) && !decide (nI 2 ≤ a0)))] := by
      refine jq_istore_n (pc := 31) hF [(3, .int (bI (!decide (b < nI 2) && !decide (nI 2 ≤ a0)))), (2, .int (bI (decide (a0 = nI 3) && !decide (b = nI 3)))), (0, .int (b)), (1, .int (a0))] dT_isWorthNotice_31 (Nat.le_of_ble_eq_true rfl) rfl ?_
      refine jq_iload_n (pc := 32) hF 1 dT_isWorthNotice_32 rfl ?_
      refine jq_if_neB (pc := 33) hF 40 dT_isWorthNotice_33 rfl (fun h33 => ?_) (fun h33 => ?_)
      · refine jq_iconst (pc := 40) hF dT_isWorthNotice_40 ic_1 ?_
        refine jq_goto (pc := 41) hF 45 dT_isWorthNotice_41 rfl ?_
        exact jq_at (hk 45 _ dT_isWorthNotice_45) rfl rfl rfl (congrArg (fun z => [Value.int z]) (bI1 (by simp [cWorth, h33])))
      · refine jq_iload_n (pc := 36) hF 0 dT_isWorthNotice_36 rfl ?_
        refine jq_if_eqB (pc := 37) hF 44 dT_isWorthNotice_37 rfl (fun h37 => ?_) (fun h37 => ?_)
        · refine jq_iconst (pc := 44) hF dT_isWorthNotice_44 ic_0 ?_
          exact jq_at (hk 45 _ dT_isWorthNotice_45) rfl rfl rfl (congrArg (fun z => [Value.int z]) (bI0 (by simp [cWorth, h33, h37])))
        · refine jq_iconst (pc := 40) hF dT_isWorthNotice_40 ic_1 ?_
          refine jq_goto (pc := 41) hF 45 dT_isWorthNotice_41 rfl ?_
          exact jq_at (hk 45 _ dT_isWorthNotice_45) rfl rfl rfl (congrArg (fun z => [Value.int z]) (bI1 (by simp [cWorth, h33, h37])))
    refine jq_iload_n (pc := 16) hF 1 dT_isWorthNotice_16 rfl ?_
    refine jq_iconst (pc := 17) hF dT_isWorthNotice_17 ic_2 ?_
    refine jq_icmp_lt (pc := 18) hF 30 dT_isWorthNotice_18 rfl (fun h18 => ?_) (fun h18 => ?_)
    · refine jq_iconst (pc := 30) hF dT_isWorthNotice_30 ic_0 ?_
      exact jq_at j31 rfl rfl rfl (congrArg (fun z => Value.int z :: []) (bI0 (by simp [h18])))
    · refine jq_iload_n (pc := 21) hF 2 dT_isWorthNotice_21 rfl ?_
      refine jq_iconst (pc := 22) hF dT_isWorthNotice_22 ic_2 ?_
      refine jq_icmp_ge (pc := 23) hF 30 dT_isWorthNotice_23 rfl (fun h23 => ?_) (fun h23 => ?_)
      · refine jq_iconst (pc := 30) hF dT_isWorthNotice_30 ic_0 ?_
        exact jq_at j31 rfl rfl rfl (congrArg (fun z => Value.int z :: []) (bI0 (by simp [h18, h23])))
      · refine jq_iconst (pc := 26) hF dT_isWorthNotice_26 ic_1 ?_
        refine jq_goto (pc := 27) hF 31 dT_isWorthNotice_27 rfl ?_
        exact jq_at j31 rfl rfl rfl (congrArg (fun z => Value.int z :: []) (bI1 (by simp [h18, h23])))
  refine jq_iload_n (pc := 0) hF 1 dT_isWorthNotice_0 rfl ?_
  refine jq_iconst (pc := 1) hF dT_isWorthNotice_1 ic_3 ?_
  refine jq_icmp_ne (pc := 2) hF 14 dT_isWorthNotice_2 rfl (fun h2 => ?_) (fun h2 => ?_)
  · refine jq_iconst (pc := 14) hF dT_isWorthNotice_14 ic_0 ?_
    exact jq_at j15 rfl rfl rfl (congrArg (fun z => Value.int z :: []) (bI0 (by simp [h2])))
  · refine jq_iload_n (pc := 5) hF 0 dT_isWorthNotice_5 rfl ?_
    refine jq_iconst (pc := 6) hF dT_isWorthNotice_6 ic_3 ?_
    refine jq_icmp_eq (pc := 7) hF 14 dT_isWorthNotice_7 rfl (fun h7 => ?_) (fun h7 => ?_)
    · refine jq_iconst (pc := 14) hF dT_isWorthNotice_14 ic_0 ?_
      exact jq_at j15 rfl rfl rfl (congrArg (fun z => Value.int z :: []) (bI0 (by simp [h2, h7])))
    · refine jq_iconst (pc := 10) hF dT_isWorthNotice_10 ic_1 ?_
      refine jq_goto (pc := 11) hF 15 dT_isWorthNotice_11 rfl ?_
      exact jq_at j15 rfl rfl rfl (congrArg (fun z => Value.int z :: []) (bI1 (by simp [h2, h7])))
set_option maxHeartbeats 4000000 in
set_option maxRecDepth 100000 in
theorem mT_rank (l : Launch) (D : va_G) (a : Nat → Nat) (cI cZ : ClassId) (σ : jS) (r : Int64) (c : Int64) (s0 : Int64) (p : Int64)  : jL l yT_rank w_T_rank (rmD 0) D (jTys cI cZ) [.long (r), .long (c), .long (s0), .long (p)] (wC a cI cZ σ) (wC a cI cZ (σ)) (cRank r c s0 p) := by
  refine jL_of (ws' := jG) (by decide) rfl (Nat.le_of_ble_eq_true rfl) ?_
  intro X hF hk
  show jJ l D (rmD 0) 8 X (wC a cI cZ σ) 0 [(0, .long (r)), (2, .long (c)), (4, .long (s0)), (6, .long (p))] []
  refine jq_lload_n (pc := 0) hF 0 dT_rank_0 rfl ?_
  refine jq_bipush (pc := 1) hF dT_rank_1 bi_20 ?_
  refine jq_lshl (pc := 3) hF dT_rank_3 rfl ?_
  refine jq_lload_n (pc := 4) hF 1 dT_rank_4 rfl ?_
  refine jq_lor (pc := 5) hF dT_rank_5 ?_
  refine jq_bipush (pc := 6) hF dT_rank_6 bi_6 ?_
  refine jq_lshl (pc := 8) hF dT_rank_8 rfl ?_
  refine jq_lload (pc := 9) hF 2 dT_rank_9 rfl ?_
  refine jq_lor (pc := 11) hF dT_rank_11 ?_
  refine jq_iconst (pc := 12) hF dT_rank_12 ic_2 ?_
  refine jq_lshl (pc := 13) hF dT_rank_13 rfl ?_
  refine jq_lload (pc := 14) hF 3 dT_rank_14 rfl ?_
  refine jq_lor (pc := 16) hF dT_rank_16 ?_
  exact jq_at (hk 17 _ dT_rank_17) rfl rfl rfl (congrArg (fun z => [Value.long z]) (by rfl))
set_option maxHeartbeats 4000000 in
set_option maxRecDepth 100000 in
theorem mT_offeredCost (l : Launch) (D : va_G) (a : Nat → Nat) (cI cZ : ClassId) (σ : jS) (p : Nat) (hp : p < 24) (hI : cInv σ) : jI l yT_offeredCost w_T_offeredCost (rmD 0) D (jTys cI cZ) [.ref (a 3), .int (nI p)] (wC a cI cZ σ) (wC a cI cZ (σ)) (cOffCost σ p) := by
  refine jI_of (ws' := jG) rfl (by decide) rfl (Nat.le_of_ble_eq_true rfl) ?_
  intro X hF hk
  show jJ l D (rmD 0) 3 X (wC a cI cZ σ) 0 [(0, .ref (a 3)), (1, .int (nI p))] []
  refine jq_aload_n (pc := 0) hF 0 dT_offeredCost_0 rfl ?_
  refine Cg_T_52 (pc := 1) hF dT_offeredCost_1 ?_
  refine Cg_T_127 (pc := 4) hF dT_offeredCost_4 ?_
  refine jq_iload_n (pc := 7) hF 1 dT_offeredCost_7 rfl ?_
  refine Cl_12 (pc := 8) hF (by omega) dT_offeredCost_8 ?_
  refine jq_istore_n (pc := 9) hF [(2, .int (σ 12 (p))), (0, .ref (a 3)), (1, .int (nI p))] dT_offeredCost_9 (Nat.le_of_ble_eq_true rfl) rfl ?_
  refine jq_aload_n (pc := 10) hF 1 dT_offeredCost_10 rfl ?_
  refine Cg_T_11 (pc := 11) hF dT_offeredCost_11 ?_
  refine jq_bipush (pc := 14) hF dT_offeredCost_14 bi_6 ?_
  refine jq_iload_n (pc := 16) hF 2 dT_offeredCost_16 rfl ?_
  refine jq_imulN (pc := 17) hF dT_offeredCost_17 ?_
  refine jq_iconst (pc := 18) hF dT_offeredCost_18 ic_1 ?_
  refine jq_iaddN (pc := 19) hF dT_offeredCost_19 ?_
  refine Cl_18 (pc := 20) hF (by omega) dT_offeredCost_20 ?_
  refine jq_iload_n (pc := 21) hF 0 dT_offeredCost_21 rfl ?_
  refine jq_iconst (pc := 22) hF dT_offeredCost_22 ic_m1 ?_
  have j39 : jJ l D (rmD 0) 3 X (wC a cI cZ σ) 39 [(2, .int (σ 12 (p))), (0, .ref (a 3)), (1, .int (nI p))] [.int (if ¬ (σ 12 (p) = -1) then σ 8 (σ 12 (p)).toNatClampNeg else nI (0)), .int (σ 18 (6 * p + 1))] := by
    refine jq_iadd (pc := 39) hF dT_offeredCost_39 ?_
    exact jq_at (hk 40 _ dT_offeredCost_40) rfl rfl rfl (congrArg (fun z => [Value.int z]) (by rfl))
  refine jq_icmp_ne (pc := 23) hF 30 dT_offeredCost_23 rfl (fun h23 => ?_) (fun h23 => ?_)
  · refine jq_aload_n (pc := 30) hF 1 dT_offeredCost_30 rfl ?_
    refine Cg_T_52 (pc := 31) hF dT_offeredCost_31 ?_
    refine Cg_T_130 (pc := 34) hF dT_offeredCost_34 ?_
    refine jq_iload_n (pc := 37) hF 0 dT_offeredCost_37 rfl ?_
    refine CL_8 (pc := 38) hF ((hI.wires hp).inn h23 (by decide)) dT_offeredCost_38 ?_
    exact jq_at j39 rfl rfl rfl (by rw [if_pos h23])
  · refine jq_iconst (pc := 26) hF dT_offeredCost_26 ic_0 ?_
    refine jq_goto (pc := 27) hF 39 dT_offeredCost_27 rfl ?_
    exact jq_at j39 rfl rfl rfl (by rw [if_neg (show ¬ (¬ (σ 12 (p) = -1)) by simp [h23])])
set_option maxHeartbeats 4000000 in
set_option maxRecDepth 100000 in
theorem mT_offerRank (l : Launch) (D : va_G) (a : Nat → Nat) (cI cZ : ClassId) (σ : jS) (p : Nat) (hp : p < 24) (hI : cInv σ) : jL l yT_offerRank w_T_offerRank (rmD 1) D (jTys cI cZ) [.ref (a 3), .int (nI p)] (wC a cI cZ σ) (wC a cI cZ (σ)) (cOffRank σ p) := by
  refine jL_of (ws' := jG) (by decide) rfl (Nat.le_of_ble_eq_true rfl) ?_
  intro X hF hk
  show jJ l D (rmD 1) 3 X (wC a cI cZ σ) 0 [(0, .ref (a 3)), (1, .int (nI p))] []
  refine jq_bipush (pc := 0) hF dT_offerRank_0 bi_6 ?_
  refine jq_iload_n (pc := 2) hF 1 dT_offerRank_2 rfl ?_
  refine jq_imulN (pc := 3) hF dT_offerRank_3 ?_
  refine jq_istore_n (pc := 4) hF [(2, .int (nI (6 * p))), (0, .ref (a 3)), (1, .int (nI p))] dT_offerRank_4 (Nat.le_of_ble_eq_true rfl) rfl ?_
  refine jq_aload_n (pc := 5) hF 1 dT_offerRank_5 rfl ?_
  refine Cg_T_11 (pc := 6) hF dT_offerRank_6 ?_
  refine jq_iload_n (pc := 9) hF 0 dT_offerRank_9 rfl ?_
  refine jq_iconst (pc := 10) hF dT_offerRank_10 ic_0 ?_
  refine jq_iaddN (pc := 11) hF dT_offerRank_11 ?_
  refine Cl_18 (pc := 12) hF (by omega) dT_offerRank_12 ?_
  refine jq_i2l (pc := 13) hF dT_offerRank_13 ?_
  refine jq_aload_n (pc := 14) hF 1 dT_offerRank_14 rfl ?_
  refine jq_iload_n (pc := 15) hF 2 dT_offerRank_15 rfl ?_
  refine jq_cVI (pc := 16) hF (As := [.int (nI p)]) (rest := [.long ((σ 18 (6 * p + 0)).toInt64)]) (mT_offeredCost l D a cI cZ σ (p) (by omega) hI) (jG_v mL_T_113 mI_T_offeredCost mS_T_offeredCost mZ_T mC_T_offeredCost) rfl rfl rfl dd_T_offeredCost ⟨Nat.le_of_ble_eq_true rfl, Nat.le_of_ble_eq_true rfl⟩ 3 rfl rfl rfl rfl (Nat.le_of_ble_eq_true rfl) dT_offerRank_16 ?_
  refine jq_i2l (pc := 19) hF dT_offerRank_19 ?_
  refine jq_aload_n (pc := 20) hF 1 dT_offerRank_20 rfl ?_
  refine Cg_T_11 (pc := 21) hF dT_offerRank_21 ?_
  refine jq_iload_n (pc := 24) hF 0 dT_offerRank_24 rfl ?_
  refine jq_iconst (pc := 25) hF dT_offerRank_25 ic_2 ?_
  refine jq_iaddN (pc := 26) hF dT_offerRank_26 ?_
  refine Cl_18 (pc := 27) hF (by omega) dT_offerRank_27 ?_
  refine jq_i2l (pc := 28) hF dT_offerRank_28 ?_
  refine jq_aload_n (pc := 29) hF 1 dT_offerRank_29 rfl ?_
  refine Cg_T_11 (pc := 30) hF dT_offerRank_30 ?_
  refine jq_iload_n (pc := 33) hF 0 dT_offerRank_33 rfl ?_
  refine jq_iconst (pc := 34) hF dT_offerRank_34 ic_3 ?_
  refine jq_iaddN (pc := 35) hF dT_offerRank_35 ?_
  refine Cl_18 (pc := 36) hF (by omega) dT_offerRank_36 ?_
  refine jq_i2l (pc := 37) hF dT_offerRank_37 ?_
  refine jq_cSL (pc := 38) hF (As := [.long ((σ 18 (6 * p + 0)).toInt64), .long ((cOffCost σ (p)).toInt64), .long ((σ 18 (6 * p + 2)).toInt64), .long ((σ 18 (6 * p + 3)).toInt64)]) (rest := []) (mT_rank l D a cI cZ σ ((σ 18 (6 * p + 0)).toInt64) ((cOffCost σ (p)).toInt64) ((σ 18 (6 * p + 2)).toInt64) ((σ 18 (6 * p + 3)).toInt64) ) (jG_st mL_T_133 mT_T_rank mZ_T mC_T_rank) rfl rfl rfl dd_T_rank ⟨Nat.le_of_ble_eq_true rfl, Nat.le_of_ble_eq_true rfl⟩ rfl rfl (Nat.le_of_ble_eq_true rfl) dT_offerRank_38 ?_
  exact jq_at (hk 41 _ dT_offerRank_41) rfl rfl rfl (congrArg (fun z => [Value.long z]) (by rfl))
set_option maxHeartbeats 4000000 in
set_option maxRecDepth 100000 in
theorem mT_messageRank (l : Launch) (D : va_G) (a : Nat → Nat) (cI cZ : ClassId) (σ : jS) (p : Nat) (hp : p < 24) : jL l yT_messageRank w_T_messageRank (rmD 1) D (jTys cI cZ) [.ref (a 3), .int (nI p)] (wC a cI cZ σ) (wC a cI cZ (σ)) (cMsgRank σ p) := by
  refine jL_of (ws' := jG) (by decide) rfl (Nat.le_of_ble_eq_true rfl) ?_
  intro X hF hk
  show jJ l D (rmD 1) 3 X (wC a cI cZ σ) 0 [(0, .ref (a 3)), (1, .int (nI p))] []
  refine jq_bipush (pc := 0) hF dT_messageRank_0 bi_6 ?_
  refine jq_iload_n (pc := 2) hF 1 dT_messageRank_2 rfl ?_
  refine jq_imulN (pc := 3) hF dT_messageRank_3 ?_
  refine jq_istore_n (pc := 4) hF [(2, .int (nI (6 * p))), (0, .ref (a 3)), (1, .int (nI p))] dT_messageRank_4 (Nat.le_of_ble_eq_true rfl) rfl ?_
  refine jq_aload_n (pc := 5) hF 1 dT_messageRank_5 rfl ?_
  refine Cg_T_11 (pc := 6) hF dT_messageRank_6 ?_
  refine jq_iload_n (pc := 9) hF 0 dT_messageRank_9 rfl ?_
  refine jq_iconst (pc := 10) hF dT_messageRank_10 ic_0 ?_
  refine jq_iaddN (pc := 11) hF dT_messageRank_11 ?_
  refine Cl_18 (pc := 12) hF (by omega) dT_messageRank_12 ?_
  refine jq_i2l (pc := 13) hF dT_messageRank_13 ?_
  refine jq_aload_n (pc := 14) hF 1 dT_messageRank_14 rfl ?_
  refine Cg_T_11 (pc := 15) hF dT_messageRank_15 ?_
  refine jq_iload_n (pc := 18) hF 0 dT_messageRank_18 rfl ?_
  refine jq_iconst (pc := 19) hF dT_messageRank_19 ic_1 ?_
  refine jq_iaddN (pc := 20) hF dT_messageRank_20 ?_
  refine Cl_18 (pc := 21) hF (by omega) dT_messageRank_21 ?_
  refine jq_i2l (pc := 22) hF dT_messageRank_22 ?_
  refine jq_aload_n (pc := 23) hF 1 dT_messageRank_23 rfl ?_
  refine Cg_T_11 (pc := 24) hF dT_messageRank_24 ?_
  refine jq_iload_n (pc := 27) hF 0 dT_messageRank_27 rfl ?_
  refine jq_iconst (pc := 28) hF dT_messageRank_28 ic_2 ?_
  refine jq_iaddN (pc := 29) hF dT_messageRank_29 ?_
  refine Cl_18 (pc := 30) hF (by omega) dT_messageRank_30 ?_
  refine jq_i2l (pc := 31) hF dT_messageRank_31 ?_
  refine jq_aload_n (pc := 32) hF 1 dT_messageRank_32 rfl ?_
  refine Cg_T_11 (pc := 33) hF dT_messageRank_33 ?_
  refine jq_iload_n (pc := 36) hF 0 dT_messageRank_36 rfl ?_
  refine jq_iconst (pc := 37) hF dT_messageRank_37 ic_3 ?_
  refine jq_iaddN (pc := 38) hF dT_messageRank_38 ?_
  refine Cl_18 (pc := 39) hF (by omega) dT_messageRank_39 ?_
  refine jq_i2l (pc := 40) hF dT_messageRank_40 ?_
  refine jq_cSL (pc := 41) hF (As := [.long ((σ 18 (6 * p + 0)).toInt64), .long ((σ 18 (6 * p + 1)).toInt64), .long ((σ 18 (6 * p + 2)).toInt64), .long ((σ 18 (6 * p + 3)).toInt64)]) (rest := []) (mT_rank l D a cI cZ σ ((σ 18 (6 * p + 0)).toInt64) ((σ 18 (6 * p + 1)).toInt64) ((σ 18 (6 * p + 2)).toInt64) ((σ 18 (6 * p + 3)).toInt64) ) (jG_st mL_T_133 mT_T_rank mZ_T mC_T_rank) rfl rfl rfl dd_T_rank ⟨Nat.le_of_ble_eq_true rfl, Nat.le_of_ble_eq_true rfl⟩ rfl rfl (Nat.le_of_ble_eq_true rfl) dT_messageRank_41 ?_
  exact jq_at (hk 44 _ dT_messageRank_44) rfl rfl rfl (congrArg (fun z => [Value.long z]) (by rfl))
set_option maxHeartbeats 4000000 in
set_option maxRecDepth 100000 in
theorem mT_isOffering (l : Launch) (D : va_G) (a : Nat → Nat) (cI cZ : ClassId) (σ : jS) (p : Nat) (hp : p < 24) (hI : cInv σ) : jI l yT_isOffering w_T_isOffering (rmD 1) D (jTys cI cZ) [.ref (a 3), .int (nI p)] (wC a cI cZ σ) (wC a cI cZ (σ)) (bI (cOffering σ p)) := by
  refine jI_of (ws' := jG) (bI_nw _) (by decide) rfl (Nat.le_of_ble_eq_true rfl) ?_
  intro X hF hk
  show jJ l D (rmD 1) 2 X (wC a cI cZ σ) 0 [(0, .ref (a 3)), (1, .int (nI p))] []
  refine jq_aload_n (pc := 0) hF 0 dT_isOffering_0 rfl ?_
  refine Cg_T_15 (pc := 1) hF dT_isOffering_1 ?_
  refine jq_iload_n (pc := 4) hF 1 dT_isOffering_4 rfl ?_
  refine Cl_19 (pc := 5) hF (by omega) dT_isOffering_5 ?_
  refine jq_if_eq (pc := 6) hF 49 dT_isOffering_6 rfl (fun h6 => ?_) (fun h6 => ?_)
  · refine jq_iconst (pc := 49) hF dT_isOffering_49 ic_0 ?_
    exact jq_at (hk 50 _ dT_isOffering_50) rfl rfl rfl (congrArg (fun z => [Value.int z]) (bI0 (by first | (simp [cOffering, h6]; done) | (simp [cOffering, h6, h17]; simpa using h42))))
  · refine jq_aload_n (pc := 9) hF 0 dT_isOffering_9 rfl ?_
    refine Cg_T_52 (pc := 10) hF dT_isOffering_10 ?_
    refine jq_iload_n (pc := 13) hF 1 dT_isOffering_13 rfl ?_
    refine jq_cVI (pc := 14) hF (As := [.int (nI p)]) (rest := []) (mP_hasWholeWire l D a cI cZ σ (p) (by omega) hI) (jG_v mL_T_124 mI_P_hasWholeWire mS_P_hasWholeWire mZ_P mC_P_hasWholeWire) rfl rfl rfl dd_P_hasWholeWire ⟨Nat.le_of_ble_eq_true rfl, Nat.le_of_ble_eq_true rfl⟩ 1 rfl rfl rfl rfl (Nat.le_of_ble_eq_true rfl) dT_isOffering_14 ?_
    refine jq_if_eqB (pc := 17) hF 49 dT_isOffering_17 rfl (fun h17 => ?_) (fun h17 => ?_)
    · refine jq_iconst (pc := 49) hF dT_isOffering_49 ic_0 ?_
      exact jq_at (hk 50 _ dT_isOffering_50) rfl rfl rfl (congrArg (fun z => [Value.int z]) (bI0 (by first | (simp [cOffering, h6, h17]; done) | (simp [cOffering, h6, h17]; simpa using h42))))
    · refine jq_aload_n (pc := 20) hF 0 dT_isOffering_20 rfl ?_
      refine Cg_T_11 (pc := 21) hF dT_isOffering_21 ?_
      refine jq_bipush (pc := 24) hF dT_isOffering_24 bi_6 ?_
      refine jq_iload_n (pc := 26) hF 1 dT_isOffering_26 rfl ?_
      refine jq_imulN (pc := 27) hF dT_isOffering_27 ?_
      refine jq_iconst (pc := 28) hF dT_isOffering_28 ic_0 ?_
      refine jq_iaddN (pc := 29) hF dT_isOffering_29 ?_
      refine Cl_18 (pc := 30) hF (by omega) dT_isOffering_30 ?_
      refine jq_aload_n (pc := 31) hF 0 dT_isOffering_31 rfl ?_
      refine Cg_T_52 (pc := 32) hF dT_isOffering_32 ?_
      refine Cg_T_110 (pc := 35) hF dT_isOffering_35 ?_
      refine jq_iload_n (pc := 38) hF 1 dT_isOffering_38 rfl ?_
      refine jq_iconst (pc := 39) hF dT_isOffering_39 ic_4 ?_
      refine jq_idivN (pc := 40) hF (by omega) (by decide) (by decide) dT_isOffering_40 ?_
      refine Cl_6 (pc := 41) hF (by omega) dT_isOffering_41 ?_
      refine jq_icmp_ge (pc := 42) hF 49 dT_isOffering_42 rfl (fun h42 => ?_) (fun h42 => ?_)
      · refine jq_iconst (pc := 49) hF dT_isOffering_49 ic_0 ?_
        exact jq_at (hk 50 _ dT_isOffering_50) rfl rfl rfl (congrArg (fun z => [Value.int z]) (bI0 (by first | (simp [cOffering, h6, h17, h42]; done) | (simp [cOffering, h6, h17]; simpa using h42))))
      · refine jq_iconst (pc := 45) hF dT_isOffering_45 ic_1 ?_
        refine jq_goto (pc := 46) hF 50 dT_isOffering_46 rfl ?_
        exact jq_at (hk 50 _ dT_isOffering_50) rfl rfl rfl (congrArg (fun z => [Value.int z]) (bI1 (by first | (simp [cOffering, h6, h17, h42]; done) | (simp [cOffering, h6, h17]; simpa using h42))))
set_option maxHeartbeats 4000000 in
set_option maxRecDepth 100000 in
theorem mT_roleNow (l : Launch) (D : va_G) (a : Nat → Nat) (cI cZ : ClassId) (σ : jS) (p : Nat) (hp : p < 24) (hI : cInv σ) : jI l yT_roleNow w_T_roleNow (rmD 2) D (jTys cI cZ) [.ref (a 3), .int (nI p)] (wC a cI cZ σ) (wC a cI cZ (σ)) (cRole σ p) := by
  refine jI_of (ws' := jG) rfl (by decide) rfl (Nat.le_of_ble_eq_true rfl) ?_
  intro X hF hk
  show jJ l D (rmD 2) 5 X (wC a cI cZ σ) 0 [(0, .ref (a 3)), (1, .int (nI p))] []
  refine jq_iload_n (pc := 0) hF 1 dT_roleNow_0 rfl ?_
  refine jq_iconst (pc := 1) hF dT_roleNow_1 ic_4 ?_
  refine jq_idivN (pc := 2) hF (by omega) (by decide) (by decide) dT_roleNow_2 ?_
  refine jq_istore_n (pc := 3) hF [(2, .int (nI (p / 4))), (0, .ref (a 3)), (1, .int (nI p))] dT_roleNow_3 (Nat.le_of_ble_eq_true rfl) rfl ?_
  refine jq_aload_n (pc := 4) hF 1 dT_roleNow_4 rfl ?_
  refine Cg_T_52 (pc := 5) hF dT_roleNow_5 ?_
  refine jq_iload_n (pc := 8) hF 2 dT_roleNow_8 rfl ?_
  refine jq_cVI (pc := 9) hF (As := [.int (nI p)]) (rest := []) (mP_isUp l D a cI cZ σ (p) (by omega) hI) (jG_v mL_T_137 mI_P_isUp mS_P_isUp mZ_P mC_P_isUp) rfl rfl rfl dd_P_isUp ⟨Nat.le_of_ble_eq_true rfl, Nat.le_of_ble_eq_true rfl⟩ 1 rfl rfl rfl rfl (Nat.le_of_ble_eq_true rfl) dT_roleNow_9 ?_
  refine jq_if_neB (pc := 12) hF 17 dT_roleNow_12 rfl (fun h12 => ?_) (fun h12 => ?_)
  · refine jq_aload_n (pc := 17) hF 1 dT_roleNow_17 rfl ?_
    refine Cg_T_31 (pc := 18) hF dT_roleNow_18 ?_
    refine jq_iload_n (pc := 21) hF 0 dT_roleNow_21 rfl ?_
    refine Cl_24 (pc := 22) hF (by omega) dT_roleNow_22 ?_
    refine jq_iload_n (pc := 23) hF 2 dT_roleNow_23 rfl ?_
    refine jq_icmp_ne (pc := 24) hF 29 dT_roleNow_24 rfl (fun h24 => ?_) (fun h24 => ?_)
    · refine jq_aload_n (pc := 29) hF 1 dT_roleNow_29 rfl ?_
      refine Cg_T_25 (pc := 30) hF dT_roleNow_30 ?_
      refine jq_iload_n (pc := 33) hF 0 dT_roleNow_33 rfl ?_
      refine Cl_22 (pc := 34) hF (by omega) dT_roleNow_34 ?_
      refine jq_i2l (pc := 35) hF dT_roleNow_35 ?_
      refine jq_aload_n (pc := 36) hF 1 dT_roleNow_36 rfl ?_
      refine Cg_T_28 (pc := 37) hF dT_roleNow_37 ?_
      refine jq_iload_n (pc := 40) hF 0 dT_roleNow_40 rfl ?_
      refine Cl_23 (pc := 41) hF (by omega) dT_roleNow_41 ?_
      refine jq_i2l (pc := 42) hF dT_roleNow_42 ?_
      refine jq_aload_n (pc := 43) hF 1 dT_roleNow_43 rfl ?_
      refine Cg_T_52 (pc := 44) hF dT_roleNow_44 ?_
      refine Cg_T_110 (pc := 47) hF dT_roleNow_47 ?_
      refine jq_iload_n (pc := 50) hF 0 dT_roleNow_50 rfl ?_
      refine Cl_6 (pc := 51) hF (by omega) dT_roleNow_51 ?_
      refine jq_i2l (pc := 52) hF dT_roleNow_52 ?_
      refine jq_iload_n (pc := 53) hF 2 dT_roleNow_53 rfl ?_
      refine jq_iconst (pc := 54) hF dT_roleNow_54 ic_4 ?_
      refine jq_iremN (pc := 55) hF (by omega) (by decide) (by decide) dT_roleNow_55 ?_
      refine jq_i2l (pc := 56) hF dT_roleNow_56 ?_
      refine jq_cSL (pc := 57) hF (As := [.long ((σ 22 (p / 4)).toInt64), .long ((σ 23 (p / 4)).toInt64), .long ((σ 6 (p / 4)).toInt64), .long ((nI (p % 4)).toInt64)]) (rest := []) (mT_rank l D a cI cZ σ ((σ 22 (p / 4)).toInt64) ((σ 23 (p / 4)).toInt64) ((σ 6 (p / 4)).toInt64) ((nI (p % 4)).toInt64) ) (jG_st mL_T_133 mT_T_rank mZ_T mC_T_rank) rfl rfl rfl dd_T_rank ⟨Nat.le_of_ble_eq_true rfl, Nat.le_of_ble_eq_true rfl⟩ rfl rfl (Nat.le_of_ble_eq_true rfl) dT_roleNow_57 ?_
      refine jq_lstore_n (pc := 60) hF [(3, .long (cRank ((σ 22 (p / 4)).toInt64) ((σ 23 (p / 4)).toInt64) ((σ 6 (p / 4)).toInt64) ((nI (p % 4)).toInt64))), (2, .int (nI (p / 4))), (0, .ref (a 3)), (1, .int (nI p))] dT_roleNow_60 (Nat.le_of_ble_eq_true rfl) rfl ?_
      refine jq_aload_n (pc := 61) hF 2 dT_roleNow_61 rfl ?_
      refine Cg_T_15 (pc := 62) hF dT_roleNow_62 ?_
      refine jq_iload_n (pc := 65) hF 3 dT_roleNow_65 rfl ?_
      refine Cl_19 (pc := 66) hF (by omega) dT_roleNow_66 ?_
      refine jq_if_eq (pc := 67) hF 80 dT_roleNow_67 rfl (fun h67 => ?_) (fun h67 => ?_)
      · refine jq_iconst (pc := 80) hF dT_roleNow_80 ic_2 ?_
        refine jq_goto (pc := 81) hF 85 dT_roleNow_81 rfl ?_
        exact jq_at (hk 85 _ dT_roleNow_85) rfl rfl rfl (congrArg (fun z => [Value.int z]) (by simp [cRole, cOwnRank, h12, h24, h67]))
      · refine jq_lload_n (pc := 70) hF 0 dT_roleNow_70 rfl ?_
        refine jq_aload_n (pc := 71) hF 2 dT_roleNow_71 rfl ?_
        refine jq_iload_n (pc := 72) hF 3 dT_roleNow_72 rfl ?_
        refine jq_cVL (pc := 73) hF (As := [.int (nI p)]) (rest := [.long (cRank ((σ 22 (p / 4)).toInt64) ((σ 23 (p / 4)).toInt64) ((σ 6 (p / 4)).toInt64) ((nI (p % 4)).toInt64))]) (mT_messageRank l D a cI cZ σ (p) (by omega)) (jG_v mL_T_140 mI_T_messageRank mS_T_messageRank mZ_T mC_T_messageRank) rfl rfl rfl dd_T_messageRank ⟨Nat.le_of_ble_eq_true rfl, Nat.le_of_ble_eq_true rfl⟩ 3 rfl rfl rfl rfl (Nat.le_of_ble_eq_true rfl) dT_roleNow_73 ?_
        refine jq_lcmp (pc := 76) hF dT_roleNow_76 ?_
        refine jq_if_geL (pc := 77) hF 84 dT_roleNow_77 rfl (fun h77 => ?_) (fun h77 => ?_)
        · refine jq_iconst (pc := 84) hF dT_roleNow_84 ic_3 ?_
          exact jq_at (hk 85 _ dT_roleNow_85) rfl rfl rfl (congrArg (fun z => [Value.int z]) (by simp [cRole, cOwnRank, h12, h24, h67, h77]))
        · refine jq_iconst (pc := 80) hF dT_roleNow_80 ic_2 ?_
          refine jq_goto (pc := 81) hF 85 dT_roleNow_81 rfl ?_
          exact jq_at (hk 85 _ dT_roleNow_85) rfl rfl rfl (congrArg (fun z => [Value.int z]) (by simp [cRole, cOwnRank, h12, h24, h67, h77]))
    · refine jq_iconst (pc := 27) hF dT_roleNow_27 ic_1 ?_
      exact jq_at (hk 28 _ dT_roleNow_28) rfl rfl rfl (congrArg (fun z => [Value.int z]) (by simp [cRole, cOwnRank, h12, h24]))
  · refine jq_iconst (pc := 15) hF dT_roleNow_15 ic_0 ?_
    exact jq_at (hk 16 _ dT_roleNow_16) rfl rfl rfl (congrArg (fun z => [Value.int z]) (by simp [cRole, cOwnRank, h12]))
set_option maxHeartbeats 4000000 in
set_option maxRecDepth 100000 in
theorem mT_lookAtRole (l : Launch) (D : va_G) (a : Nat → Nat) (cI cZ : ClassId) (σ : jS) (p : Nat) (hp : p < 24) (hI : cInv σ) : jV l yT_lookAtRole w_T_lookAtRole (rmD 3) D (jTys cI cZ) [.ref (a 3), .int (nI p)] (wC a cI cZ σ) (wC a cI cZ (cLook σ p)) := by
  refine jV_of (ws' := jG) (by decide) rfl (Nat.le_of_ble_eq_true rfl) ?_
  intro X hF hk
  show jJ l D (rmD 3) 3 X (wC a cI cZ σ) 0 [(0, .ref (a 3)), (1, .int (nI p))] []
  refine jq_aload_n (pc := 0) hF 0 dT_lookAtRole_0 rfl ?_
  refine jq_iload_n (pc := 1) hF 1 dT_lookAtRole_1 rfl ?_
  refine jq_cVI (pc := 2) hF (As := [.int (nI p)]) (rest := []) (mT_roleNow l D a cI cZ σ (p) (by omega) hI) (jG_v mL_T_143 mI_T_roleNow mS_T_roleNow mZ_T mC_T_roleNow) rfl rfl rfl dd_T_roleNow ⟨Nat.le_of_ble_eq_true rfl, Nat.le_of_ble_eq_true rfl⟩ 3 rfl rfl rfl rfl (Nat.le_of_ble_eq_true rfl) dT_lookAtRole_2 ?_
  refine jq_istore_n (pc := 5) hF [(2, .int (cRole σ (p))), (0, .ref (a 3)), (1, .int (nI p))] dT_lookAtRole_5 (Nat.le_of_ble_eq_true rfl) rfl ?_
  refine jq_iload_n (pc := 6) hF 0 dT_lookAtRole_6 rfl ?_
  refine jq_cSI (pc := 7) hF (As := [.int (cRole σ (p))]) (rest := []) (mT_isActive l D a cI cZ σ (cRole σ (p)) ) (jG_st mL_T_146 mT_T_isActive mZ_T mC_T_isActive) rfl rfl rfl dd_T_isActive ⟨Nat.le_of_ble_eq_true rfl, Nat.le_of_ble_eq_true rfl⟩ rfl rfl (Nat.le_of_ble_eq_true rfl) dT_lookAtRole_7 ?_
  refine jq_if_eqB (pc := 10) hF 35 dT_lookAtRole_10 rfl (fun h10 => ?_) (fun h10 => ?_)
  · refine jq_aload_n (pc := 35) hF 1 dT_lookAtRole_35 rfl ?_
    refine Cg_T_34 (pc := 36) hF dT_lookAtRole_36 ?_
    refine jq_iload_n (pc := 39) hF 2 dT_lookAtRole_39 rfl ?_
    refine jq_iload_n (pc := 40) hF 0 dT_lookAtRole_40 rfl ?_
    refine Cs_25 (pc := 41) hF (by omega) dT_lookAtRole_41 ?_
    exact jq_at (hk 42 _ dT_lookAtRole_42) (congrArg (wC a cI cZ) (by simp [cLook, h10])) rfl rfl rfl
  · refine jq_aload_n (pc := 13) hF 1 dT_lookAtRole_13 rfl ?_
    refine Cg_T_34 (pc := 14) hF dT_lookAtRole_14 ?_
    refine jq_iload_n (pc := 17) hF 2 dT_lookAtRole_17 rfl ?_
    refine Cl_25 (pc := 18) hF (by omega) dT_lookAtRole_18 ?_
    refine jq_cSI (pc := 19) hF (As := [.int (σ 25 (p))]) (rest := []) (mT_isActive l D a cI cZ σ (σ 25 (p)) ) (jG_st mL_T_146 mT_T_isActive mZ_T mC_T_isActive) rfl rfl rfl dd_T_isActive ⟨Nat.le_of_ble_eq_true rfl, Nat.le_of_ble_eq_true rfl⟩ rfl rfl (Nat.le_of_ble_eq_true rfl) dT_lookAtRole_19 ?_
    refine jq_if_neB (pc := 22) hF 35 dT_lookAtRole_22 rfl (fun h22 => ?_) (fun h22 => ?_)
    · refine jq_aload_n (pc := 35) hF 1 dT_lookAtRole_35 rfl ?_
      refine Cg_T_34 (pc := 36) hF dT_lookAtRole_36 ?_
      refine jq_iload_n (pc := 39) hF 2 dT_lookAtRole_39 rfl ?_
      refine jq_iload_n (pc := 40) hF 0 dT_lookAtRole_40 rfl ?_
      refine Cs_25 (pc := 41) hF (by omega) dT_lookAtRole_41 ?_
      exact jq_at (hk 42 _ dT_lookAtRole_42) (congrArg (wC a cI cZ) (by simp [cLook, h10, h22])) rfl rfl rfl
    · refine jq_aload_n (pc := 25) hF 1 dT_lookAtRole_25 rfl ?_
      refine Cg_T_37 (pc := 26) hF dT_lookAtRole_26 ?_
      refine jq_iload_n (pc := 29) hF 2 dT_lookAtRole_29 rfl ?_
      refine jq_aload_n (pc := 30) hF 1 dT_lookAtRole_30 rfl ?_
      refine Cg_T_69 (pc := 31) hF dT_lookAtRole_31 ?_
      refine Cs_26 (pc := 34) hF (by omega) dT_lookAtRole_34 ?_
      refine jq_aload_n (pc := 35) hF 1 dT_lookAtRole_35 rfl ?_
      refine Cg_T_34 (pc := 36) hF dT_lookAtRole_36 ?_
      refine jq_iload_n (pc := 39) hF 2 dT_lookAtRole_39 rfl ?_
      refine jq_iload_n (pc := 40) hF 0 dT_lookAtRole_40 rfl ?_
      refine Cs_25 (pc := 41) hF (by omega) dT_lookAtRole_41 ?_
      exact jq_at (hk 42 _ dT_lookAtRole_42) (congrArg (wC a cI cZ) (by simp [cLook, h10, h22])) rfl rfl rfl
set_option maxHeartbeats 4000000 in
set_option maxRecDepth 100000 in
theorem mT_stateNow (l : Launch) (D : va_G) (a : Nat → Nat) (cI cZ : ClassId) (σ : jS) (p : Nat) (hp : p < 24) : jI l yT_stateNow w_T_stateNow (rmD 1) D (jTys cI cZ) [.ref (a 3), .int (nI p)] (wC a cI cZ σ) (wC a cI cZ (σ)) (cState σ p) := by
  refine jI_of (ws' := jG) rfl (by decide) rfl (Nat.le_of_ble_eq_true rfl) ?_
  intro X hF hk
  show jJ l D (rmD 1) 3 X (wC a cI cZ σ) 0 [(0, .ref (a 3)), (1, .int (nI p))] []
  refine jq_aload_n (pc := 0) hF 0 dT_stateNow_0 rfl ?_
  refine Cg_T_34 (pc := 1) hF dT_stateNow_1 ?_
  refine jq_iload_n (pc := 4) hF 1 dT_stateNow_4 rfl ?_
  refine Cl_25 (pc := 5) hF (by omega) dT_stateNow_5 ?_
  refine jq_cSI (pc := 6) hF (As := [.int (σ 25 (p))]) (rest := []) (mT_isActive l D a cI cZ σ (σ 25 (p)) ) (jG_st mL_T_146 mT_T_isActive mZ_T mC_T_isActive) rfl rfl rfl dd_T_isActive ⟨Nat.le_of_ble_eq_true rfl, Nat.le_of_ble_eq_true rfl⟩ rfl rfl (Nat.le_of_ble_eq_true rfl) dT_stateNow_6 ?_
  refine jq_if_neB (pc := 9) hF 14 dT_stateNow_9 rfl (fun h9 => ?_) (fun h9 => ?_)
  · refine jq_aload_n (pc := 14) hF 0 dT_stateNow_14 rfl ?_
    refine Cg_T_69 (pc := 15) hF dT_stateNow_15 ?_
    refine jq_aload_n (pc := 18) hF 0 dT_stateNow_18 rfl ?_
    refine Cg_T_37 (pc := 19) hF dT_stateNow_19 ?_
    refine jq_iload_n (pc := 22) hF 1 dT_stateNow_22 rfl ?_
    refine Cl_26 (pc := 23) hF (by omega) dT_stateNow_23 ?_
    refine jq_isub (pc := 24) hF dT_stateNow_24 ?_
    refine jq_istore_n (pc := 25) hF [(2, .int ((σ 3 2) - (σ 26 (p)))), (0, .ref (a 3)), (1, .int (nI p))] dT_stateNow_25 (Nat.le_of_ble_eq_true rfl) rfl ?_
    refine jq_iload_n (pc := 26) hF 0 dT_stateNow_26 rfl ?_
    refine jq_aload_n (pc := 27) hF 1 dT_stateNow_27 rfl ?_
    refine Cg_T_60 (pc := 28) hF dT_stateNow_28 ?_
    refine jq_icmp_ge (pc := 31) hF 36 dT_stateNow_31 rfl (fun h31 => ?_) (fun h31 => ?_)
    · refine jq_iload_n (pc := 36) hF 0 dT_stateNow_36 rfl ?_
      refine jq_iconst (pc := 37) hF dT_stateNow_37 ic_2 ?_
      refine jq_aload_n (pc := 38) hF 1 dT_stateNow_38 rfl ?_
      refine Cg_T_60 (pc := 39) hF dT_stateNow_39 ?_
      refine jq_imul (pc := 42) hF dT_stateNow_42 ?_
      refine jq_icmp_ge (pc := 43) hF 50 dT_stateNow_43 rfl (fun h43 => ?_) (fun h43 => ?_)
      · refine jq_iconst (pc := 50) hF dT_stateNow_50 ic_3 ?_
        exact jq_at (hk 51 _ dT_stateNow_51) rfl rfl rfl (congrArg (fun z => [Value.int z]) (by simp [cState, h9, h31, h43]))
      · refine jq_iconst (pc := 46) hF dT_stateNow_46 ic_2 ?_
        refine jq_goto (pc := 47) hF 51 dT_stateNow_47 rfl ?_
        exact jq_at (hk 51 _ dT_stateNow_51) rfl rfl rfl (congrArg (fun z => [Value.int z]) (by simp [cState, h9, h31, h43]))
    · refine jq_iconst (pc := 34) hF dT_stateNow_34 ic_1 ?_
      exact jq_at (hk 35 _ dT_stateNow_35) rfl rfl rfl (congrArg (fun z => [Value.int z]) (by simp [cState, h9, h31]))
  · refine jq_iconst (pc := 12) hF dT_stateNow_12 ic_0 ?_
    exact jq_at (hk 13 _ dT_stateNow_13) rfl rfl rfl (congrArg (fun z => [Value.int z]) (by simp [cState, h9]))
set_option maxHeartbeats 4000000 in
set_option maxRecDepth 100000 in
theorem mT_bestOffer (l : Launch) (D : va_G) (a : Nat → Nat) (cI cZ : ClassId) (σ : jS) (b : Nat) (hb : b < 6) (hI : cInv σ) : jI l yT_bestOffer w_T_bestOffer (rmD 2) D (jTys cI cZ) [.ref (a 3), .int (nI b)] (wC a cI cZ σ) (wC a cI cZ (σ)) (cBest σ b) := by
  refine jI_of (ws' := jG) rfl (by decide) rfl (Nat.le_of_ble_eq_true rfl) ?_
  intro X hF hk
  show jJ l D (rmD 2) 4 X (wC a cI cZ σ) 0 [(0, .ref (a 3)), (1, .int (nI b))] []
  refine jq_iconst (pc := 0) hF dT_bestOffer_0 ic_m1 ?_
  refine jq_istore_n (pc := 1) hF [(2, .int (-1)), (0, .ref (a 3)), (1, .int (nI b))] dT_bestOffer_1 (Nat.le_of_ble_eq_true rfl) rfl ?_
  refine jq_iconst (pc := 2) hF dT_bestOffer_2 ic_4 ?_
  refine jq_iload_n (pc := 3) hF 2 dT_bestOffer_3 rfl ?_
  refine jq_imulN (pc := 4) hF dT_bestOffer_4 ?_
  refine jq_istore_n (pc := 5) hF [(3, .int (nI (4 * b))), (2, .int (-1)), (0, .ref (a 3)), (1, .int (nI b))] dT_bestOffer_5 (Nat.le_of_ble_eq_true rfl) rfl ?_
  have lp6 : ∀ i, i ≤ 4 → jJ l D (rmD 2) 4 X (wC a cI cZ (σ)) 6 [(3, .int (nI (4 * b + i))), (2, .int (cBestN σ b i)), (0, .ref (a 3)), (1, .int (nI b))] [] := by
    refine loop_up (fun i hi ih => ?_)
    refine jq_iload_n (pc := 6) hF 0 dT_bestOffer_6 rfl ?_
    refine jq_iconst (pc := 7) hF dT_bestOffer_7 ic_4 ?_
    refine jq_iload_n (pc := 8) hF 3 dT_bestOffer_8 rfl ?_
    refine jq_imulN (pc := 9) hF dT_bestOffer_9 ?_
    refine jq_iconst (pc := 10) hF dT_bestOffer_10 ic_4 ?_
    refine jq_iaddN (pc := 11) hF dT_bestOffer_11 ?_
    refine jq_icmp_geN (pc := 12) hF 50 (by omega) (by omega) dT_bestOffer_12 rfl (fun h12 => ?_) (fun h12 => ?_)
    · obtain rfl : i = 4 := by omega
      refine jq_iload_n (pc := 50) hF 1 dT_bestOffer_50 rfl ?_
      exact jq_at (hk 51 _ dT_bestOffer_51) rfl rfl rfl (congrArg (fun z => [Value.int z]) (by rfl))
    · refine jq_aload_n (pc := 15) hF 2 dT_bestOffer_15 rfl ?_
      refine jq_iload_n (pc := 16) hF 0 dT_bestOffer_16 rfl ?_
      refine jq_cVI (pc := 17) hF (As := [.int (nI (4 * b + i))]) (rest := []) (mT_isOffering l D a cI cZ (σ) (4 * b + i) (by omega) hI) (jG_v mL_T_116 mI_T_isOffering mS_T_isOffering mZ_T mC_T_isOffering) rfl rfl rfl dd_T_isOffering ⟨Nat.le_of_ble_eq_true rfl, Nat.le_of_ble_eq_true rfl⟩ 3 rfl rfl rfl rfl (Nat.le_of_ble_eq_true rfl) dT_bestOffer_17 ?_
      refine jq_if_eqB (pc := 20) hF 44 dT_bestOffer_20 rfl (fun h20 => ?_) (fun h20 => ?_)
      · refine jq_iincN (pc := 44) hF 0 [(3, .int (nI (4 * b + i + 1))), (2, .int (cBestN σ b i)), (0, .ref (a 3)), (1, .int (nI b))] dT_bestOffer_44 rfl (Nat.le_of_ble_eq_true rfl) rfl ?_
        refine jq_goto (pc := 47) hF 6 dT_bestOffer_47 rfl ?_
        refine jq_sub [(3, .int (nI (4 * b + i + 1))), (2, .int (cBestN σ b i)), (0, .ref (a 3)), (1, .int (nI b))] [0, 1, 2, 3] rfl ?_
        exact jq_at (ih (by omega)) rfl rfl (by simp [cBestN, h12, h20, Nat.add_assoc]) rfl
      · refine jq_iload_n (pc := 23) hF 1 dT_bestOffer_23 rfl ?_
        refine jq_iconst (pc := 24) hF dT_bestOffer_24 ic_m1 ?_
        refine jq_icmp_eq (pc := 25) hF 42 dT_bestOffer_25 rfl (fun h25 => ?_) (fun h25 => ?_)
        · refine jq_iload_n (pc := 42) hF 0 dT_bestOffer_42 rfl ?_
          refine jq_istore_n (pc := 43) hF [(2, .int (nI (4 * b + i))), (3, .int (nI (4 * b + i))), (0, .ref (a 3)), (1, .int (nI b))] dT_bestOffer_43 (Nat.le_of_ble_eq_true rfl) rfl ?_
          refine jq_iincN (pc := 44) hF 1 [(3, .int (nI (4 * b + i + 1))), (2, .int (nI (4 * b + i))), (0, .ref (a 3)), (1, .int (nI b))] dT_bestOffer_44 rfl (Nat.le_of_ble_eq_true rfl) rfl ?_
          refine jq_goto (pc := 47) hF 6 dT_bestOffer_47 rfl ?_
          refine jq_sub [(3, .int (nI (4 * b + i + 1))), (2, .int (nI (4 * b + i))), (0, .ref (a 3)), (1, .int (nI b))] [0, 1, 2, 3] rfl ?_
          exact jq_at (ih (by omega)) rfl rfl (by simp [cBestN, h12, h20, h25, Nat.add_assoc]) rfl
        · refine jq_aload_n (pc := 28) hF 2 dT_bestOffer_28 rfl ?_
          refine jq_iload_n (pc := 29) hF 0 dT_bestOffer_29 rfl ?_
          refine jq_cVL (pc := 30) hF (As := [.int (nI (4 * b + i))]) (rest := []) (mT_offerRank l D a cI cZ (σ) (4 * b + i) (by omega) hI) (jG_v mL_T_120 mI_T_offerRank mS_T_offerRank mZ_T mC_T_offerRank) rfl rfl rfl dd_T_offerRank ⟨Nat.le_of_ble_eq_true rfl, Nat.le_of_ble_eq_true rfl⟩ 3 rfl rfl rfl rfl (Nat.le_of_ble_eq_true rfl) dT_bestOffer_30 ?_
          refine jq_aload_n (pc := 33) hF 2 dT_bestOffer_33 rfl ?_
          refine jq_iload_n (pc := 34) hF 1 dT_bestOffer_34 rfl ?_
          refine jq_top (nI ((cBestN σ b i).toNatClampNeg)) (((cBestN_ok σ b i hb hi).cl h25 (by decide)).2) ?_
          refine jq_cVL (pc := 35) hF (As := [.int (nI ((cBestN σ b i).toNatClampNeg))]) (rest := [.long (cOffRank (σ) (4 * b + i))]) (mT_offerRank l D a cI cZ (σ) ((cBestN σ b i).toNatClampNeg) ((cBestN_ok σ b i hb hi).cl h25 (by decide)).1 hI) (jG_v mL_T_120 mI_T_offerRank mS_T_offerRank mZ_T mC_T_offerRank) rfl rfl rfl dd_T_offerRank ⟨Nat.le_of_ble_eq_true rfl, Nat.le_of_ble_eq_true rfl⟩ 3 rfl rfl rfl rfl (Nat.le_of_ble_eq_true rfl) dT_bestOffer_35 ?_
          refine jq_lcmp (pc := 38) hF dT_bestOffer_38 ?_
          refine jq_if_geL (pc := 39) hF 44 dT_bestOffer_39 rfl (fun h39 => ?_) (fun h39 => ?_)
          · refine jq_iincN (pc := 44) hF 0 [(3, .int (nI (4 * b + i + 1))), (2, .int (cBestN σ b i)), (0, .ref (a 3)), (1, .int (nI b))] dT_bestOffer_44 rfl (Nat.le_of_ble_eq_true rfl) rfl ?_
            refine jq_goto (pc := 47) hF 6 dT_bestOffer_47 rfl ?_
            refine jq_sub [(3, .int (nI (4 * b + i + 1))), (2, .int (cBestN σ b i)), (0, .ref (a 3)), (1, .int (nI b))] [0, 1, 2, 3] rfl ?_
            exact jq_at (ih (by omega)) rfl rfl (by simp [cBestN, h12, h20, h25, h39, Nat.add_assoc]) rfl
          · refine jq_iload_n (pc := 42) hF 0 dT_bestOffer_42 rfl ?_
            refine jq_istore_n (pc := 43) hF [(2, .int (nI (4 * b + i))), (3, .int (nI (4 * b + i))), (0, .ref (a 3)), (1, .int (nI b))] dT_bestOffer_43 (Nat.le_of_ble_eq_true rfl) rfl ?_
            refine jq_iincN (pc := 44) hF 1 [(3, .int (nI (4 * b + i + 1))), (2, .int (nI (4 * b + i))), (0, .ref (a 3)), (1, .int (nI b))] dT_bestOffer_44 rfl (Nat.le_of_ble_eq_true rfl) rfl ?_
            refine jq_goto (pc := 47) hF 6 dT_bestOffer_47 rfl ?_
            refine jq_sub [(3, .int (nI (4 * b + i + 1))), (2, .int (nI (4 * b + i))), (0, .ref (a 3)), (1, .int (nI b))] [0, 1, 2, 3] rfl ?_
            exact jq_at (ih (by omega)) rfl rfl (by simp [cBestN, h12, h20, h25, h39, Nat.add_assoc]) rfl
  exact jq_at (lp6 0 (by omega)) rfl rfl rfl rfl
end
section
/-! walks by program (wip/whole/gen/specC3.py) -/
theorem cInv.u {σ : jS} (hI : cInv σ) {k i : Nat} {v : Int32} (hk : ∀ j ∈ [1, 7, 10, 11, 12, 13, 15, 24, 33, 34], j ∉ [k]) : cInv (sU σ k i v) := hI.of_fr (ks := [k]) (fr.rf.u (List.mem_singleton.mpr rfl) i v) hk
theorem cInv.u24 {σ : jS} (hI : cInv σ) {i : Nat} {v : Int32} (hv : okQ 24 v) : cInv (sU σ 24 i v) := by
  have e24 : ∀ j, sU σ 24 i v 24 j = if j = i then v else σ 24 j := fun j => sU_eq σ 24 i v j
  refine ⟨hI.1, hI.2.1, hI.2.2.1, hI.2.2.2.1, hI.2.2.2.2.1, hI.2.2.2.2.2.1, hI.2.2.2.2.2.2.1, hI.2.2.2.2.2.2.2.1, hI.2.2.2.2.2.2.2.2.1, hI.2.2.2.2.2.2.2.2.2.1, fun j hj => ?_, hI.2.2.2.2.2.2.2.2.2.2.2.1, hI.2.2.2.2.2.2.2.2.2.2.2.2⟩
  rw [e24]
  by_cases e : j = i
  · rw [if_pos e]; exact hv
  · rw [if_neg e]; exact hI.rp hj
theorem cAge_inv {σ : jS} (hI : cInv σ) : cInv (cAge σ) := hI.of_fr (fr.n cAge1_fr _ _) (by decide)
theorem cRoots_inv {σ : jS} (hI : cInv σ) : cInv (cRoots σ) := cRootN_inv hI _ (by have := hI.nbl.1; omega)
theorem cPass_inv {σ : jS} (hI : cInv σ) : cInv (cPass σ) := hI.of_fr (cPass_fr σ) (by decide)
theorem cSends_inv {σ : jS} (hI : cInv σ) : cInv (cSends σ) := hI.of_fr (fr.n cSend1_fr _ _) (by decide)
theorem cTake_inv {σ : jS} (hI : cInv σ) : cInv (cTake σ) := hI.of_fr (fr.n cTake1_fr _ _) (by decide)
theorem cSettle_inv {σ : jS} (hI : cInv σ) : cInv (cSettle σ) := (cRoots_inv hI).of_fr (fr.n cSettle1_fr _ _) (by decide)
theorem cTick_inv {σ : jS} (hI : cInv σ) : cInv (cTick σ) := cSettle_inv (cTake_inv (cSends_inv (cPass_inv (cRoots_inv (cAge_inv (hI.u (by decide)))))))
theorem cOld_inv {σ : jS} (hI : cInv σ) : cInv (cOld σ) := hI.of_fr (fr.n cOld1_fr _ _) (by decide)
theorem forN_s (f : Nat → jS → jS) (σ : jS) (n : Nat) : forN f σ (n + 1) = f n (forN f σ n) := rfl
theorem cTick1_e (σ : jS) : cTick1 σ = cOld (cTick σ) := by unfold cTick1; with_reducible rfl
theorem cTicks_s (σ : jS) (n : Nat) : cTicks σ (n + 1) = cOld (cTick (cTicks σ n)) := by
  unfold cTicks
  rw [forN_s]
  exact cTick1_e _
theorem cTicks_inv {σ : jS} (hI : cInv σ) : ∀ n, cInv (cTicks σ n) := by
  intro n
  induction n with
  | zero => exact hI
  | succ n ih => rw [cTicks_s]; exact cOld_inv (cTick_inv ih)
theorem cWhole_ne {σ : jS} {p : Nat} (h : cWhole σ p = true) : ¬ σ 12 p = -1 := by
  intro e
  simp [cWhole, e] at h
theorem inDiv4 {x : Int32} (h : okP 24 x) : vp_in (x / nI 4) 6 := by
  obtain ⟨k, hk, rfl⟩ := h
  rw [pk_div (by omega) (by decide) (by decide)]
  exact vp_in_nI (by omega) (by decide)
theorem cWithin_le {x : Int32} {m : Nat} (hm : m < 2 ^ 31) (h : cWithin x (nI 0) (nI m) = true) : ∃ k, k ≤ m ∧ x = nI k := by
  simp only [cWithin, Bool.and_eq_true, decide_eq_true_eq] at h
  obtain ⟨h0, h1⟩ := h
  obtain ⟨k, hk, rfl⟩ := nI_of (x := x) (by rw [nI_0] at h0; exact Int32.not_lt.mpr h0)
  exact ⟨k, (nI_leI hk hm).mp h1, rfl⟩
section CX
variable {l : Launch} {D : va_G} {R : Room} {nL : Nat} {X : jX} {cc : ByteArray} {own : String} {cw : Cond} {cI cZ : ClassId} {ret : Option FieldType} {a : Nat → Nat} {σ : jS} {pc : Nat} {L : List (Nat × Value)} {st : List Value}
theorem Cz_30 (hF : jF D R nL X cc own (cw :: jG) (jTys cI cZ) ret) {i : Nat} {x : Int32} (hi : i < 6) (hd : decode cc pc = .ok (.bastore, 1)) (k : jJ l D R nL X (wC a cI cZ (sU σ 30 i (vp_nar .boolean x))) (pc + 1) L st) : jJ l D R nL X (wC a cI cZ σ) pc L (.int x :: .int (nI i) :: .ref (a 30) :: st) :=
  jq_zastN hF 30 1 _ rfl rfl (by decide) hi rfl hd k
theorem mL_T_162 : Cond.methodLink rT 162 arraycopyName ∈ jG := jG_t2 191 rfl rfl
theorem mT_Y_arraycopy : Cond.static arraycopyName ∈ jG := jG_t2 192 rfl rfl
theorem mV_Y_arraycopy : Cond.native arraycopyName ∈ jG := jG_t2 193 rfl rfl
theorem C_copy (hF : jF D R nL X cc rT (cw :: jG) (jTys cI cZ) ret) {p : Nat} (hp : p < 24) (hR : 1 ≤ R.frames) (hL : (st.map fun v => v.category).sum + (nativeFrameWords "java/lang/System" "arraycopy" 5 + 11) ≤ R.locals) (hd : decode cc pc = .ok (.invokestatic 162, 3)) (k : jJ l D R nL X (wC a cI cZ (sF σ 18 (va_cpy (σ 20) (σ 18) (6 * p) (6 * p) 6))) (pc + 3) L st) : jJ l D R nL X (wC a cI cZ σ) pc L (.int (nI 6) :: .int (nI (6 * p)) :: .ref (a 18) :: .int (nI (6 * p)) :: .ref (a 20) :: st) := by
  intro H locs ls hP hD hS hl
  have e6 : (nI 6).toNatClampNeg = 6 := nI_clamp (by decide)
  have ep : (nI (6 * p)).toNatClampNeg = 6 * p := nI_clamp (by omega)
  refine va_copyi hF.1 hF.2.1 (hF.2.2.1.trans hl.1.symm) hF.2.2.2.1 (hF.2.2.2.2.1 _ (List.mem_cons_of_mem _ mL_T_162)) (hF.2.2.2.2.1 _ (List.mem_cons_of_mem _ mV_Y_arraycopy)) (hF.2.2.2.2.1 _ (List.mem_cons_of_mem _ mT_Y_arraycopy)) (hF.2.2.2.2.1 _ (List.mem_cons_of_mem _ mZ_Y)) hF.2.2.2.2.2.1 hP hD hS 20 18 0 0 (c0 := cI) (c1 := cI) (n0 := 144) (n1 := 144) (f := σ 20) (g := σ 18) (ty := .int) rfl rfl rfl rfl rfl (nI_pos (by omega)) (nI_pos (by omega)) (nI_pos (by decide)) (by rw [e6, ep]; omega) (by rw [e6, ep]; omega) (fun _ _ => rfl) hR hL hd (fun H1 locs1 hP1 hD1 hS1 => ?_)
  rw [e6, ep] at hP1 hD1
  exact k H1 locs1 ls hP1 hD1 hS1 hl
end CX
set_option maxHeartbeats 4000000 in
set_option maxRecDepth 100000 in
theorem mT_ageMessages (l : Launch) (D : va_G) (a : Nat → Nat) (cI cZ : ClassId) (σ : jS)   : jV l yT_ageMessages w_T_ageMessages (rmD 0) D (jTys cI cZ) [.ref (a 3)] (wC a cI cZ σ) (wC a cI cZ (cAge σ)) := by
  refine jV_of (ws' := jG) (by decide) rfl (Nat.le_of_ble_eq_true rfl) ?_
  intro X hF hk
  show jJ l D (rmD 0) 2 X (wC a cI cZ σ) 0 [(0, .ref (a 3))] []
  refine jq_iconst (pc := 0) hF dT_ageMessages_0 ic_0 ?_
  refine jq_istore_n (pc := 1) hF [(1, .int (nI 0)), (0, .ref (a 3))] dT_ageMessages_1 (Nat.le_of_ble_eq_true rfl) rfl ?_
  have lp2 : ∀ i, i ≤ 24 → jJ l D (rmD 0) 2 X (wC a cI cZ (forN cAge1 σ i)) 2 [(1, .int (nI i)), (0, .ref (a 3))] [] := by
    refine loop_up (fun i hi ih => ?_)
    refine jq_iload_n (pc := 2) hF 0 dT_ageMessages_2 rfl ?_
    refine jq_bipush (pc := 3) hF dT_ageMessages_3 bi_24 ?_
    refine jq_icmp_geN (pc := 5) hF 67 (by omega) (by omega) dT_ageMessages_5 rfl (fun h5 => ?_) (fun h5 => ?_)
    · obtain rfl : i = 24 := by omega
      exact jq_at (hk 67 _ dT_ageMessages_67) (congrArg (wC a cI cZ) (by rfl)) rfl rfl rfl
    · refine jq_aload_n (pc := 8) hF 1 dT_ageMessages_8 rfl ?_
      refine Cg_T_15 (pc := 9) hF dT_ageMessages_9 ?_
      refine jq_iload_n (pc := 12) hF 0 dT_ageMessages_12 rfl ?_
      refine Cl_19 (pc := 13) hF (by omega) dT_ageMessages_13 ?_
      refine jq_if_eq (pc := 14) hF 61 dT_ageMessages_14 rfl (fun h14 => ?_) (fun h14 => ?_)
      · refine jq_iincN (pc := 61) hF 0 [(1, .int (nI (i + 1))), (0, .ref (a 3))] dT_ageMessages_61 rfl (Nat.le_of_ble_eq_true rfl) rfl ?_
        refine jq_goto (pc := 64) hF 2 dT_ageMessages_64 rfl ?_
        refine jq_sub [(1, .int (nI (i + 1))), (0, .ref (a 3))] [0, 1] rfl ?_
        exact jq_at (ih (by omega)) (congrArg (wC a cI cZ) (by first | exact if_pos h14 | exact if_neg h14)) rfl rfl rfl
      · refine jq_aload_n (pc := 17) hF 1 dT_ageMessages_17 rfl ?_
        refine Cg_T_11 (pc := 18) hF dT_ageMessages_18 ?_
        refine jq_bipush (pc := 21) hF dT_ageMessages_21 bi_6 ?_
        refine jq_iload_n (pc := 23) hF 0 dT_ageMessages_23 rfl ?_
        refine jq_imulN (pc := 24) hF dT_ageMessages_24 ?_
        refine jq_iconst (pc := 25) hF dT_ageMessages_25 ic_4 ?_
        refine jq_iaddN (pc := 26) hF dT_ageMessages_26 ?_
        refine jq_dup2 (pc := 27) hF dT_ageMessages_27 rfl rfl ?_
        refine Cl_18 (pc := 28) hF (by omega) dT_ageMessages_28 ?_
        refine jq_iconst (pc := 29) hF dT_ageMessages_29 ic_1 ?_
        refine jq_iadd (pc := 30) hF dT_ageMessages_30 ?_
        refine Cs_18 (pc := 31) hF (by omega) dT_ageMessages_31 ?_
        refine jq_aload_n (pc := 32) hF 1 dT_ageMessages_32 rfl ?_
        refine Cg_T_15 (pc := 33) hF dT_ageMessages_33 ?_
        refine jq_iload_n (pc := 36) hF 0 dT_ageMessages_36 rfl ?_
        refine jq_aload_n (pc := 37) hF 1 dT_ageMessages_37 rfl ?_
        refine Cg_T_11 (pc := 38) hF dT_ageMessages_38 ?_
        refine jq_bipush (pc := 41) hF dT_ageMessages_41 bi_6 ?_
        refine jq_iload_n (pc := 43) hF 0 dT_ageMessages_43 rfl ?_
        refine jq_imulN (pc := 44) hF dT_ageMessages_44 ?_
        refine jq_iconst (pc := 45) hF dT_ageMessages_45 ic_4 ?_
        refine jq_iaddN (pc := 46) hF dT_ageMessages_46 ?_
        refine Cl_18 (pc := 47) hF (by omega) dT_ageMessages_47 ?_
        refine jq_aload_n (pc := 48) hF 1 dT_ageMessages_48 rfl ?_
        refine Cg_T_56 (pc := 49) hF dT_ageMessages_49 ?_
        have j60 : jJ l D (rmD 0) 2 X (wC a cI cZ (sU (forN cAge1 σ i) 18 (6 * i + 4) (((forN cAge1 σ i) 18 (6 * i + 4)) + (nI (1))))) 60 [(1, .int (nI i)), (0, .ref (a 3))] [.int (bI (!decide ((sU (forN cAge1 σ i) 18 (6 * i + 4) (((forN cAge1 σ i) 18 (6 * i + 4)) + (nI (1)))) 3 0 ≤ (sU (forN cAge1 σ i) 18 (6 * i + 4) (((forN cAge1 σ i) 18 (6 * i + 4)) + (nI (1)))) 18 (6 * i + 4)))), .int (nI i), .ref (a 19)] := by
          refine Cs_19 (pc := 60) hF (by omega) (bI_nar _) dT_ageMessages_60 ?_
          refine jq_iincN (pc := 61) hF 0 [(1, .int (nI (i + 1))), (0, .ref (a 3))] dT_ageMessages_61 rfl (Nat.le_of_ble_eq_true rfl) rfl ?_
          refine jq_goto (pc := 64) hF 2 dT_ageMessages_64 rfl ?_
          refine jq_sub [(1, .int (nI (i + 1))), (0, .ref (a 3))] [0, 1] rfl ?_
          exact jq_at (ih (by omega)) (congrArg (wC a cI cZ) (by first | exact if_pos h14 | exact if_neg h14)) rfl rfl rfl
        refine jq_icmp_ge (pc := 52) hF 59 dT_ageMessages_52 rfl (fun h52 => ?_) (fun h52 => ?_)
        · refine jq_iconst (pc := 59) hF dT_ageMessages_59 ic_0 ?_
          exact jq_at j60 rfl rfl rfl (by rw [decide_eq_true h52]; rfl)
        · refine jq_iconst (pc := 55) hF dT_ageMessages_55 ic_1 ?_
          refine jq_goto (pc := 56) hF 60 dT_ageMessages_56 rfl ?_
          exact jq_at j60 rfl rfl rfl (by rw [decide_eq_false h52]; rfl)
  exact jq_at (lp2 0 (by omega)) rfl rfl rfl rfl
set_option maxHeartbeats 4000000 in
set_option maxRecDepth 100000 in
theorem mT_chooseRoots (l : Launch) (D : va_G) (a : Nat → Nat) (cI cZ : ClassId) (σ : jS)  (hI : cInv σ) : jV l yT_chooseRoots w_T_chooseRoots (rmD 3) D (jTys cI cZ) [.ref (a 3)] (wC a cI cZ σ) (wC a cI cZ (cRoots σ)) := by
  refine jV_of (ws' := jG) (by decide) rfl (Nat.le_of_ble_eq_true rfl) ?_
  intro X hF hk
  show jJ l D (rmD 3) 3 X (wC a cI cZ σ) 0 [(0, .ref (a 3))] []
  refine jq_iconst (pc := 0) hF dT_chooseRoots_0 ic_0 ?_
  refine jq_istore_n (pc := 1) hF [(1, .int (nI 0)), (0, .ref (a 3))] dT_chooseRoots_1 (Nat.le_of_ble_eq_true rfl) rfl ?_
  have hnb := hI.nbl.1
  have lp2 : ∀ i, i ≤ cNb σ → jJ l D (rmD 3) 3 X (wC a cI cZ (forN cRoot1 σ i)) 2 [(1, .int (nI i)), (0, .ref (a 3))] [] := by
    refine loop_up (fun i hi ih => ?_)
    have hIi := cRootN_inv hI i (by omega)
    refine jq_iload_n (pc := 2) hF 0 dT_chooseRoots_2 rfl ?_
    refine jq_aload_n (pc := 3) hF 1 dT_chooseRoots_3 rfl ?_
    refine Cg_T_52 (pc := 4) hF dT_chooseRoots_4 ?_
    refine Cg_T_90 (pc := 7) hF dT_chooseRoots_7 ?_
    refine jq_top (nI (cNb σ)) ((by rw [(fr.n cRoot1_fr σ i) 1 (by decide)]; exact hI.nbl.2)) ?_
    refine jq_icmp_geN (pc := 10) hF 86 (by omega) (by omega) dT_chooseRoots_10 rfl (fun h10 => ?_) (fun h10 => ?_)
    · obtain rfl : i = cNb σ := by omega
      exact jq_at (hk 86 _ dT_chooseRoots_86) (congrArg (wC a cI cZ) (by rfl)) rfl rfl rfl
    · refine jq_aload_n (pc := 13) hF 1 dT_chooseRoots_13 rfl ?_
      refine jq_iload_n (pc := 14) hF 0 dT_chooseRoots_14 rfl ?_
      refine jq_cVI (pc := 15) hF (As := [.int (nI i)]) (rest := []) (mT_bestOffer l D a cI cZ (forN cRoot1 σ i) (i) (by omega) hIi) (jG_v mL_T_107 mI_T_bestOffer mS_T_bestOffer mZ_T mC_T_bestOffer) rfl rfl rfl dd_T_bestOffer ⟨Nat.le_of_ble_eq_true rfl, Nat.le_of_ble_eq_true rfl⟩ 3 rfl rfl rfl rfl (Nat.le_of_ble_eq_true rfl) dT_chooseRoots_15 ?_
      refine jq_istore_n (pc := 18) hF [(2, .int (cBest (forN cRoot1 σ i) (i))), (1, .int (nI i)), (0, .ref (a 3))] dT_chooseRoots_18 (Nat.le_of_ble_eq_true rfl) rfl ?_
      refine jq_aload_n (pc := 19) hF 2 dT_chooseRoots_19 rfl ?_
      refine Cg_T_31 (pc := 20) hF dT_chooseRoots_20 ?_
      refine jq_iload_n (pc := 23) hF 1 dT_chooseRoots_23 rfl ?_
      refine jq_iload_n (pc := 24) hF 0 dT_chooseRoots_24 rfl ?_
      refine Cs_24 (pc := 25) hF (by omega) dT_chooseRoots_25 ?_
      refine jq_aload_n (pc := 26) hF 2 dT_chooseRoots_26 rfl ?_
      refine Cg_T_25 (pc := 27) hF dT_chooseRoots_27 ?_
      refine jq_iload_n (pc := 30) hF 1 dT_chooseRoots_30 rfl ?_
      refine jq_iload_n (pc := 31) hF 0 dT_chooseRoots_31 rfl ?_
      refine jq_iconst (pc := 32) hF dT_chooseRoots_32 ic_m1 ?_
      have j59 : jJ l D (rmD 3) 3 X (wC a cI cZ (sU (forN cRoot1 σ i) 24 (i) (cBest (forN cRoot1 σ i) (i)))) 59 [(2, .int (cBest (forN cRoot1 σ i) (i))), (1, .int (nI i)), (0, .ref (a 3))] [.int (if ¬ (cBest (forN cRoot1 σ i) (i) = -1) then (sU (forN cRoot1 σ i) 24 (i) (cBest (forN cRoot1 σ i) (i))) 18 (((nI (6)) * (cBest (forN cRoot1 σ i) (i))) + (nI (0))).toNatClampNeg else (sU (forN cRoot1 σ i) 24 (i) (cBest (forN cRoot1 σ i) (i))) 6 (i)), .int (nI i), .ref (a 22)] := by
        refine Cs_22 (pc := 59) hF (by omega) dT_chooseRoots_59 ?_
        refine jq_aload_n (pc := 60) hF 2 dT_chooseRoots_60 rfl ?_
        refine Cg_T_28 (pc := 61) hF dT_chooseRoots_61 ?_
        refine jq_iload_n (pc := 64) hF 1 dT_chooseRoots_64 rfl ?_
        refine jq_iload_n (pc := 65) hF 0 dT_chooseRoots_65 rfl ?_
        refine jq_iconst (pc := 66) hF dT_chooseRoots_66 ic_m1 ?_
        have j79 : jJ l D (rmD 3) 3 X (wC a cI cZ (sU (sU (forN cRoot1 σ i) 24 (i) (cBest (forN cRoot1 σ i) (i))) 22 (i) (if ¬ (cBest (forN cRoot1 σ i) (i) = -1) then (sU (forN cRoot1 σ i) 24 (i) (cBest (forN cRoot1 σ i) (i))) 18 (((nI (6)) * (cBest (forN cRoot1 σ i) (i))) + (nI (0))).toNatClampNeg else (sU (forN cRoot1 σ i) 24 (i) (cBest (forN cRoot1 σ i) (i))) 6 (i)))) 79 [(2, .int (cBest (forN cRoot1 σ i) (i))), (1, .int (nI i)), (0, .ref (a 3))] [.int (if ¬ (cBest (forN cRoot1 σ i) (i) = -1) then cOffCost (sU (sU (forN cRoot1 σ i) 24 (i) (cBest (forN cRoot1 σ i) (i))) 22 (i) (if ¬ (cBest (forN cRoot1 σ i) (i) = -1) then (sU (forN cRoot1 σ i) 24 (i) (cBest (forN cRoot1 σ i) (i))) 18 (((nI (6)) * (cBest (forN cRoot1 σ i) (i))) + (nI (0))).toNatClampNeg else (sU (forN cRoot1 σ i) 24 (i) (cBest (forN cRoot1 σ i) (i))) 6 (i))) ((cBest (forN cRoot1 σ i) (i)).toNatClampNeg) else nI (0)), .int (nI i), .ref (a 23)] := by
          refine Cs_23 (pc := 79) hF (by omega) dT_chooseRoots_79 ?_
          refine jq_iincN (pc := 80) hF 1 [(1, .int (nI (i + 1))), (2, .int (cBest (forN cRoot1 σ i) (i))), (0, .ref (a 3))] dT_chooseRoots_80 rfl (Nat.le_of_ble_eq_true rfl) rfl ?_
          refine jq_goto (pc := 83) hF 2 dT_chooseRoots_83 rfl ?_
          refine jq_sub [(1, .int (nI (i + 1))), (0, .ref (a 3))] [0, 2] rfl ?_
          exact jq_at (ih (by omega)) rfl rfl rfl rfl
        refine jq_icmp_ne (pc := 67) hF 74 dT_chooseRoots_67 rfl (fun h67 => ?_) (fun h67 => ?_)
        · refine jq_aload_n (pc := 74) hF 2 dT_chooseRoots_74 rfl ?_
          refine jq_iload_n (pc := 75) hF 0 dT_chooseRoots_75 rfl ?_
          refine jq_top (nI ((cBest (forN cRoot1 σ i) (i)).toNatClampNeg)) (((cBestN_ok _ i 4 (by omega) (Nat.le_refl _)).cl h67 (by decide)).2) ?_
          refine jq_cVI (pc := 76) hF (As := [.int (nI ((cBest (forN cRoot1 σ i) (i)).toNatClampNeg))]) (rest := [.int (nI i), .ref (a 23)]) (mT_offeredCost l D a cI cZ (sU (sU (forN cRoot1 σ i) 24 (i) (cBest (forN cRoot1 σ i) (i))) 22 (i) (if ¬ (cBest (forN cRoot1 σ i) (i) = -1) then (sU (forN cRoot1 σ i) 24 (i) (cBest (forN cRoot1 σ i) (i))) 18 (((nI (6)) * (cBest (forN cRoot1 σ i) (i))) + (nI (0))).toNatClampNeg else (sU (forN cRoot1 σ i) 24 (i) (cBest (forN cRoot1 σ i) (i))) 6 (i))) ((cBest (forN cRoot1 σ i) (i)).toNatClampNeg) ((cBestN_ok _ i 4 (by omega) (Nat.le_refl _)).cl h67 (by decide)).1 ((hIi.u24 (cBestN_ok _ i 4 (by omega) (Nat.le_refl _))).u (by decide))) (jG_v mL_T_113 mI_T_offeredCost mS_T_offeredCost mZ_T mC_T_offeredCost) rfl rfl rfl dd_T_offeredCost ⟨Nat.le_of_ble_eq_true rfl, Nat.le_of_ble_eq_true rfl⟩ 3 rfl rfl rfl rfl (Nat.le_of_ble_eq_true rfl) dT_chooseRoots_76 ?_
          exact jq_at j79 rfl rfl rfl (by rw [if_pos h67])
        · refine jq_iconst (pc := 70) hF dT_chooseRoots_70 ic_0 ?_
          refine jq_goto (pc := 71) hF 79 dT_chooseRoots_71 rfl ?_
          exact jq_at j79 rfl rfl rfl (by rw [if_neg (show ¬ (¬ (cBest (forN cRoot1 σ i) (i) = -1)) by simp [h67])])
      refine jq_icmp_ne (pc := 33) hF 48 dT_chooseRoots_33 rfl (fun h33 => ?_) (fun h33 => ?_)
      · refine jq_aload_n (pc := 48) hF 2 dT_chooseRoots_48 rfl ?_
        refine Cg_T_11 (pc := 49) hF dT_chooseRoots_49 ?_
        refine jq_bipush (pc := 52) hF dT_chooseRoots_52 bi_6 ?_
        refine jq_iload_n (pc := 54) hF 0 dT_chooseRoots_54 rfl ?_
        refine jq_imul (pc := 55) hF dT_chooseRoots_55 ?_
        refine jq_iconst (pc := 56) hF dT_chooseRoots_56 ic_0 ?_
        refine jq_iadd (pc := 57) hF dT_chooseRoots_57 ?_
        refine CL_18 (pc := 58) hF (in6 ((cBestN_ok _ i 4 (by omega) (Nat.le_refl _)).resolve_left h33) (by decide)) dT_chooseRoots_58 ?_
        exact jq_at j59 rfl rfl rfl (by rw [if_pos h33])
      · refine jq_aload_n (pc := 36) hF 2 dT_chooseRoots_36 rfl ?_
        refine Cg_T_52 (pc := 37) hF dT_chooseRoots_37 ?_
        refine Cg_T_110 (pc := 40) hF dT_chooseRoots_40 ?_
        refine jq_iload_n (pc := 43) hF 1 dT_chooseRoots_43 rfl ?_
        refine Cl_6 (pc := 44) hF (by omega) dT_chooseRoots_44 ?_
        refine jq_goto (pc := 45) hF 59 dT_chooseRoots_45 rfl ?_
        exact jq_at j59 rfl rfl rfl (by rw [if_neg (show ¬ (¬ (cBest (forN cRoot1 σ i) (i) = -1)) by simp [h33])])
  exact jq_at (lp2 0 (by omega)) rfl rfl rfl rfl
set_option maxHeartbeats 4000000 in
set_option maxRecDepth 100000 in
theorem mT_settle (l : Launch) (D : va_G) (a : Nat → Nat) (cI cZ : ClassId) (σ : jS)  (hI : cInv σ) : jV l yT_settle w_T_settle (rmD 4) D (jTys cI cZ) [.ref (a 3)] (wC a cI cZ σ) (wC a cI cZ (cSettle σ)) := by
  refine jV_of (ws' := jG) (by decide) rfl (Nat.le_of_ble_eq_true rfl) ?_
  intro X hF hk
  show jJ l D (rmD 4) 4 X (wC a cI cZ σ) 0 [(0, .ref (a 3))] []
  refine jq_aload_n (pc := 0) hF 0 dT_settle_0 rfl ?_
  refine jq_cVV (pc := 1) hF (As := []) (rest := []) (mT_chooseRoots l D a cI cZ σ  hI) (jG_v mL_T_75 mI_T_chooseRoots mS_T_chooseRoots mZ_T mC_T_chooseRoots) rfl rfl rfl dd_T_chooseRoots ⟨Nat.le_of_ble_eq_true rfl, Nat.le_of_ble_eq_true rfl⟩ 3 rfl rfl rfl rfl (Nat.le_of_ble_eq_true rfl) dT_settle_1 ?_
  refine jq_iconst (pc := 4) hF dT_settle_4 ic_4 ?_
  refine jq_aload_n (pc := 5) hF 0 dT_settle_5 rfl ?_
  refine Cg_T_52 (pc := 6) hF dT_settle_6 ?_
  refine Cg_T_90 (pc := 9) hF dT_settle_9 ?_
  refine jq_top (nI (cNb σ)) ((by rw [cRoots_fr σ 1 (by decide)]; exact hI.nbl.2)) ?_
  refine jq_imulN (pc := 12) hF dT_settle_12 ?_
  refine jq_istore_n (pc := 13) hF [(1, .int (nI (4 * (cNb σ)))), (0, .ref (a 3))] dT_settle_13 (Nat.le_of_ble_eq_true rfl) rfl ?_
  refine jq_iconst (pc := 14) hF dT_settle_14 ic_0 ?_
  refine jq_istore_n (pc := 15) hF [(2, .int (nI 0)), (1, .int (nI (4 * (cNb σ)))), (0, .ref (a 3))] dT_settle_15 (Nat.le_of_ble_eq_true rfl) rfl ?_
  have hnb := hI.nbl.1
  have hI1 : ∀ i, cInv (forN cSettle1 (cRoots σ) i) := fun i => (cRootN_inv hI (cNb σ) (by omega)).of_fr (fr.n cSettle1_fr _ i) (by decide)
  have lp16 : ∀ i, i ≤ 4 * cNb σ → jJ l D (rmD 4) 4 X (wC a cI cZ (forN cSettle1 (cRoots σ) i)) 16 [(2, .int (nI i)), (1, .int (nI (4 * (cNb σ)))), (0, .ref (a 3))] [] := by
    refine loop_up (fun i hi ih => ?_)
    refine jq_iload_n (pc := 16) hF 0 dT_settle_16 rfl ?_
    refine jq_iload_n (pc := 17) hF 1 dT_settle_17 rfl ?_
    refine jq_icmp_geN (pc := 18) hF 72 (by omega) (by omega) dT_settle_18 rfl (fun h18 => ?_) (fun h18 => ?_)
    · obtain rfl : i = 4 * cNb σ := by omega
      exact jq_at (hk 72 _ dT_settle_72) (congrArg (wC a cI cZ) (by rfl)) rfl rfl rfl
    · refine jq_aload_n (pc := 21) hF 2 dT_settle_21 rfl ?_
      refine jq_iload_n (pc := 22) hF 0 dT_settle_22 rfl ?_
      refine jq_cVV (pc := 23) hF (As := [.int (nI i)]) (rest := []) (mT_lookAtRole l D a cI cZ (forN cSettle1 (cRoots σ) i) (i) (by omega) (hI1 i)) (jG_v mL_T_95 mI_T_lookAtRole mS_T_lookAtRole mZ_T mC_T_lookAtRole) rfl rfl rfl dd_T_lookAtRole ⟨Nat.le_of_ble_eq_true rfl, Nat.le_of_ble_eq_true rfl⟩ 3 rfl rfl rfl rfl (Nat.le_of_ble_eq_true rfl) dT_settle_23 ?_
      refine jq_aload_n (pc := 26) hF 2 dT_settle_26 rfl ?_
      refine Cg_T_40 (pc := 27) hF dT_settle_27 ?_
      refine jq_iload_n (pc := 30) hF 0 dT_settle_30 rfl ?_
      refine Cl_27 (pc := 31) hF (by omega) dT_settle_31 ?_
      refine jq_istore_n (pc := 32) hF [(3, .int ((cLook (forN cSettle1 (cRoots σ) i) (i)) 27 (i))), (2, .int (nI i)), (1, .int (nI (4 * (cNb σ)))), (0, .ref (a 3))] dT_settle_32 (Nat.le_of_ble_eq_true rfl) rfl ?_
      refine jq_aload_n (pc := 33) hF 3 dT_settle_33 rfl ?_
      refine Cg_T_40 (pc := 34) hF dT_settle_34 ?_
      refine jq_iload_n (pc := 37) hF 1 dT_settle_37 rfl ?_
      refine jq_aload_n (pc := 38) hF 3 dT_settle_38 rfl ?_
      refine jq_iload_n (pc := 39) hF 1 dT_settle_39 rfl ?_
      refine jq_cVI (pc := 40) hF (As := [.int (nI i)]) (rest := [.int (nI i), .ref (a 27)]) (mT_stateNow l D a cI cZ (cLook (forN cSettle1 (cRoots σ) i) (i)) (i) (by omega)) (jG_v mL_T_99 mI_T_stateNow mS_T_stateNow mZ_T mC_T_stateNow) rfl rfl rfl dd_T_stateNow ⟨Nat.le_of_ble_eq_true rfl, Nat.le_of_ble_eq_true rfl⟩ 3 rfl rfl rfl rfl (Nat.le_of_ble_eq_true rfl) dT_settle_40 ?_
      refine Cs_27 (pc := 43) hF (by omega) dT_settle_43 ?_
      refine jq_iload_n (pc := 44) hF 0 dT_settle_44 rfl ?_
      refine jq_aload_n (pc := 45) hF 3 dT_settle_45 rfl ?_
      refine Cg_T_40 (pc := 46) hF dT_settle_46 ?_
      refine jq_iload_n (pc := 49) hF 1 dT_settle_49 rfl ?_
      refine Cl_27 (pc := 50) hF (by omega) dT_settle_50 ?_
      refine jq_cSI (pc := 51) hF (As := [.int ((cLook (forN cSettle1 (cRoots σ) i) (i)) 27 (i)), .int ((sU (cLook (forN cSettle1 (cRoots σ) i) (i)) 27 (i) (cState (cLook (forN cSettle1 (cRoots σ) i) (i)) (i))) 27 (i))]) (rest := []) (mT_isWorthNotice l D a cI cZ (sU (cLook (forN cSettle1 (cRoots σ) i) (i)) 27 (i) (cState (cLook (forN cSettle1 (cRoots σ) i) (i)) (i))) ((cLook (forN cSettle1 (cRoots σ) i) (i)) 27 (i)) ((sU (cLook (forN cSettle1 (cRoots σ) i) (i)) 27 (i) (cState (cLook (forN cSettle1 (cRoots σ) i) (i)) (i))) 27 (i)) ) (jG_st mL_T_103 mT_T_isWorthNotice mZ_T mC_T_isWorthNotice) rfl rfl rfl dd_T_isWorthNotice ⟨Nat.le_of_ble_eq_true rfl, Nat.le_of_ble_eq_true rfl⟩ rfl rfl (Nat.le_of_ble_eq_true rfl) dT_settle_51 ?_
      refine jq_if_eqB (pc := 54) hF 66 dT_settle_54 rfl (fun h54 => ?_) (fun h54 => ?_)
      · refine jq_iincN (pc := 66) hF 1 [(2, .int (nI (i + 1))), (3, .int ((cLook (forN cSettle1 (cRoots σ) i) (i)) 27 (i))), (1, .int (nI (4 * (cNb σ)))), (0, .ref (a 3))] dT_settle_66 rfl (Nat.le_of_ble_eq_true rfl) rfl ?_
        refine jq_goto (pc := 69) hF 16 dT_settle_69 rfl ?_
        refine jq_sub [(2, .int (nI (i + 1))), (1, .int (nI (4 * (cNb σ)))), (0, .ref (a 3))] [0, 2, 3] rfl ?_
        exact jq_at (ih (by omega)) (congrArg (wC a cI cZ) (by first | exact if_pos h54 | exact if_neg (by rw [h54]; decide))) rfl rfl rfl
      · refine jq_aload_n (pc := 57) hF 3 dT_settle_57 rfl ?_
        refine Cg_T_46 (pc := 58) hF dT_settle_58 ?_
        refine jq_iload_n (pc := 61) hF 1 dT_settle_61 rfl ?_
        refine jq_iconst (pc := 62) hF dT_settle_62 ic_4 ?_
        refine jq_idivN (pc := 63) hF (by omega) (by decide) (by decide) dT_settle_63 ?_
        refine jq_iconst (pc := 64) hF dT_settle_64 ic_1 ?_
        refine Cs_29 (pc := 65) hF (by omega) rfl dT_settle_65 ?_
        refine jq_iincN (pc := 66) hF 1 [(2, .int (nI (i + 1))), (3, .int ((cLook (forN cSettle1 (cRoots σ) i) (i)) 27 (i))), (1, .int (nI (4 * (cNb σ)))), (0, .ref (a 3))] dT_settle_66 rfl (Nat.le_of_ble_eq_true rfl) rfl ?_
        refine jq_goto (pc := 69) hF 16 dT_settle_69 rfl ?_
        refine jq_sub [(2, .int (nI (i + 1))), (1, .int (nI (4 * (cNb σ)))), (0, .ref (a 3))] [0, 2, 3] rfl ?_
        exact jq_at (ih (by omega)) (congrArg (wC a cI cZ) (by first | exact if_pos h54 | exact if_neg (by rw [h54]; decide))) rfl rfl rfl
  exact jq_at (lp16 0 (by omega)) rfl rfl rfl rfl
set_option maxHeartbeats 4000000 in
set_option maxRecDepth 100000 in
theorem mT_passNoticeOf (l : Launch) (D : va_G) (a : Nat → Nat) (cI cZ : ClassId) (σ : jS) (b : Nat) (hb : b < 6) (hI : cInv σ) : jV l yT_passNoticeOf w_T_passNoticeOf (rmD 0) D (jTys cI cZ) [.ref (a 3), .int (nI b)] (wC a cI cZ σ) (wC a cI cZ (cPassOf σ b)) := by
  refine jV_of (ws' := jG) (by decide) rfl (Nat.le_of_ble_eq_true rfl) ?_
  intro X hF hk
  show jJ l D (rmD 0) 3 X (wC a cI cZ σ) 0 [(0, .ref (a 3)), (1, .int (nI b))] []
  refine jq_aload_n (pc := 0) hF 0 dT_passNoticeOf_0 rfl ?_
  refine Cg_T_31 (pc := 1) hF dT_passNoticeOf_1 ?_
  refine jq_iload_n (pc := 4) hF 1 dT_passNoticeOf_4 rfl ?_
  refine Cl_24 (pc := 5) hF (by omega) dT_passNoticeOf_5 ?_
  refine jq_iconst (pc := 6) hF dT_passNoticeOf_6 ic_m1 ?_
  refine jq_icmp_ne (pc := 7) hF 31 dT_passNoticeOf_7 rfl (fun h7 => ?_) (fun h7 => ?_)
  · refine jq_aload_n (pc := 31) hF 0 dT_passNoticeOf_31 rfl ?_
    refine Cg_T_52 (pc := 32) hF dT_passNoticeOf_32 ?_
    refine Cg_T_152 (pc := 35) hF dT_passNoticeOf_35 ?_
    refine jq_aload_n (pc := 38) hF 0 dT_passNoticeOf_38 rfl ?_
    refine Cg_T_31 (pc := 39) hF dT_passNoticeOf_39 ?_
    refine jq_iload_n (pc := 42) hF 1 dT_passNoticeOf_42 rfl ?_
    refine Cl_24 (pc := 43) hF (by omega) dT_passNoticeOf_43 ?_
    refine CL_13 (pc := 44) hF ((hI.rp hb).inn h7 (by decide)) dT_passNoticeOf_44 ?_
    refine jq_istore_n (pc := 45) hF [(2, .int (σ 13 (σ 24 (b)).toNatClampNeg)), (0, .ref (a 3)), (1, .int (nI b))] dT_passNoticeOf_45 (Nat.le_of_ble_eq_true rfl) rfl ?_
    refine jq_iload_n (pc := 46) hF 0 dT_passNoticeOf_46 rfl ?_
    refine jq_iconst (pc := 47) hF dT_passNoticeOf_47 ic_m1 ?_
    refine jq_icmp_eq (pc := 48) hF 60 dT_passNoticeOf_48 rfl (fun h48 => ?_) (fun h48 => ?_)
    · exact jq_at (hk 60 _ dT_passNoticeOf_60) (congrArg (wC a cI cZ) (by simp [cPassOf, h7, h48])) rfl rfl rfl
    · refine jq_aload_n (pc := 51) hF 1 dT_passNoticeOf_51 rfl ?_
      refine Cg_T_46 (pc := 52) hF dT_passNoticeOf_52 ?_
      refine jq_iload_n (pc := 55) hF 0 dT_passNoticeOf_55 rfl ?_
      refine jq_iconst (pc := 56) hF dT_passNoticeOf_56 ic_4 ?_
      refine jq_idiv (pc := 57) hF dT_passNoticeOf_57 (by decide) ?_
      refine jq_iconst (pc := 58) hF dT_passNoticeOf_58 ic_1 ?_
      refine CS_29 (pc := 59) hF (inDiv4 ((hI.far ((hI.rp hb).cl h7 (by decide)).1).resolve_left h48)) rfl dT_passNoticeOf_59 ?_
      exact jq_at (hk 60 _ dT_passNoticeOf_60) (congrArg (wC a cI cZ) (by simp [cPassOf, h7, h48])) rfl rfl rfl
  · refine jq_aload_n (pc := 10) hF 0 dT_passNoticeOf_10 rfl ?_
    refine Cg_T_43 (pc := 11) hF dT_passNoticeOf_11 ?_
    refine jq_iload_n (pc := 14) hF 1 dT_passNoticeOf_14 rfl ?_
    refine jq_aload_n (pc := 15) hF 0 dT_passNoticeOf_15 rfl ?_
    refine Cg_T_69 (pc := 16) hF dT_passNoticeOf_16 ?_
    refine jq_aload_n (pc := 19) hF 0 dT_passNoticeOf_19 rfl ?_
    refine Cg_T_56 (pc := 20) hF dT_passNoticeOf_20 ?_
    refine jq_iadd (pc := 23) hF dT_passNoticeOf_23 ?_
    refine jq_aload_n (pc := 24) hF 0 dT_passNoticeOf_24 rfl ?_
    refine Cg_T_60 (pc := 25) hF dT_passNoticeOf_25 ?_
    refine jq_iadd (pc := 28) hF dT_passNoticeOf_28 ?_
    refine Cs_28 (pc := 29) hF (by omega) dT_passNoticeOf_29 ?_
    exact jq_at (hk 30 _ dT_passNoticeOf_30) (congrArg (wC a cI cZ) (by simp [cPassOf, h7])) rfl rfl rfl
set_option maxHeartbeats 4000000 in
set_option maxRecDepth 100000 in
theorem mT_passNotices (l : Launch) (D : va_G) (a : Nat → Nat) (cI cZ : ClassId) (σ : jS)  (hI : cInv σ) : jV l yT_passNotices w_T_passNotices (rmD 1) D (jTys cI cZ) [.ref (a 3)] (wC a cI cZ σ) (wC a cI cZ (cPass σ)) := by
  refine jV_of (ws' := jG) (by decide) rfl (Nat.le_of_ble_eq_true rfl) ?_
  intro X hF hk
  show jJ l D (rmD 1) 2 X (wC a cI cZ σ) 0 [(0, .ref (a 3))] []
  refine jq_iconst (pc := 0) hF dT_passNotices_0 ic_0 ?_
  refine jq_istore_n (pc := 1) hF [(1, .int (nI 0)), (0, .ref (a 3))] dT_passNotices_1 (Nat.le_of_ble_eq_true rfl) rfl ?_
  have hnb := hI.nbl.1
  have hI2 : ∀ j, cInv (forN cPassB (forN cPassA σ (cNb σ)) j) := fun j => hI.of_fr ((fr.n cPassA_fr σ _).tr (fr.n cPassB_fr _ j)) (by decide)
  have lp2 : ∀ i, i ≤ cNb σ → jJ l D (rmD 1) 2 X (wC a cI cZ (forN cPassA σ i)) 2 [(1, .int (nI i)), (0, .ref (a 3))] [] := by
    refine loop_up (fun i hi ih => ?_)
    refine jq_iload_n (pc := 2) hF 0 dT_passNotices_2 rfl ?_
    refine jq_aload_n (pc := 3) hF 1 dT_passNotices_3 rfl ?_
    refine Cg_T_52 (pc := 4) hF dT_passNotices_4 ?_
    refine Cg_T_90 (pc := 7) hF dT_passNotices_7 ?_
    refine jq_top (nI (cNb σ)) ((by rw [(fr.n cPassA_fr σ i) 1 (by decide)]; exact hI.nbl.2)) ?_
    refine jq_icmp_geN (pc := 10) hF 38 (by omega) (by omega) dT_passNotices_10 rfl (fun h10 => ?_) (fun h10 => ?_)
    · obtain rfl : i = cNb σ := by omega
      refine jq_iconst (pc := 38) hF dT_passNotices_38 ic_0 ?_
      refine jq_istore_n (pc := 39) hF [(1, .int (nI 0)), (0, .ref (a 3))] dT_passNotices_39 (Nat.le_of_ble_eq_true rfl) rfl ?_
      have lp40 : ∀ j, j ≤ cNb σ → jJ l D (rmD 1) 2 X (wC a cI cZ (forN cPassB (forN cPassA σ (cNb σ)) j)) 40 [(1, .int (nI j)), (0, .ref (a 3))] [] := by
        refine loop_up (fun j hi ih => ?_)
        refine jq_iload_n (pc := 40) hF 0 dT_passNotices_40 rfl ?_
        refine jq_aload_n (pc := 41) hF 1 dT_passNotices_41 rfl ?_
        refine Cg_T_52 (pc := 42) hF dT_passNotices_42 ?_
        refine Cg_T_90 (pc := 45) hF dT_passNotices_45 ?_
        refine jq_top (nI (cNb σ)) ((by rw [((fr.n cPassA_fr σ _).tr (fr.n cPassB_fr _ j)) 1 (by decide)]; exact hI.nbl.2)) ?_
        refine jq_icmp_geN (pc := 48) hF 71 (by omega) (by omega) dT_passNotices_48 rfl (fun h48 => ?_) (fun h48 => ?_)
        · obtain rfl : j = cNb σ := by omega
          exact jq_at (hk 71 _ dT_passNotices_71) (congrArg (wC a cI cZ) (by rfl)) rfl rfl rfl
        · refine jq_aload_n (pc := 51) hF 1 dT_passNotices_51 rfl ?_
          refine Cg_T_49 (pc := 52) hF dT_passNotices_52 ?_
          refine jq_iload_n (pc := 55) hF 0 dT_passNotices_55 rfl ?_
          refine Cl_30 (pc := 56) hF (by omega) dT_passNotices_56 ?_
          refine jq_if_eq (pc := 57) hF 65 dT_passNotices_57 rfl (fun h57 => ?_) (fun h57 => ?_)
          · refine jq_iincN (pc := 65) hF 0 [(1, .int (nI (j + 1))), (0, .ref (a 3))] dT_passNotices_65 rfl (Nat.le_of_ble_eq_true rfl) rfl ?_
            refine jq_goto (pc := 68) hF 40 dT_passNotices_68 rfl ?_
            refine jq_sub [(1, .int (nI (j + 1))), (0, .ref (a 3))] [0, 1] rfl ?_
            exact jq_at (ih (by omega)) (congrArg (wC a cI cZ) (by first | exact if_pos h57 | exact if_neg h57)) rfl rfl rfl
          · refine jq_aload_n (pc := 60) hF 1 dT_passNotices_60 rfl ?_
            refine jq_iload_n (pc := 61) hF 0 dT_passNotices_61 rfl ?_
            refine jq_cVV (pc := 62) hF (As := [.int (nI j)]) (rest := []) (mT_passNoticeOf l D a cI cZ (forN cPassB (forN cPassA σ (cNb σ)) j) (j) (by omega) (hI2 j)) (jG_v mL_T_149 mI_T_passNoticeOf mS_T_passNoticeOf mZ_T mC_T_passNoticeOf) rfl rfl rfl dd_T_passNoticeOf ⟨Nat.le_of_ble_eq_true rfl, Nat.le_of_ble_eq_true rfl⟩ 3 rfl rfl rfl rfl (Nat.le_of_ble_eq_true rfl) dT_passNotices_62 ?_
            refine jq_iincN (pc := 65) hF 0 [(1, .int (nI (j + 1))), (0, .ref (a 3))] dT_passNotices_65 rfl (Nat.le_of_ble_eq_true rfl) rfl ?_
            refine jq_goto (pc := 68) hF 40 dT_passNotices_68 rfl ?_
            refine jq_sub [(1, .int (nI (j + 1))), (0, .ref (a 3))] [0, 1] rfl ?_
            exact jq_at (ih (by omega)) (congrArg (wC a cI cZ) (by first | exact if_pos h57 | exact if_neg h57)) rfl rfl rfl
      exact jq_at (lp40 0 (by omega)) rfl rfl rfl rfl
    · refine jq_aload_n (pc := 13) hF 1 dT_passNotices_13 rfl ?_
      refine Cg_T_49 (pc := 14) hF dT_passNotices_14 ?_
      refine jq_iload_n (pc := 17) hF 0 dT_passNotices_17 rfl ?_
      refine jq_aload_n (pc := 18) hF 1 dT_passNotices_18 rfl ?_
      refine Cg_T_46 (pc := 19) hF dT_passNotices_19 ?_
      refine jq_iload_n (pc := 22) hF 0 dT_passNotices_22 rfl ?_
      refine Cl_29 (pc := 23) hF (by omega) dT_passNotices_23 ?_
      refine Cz_30 (pc := 24) hF (by omega) dT_passNotices_24 ?_
      refine jq_aload_n (pc := 25) hF 1 dT_passNotices_25 rfl ?_
      refine Cg_T_46 (pc := 26) hF dT_passNotices_26 ?_
      refine jq_iload_n (pc := 29) hF 0 dT_passNotices_29 rfl ?_
      refine jq_iconst (pc := 30) hF dT_passNotices_30 ic_0 ?_
      refine Cs_29 (pc := 31) hF (by omega) rfl dT_passNotices_31 ?_
      refine jq_iincN (pc := 32) hF 0 [(1, .int (nI (i + 1))), (0, .ref (a 3))] dT_passNotices_32 rfl (Nat.le_of_ble_eq_true rfl) rfl ?_
      refine jq_goto (pc := 35) hF 2 dT_passNotices_35 rfl ?_
      refine jq_sub [(1, .int (nI (i + 1))), (0, .ref (a 3))] [0, 1] rfl ?_
      exact jq_at (ih (by omega)) rfl rfl rfl rfl
  exact jq_at (lp2 0 (by omega)) rfl rfl rfl rfl
set_option maxHeartbeats 4000000 in
set_option maxRecDepth 100000 in
theorem mT_sendMessage (l : Launch) (D : va_G) (a : Nat → Nat) (cI cZ : ClassId) (σ : jS) (p : Nat) (far : Nat) (hp : p < 24) (hf : far < 24) (hI : cInv σ) : jV l yT_sendMessage w_T_sendMessage (rmD 1) D (jTys cI cZ) [.ref (a 3), .int (nI p), .int (nI far)] (wC a cI cZ σ) (wC a cI cZ (cSend σ p far)) := by
  refine jV_of (ws' := jG) (by decide) rfl (Nat.le_of_ble_eq_true rfl) ?_
  intro X hF hk
  show jJ l D (rmD 1) 6 X (wC a cI cZ σ) 0 [(0, .ref (a 3)), (1, .int (nI p)), (2, .int (nI far))] []
  refine jq_iload_n (pc := 0) hF 1 dT_sendMessage_0 rfl ?_
  refine jq_iconst (pc := 1) hF dT_sendMessage_1 ic_4 ?_
  refine jq_idivN (pc := 2) hF (by omega) (by decide) (by decide) dT_sendMessage_2 ?_
  refine jq_istore_n (pc := 3) hF [(3, .int (nI (p / 4))), (0, .ref (a 3)), (1, .int (nI p)), (2, .int (nI far))] dT_sendMessage_3 (Nat.le_of_ble_eq_true rfl) rfl ?_
  refine jq_bipush (pc := 4) hF dT_sendMessage_4 bi_6 ?_
  refine jq_iload_n (pc := 6) hF 3 dT_sendMessage_6 rfl ?_
  refine jq_imulN (pc := 7) hF dT_sendMessage_7 ?_
  refine jq_istore (pc := 8) hF [(4, .int (nI (6 * far))), (3, .int (nI (p / 4))), (0, .ref (a 3)), (1, .int (nI p)), (2, .int (nI far))] dT_sendMessage_8 (Nat.le_of_ble_eq_true rfl) rfl ?_
  refine jq_aload_n (pc := 10) hF 2 dT_sendMessage_10 rfl ?_
  refine Cg_T_31 (pc := 11) hF dT_sendMessage_11 ?_
  refine jq_iload_n (pc := 14) hF 1 dT_sendMessage_14 rfl ?_
  refine Cl_24 (pc := 15) hF (by omega) dT_sendMessage_15 ?_
  refine jq_istore (pc := 16) hF [(5, .int (σ 24 (p / 4))), (4, .int (nI (6 * far))), (3, .int (nI (p / 4))), (0, .ref (a 3)), (1, .int (nI p)), (2, .int (nI far))] dT_sendMessage_16 (Nat.le_of_ble_eq_true rfl) rfl ?_
  refine jq_aload_n (pc := 18) hF 3 dT_sendMessage_18 rfl ?_
  refine Cg_T_19 (pc := 19) hF dT_sendMessage_19 ?_
  refine jq_iload (pc := 22) hF 1 dT_sendMessage_22 rfl ?_
  refine jq_iconst (pc := 24) hF dT_sendMessage_24 ic_0 ?_
  refine jq_iaddN (pc := 25) hF dT_sendMessage_25 ?_
  refine jq_aload_n (pc := 26) hF 3 dT_sendMessage_26 rfl ?_
  refine Cg_T_25 (pc := 27) hF dT_sendMessage_27 ?_
  refine jq_iload_n (pc := 30) hF 2 dT_sendMessage_30 rfl ?_
  refine Cl_22 (pc := 31) hF (by omega) dT_sendMessage_31 ?_
  refine Cs_20 (pc := 32) hF (by omega) dT_sendMessage_32 ?_
  refine jq_aload_n (pc := 33) hF 3 dT_sendMessage_33 rfl ?_
  refine Cg_T_19 (pc := 34) hF dT_sendMessage_34 ?_
  refine jq_iload (pc := 37) hF 1 dT_sendMessage_37 rfl ?_
  refine jq_iconst (pc := 39) hF dT_sendMessage_39 ic_1 ?_
  refine jq_iaddN (pc := 40) hF dT_sendMessage_40 ?_
  refine jq_aload_n (pc := 41) hF 3 dT_sendMessage_41 rfl ?_
  refine Cg_T_28 (pc := 42) hF dT_sendMessage_42 ?_
  refine jq_iload_n (pc := 45) hF 2 dT_sendMessage_45 rfl ?_
  refine Cl_23 (pc := 46) hF (by omega) dT_sendMessage_46 ?_
  refine Cs_20 (pc := 47) hF (by omega) dT_sendMessage_47 ?_
  refine jq_aload_n (pc := 48) hF 3 dT_sendMessage_48 rfl ?_
  refine Cg_T_19 (pc := 49) hF dT_sendMessage_49 ?_
  refine jq_iload (pc := 52) hF 1 dT_sendMessage_52 rfl ?_
  refine jq_iconst (pc := 54) hF dT_sendMessage_54 ic_2 ?_
  refine jq_iaddN (pc := 55) hF dT_sendMessage_55 ?_
  refine jq_aload_n (pc := 56) hF 3 dT_sendMessage_56 rfl ?_
  refine Cg_T_52 (pc := 57) hF dT_sendMessage_57 ?_
  refine Cg_T_110 (pc := 60) hF dT_sendMessage_60 ?_
  refine jq_iload_n (pc := 63) hF 2 dT_sendMessage_63 rfl ?_
  refine Cl_6 (pc := 64) hF (by omega) dT_sendMessage_64 ?_
  refine Cs_20 (pc := 65) hF (by omega) dT_sendMessage_65 ?_
  refine jq_aload_n (pc := 66) hF 3 dT_sendMessage_66 rfl ?_
  refine Cg_T_19 (pc := 67) hF dT_sendMessage_67 ?_
  refine jq_iload (pc := 70) hF 1 dT_sendMessage_70 rfl ?_
  refine jq_iconst (pc := 72) hF dT_sendMessage_72 ic_3 ?_
  refine jq_iaddN (pc := 73) hF dT_sendMessage_73 ?_
  refine jq_iload_n (pc := 74) hF 4 dT_sendMessage_74 rfl ?_
  refine jq_iconst (pc := 75) hF dT_sendMessage_75 ic_4 ?_
  refine jq_iremN (pc := 76) hF (by omega) (by decide) (by decide) dT_sendMessage_76 ?_
  refine Cs_20 (pc := 77) hF (by omega) dT_sendMessage_77 ?_
  refine jq_aload_n (pc := 78) hF 3 dT_sendMessage_78 rfl ?_
  refine Cg_T_19 (pc := 79) hF dT_sendMessage_79 ?_
  refine jq_iload (pc := 82) hF 1 dT_sendMessage_82 rfl ?_
  refine jq_iconst (pc := 84) hF dT_sendMessage_84 ic_4 ?_
  refine jq_iaddN (pc := 85) hF dT_sendMessage_85 ?_
  refine jq_iload (pc := 86) hF 0 dT_sendMessage_86 rfl ?_
  refine jq_iconst (pc := 88) hF dT_sendMessage_88 ic_m1 ?_
  have j108 : jJ l D (rmD 1) 6 X (wC a cI cZ (sU (sU (sU (sU σ 20 (6 * far + 0) (σ 22 (p / 4))) 20 (6 * far + 1) ((sU σ 20 (6 * far + 0) (σ 22 (p / 4))) 23 (p / 4))) 20 (6 * far + 2) ((sU (sU σ 20 (6 * far + 0) (σ 22 (p / 4))) 20 (6 * far + 1) ((sU σ 20 (6 * far + 0) (σ 22 (p / 4))) 23 (p / 4))) 6 (p / 4))) 20 (6 * far + 3) (nI (p % 4)))) 108 [(5, .int (σ 24 (p / 4))), (4, .int (nI (6 * far))), (3, .int (nI (p / 4))), (0, .ref (a 3)), (1, .int (nI p)), (2, .int (nI far))] [.int (if ¬ (σ 24 (p / 4) = -1) then (sU (sU (sU (sU σ 20 (6 * far + 0) (σ 22 (p / 4))) 20 (6 * far + 1) ((sU σ 20 (6 * far + 0) (σ 22 (p / 4))) 23 (p / 4))) 20 (6 * far + 2) ((sU (sU σ 20 (6 * far + 0) (σ 22 (p / 4))) 20 (6 * far + 1) ((sU σ 20 (6 * far + 0) (σ 22 (p / 4))) 23 (p / 4))) 6 (p / 4))) 20 (6 * far + 3) (nI (p % 4))) 18 (((nI (6)) * (σ 24 (p / 4))) + (nI (4))).toNatClampNeg else nI (0)), .int (nI (6 * far + 4)), .ref (a 20)] := by
    refine Cs_20 (pc := 108) hF (by omega) dT_sendMessage_108 ?_
    refine jq_aload_n (pc := 109) hF 3 dT_sendMessage_109 rfl ?_
    refine Cg_T_19 (pc := 110) hF dT_sendMessage_110 ?_
    refine jq_iload (pc := 113) hF 1 dT_sendMessage_113 rfl ?_
    refine jq_iconst (pc := 115) hF dT_sendMessage_115 ic_5 ?_
    refine jq_iaddN (pc := 116) hF dT_sendMessage_116 ?_
    refine jq_aload_n (pc := 117) hF 3 dT_sendMessage_117 rfl ?_
    refine jq_iload_n (pc := 118) hF 2 dT_sendMessage_118 rfl ?_
    refine jq_cVI (pc := 119) hF (As := [.int (nI (p / 4))]) (rest := [.int (nI (6 * far + 5)), .ref (a 20)]) (mT_isMarked l D a cI cZ (sU (sU (sU (sU (sU σ 20 (6 * far + 0) (σ 22 (p / 4))) 20 (6 * far + 1) ((sU σ 20 (6 * far + 0) (σ 22 (p / 4))) 23 (p / 4))) 20 (6 * far + 2) ((sU (sU σ 20 (6 * far + 0) (σ 22 (p / 4))) 20 (6 * far + 1) ((sU σ 20 (6 * far + 0) (σ 22 (p / 4))) 23 (p / 4))) 6 (p / 4))) 20 (6 * far + 3) (nI (p % 4))) 20 (6 * far + 4) (if ¬ (σ 24 (p / 4) = -1) then (sU (sU (sU (sU σ 20 (6 * far + 0) (σ 22 (p / 4))) 20 (6 * far + 1) ((sU σ 20 (6 * far + 0) (σ 22 (p / 4))) 23 (p / 4))) 20 (6 * far + 2) ((sU (sU σ 20 (6 * far + 0) (σ 22 (p / 4))) 20 (6 * far + 1) ((sU σ 20 (6 * far + 0) (σ 22 (p / 4))) 23 (p / 4))) 6 (p / 4))) 20 (6 * far + 3) (nI (p % 4))) 18 (((nI (6)) * (σ 24 (p / 4))) + (nI (4))).toNatClampNeg else nI (0))) (p / 4) (by omega) (((((hI.u (by decide)).u (by decide)).u (by decide)).u (by decide)).u (by decide))) (jG_v mL_T_159 mI_T_isMarked mS_T_isMarked mZ_T mC_T_isMarked) rfl rfl rfl dd_T_isMarked ⟨Nat.le_of_ble_eq_true rfl, Nat.le_of_ble_eq_true rfl⟩ 3 rfl rfl rfl rfl (Nat.le_of_ble_eq_true rfl) dT_sendMessage_119 ?_
    have j130 : jJ l D (rmD 1) 6 X (wC a cI cZ (sU (sU (sU (sU (sU σ 20 (6 * far + 0) (σ 22 (p / 4))) 20 (6 * far + 1) ((sU σ 20 (6 * far + 0) (σ 22 (p / 4))) 23 (p / 4))) 20 (6 * far + 2) ((sU (sU σ 20 (6 * far + 0) (σ 22 (p / 4))) 20 (6 * far + 1) ((sU σ 20 (6 * far + 0) (σ 22 (p / 4))) 23 (p / 4))) 6 (p / 4))) 20 (6 * far + 3) (nI (p % 4))) 20 (6 * far + 4) (if ¬ (σ 24 (p / 4) = -1) then (sU (sU (sU (sU σ 20 (6 * far + 0) (σ 22 (p / 4))) 20 (6 * far + 1) ((sU σ 20 (6 * far + 0) (σ 22 (p / 4))) 23 (p / 4))) 20 (6 * far + 2) ((sU (sU σ 20 (6 * far + 0) (σ 22 (p / 4))) 20 (6 * far + 1) ((sU σ 20 (6 * far + 0) (σ 22 (p / 4))) 23 (p / 4))) 6 (p / 4))) 20 (6 * far + 3) (nI (p % 4))) 18 (((nI (6)) * (σ 24 (p / 4))) + (nI (4))).toNatClampNeg else nI (0)))) 130 [(5, .int (σ 24 (p / 4))), (4, .int (nI (6 * far))), (3, .int (nI (p / 4))), (0, .ref (a 3)), (1, .int (nI p)), (2, .int (nI far))] [.int (bI ((cMarked (sU (sU (sU (sU (sU σ 20 (6 * far + 0) (σ 22 (p / 4))) 20 (6 * far + 1) ((sU σ 20 (6 * far + 0) (σ 22 (p / 4))) 23 (p / 4))) 20 (6 * far + 2) ((sU (sU σ 20 (6 * far + 0) (σ 22 (p / 4))) 20 (6 * far + 1) ((sU σ 20 (6 * far + 0) (σ 22 (p / 4))) 23 (p / 4))) 6 (p / 4))) 20 (6 * far + 3) (nI (p % 4))) 20 (6 * far + 4) (if ¬ (σ 24 (p / 4) = -1) then (sU (sU (sU (sU σ 20 (6 * far + 0) (σ 22 (p / 4))) 20 (6 * far + 1) ((sU σ 20 (6 * far + 0) (σ 22 (p / 4))) 23 (p / 4))) 20 (6 * far + 2) ((sU (sU σ 20 (6 * far + 0) (σ 22 (p / 4))) 20 (6 * far + 1) ((sU σ 20 (6 * far + 0) (σ 22 (p / 4))) 23 (p / 4))) 6 (p / 4))) 20 (6 * far + 3) (nI (p % 4))) 18 (((nI (6)) * (σ 24 (p / 4))) + (nI (4))).toNatClampNeg else nI (0))) (p / 4)))), .int (nI (6 * far + 5)), .ref (a 20)] := by
      refine Cs_20 (pc := 130) hF (by omega) dT_sendMessage_130 ?_
      refine jq_aload_n (pc := 131) hF 3 dT_sendMessage_131 rfl ?_
      refine Cg_T_22 (pc := 132) hF dT_sendMessage_132 ?_
      refine jq_iload_n (pc := 135) hF 5 dT_sendMessage_135 rfl ?_
      refine jq_iconst (pc := 136) hF dT_sendMessage_136 ic_1 ?_
      refine Cs_21 (pc := 137) hF (by omega) rfl dT_sendMessage_137 ?_
      exact jq_at (hk 138 _ dT_sendMessage_138) (congrArg (wC a cI cZ) (by rfl)) rfl rfl rfl
    refine jq_if_eqB (pc := 122) hF 129 dT_sendMessage_122 rfl (fun h122 => ?_) (fun h122 => ?_)
    · refine jq_iconst (pc := 129) hF dT_sendMessage_129 ic_0 ?_
      exact jq_at j130 rfl rfl rfl (by rw [h122]; rfl)
    · refine jq_iconst (pc := 125) hF dT_sendMessage_125 ic_1 ?_
      refine jq_goto (pc := 126) hF 130 dT_sendMessage_126 rfl ?_
      exact jq_at j130 rfl rfl rfl (by rw [h122]; rfl)
  refine jq_icmp_ne (pc := 89) hF 96 dT_sendMessage_89 rfl (fun h89 => ?_) (fun h89 => ?_)
  · refine jq_aload_n (pc := 96) hF 3 dT_sendMessage_96 rfl ?_
    refine Cg_T_11 (pc := 97) hF dT_sendMessage_97 ?_
    refine jq_bipush (pc := 100) hF dT_sendMessage_100 bi_6 ?_
    refine jq_iload (pc := 102) hF 0 dT_sendMessage_102 rfl ?_
    refine jq_imul (pc := 104) hF dT_sendMessage_104 ?_
    refine jq_iconst (pc := 105) hF dT_sendMessage_105 ic_4 ?_
    refine jq_iadd (pc := 106) hF dT_sendMessage_106 ?_
    refine CL_18 (pc := 107) hF (in6 ((hI.rp (b := p / 4) (by omega)).resolve_left h89) (by decide)) dT_sendMessage_107 ?_
    exact jq_at j108 rfl rfl rfl (by rw [if_pos h89])
  · refine jq_iconst (pc := 92) hF dT_sendMessage_92 ic_0 ?_
    refine jq_goto (pc := 93) hF 108 dT_sendMessage_93 rfl ?_
    exact jq_at j108 rfl rfl rfl (by rw [if_neg (show ¬ (¬ (σ 24 (p / 4) = -1)) by simp [h89])])
set_option maxHeartbeats 4000000 in
set_option maxRecDepth 100000 in
theorem mT_sendMessages (l : Launch) (D : va_G) (a : Nat → Nat) (cI cZ : ClassId) (σ : jS)  (hI : cInv σ) : jV l yT_sendMessages w_T_sendMessages (rmD 3) D (jTys cI cZ) [.ref (a 3)] (wC a cI cZ σ) (wC a cI cZ (cSends σ)) := by
  refine jV_of (ws' := jG) (by decide) rfl (Nat.le_of_ble_eq_true rfl) ?_
  intro X hF hk
  show jJ l D (rmD 3) 3 X (wC a cI cZ σ) 0 [(0, .ref (a 3))] []
  refine jq_iconst (pc := 0) hF dT_sendMessages_0 ic_4 ?_
  refine jq_aload_n (pc := 1) hF 0 dT_sendMessages_1 rfl ?_
  refine Cg_T_52 (pc := 2) hF dT_sendMessages_2 ?_
  refine Cg_T_90 (pc := 5) hF dT_sendMessages_5 ?_
  refine jq_top (nI (cNb σ)) (hI.nbl.2) ?_
  refine jq_imulN (pc := 8) hF dT_sendMessages_8 ?_
  refine jq_istore_n (pc := 9) hF [(1, .int (nI (4 * (cNb σ)))), (0, .ref (a 3))] dT_sendMessages_9 (Nat.le_of_ble_eq_true rfl) rfl ?_
  refine jq_iconst (pc := 10) hF dT_sendMessages_10 ic_0 ?_
  refine jq_istore_n (pc := 11) hF [(2, .int (nI 0)), (1, .int (nI (4 * (cNb σ)))), (0, .ref (a 3))] dT_sendMessages_11 (Nat.le_of_ble_eq_true rfl) rfl ?_
  have hnb := hI.nbl.1
  have hI1 : ∀ i, cInv (forN cSend1 σ i) := fun i => hI.of_fr (fr.n cSend1_fr _ i) (by decide)
  have lp12 : ∀ i, i ≤ 4 * cNb σ → jJ l D (rmD 3) 3 X (wC a cI cZ (forN cSend1 σ i)) 12 [(2, .int (nI i)), (1, .int (nI (4 * (cNb σ)))), (0, .ref (a 3))] [] := by
    refine loop_up (fun i hi ih => ?_)
    refine jq_iload_n (pc := 12) hF 0 dT_sendMessages_12 rfl ?_
    refine jq_iload_n (pc := 13) hF 1 dT_sendMessages_13 rfl ?_
    refine jq_icmp_geN (pc := 14) hF 57 (by omega) (by omega) dT_sendMessages_14 rfl (fun h14 => ?_) (fun h14 => ?_)
    · obtain rfl : i = 4 * cNb σ := by omega
      exact jq_at (hk 57 _ dT_sendMessages_57) (congrArg (wC a cI cZ) (by rfl)) rfl rfl rfl
    · refine jq_aload_n (pc := 17) hF 2 dT_sendMessages_17 rfl ?_
      refine Cg_T_52 (pc := 18) hF dT_sendMessages_18 ?_
      refine jq_iload_n (pc := 21) hF 0 dT_sendMessages_21 rfl ?_
      refine jq_cVI (pc := 22) hF (As := [.int (nI i)]) (rest := []) (mP_hasWholeWire l D a cI cZ (forN cSend1 σ i) (i) (by omega) (hI1 i)) (jG_v mL_T_124 mI_P_hasWholeWire mS_P_hasWholeWire mZ_P mC_P_hasWholeWire) rfl rfl rfl dd_P_hasWholeWire ⟨Nat.le_of_ble_eq_true rfl, Nat.le_of_ble_eq_true rfl⟩ 1 rfl rfl rfl rfl (Nat.le_of_ble_eq_true rfl) dT_sendMessages_22 ?_
      refine jq_if_eqB (pc := 25) hF 51 dT_sendMessages_25 rfl (fun h25 => ?_) (fun h25 => ?_)
      · refine jq_iincN (pc := 51) hF 0 [(2, .int (nI (i + 1))), (1, .int (nI (4 * (cNb σ)))), (0, .ref (a 3))] dT_sendMessages_51 rfl (Nat.le_of_ble_eq_true rfl) rfl ?_
        refine jq_goto (pc := 54) hF 12 dT_sendMessages_54 rfl ?_
        refine jq_sub [(2, .int (nI (i + 1))), (1, .int (nI (4 * (cNb σ)))), (0, .ref (a 3))] [0, 1, 2] rfl ?_
        exact jq_at (ih (by omega)) (congrArg (wC a cI cZ) (by first | exact if_neg (by rw [h25]; decide) | exact (if_pos h25).trans (if_pos h34) | exact (if_pos h25).trans (if_neg (fun e => e h34)))) rfl rfl rfl
      · refine jq_aload_n (pc := 28) hF 2 dT_sendMessages_28 rfl ?_
        refine jq_iload_n (pc := 29) hF 0 dT_sendMessages_29 rfl ?_
        refine jq_cVI (pc := 30) hF (As := [.int (nI i)]) (rest := []) (mT_roleNow l D a cI cZ (forN cSend1 σ i) (i) (by omega) (hI1 i)) (jG_v mL_T_143 mI_T_roleNow mS_T_roleNow mZ_T mC_T_roleNow) rfl rfl rfl dd_T_roleNow ⟨Nat.le_of_ble_eq_true rfl, Nat.le_of_ble_eq_true rfl⟩ 3 rfl rfl rfl rfl (Nat.le_of_ble_eq_true rfl) dT_sendMessages_30 ?_
        refine jq_iconst (pc := 33) hF dT_sendMessages_33 ic_2 ?_
        refine jq_icmp_ne (pc := 34) hF 51 dT_sendMessages_34 rfl (fun h34 => ?_) (fun h34 => ?_)
        · refine jq_iincN (pc := 51) hF 0 [(2, .int (nI (i + 1))), (1, .int (nI (4 * (cNb σ)))), (0, .ref (a 3))] dT_sendMessages_51 rfl (Nat.le_of_ble_eq_true rfl) rfl ?_
          refine jq_goto (pc := 54) hF 12 dT_sendMessages_54 rfl ?_
          refine jq_sub [(2, .int (nI (i + 1))), (1, .int (nI (4 * (cNb σ)))), (0, .ref (a 3))] [0, 1, 2] rfl ?_
          exact jq_at (ih (by omega)) (congrArg (wC a cI cZ) (by first | exact if_neg (by rw [h25]; decide) | exact (if_pos h25).trans (if_pos h34) | exact (if_pos h25).trans (if_neg (fun e => e h34)))) rfl rfl rfl
        · refine jq_aload_n (pc := 37) hF 2 dT_sendMessages_37 rfl ?_
          refine jq_iload_n (pc := 38) hF 0 dT_sendMessages_38 rfl ?_
          refine jq_aload_n (pc := 39) hF 2 dT_sendMessages_39 rfl ?_
          refine Cg_T_52 (pc := 40) hF dT_sendMessages_40 ?_
          refine Cg_T_152 (pc := 43) hF dT_sendMessages_43 ?_
          refine jq_iload_n (pc := 46) hF 0 dT_sendMessages_46 rfl ?_
          refine Cl_13 (pc := 47) hF (by omega) dT_sendMessages_47 ?_
          refine jq_top (nI (((forN cSend1 σ i) 13 (i)).toNatClampNeg)) (((hI1 i).wf (p := i) (by omega) (cWhole_ne h25)).cl (by decide) |>.2) ?_
          refine jq_cVV (pc := 48) hF (As := [.int (nI i), .int (nI (((forN cSend1 σ i) 13 (i)).toNatClampNeg))]) (rest := []) (mT_sendMessage l D a cI cZ (forN cSend1 σ i) (i) (((forN cSend1 σ i) 13 (i)).toNatClampNeg) (by omega) (((hI1 i).wf (p := i) (by omega) (cWhole_ne h25)).cl (by decide)).1 (hI1 i)) (jG_v mL_T_155 mI_T_sendMessage mS_T_sendMessage mZ_T mC_T_sendMessage) rfl rfl rfl dd_T_sendMessage ⟨Nat.le_of_ble_eq_true rfl, Nat.le_of_ble_eq_true rfl⟩ 3 rfl rfl rfl rfl (Nat.le_of_ble_eq_true rfl) dT_sendMessages_48 ?_
          refine jq_iincN (pc := 51) hF 0 [(2, .int (nI (i + 1))), (1, .int (nI (4 * (cNb σ)))), (0, .ref (a 3))] dT_sendMessages_51 rfl (Nat.le_of_ble_eq_true rfl) rfl ?_
          refine jq_goto (pc := 54) hF 12 dT_sendMessages_54 rfl ?_
          refine jq_sub [(2, .int (nI (i + 1))), (1, .int (nI (4 * (cNb σ)))), (0, .ref (a 3))] [0, 1, 2] rfl ?_
          exact jq_at (ih (by omega)) (congrArg (wC a cI cZ) (by first | exact if_neg (by rw [h25]; decide) | exact (if_pos h25).trans (if_pos h34) | exact (if_pos h25).trans (if_neg (fun e => e h34)))) rfl rfl rfl
  exact jq_at (lp12 0 (by omega)) rfl rfl rfl rfl
set_option maxHeartbeats 4000000 in
set_option maxRecDepth 100000 in
theorem mT_takeMessages (l : Launch) (D : va_G) (a : Nat → Nat) (cI cZ : ClassId) (σ : jS)   : jV l yT_takeMessages w_T_takeMessages (rmD 1) D (jTys cI cZ) [.ref (a 3)] (wC a cI cZ σ) (wC a cI cZ (cTake σ)) := by
  refine jV_of (ws' := jG) (by decide) rfl (Nat.le_of_ble_eq_true rfl) ?_
  intro X hF hk
  show jJ l D (rmD 1) 2 X (wC a cI cZ σ) 0 [(0, .ref (a 3))] []
  refine jq_iconst (pc := 0) hF dT_takeMessages_0 ic_0 ?_
  refine jq_istore_n (pc := 1) hF [(1, .int (nI 0)), (0, .ref (a 3))] dT_takeMessages_1 (Nat.le_of_ble_eq_true rfl) rfl ?_
  have lp2 : ∀ i, i ≤ 24 → jJ l D (rmD 1) 2 X (wC a cI cZ (forN cTake1 σ i)) 2 [(1, .int (nI i)), (0, .ref (a 3))] [] := by
    refine loop_up (fun i hi ih => ?_)
    refine jq_iload_n (pc := 2) hF 0 dT_takeMessages_2 rfl ?_
    refine jq_bipush (pc := 3) hF dT_takeMessages_3 bi_24 ?_
    refine jq_icmp_geN (pc := 5) hF 58 (by omega) (by omega) dT_takeMessages_5 rfl (fun h5 => ?_) (fun h5 => ?_)
    · obtain rfl : i = 24 := by omega
      exact jq_at (hk 58 _ dT_takeMessages_58) (congrArg (wC a cI cZ) (by rfl)) rfl rfl rfl
    · refine jq_aload_n (pc := 8) hF 1 dT_takeMessages_8 rfl ?_
      refine Cg_T_22 (pc := 9) hF dT_takeMessages_9 ?_
      refine jq_iload_n (pc := 12) hF 0 dT_takeMessages_12 rfl ?_
      refine Cl_21 (pc := 13) hF (by omega) dT_takeMessages_13 ?_
      refine jq_if_eq (pc := 14) hF 52 dT_takeMessages_14 rfl (fun h14 => ?_) (fun h14 => ?_)
      · refine jq_iincN (pc := 52) hF 0 [(1, .int (nI (i + 1))), (0, .ref (a 3))] dT_takeMessages_52 rfl (Nat.le_of_ble_eq_true rfl) rfl ?_
        refine jq_goto (pc := 55) hF 2 dT_takeMessages_55 rfl ?_
        refine jq_sub [(1, .int (nI (i + 1))), (0, .ref (a 3))] [0, 1] rfl ?_
        exact jq_at (ih (by omega)) (congrArg (wC a cI cZ) (by first | exact if_pos h14 | exact if_neg h14)) rfl rfl rfl
      · refine jq_aload_n (pc := 17) hF 1 dT_takeMessages_17 rfl ?_
        refine Cg_T_19 (pc := 18) hF dT_takeMessages_18 ?_
        refine jq_bipush (pc := 21) hF dT_takeMessages_21 bi_6 ?_
        refine jq_iload_n (pc := 23) hF 0 dT_takeMessages_23 rfl ?_
        refine jq_imulN (pc := 24) hF dT_takeMessages_24 ?_
        refine jq_aload_n (pc := 25) hF 1 dT_takeMessages_25 rfl ?_
        refine Cg_T_11 (pc := 26) hF dT_takeMessages_26 ?_
        refine jq_bipush (pc := 29) hF dT_takeMessages_29 bi_6 ?_
        refine jq_iload_n (pc := 31) hF 0 dT_takeMessages_31 rfl ?_
        refine jq_imulN (pc := 32) hF dT_takeMessages_32 ?_
        refine jq_bipush (pc := 33) hF dT_takeMessages_33 bi_6 ?_
        refine C_copy (pc := 35) hF (p := i) (by omega) (Nat.le_of_ble_eq_true rfl) (Nat.le_of_ble_eq_true rfl) dT_takeMessages_35 ?_
        refine jq_aload_n (pc := 38) hF 1 dT_takeMessages_38 rfl ?_
        refine Cg_T_15 (pc := 39) hF dT_takeMessages_39 ?_
        refine jq_iload_n (pc := 42) hF 0 dT_takeMessages_42 rfl ?_
        refine jq_iconst (pc := 43) hF dT_takeMessages_43 ic_1 ?_
        refine Cs_19 (pc := 44) hF (by omega) rfl dT_takeMessages_44 ?_
        refine jq_aload_n (pc := 45) hF 1 dT_takeMessages_45 rfl ?_
        refine Cg_T_22 (pc := 46) hF dT_takeMessages_46 ?_
        refine jq_iload_n (pc := 49) hF 0 dT_takeMessages_49 rfl ?_
        refine jq_iconst (pc := 50) hF dT_takeMessages_50 ic_0 ?_
        refine Cs_21 (pc := 51) hF (by omega) rfl dT_takeMessages_51 ?_
        refine jq_iincN (pc := 52) hF 0 [(1, .int (nI (i + 1))), (0, .ref (a 3))] dT_takeMessages_52 rfl (Nat.le_of_ble_eq_true rfl) rfl ?_
        refine jq_goto (pc := 55) hF 2 dT_takeMessages_55 rfl ?_
        refine jq_sub [(1, .int (nI (i + 1))), (0, .ref (a 3))] [0, 1] rfl ?_
        exact jq_at (ih (by omega)) (congrArg (wC a cI cZ) (by first | exact if_pos h14 | exact if_neg h14)) rfl rfl rfl
  exact jq_at (lp2 0 (by omega)) rfl rfl rfl rfl
set_option maxHeartbeats 4000000 in
set_option maxRecDepth 100000 in
theorem mT_passTime (l : Launch) (D : va_G) (a : Nat → Nat) (cI cZ : ClassId) (σ : jS)  (hI : cInv σ) : jV l yT_passTime w_T_passTime (rmD 5) D (jTys cI cZ) [.ref (a 3)] (wC a cI cZ σ) (wC a cI cZ (cTick σ)) := by
  refine jV_of (ws' := jG) (by decide) rfl (Nat.le_of_ble_eq_true rfl) ?_
  intro X hF hk
  show jJ l D (rmD 5) 1 X (wC a cI cZ σ) 0 [(0, .ref (a 3))] []
  have h0 : cInv (sU σ 3 2 (σ 3 2 + nI 1)) := hI.u (by decide)
  have h1 := cAge_inv h0
  have h2 := cRoots_inv h1
  have h3 := cPass_inv h2
  have h4 := cSends_inv h3
  have h5 := cTake_inv h4
  refine jq_aload_n (pc := 0) hF 0 dT_passTime_0 rfl ?_
  refine jq_dup (pc := 1) hF dT_passTime_1 rfl ?_
  refine Cg_T_69 (pc := 2) hF dT_passTime_2 ?_
  refine jq_iconst (pc := 5) hF dT_passTime_5 ic_1 ?_
  refine jq_iadd (pc := 6) hF dT_passTime_6 ?_
  refine Cp_T_69 (pc := 7) hF dT_passTime_7 ?_
  refine jq_aload_n (pc := 10) hF 0 dT_passTime_10 rfl ?_
  refine jq_cVV (pc := 11) hF (As := []) (rest := []) (mT_ageMessages l D a cI cZ (sU σ 3 2 ((σ 3 2) + (nI (1))))  ) (jG_v mL_T_72 mI_T_ageMessages mS_T_ageMessages mZ_T mC_T_ageMessages) rfl rfl rfl dd_T_ageMessages ⟨Nat.le_of_ble_eq_true rfl, Nat.le_of_ble_eq_true rfl⟩ 3 rfl rfl rfl rfl (Nat.le_of_ble_eq_true rfl) dT_passTime_11 ?_
  refine jq_aload_n (pc := 14) hF 0 dT_passTime_14 rfl ?_
  refine jq_cVV (pc := 15) hF (As := []) (rest := []) (mT_chooseRoots l D a cI cZ (cAge (sU σ 3 2 ((σ 3 2) + (nI (1)))))  h1) (jG_v mL_T_75 mI_T_chooseRoots mS_T_chooseRoots mZ_T mC_T_chooseRoots) rfl rfl rfl dd_T_chooseRoots ⟨Nat.le_of_ble_eq_true rfl, Nat.le_of_ble_eq_true rfl⟩ 3 rfl rfl rfl rfl (Nat.le_of_ble_eq_true rfl) dT_passTime_15 ?_
  refine jq_aload_n (pc := 18) hF 0 dT_passTime_18 rfl ?_
  refine jq_cVV (pc := 19) hF (As := []) (rest := []) (mT_passNotices l D a cI cZ (cRoots (cAge (sU σ 3 2 ((σ 3 2) + (nI (1))))))  h2) (jG_v mL_T_78 mI_T_passNotices mS_T_passNotices mZ_T mC_T_passNotices) rfl rfl rfl dd_T_passNotices ⟨Nat.le_of_ble_eq_true rfl, Nat.le_of_ble_eq_true rfl⟩ 3 rfl rfl rfl rfl (Nat.le_of_ble_eq_true rfl) dT_passTime_19 ?_
  refine jq_aload_n (pc := 22) hF 0 dT_passTime_22 rfl ?_
  refine jq_cVV (pc := 23) hF (As := []) (rest := []) (mT_sendMessages l D a cI cZ (cPass (cRoots (cAge (sU σ 3 2 ((σ 3 2) + (nI (1)))))))  h3) (jG_v mL_T_81 mI_T_sendMessages mS_T_sendMessages mZ_T mC_T_sendMessages) rfl rfl rfl dd_T_sendMessages ⟨Nat.le_of_ble_eq_true rfl, Nat.le_of_ble_eq_true rfl⟩ 3 rfl rfl rfl rfl (Nat.le_of_ble_eq_true rfl) dT_passTime_23 ?_
  refine jq_aload_n (pc := 26) hF 0 dT_passTime_26 rfl ?_
  refine jq_cVV (pc := 27) hF (As := []) (rest := []) (mT_takeMessages l D a cI cZ (cSends (cPass (cRoots (cAge (sU σ 3 2 ((σ 3 2) + (nI (1))))))))  ) (jG_v mL_T_84 mI_T_takeMessages mS_T_takeMessages mZ_T mC_T_takeMessages) rfl rfl rfl dd_T_takeMessages ⟨Nat.le_of_ble_eq_true rfl, Nat.le_of_ble_eq_true rfl⟩ 3 rfl rfl rfl rfl (Nat.le_of_ble_eq_true rfl) dT_passTime_27 ?_
  refine jq_aload_n (pc := 30) hF 0 dT_passTime_30 rfl ?_
  refine jq_cVV (pc := 31) hF (As := []) (rest := []) (mT_settle l D a cI cZ (cTake (cSends (cPass (cRoots (cAge (sU σ 3 2 ((σ 3 2) + (nI (1)))))))))  h5) (jG_v mL_T_87 mI_T_settle mS_T_settle mZ_T mC_T_settle) rfl rfl rfl dd_T_settle ⟨Nat.le_of_ble_eq_true rfl, Nat.le_of_ble_eq_true rfl⟩ 3 rfl rfl rfl rfl (Nat.le_of_ble_eq_true rfl) dT_passTime_31 ?_
  exact jq_at (hk 34 _ dT_passTime_34) (congrArg (wC a cI cZ) (by rfl)) rfl rfl rfl
set_option maxHeartbeats 4000000 in
set_option maxRecDepth 100000 in
theorem mN_forgetOldEntries (l : Launch) (D : va_G) (a : Nat → Nat) (cI cZ : ClassId) (σ : jS)  (hI : cInv σ) : jV l yN_forgetOldEntries w_N_forgetOldEntries (rmD 1) D (jTys cI cZ) [.ref (a 0)] (wC a cI cZ σ) (wC a cI cZ (cOld σ)) := by
  refine jV_of (ws' := jG) (by decide) rfl (Nat.le_of_ble_eq_true rfl) ?_
  intro X hF hk
  show jJ l D (rmD 1) 2 X (wC a cI cZ σ) 0 [(0, .ref (a 0))] []
  refine jq_iconst (pc := 0) hF dN_forgetOldEntries_0 ic_0 ?_
  refine jq_istore_n (pc := 1) hF [(1, .int (nI 0)), (0, .ref (a 0))] dN_forgetOldEntries_1 (Nat.le_of_ble_eq_true rfl) rfl ?_
  have hnb := hI.nbl.1
  have hI1 : ∀ i, cInv (forN cOld1 σ i) := fun i => hI.of_fr (fr.n cOld1_fr _ i) (by decide)
  have lp2 : ∀ i, i ≤ cNb σ → jJ l D (rmD 1) 2 X (wC a cI cZ (forN cOld1 σ i)) 2 [(1, .int (nI i)), (0, .ref (a 0))] [] := by
    refine loop_up (fun i hi ih => ?_)
    refine jq_iload_n (pc := 2) hF 0 dN_forgetOldEntries_2 rfl ?_
    refine jq_aload_n (pc := 3) hF 1 dN_forgetOldEntries_3 rfl ?_
    refine Cg_N_20 (pc := 4) hF dN_forgetOldEntries_4 ?_
    refine Cg_N_59 (pc := 7) hF dN_forgetOldEntries_7 ?_
    refine jq_top (nI (cNb σ)) ((by rw [(fr.n cOld1_fr σ i) 1 (by decide)]; exact hI.nbl.2)) ?_
    refine jq_icmp_geN (pc := 10) hF 59 (by omega) (by omega) dN_forgetOldEntries_10 rfl (fun h10 => ?_) (fun h10 => ?_)
    · obtain rfl : i = cNb σ := by omega
      exact jq_at (hk 59 _ dN_forgetOldEntries_59) (congrArg (wC a cI cZ) (by rfl)) rfl rfl rfl
    · refine jq_aload_n (pc := 13) hF 1 dN_forgetOldEntries_13 rfl ?_
      refine Cg_N_43 (pc := 14) hF dN_forgetOldEntries_14 ?_
      refine jq_iload_n (pc := 17) hF 0 dN_forgetOldEntries_17 rfl ?_
      refine jq_aload_n (pc := 18) hF 1 dN_forgetOldEntries_18 rfl ?_
      refine Cg_N_36 (pc := 19) hF dN_forgetOldEntries_19 ?_
      refine Cg_N_132 (pc := 22) hF dN_forgetOldEntries_22 ?_
      refine jq_aload_n (pc := 25) hF 1 dN_forgetOldEntries_25 rfl ?_
      refine Cg_N_36 (pc := 26) hF dN_forgetOldEntries_26 ?_
      refine jq_iload_n (pc := 29) hF 0 dN_forgetOldEntries_29 rfl ?_
      refine jq_cVI (pc := 30) hF (As := [.int (nI i)]) (rest := [.int ((forN cOld1 σ i) 3 2), .int (nI i), .ref (a 4)]) (mT_isMarked l D a cI cZ (forN cOld1 σ i) (i) (by omega) (hI1 i)) (jG_v mL_N_144 mI_T_isMarked mS_T_isMarked mZ_T mC_T_isMarked) rfl rfl rfl dd_T_isMarked ⟨Nat.le_of_ble_eq_true rfl, Nat.le_of_ble_eq_true rfl⟩ 3 rfl rfl rfl rfl (Nat.le_of_ble_eq_true rfl) dN_forgetOldEntries_30 ?_
      have j50 : jJ l D (rmD 1) 2 X (wC a cI cZ (forN cOld1 σ i)) 50 [(1, .int (nI i)), (0, .ref (a 0))] [.int (if ((cMarked (forN cOld1 σ i) (i))) = false then (forN cOld1 σ i) 0 0 else (forN cOld1 σ i) 3 1), .int ((forN cOld1 σ i) 3 2), .int (nI i), .ref (a 4)] := by
        refine jq_cVV (pc := 50) hF (As := [.int (nI i), .int ((forN cOld1 σ i) 3 2), .int (if ((cMarked (forN cOld1 σ i) (i))) = false then (forN cOld1 σ i) 0 0 else (forN cOld1 σ i) 3 1)]) (rest := []) (mB_forget l D a cI cZ (forN cOld1 σ i) (i) ((forN cOld1 σ i) 3 2) (if ((cMarked (forN cOld1 σ i) (i))) = false then (forN cOld1 σ i) 0 0 else (forN cOld1 σ i) 3 1) (by omega)) (jG_v mL_N_192 mI_B_forget mS_B_forget mZ_B mC_B_forget) rfl rfl rfl dd_B_forget ⟨Nat.le_of_ble_eq_true rfl, Nat.le_of_ble_eq_true rfl⟩ 4 rfl rfl rfl rfl (Nat.le_of_ble_eq_true rfl) dN_forgetOldEntries_50 ?_
        refine jq_iincN (pc := 53) hF 0 [(1, .int (nI (i + 1))), (0, .ref (a 0))] dN_forgetOldEntries_53 rfl (Nat.le_of_ble_eq_true rfl) rfl ?_
        refine jq_goto (pc := 56) hF 2 dN_forgetOldEntries_56 rfl ?_
        refine jq_sub [(1, .int (nI (i + 1))), (0, .ref (a 0))] [0, 1] rfl ?_
        exact jq_at (ih (by omega)) rfl rfl rfl rfl
      refine jq_if_eqB (pc := 33) hF 46 dN_forgetOldEntries_33 rfl (fun h33 => ?_) (fun h33 => ?_)
      · refine jq_aload_n (pc := 46) hF 1 dN_forgetOldEntries_46 rfl ?_
        refine Cg_N_13 (pc := 47) hF dN_forgetOldEntries_47 ?_
        exact jq_at j50 rfl rfl rfl (by rw [if_pos h33])
      · refine jq_aload_n (pc := 36) hF 1 dN_forgetOldEntries_36 rfl ?_
        refine Cg_N_36 (pc := 37) hF dN_forgetOldEntries_37 ?_
        refine Cg_N_189 (pc := 40) hF dN_forgetOldEntries_40 ?_
        refine jq_goto (pc := 43) hF 50 dN_forgetOldEntries_43 rfl ?_
        exact jq_at j50 rfl rfl rfl (by rw [if_neg (show ¬ (((cMarked (forN cOld1 σ i) (i))) = false) by simp [h33])])
  exact jq_at (lp2 0 (by omega)) rfl rfl rfl rfl
set_option maxHeartbeats 4000000 in
set_option maxRecDepth 100000 in
theorem mN_tick (l : Launch) (D : va_G) (a : Nat → Nat) (cI cZ : ClassId) (σ : jS) (n : Int32) (hI : cInv σ) : jI l yN_tick w_N_tick (rmD 6) D (jTys cI cZ) [.ref (a 0), .int (n)] (wC a cI cZ σ) (wC a cI cZ (if cWithin n (nI 0) (nI 60) = true then cTicks σ (n).toNatClampNeg else σ)) (if cWithin n (nI 0) (nI 60) = true then (cTicks σ (n).toNatClampNeg) 3 2 else -1) := by
  refine jI_of (ws' := jG) rfl (by decide) rfl (Nat.le_of_ble_eq_true rfl) ?_
  intro X hF hk
  show jJ l D (rmD 6) 3 X (wC a cI cZ σ) 0 [(0, .ref (a 0)), (1, .int (n))] []
  refine jq_iload_n (pc := 0) hF 1 dN_tick_0 rfl ?_
  refine jq_iconst (pc := 1) hF dN_tick_1 ic_0 ?_
  refine jq_bipush (pc := 2) hF dN_tick_2 bi_60 ?_
  refine jq_cSI (pc := 4) hF (As := [.int (n), .int (nI 0), .int (nI 60)]) (rest := []) (mN_isWithin l D a cI cZ σ (n) (nI (0)) (nI (60)) ) (jG_st mL_N_62 mT_N_isWithin mZ_N mC_N_isWithin) rfl rfl rfl dd_N_isWithin ⟨Nat.le_of_ble_eq_true rfl, Nat.le_of_ble_eq_true rfl⟩ rfl rfl (Nat.le_of_ble_eq_true rfl) dN_tick_4 ?_
  refine jq_if_neB (pc := 7) hF 12 dN_tick_7 rfl (fun h7 => ?_) (fun h7 => ?_)
  · obtain ⟨m, hm, rfl⟩ := cWithin_le (m := 60) (by decide) h7
    refine jq_iconst (pc := 12) hF dN_tick_12 ic_0 ?_
    refine jq_istore_n (pc := 13) hF [(2, .int (nI 0)), (0, .ref (a 0)), (1, .int (nI m))] dN_tick_13 (Nat.le_of_ble_eq_true rfl) rfl ?_
    have lp14 : ∀ i, i ≤ m → jJ l D (rmD 6) 3 X (wC a cI cZ (cTicks σ i)) 14 [(2, .int (nI i)), (0, .ref (a 0)), (1, .int (nI m))] [] := by
      refine loop_up (fun i hi ih => ?_)
      have hIi := cTicks_inv hI i
      refine jq_iload_n (pc := 14) hF 0 dN_tick_14 rfl ?_
      refine jq_iload_n (pc := 15) hF 2 dN_tick_15 rfl ?_
      refine jq_icmp_geN (pc := 16) hF 36 (by omega) (by omega) dN_tick_16 rfl (fun h16 => ?_) (fun h16 => ?_)
      · obtain rfl : i = m := by omega
        refine jq_aload_n (pc := 36) hF 1 dN_tick_36 rfl ?_
        refine Cg_N_36 (pc := 37) hF dN_tick_37 ?_
        refine Cg_N_132 (pc := 40) hF dN_tick_40 ?_
        exact jq_at (hk 43 _ dN_tick_43) (congrArg (wC a cI cZ) (by rw [if_pos h7, nI_clamp (by omega)])) rfl rfl (congrArg (fun z => [Value.int z]) (by rw [if_pos h7, nI_clamp (by omega)]))
      · refine jq_aload_n (pc := 19) hF 1 dN_tick_19 rfl ?_
        refine Cg_N_36 (pc := 20) hF dN_tick_20 ?_
        refine jq_cVV (pc := 23) hF (As := []) (rest := []) (mT_passTime l D a cI cZ (cTicks σ i)  hIi) (jG_v mL_N_126 mI_T_passTime mS_T_passTime mZ_T mC_T_passTime) rfl rfl rfl dd_T_passTime ⟨Nat.le_of_ble_eq_true rfl, Nat.le_of_ble_eq_true rfl⟩ 3 rfl rfl rfl rfl (Nat.le_of_ble_eq_true rfl) dN_tick_23 ?_
        refine jq_aload_n (pc := 26) hF 1 dN_tick_26 rfl ?_
        refine jq_cVV (pc := 27) hF (As := []) (rest := []) (mN_forgetOldEntries l D a cI cZ (cTick (cTicks σ i))  (cTick_inv hIi)) (jG_v mL_N_129 mI_N_forgetOldEntries mS_N_forgetOldEntries mZ_N mC_N_forgetOldEntries) rfl rfl rfl dd_N_forgetOldEntries ⟨Nat.le_of_ble_eq_true rfl, Nat.le_of_ble_eq_true rfl⟩ 0 rfl rfl rfl rfl (Nat.le_of_ble_eq_true rfl) dN_tick_27 ?_
        refine jq_iincN (pc := 30) hF 0 [(2, .int (nI (i + 1))), (0, .ref (a 0)), (1, .int (nI m))] dN_tick_30 rfl (Nat.le_of_ble_eq_true rfl) rfl ?_
        refine jq_goto (pc := 33) hF 14 dN_tick_33 rfl ?_
        refine jq_sub [(2, .int (nI (i + 1))), (0, .ref (a 0)), (1, .int (nI m))] [0, 1, 2] rfl ?_
        exact jq_at (ih (by omega)) (congrArg (wC a cI cZ) (by exact cTicks_s σ i)) rfl rfl rfl
    exact jq_at (lp14 0 (by omega)) rfl rfl rfl rfl
  · refine jq_iconst (pc := 10) hF dN_tick_10 ic_m1 ?_
    exact jq_at (hk 11 _ dN_tick_11) (congrArg (wC a cI cZ) (by simp [h7])) rfl rfl (congrArg (fun z => [Value.int z]) (by simp [h7]))
end
section
/-! the carrier -/
def cGoR (σ : jS) (g tag : Int32) : jS := if g = nI 6 ∨ (¬ g = -1 ∧ tag = -1) then sU σ 5 4 (σ 5 4 ||| (nI 1 <<< (g &&& 31))) else σ
def cGoA (σ : jS) (far tag : Int32) : jS :=
  if far = -1 then σ else if nI 61 ≤ σ 5 0 then σ else sU (sU (sU σ 33 (σ 5 0).toNatClampNeg far) 34 (σ 5 0).toNatClampNeg tag) 5 0 (σ 5 0 + nI 1)
def cGoOut (σ : jS) (p : Nat) (tag : Int32) : jS :=
  if σ 5 3 < nI 60 then cGoA (cGoR (sU σ 5 3 (σ 5 3 + nI 1)) (σ 14 p) tag) (σ 13 p) tag else σ
def cKnown (σ : jS) (p nw : Nat) : Int32 := if ¬ σ 5 2 = -1 then cPort σ (p / 4) nw (σ 5 2).toNatClampNeg else -1
def cFwd1 (p nw : Nat) (kn : Int32) (k : Nat) (σ : jS) : jS :=
  if (!decide (4 * (p / 4) + k = p) && (decide (kn = -1) || decide (kn = nI k))) = true then
    (if ¬ σ 27 (4 * (p / 4) + k) = nI 3 then σ else if cIsMember σ (4 * (p / 4) + k) (nI nw) = true then cGoOut σ (4 * (p / 4) + k) (cTagOut σ (4 * (p / 4) + k) (nI nw)) else σ)
  else σ
def cForward (σ : jS) (p nw : Nat) : jS := forN (cFwd1 p nw (cKnown σ p nw)) σ 4
def cLearnS (σ : jS) (p : Nat) (tag : Int32) : jS := cLearn σ p (cInside σ p tag).toNatClampNeg (σ 5 1).toNatClampNeg (σ 3 2)
def cHandle (σ : jS) (p : Nat) (tag : Int32) : jS :=
  if σ 27 p < nI 2 then σ
  else if ¬ cInside σ p tag = -1 then
    (if ¬ cLearnS σ p tag 27 p = nI 3 then cLearnS σ p tag else cForward (cLearnS σ p tag) p (cInside σ p tag).toNatClampNeg)
  else σ
/-- the arrivals from the i-th on, f at the most -/
def cRun (i : Nat) : Nat → jS → jS
  | 0, σ => σ
  | f + 1, σ => if σ 5 0 ≤ nI i then σ else cRun (i + 1) f (cHandle σ (σ 33 i).toNatClampNeg (σ 34 i))
def cStart (σ : jS) (from_ to place tag : Int32) : jS :=
  sU (sU (sU (sU (sU (sU (sU σ 5 1 from_) 5 2 to) 5 3 (nI 0)) 5 4 (nI 0)) 33 0 place) 34 0 tag) 5 0 (nI 1)
def cCount (σ : jS) : jS := sU σ 5 5 (σ 5 5 + σ 5 3)
def cCarry (σ : jS) (from_ to place tag : Int32) : jS := cCount (cRun 0 61 (cStart σ from_ to place tag))
def cOkS (σ : jS) : Prop := cInv σ ∧ okP 62 (σ 5 0) ∧ okP 7 (σ 5 1) ∧ okQ 7 (σ 5 2)
theorem cnt_in {x : Int32} (h : okP 62 x) (h2 : ¬ nI 61 ≤ x) : vp_in x 61 := by
  obtain ⟨k, hk, rfl⟩ := h
  have : ¬ 61 ≤ k := fun e => h2 (nI_le e (by omega))
  exact vp_in_nI (by omega) (by decide)
theorem cGoR_fr (σ : jS) (g t : Int32) : fr [5] σ (cGoR σ g t) := fr.ite (fr.rf.u (by decide) _ _) fr.rf
theorem cGoR_5 (σ : jS) (g t : Int32) {j : Nat} (hj : j ≠ 4) : cGoR σ g t 5 j = σ 5 j := by
  unfold cGoR
  by_cases h : g = nI 6 ∨ (¬ g = -1 ∧ t = -1)
  · rw [if_pos h, sU_eq, if_neg hj]
  · rw [if_neg h]
theorem cInv.arr {σ : jS} (hI : cInv σ) {i : Nat} {x t v : Int32} (hx : okP 24 x) (ht : okQ 4 t) (j : Nat) : cInv (sU (sU (sU σ 33 i x) 34 i t) 5 j v) := by
  have e33 : ∀ q, sU (sU (sU σ 33 i x) 34 i t) 5 j v 33 q = if q = i then x else σ 33 q := fun q => sU_eq σ 33 i x q
  have e34 : ∀ q, sU (sU (sU σ 33 i x) 34 i t) 5 j v 34 q = if q = i then t else σ 34 q := fun q => sU_eq (sU σ 33 i x) 34 i t q
  refine ⟨hI.1, hI.2.1, hI.2.2.1, hI.2.2.2.1, hI.2.2.2.2.1, hI.2.2.2.2.2.1, hI.2.2.2.2.2.2.1, hI.2.2.2.2.2.2.2.1, hI.2.2.2.2.2.2.2.2.1, hI.2.2.2.2.2.2.2.2.2.1, hI.2.2.2.2.2.2.2.2.2.2.1, fun q hq => ?_, fun q hq => ?_, hI.2.2.2.2.2.2.2.2.2.2.2.2.2⟩
  · rw [e33]
    by_cases e : q = i
    · rw [if_pos e]; exact hx
    · rw [if_neg e]; exact hI.ap hq
  · rw [e34]
    by_cases e : q = i
    · rw [if_pos e]; exact ht
    · rw [if_neg e]; exact hI.tag hq
theorem cGoA_ok {σ : jS} (h : cOkS σ) {far tag : Int32} (hf : okQ 24 far) (ht : okQ 4 tag) : cOkS (cGoA σ far tag) := by
  unfold cGoA
  by_cases h1 : far = -1
  · rw [if_pos h1]; exact h
  · rw [if_neg h1]
    by_cases h2 : nI 61 ≤ σ 5 0
    · rw [if_pos h2]; exact h
    · rw [if_neg h2]
      refine ⟨h.1.arr (hf.resolve_left h1) ht 0, ?_, ?_, ?_⟩
      · obtain ⟨k, hk, e⟩ := h.2.1
        rw [sU_eq, if_pos rfl, e, nI_add]
        have : ¬ 61 ≤ k := fun q => h2 (by rw [e]; exact nI_le q (by omega))
        exact ⟨k + 1, by omega, rfl⟩
      · rw [sU_eq, if_neg (by decide)]; exact h.2.2.1
      · rw [sU_eq, if_neg (by decide)]; exact h.2.2.2
theorem cOkS.u5 {σ : jS} (h : cOkS σ) {j : Nat} {v : Int32} (hj : 2 < j) : cOkS (sU σ 5 j v) := by
  refine ⟨h.1.u (by decide), ?_, ?_, ?_⟩
  · rw [sU_eq, if_neg (by omega)]; exact h.2.1
  · rw [sU_eq, if_neg (by omega)]; exact h.2.2.1
  · rw [sU_eq, if_neg (by omega)]; exact h.2.2.2
theorem cGoR_ok {σ : jS} (h : cOkS σ) (g t : Int32) : cOkS (cGoR σ g t) := by
  unfold cGoR
  by_cases h1 : g = nI 6 ∨ (¬ g = -1 ∧ t = -1)
  · rw [if_pos h1]; exact h.u5 (by decide)
  · rw [if_neg h1]; exact h
theorem cGoOut_ok {σ : jS} (h : cOkS σ) {p : Nat} (hp : p < 24) {tag : Int32} (ht : okQ 4 tag) : cOkS (cGoOut σ p tag) := by
  unfold cGoOut
  by_cases h1 : σ 5 3 < nI 60
  · rw [if_pos h1]; exact cGoA_ok (cGoR_ok (h.u5 (by decide)) _ _) (h.1.far hp) ht
  · rw [if_neg h1]; exact h
theorem cTagOut_ok {σ : jS} {p : Nat} {nw : Int32} (h : okP 4 nw) : okQ 4 (cTagOut σ p nw) := by
  unfold cTagOut
  by_cases h1 : σ 15 p = nw
  · rw [if_pos h1]; exact Or.inl rfl
  · rw [if_neg h1]; exact Or.inr h
theorem cFwd1_ok {σ : jS} (h : cOkS σ) {p nw k : Nat} (kn : Int32) (hp : p < 24) (hn : nw < 4) (hk : k < 4) : cOkS (cFwd1 p nw kn k σ) := by
  have ho : 4 * (p / 4) + k < 24 := by omega
  unfold cFwd1
  split
  · split
    · exact h
    · split
      · exact cGoOut_ok h ho (cTagOut_ok ⟨nw, hn, rfl⟩)
      · exact h
  · exact h
theorem cFwdN_ok {σ : jS} (h : cOkS σ) {p nw : Nat} (kn : Int32) (hp : p < 24) (hn : nw < 4) : ∀ k, k ≤ 4 → cOkS (forN (cFwd1 p nw kn) σ k) := by
  intro k
  induction k with
  | zero => exact fun _ => h
  | succ k ih => exact fun hk => cFwd1_ok (ih (by omega)) kn hp hn (by omega)
theorem cInside_ok {σ : jS} (hI : cInv σ) {p : Nat} (hp : p < 24) {tag : Int32} (ht : okQ 4 tag) : okQ 4 (cInside σ p tag) := by
  have hv : okP 4 (if ¬ tag = -1 then tag else σ 15 p) := by
    by_cases h : ¬ tag = -1
    · rw [if_pos h]; exact ht.resolve_left h
    · rw [if_neg h]; exact hI.unt hp
  unfold cInside
  by_cases h1 : ¬ tag = -1 ∧ σ 17 p = 0
  · rw [if_pos h1]; exact Or.inl rfl
  · rw [if_neg h1]
    by_cases h2 : cIsMember σ p (if ¬ tag = -1 then tag else σ 15 p) = true
    · rw [if_pos h2]; exact Or.inr hv
    · rw [if_neg h2]; exact Or.inl rfl
theorem cLearn_fr (σ : jS) (p nw ad : Nat) (t : Int32) : fr [31, 32] σ (cLearn σ p nw ad t) := (fr.rf.u (by decide) _ _).u (by decide) _ _
theorem cOkS.of_fr {ks : List Nat} {σ σ' : jS} (h : cOkS σ) (hf : fr ks σ σ') (hk : ∀ k ∈ [1, 7, 10, 11, 12, 13, 15, 24, 33, 34], k ∉ ks) (h5 : 5 ∉ ks) : cOkS σ' := by
  refine ⟨h.1.of_fr hf hk, ?_, ?_, ?_⟩
  · rw [hf 5 h5]; exact h.2.1
  · rw [hf 5 h5]; exact h.2.2.1
  · rw [hf 5 h5]; exact h.2.2.2
theorem cLearnS_ok {σ : jS} (h : cOkS σ) (p : Nat) (tag : Int32) : cOkS (cLearnS σ p tag) := h.of_fr (cLearn_fr _ _ _ _ _) (by decide) (by decide)
theorem cHandle_ok {σ : jS} (h : cOkS σ) {p : Nat} (hp : p < 24) {tag : Int32} (ht : okQ 4 tag) : cOkS (cHandle σ p tag) := by
  unfold cHandle
  split
  · exact h
  · split
    · rename_i h1
      split
      · exact cLearnS_ok h p tag
      · exact cFwdN_ok (cLearnS_ok h p tag) _ hp ((cInside_ok h.1 hp ht).cl h1 (by decide)).1 4 (Nat.le_refl _)
    · exact h
theorem loop_st {α : Type} {N : Nat} {P : Nat → α → Prop} (h : ∀ i, i ≤ N → (i < N → ∀ s, P (i + 1) s) → ∀ s, P i s) : ∀ i, i ≤ N → ∀ s, P i s := by
  have key : ∀ k i, i ≤ N → N - i = k → ∀ s, P i s := by
    intro k
    induction k with
    | zero => exact fun i hi hk => h i hi (fun hlt => absurd hlt (by omega))
    | succ k ih => exact fun i hi hk => h i hi (fun hlt => ih (i + 1) (by omega) (by omega))
  exact fun i hi => key (N - i) i hi rfl
theorem cRun_stop {i f : Nat} {σ : jS} (h : σ 5 0 ≤ nI i) : cRun i f σ = σ := by
  cases f with
  | zero => rfl
  | succ f => exact if_pos h
theorem cRun_go {i f : Nat} {σ : jS} (h : ¬ σ 5 0 ≤ nI i) : cRun i (f + 1) σ = cRun (i + 1) f (cHandle σ (σ 33 i).toNatClampNeg (σ 34 i)) := if_neg h
theorem cRun_ok : ∀ (f i : Nat) (σ : jS), i + f = 61 → cOkS σ → cOkS (cRun i f σ) := by
  intro f
  induction f with
  | zero => exact fun _ _ _ h => h
  | succ f ih =>
    intro i σ hi h
    by_cases h1 : σ 5 0 ≤ nI i
    · rw [cRun_stop h1]; exact h
    · rw [cRun_go h1]
      exact ih (i + 1) _ (by omega) (cHandle_ok h ((h.1.ap (i := i) (by omega)).cl (by decide)).1 (h.1.tag (by omega)))
theorem cStart_ok {σ : jS} (hI : cInv σ) {f t p g : Int32} (hf : okP 7 f) (ht : okQ 7 t) (hp : okP 24 p) (hg : okQ 4 g) : cOkS (cStart σ f t p g) := by
  have h4 : cInv (sU (sU (sU (sU σ 5 1 f) 5 2 t) 5 3 (nI 0)) 5 4 (nI 0)) := (((hI.u (by decide)).u (by decide)).u (by decide)).u (by decide)
  refine ⟨h4.arr hp hg 0, ?_, ?_, ?_⟩
  · exact ⟨1, by decide, rfl⟩
  · exact hf
  · exact ht
theorem cCarry_inv {σ : jS} (hI : cInv σ) {f t p g : Int32} (hf : okP 7 f) (ht : okQ 7 t) (hp : okP 24 p) (hg : okQ 4 g) : cInv (cCarry σ f t p g) := (cRun_ok 61 0 _ rfl (cStart_ok hI hf ht hp hg)).1.u (by decide)

set_option maxHeartbeats 4000000 in
set_option maxRecDepth 100000 in
theorem mK_goOut (l : Launch) (D : va_G) (a : Nat → Nat) (cI cZ : ClassId) (σ : jS) (p : Nat) (tag : Int32) (hp : p < 24) (hA : okP 62 (σ 5 0)) : jV l yK_goOut w_K_goOut (rmD 0) D (jTys cI cZ) [.ref (a 5), .int (nI p), .int (tag)] (wC a cI cZ σ) (wC a cI cZ (cGoOut σ p tag)) := by
  refine jV_of (ws' := jG) (by decide) rfl (Nat.le_of_ble_eq_true rfl) ?_
  intro X hF hk
  show jJ l D (rmD 0) 5 X (wC a cI cZ σ) 0 [(0, .ref (a 5)), (1, .int (nI p)), (2, .int (tag))] []
  refine jq_aload_n (pc := 0) hF 0 dK_goOut_0 rfl ?_
  refine Cg_K_62 (pc := 1) hF dK_goOut_1 ?_
  refine jq_bipush (pc := 4) hF dK_goOut_4 bi_60 ?_
  refine jq_icmp_lt (pc := 6) hF 10 dK_goOut_6 rfl (fun h6 => ?_) (fun h6 => ?_)
  · refine jq_aload_n (pc := 10) hF 0 dK_goOut_10 rfl ?_
    refine jq_dup (pc := 11) hF dK_goOut_11 rfl ?_
    refine Cg_K_62 (pc := 12) hF dK_goOut_12 ?_
    refine jq_iconst (pc := 15) hF dK_goOut_15 ic_1 ?_
    refine jq_iadd (pc := 16) hF dK_goOut_16 ?_
    refine Cp_K_62 (pc := 17) hF dK_goOut_17 ?_
    refine jq_aload_n (pc := 20) hF 0 dK_goOut_20 rfl ?_
    refine Cg_K_18 (pc := 21) hF dK_goOut_21 ?_
    refine Cg_K_106 (pc := 24) hF dK_goOut_24 ?_
    refine jq_iload_n (pc := 27) hF 1 dK_goOut_27 rfl ?_
    refine Cl_14 (pc := 28) hF (by omega) dK_goOut_28 ?_
    refine jq_istore_n (pc := 29) hF [(3, .int ((sU σ 5 3 ((σ 5 3) + (nI (1)))) 14 (p))), (0, .ref (a 5)), (1, .int (nI p)), (2, .int (tag))] dK_goOut_29 (Nat.le_of_ble_eq_true rfl) rfl ?_
    refine jq_aload_n (pc := 30) hF 1 dK_goOut_30 rfl ?_
    refine Cg_K_18 (pc := 31) hF dK_goOut_31 ?_
    refine Cg_K_109 (pc := 34) hF dK_goOut_34 ?_
    refine jq_iload_n (pc := 37) hF 2 dK_goOut_37 rfl ?_
    refine Cl_13 (pc := 38) hF (by omega) dK_goOut_38 ?_
    refine jq_istore (pc := 39) hF [(4, .int ((sU σ 5 3 ((σ 5 3) + (nI (1)))) 13 (p))), (3, .int ((sU σ 5 3 ((σ 5 3) + (nI (1)))) 14 (p))), (0, .ref (a 5)), (1, .int (nI p)), (2, .int (tag))] dK_goOut_39 (Nat.le_of_ble_eq_true rfl) rfl ?_
    have j69 : jJ l D (rmD 0) 5 X (wC a cI cZ (cGoR (sU σ 5 3 (σ 5 3 + nI 1)) (σ 14 p) tag)) 69 [(4, .int ((sU σ 5 3 ((σ 5 3) + (nI (1)))) 13 (p))), (3, .int ((sU σ 5 3 ((σ 5 3) + (nI (1)))) 14 (p))), (0, .ref (a 5)), (1, .int (nI p)), (2, .int (tag))] [] := by
      refine jq_iload (pc := 69) hF 0 dK_goOut_69 rfl ?_
      refine jq_iconst (pc := 71) hF dK_goOut_71 ic_m1 ?_
      refine jq_icmp_eq (pc := 72) hF 118 dK_goOut_72 rfl (fun h72 => ?_) (fun h72 => ?_)
      · exact jq_at (hk 118 _ dK_goOut_118) (congrArg (wC a cI cZ) (by first | exact (if_pos h6).trans (if_pos h72) | exact (if_pos h6).trans ((if_neg h72).trans (if_pos h84)) | exact (if_pos h6).trans ((if_neg h72).trans (if_neg h84)))) rfl rfl rfl
      · refine jq_aload_n (pc := 75) hF 2 dK_goOut_75 rfl ?_
        refine Cg_K_68 (pc := 76) hF dK_goOut_76 ?_
        refine jq_aload_n (pc := 79) hF 2 dK_goOut_79 rfl ?_
        refine Cg_K_9 (pc := 80) hF dK_goOut_80 ?_
        refine jq_alen (pc := 83) hF 33 0 rfl rfl dK_goOut_83 ?_
        refine jq_icmp_ge (pc := 84) hF 118 dK_goOut_84 rfl (fun h84 => ?_) (fun h84 => ?_)
        · exact jq_at (hk 118 _ dK_goOut_118) (congrArg (wC a cI cZ) (by first | exact (if_pos h6).trans (if_pos h72) | exact (if_pos h6).trans ((if_neg h72).trans (if_pos h84)) | exact (if_pos h6).trans ((if_neg h72).trans (if_neg h84)))) rfl rfl rfl
        · refine jq_aload_n (pc := 87) hF 2 dK_goOut_87 rfl ?_
          refine Cg_K_9 (pc := 88) hF dK_goOut_88 ?_
          refine jq_aload_n (pc := 91) hF 2 dK_goOut_91 rfl ?_
          refine Cg_K_68 (pc := 92) hF dK_goOut_92 ?_
          refine jq_iload (pc := 95) hF 0 dK_goOut_95 rfl ?_
          refine CS_33 (pc := 97) hF (cnt_in (by rw [cGoR_5 _ _ _ (by decide)]; exact hA) h84) dK_goOut_97 ?_
          refine jq_aload_n (pc := 98) hF 2 dK_goOut_98 rfl ?_
          refine Cg_K_15 (pc := 99) hF dK_goOut_99 ?_
          refine jq_aload_n (pc := 102) hF 2 dK_goOut_102 rfl ?_
          refine Cg_K_68 (pc := 103) hF dK_goOut_103 ?_
          refine jq_iload_n (pc := 106) hF 4 dK_goOut_106 rfl ?_
          refine CS_34 (pc := 107) hF (cnt_in (by show okP 62 (cGoR (sU σ 5 3 (σ 5 3 + nI 1)) (σ 14 p) tag 5 0); rw [cGoR_5 _ _ _ (by decide)]; exact hA) h84) dK_goOut_107 ?_
          refine jq_aload_n (pc := 108) hF 2 dK_goOut_108 rfl ?_
          refine jq_dup (pc := 109) hF dK_goOut_109 rfl ?_
          refine Cg_K_68 (pc := 110) hF dK_goOut_110 ?_
          refine jq_iconst (pc := 113) hF dK_goOut_113 ic_1 ?_
          refine jq_iadd (pc := 114) hF dK_goOut_114 ?_
          refine Cp_K_68 (pc := 115) hF dK_goOut_115 ?_
          exact jq_at (hk 118 _ dK_goOut_118) (congrArg (wC a cI cZ) (by first | exact (if_pos h6).trans (if_pos h72) | exact (if_pos h6).trans ((if_neg h72).trans (if_pos h84)) | exact (if_pos h6).trans ((if_neg h72).trans (if_neg h84)))) rfl rfl rfl
    refine jq_iload_n (pc := 41) hF 1 dK_goOut_41 rfl ?_
    refine jq_bipush (pc := 42) hF dK_goOut_42 bi_6 ?_
    refine jq_icmp_eq (pc := 44) hF 57 dK_goOut_44 rfl (fun h44 => ?_) (fun h44 => ?_)
    · refine jq_aload_n (pc := 57) hF 2 dK_goOut_57 rfl ?_
      refine jq_dup (pc := 58) hF dK_goOut_58 rfl ?_
      refine Cg_K_65 (pc := 59) hF dK_goOut_59 ?_
      refine jq_iconst (pc := 62) hF dK_goOut_62 ic_1 ?_
      refine jq_iload_n (pc := 63) hF 1 dK_goOut_63 rfl ?_
      refine jq_ishl (pc := 64) hF dK_goOut_64 ?_
      refine jq_ior (pc := 65) hF dK_goOut_65 ?_
      refine Cp_K_65 (pc := 66) hF dK_goOut_66 ?_
      exact jq_at j69 (congrArg (wC a cI cZ) (by first | exact if_pos (Or.inl h44) | exact if_pos (Or.inr ⟨h49, h54⟩) | (refine if_neg (fun e => ?_); rcases e with e | e; exact h44 e; first | exact e.1 h49 | exact h54 e.2))) rfl rfl rfl
    · refine jq_iload_n (pc := 47) hF 1 dK_goOut_47 rfl ?_
      refine jq_iconst (pc := 48) hF dK_goOut_48 ic_m1 ?_
      refine jq_icmp_eq (pc := 49) hF 69 dK_goOut_49 rfl (fun h49 => ?_) (fun h49 => ?_)
      · exact jq_at j69 (congrArg (wC a cI cZ) (by first | exact if_pos (Or.inl h44) | exact if_pos (Or.inr ⟨h49, h54⟩) | (refine if_neg (fun e => ?_); rcases e with e | e; exact h44 e; first | exact e.1 h49 | exact h54 e.2))) rfl rfl rfl
      · refine jq_iload_n (pc := 52) hF 4 dK_goOut_52 rfl ?_
        refine jq_iconst (pc := 53) hF dK_goOut_53 ic_m1 ?_
        refine jq_icmp_ne (pc := 54) hF 69 dK_goOut_54 rfl (fun h54 => ?_) (fun h54 => ?_)
        · exact jq_at j69 (congrArg (wC a cI cZ) (by first | exact if_pos (Or.inl h44) | exact if_pos (Or.inr ⟨h49, h54⟩) | (refine if_neg (fun e => ?_); rcases e with e | e; exact h44 e; first | exact e.1 h49 | exact h54 e.2))) rfl rfl rfl
        · refine jq_aload_n (pc := 57) hF 2 dK_goOut_57 rfl ?_
          refine jq_dup (pc := 58) hF dK_goOut_58 rfl ?_
          refine Cg_K_65 (pc := 59) hF dK_goOut_59 ?_
          refine jq_iconst (pc := 62) hF dK_goOut_62 ic_1 ?_
          refine jq_iload_n (pc := 63) hF 1 dK_goOut_63 rfl ?_
          refine jq_ishl (pc := 64) hF dK_goOut_64 ?_
          refine jq_ior (pc := 65) hF dK_goOut_65 ?_
          refine Cp_K_65 (pc := 66) hF dK_goOut_66 ?_
          exact jq_at j69 (congrArg (wC a cI cZ) (by first | exact if_pos (Or.inl h44) | exact if_pos (Or.inr ⟨h49, h54⟩) | (refine if_neg (fun e => ?_); rcases e with e | e; exact h44 e; first | exact e.1 h49 | exact h54 e.2))) rfl rfl rfl
  · exact jq_at (hk 9 _ dK_goOut_9) (congrArg (wC a cI cZ) (by exact if_neg h6)) rfl rfl rfl
set_option maxHeartbeats 4000000 in
set_option maxRecDepth 100000 in
theorem mK_forward (l : Launch) (D : va_G) (a : Nat → Nat) (cI cZ : ClassId) (σ : jS) (p : Nat) (nw : Nat) (hp : p < 24) (hn : nw < 4) (hS : cOkS σ) : jV l yK_forward w_K_forward (rmD 1) D (jTys cI cZ) [.ref (a 5), .int (nI p), .int (nI nw)] (wC a cI cZ σ) (wC a cI cZ (cForward σ p nw)) := by
  refine jV_of (ws' := jG) (by decide) rfl (Nat.le_of_ble_eq_true rfl) ?_
  intro X hF hk
  show jJ l D (rmD 1) 8 X (wC a cI cZ σ) 0 [(0, .ref (a 5)), (1, .int (nI p)), (2, .int (nI nw))] []
  refine jq_iload_n (pc := 0) hF 1 dK_forward_0 rfl ?_
  refine jq_iconst (pc := 1) hF dK_forward_1 ic_4 ?_
  refine jq_idivN (pc := 2) hF (by omega) (by decide) (by decide) dK_forward_2 ?_
  refine jq_istore_n (pc := 3) hF [(3, .int (nI (p / 4))), (0, .ref (a 5)), (1, .int (nI p)), (2, .int (nI nw))] dK_forward_3 (Nat.le_of_ble_eq_true rfl) rfl ?_
  refine jq_aload_n (pc := 4) hF 1 dK_forward_4 rfl ?_
  refine Cg_K_59 (pc := 5) hF dK_forward_5 ?_
  refine jq_iconst (pc := 8) hF dK_forward_8 ic_m1 ?_
  have j29 : jJ l D (rmD 1) 8 X (wC a cI cZ σ) 29 [(3, .int (nI (p / 4))), (0, .ref (a 5)), (1, .int (nI p)), (2, .int (nI nw))] [.int (if ¬ (σ 5 2 = -1) then cPort σ (p / 4) (nw) ((σ 5 2).toNatClampNeg) else -1)] := by
    refine jq_top (cKnown σ p nw) (rfl) ?_
    refine jq_istore (pc := 29) hF [(4, .int (cKnown σ p nw)), (3, .int (nI (p / 4))), (0, .ref (a 5)), (1, .int (nI p)), (2, .int (nI nw))] dK_forward_29 (Nat.le_of_ble_eq_true rfl) rfl ?_
    refine jq_iconst (pc := 31) hF dK_forward_31 ic_0 ?_
    refine jq_istore (pc := 32) hF [(5, .int (nI 0)), (4, .int (cKnown σ p nw)), (3, .int (nI (p / 4))), (0, .ref (a 5)), (1, .int (nI p)), (2, .int (nI nw))] dK_forward_32 (Nat.le_of_ble_eq_true rfl) rfl ?_
    have lp34 : ∀ k, k ≤ 4 → jJ l D (rmD 1) 8 X (wC a cI cZ (forN (cFwd1 p nw (cKnown σ p nw)) σ k)) 34 [(5, .int (nI k)), (4, .int (cKnown σ p nw)), (3, .int (nI (p / 4))), (0, .ref (a 5)), (1, .int (nI p)), (2, .int (nI nw))] [] := by
      refine loop_up (fun k hi ih => ?_)
      have hSk := cFwdN_ok hS (cKnown σ p nw) hp hn k hi
      refine jq_iload (pc := 34) hF 0 dK_forward_34 rfl ?_
      refine jq_iconst (pc := 36) hF dK_forward_36 ic_4 ?_
      refine jq_icmp_geN (pc := 37) hF 128 (by omega) (by omega) dK_forward_37 rfl (fun h37 => ?_) (fun h37 => ?_)
      · obtain rfl : k = 4 := by omega
        exact jq_at (hk 128 _ dK_forward_128) (congrArg (wC a cI cZ) (by rfl)) rfl rfl rfl
      · refine jq_iconst (pc := 40) hF dK_forward_40 ic_4 ?_
        refine jq_iload_n (pc := 41) hF 2 dK_forward_41 rfl ?_
        refine jq_imulN (pc := 42) hF dK_forward_42 ?_
        refine jq_iload (pc := 43) hF 0 dK_forward_43 rfl ?_
        refine jq_iaddN (pc := 45) hF dK_forward_45 ?_
        refine jq_istore (pc := 46) hF [(6, .int (nI (4 * (p / 4) + k))), (5, .int (nI k)), (4, .int (cKnown σ p nw)), (3, .int (nI (p / 4))), (0, .ref (a 5)), (1, .int (nI p)), (2, .int (nI nw))] dK_forward_46 (Nat.le_of_ble_eq_true rfl) rfl ?_
        have j72 : jJ l D (rmD 1) 8 X (wC a cI cZ (forN (cFwd1 p nw (cKnown σ p nw)) σ k)) 72 [(6, .int (nI (4 * (p / 4) + k))), (5, .int (nI k)), (4, .int (cKnown σ p nw)), (3, .int (nI (p / 4))), (0, .ref (a 5)), (1, .int (nI p)), (2, .int (nI nw))] [.int (bI (!decide (4 * (p / 4) + k = p) && (decide (cKnown σ p nw = -1) || decide (cKnown σ p nw = nI k))))] := by
          refine jq_istore (pc := 72) hF [(7, .int (bI (!decide (4 * (p / 4) + k = p) && (decide (cKnown σ p nw = -1) || decide (cKnown σ p nw = nI k))))), (6, .int (nI (4 * (p / 4) + k))), (5, .int (nI k)), (4, .int (cKnown σ p nw)), (3, .int (nI (p / 4))), (0, .ref (a 5)), (1, .int (nI p)), (2, .int (nI nw))] dK_forward_72 (Nat.le_of_ble_eq_true rfl) rfl ?_
          refine jq_iload (pc := 74) hF 0 dK_forward_74 rfl ?_
          refine jq_if_eqB (pc := 76) hF 122 dK_forward_76 rfl (fun h76 => ?_) (fun h76 => ?_)
          · refine jq_iincN (pc := 122) hF 2 [(5, .int (nI (k + 1))), (7, .int (bI (!decide (4 * (p / 4) + k = p) && (decide (cKnown σ p nw = -1) || decide (cKnown σ p nw = nI k))))), (6, .int (nI (4 * (p / 4) + k))), (4, .int (cKnown σ p nw)), (3, .int (nI (p / 4))), (0, .ref (a 5)), (1, .int (nI p)), (2, .int (nI nw))] dK_forward_122 rfl (Nat.le_of_ble_eq_true rfl) rfl ?_
            refine jq_goto (pc := 125) hF 34 dK_forward_125 rfl ?_
            refine jq_sub [(5, .int (nI (k + 1))), (4, .int (cKnown σ p nw)), (3, .int (nI (p / 4))), (0, .ref (a 5)), (1, .int (nI p)), (2, .int (nI nw))] [0, 3, 4, 5, 6, 7] rfl ?_
            exact jq_at (ih (by omega)) (congrArg (wC a cI cZ) (by first | exact if_neg (by rw [h76]; decide) | exact (if_pos h76).trans (if_pos h90) | exact (if_pos h76).trans ((if_neg (fun e => e h90)).trans (if_neg (by rw [h103]; decide))) | exact (if_pos h76).trans ((if_neg (fun e => e h90)).trans (if_pos h103)))) rfl rfl rfl
          · refine jq_aload_n (pc := 79) hF 5 dK_forward_79 rfl ?_
            refine Cg_K_26 (pc := 80) hF dK_forward_80 ?_
            refine Cg_K_78 (pc := 83) hF dK_forward_83 ?_
            refine jq_iload (pc := 86) hF 1 dK_forward_86 rfl ?_
            refine Cl_27 (pc := 88) hF (by omega) dK_forward_88 ?_
            refine jq_iconst (pc := 89) hF dK_forward_89 ic_3 ?_
            refine jq_icmp_ne (pc := 90) hF 122 dK_forward_90 rfl (fun h90 => ?_) (fun h90 => ?_)
            · refine jq_iincN (pc := 122) hF 2 [(5, .int (nI (k + 1))), (7, .int (bI (!decide (4 * (p / 4) + k = p) && (decide (cKnown σ p nw = -1) || decide (cKnown σ p nw = nI k))))), (6, .int (nI (4 * (p / 4) + k))), (4, .int (cKnown σ p nw)), (3, .int (nI (p / 4))), (0, .ref (a 5)), (1, .int (nI p)), (2, .int (nI nw))] dK_forward_122 rfl (Nat.le_of_ble_eq_true rfl) rfl ?_
              refine jq_goto (pc := 125) hF 34 dK_forward_125 rfl ?_
              refine jq_sub [(5, .int (nI (k + 1))), (4, .int (cKnown σ p nw)), (3, .int (nI (p / 4))), (0, .ref (a 5)), (1, .int (nI p)), (2, .int (nI nw))] [0, 3, 4, 5, 6, 7] rfl ?_
              exact jq_at (ih (by omega)) (congrArg (wC a cI cZ) (by first | exact if_neg (by rw [h76]; decide) | exact (if_pos h76).trans (if_pos h90) | exact (if_pos h76).trans ((if_neg (fun e => e h90)).trans (if_neg (by rw [h103]; decide))) | exact (if_pos h76).trans ((if_neg (fun e => e h90)).trans (if_pos h103)))) rfl rfl rfl
            · refine jq_aload_n (pc := 93) hF 5 dK_forward_93 rfl ?_
              refine Cg_K_22 (pc := 94) hF dK_forward_94 ?_
              refine jq_iload (pc := 97) hF 1 dK_forward_97 rfl ?_
              refine jq_iload_n (pc := 99) hF 7 dK_forward_99 rfl ?_
              refine jq_cVI (pc := 100) hF (As := [.int (nI (4 * (p / 4) + k)), .int (nI nw)]) (rest := []) (mW_isMember l D a cI cZ (forN (cFwd1 p nw (cKnown σ p nw)) σ k) (4 * (p / 4) + k) (nI (nw)) (by omega)) (jG_v mL_K_99 mI_W_isMember mS_W_isMember mZ_W mC_W_isMember) rfl rfl rfl dd_W_isMember ⟨Nat.le_of_ble_eq_true rfl, Nat.le_of_ble_eq_true rfl⟩ 2 rfl rfl rfl rfl (Nat.le_of_ble_eq_true rfl) dK_forward_100 ?_
              refine jq_if_eqB (pc := 103) hF 122 dK_forward_103 rfl (fun h103 => ?_) (fun h103 => ?_)
              · refine jq_iincN (pc := 122) hF 2 [(5, .int (nI (k + 1))), (7, .int (bI (!decide (4 * (p / 4) + k = p) && (decide (cKnown σ p nw = -1) || decide (cKnown σ p nw = nI k))))), (6, .int (nI (4 * (p / 4) + k))), (4, .int (cKnown σ p nw)), (3, .int (nI (p / 4))), (0, .ref (a 5)), (1, .int (nI p)), (2, .int (nI nw))] dK_forward_122 rfl (Nat.le_of_ble_eq_true rfl) rfl ?_
                refine jq_goto (pc := 125) hF 34 dK_forward_125 rfl ?_
                refine jq_sub [(5, .int (nI (k + 1))), (4, .int (cKnown σ p nw)), (3, .int (nI (p / 4))), (0, .ref (a 5)), (1, .int (nI p)), (2, .int (nI nw))] [0, 3, 4, 5, 6, 7] rfl ?_
                exact jq_at (ih (by omega)) (congrArg (wC a cI cZ) (by first | exact if_neg (by rw [h76]; decide) | exact (if_pos h76).trans (if_pos h90) | exact (if_pos h76).trans ((if_neg (fun e => e h90)).trans (if_neg (by rw [h103]; decide))) | exact (if_pos h76).trans ((if_neg (fun e => e h90)).trans (if_pos h103)))) rfl rfl rfl
              · refine jq_aload_n (pc := 106) hF 5 dK_forward_106 rfl ?_
                refine jq_iload (pc := 107) hF 1 dK_forward_107 rfl ?_
                refine jq_aload_n (pc := 109) hF 5 dK_forward_109 rfl ?_
                refine Cg_K_22 (pc := 110) hF dK_forward_110 ?_
                refine jq_iload (pc := 113) hF 1 dK_forward_113 rfl ?_
                refine jq_iload_n (pc := 115) hF 7 dK_forward_115 rfl ?_
                refine jq_cVI (pc := 116) hF (As := [.int (nI (4 * (p / 4) + k)), .int (nI nw)]) (rest := [.int (nI (4 * (p / 4) + k)), .ref (a 5)]) (mW_tagOutside l D a cI cZ (forN (cFwd1 p nw (cKnown σ p nw)) σ k) (4 * (p / 4) + k) (nI (nw)) (by omega)) (jG_v mL_K_50 mI_W_tagOutside mS_W_tagOutside mZ_W mC_W_tagOutside) rfl rfl rfl dd_W_tagOutside ⟨Nat.le_of_ble_eq_true rfl, Nat.le_of_ble_eq_true rfl⟩ 2 rfl rfl rfl rfl (Nat.le_of_ble_eq_true rfl) dK_forward_116 ?_
                refine jq_cVV (pc := 119) hF (As := [.int (nI (4 * (p / 4) + k)), .int (cTagOut (forN (cFwd1 p nw (cKnown σ p nw)) σ k) (4 * (p / 4) + k) (nI (nw)))]) (rest := []) (mK_goOut l D a cI cZ (forN (cFwd1 p nw (cKnown σ p nw)) σ k) (4 * (p / 4) + k) (cTagOut (forN (cFwd1 p nw (cKnown σ p nw)) σ k) (4 * (p / 4) + k) (nI (nw))) (by omega) hSk.2.1) (jG_v mL_K_103 mI_K_goOut mS_K_goOut mZ_K mC_K_goOut) rfl rfl rfl dd_K_goOut ⟨Nat.le_of_ble_eq_true rfl, Nat.le_of_ble_eq_true rfl⟩ 5 rfl rfl rfl rfl (Nat.le_of_ble_eq_true rfl) dK_forward_119 ?_
                refine jq_iincN (pc := 122) hF 2 [(5, .int (nI (k + 1))), (7, .int (bI (!decide (4 * (p / 4) + k = p) && (decide (cKnown σ p nw = -1) || decide (cKnown σ p nw = nI k))))), (6, .int (nI (4 * (p / 4) + k))), (4, .int (cKnown σ p nw)), (3, .int (nI (p / 4))), (0, .ref (a 5)), (1, .int (nI p)), (2, .int (nI nw))] dK_forward_122 rfl (Nat.le_of_ble_eq_true rfl) rfl ?_
                refine jq_goto (pc := 125) hF 34 dK_forward_125 rfl ?_
                refine jq_sub [(5, .int (nI (k + 1))), (4, .int (cKnown σ p nw)), (3, .int (nI (p / 4))), (0, .ref (a 5)), (1, .int (nI p)), (2, .int (nI nw))] [0, 3, 4, 5, 6, 7] rfl ?_
                exact jq_at (ih (by omega)) (congrArg (wC a cI cZ) (by first | exact if_neg (by rw [h76]; decide) | exact (if_pos h76).trans (if_pos h90) | exact (if_pos h76).trans ((if_neg (fun e => e h90)).trans (if_neg (by rw [h103]; decide))) | exact (if_pos h76).trans ((if_neg (fun e => e h90)).trans (if_pos h103)))) rfl rfl rfl
        refine jq_iload (pc := 48) hF 0 dK_forward_48 rfl ?_
        refine jq_iload_n (pc := 50) hF 5 dK_forward_50 rfl ?_
        refine jq_icmp_eqN (pc := 51) hF 71 (by omega) (by omega) dK_forward_51 rfl (fun h51 => ?_) (fun h51 => ?_)
        · refine jq_iconst (pc := 71) hF dK_forward_71 ic_0 ?_
          exact jq_at j72 rfl rfl rfl (congrArg (fun z => Value.int z :: []) (bI0 (by simp [h37, h51])))
        · refine jq_iload (pc := 54) hF 2 dK_forward_54 rfl ?_
          refine jq_iconst (pc := 56) hF dK_forward_56 ic_m1 ?_
          refine jq_icmp_eq (pc := 57) hF 67 dK_forward_57 rfl (fun h57 => ?_) (fun h57 => ?_)
          · refine jq_iconst (pc := 67) hF dK_forward_67 ic_1 ?_
            refine jq_goto (pc := 68) hF 72 dK_forward_68 rfl ?_
            exact jq_at j72 rfl rfl rfl (congrArg (fun z => Value.int z :: []) (bI1 (by simp [h37, h51, h57])))
          · refine jq_iload (pc := 60) hF 2 dK_forward_60 rfl ?_
            refine jq_iload (pc := 62) hF 1 dK_forward_62 rfl ?_
            refine jq_icmp_ne (pc := 64) hF 71 dK_forward_64 rfl (fun h64 => ?_) (fun h64 => ?_)
            · refine jq_iconst (pc := 71) hF dK_forward_71 ic_0 ?_
              exact jq_at j72 rfl rfl rfl (congrArg (fun z => Value.int z :: []) (bI0 (by simp [h37, h51, h57, h64])))
            · refine jq_iconst (pc := 67) hF dK_forward_67 ic_1 ?_
              refine jq_goto (pc := 68) hF 72 dK_forward_68 rfl ?_
              exact jq_at j72 rfl rfl rfl (congrArg (fun z => Value.int z :: []) (bI1 (by simp [h37, h51, h57, h64])))
    exact jq_at (lp34 0 (by omega)) rfl rfl rfl rfl
  refine jq_icmp_ne (pc := 9) hF 16 dK_forward_9 rfl (fun h9 => ?_) (fun h9 => ?_)
  · refine jq_aload_n (pc := 16) hF 1 dK_forward_16 rfl ?_
    refine Cg_K_30 (pc := 17) hF dK_forward_17 ?_
    refine jq_iload_n (pc := 20) hF 0 dK_forward_20 rfl ?_
    refine jq_iload_n (pc := 21) hF 3 dK_forward_21 rfl ?_
    refine jq_aload_n (pc := 22) hF 1 dK_forward_22 rfl ?_
    refine Cg_K_59 (pc := 23) hF dK_forward_23 ?_
    refine jq_top (nI ((σ 5 2).toNatClampNeg)) ((hS.2.2.2.cl h9 (by decide)).2) ?_
    refine jq_cVI (pc := 26) hF (As := [.int (nI (p / 4)), .int (nI nw), .int (nI ((σ 5 2).toNatClampNeg))]) (rest := []) (mB_portOf l D a cI cZ σ (p / 4) (nw) ((σ 5 2).toNatClampNeg) (by omega) hn (hS.2.2.2.cl h9 (by decide)).1) (jG_v mL_K_95 mI_B_portOf mS_B_portOf mZ_B mC_B_portOf) rfl rfl rfl dd_B_portOf ⟨Nat.le_of_ble_eq_true rfl, Nat.le_of_ble_eq_true rfl⟩ 4 rfl rfl rfl rfl (Nat.le_of_ble_eq_true rfl) dK_forward_26 ?_
    exact jq_at j29 rfl rfl rfl (by rw [if_pos h9])
  · refine jq_iconst (pc := 12) hF dK_forward_12 ic_m1 ?_
    refine jq_goto (pc := 13) hF 29 dK_forward_13 rfl ?_
    exact jq_at j29 rfl rfl rfl (by rw [if_neg (show ¬ (¬ (σ 5 2 = -1)) by simp [h9])])
set_option maxHeartbeats 4000000 in
set_option maxRecDepth 100000 in
theorem mK_handleArrival (l : Launch) (D : va_G) (a : Nat → Nat) (cI cZ : ClassId) (σ : jS) (p : Nat) (tag : Int32) (hp : p < 24) (ht : okQ 4 tag) (hS : cOkS σ) : jV l yK_handleArrival w_K_handleArrival (rmD 2) D (jTys cI cZ) [.ref (a 5), .int (nI p), .int (tag)] (wC a cI cZ σ) (wC a cI cZ (cHandle σ p tag)) := by
  refine jV_of (ws' := jG) (by decide) rfl (Nat.le_of_ble_eq_true rfl) ?_
  intro X hF hk
  show jJ l D (rmD 2) 4 X (wC a cI cZ σ) 0 [(0, .ref (a 5)), (1, .int (nI p)), (2, .int (tag))] []
  refine jq_aload_n (pc := 0) hF 0 dK_handleArrival_0 rfl ?_
  refine Cg_K_22 (pc := 1) hF dK_handleArrival_1 ?_
  refine jq_iload_n (pc := 4) hF 1 dK_handleArrival_4 rfl ?_
  refine jq_iload_n (pc := 5) hF 2 dK_handleArrival_5 rfl ?_
  refine jq_cVI (pc := 6) hF (As := [.int (nI p), .int (tag)]) (rest := []) (mW_networkInside l D a cI cZ σ (p) (tag) (by omega)) (jG_v mL_K_75 mI_W_networkInside mS_W_networkInside mZ_W mC_W_networkInside) rfl rfl rfl dd_W_networkInside ⟨Nat.le_of_ble_eq_true rfl, Nat.le_of_ble_eq_true rfl⟩ 2 rfl rfl rfl rfl (Nat.le_of_ble_eq_true rfl) dK_handleArrival_6 ?_
  refine jq_istore_n (pc := 9) hF [(3, .int (cInside σ (p) (tag))), (0, .ref (a 5)), (1, .int (nI p)), (2, .int (tag))] dK_handleArrival_9 (Nat.le_of_ble_eq_true rfl) rfl ?_
  refine jq_aload_n (pc := 10) hF 1 dK_handleArrival_10 rfl ?_
  refine Cg_K_26 (pc := 11) hF dK_handleArrival_11 ?_
  refine Cg_K_78 (pc := 14) hF dK_handleArrival_14 ?_
  refine jq_iload_n (pc := 17) hF 2 dK_handleArrival_17 rfl ?_
  refine Cl_27 (pc := 18) hF (by omega) dK_handleArrival_18 ?_
  refine jq_iconst (pc := 19) hF dK_handleArrival_19 ic_2 ?_
  refine jq_icmp_lt (pc := 20) hF 28 dK_handleArrival_20 rfl (fun h20 => ?_) (fun h20 => ?_)
  · exact jq_at (hk 28 _ dK_handleArrival_28) (congrArg (wC a cI cZ) (by first | exact if_pos h20 | exact (if_neg h20).trans (if_neg (fun e => e h25)))) rfl rfl rfl
  · refine jq_iload_n (pc := 23) hF 0 dK_handleArrival_23 rfl ?_
    refine jq_iconst (pc := 24) hF dK_handleArrival_24 ic_m1 ?_
    refine jq_icmp_ne (pc := 25) hF 29 dK_handleArrival_25 rfl (fun h25 => ?_) (fun h25 => ?_)
    · refine jq_aload_n (pc := 29) hF 1 dK_handleArrival_29 rfl ?_
      refine Cg_K_30 (pc := 30) hF dK_handleArrival_30 ?_
      refine jq_iload_n (pc := 33) hF 2 dK_handleArrival_33 rfl ?_
      refine jq_iload_n (pc := 34) hF 0 dK_handleArrival_34 rfl ?_
      refine jq_top (nI ((cInside σ p tag).toNatClampNeg)) (((cInside_ok hS.1 hp ht).cl h25 (by decide)).2) ?_
      refine jq_aload_n (pc := 35) hF 1 dK_handleArrival_35 rfl ?_
      refine Cg_K_56 (pc := 36) hF dK_handleArrival_36 ?_
      refine jq_top (nI ((σ 5 1).toNatClampNeg)) ((hS.2.2.1.cl (by decide)).2) ?_
      refine jq_aload_n (pc := 39) hF 1 dK_handleArrival_39 rfl ?_
      refine Cg_K_26 (pc := 40) hF dK_handleArrival_40 ?_
      refine Cg_K_83 (pc := 43) hF dK_handleArrival_43 ?_
      refine jq_cVV (pc := 46) hF (As := [.int (nI p), .int (nI ((cInside σ p tag).toNatClampNeg)), .int (nI ((σ 5 1).toNatClampNeg)), .int (σ 3 2)]) (rest := []) (mB_learn l D a cI cZ σ (p) ((cInside σ p tag).toNatClampNeg) ((σ 5 1).toNatClampNeg) (σ 3 2) hp ((cInside_ok hS.1 hp ht).cl h25 (by decide)).1 (hS.2.2.1.cl (by decide)).1) (jG_v mL_K_86 mI_B_learn mS_B_learn mZ_B mC_B_learn) rfl rfl rfl dd_B_learn ⟨Nat.le_of_ble_eq_true rfl, Nat.le_of_ble_eq_true rfl⟩ 4 rfl rfl rfl rfl (Nat.le_of_ble_eq_true rfl) dK_handleArrival_46 ?_
      refine jq_w (wC a cI cZ (cLearnS σ p tag)) (congrArg (wC a cI cZ) (by rfl)) ?_
      refine jq_aload_n (pc := 49) hF 1 dK_handleArrival_49 rfl ?_
      refine Cg_K_26 (pc := 50) hF dK_handleArrival_50 ?_
      refine Cg_K_78 (pc := 53) hF dK_handleArrival_53 ?_
      refine jq_iload_n (pc := 56) hF 2 dK_handleArrival_56 rfl ?_
      refine Cl_27 (pc := 57) hF (by omega) dK_handleArrival_57 ?_
      refine jq_iconst (pc := 58) hF dK_handleArrival_58 ic_3 ?_
      refine jq_icmp_ne (pc := 59) hF 68 dK_handleArrival_59 rfl (fun h59 => ?_) (fun h59 => ?_)
      · exact jq_at (hk 68 _ dK_handleArrival_68) (congrArg (wC a cI cZ) (by first | exact (if_neg h20).trans ((if_pos h25).trans (if_pos h59)) | exact (if_neg h20).trans ((if_pos h25).trans (if_neg (fun e => e h59))))) rfl rfl rfl
      · refine jq_aload_n (pc := 62) hF 1 dK_handleArrival_62 rfl ?_
        refine jq_iload_n (pc := 63) hF 2 dK_handleArrival_63 rfl ?_
        refine jq_iload_n (pc := 64) hF 0 dK_handleArrival_64 rfl ?_
        refine jq_top (nI ((cInside σ p tag).toNatClampNeg)) (((cInside_ok hS.1 hp ht).cl h25 (by decide)).2) ?_
        refine jq_cVV (pc := 65) hF (As := [.int (nI p), .int (nI ((cInside σ p tag).toNatClampNeg))]) (rest := []) (mK_forward l D a cI cZ (cLearnS σ p tag) (p) ((cInside σ p tag).toNatClampNeg) hp ((cInside_ok hS.1 hp ht).cl h25 (by decide)).1 (cLearnS_ok hS p tag)) (jG_v mL_K_92 mI_K_forward mS_K_forward mZ_K mC_K_forward) rfl rfl rfl dd_K_forward ⟨Nat.le_of_ble_eq_true rfl, Nat.le_of_ble_eq_true rfl⟩ 5 rfl rfl rfl rfl (Nat.le_of_ble_eq_true rfl) dK_handleArrival_65 ?_
        exact jq_at (hk 68 _ dK_handleArrival_68) (congrArg (wC a cI cZ) (by first | exact (if_neg h20).trans ((if_pos h25).trans (if_pos h59)) | exact (if_neg h20).trans ((if_pos h25).trans (if_neg (fun e => e h59))))) rfl rfl rfl
    · exact jq_at (hk 28 _ dK_handleArrival_28) (congrArg (wC a cI cZ) (by first | exact if_pos h20 | exact (if_neg h20).trans (if_neg (fun e => e h25)))) rfl rfl rfl
set_option maxHeartbeats 4000000 in
set_option maxRecDepth 100000 in
theorem mK_carry (l : Launch) (D : va_G) (a : Nat → Nat) (cI cZ : ClassId) (σ : jS) (from_ : Int32) (to : Int32) (place : Int32) (tag : Int32) (hf : okP 7 from_) (ht : okQ 7 to) (hp : okP 24 place) (hg : okQ 4 tag) (hI : cInv σ) : jI l yK_carry w_K_carry (rmD 3) D (jTys cI cZ) [.ref (a 5), .int (from_), .int (to), .int (place), .int (tag)] (wC a cI cZ σ) (wC a cI cZ (cCarry σ from_ to place tag)) ((cCarry σ from_ to place tag) 5 4) := by
  refine jI_of (ws' := jG) rfl (by decide) rfl (Nat.le_of_ble_eq_true rfl) ?_
  intro X hF hk
  show jJ l D (rmD 3) 6 X (wC a cI cZ σ) 0 [(0, .ref (a 5)), (1, .int (from_)), (2, .int (to)), (3, .int (place)), (4, .int (tag))] []
  refine jq_aload_n (pc := 0) hF 0 dK_carry_0 rfl ?_
  refine jq_iload_n (pc := 1) hF 1 dK_carry_1 rfl ?_
  refine Cp_K_56 (pc := 2) hF dK_carry_2 ?_
  refine jq_aload_n (pc := 5) hF 0 dK_carry_5 rfl ?_
  refine jq_iload_n (pc := 6) hF 2 dK_carry_6 rfl ?_
  refine Cp_K_59 (pc := 7) hF dK_carry_7 ?_
  refine jq_aload_n (pc := 10) hF 0 dK_carry_10 rfl ?_
  refine jq_iconst (pc := 11) hF dK_carry_11 ic_0 ?_
  refine Cp_K_62 (pc := 12) hF dK_carry_12 ?_
  refine jq_aload_n (pc := 15) hF 0 dK_carry_15 rfl ?_
  refine jq_iconst (pc := 16) hF dK_carry_16 ic_0 ?_
  refine Cp_K_65 (pc := 17) hF dK_carry_17 ?_
  refine jq_aload_n (pc := 20) hF 0 dK_carry_20 rfl ?_
  refine Cg_K_9 (pc := 21) hF dK_carry_21 ?_
  refine jq_iconst (pc := 24) hF dK_carry_24 ic_0 ?_
  refine jq_iload_n (pc := 25) hF 3 dK_carry_25 rfl ?_
  refine Cs_33 (pc := 26) hF (by omega) dK_carry_26 ?_
  refine jq_aload_n (pc := 27) hF 0 dK_carry_27 rfl ?_
  refine Cg_K_15 (pc := 28) hF dK_carry_28 ?_
  refine jq_iconst (pc := 31) hF dK_carry_31 ic_0 ?_
  refine jq_iload (pc := 32) hF 4 dK_carry_32 rfl ?_
  refine Cs_34 (pc := 34) hF (by omega) dK_carry_34 ?_
  refine jq_aload_n (pc := 35) hF 0 dK_carry_35 rfl ?_
  refine jq_iconst (pc := 36) hF dK_carry_36 ic_1 ?_
  refine Cp_K_68 (pc := 37) hF dK_carry_37 ?_
  refine jq_w (wC a cI cZ (cStart σ from_ to place tag)) (congrArg (wC a cI cZ) (by rfl)) ?_
  refine jq_iconst (pc := 40) hF dK_carry_40 ic_0 ?_
  refine jq_istore (pc := 41) hF [(5, .int (nI 0)), (0, .ref (a 5)), (1, .int (from_)), (2, .int (to)), (3, .int (place)), (4, .int (tag))] dK_carry_41 (Nat.le_of_ble_eq_true rfl) rfl ?_
  have lp43 : ∀ i, i ≤ 61 → ∀ S : jS, cOkS S ∧ cRun i (61 - i) S = cRun 0 61 (cStart σ from_ to place tag) → jJ l D (rmD 3) 6 X (wC a cI cZ S) 43 [(5, .int (nI i)), (0, .ref (a 5)), (1, .int (from_)), (2, .int (to)), (3, .int (place)), (4, .int (tag))] [] := by
    refine loop_st (fun i hi ih S hS => ?_)
    refine jq_iload (pc := 43) hF 0 dK_carry_43 rfl ?_
    refine jq_aload_n (pc := 45) hF 1 dK_carry_45 rfl ?_
    refine Cg_K_68 (pc := 46) hF dK_carry_46 ?_
    refine jq_icmp_ge (pc := 49) hF 86 dK_carry_49 rfl (fun h49 => ?_) (fun h49 => ?_)
    · have eS : S = cRun 0 61 (cStart σ from_ to place tag) := by
        rw [← hS.2]
        first | exact (cRun_stop h49).symm | (rw [show 61 - i = 0 by omega]; rfl)
      refine jq_w (wC a cI cZ (cRun 0 61 (cStart σ from_ to place tag))) (congrArg (wC a cI cZ) (by exact eS)) ?_
      refine jq_aload_n (pc := 86) hF 1 dK_carry_86 rfl ?_
      refine jq_dup (pc := 87) hF dK_carry_87 rfl ?_
      refine Cg_K_34 (pc := 88) hF dK_carry_88 ?_
      refine jq_aload_n (pc := 91) hF 1 dK_carry_91 rfl ?_
      refine Cg_K_62 (pc := 92) hF dK_carry_92 ?_
      refine jq_iadd (pc := 95) hF dK_carry_95 ?_
      refine Cp_K_34 (pc := 96) hF dK_carry_96 ?_
      refine jq_aload_n (pc := 99) hF 1 dK_carry_99 rfl ?_
      refine Cg_K_65 (pc := 100) hF dK_carry_100 ?_
      exact jq_at (hk 103 _ dK_carry_103) (congrArg (wC a cI cZ) (by rfl)) rfl rfl (congrArg (fun z => [Value.int z]) (by rfl))
    · refine jq_iload (pc := 52) hF 0 dK_carry_52 rfl ?_
      refine jq_aload_n (pc := 54) hF 1 dK_carry_54 rfl ?_
      refine Cg_K_9 (pc := 55) hF dK_carry_55 ?_
      refine jq_alen (pc := 58) hF 33 0 rfl rfl dK_carry_58 ?_
      refine jq_icmp_geN (pc := 59) hF 86 (by omega) (by omega) dK_carry_59 rfl (fun h59 => ?_) (fun h59 => ?_)
      · have eS : S = cRun 0 61 (cStart σ from_ to place tag) := by
          rw [← hS.2]
          first | exact (cRun_stop h49).symm | (rw [show 61 - i = 0 by omega]; rfl)
        refine jq_w (wC a cI cZ (cRun 0 61 (cStart σ from_ to place tag))) (congrArg (wC a cI cZ) (by exact eS)) ?_
        refine jq_aload_n (pc := 86) hF 1 dK_carry_86 rfl ?_
        refine jq_dup (pc := 87) hF dK_carry_87 rfl ?_
        refine Cg_K_34 (pc := 88) hF dK_carry_88 ?_
        refine jq_aload_n (pc := 91) hF 1 dK_carry_91 rfl ?_
        refine Cg_K_62 (pc := 92) hF dK_carry_92 ?_
        refine jq_iadd (pc := 95) hF dK_carry_95 ?_
        refine Cp_K_34 (pc := 96) hF dK_carry_96 ?_
        refine jq_aload_n (pc := 99) hF 1 dK_carry_99 rfl ?_
        refine Cg_K_65 (pc := 100) hF dK_carry_100 ?_
        exact jq_at (hk 103 _ dK_carry_103) (congrArg (wC a cI cZ) (by rfl)) rfl rfl (congrArg (fun z => [Value.int z]) (by rfl))
      · refine jq_aload_n (pc := 62) hF 1 dK_carry_62 rfl ?_
        refine jq_aload_n (pc := 63) hF 1 dK_carry_63 rfl ?_
        refine Cg_K_9 (pc := 64) hF dK_carry_64 ?_
        refine jq_iload (pc := 67) hF 0 dK_carry_67 rfl ?_
        refine Cl_33 (pc := 69) hF (by omega) dK_carry_69 ?_
        refine jq_top (nI ((S 33 (i)).toNatClampNeg)) (((hS.1.1.ap (i := i) (by omega)).cl (by decide)).2) ?_
        refine jq_aload_n (pc := 70) hF 1 dK_carry_70 rfl ?_
        refine Cg_K_15 (pc := 71) hF dK_carry_71 ?_
        refine jq_iload (pc := 74) hF 0 dK_carry_74 rfl ?_
        refine Cl_34 (pc := 76) hF (by omega) dK_carry_76 ?_
        refine jq_cVV (pc := 77) hF (As := [.int (nI ((S 33 (i)).toNatClampNeg)), .int (S 34 (i))]) (rest := []) (mK_handleArrival l D a cI cZ S ((S 33 (i)).toNatClampNeg) (S 34 (i)) ((hS.1.1.ap (i := i) (by omega)).cl (by decide)).1 (hS.1.1.tag (by omega)) hS.1) (jG_v mL_K_71 mI_K_handleArrival mS_K_handleArrival mZ_K mC_K_handleArrival) rfl rfl rfl dd_K_handleArrival ⟨Nat.le_of_ble_eq_true rfl, Nat.le_of_ble_eq_true rfl⟩ 5 rfl rfl rfl rfl (Nat.le_of_ble_eq_true rfl) dK_carry_77 ?_
        refine jq_iincN (pc := 80) hF 0 [(5, .int (nI (i + 1))), (0, .ref (a 5)), (1, .int (from_)), (2, .int (to)), (3, .int (place)), (4, .int (tag))] dK_carry_80 rfl (Nat.le_of_ble_eq_true rfl) rfl ?_
        refine jq_goto (pc := 83) hF 43 dK_carry_83 rfl ?_
        refine jq_sub [(5, .int (nI (i + 1))), (0, .ref (a 5)), (1, .int (from_)), (2, .int (to)), (3, .int (place)), (4, .int (tag))] [0, 1, 2, 3, 4, 5] rfl ?_
        exact jq_at (ih (by omega) ((cHandle S ((S 33 (i)).toNatClampNeg) (S 34 (i)))) ⟨cHandle_ok hS.1 ((hS.1.1.ap (i := i) (by omega)).cl (by decide)).1 (hS.1.1.tag (by omega)), by rw [← hS.2, show 61 - i = (61 - (i + 1)) + 1 by omega, cRun_go h49]⟩) rfl rfl rfl rfl
  exact jq_at (lp43 0 (by omega) (cStart σ from_ to place tag) ⟨cStart_ok hI hf ht hp hg, rfl⟩) rfl rfl rfl rfl
set_option maxHeartbeats 4000000 in
set_option maxRecDepth 100000 in
theorem mK_carryFromHost (l : Launch) (D : va_G) (a : Nat → Nat) (cI cZ : ClassId) (σ : jS) (from_ : Nat) (to : Int32) (hf : from_ < 6) (ht : okQ 7 to) (hI : cInv σ) : jI l yK_carryFromHost w_K_carryFromHost (rmD 4) D (jTys cI cZ) [.ref (a 5), .int (nI from_), .int (to)] (wC a cI cZ σ) (wC a cI cZ (cCarry σ (nI from_) to (σ 10 from_) (-1))) ((cCarry σ (nI from_) to (σ 10 from_) (-1)) 5 4) := by
  refine jI_of (ws' := jG) rfl (by decide) rfl (Nat.le_of_ble_eq_true rfl) ?_
  intro X hF hk
  show jJ l D (rmD 4) 3 X (wC a cI cZ σ) 0 [(0, .ref (a 5)), (1, .int (nI from_)), (2, .int (to))] []
  refine jq_aload_n (pc := 0) hF 0 dK_carryFromHost_0 rfl ?_
  refine jq_iload_n (pc := 1) hF 1 dK_carryFromHost_1 rfl ?_
  refine jq_iload_n (pc := 2) hF 2 dK_carryFromHost_2 rfl ?_
  refine jq_aload_n (pc := 3) hF 0 dK_carryFromHost_3 rfl ?_
  refine Cg_K_18 (pc := 4) hF dK_carryFromHost_4 ?_
  refine Cg_K_38 (pc := 7) hF dK_carryFromHost_7 ?_
  refine jq_iload_n (pc := 10) hF 1 dK_carryFromHost_10 rfl ?_
  refine Cl_10 (pc := 11) hF (by omega) dK_carryFromHost_11 ?_
  refine jq_iconst (pc := 12) hF dK_carryFromHost_12 ic_m1 ?_
  refine jq_cVI (pc := 13) hF (As := [.int (nI from_), .int (to), .int (σ 10 (from_)), .int (-1)]) (rest := []) (mK_carry l D a cI cZ σ (nI (from_)) (to) (σ 10 (from_)) (-1) ⟨from_, by omega, rfl⟩ ht (hI.hp hf) (Or.inl rfl) hI) (jG_v mL_K_43 mI_K_carry mS_K_carry mZ_K mC_K_carry) rfl rfl rfl dd_K_carry ⟨Nat.le_of_ble_eq_true rfl, Nat.le_of_ble_eq_true rfl⟩ 5 rfl rfl rfl rfl (Nat.le_of_ble_eq_true rfl) dK_carryFromHost_13 ?_
  exact jq_at (hk 16 _ dK_carryFromHost_16) (congrArg (wC a cI cZ) (by rfl)) rfl rfl (congrArg (fun z => [Value.int z]) (by rfl))
set_option maxHeartbeats 4000000 in
set_option maxRecDepth 100000 in
theorem mK_carryFromRouter (l : Launch) (D : va_G) (a : Nat → Nat) (cI cZ : ClassId) (σ : jS) (nw : Int32) (to : Int32) (hn : okP 4 nw) (ht : okQ 7 to) (hI : cInv σ) : jI l yK_carryFromRouter w_K_carryFromRouter (rmD 4) D (jTys cI cZ) [.ref (a 5), .int (nw), .int (to)] (wC a cI cZ σ) (wC a cI cZ (if ¬ σ 1 3 = -1 then cCarry σ (nI 6) to (σ 1 3) (cTagOut σ (σ 1 3).toNatClampNeg nw) else σ)) (if ¬ σ 1 3 = -1 then (cCarry σ (nI 6) to (σ 1 3) (cTagOut σ (σ 1 3).toNatClampNeg nw)) 5 4 else nI 0) := by
  refine jI_of (ws' := jG) rfl (by decide) rfl (Nat.le_of_ble_eq_true rfl) ?_
  intro X hF hk
  show jJ l D (rmD 4) 4 X (wC a cI cZ σ) 0 [(0, .ref (a 5)), (1, .int (nw)), (2, .int (to))] []
  refine jq_aload_n (pc := 0) hF 0 dK_carryFromRouter_0 rfl ?_
  refine Cg_K_18 (pc := 1) hF dK_carryFromRouter_1 ?_
  refine Cg_K_47 (pc := 4) hF dK_carryFromRouter_4 ?_
  refine jq_istore_n (pc := 7) hF [(3, .int (σ 1 3)), (0, .ref (a 5)), (1, .int (nw)), (2, .int (to))] dK_carryFromRouter_7 (Nat.le_of_ble_eq_true rfl) rfl ?_
  refine jq_iload_n (pc := 8) hF 0 dK_carryFromRouter_8 rfl ?_
  refine jq_iconst (pc := 9) hF dK_carryFromRouter_9 ic_m1 ?_
  refine jq_icmp_ne (pc := 10) hF 15 dK_carryFromRouter_10 rfl (fun h10 => ?_) (fun h10 => ?_)
  · refine jq_aload_n (pc := 15) hF 1 dK_carryFromRouter_15 rfl ?_
    refine jq_bipush (pc := 16) hF dK_carryFromRouter_16 bi_6 ?_
    refine jq_iload_n (pc := 18) hF 3 dK_carryFromRouter_18 rfl ?_
    refine jq_iload_n (pc := 19) hF 0 dK_carryFromRouter_19 rfl ?_
    refine jq_aload_n (pc := 20) hF 1 dK_carryFromRouter_20 rfl ?_
    refine Cg_K_22 (pc := 21) hF dK_carryFromRouter_21 ?_
    refine jq_iload_n (pc := 24) hF 0 dK_carryFromRouter_24 rfl ?_
    refine jq_top (nI ((σ 1 3).toNatClampNeg)) ((hI.rt.cl h10 (by decide)).2) ?_
    refine jq_iload_n (pc := 25) hF 2 dK_carryFromRouter_25 rfl ?_
    refine jq_cVI (pc := 26) hF (As := [.int (nI ((σ 1 3).toNatClampNeg)), .int (nw)]) (rest := [.int (σ 1 3), .int (to), .int (nI 6), .ref (a 5)]) (mW_tagOutside l D a cI cZ σ ((σ 1 3).toNatClampNeg) (nw) (hI.rt.cl h10 (by decide)).1) (jG_v mL_K_50 mI_W_tagOutside mS_W_tagOutside mZ_W mC_W_tagOutside) rfl rfl rfl dd_W_tagOutside ⟨Nat.le_of_ble_eq_true rfl, Nat.le_of_ble_eq_true rfl⟩ 2 rfl rfl rfl rfl (Nat.le_of_ble_eq_true rfl) dK_carryFromRouter_26 ?_
    refine jq_cVI (pc := 29) hF (As := [.int (nI 6), .int (to), .int (σ 1 3), .int (cTagOut σ ((σ 1 3).toNatClampNeg) (nw))]) (rest := []) (mK_carry l D a cI cZ σ (nI (6)) (to) (σ 1 3) (cTagOut σ ((σ 1 3).toNatClampNeg) (nw)) ⟨6, by decide, rfl⟩ ht (hI.rt.resolve_left h10) (cTagOut_ok hn) hI) (jG_v mL_K_43 mI_K_carry mS_K_carry mZ_K mC_K_carry) rfl rfl rfl dd_K_carry ⟨Nat.le_of_ble_eq_true rfl, Nat.le_of_ble_eq_true rfl⟩ 5 rfl rfl rfl rfl (Nat.le_of_ble_eq_true rfl) dK_carryFromRouter_29 ?_
    exact jq_at (hk 32 _ dK_carryFromRouter_32) (congrArg (wC a cI cZ) (by exact if_pos h10)) rfl rfl (congrArg (fun z => [Value.int z]) (by exact if_pos h10))
  · refine jq_iconst (pc := 13) hF dK_carryFromRouter_13 ic_0 ?_
    exact jq_at (hk 14 _ dK_carryFromRouter_14) (congrArg (wC a cI cZ) (by exact if_neg (fun e => e h10))) rfl rfl (congrArg (fun z => [Value.int z]) (by exact if_neg (fun e => e h10)))
end
section
/-! the class's own methods: guards, and their bounds -/
def cBridgeB (σ : jS) (pr : Int32) : Bool := !decide (nI 6 ≤ σ 1 0) && cWithin pr (nI 0) (nI 7)
def cWireB (σ : jS) (p q c : Int32) : Bool := !decide (nI 10 ≤ σ 1 1) && cIsFree σ p && cIsFree σ q && !decide (p = q) && cWithin c (nI 1) (nI 9)
def cHostB (σ : jS) (p s : Int32) : Bool := !decide (nI 6 ≤ σ 1 2) && cIsFree σ p && cWithin s (nI 0) (nI 3)
def cRouterB (σ : jS) (p : Int32) : Bool := !cHasRouter σ && cIsFree σ p
def cAccessB (σ : jS) (p n : Int32) : Bool := cIsPlace σ p && cWithin n (nI 0) (nI 3)
def cTrunkB (σ : jS) (p n m : Int32) : Bool := cIsPlace σ p && cWithin n (nI 0) (nI 3) && cWithin m (nI 0) (nI 15)
def cCutB (σ : jS) (w : Int32) (off : Bool) : Bool := cWithin w (nI 0) (σ 1 1 - nI 1) && !decide (σ 9 w.toNatClampNeg = bI off)
def cCutS (σ : jS) (w : Int32) (off : Bool) : jS := cSettle (cDrop (cDrop (sU σ 9 w.toNatClampNeg (bI off)) (σ 7 w.toNatClampNeg)) (σ 13 (σ 7 w.toNatClampNeg).toNatClampNeg))
def cHeldB (σ : jS) (p w : Int32) : Bool := cIsPlace σ p && !decide (σ 19 p.toNatClampNeg = 0) && cWithin w (nI 0) (nI 5)
def cLearnedB (σ : jS) (b n x : Int32) : Bool := cIsBridge σ b && cWithin n (nI 0) (nI 3) && cWithin x (nI 0) (nI 6)
def cIsDest (σ : jS) (x : Int32) : Bool := decide (x = -1) || cIsHost σ x || (decide (x = nI 6) && cHasRouter σ)
def cSendB (σ : jS) (f t : Int32) : Bool := cIsHost σ f && cIsDest σ t
theorem cnt_lt {x : Int32} {n : Nat} (h : okP (n + 1) x) (h2 : ¬ nI n ≤ x) (hn : n < 2 ^ 30) : vp_in x n ∧ x = nI x.toNatClampNeg ∧ x.toNatClampNeg < n := by
  obtain ⟨k, hk, rfl⟩ := h
  have : ¬ n ≤ k := fun e => h2 (nI_le e (by omega))
  rw [nI_clamp (by omega)]
  exact ⟨vp_in_nI (by omega) (by omega), rfl, by omega⟩
theorem okP.mono {m n : Nat} {x : Int32} (h : okP m x) (hn : m ≤ n) : okP n x := by
  obtain ⟨k, hk, e⟩ := h
  exact ⟨k, by omega, e⟩
theorem okQ.mono {m n : Nat} {x : Int32} (h : okQ m x) (hn : m ≤ n) : okQ n x := h.imp id (fun q => q.mono hn)
theorem vp_ok {x : Int32} {n : Nat} (h : vp_in x n) (hn : n < 2 ^ 31) : okP n x := vp_in_of h hn
theorem cIsPlace_at {σ : jS} (hI : cInv σ) {p : Int32} (h : cIsPlace σ p = true) : ∃ k, p = nI k ∧ k < 4 * cNb σ := by
  have hn := hI.nbl
  unfold cIsPlace at h
  rw [hn.2, pk_mul] at h
  obtain ⟨k, e, hk⟩ := cWithin_in (m := 24) ⟨4 * cNb σ, by omega, rfl⟩ (by decide) h
  rw [nI_clamp (by omega)] at hk
  exact ⟨k, e, hk⟩
theorem cIsBridge_at {σ : jS} (hI : cInv σ) {b : Int32} (h : cIsBridge σ b = true) : ∃ k, b = nI k ∧ k < cNb σ := by
  have hn := hI.nbl
  unfold cIsBridge at h
  rw [hn.2] at h
  obtain ⟨k, e, hk⟩ := cWithin_in (m := 6) ⟨cNb σ, by omega, rfl⟩ (by decide) h
  rw [nI_clamp (by omega)] at hk
  exact ⟨k, e, hk⟩
theorem cIsHost_at {σ : jS} (hI : cInv σ) {b : Int32} (h : cIsHost σ b = true) : ∃ k, b = nI k ∧ k < (σ 1 2).toNatClampNeg ∧ k < 6 := by
  have hn := hI.nh.cl (by decide)
  unfold cIsHost at h
  obtain ⟨k, e, hk⟩ := cWithin_in (m := 6) hI.nh (by decide) h
  exact ⟨k, e, hk, by omega⟩
theorem cWire_at {σ : jS} (hI : cInv σ) {w : Int32} (h : cWithin w (nI 0) (σ 1 1 - nI 1) = true) : ∃ k, w = nI k ∧ k < (σ 1 1).toNatClampNeg ∧ k < 10 := by
  have hn := hI.nw.cl (by decide)
  obtain ⟨k, e, hk⟩ := cWithin_in (m := 10) hI.nw (by decide) h
  exact ⟨k, e, hk, by omega⟩
theorem cIsFree_place {σ : jS} {p : Int32} (h : cIsFree σ p = true) : cIsPlace σ p = true := by
  unfold cIsFree at h
  simp only [Bool.and_eq_true] at h
  exact h.1.1
theorem cIsDest_ok {σ : jS} (hI : cInv σ) {x : Int32} (h : cIsDest σ x = true) : okQ 7 x := by
  unfold cIsDest at h
  simp only [Bool.or_eq_true, decide_eq_true_eq, Bool.and_eq_true] at h
  rcases h with (h | h) | h
  · exact Or.inl h
  · obtain ⟨k, e, -, hk⟩ := cIsHost_at hI h
    exact Or.inr ⟨k, by omega, e⟩
  · exact Or.inr ⟨6, by decide, h.1⟩
theorem cAddBridge_inv {σ : jS} (hI : cInv σ) (pr : Int32) (h : ¬ nI 6 ≤ σ 1 0) : cInv (cAddBridge σ pr) := by
  obtain ⟨-, e, hk⟩ := cnt_lt hI.nb h (by decide)
  have e0 : cAddBridge σ pr 1 0 = σ 1 0 + nI 1 := rfl
  refine ⟨?_, hI.2⟩
  rw [e0, e, nI_add]
  exact ⟨_, by omega, rfl⟩
theorem okP_set {n m i : Nat} {f : Nat → Int32} {v : Int32} (hf : ∀ j, j < m → okP n (f j)) (hv : okP n v) : ∀ j, j < m → okP n (upd f i v j) := fun j hj => by
  unfold upd
  split
  · exact hv
  · exact hf j hj
theorem okQ_set {n m i : Nat} {f : Nat → Int32} {v : Int32} (hf : ∀ j, j < m → okQ n (f j)) (hv : okQ n v) : ∀ j, j < m → okQ n (upd f i v j) := fun j hj => by
  unfold upd
  split
  · exact hv
  · exact hf j hj
theorem cAddHost_inv {σ : jS} (hI : cInv σ) {p sn : Int32} (h : ¬ nI 6 ≤ σ 1 2) (hp : okP 24 p) (hs : okP 4 sn) : cInv (cAddHost σ p sn) := by
  obtain ⟨-, e, hk⟩ := cnt_lt hI.nh h (by decide)
  have e0 : cAddHost σ p sn 1 2 = σ 1 2 + nI 1 := rfl
  refine ⟨hI.1, hI.2.1, ?_, hI.2.2.2.1, hI.2.2.2.2.1, okP_set hI.2.2.2.2.2.1 hp, okP_set hI.2.2.2.2.2.2.1 hs, hI.2.2.2.2.2.2.2⟩
  rw [e0, e, nI_add]
  exact ⟨_, by omega, rfl⟩
theorem cAddRouter_inv {σ : jS} (hI : cInv σ) {p : Int32} (hp : okP 24 p) : cInv (cAddRouter σ p) := ⟨hI.1, hI.2.1, hI.2.2.1, Or.inr hp, hI.2.2.2.2⟩
theorem cAccess_inv {σ : jS} (hI : cInv σ) {p nw : Int32} (hn : okP 4 nw) : cInv (cAccess σ p nw) :=
  ⟨hI.1, hI.2.1, hI.2.2.1, hI.2.2.2.1, hI.2.2.2.2.1, hI.2.2.2.2.2.1, hI.2.2.2.2.2.2.1, hI.2.2.2.2.2.2.2.1, hI.2.2.2.2.2.2.2.2.1, okP_set hI.2.2.2.2.2.2.2.2.2.1 hn, hI.2.2.2.2.2.2.2.2.2.2⟩
theorem cTrunk_inv {σ : jS} (hI : cInv σ) {p nw mb : Int32} (hn : okP 4 nw) : cInv (cTrunk σ p nw mb) :=
  ⟨hI.1, hI.2.1, hI.2.2.1, hI.2.2.2.1, hI.2.2.2.2.1, hI.2.2.2.2.2.1, hI.2.2.2.2.2.2.1, hI.2.2.2.2.2.2.2.1, hI.2.2.2.2.2.2.2.2.1, okP_set hI.2.2.2.2.2.2.2.2.2.1 hn, hI.2.2.2.2.2.2.2.2.2.2⟩
theorem cAddWire_inv {σ : jS} (hI : cInv σ) {p q c : Int32} (h : ¬ nI 10 ≤ σ 1 1) (hp : okP 24 p) (hq : okP 24 q) : cInv (cAddWire σ p q c) := by
  obtain ⟨-, e, hk⟩ := cnt_lt hI.nw h (by decide)
  have e1 : cAddWire σ p q c 1 1 = σ 1 1 + nI 1 := rfl
  have hw : okP 10 (σ 1 1) := ⟨_, hk, e⟩
  have e7 : ∀ w, cAddWire σ p q c 7 w = upd (σ 7) (σ 1 1).toNatClampNeg p w := fun _ => rfl
  have e12 : ∀ x, cAddWire σ p q c 12 x = upd (upd (σ 12) p.toNatClampNeg (σ 1 1)) q.toNatClampNeg (σ 1 1) x := fun _ => rfl
  have e13 : ∀ x, cAddWire σ p q c 13 x = upd (upd (σ 13) p.toNatClampNeg q) q.toNatClampNeg p x := fun _ => rfl
  have hfar : ∀ x, okP 24 (σ 13 x) → okP 24 (upd (upd (σ 13) p.toNatClampNeg q) q.toNatClampNeg p x) := by
    intro x hx
    unfold upd
    split
    · exact hp
    · split
      · exact hq
      · exact hx
  have hfp : ∀ x, x = p.toNatClampNeg ∨ x = q.toNatClampNeg → okP 24 (upd (upd (σ 13) p.toNatClampNeg q) q.toNatClampNeg p x) := by
    intro x hx
    unfold upd
    split
    · exact hp
    · rename_i h1
      split
      · exact hq
      · rename_i h2
        exact absurd hx (fun e => e.elim h2 h1)
  refine ⟨hI.1, ?_, hI.2.2.1, hI.2.2.2.1, okP_set hI.2.2.2.2.1 hp, hI.2.2.2.2.2.1, hI.2.2.2.2.2.2.1, okQ_set (okQ_set hI.2.2.2.2.2.2.2.1 (Or.inr hw)) (Or.inr hw), okQ_set (okQ_set hI.2.2.2.2.2.2.2.2.1 (Or.inr hq)) (Or.inr hp), hI.2.2.2.2.2.2.2.2.2.1, hI.2.2.2.2.2.2.2.2.2.2.1, hI.2.2.2.2.2.2.2.2.2.2.2.1, hI.2.2.2.2.2.2.2.2.2.2.2.2.1, ?_, ?_⟩
  · rw [e1, e, nI_add]
    exact ⟨_, by omega, rfl⟩
  · intro x hx hne
    rw [e12] at hne
    rw [e13]
    by_cases hx2 : x = p.toNatClampNeg ∨ x = q.toNatClampNeg
    · exact hfp x hx2
    · apply hfar
      refine hI.wf hx (fun e2 => hne ?_)
      unfold upd
      rw [if_neg (fun e => hx2 (Or.inr e)), if_neg (fun e => hx2 (Or.inl e))]
      exact e2
  · intro w hw2
    rw [e1, e, nI_add, nI_clamp (by omega)] at hw2
    rw [e7, e13]
    by_cases hx : w = (σ 1 1).toNatClampNeg
    · apply hfp
      left
      unfold upd
      rw [if_pos hx]
    · have : upd (σ 7) (σ 1 1).toNatClampNeg p w = σ 7 w := by unfold upd; rw [if_neg hx]
      rw [this]
      exact hfar _ (hI.we (by omega))

theorem cWire_in {σ : jS} (hI : cInv σ) {w : Int32} (h : cWithin w (nI 0) (σ 1 1 - nI 1) = true) : vp_in w 10 := by
  obtain ⟨k, rfl, -, hk⟩ := cWire_at hI h
  exact vp_in_nI hk (by decide)
theorem cEnd_ok {σ : jS} (hI : cInv σ) {w : Int32} (h : cWithin w (nI 0) (σ 1 1 - nI 1) = true) : okP 24 (σ 7 w.toNatClampNeg) := by
  obtain ⟨k, rfl, -, hk⟩ := cWire_at hI h
  rw [nI_clamp (by omega)]
  exact hI.ends hk
theorem cFar_ok {σ : jS} (hI : cInv σ) {w : Int32} (h : cWithin w (nI 0) (σ 1 1 - nI 1) = true) : okP 24 (σ 13 (σ 7 w.toNatClampNeg).toNatClampNeg) := by
  obtain ⟨k, rfl, hk, hk2⟩ := cWire_at hI h
  rw [nI_clamp (by omega)]
  exact hI.we hk
theorem net_ok {n : Int32} (h : cWithin n (nI 0) (nI 3) = true) : okP 4 n := by
  obtain ⟨k, hk, e⟩ := cWithin_le (m := 3) (by decide) h
  exact ⟨k, by omega, e⟩
set_option maxHeartbeats 4000000 in
set_option maxRecDepth 100000 in
theorem mN_bridge (l : Launch) (D : va_G) (a : Nat → Nat) (cI cZ : ClassId) (σ : jS) (pr : Int32) (hI : cInv σ) : jI l yN_bridge w_N_bridge (rmD 5) D (jTys cI cZ) [.ref (a 0), .int (pr)] (wC a cI cZ σ) (wC a cI cZ (if cBridgeB σ pr = true then cSettle (cAddBridge σ pr) else σ)) (if cBridgeB σ pr = true then σ 1 0 else -1) := by
  refine jI_of (ws' := jG) rfl (by decide) rfl (Nat.le_of_ble_eq_true rfl) ?_
  intro X hF hk
  show jJ l D (rmD 5) 3 X (wC a cI cZ σ) 0 [(0, .ref (a 0)), (1, .int (pr))] []
  refine jq_aload_n (pc := 0) hF 0 dN_bridge_0 rfl ?_
  refine Cg_N_20 (pc := 1) hF dN_bridge_1 ?_
  refine Cg_N_59 (pc := 4) hF dN_bridge_4 ?_
  refine jq_bipush (pc := 7) hF dN_bridge_7 bi_6 ?_
  refine jq_icmp_ge (pc := 9) hF 22 dN_bridge_9 rfl (fun h9 => ?_) (fun h9 => ?_)
  · refine jq_iconst (pc := 22) hF dN_bridge_22 ic_m1 ?_
    exact jq_at (hk 23 _ dN_bridge_23) (congrArg (wC a cI cZ) (by exact if_neg (by simp [cBridgeB, h9]))) rfl rfl (congrArg (fun z => [Value.int z]) (by exact if_neg (by simp [cBridgeB, h9])))
  · refine jq_iload_n (pc := 12) hF 1 dN_bridge_12 rfl ?_
    refine jq_iconst (pc := 13) hF dN_bridge_13 ic_0 ?_
    refine jq_bipush (pc := 14) hF dN_bridge_14 bi_7 ?_
    refine jq_cSI (pc := 16) hF (As := [.int (pr), .int (nI 0), .int (nI 7)]) (rest := []) (mN_isWithin l D a cI cZ σ (pr) (nI (0)) (nI (7)) ) (jG_st mL_N_62 mT_N_isWithin mZ_N mC_N_isWithin) rfl rfl rfl dd_N_isWithin ⟨Nat.le_of_ble_eq_true rfl, Nat.le_of_ble_eq_true rfl⟩ rfl rfl (Nat.le_of_ble_eq_true rfl) dN_bridge_16 ?_
    refine jq_if_neB (pc := 19) hF 24 dN_bridge_19 rfl (fun h19 => ?_) (fun h19 => ?_)
    · refine jq_aload_n (pc := 24) hF 0 dN_bridge_24 rfl ?_
      refine Cg_N_20 (pc := 25) hF dN_bridge_25 ?_
      refine jq_iload_n (pc := 28) hF 1 dN_bridge_28 rfl ?_
      refine jq_cVI (pc := 29) hF (As := [.int (pr)]) (rest := []) (mP_addBridge l D a cI cZ σ (pr) (cnt_lt hI.nb h9 (by decide)).1) (jG_v mL_N_66 mI_P_addBridge mS_P_addBridge mZ_P mC_P_addBridge) rfl rfl rfl dd_P_addBridge ⟨Nat.le_of_ble_eq_true rfl, Nat.le_of_ble_eq_true rfl⟩ 1 rfl rfl rfl rfl (Nat.le_of_ble_eq_true rfl) dN_bridge_29 ?_
      refine jq_istore_n (pc := 32) hF [(2, .int (σ 1 0)), (0, .ref (a 0)), (1, .int (pr))] dN_bridge_32 (Nat.le_of_ble_eq_true rfl) rfl ?_
      refine jq_aload_n (pc := 33) hF 1 dN_bridge_33 rfl ?_
      refine Cg_N_36 (pc := 34) hF dN_bridge_34 ?_
      refine jq_cVV (pc := 37) hF (As := []) (rest := []) (mT_settle l D a cI cZ (cAddBridge σ (pr))  (cAddBridge_inv hI pr h9)) (jG_v mL_N_70 mI_T_settle mS_T_settle mZ_T mC_T_settle) rfl rfl rfl dd_T_settle ⟨Nat.le_of_ble_eq_true rfl, Nat.le_of_ble_eq_true rfl⟩ 3 rfl rfl rfl rfl (Nat.le_of_ble_eq_true rfl) dN_bridge_37 ?_
      refine jq_iload_n (pc := 40) hF 0 dN_bridge_40 rfl ?_
      exact jq_at (hk 41 _ dN_bridge_41) (congrArg (wC a cI cZ) (by exact if_pos (by simp [cBridgeB, h9, h19]))) rfl rfl (congrArg (fun z => [Value.int z]) (by exact if_pos (by simp [cBridgeB, h9, h19])))
    · refine jq_iconst (pc := 22) hF dN_bridge_22 ic_m1 ?_
      exact jq_at (hk 23 _ dN_bridge_23) (congrArg (wC a cI cZ) (by exact if_neg (by simp [cBridgeB, h9, h19]))) rfl rfl (congrArg (fun z => [Value.int z]) (by exact if_neg (by simp [cBridgeB, h9, h19])))
set_option maxHeartbeats 4000000 in
set_option maxRecDepth 100000 in
theorem mN_wire (l : Launch) (D : va_G) (a : Nat → Nat) (cI cZ : ClassId) (σ : jS) (p : Int32) (q : Int32) (c : Int32) (hI : cInv σ) : jI l yN_wire w_N_wire (rmD 5) D (jTys cI cZ) [.ref (a 0), .int (p), .int (q), .int (c)] (wC a cI cZ σ) (wC a cI cZ (if cWireB σ p q c = true then cSettle (cAddWire σ p q c) else σ)) (if cWireB σ p q c = true then σ 1 1 else -1) := by
  refine jI_of (ws' := jG) rfl (by decide) rfl (Nat.le_of_ble_eq_true rfl) ?_
  intro X hF hk
  show jJ l D (rmD 5) 5 X (wC a cI cZ σ) 0 [(0, .ref (a 0)), (1, .int (p)), (2, .int (q)), (3, .int (c))] []
  refine jq_aload_n (pc := 0) hF 0 dN_wire_0 rfl ?_
  refine Cg_N_20 (pc := 1) hF dN_wire_1 ?_
  refine Cg_N_73 (pc := 4) hF dN_wire_4 ?_
  refine jq_bipush (pc := 7) hF dN_wire_7 bi_10 ?_
  refine jq_icmp_ge (pc := 9) hF 34 dN_wire_9 rfl (fun h9 => ?_) (fun h9 => ?_)
  · refine jq_iconst (pc := 34) hF dN_wire_34 ic_m1 ?_
    exact jq_at (hk 35 _ dN_wire_35) (congrArg (wC a cI cZ) (by exact if_neg (by simp [cWireB, h9]))) rfl rfl (congrArg (fun z => [Value.int z]) (by exact if_neg (by simp [cWireB, h9])))
  · refine jq_aload_n (pc := 12) hF 0 dN_wire_12 rfl ?_
    refine Cg_N_20 (pc := 13) hF dN_wire_13 ?_
    refine jq_iload_n (pc := 16) hF 1 dN_wire_16 rfl ?_
    refine jq_cVI (pc := 17) hF (As := [.int (p)]) (rest := []) (mP_isFree l D a cI cZ σ (p) hI) (jG_v mL_N_76 mI_P_isFree mS_P_isFree mZ_P mC_P_isFree) rfl rfl rfl dd_P_isFree ⟨Nat.le_of_ble_eq_true rfl, Nat.le_of_ble_eq_true rfl⟩ 1 rfl rfl rfl rfl (Nat.le_of_ble_eq_true rfl) dN_wire_17 ?_
    refine jq_if_eqB (pc := 20) hF 34 dN_wire_20 rfl (fun h20 => ?_) (fun h20 => ?_)
    · refine jq_iconst (pc := 34) hF dN_wire_34 ic_m1 ?_
      exact jq_at (hk 35 _ dN_wire_35) (congrArg (wC a cI cZ) (by exact if_neg (by simp [cWireB, h9, h20]))) rfl rfl (congrArg (fun z => [Value.int z]) (by exact if_neg (by simp [cWireB, h9, h20])))
    · refine jq_aload_n (pc := 23) hF 0 dN_wire_23 rfl ?_
      refine Cg_N_20 (pc := 24) hF dN_wire_24 ?_
      refine jq_iload_n (pc := 27) hF 2 dN_wire_27 rfl ?_
      refine jq_cVI (pc := 28) hF (As := [.int (q)]) (rest := []) (mP_isFree l D a cI cZ σ (q) hI) (jG_v mL_N_76 mI_P_isFree mS_P_isFree mZ_P mC_P_isFree) rfl rfl rfl dd_P_isFree ⟨Nat.le_of_ble_eq_true rfl, Nat.le_of_ble_eq_true rfl⟩ 1 rfl rfl rfl rfl (Nat.le_of_ble_eq_true rfl) dN_wire_28 ?_
      refine jq_if_neB (pc := 31) hF 36 dN_wire_31 rfl (fun h31 => ?_) (fun h31 => ?_)
      · refine jq_iload_n (pc := 36) hF 1 dN_wire_36 rfl ?_
        refine jq_iload_n (pc := 37) hF 2 dN_wire_37 rfl ?_
        refine jq_icmp_eq (pc := 38) hF 51 dN_wire_38 rfl (fun h38 => ?_) (fun h38 => ?_)
        · refine jq_iconst (pc := 51) hF dN_wire_51 ic_m1 ?_
          exact jq_at (hk 52 _ dN_wire_52) (congrArg (wC a cI cZ) (by exact if_neg (by simp [cWireB, h9, h20, h31, h38]))) rfl rfl (congrArg (fun z => [Value.int z]) (by exact if_neg (by simp [cWireB, h9, h20, h31, h38])))
        · refine jq_iload_n (pc := 41) hF 3 dN_wire_41 rfl ?_
          refine jq_iconst (pc := 42) hF dN_wire_42 ic_1 ?_
          refine jq_bipush (pc := 43) hF dN_wire_43 bi_9 ?_
          refine jq_cSI (pc := 45) hF (As := [.int (c), .int (nI 1), .int (nI 9)]) (rest := []) (mN_isWithin l D a cI cZ σ (c) (nI (1)) (nI (9)) ) (jG_st mL_N_62 mT_N_isWithin mZ_N mC_N_isWithin) rfl rfl rfl dd_N_isWithin ⟨Nat.le_of_ble_eq_true rfl, Nat.le_of_ble_eq_true rfl⟩ rfl rfl (Nat.le_of_ble_eq_true rfl) dN_wire_45 ?_
          refine jq_if_neB (pc := 48) hF 53 dN_wire_48 rfl (fun h48 => ?_) (fun h48 => ?_)
          · refine jq_aload_n (pc := 53) hF 0 dN_wire_53 rfl ?_
            refine Cg_N_20 (pc := 54) hF dN_wire_54 ?_
            refine jq_iload_n (pc := 57) hF 1 dN_wire_57 rfl ?_
            refine jq_iload_n (pc := 58) hF 2 dN_wire_58 rfl ?_
            refine jq_iload_n (pc := 59) hF 3 dN_wire_59 rfl ?_
            refine jq_cVI (pc := 60) hF (As := [.int (p), .int (q), .int (c)]) (rest := []) (mP_addWire l D a cI cZ σ (p) (q) (c) (cnt_lt hI.nw h9 (by decide)).1 (cIsPlace_in hI (cIsFree_place h20)) (cIsPlace_in hI (cIsFree_place h31))) (jG_v mL_N_80 mI_P_addWire mS_P_addWire mZ_P mC_P_addWire) rfl rfl rfl dd_P_addWire ⟨Nat.le_of_ble_eq_true rfl, Nat.le_of_ble_eq_true rfl⟩ 1 rfl rfl rfl rfl (Nat.le_of_ble_eq_true rfl) dN_wire_60 ?_
            refine jq_istore (pc := 63) hF [(4, .int (σ 1 1)), (0, .ref (a 0)), (1, .int (p)), (2, .int (q)), (3, .int (c))] dN_wire_63 (Nat.le_of_ble_eq_true rfl) rfl ?_
            refine jq_aload_n (pc := 65) hF 1 dN_wire_65 rfl ?_
            refine Cg_N_36 (pc := 66) hF dN_wire_66 ?_
            refine jq_cVV (pc := 69) hF (As := []) (rest := []) (mT_settle l D a cI cZ (cAddWire σ (p) (q) (c))  (cAddWire_inv hI h9 (vp_ok (cIsPlace_in hI (cIsFree_place h20)) (by decide)) (vp_ok (cIsPlace_in hI (cIsFree_place h31)) (by decide)))) (jG_v mL_N_70 mI_T_settle mS_T_settle mZ_T mC_T_settle) rfl rfl rfl dd_T_settle ⟨Nat.le_of_ble_eq_true rfl, Nat.le_of_ble_eq_true rfl⟩ 3 rfl rfl rfl rfl (Nat.le_of_ble_eq_true rfl) dN_wire_69 ?_
            refine jq_iload (pc := 72) hF 0 dN_wire_72 rfl ?_
            exact jq_at (hk 74 _ dN_wire_74) (congrArg (wC a cI cZ) (by exact if_pos (by simp [cWireB, h9, h20, h31, h38, h48]))) rfl rfl (congrArg (fun z => [Value.int z]) (by exact if_pos (by simp [cWireB, h9, h20, h31, h38, h48])))
          · refine jq_iconst (pc := 51) hF dN_wire_51 ic_m1 ?_
            exact jq_at (hk 52 _ dN_wire_52) (congrArg (wC a cI cZ) (by exact if_neg (by simp [cWireB, h9, h20, h31, h38, h48]))) rfl rfl (congrArg (fun z => [Value.int z]) (by exact if_neg (by simp [cWireB, h9, h20, h31, h38, h48])))
      · refine jq_iconst (pc := 34) hF dN_wire_34 ic_m1 ?_
        exact jq_at (hk 35 _ dN_wire_35) (congrArg (wC a cI cZ) (by exact if_neg (by simp [cWireB, h9, h20, h31]))) rfl rfl (congrArg (fun z => [Value.int z]) (by exact if_neg (by simp [cWireB, h9, h20, h31])))
set_option maxHeartbeats 4000000 in
set_option maxRecDepth 100000 in
theorem mN_host (l : Launch) (D : va_G) (a : Nat → Nat) (cI cZ : ClassId) (σ : jS) (p : Int32) (sn : Int32) (hI : cInv σ) : jI l yN_host w_N_host (rmD 5) D (jTys cI cZ) [.ref (a 0), .int (p), .int (sn)] (wC a cI cZ σ) (wC a cI cZ (if cHostB σ p sn = true then cSettle (cAddHost σ p sn) else σ)) (if cHostB σ p sn = true then σ 1 2 else -1) := by
  refine jI_of (ws' := jG) rfl (by decide) rfl (Nat.le_of_ble_eq_true rfl) ?_
  intro X hF hk
  show jJ l D (rmD 5) 4 X (wC a cI cZ σ) 0 [(0, .ref (a 0)), (1, .int (p)), (2, .int (sn))] []
  refine jq_aload_n (pc := 0) hF 0 dN_host_0 rfl ?_
  refine Cg_N_20 (pc := 1) hF dN_host_1 ?_
  refine Cg_N_83 (pc := 4) hF dN_host_4 ?_
  refine jq_bipush (pc := 7) hF dN_host_7 bi_6 ?_
  refine jq_icmp_ge (pc := 9) hF 30 dN_host_9 rfl (fun h9 => ?_) (fun h9 => ?_)
  · refine jq_iconst (pc := 30) hF dN_host_30 ic_m1 ?_
    exact jq_at (hk 31 _ dN_host_31) (congrArg (wC a cI cZ) (by exact if_neg (by simp [cHostB, h9]))) rfl rfl (congrArg (fun z => [Value.int z]) (by exact if_neg (by simp [cHostB, h9])))
  · refine jq_aload_n (pc := 12) hF 0 dN_host_12 rfl ?_
    refine Cg_N_20 (pc := 13) hF dN_host_13 ?_
    refine jq_iload_n (pc := 16) hF 1 dN_host_16 rfl ?_
    refine jq_cVI (pc := 17) hF (As := [.int (p)]) (rest := []) (mP_isFree l D a cI cZ σ (p) hI) (jG_v mL_N_76 mI_P_isFree mS_P_isFree mZ_P mC_P_isFree) rfl rfl rfl dd_P_isFree ⟨Nat.le_of_ble_eq_true rfl, Nat.le_of_ble_eq_true rfl⟩ 1 rfl rfl rfl rfl (Nat.le_of_ble_eq_true rfl) dN_host_17 ?_
    refine jq_if_eqB (pc := 20) hF 30 dN_host_20 rfl (fun h20 => ?_) (fun h20 => ?_)
    · refine jq_iconst (pc := 30) hF dN_host_30 ic_m1 ?_
      exact jq_at (hk 31 _ dN_host_31) (congrArg (wC a cI cZ) (by exact if_neg (by simp [cHostB, h9, h20]))) rfl rfl (congrArg (fun z => [Value.int z]) (by exact if_neg (by simp [cHostB, h9, h20])))
    · refine jq_iload_n (pc := 23) hF 2 dN_host_23 rfl ?_
      refine jq_cSI (pc := 24) hF (As := [.int (sn)]) (rest := []) (mN_isNetwork l D a cI cZ σ (sn) ) (jG_st mL_N_86 mT_N_isNetwork mZ_N mC_N_isNetwork) rfl rfl rfl dd_N_isNetwork ⟨Nat.le_of_ble_eq_true rfl, Nat.le_of_ble_eq_true rfl⟩ rfl rfl (Nat.le_of_ble_eq_true rfl) dN_host_24 ?_
      refine jq_if_neB (pc := 27) hF 32 dN_host_27 rfl (fun h27 => ?_) (fun h27 => ?_)
      · refine jq_aload_n (pc := 32) hF 0 dN_host_32 rfl ?_
        refine Cg_N_20 (pc := 33) hF dN_host_33 ?_
        refine jq_iload_n (pc := 36) hF 1 dN_host_36 rfl ?_
        refine jq_iload_n (pc := 37) hF 2 dN_host_37 rfl ?_
        refine jq_cVI (pc := 38) hF (As := [.int (p), .int (sn)]) (rest := []) (mP_addHost l D a cI cZ σ (p) (sn) (cnt_lt hI.nh h9 (by decide)).1 (cIsPlace_in hI (cIsFree_place h20))) (jG_v mL_N_89 mI_P_addHost mS_P_addHost mZ_P mC_P_addHost) rfl rfl rfl dd_P_addHost ⟨Nat.le_of_ble_eq_true rfl, Nat.le_of_ble_eq_true rfl⟩ 1 rfl rfl rfl rfl (Nat.le_of_ble_eq_true rfl) dN_host_38 ?_
        refine jq_istore_n (pc := 41) hF [(3, .int (σ 1 2)), (0, .ref (a 0)), (1, .int (p)), (2, .int (sn))] dN_host_41 (Nat.le_of_ble_eq_true rfl) rfl ?_
        refine jq_aload_n (pc := 42) hF 1 dN_host_42 rfl ?_
        refine Cg_N_36 (pc := 43) hF dN_host_43 ?_
        refine jq_cVV (pc := 46) hF (As := []) (rest := []) (mT_settle l D a cI cZ (cAddHost σ (p) (sn))  (cAddHost_inv hI h9 (vp_ok (cIsPlace_in hI (cIsFree_place h20)) (by decide)) (net_ok h27))) (jG_v mL_N_70 mI_T_settle mS_T_settle mZ_T mC_T_settle) rfl rfl rfl dd_T_settle ⟨Nat.le_of_ble_eq_true rfl, Nat.le_of_ble_eq_true rfl⟩ 3 rfl rfl rfl rfl (Nat.le_of_ble_eq_true rfl) dN_host_46 ?_
        refine jq_iload_n (pc := 49) hF 0 dN_host_49 rfl ?_
        exact jq_at (hk 50 _ dN_host_50) (congrArg (wC a cI cZ) (by exact if_pos (by simp [cHostB, h9, h20, h27]))) rfl rfl (congrArg (fun z => [Value.int z]) (by exact if_pos (by simp [cHostB, h9, h20, h27])))
      · refine jq_iconst (pc := 30) hF dN_host_30 ic_m1 ?_
        exact jq_at (hk 31 _ dN_host_31) (congrArg (wC a cI cZ) (by exact if_neg (by simp [cHostB, h9, h20, h27]))) rfl rfl (congrArg (fun z => [Value.int z]) (by exact if_neg (by simp [cHostB, h9, h20, h27])))
set_option maxHeartbeats 4000000 in
set_option maxRecDepth 100000 in
theorem mN_router (l : Launch) (D : va_G) (a : Nat → Nat) (cI cZ : ClassId) (σ : jS) (p : Int32) (hI : cInv σ) : jI l yN_router w_N_router (rmD 5) D (jTys cI cZ) [.ref (a 0), .int (p)] (wC a cI cZ σ) (wC a cI cZ (if cRouterB σ p = true then cSettle (cAddRouter σ p) else σ)) (bI (cRouterB σ p)) := by
  refine jI_of (ws' := jG) (bI_nw _) (by decide) rfl (Nat.le_of_ble_eq_true rfl) ?_
  intro X hF hk
  show jJ l D (rmD 5) 2 X (wC a cI cZ σ) 0 [(0, .ref (a 0)), (1, .int (p))] []
  refine jq_aload_n (pc := 0) hF 0 dN_router_0 rfl ?_
  refine Cg_N_20 (pc := 1) hF dN_router_1 ?_
  refine jq_cVI (pc := 4) hF (As := []) (rest := []) (mP_hasRouter l D a cI cZ σ  ) (jG_v mL_N_93 mI_P_hasRouter mS_P_hasRouter mZ_P mC_P_hasRouter) rfl rfl rfl dd_P_hasRouter ⟨Nat.le_of_ble_eq_true rfl, Nat.le_of_ble_eq_true rfl⟩ 1 rfl rfl rfl rfl (Nat.le_of_ble_eq_true rfl) dN_router_4 ?_
  refine jq_if_neB (pc := 7) hF 21 dN_router_7 rfl (fun h7 => ?_) (fun h7 => ?_)
  · refine jq_iconst (pc := 21) hF dN_router_21 ic_0 ?_
    exact jq_at (hk 22 _ dN_router_22) (congrArg (wC a cI cZ) (by exact if_neg (by simp [cRouterB, h7]))) rfl rfl (congrArg (fun z => [Value.int z]) (bI0 (by simp [cRouterB, h7])))
  · refine jq_aload_n (pc := 10) hF 0 dN_router_10 rfl ?_
    refine Cg_N_20 (pc := 11) hF dN_router_11 ?_
    refine jq_iload_n (pc := 14) hF 1 dN_router_14 rfl ?_
    refine jq_cVI (pc := 15) hF (As := [.int (p)]) (rest := []) (mP_isFree l D a cI cZ σ (p) hI) (jG_v mL_N_76 mI_P_isFree mS_P_isFree mZ_P mC_P_isFree) rfl rfl rfl dd_P_isFree ⟨Nat.le_of_ble_eq_true rfl, Nat.le_of_ble_eq_true rfl⟩ 1 rfl rfl rfl rfl (Nat.le_of_ble_eq_true rfl) dN_router_15 ?_
    refine jq_if_neB (pc := 18) hF 23 dN_router_18 rfl (fun h18 => ?_) (fun h18 => ?_)
    · refine jq_aload_n (pc := 23) hF 0 dN_router_23 rfl ?_
      refine Cg_N_20 (pc := 24) hF dN_router_24 ?_
      refine jq_iload_n (pc := 27) hF 1 dN_router_27 rfl ?_
      refine jq_cVV (pc := 28) hF (As := [.int (p)]) (rest := []) (mP_addRouter l D a cI cZ σ (p) (cIsPlace_in hI (cIsFree_place h18))) (jG_v mL_N_97 mI_P_addRouter mS_P_addRouter mZ_P mC_P_addRouter) rfl rfl rfl dd_P_addRouter ⟨Nat.le_of_ble_eq_true rfl, Nat.le_of_ble_eq_true rfl⟩ 1 rfl rfl rfl rfl (Nat.le_of_ble_eq_true rfl) dN_router_28 ?_
      refine jq_aload_n (pc := 31) hF 0 dN_router_31 rfl ?_
      refine Cg_N_36 (pc := 32) hF dN_router_32 ?_
      refine jq_cVV (pc := 35) hF (As := []) (rest := []) (mT_settle l D a cI cZ (cAddRouter σ (p))  (cAddRouter_inv hI (vp_ok (cIsPlace_in hI (cIsFree_place h18)) (by decide)))) (jG_v mL_N_70 mI_T_settle mS_T_settle mZ_T mC_T_settle) rfl rfl rfl dd_T_settle ⟨Nat.le_of_ble_eq_true rfl, Nat.le_of_ble_eq_true rfl⟩ 3 rfl rfl rfl rfl (Nat.le_of_ble_eq_true rfl) dN_router_35 ?_
      refine jq_iconst (pc := 38) hF dN_router_38 ic_1 ?_
      exact jq_at (hk 39 _ dN_router_39) (congrArg (wC a cI cZ) (by exact if_pos (by simp [cRouterB, h7, h18]))) rfl rfl (congrArg (fun z => [Value.int z]) (bI1 (by simp [cRouterB, h7, h18])))
    · refine jq_iconst (pc := 21) hF dN_router_21 ic_0 ?_
      exact jq_at (hk 22 _ dN_router_22) (congrArg (wC a cI cZ) (by exact if_neg (by simp [cRouterB, h7, h18]))) rfl rfl (congrArg (fun z => [Value.int z]) (bI0 (by simp [cRouterB, h7, h18])))
set_option maxHeartbeats 4000000 in
set_option maxRecDepth 100000 in
theorem mN_access (l : Launch) (D : va_G) (a : Nat → Nat) (cI cZ : ClassId) (σ : jS) (p : Int32) (nw : Int32) (hI : cInv σ) : jI l yN_access w_N_access (rmD 2) D (jTys cI cZ) [.ref (a 0), .int (p), .int (nw)] (wC a cI cZ σ) (wC a cI cZ (if cAccessB σ p nw = true then cAccess σ p nw else σ)) (bI (cAccessB σ p nw)) := by
  refine jI_of (ws' := jG) (bI_nw _) (by decide) rfl (Nat.le_of_ble_eq_true rfl) ?_
  intro X hF hk
  show jJ l D (rmD 2) 3 X (wC a cI cZ σ) 0 [(0, .ref (a 0)), (1, .int (p)), (2, .int (nw))] []
  refine jq_aload_n (pc := 0) hF 0 dN_access_0 rfl ?_
  refine Cg_N_20 (pc := 1) hF dN_access_1 ?_
  refine jq_iload_n (pc := 4) hF 1 dN_access_4 rfl ?_
  refine jq_cVI (pc := 5) hF (As := [.int (p)]) (rest := []) (mP_isPlace l D a cI cZ σ (p) ) (jG_v mL_N_101 mI_P_isPlace mS_P_isPlace mZ_P mC_P_isPlace) rfl rfl rfl dd_P_isPlace ⟨Nat.le_of_ble_eq_true rfl, Nat.le_of_ble_eq_true rfl⟩ 1 rfl rfl rfl rfl (Nat.le_of_ble_eq_true rfl) dN_access_5 ?_
  refine jq_if_eqB (pc := 8) hF 18 dN_access_8 rfl (fun h8 => ?_) (fun h8 => ?_)
  · refine jq_iconst (pc := 18) hF dN_access_18 ic_0 ?_
    exact jq_at (hk 19 _ dN_access_19) (congrArg (wC a cI cZ) (by exact if_neg (by simp [cAccessB, h8]))) rfl rfl (congrArg (fun z => [Value.int z]) (bI0 (by simp [cAccessB, h8])))
  · refine jq_iload_n (pc := 11) hF 2 dN_access_11 rfl ?_
    refine jq_cSI (pc := 12) hF (As := [.int (nw)]) (rest := []) (mN_isNetwork l D a cI cZ σ (nw) ) (jG_st mL_N_86 mT_N_isNetwork mZ_N mC_N_isNetwork) rfl rfl rfl dd_N_isNetwork ⟨Nat.le_of_ble_eq_true rfl, Nat.le_of_ble_eq_true rfl⟩ rfl rfl (Nat.le_of_ble_eq_true rfl) dN_access_12 ?_
    refine jq_if_neB (pc := 15) hF 20 dN_access_15 rfl (fun h15 => ?_) (fun h15 => ?_)
    · refine jq_aload_n (pc := 20) hF 0 dN_access_20 rfl ?_
      refine Cg_N_27 (pc := 21) hF dN_access_21 ?_
      refine jq_iload_n (pc := 24) hF 1 dN_access_24 rfl ?_
      refine jq_iload_n (pc := 25) hF 2 dN_access_25 rfl ?_
      refine jq_cVV (pc := 26) hF (As := [.int (p), .int (nw)]) (rest := []) (mW_makeAccess l D a cI cZ σ (p) (nw) (cIsPlace_in hI h8)) (jG_v mL_N_104 mI_W_makeAccess mS_W_makeAccess mZ_W mC_W_makeAccess) rfl rfl rfl dd_W_makeAccess ⟨Nat.le_of_ble_eq_true rfl, Nat.le_of_ble_eq_true rfl⟩ 2 rfl rfl rfl rfl (Nat.le_of_ble_eq_true rfl) dN_access_26 ?_
      refine jq_iconst (pc := 29) hF dN_access_29 ic_1 ?_
      exact jq_at (hk 30 _ dN_access_30) (congrArg (wC a cI cZ) (by exact if_pos (by simp [cAccessB, h8, h15]))) rfl rfl (congrArg (fun z => [Value.int z]) (bI1 (by simp [cAccessB, h8, h15])))
    · refine jq_iconst (pc := 18) hF dN_access_18 ic_0 ?_
      exact jq_at (hk 19 _ dN_access_19) (congrArg (wC a cI cZ) (by exact if_neg (by simp [cAccessB, h8, h15]))) rfl rfl (congrArg (fun z => [Value.int z]) (bI0 (by simp [cAccessB, h8, h15])))
set_option maxHeartbeats 4000000 in
set_option maxRecDepth 100000 in
theorem mN_trunk (l : Launch) (D : va_G) (a : Nat → Nat) (cI cZ : ClassId) (σ : jS) (p : Int32) (nn : Int32) (mb : Int32) (hI : cInv σ) : jI l yN_trunk w_N_trunk (rmD 2) D (jTys cI cZ) [.ref (a 0), .int (p), .int (nn), .int (mb)] (wC a cI cZ σ) (wC a cI cZ (if cTrunkB σ p nn mb = true then cTrunk σ p nn mb else σ)) (bI (cTrunkB σ p nn mb)) := by
  refine jI_of (ws' := jG) (bI_nw _) (by decide) rfl (Nat.le_of_ble_eq_true rfl) ?_
  intro X hF hk
  show jJ l D (rmD 2) 4 X (wC a cI cZ σ) 0 [(0, .ref (a 0)), (1, .int (p)), (2, .int (nn)), (3, .int (mb))] []
  refine jq_aload_n (pc := 0) hF 0 dN_trunk_0 rfl ?_
  refine Cg_N_20 (pc := 1) hF dN_trunk_1 ?_
  refine jq_iload_n (pc := 4) hF 1 dN_trunk_4 rfl ?_
  refine jq_cVI (pc := 5) hF (As := [.int (p)]) (rest := []) (mP_isPlace l D a cI cZ σ (p) ) (jG_v mL_N_101 mI_P_isPlace mS_P_isPlace mZ_P mC_P_isPlace) rfl rfl rfl dd_P_isPlace ⟨Nat.le_of_ble_eq_true rfl, Nat.le_of_ble_eq_true rfl⟩ 1 rfl rfl rfl rfl (Nat.le_of_ble_eq_true rfl) dN_trunk_5 ?_
  refine jq_if_eqB (pc := 8) hF 28 dN_trunk_8 rfl (fun h8 => ?_) (fun h8 => ?_)
  · refine jq_iconst (pc := 28) hF dN_trunk_28 ic_0 ?_
    exact jq_at (hk 29 _ dN_trunk_29) (congrArg (wC a cI cZ) (by exact if_neg (by simp [cTrunkB, h8]))) rfl rfl (congrArg (fun z => [Value.int z]) (bI0 (by simp [cTrunkB, h8])))
  · refine jq_iload_n (pc := 11) hF 2 dN_trunk_11 rfl ?_
    refine jq_cSI (pc := 12) hF (As := [.int (nn)]) (rest := []) (mN_isNetwork l D a cI cZ σ (nn) ) (jG_st mL_N_86 mT_N_isNetwork mZ_N mC_N_isNetwork) rfl rfl rfl dd_N_isNetwork ⟨Nat.le_of_ble_eq_true rfl, Nat.le_of_ble_eq_true rfl⟩ rfl rfl (Nat.le_of_ble_eq_true rfl) dN_trunk_12 ?_
    refine jq_if_eqB (pc := 15) hF 28 dN_trunk_15 rfl (fun h15 => ?_) (fun h15 => ?_)
    · refine jq_iconst (pc := 28) hF dN_trunk_28 ic_0 ?_
      exact jq_at (hk 29 _ dN_trunk_29) (congrArg (wC a cI cZ) (by exact if_neg (by simp [cTrunkB, h8, h15]))) rfl rfl (congrArg (fun z => [Value.int z]) (bI0 (by simp [cTrunkB, h8, h15])))
    · refine jq_iload_n (pc := 18) hF 3 dN_trunk_18 rfl ?_
      refine jq_iconst (pc := 19) hF dN_trunk_19 ic_0 ?_
      refine jq_bipush (pc := 20) hF dN_trunk_20 bi_15 ?_
      refine jq_cSI (pc := 22) hF (As := [.int (mb), .int (nI 0), .int (nI 15)]) (rest := []) (mN_isWithin l D a cI cZ σ (mb) (nI (0)) (nI (15)) ) (jG_st mL_N_62 mT_N_isWithin mZ_N mC_N_isWithin) rfl rfl rfl dd_N_isWithin ⟨Nat.le_of_ble_eq_true rfl, Nat.le_of_ble_eq_true rfl⟩ rfl rfl (Nat.le_of_ble_eq_true rfl) dN_trunk_22 ?_
      refine jq_if_neB (pc := 25) hF 30 dN_trunk_25 rfl (fun h25 => ?_) (fun h25 => ?_)
      · refine jq_aload_n (pc := 30) hF 0 dN_trunk_30 rfl ?_
        refine Cg_N_27 (pc := 31) hF dN_trunk_31 ?_
        refine jq_iload_n (pc := 34) hF 1 dN_trunk_34 rfl ?_
        refine jq_iload_n (pc := 35) hF 2 dN_trunk_35 rfl ?_
        refine jq_iload_n (pc := 36) hF 3 dN_trunk_36 rfl ?_
        refine jq_cVV (pc := 37) hF (As := [.int (p), .int (nn), .int (mb)]) (rest := []) (mW_makeTrunk l D a cI cZ σ (p) (nn) (mb) (cIsPlace_in hI h8)) (jG_v mL_N_108 mI_W_makeTrunk mS_W_makeTrunk mZ_W mC_W_makeTrunk) rfl rfl rfl dd_W_makeTrunk ⟨Nat.le_of_ble_eq_true rfl, Nat.le_of_ble_eq_true rfl⟩ 2 rfl rfl rfl rfl (Nat.le_of_ble_eq_true rfl) dN_trunk_37 ?_
        refine jq_iconst (pc := 40) hF dN_trunk_40 ic_1 ?_
        exact jq_at (hk 41 _ dN_trunk_41) (congrArg (wC a cI cZ) (by exact if_pos (by simp [cTrunkB, h8, h15, h25]))) rfl rfl (congrArg (fun z => [Value.int z]) (bI1 (by simp [cTrunkB, h8, h15, h25])))
      · refine jq_iconst (pc := 28) hF dN_trunk_28 ic_0 ?_
        exact jq_at (hk 29 _ dN_trunk_29) (congrArg (wC a cI cZ) (by exact if_neg (by simp [cTrunkB, h8, h15, h25]))) rfl rfl (congrArg (fun z => [Value.int z]) (bI0 (by simp [cTrunkB, h8, h15, h25])))
set_option maxHeartbeats 4000000 in
set_option maxRecDepth 100000 in
theorem mN_cut (l : Launch) (D : va_G) (a : Nat → Nat) (cI cZ : ClassId) (σ : jS) (w : Int32) (off : Bool) (hI : cInv σ) : jI l yN_cut w_N_cut (rmD 5) D (jTys cI cZ) [.ref (a 0), .int (w), .int (bI (off))] (wC a cI cZ σ) (wC a cI cZ (if cCutB σ w off = true then cCutS σ w off else σ)) (bI (cCutB σ w off)) := by
  refine jI_of (ws' := jG) (bI_nw _) (by decide) rfl (Nat.le_of_ble_eq_true rfl) ?_
  intro X hF hk
  show jJ l D (rmD 5) 4 X (wC a cI cZ σ) 0 [(0, .ref (a 0)), (1, .int (w)), (2, .int (bI (off)))] []
  refine jq_iload_n (pc := 0) hF 1 dN_cut_0 rfl ?_
  refine jq_iconst (pc := 1) hF dN_cut_1 ic_0 ?_
  refine jq_aload_n (pc := 2) hF 0 dN_cut_2 rfl ?_
  refine Cg_N_20 (pc := 3) hF dN_cut_3 ?_
  refine Cg_N_73 (pc := 6) hF dN_cut_6 ?_
  refine jq_iconst (pc := 9) hF dN_cut_9 ic_1 ?_
  refine jq_isub (pc := 10) hF dN_cut_10 ?_
  refine jq_cSI (pc := 11) hF (As := [.int (w), .int (nI 0), .int ((σ 1 1) - (nI (1)))]) (rest := []) (mN_isWithin l D a cI cZ σ (w) (nI (0)) ((σ 1 1) - (nI (1))) ) (jG_st mL_N_62 mT_N_isWithin mZ_N mC_N_isWithin) rfl rfl rfl dd_N_isWithin ⟨Nat.le_of_ble_eq_true rfl, Nat.le_of_ble_eq_true rfl⟩ rfl rfl (Nat.le_of_ble_eq_true rfl) dN_cut_11 ?_
  refine jq_if_eqB (pc := 14) hF 30 dN_cut_14 rfl (fun h14 => ?_) (fun h14 => ?_)
  · refine jq_iconst (pc := 30) hF dN_cut_30 ic_0 ?_
    exact jq_at (hk 31 _ dN_cut_31) (congrArg (wC a cI cZ) (by exact if_neg (by simp [cCutB, h14]))) rfl rfl (congrArg (fun z => [Value.int z]) (bI0 (by simp [cCutB, h14])))
  · refine jq_aload_n (pc := 17) hF 0 dN_cut_17 rfl ?_
    refine Cg_N_20 (pc := 18) hF dN_cut_18 ?_
    refine Cg_N_112 (pc := 21) hF dN_cut_21 ?_
    refine jq_iload_n (pc := 24) hF 1 dN_cut_24 rfl ?_
    refine CL_9 (pc := 25) hF (cWire_in hI h14) dN_cut_25 ?_
    refine jq_iload_n (pc := 26) hF 2 dN_cut_26 rfl ?_
    refine jq_icmp_ne (pc := 27) hF 32 dN_cut_27 rfl (fun h27 => ?_) (fun h27 => ?_)
    · refine jq_aload_n (pc := 32) hF 0 dN_cut_32 rfl ?_
      refine Cg_N_20 (pc := 33) hF dN_cut_33 ?_
      refine Cg_N_112 (pc := 36) hF dN_cut_36 ?_
      refine jq_iload_n (pc := 39) hF 1 dN_cut_39 rfl ?_
      refine jq_iload_n (pc := 40) hF 2 dN_cut_40 rfl ?_
      refine CS_9 (pc := 41) hF (cWire_in hI h14) (bI_nar _) dN_cut_41 ?_
      refine jq_aload_n (pc := 42) hF 0 dN_cut_42 rfl ?_
      refine Cg_N_20 (pc := 43) hF dN_cut_43 ?_
      refine Cg_N_116 (pc := 46) hF dN_cut_46 ?_
      refine jq_iload_n (pc := 49) hF 1 dN_cut_49 rfl ?_
      refine CL_7 (pc := 50) hF (cWire_in hI h14) dN_cut_50 ?_
      refine jq_istore_n (pc := 51) hF [(3, .int ((sU σ 9 (w).toNatClampNeg (bI (off))) 7 (w).toNatClampNeg)), (0, .ref (a 0)), (1, .int (w)), (2, .int (bI (off)))] dN_cut_51 (Nat.le_of_ble_eq_true rfl) rfl ?_
      refine jq_aload_n (pc := 52) hF 1 dN_cut_52 rfl ?_
      refine Cg_N_36 (pc := 53) hF dN_cut_53 ?_
      refine jq_iload_n (pc := 56) hF 0 dN_cut_56 rfl ?_
      refine jq_cVV (pc := 57) hF (As := [.int ((sU σ 9 (w).toNatClampNeg (bI (off))) 7 (w).toNatClampNeg)]) (rest := []) (mT_dropMessage l D a cI cZ (sU σ 9 (w).toNatClampNeg (bI (off))) ((sU σ 9 (w).toNatClampNeg (bI (off))) 7 (w).toNatClampNeg) ((cEnd_ok hI h14).inn (by decide))) (jG_v mL_N_120 mI_T_dropMessage mS_T_dropMessage mZ_T mC_T_dropMessage) rfl rfl rfl dd_T_dropMessage ⟨Nat.le_of_ble_eq_true rfl, Nat.le_of_ble_eq_true rfl⟩ 3 rfl rfl rfl rfl (Nat.le_of_ble_eq_true rfl) dN_cut_57 ?_
      refine jq_aload_n (pc := 60) hF 1 dN_cut_60 rfl ?_
      refine Cg_N_36 (pc := 61) hF dN_cut_61 ?_
      refine jq_aload_n (pc := 64) hF 1 dN_cut_64 rfl ?_
      refine Cg_N_20 (pc := 65) hF dN_cut_65 ?_
      refine Cg_N_123 (pc := 68) hF dN_cut_68 ?_
      refine jq_iload_n (pc := 71) hF 0 dN_cut_71 rfl ?_
      refine CL_13 (pc := 72) hF ((cEnd_ok hI h14).inn (by decide)) dN_cut_72 ?_
      refine jq_cVV (pc := 73) hF (As := [.int ((cDrop (sU σ 9 (w).toNatClampNeg (bI (off))) ((sU σ 9 (w).toNatClampNeg (bI (off))) 7 (w).toNatClampNeg)) 13 ((sU σ 9 (w).toNatClampNeg (bI (off))) 7 (w).toNatClampNeg).toNatClampNeg)]) (rest := []) (mT_dropMessage l D a cI cZ (cDrop (sU σ 9 (w).toNatClampNeg (bI (off))) ((sU σ 9 (w).toNatClampNeg (bI (off))) 7 (w).toNatClampNeg)) ((cDrop (sU σ 9 (w).toNatClampNeg (bI (off))) ((sU σ 9 (w).toNatClampNeg (bI (off))) 7 (w).toNatClampNeg)) 13 ((sU σ 9 (w).toNatClampNeg (bI (off))) 7 (w).toNatClampNeg).toNatClampNeg) ((cFar_ok hI h14).inn (by decide))) (jG_v mL_N_120 mI_T_dropMessage mS_T_dropMessage mZ_T mC_T_dropMessage) rfl rfl rfl dd_T_dropMessage ⟨Nat.le_of_ble_eq_true rfl, Nat.le_of_ble_eq_true rfl⟩ 3 rfl rfl rfl rfl (Nat.le_of_ble_eq_true rfl) dN_cut_73 ?_
      refine jq_aload_n (pc := 76) hF 1 dN_cut_76 rfl ?_
      refine Cg_N_36 (pc := 77) hF dN_cut_77 ?_
      refine jq_cVV (pc := 80) hF (As := []) (rest := []) (mT_settle l D a cI cZ (cDrop (cDrop (sU σ 9 (w).toNatClampNeg (bI (off))) ((sU σ 9 (w).toNatClampNeg (bI (off))) 7 (w).toNatClampNeg)) ((cDrop (sU σ 9 (w).toNatClampNeg (bI (off))) ((sU σ 9 (w).toNatClampNeg (bI (off))) 7 (w).toNatClampNeg)) 13 ((sU σ 9 (w).toNatClampNeg (bI (off))) 7 (w).toNatClampNeg).toNatClampNeg))  (((hI.u (by decide)).u (by decide)).u (by decide))) (jG_v mL_N_70 mI_T_settle mS_T_settle mZ_T mC_T_settle) rfl rfl rfl dd_T_settle ⟨Nat.le_of_ble_eq_true rfl, Nat.le_of_ble_eq_true rfl⟩ 3 rfl rfl rfl rfl (Nat.le_of_ble_eq_true rfl) dN_cut_80 ?_
      refine jq_iconst (pc := 83) hF dN_cut_83 ic_1 ?_
      exact jq_at (hk 84 _ dN_cut_84) (congrArg (wC a cI cZ) (by exact if_pos (by simp [cCutB, h14, h27]))) rfl rfl (congrArg (fun z => [Value.int z]) (bI1 (by simp [cCutB, h14, h27])))
    · refine jq_iconst (pc := 30) hF dN_cut_30 ic_0 ?_
      exact jq_at (hk 31 _ dN_cut_31) (congrArg (wC a cI cZ) (by exact if_neg (by simp [cCutB, h14, h27]))) rfl rfl (congrArg (fun z => [Value.int z]) (bI0 (by simp [cCutB, h14, h27])))
set_option maxHeartbeats 4000000 in
set_option maxRecDepth 100000 in
theorem mN_role (l : Launch) (D : va_G) (a : Nat → Nat) (cI cZ : ClassId) (σ : jS) (p : Int32) (hI : cInv σ) : jI l yN_role w_N_role (rmD 2) D (jTys cI cZ) [.ref (a 0), .int (p)] (wC a cI cZ σ) (wC a cI cZ (σ)) (if cIsPlace σ p = true then σ 25 (p).toNatClampNeg else -1) := by
  refine jI_of (ws' := jG) rfl (by decide) rfl (Nat.le_of_ble_eq_true rfl) ?_
  intro X hF hk
  show jJ l D (rmD 2) 2 X (wC a cI cZ σ) 0 [(0, .ref (a 0)), (1, .int (p))] []
  refine jq_aload_n (pc := 0) hF 0 dN_role_0 rfl ?_
  refine Cg_N_20 (pc := 1) hF dN_role_1 ?_
  refine jq_iload_n (pc := 4) hF 1 dN_role_4 rfl ?_
  refine jq_cVI (pc := 5) hF (As := [.int (p)]) (rest := []) (mP_isPlace l D a cI cZ σ (p) ) (jG_v mL_N_101 mI_P_isPlace mS_P_isPlace mZ_P mC_P_isPlace) rfl rfl rfl dd_P_isPlace ⟨Nat.le_of_ble_eq_true rfl, Nat.le_of_ble_eq_true rfl⟩ 1 rfl rfl rfl rfl (Nat.le_of_ble_eq_true rfl) dN_role_5 ?_
  refine jq_if_eqB (pc := 8) hF 23 dN_role_8 rfl (fun h8 => ?_) (fun h8 => ?_)
  · refine jq_iconst (pc := 23) hF dN_role_23 ic_m1 ?_
    exact jq_at (hk 24 _ dN_role_24) rfl rfl rfl (congrArg (fun z => [Value.int z]) (by simp [h8]))
  · refine jq_aload_n (pc := 11) hF 0 dN_role_11 rfl ?_
    refine Cg_N_36 (pc := 12) hF dN_role_12 ?_
    refine Cg_N_135 (pc := 15) hF dN_role_15 ?_
    refine jq_iload_n (pc := 18) hF 1 dN_role_18 rfl ?_
    refine CL_25 (pc := 19) hF (cIsPlace_in hI h8) dN_role_19 ?_
    refine jq_goto (pc := 20) hF 24 dN_role_20 rfl ?_
    exact jq_at (hk 24 _ dN_role_24) rfl rfl rfl (congrArg (fun z => [Value.int z]) (by simp [h8]))
set_option maxHeartbeats 4000000 in
set_option maxRecDepth 100000 in
theorem mN_state (l : Launch) (D : va_G) (a : Nat → Nat) (cI cZ : ClassId) (σ : jS) (p : Int32) (hI : cInv σ) : jI l yN_state w_N_state (rmD 2) D (jTys cI cZ) [.ref (a 0), .int (p)] (wC a cI cZ σ) (wC a cI cZ (σ)) (if cIsPlace σ p = true then σ 27 (p).toNatClampNeg else -1) := by
  refine jI_of (ws' := jG) rfl (by decide) rfl (Nat.le_of_ble_eq_true rfl) ?_
  intro X hF hk
  show jJ l D (rmD 2) 2 X (wC a cI cZ σ) 0 [(0, .ref (a 0)), (1, .int (p))] []
  refine jq_aload_n (pc := 0) hF 0 dN_state_0 rfl ?_
  refine Cg_N_20 (pc := 1) hF dN_state_1 ?_
  refine jq_iload_n (pc := 4) hF 1 dN_state_4 rfl ?_
  refine jq_cVI (pc := 5) hF (As := [.int (p)]) (rest := []) (mP_isPlace l D a cI cZ σ (p) ) (jG_v mL_N_101 mI_P_isPlace mS_P_isPlace mZ_P mC_P_isPlace) rfl rfl rfl dd_P_isPlace ⟨Nat.le_of_ble_eq_true rfl, Nat.le_of_ble_eq_true rfl⟩ 1 rfl rfl rfl rfl (Nat.le_of_ble_eq_true rfl) dN_state_5 ?_
  refine jq_if_eqB (pc := 8) hF 23 dN_state_8 rfl (fun h8 => ?_) (fun h8 => ?_)
  · refine jq_iconst (pc := 23) hF dN_state_23 ic_m1 ?_
    exact jq_at (hk 24 _ dN_state_24) rfl rfl rfl (congrArg (fun z => [Value.int z]) (by simp [h8]))
  · refine jq_aload_n (pc := 11) hF 0 dN_state_11 rfl ?_
    refine Cg_N_36 (pc := 12) hF dN_state_12 ?_
    refine Cg_N_138 (pc := 15) hF dN_state_15 ?_
    refine jq_iload_n (pc := 18) hF 1 dN_state_18 rfl ?_
    refine CL_27 (pc := 19) hF (cIsPlace_in hI h8) dN_state_19 ?_
    refine jq_goto (pc := 20) hF 24 dN_state_20 rfl ?_
    exact jq_at (hk 24 _ dN_state_24) rfl rfl rfl (congrArg (fun z => [Value.int z]) (by simp [h8]))
set_option maxHeartbeats 4000000 in
set_option maxRecDepth 100000 in
theorem mN_root (l : Launch) (D : va_G) (a : Nat → Nat) (cI cZ : ClassId) (σ : jS) (b : Int32) (hI : cInv σ) : jI l yN_root w_N_root (rmD 2) D (jTys cI cZ) [.ref (a 0), .int (b)] (wC a cI cZ σ) (wC a cI cZ (σ)) (if cIsBridge σ b = true then σ 22 (b).toNatClampNeg * nI 2048 + σ 23 (b).toNatClampNeg * nI 2 + bI (cMarked σ (b).toNatClampNeg) else -1) := by
  refine jI_of (ws' := jG) rfl (by decide) rfl (Nat.le_of_ble_eq_true rfl) ?_
  intro X hF hk
  show jJ l D (rmD 2) 3 X (wC a cI cZ σ) 0 [(0, .ref (a 0)), (1, .int (b))] []
  refine jq_aload_n (pc := 0) hF 0 dN_root_0 rfl ?_
  refine Cg_N_20 (pc := 1) hF dN_root_1 ?_
  refine jq_iload_n (pc := 4) hF 1 dN_root_4 rfl ?_
  refine jq_cVI (pc := 5) hF (As := [.int (b)]) (rest := []) (mP_isBridge l D a cI cZ σ (b) ) (jG_v mL_N_141 mI_P_isBridge mS_P_isBridge mZ_P mC_P_isBridge) rfl rfl rfl dd_P_isBridge ⟨Nat.le_of_ble_eq_true rfl, Nat.le_of_ble_eq_true rfl⟩ 1 rfl rfl rfl rfl (Nat.le_of_ble_eq_true rfl) dN_root_5 ?_
  refine jq_if_neB (pc := 8) hF 13 dN_root_8 rfl (fun h8 => ?_) (fun h8 => ?_)
  · have hnb := hI.nbl.1
    obtain ⟨k, rfl, hkk⟩ := cIsBridge_at hI h8
    refine jq_aload_n (pc := 13) hF 0 dN_root_13 rfl ?_
    refine Cg_N_36 (pc := 14) hF dN_root_14 ?_
    refine jq_iload_n (pc := 17) hF 1 dN_root_17 rfl ?_
    refine jq_cVI (pc := 18) hF (As := [.int (nI k)]) (rest := []) (mT_isMarked l D a cI cZ σ (k) (by omega) hI) (jG_v mL_N_144 mI_T_isMarked mS_T_isMarked mZ_T mC_T_isMarked) rfl rfl rfl dd_T_isMarked ⟨Nat.le_of_ble_eq_true rfl, Nat.le_of_ble_eq_true rfl⟩ 3 rfl rfl rfl rfl (Nat.le_of_ble_eq_true rfl) dN_root_18 ?_
    have j29 : jJ l D (rmD 2) 3 X (wC a cI cZ σ) 29 [(0, .ref (a 0)), (1, .int (nI k))] [.int (bI ((cMarked σ (k))))] := by
      refine jq_istore_n (pc := 29) hF [(2, .int (bI ((cMarked σ (k))))), (0, .ref (a 0)), (1, .int (nI k))] dN_root_29 (Nat.le_of_ble_eq_true rfl) rfl ?_
      refine jq_aload_n (pc := 30) hF 1 dN_root_30 rfl ?_
      refine Cg_N_36 (pc := 31) hF dN_root_31 ?_
      refine Cg_N_147 (pc := 34) hF dN_root_34 ?_
      refine jq_iload_n (pc := 37) hF 2 dN_root_37 rfl ?_
      refine Cl_22 (pc := 38) hF (by omega) dN_root_38 ?_
      refine jq_sipush (pc := 39) hF dN_root_39 si_2048 ?_
      refine jq_imul (pc := 42) hF dN_root_42 ?_
      refine jq_aload_n (pc := 43) hF 1 dN_root_43 rfl ?_
      refine Cg_N_36 (pc := 44) hF dN_root_44 ?_
      refine Cg_N_150 (pc := 47) hF dN_root_47 ?_
      refine jq_iload_n (pc := 50) hF 2 dN_root_50 rfl ?_
      refine Cl_23 (pc := 51) hF (by omega) dN_root_51 ?_
      refine jq_iconst (pc := 52) hF dN_root_52 ic_2 ?_
      refine jq_imul (pc := 53) hF dN_root_53 ?_
      refine jq_iadd (pc := 54) hF dN_root_54 ?_
      refine jq_iload_n (pc := 55) hF 0 dN_root_55 rfl ?_
      refine jq_iadd (pc := 56) hF dN_root_56 ?_
      exact jq_at (hk 57 _ dN_root_57) rfl rfl rfl (congrArg (fun z => [Value.int z]) (by rw [if_pos h8, nI_clamp (by omega)]))
    refine jq_if_eqB (pc := 21) hF 28 dN_root_21 rfl (fun h21 => ?_) (fun h21 => ?_)
    · refine jq_iconst (pc := 28) hF dN_root_28 ic_0 ?_
      exact jq_at j29 rfl rfl rfl (by rw [h21]; rfl)
    · refine jq_iconst (pc := 24) hF dN_root_24 ic_1 ?_
      refine jq_goto (pc := 25) hF 29 dN_root_25 rfl ?_
      exact jq_at j29 rfl rfl rfl (by rw [h21]; rfl)
  · refine jq_iconst (pc := 11) hF dN_root_11 ic_m1 ?_
    exact jq_at (hk 12 _ dN_root_12) rfl rfl rfl (congrArg (fun z => [Value.int z]) (by exact if_neg (by rw [h8]; decide)))
set_option maxHeartbeats 4000000 in
set_option maxRecDepth 100000 in
theorem mN_held (l : Launch) (D : va_G) (a : Nat → Nat) (cI cZ : ClassId) (σ : jS) (p : Int32) (w : Int32) (hI : cInv σ) : jI l yN_held w_N_held (rmD 2) D (jTys cI cZ) [.ref (a 0), .int (p), .int (w)] (wC a cI cZ σ) (wC a cI cZ (σ)) (if cHeldB σ p w = true then σ 18 (6 * (p).toNatClampNeg + (w).toNatClampNeg) else -1) := by
  refine jI_of (ws' := jG) rfl (by decide) rfl (Nat.le_of_ble_eq_true rfl) ?_
  intro X hF hk
  show jJ l D (rmD 2) 3 X (wC a cI cZ σ) 0 [(0, .ref (a 0)), (1, .int (p)), (2, .int (w))] []
  refine jq_aload_n (pc := 0) hF 0 dN_held_0 rfl ?_
  refine Cg_N_20 (pc := 1) hF dN_held_1 ?_
  refine jq_iload_n (pc := 4) hF 1 dN_held_4 rfl ?_
  refine jq_cVI (pc := 5) hF (As := [.int (p)]) (rest := []) (mP_isPlace l D a cI cZ σ (p) ) (jG_v mL_N_101 mI_P_isPlace mS_P_isPlace mZ_P mC_P_isPlace) rfl rfl rfl dd_P_isPlace ⟨Nat.le_of_ble_eq_true rfl, Nat.le_of_ble_eq_true rfl⟩ 1 rfl rfl rfl rfl (Nat.le_of_ble_eq_true rfl) dN_held_5 ?_
  refine jq_if_eqB (pc := 8) hF 32 dN_held_8 rfl (fun h8 => ?_) (fun h8 => ?_)
  · refine jq_iconst (pc := 32) hF dN_held_32 ic_m1 ?_
    exact jq_at (hk 33 _ dN_held_33) rfl rfl rfl (congrArg (fun z => [Value.int z]) (by exact if_neg (by simp [cHeldB, h8])))
  · refine jq_aload_n (pc := 11) hF 0 dN_held_11 rfl ?_
    refine Cg_N_36 (pc := 12) hF dN_held_12 ?_
    refine Cg_N_153 (pc := 15) hF dN_held_15 ?_
    refine jq_iload_n (pc := 18) hF 1 dN_held_18 rfl ?_
    refine CL_19 (pc := 19) hF (cIsPlace_in hI h8) dN_held_19 ?_
    refine jq_if_eq (pc := 20) hF 32 dN_held_20 rfl (fun h20 => ?_) (fun h20 => ?_)
    · refine jq_iconst (pc := 32) hF dN_held_32 ic_m1 ?_
      exact jq_at (hk 33 _ dN_held_33) rfl rfl rfl (congrArg (fun z => [Value.int z]) (by exact if_neg (by simp [cHeldB, h8, h20])))
    · refine jq_iload_n (pc := 23) hF 2 dN_held_23 rfl ?_
      refine jq_iconst (pc := 24) hF dN_held_24 ic_0 ?_
      refine jq_iconst (pc := 25) hF dN_held_25 ic_5 ?_
      refine jq_cSI (pc := 26) hF (As := [.int (w), .int (nI 0), .int (nI 5)]) (rest := []) (mN_isWithin l D a cI cZ σ (w) (nI (0)) (nI (5)) ) (jG_st mL_N_62 mT_N_isWithin mZ_N mC_N_isWithin) rfl rfl rfl dd_N_isWithin ⟨Nat.le_of_ble_eq_true rfl, Nat.le_of_ble_eq_true rfl⟩ rfl rfl (Nat.le_of_ble_eq_true rfl) dN_held_26 ?_
      refine jq_if_neB (pc := 29) hF 34 dN_held_29 rfl (fun h29 => ?_) (fun h29 => ?_)
      · have hnb := hI.nbl.1
        have hB : cHeldB σ p w = true := by simp [cHeldB, h8, h20, h29]
        obtain ⟨k, rfl, hkk⟩ := cIsPlace_at hI h8
        obtain ⟨j, hj, rfl⟩ := cWithin_le (m := 5) (by decide) h29
        refine jq_aload_n (pc := 34) hF 0 dN_held_34 rfl ?_
        refine Cg_N_36 (pc := 35) hF dN_held_35 ?_
        refine Cg_N_156 (pc := 38) hF dN_held_38 ?_
        refine jq_bipush (pc := 41) hF dN_held_41 bi_6 ?_
        refine jq_iload_n (pc := 43) hF 1 dN_held_43 rfl ?_
        refine jq_imulN (pc := 44) hF dN_held_44 ?_
        refine jq_iload_n (pc := 45) hF 2 dN_held_45 rfl ?_
        refine jq_iaddN (pc := 46) hF dN_held_46 ?_
        refine Cl_18 (pc := 47) hF (by omega) dN_held_47 ?_
        exact jq_at (hk 48 _ dN_held_48) rfl rfl rfl (congrArg (fun z => [Value.int z]) (by rw [if_pos hB, nI_clamp (by omega), nI_clamp (by omega)]))
      · refine jq_iconst (pc := 32) hF dN_held_32 ic_m1 ?_
        exact jq_at (hk 33 _ dN_held_33) rfl rfl rfl (congrArg (fun z => [Value.int z]) (by exact if_neg (by simp [cHeldB, h8, h20, h29])))
set_option maxHeartbeats 4000000 in
set_option maxRecDepth 100000 in
theorem mN_learned (l : Launch) (D : va_G) (a : Nat → Nat) (cI cZ : ClassId) (σ : jS) (b : Int32) (n : Int32) (x : Int32) (hI : cInv σ) : jI l yN_learned w_N_learned (rmD 2) D (jTys cI cZ) [.ref (a 0), .int (b), .int (n), .int (x)] (wC a cI cZ σ) (wC a cI cZ (σ)) (if cLearnedB σ b n x = true then cPort σ (b).toNatClampNeg (n).toNatClampNeg (x).toNatClampNeg else -1) := by
  refine jI_of (ws' := jG) rfl (by decide) rfl (Nat.le_of_ble_eq_true rfl) ?_
  intro X hF hk
  show jJ l D (rmD 2) 4 X (wC a cI cZ σ) 0 [(0, .ref (a 0)), (1, .int (b)), (2, .int (n)), (3, .int (x))] []
  refine jq_aload_n (pc := 0) hF 0 dN_learned_0 rfl ?_
  refine Cg_N_20 (pc := 1) hF dN_learned_1 ?_
  refine jq_iload_n (pc := 4) hF 1 dN_learned_4 rfl ?_
  refine jq_cVI (pc := 5) hF (As := [.int (b)]) (rest := []) (mP_isBridge l D a cI cZ σ (b) ) (jG_v mL_N_141 mI_P_isBridge mS_P_isBridge mZ_P mC_P_isBridge) rfl rfl rfl dd_P_isBridge ⟨Nat.le_of_ble_eq_true rfl, Nat.le_of_ble_eq_true rfl⟩ 1 rfl rfl rfl rfl (Nat.le_of_ble_eq_true rfl) dN_learned_5 ?_
  refine jq_if_eqB (pc := 8) hF 28 dN_learned_8 rfl (fun h8 => ?_) (fun h8 => ?_)
  · refine jq_iconst (pc := 28) hF dN_learned_28 ic_m1 ?_
    exact jq_at (hk 29 _ dN_learned_29) rfl rfl rfl (congrArg (fun z => [Value.int z]) (by exact if_neg (by simp [cLearnedB, h8])))
  · refine jq_iload_n (pc := 11) hF 2 dN_learned_11 rfl ?_
    refine jq_cSI (pc := 12) hF (As := [.int (n)]) (rest := []) (mN_isNetwork l D a cI cZ σ (n) ) (jG_st mL_N_86 mT_N_isNetwork mZ_N mC_N_isNetwork) rfl rfl rfl dd_N_isNetwork ⟨Nat.le_of_ble_eq_true rfl, Nat.le_of_ble_eq_true rfl⟩ rfl rfl (Nat.le_of_ble_eq_true rfl) dN_learned_12 ?_
    refine jq_if_eqB (pc := 15) hF 28 dN_learned_15 rfl (fun h15 => ?_) (fun h15 => ?_)
    · refine jq_iconst (pc := 28) hF dN_learned_28 ic_m1 ?_
      exact jq_at (hk 29 _ dN_learned_29) rfl rfl rfl (congrArg (fun z => [Value.int z]) (by exact if_neg (by simp [cLearnedB, h8, h15])))
    · refine jq_iload_n (pc := 18) hF 3 dN_learned_18 rfl ?_
      refine jq_iconst (pc := 19) hF dN_learned_19 ic_0 ?_
      refine jq_bipush (pc := 20) hF dN_learned_20 bi_6 ?_
      refine jq_cSI (pc := 22) hF (As := [.int (x), .int (nI 0), .int (nI 6)]) (rest := []) (mN_isWithin l D a cI cZ σ (x) (nI (0)) (nI (6)) ) (jG_st mL_N_62 mT_N_isWithin mZ_N mC_N_isWithin) rfl rfl rfl dd_N_isWithin ⟨Nat.le_of_ble_eq_true rfl, Nat.le_of_ble_eq_true rfl⟩ rfl rfl (Nat.le_of_ble_eq_true rfl) dN_learned_22 ?_
      refine jq_if_neB (pc := 25) hF 30 dN_learned_25 rfl (fun h25 => ?_) (fun h25 => ?_)
      · have hnb := hI.nbl.1
        have hB : cLearnedB σ b n x = true := by simp [cLearnedB, h8, h15, h25]
        obtain ⟨k, rfl, hkk⟩ := cIsBridge_at hI h8
        obtain ⟨j, hj, rfl⟩ := cWithin_le (m := 3) (by decide) h15
        obtain ⟨y, hy, rfl⟩ := cWithin_le (m := 6) (by decide) h25
        refine jq_aload_n (pc := 30) hF 0 dN_learned_30 rfl ?_
        refine Cg_N_43 (pc := 31) hF dN_learned_31 ?_
        refine jq_iload_n (pc := 34) hF 1 dN_learned_34 rfl ?_
        refine jq_iload_n (pc := 35) hF 2 dN_learned_35 rfl ?_
        refine jq_iload_n (pc := 36) hF 3 dN_learned_36 rfl ?_
        refine jq_cVI (pc := 37) hF (As := [.int (nI k), .int (nI j), .int (nI y)]) (rest := []) (mB_portOf l D a cI cZ σ (k) (j) (y) (by omega) (by omega) (by omega)) (jG_v mL_N_159 mI_B_portOf mS_B_portOf mZ_B mC_B_portOf) rfl rfl rfl dd_B_portOf ⟨Nat.le_of_ble_eq_true rfl, Nat.le_of_ble_eq_true rfl⟩ 4 rfl rfl rfl rfl (Nat.le_of_ble_eq_true rfl) dN_learned_37 ?_
        exact jq_at (hk 40 _ dN_learned_40) rfl rfl rfl (congrArg (fun z => [Value.int z]) (by rw [if_pos hB, nI_clamp (by omega), nI_clamp (by omega), nI_clamp (by omega)]))
      · refine jq_iconst (pc := 28) hF dN_learned_28 ic_m1 ?_
        exact jq_at (hk 29 _ dN_learned_29) rfl rfl rfl (congrArg (fun z => [Value.int z]) (by exact if_neg (by simp [cLearnedB, h8, h15, h25])))
set_option maxHeartbeats 4000000 in
set_option maxRecDepth 100000 in
theorem mN_entries (l : Launch) (D : va_G) (a : Nat → Nat) (cI cZ : ClassId) (σ : jS) (b : Int32) (hI : cInv σ) : jI l yN_entries w_N_entries (rmD 2) D (jTys cI cZ) [.ref (a 0), .int (b)] (wC a cI cZ σ) (wC a cI cZ (σ)) (if cIsBridge σ b = true then nI (cCountN σ (b).toNatClampNeg 28) else -1) := by
  refine jI_of (ws' := jG) rfl (by decide) rfl (Nat.le_of_ble_eq_true rfl) ?_
  intro X hF hk
  show jJ l D (rmD 2) 2 X (wC a cI cZ σ) 0 [(0, .ref (a 0)), (1, .int (b))] []
  refine jq_aload_n (pc := 0) hF 0 dN_entries_0 rfl ?_
  refine Cg_N_20 (pc := 1) hF dN_entries_1 ?_
  refine jq_iload_n (pc := 4) hF 1 dN_entries_4 rfl ?_
  refine jq_cVI (pc := 5) hF (As := [.int (b)]) (rest := []) (mP_isBridge l D a cI cZ σ (b) ) (jG_v mL_N_141 mI_P_isBridge mS_P_isBridge mZ_P mC_P_isBridge) rfl rfl rfl dd_P_isBridge ⟨Nat.le_of_ble_eq_true rfl, Nat.le_of_ble_eq_true rfl⟩ 1 rfl rfl rfl rfl (Nat.le_of_ble_eq_true rfl) dN_entries_5 ?_
  refine jq_if_eqB (pc := 8) hF 22 dN_entries_8 rfl (fun h8 => ?_) (fun h8 => ?_)
  · refine jq_iconst (pc := 22) hF dN_entries_22 ic_m1 ?_
    exact jq_at (hk 23 _ dN_entries_23) rfl rfl rfl (congrArg (fun z => [Value.int z]) (by first | (rw [if_pos h8, nI_clamp (by omega)]; done) | exact if_neg (by rw [h8]; decide)))
  · have hnb := hI.nbl.1
    obtain ⟨k, rfl, hkk⟩ := cIsBridge_at hI h8
    refine jq_aload_n (pc := 11) hF 0 dN_entries_11 rfl ?_
    refine Cg_N_43 (pc := 12) hF dN_entries_12 ?_
    refine jq_iload_n (pc := 15) hF 1 dN_entries_15 rfl ?_
    refine jq_cVI (pc := 16) hF (As := [.int (nI k)]) (rest := []) (mB_countOf l D a cI cZ σ (k) (by omega)) (jG_v mL_N_162 mI_B_countOf mS_B_countOf mZ_B mC_B_countOf) rfl rfl rfl dd_B_countOf ⟨Nat.le_of_ble_eq_true rfl, Nat.le_of_ble_eq_true rfl⟩ 4 rfl rfl rfl rfl (Nat.le_of_ble_eq_true rfl) dN_entries_16 ?_
    refine jq_goto (pc := 19) hF 23 dN_entries_19 rfl ?_
    exact jq_at (hk 23 _ dN_entries_23) rfl rfl rfl (congrArg (fun z => [Value.int z]) (by first | (rw [if_pos h8, nI_clamp (by omega)]; done) | exact if_neg (by rw [h8]; decide)))
set_option maxHeartbeats 4000000 in
set_option maxRecDepth 100000 in
theorem mN_answer (l : Launch) (D : va_G) (a : Nat → Nat) (cI cZ : ClassId) (σ : jS)   : jI l yN_answer w_N_answer (rmD 0) D (jTys cI cZ) [.ref (a 0)] (wC a cI cZ σ) (wC a cI cZ (σ)) (σ 0 1) := by
  refine jI_of (ws' := jG) rfl (by decide) rfl (Nat.le_of_ble_eq_true rfl) ?_
  intro X hF hk
  show jJ l D (rmD 0) 1 X (wC a cI cZ σ) 0 [(0, .ref (a 0))] []
  refine jq_aload_n (pc := 0) hF 0 dN_answer_0 rfl ?_
  refine Cg_N_56 (pc := 1) hF dN_answer_1 ?_
  exact jq_at (hk 4 _ dN_answer_4) rfl rfl rfl rfl
set_option maxHeartbeats 4000000 in
set_option maxRecDepth 100000 in
theorem mN_crossings (l : Launch) (D : va_G) (a : Nat → Nat) (cI cZ : ClassId) (σ : jS)   : jI l yN_crossings w_N_crossings (rmD 0) D (jTys cI cZ) [.ref (a 0)] (wC a cI cZ σ) (wC a cI cZ (σ)) (σ 5 5) := by
  refine jI_of (ws' := jG) rfl (by decide) rfl (Nat.le_of_ble_eq_true rfl) ?_
  intro X hF hk
  show jJ l D (rmD 0) 1 X (wC a cI cZ σ) 0 [(0, .ref (a 0))] []
  refine jq_aload_n (pc := 0) hF 0 dN_crossings_0 rfl ?_
  refine Cg_N_52 (pc := 1) hF dN_crossings_1 ?_
  refine Cg_N_186 (pc := 4) hF dN_crossings_4 ?_
  exact jq_at (hk 7 _ dN_crossings_7) rfl rfl rfl rfl
set_option maxHeartbeats 4000000 in
set_option maxRecDepth 100000 in
theorem mN_isDestination (l : Launch) (D : va_G) (a : Nat → Nat) (cI cZ : ClassId) (σ : jS) (x : Int32)  : jI l yN_isDestination w_N_isDestination (rmD 2) D (jTys cI cZ) [.ref (a 0), .int (x)] (wC a cI cZ σ) (wC a cI cZ (σ)) (bI (cIsDest σ x)) := by
  refine jI_of (ws' := jG) (bI_nw _) (by decide) rfl (Nat.le_of_ble_eq_true rfl) ?_
  intro X hF hk
  show jJ l D (rmD 2) 2 X (wC a cI cZ σ) 0 [(0, .ref (a 0)), (1, .int (x))] []
  refine jq_iload_n (pc := 0) hF 1 dN_isDestination_0 rfl ?_
  refine jq_iconst (pc := 1) hF dN_isDestination_1 ic_m1 ?_
  refine jq_icmp_eq (pc := 2) hF 32 dN_isDestination_2 rfl (fun h2 => ?_) (fun h2 => ?_)
  · refine jq_iconst (pc := 32) hF dN_isDestination_32 ic_1 ?_
    refine jq_goto (pc := 33) hF 37 dN_isDestination_33 rfl ?_
    exact jq_at (hk 37 _ dN_isDestination_37) rfl rfl rfl (congrArg (fun z => [Value.int z]) (bI1 (by first | (simp [cIsDest, h2]; done) | (subst h19; simp [cIsDest, h2, h13, h29]; done))))
  · refine jq_aload_n (pc := 5) hF 0 dN_isDestination_5 rfl ?_
    refine Cg_N_20 (pc := 6) hF dN_isDestination_6 ?_
    refine jq_iload_n (pc := 9) hF 1 dN_isDestination_9 rfl ?_
    refine jq_cVI (pc := 10) hF (As := [.int (x)]) (rest := []) (mP_isHost l D a cI cZ σ (x) ) (jG_v mL_N_165 mI_P_isHost mS_P_isHost mZ_P mC_P_isHost) rfl rfl rfl dd_P_isHost ⟨Nat.le_of_ble_eq_true rfl, Nat.le_of_ble_eq_true rfl⟩ 1 rfl rfl rfl rfl (Nat.le_of_ble_eq_true rfl) dN_isDestination_10 ?_
    refine jq_if_neB (pc := 13) hF 32 dN_isDestination_13 rfl (fun h13 => ?_) (fun h13 => ?_)
    · refine jq_iconst (pc := 32) hF dN_isDestination_32 ic_1 ?_
      refine jq_goto (pc := 33) hF 37 dN_isDestination_33 rfl ?_
      exact jq_at (hk 37 _ dN_isDestination_37) rfl rfl rfl (congrArg (fun z => [Value.int z]) (bI1 (by first | (simp [cIsDest, h2, h13]; done) | (subst h19; simp [cIsDest, h2, h13, h29]; done))))
    · refine jq_iload_n (pc := 16) hF 1 dN_isDestination_16 rfl ?_
      refine jq_bipush (pc := 17) hF dN_isDestination_17 bi_6 ?_
      refine jq_icmp_ne (pc := 19) hF 36 dN_isDestination_19 rfl (fun h19 => ?_) (fun h19 => ?_)
      · refine jq_iconst (pc := 36) hF dN_isDestination_36 ic_0 ?_
        exact jq_at (hk 37 _ dN_isDestination_37) rfl rfl rfl (congrArg (fun z => [Value.int z]) (bI0 (by first | (simp [cIsDest, h2, h13, h19]; done) | (subst h19; simp [cIsDest, h2, h13, h29]; done))))
      · refine jq_aload_n (pc := 22) hF 0 dN_isDestination_22 rfl ?_
        refine Cg_N_20 (pc := 23) hF dN_isDestination_23 ?_
        refine jq_cVI (pc := 26) hF (As := []) (rest := []) (mP_hasRouter l D a cI cZ σ  ) (jG_v mL_N_93 mI_P_hasRouter mS_P_hasRouter mZ_P mC_P_hasRouter) rfl rfl rfl dd_P_hasRouter ⟨Nat.le_of_ble_eq_true rfl, Nat.le_of_ble_eq_true rfl⟩ 1 rfl rfl rfl rfl (Nat.le_of_ble_eq_true rfl) dN_isDestination_26 ?_
        refine jq_if_eqB (pc := 29) hF 36 dN_isDestination_29 rfl (fun h29 => ?_) (fun h29 => ?_)
        · refine jq_iconst (pc := 36) hF dN_isDestination_36 ic_0 ?_
          exact jq_at (hk 37 _ dN_isDestination_37) rfl rfl rfl (congrArg (fun z => [Value.int z]) (bI0 (by first | (simp [cIsDest, h2, h13, h19, h29]; done) | (subst h19; simp [cIsDest, h2, h13, h29]; done))))
        · refine jq_iconst (pc := 32) hF dN_isDestination_32 ic_1 ?_
          refine jq_goto (pc := 33) hF 37 dN_isDestination_33 rfl ?_
          exact jq_at (hk 37 _ dN_isDestination_37) rfl rfl rfl (congrArg (fun z => [Value.int z]) (bI1 (by first | (simp [cIsDest, h2, h13, h19, h29]; done) | (subst h19; simp [cIsDest, h2, h13, h29]; done))))
set_option maxHeartbeats 4000000 in
set_option maxRecDepth 100000 in
theorem mN_send (l : Launch) (D : va_G) (a : Nat → Nat) (cI cZ : ClassId) (σ : jS) (f : Int32) (t : Int32) (hI : cInv σ) : jI l yN_send w_N_send (rmD 5) D (jTys cI cZ) [.ref (a 0), .int (f), .int (t)] (wC a cI cZ σ) (wC a cI cZ (if cSendB σ f t = true then cCarry (sU σ 5 5 (nI 0)) f t (σ 10 (f).toNatClampNeg) (-1) else σ)) (if cSendB σ f t = true then (cCarry (sU σ 5 5 (nI 0)) f t (σ 10 (f).toNatClampNeg) (-1)) 5 4 else -1) := by
  refine jI_of (ws' := jG) rfl (by decide) rfl (Nat.le_of_ble_eq_true rfl) ?_
  intro X hF hk
  show jJ l D (rmD 5) 3 X (wC a cI cZ σ) 0 [(0, .ref (a 0)), (1, .int (f)), (2, .int (t))] []
  refine jq_aload_n (pc := 0) hF 0 dN_send_0 rfl ?_
  refine Cg_N_20 (pc := 1) hF dN_send_1 ?_
  refine jq_iload_n (pc := 4) hF 1 dN_send_4 rfl ?_
  refine jq_cVI (pc := 5) hF (As := [.int (f)]) (rest := []) (mP_isHost l D a cI cZ σ (f) ) (jG_v mL_N_165 mI_P_isHost mS_P_isHost mZ_P mC_P_isHost) rfl rfl rfl dd_P_isHost ⟨Nat.le_of_ble_eq_true rfl, Nat.le_of_ble_eq_true rfl⟩ 1 rfl rfl rfl rfl (Nat.le_of_ble_eq_true rfl) dN_send_5 ?_
  refine jq_if_eqB (pc := 8) hF 19 dN_send_8 rfl (fun h8 => ?_) (fun h8 => ?_)
  · refine jq_iconst (pc := 19) hF dN_send_19 ic_m1 ?_
    exact jq_at (hk 20 _ dN_send_20) (congrArg (wC a cI cZ) (by exact if_neg (by simp [cSendB, h8]))) rfl rfl (congrArg (fun z => [Value.int z]) (by exact if_neg (by simp [cSendB, h8])))
  · refine jq_aload_n (pc := 11) hF 0 dN_send_11 rfl ?_
    refine jq_iload_n (pc := 12) hF 2 dN_send_12 rfl ?_
    refine jq_cVI (pc := 13) hF (As := [.int (t)]) (rest := []) (mN_isDestination l D a cI cZ σ (t) ) (jG_v mL_N_168 mI_N_isDestination mS_N_isDestination mZ_N mC_N_isDestination) rfl rfl rfl dd_N_isDestination ⟨Nat.le_of_ble_eq_true rfl, Nat.le_of_ble_eq_true rfl⟩ 0 rfl rfl rfl rfl (Nat.le_of_ble_eq_true rfl) dN_send_13 ?_
    refine jq_if_neB (pc := 16) hF 21 dN_send_16 rfl (fun h16 => ?_) (fun h16 => ?_)
    · have hB : cSendB σ f t = true := by simp [cSendB, h8, h16]
      obtain ⟨k, rfl, -, hkk⟩ := cIsHost_at hI h8
      refine jq_aload_n (pc := 21) hF 0 dN_send_21 rfl ?_
      refine Cg_N_52 (pc := 22) hF dN_send_22 ?_
      refine jq_cVV (pc := 25) hF (As := []) (rest := []) (mK_startCount l D a cI cZ σ  ) (jG_v mL_N_171 mI_K_startCount mS_K_startCount mZ_K mC_K_startCount) rfl rfl rfl dd_K_startCount ⟨Nat.le_of_ble_eq_true rfl, Nat.le_of_ble_eq_true rfl⟩ 5 rfl rfl rfl rfl (Nat.le_of_ble_eq_true rfl) dN_send_25 ?_
      refine jq_aload_n (pc := 28) hF 0 dN_send_28 rfl ?_
      refine Cg_N_52 (pc := 29) hF dN_send_29 ?_
      refine jq_iload_n (pc := 32) hF 1 dN_send_32 rfl ?_
      refine jq_iload_n (pc := 33) hF 2 dN_send_33 rfl ?_
      refine jq_cVI (pc := 34) hF (As := [.int (nI k), .int (t)]) (rest := []) (mK_carryFromHost l D a cI cZ (sU σ 5 5 (nI 0)) (k) (t) hkk (cIsDest_ok hI h16) (hI.u (by decide))) (jG_v mL_N_174 mI_K_carryFromHost mS_K_carryFromHost mZ_K mC_K_carryFromHost) rfl rfl rfl dd_K_carryFromHost ⟨Nat.le_of_ble_eq_true rfl, Nat.le_of_ble_eq_true rfl⟩ 5 rfl rfl rfl rfl (Nat.le_of_ble_eq_true rfl) dN_send_34 ?_
      exact jq_at (hk 37 _ dN_send_37) (congrArg (wC a cI cZ) (by (rw [if_pos hB, nI_clamp (by omega)]; try rfl))) rfl rfl (congrArg (fun z => [Value.int z]) (by (rw [if_pos hB, nI_clamp (by omega)]; try rfl)))
    · refine jq_iconst (pc := 19) hF dN_send_19 ic_m1 ?_
      exact jq_at (hk 20 _ dN_send_20) (congrArg (wC a cI cZ) (by exact if_neg (by simp [cSendB, h8, h16]))) rfl rfl (congrArg (fun z => [Value.int z]) (by exact if_neg (by simp [cSendB, h8, h16])))
end
section
/-! ask -/
def cCarH (σ : jS) (f : Nat) (to : Int32) : jS := cCarry σ (nI f) to (σ 10 f) (-1)
def cCarR (σ : jS) (nw to : Int32) : jS := if ¬ σ 1 3 = -1 then cCarry σ (nI 6) to (σ 1 3) (cTagOut σ (σ 1 3).toNatClampNeg nw) else σ
def cCarV (σ : jS) (nw to : Int32) : Int32 := if ¬ σ 1 3 = -1 then (cCarry σ (nI 6) to (σ 1 3) (cTagOut σ (σ 1 3).toNatClampNeg nw)) 5 4 else nI 0
def cDirS (σ : jS) (i f t : Nat) : jS := if i = 0 then cCarH σ f (-1) else if i = 2 then cCarH σ f (nI t) else cCarH σ t (nI f)
def cDirB (σ : jS) (i f t : Nat) : Bool :=
  if i = 0 then cHasBit (cCarH σ f (-1) 5 4) (nI t) else if i = 2 then cHasBit (cCarH σ f (nI t) 5 4) (nI t) else cHasBit (cCarH σ t (nI f) 5 4) (nI f)
def cRouS (σ : jS) (i f t : Nat) : jS :=
  if i = 0 then cCarH σ f (-1) else if i = 2 then cCarH σ f (nI 6) else if i = 3 then cCarR σ (σ 11 t) (-1) else if i = 4 then cCarH σ t (nI 6)
  else if i = 5 then cCarR σ (σ 11 t) (nI t) else if i = 6 then cCarH σ t (nI 6) else cCarR σ (σ 11 f) (nI f)
def cRouB (σ : jS) (i f t : Nat) : Bool :=
  if i = 0 then cHasBit (cCarH σ f (-1) 5 4) (nI 6) else if i = 2 then cHasBit (cCarH σ f (nI 6) 5 4) (nI 6) else if i = 3 then cHasBit (cCarV σ (σ 11 t) (-1)) (nI t) else if i = 4 then cHasBit (cCarH σ t (nI 6) 5 4) (nI 6)
  else if i = 5 then cHasBit (cCarV σ (σ 11 t) (nI t)) (nI t) else if i = 6 then cHasBit (cCarH σ t (nI 6) 5 4) (nI 6) else cHasBit (cCarV σ (σ 11 f) (nI f)) (nI f)
def cAskRun (r : Bool) (f t : Nat) : Nat → Nat → jS → jS × Nat
  | 0, i, σ => (σ, i)
  | n + 1, i, σ => if (if r = false then cDirB σ i f t else cRouB σ i f t) = true then cAskRun r f t n (i + 1) (if r = false then cDirS σ i f t else cRouS σ i f t) else ((if r = false then cDirS σ i f t else cRouS σ i f t), i)
def cAskR (σ : jS) (f t : Nat) : Bool := !decide (σ 11 f = σ 11 t)
def cAskDue (r : Bool) : Nat := if r = false then 4 else 8
def cAskF (σ : jS) (f t : Nat) : jS × Nat := cAskRun (cAskR σ f t) f t (cAskDue (cAskR σ f t)) 0 (sU σ 5 5 (nI 0))
def cAskSt (σ : jS) (f t : Nat) (v : Int32) : jS := if (cAskF σ f t).2 = cAskDue (cAskR σ f t) then sU (cAskF σ f t).1 0 1 (nI 31 * v + nI t) else (cAskF σ f t).1
def cAskB (σ : jS) (f t : Int32) : Bool := cIsHost σ f && cIsHost σ t && (!cAskR σ f.toNatClampNeg t.toNatClampNeg || cHasRouter σ)
theorem ask_goD {r : Bool} {f t n i : Nat} {σ : jS} (hr : r = false) (h : cDirB σ i f t = true) : cAskRun r f t (n + 1) i σ = cAskRun r f t n (i + 1) (cDirS σ i f t) := by
  subst hr
  exact if_pos h
theorem ask_goR {r : Bool} {f t n i : Nat} {σ : jS} (hr : r = true) (h : cRouB σ i f t = true) : cAskRun r f t (n + 1) i σ = cAskRun r f t n (i + 1) (cRouS σ i f t) := by
  subst hr
  exact if_pos h
theorem ask_stopD {r : Bool} {f t n i : Nat} {σ : jS} (hr : r = false) (h : cDirB σ i f t = false) : cAskRun r f t (n + 1) i σ = (cDirS σ i f t, i) := by
  subst hr
  exact if_neg (show ¬ cDirB σ i f t = true by rw [h]; decide)
theorem ask_stopR {r : Bool} {f t n i : Nat} {σ : jS} (hr : r = true) (h : cRouB σ i f t = false) : cAskRun r f t (n + 1) i σ = (cRouS σ i f t, i) := by
  subst hr
  exact if_neg (show ¬ cRouB σ i f t = true by rw [h]; decide)
theorem cCarH_inv {σ : jS} (hI : cInv σ) {f : Nat} {to : Int32} (hf : f < 6) (ht : okQ 7 to) : cInv (cCarH σ f to) := cCarry_inv hI ⟨f, by omega, rfl⟩ ht (hI.hp hf) (Or.inl rfl)
theorem cCarR_inv {σ : jS} (hI : cInv σ) {nw to : Int32} (hn : okP 4 nw) (ht : okQ 7 to) : cInv (cCarR σ nw to) := by
  unfold cCarR
  by_cases h : ¬ σ 1 3 = -1
  · rw [if_pos h]; exact cCarry_inv hI ⟨6, by decide, rfl⟩ ht (hI.rt.resolve_left h) (cTagOut_ok hn)
  · rw [if_neg h]; exact hI
theorem okQn {f : Nat} (h : f < 7) : okQ 7 (nI f) := Or.inr ⟨f, h, rfl⟩
theorem cDirS_inv {σ : jS} (hI : cInv σ) {i f t : Nat} (hf : f < 6) (ht : t < 6) : cInv (cDirS σ i f t) := by
  unfold cDirS
  split
  · exact cCarH_inv hI hf (Or.inl rfl)
  · split
    · exact cCarH_inv hI hf (okQn (by omega))
    · exact cCarH_inv hI ht (okQn (by omega))
theorem cRouS_inv {σ : jS} (hI : cInv σ) {i f t : Nat} (hf : f < 6) (ht : t < 6) : cInv (cRouS σ i f t) := by
  unfold cRouS
  split
  · exact cCarH_inv hI hf (Or.inl rfl)
  · split
    · exact cCarH_inv hI hf (okQn (by omega))
    · split
      · exact cCarR_inv hI (hI.sn ht) (Or.inl rfl)
      · split
        · exact cCarH_inv hI ht (okQn (by omega))
        · split
          · exact cCarR_inv hI (hI.sn ht) (okQn (by omega))
          · split
            · exact cCarH_inv hI ht (okQn (by omega))
            · exact cCarR_inv hI (hI.sn hf) (okQn (by omega))
section JSW
variable {l : Launch} {D : va_G} {R : Room} {nL : Nat} {X : jX} {cc : ByteArray} {own : String} {Ts : List Cond} {tys : List (ClassId × FieldType)} {ret : Option FieldType} {wl : va_W} {pc : Nat} {L : List (Nat × Value)} {st : List Value}
theorem jq_lookup (hF : jF D R nL X cc own Ts tys ret) {dflt : Int} {ps : Array (Int × Int)} {len : Nat} {x : Int32} {off : Int} (tgt : Nat) (hd : decode cc pc = .ok (.lookupswitch dflt ps, len)) (hp : (ps.toList.zip (ps.toList.drop 1)).all (fun (a, next) => a.1 < next.1) = true) (ho : Op.lookupswitch.offset ps.toList dflt x.toInt = off) (ht : (pc : Int) + off = (tgt : Int)) (k : jJ l D R nL X wl tgt L st) : jJ l D R nL X wl pc L (.int x :: st) :=
  fun H locs ls hP hD hS hl => lv_lookup hF.1 hF.2.1 hd hp ho ht (k H locs ls hP hD hS hl)
theorem jq_tabIn (hF : jF D R nL X cc own Ts tys ret) {dflt lo hi : Int} {offs : Array Int} {len : Nat} {x : Int32} {off : Int} (tgt : Nat) (hd : decode cc pc = .ok (.tableswitch dflt lo hi offs, len)) (h1 : ¬ x.toInt < lo) (h2 : ¬ hi < x.toInt) (ho : offs[(x.toInt - lo).toNat]? = some off) (ht : (pc : Int) + off = (tgt : Int)) (k : jJ l D R nL X wl tgt L st) : jJ l D R nL X wl pc L (.int x :: st) :=
  fun H locs ls hP hD hS hl => lv_tableIn hF.1 hF.2.1 hd h1 h2 ho ht (k H locs ls hP hD hS hl)
theorem jq_tabOut (hF : jF D R nL X cc own Ts tys ret) {dflt lo hi : Int} {offs : Array Int} {len : Nat} {x : Int32} (tgt : Nat) (hd : decode cc pc = .ok (.tableswitch dflt lo hi offs, len)) (h : x.toInt < lo ∨ hi < x.toInt) (ht : (pc : Int) + dflt = (tgt : Int)) (k : jJ l D R nL X wl tgt L st) : jJ l D R nL X wl pc L (.int x :: st) :=
  fun H locs ls hP hD hS hl => lv_tableOut hF.1 hF.2.1 hd h ht (k H locs ls hP hD hS hl)
end JSW

set_option maxHeartbeats 4000000 in
set_option maxRecDepth 100000 in
theorem mN_directStep (l : Launch) (D : va_G) (a : Nat → Nat) (cI cZ : ClassId) (σ : jS) (i : Nat) (f : Nat) (t : Nat) (hi : i < 4) (hf : f < 6) (ht : t < 6) (hI : cInv σ) : jI l yN_directStep w_N_directStep (rmD 5) D (jTys cI cZ) [.ref (a 0), .int (nI i), .int (nI f), .int (nI t)] (wC a cI cZ σ) (wC a cI cZ (cDirS σ i f t)) (bI (cDirB σ i f t)) := by
  refine jI_of (ws' := jG) (bI_nw _) (by decide) rfl (Nat.le_of_ble_eq_true rfl) ?_
  intro X hF hk
  show jJ l D (rmD 5) 4 X (wC a cI cZ σ) 0 [(0, .ref (a 0)), (1, .int (nI i)), (2, .int (nI f)), (3, .int (nI t))] []
  refine jq_iload_n (pc := 0) hF 1 dN_directStep_0 rfl ?_
  have hc : i = 0 ∨ i = 1 ∨ i = 2 ∨ i = 3 := by omega
  rcases hc with rfl | rfl | rfl | rfl
  · refine jq_lookup (pc := 1) hF 28 dN_directStep_1 (by decide) (off := 27) (by decide) rfl ?_
    refine jq_aload_n (pc := 28) hF 0 dN_directStep_28 rfl ?_
    refine Cg_N_52 (pc := 29) hF dN_directStep_29 ?_
    refine jq_iload_n (pc := 32) hF 2 dN_directStep_32 rfl ?_
    refine jq_iconst (pc := 33) hF dN_directStep_33 ic_m1 ?_
    refine jq_cVI (pc := 34) hF (As := [.int (nI f), .int (-1)]) (rest := []) (mK_carryFromHost l D a cI cZ σ (f) (-1) hf (Or.inl rfl) hI) (jG_v mL_N_174 mI_K_carryFromHost mS_K_carryFromHost mZ_K mC_K_carryFromHost) rfl rfl rfl dd_K_carryFromHost ⟨Nat.le_of_ble_eq_true rfl, Nat.le_of_ble_eq_true rfl⟩ 5 rfl rfl rfl rfl (Nat.le_of_ble_eq_true rfl) dN_directStep_34 ?_
    refine jq_iload_n (pc := 37) hF 3 dN_directStep_37 rfl ?_
    refine jq_cSI (pc := 38) hF (As := [.int ((cCarry σ (nI (f)) (-1) (σ 10 (f)) (-1)) 5 4), .int (nI t)]) (rest := []) (mN_hasBit l D a cI cZ (cCarry σ (nI (f)) (-1) (σ 10 (f)) (-1)) ((cCarry σ (nI (f)) (-1) (σ 10 (f)) (-1)) 5 4) (nI (t)) ) (jG_st mL_N_195 mT_N_hasBit mZ_N mC_N_hasBit) rfl rfl rfl dd_N_hasBit ⟨Nat.le_of_ble_eq_true rfl, Nat.le_of_ble_eq_true rfl⟩ rfl rfl (Nat.le_of_ble_eq_true rfl) dN_directStep_38 ?_
    exact jq_at (hk 41 _ dN_directStep_41) (congrArg (wC a cI cZ) (by rfl)) rfl rfl (congrArg (fun z => [Value.int z]) (by rfl))
  · refine jq_lookup (pc := 1) hF 56 dN_directStep_1 (by decide) (off := 55) (by decide) rfl ?_
    refine jq_aload_n (pc := 56) hF 0 dN_directStep_56 rfl ?_
    refine Cg_N_52 (pc := 57) hF dN_directStep_57 ?_
    refine jq_iload_n (pc := 60) hF 3 dN_directStep_60 rfl ?_
    refine jq_iload_n (pc := 61) hF 2 dN_directStep_61 rfl ?_
    refine jq_cVI (pc := 62) hF (As := [.int (nI t), .int (nI f)]) (rest := []) (mK_carryFromHost l D a cI cZ σ (t) (nI (f)) ht (okQn (by omega)) hI) (jG_v mL_N_174 mI_K_carryFromHost mS_K_carryFromHost mZ_K mC_K_carryFromHost) rfl rfl rfl dd_K_carryFromHost ⟨Nat.le_of_ble_eq_true rfl, Nat.le_of_ble_eq_true rfl⟩ 5 rfl rfl rfl rfl (Nat.le_of_ble_eq_true rfl) dN_directStep_62 ?_
    refine jq_iload_n (pc := 65) hF 2 dN_directStep_65 rfl ?_
    refine jq_cSI (pc := 66) hF (As := [.int ((cCarry σ (nI (t)) (nI (f)) (σ 10 (t)) (-1)) 5 4), .int (nI f)]) (rest := []) (mN_hasBit l D a cI cZ (cCarry σ (nI (t)) (nI (f)) (σ 10 (t)) (-1)) ((cCarry σ (nI (t)) (nI (f)) (σ 10 (t)) (-1)) 5 4) (nI (f)) ) (jG_st mL_N_195 mT_N_hasBit mZ_N mC_N_hasBit) rfl rfl rfl dd_N_hasBit ⟨Nat.le_of_ble_eq_true rfl, Nat.le_of_ble_eq_true rfl⟩ rfl rfl (Nat.le_of_ble_eq_true rfl) dN_directStep_66 ?_
    exact jq_at (hk 69 _ dN_directStep_69) (congrArg (wC a cI cZ) (by rfl)) rfl rfl (congrArg (fun z => [Value.int z]) (by rfl))
  · refine jq_lookup (pc := 1) hF 42 dN_directStep_1 (by decide) (off := 41) (by decide) rfl ?_
    refine jq_aload_n (pc := 42) hF 0 dN_directStep_42 rfl ?_
    refine Cg_N_52 (pc := 43) hF dN_directStep_43 ?_
    refine jq_iload_n (pc := 46) hF 2 dN_directStep_46 rfl ?_
    refine jq_iload_n (pc := 47) hF 3 dN_directStep_47 rfl ?_
    refine jq_cVI (pc := 48) hF (As := [.int (nI f), .int (nI t)]) (rest := []) (mK_carryFromHost l D a cI cZ σ (f) (nI (t)) hf (okQn (by omega)) hI) (jG_v mL_N_174 mI_K_carryFromHost mS_K_carryFromHost mZ_K mC_K_carryFromHost) rfl rfl rfl dd_K_carryFromHost ⟨Nat.le_of_ble_eq_true rfl, Nat.le_of_ble_eq_true rfl⟩ 5 rfl rfl rfl rfl (Nat.le_of_ble_eq_true rfl) dN_directStep_48 ?_
    refine jq_iload_n (pc := 51) hF 3 dN_directStep_51 rfl ?_
    refine jq_cSI (pc := 52) hF (As := [.int ((cCarry σ (nI (f)) (nI (t)) (σ 10 (f)) (-1)) 5 4), .int (nI t)]) (rest := []) (mN_hasBit l D a cI cZ (cCarry σ (nI (f)) (nI (t)) (σ 10 (f)) (-1)) ((cCarry σ (nI (f)) (nI (t)) (σ 10 (f)) (-1)) 5 4) (nI (t)) ) (jG_st mL_N_195 mT_N_hasBit mZ_N mC_N_hasBit) rfl rfl rfl dd_N_hasBit ⟨Nat.le_of_ble_eq_true rfl, Nat.le_of_ble_eq_true rfl⟩ rfl rfl (Nat.le_of_ble_eq_true rfl) dN_directStep_52 ?_
    exact jq_at (hk 55 _ dN_directStep_55) (congrArg (wC a cI cZ) (by rfl)) rfl rfl (congrArg (fun z => [Value.int z]) (by rfl))
  · refine jq_lookup (pc := 1) hF 56 dN_directStep_1 (by decide) (off := 55) (by decide) rfl ?_
    refine jq_aload_n (pc := 56) hF 0 dN_directStep_56 rfl ?_
    refine Cg_N_52 (pc := 57) hF dN_directStep_57 ?_
    refine jq_iload_n (pc := 60) hF 3 dN_directStep_60 rfl ?_
    refine jq_iload_n (pc := 61) hF 2 dN_directStep_61 rfl ?_
    refine jq_cVI (pc := 62) hF (As := [.int (nI t), .int (nI f)]) (rest := []) (mK_carryFromHost l D a cI cZ σ (t) (nI (f)) ht (okQn (by omega)) hI) (jG_v mL_N_174 mI_K_carryFromHost mS_K_carryFromHost mZ_K mC_K_carryFromHost) rfl rfl rfl dd_K_carryFromHost ⟨Nat.le_of_ble_eq_true rfl, Nat.le_of_ble_eq_true rfl⟩ 5 rfl rfl rfl rfl (Nat.le_of_ble_eq_true rfl) dN_directStep_62 ?_
    refine jq_iload_n (pc := 65) hF 2 dN_directStep_65 rfl ?_
    refine jq_cSI (pc := 66) hF (As := [.int ((cCarry σ (nI (t)) (nI (f)) (σ 10 (t)) (-1)) 5 4), .int (nI f)]) (rest := []) (mN_hasBit l D a cI cZ (cCarry σ (nI (t)) (nI (f)) (σ 10 (t)) (-1)) ((cCarry σ (nI (t)) (nI (f)) (σ 10 (t)) (-1)) 5 4) (nI (f)) ) (jG_st mL_N_195 mT_N_hasBit mZ_N mC_N_hasBit) rfl rfl rfl dd_N_hasBit ⟨Nat.le_of_ble_eq_true rfl, Nat.le_of_ble_eq_true rfl⟩ rfl rfl (Nat.le_of_ble_eq_true rfl) dN_directStep_66 ?_
    exact jq_at (hk 69 _ dN_directStep_69) (congrArg (wC a cI cZ) (by rfl)) rfl rfl (congrArg (fun z => [Value.int z]) (by rfl))
set_option maxHeartbeats 4000000 in
set_option maxRecDepth 100000 in
theorem mN_routedStep (l : Launch) (D : va_G) (a : Nat → Nat) (cI cZ : ClassId) (σ : jS) (i : Nat) (f : Nat) (t : Nat) (hi : i < 8) (hf : f < 6) (ht : t < 6) (hI : cInv σ) : jI l yN_routedStep w_N_routedStep (rmD 5) D (jTys cI cZ) [.ref (a 0), .int (nI i), .int (nI f), .int (nI t)] (wC a cI cZ σ) (wC a cI cZ (cRouS σ i f t)) (bI (cRouB σ i f t)) := by
  refine jI_of (ws' := jG) (bI_nw _) (by decide) rfl (Nat.le_of_ble_eq_true rfl) ?_
  intro X hF hk
  show jJ l D (rmD 5) 4 X (wC a cI cZ σ) 0 [(0, .ref (a 0)), (1, .int (nI i)), (2, .int (nI f)), (3, .int (nI t))] []
  refine jq_iload_n (pc := 0) hF 1 dN_routedStep_0 rfl ?_
  have hc : i = 0 ∨ i = 1 ∨ i = 2 ∨ i = 3 ∨ i = 4 ∨ i = 5 ∨ i = 6 ∨ i = 7 := by omega
  rcases hc with rfl | rfl | rfl | rfl | rfl | rfl | rfl | rfl
  · refine jq_tabIn (pc := 1) hF 44 dN_routedStep_1 (by decide) (by decide) (off := 43) (by decide) rfl ?_
    refine jq_aload_n (pc := 44) hF 0 dN_routedStep_44 rfl ?_
    refine Cg_N_52 (pc := 45) hF dN_routedStep_45 ?_
    refine jq_iload_n (pc := 48) hF 2 dN_routedStep_48 rfl ?_
    refine jq_iconst (pc := 49) hF dN_routedStep_49 ic_m1 ?_
    refine jq_cVI (pc := 50) hF (As := [.int (nI f), .int (-1)]) (rest := []) (mK_carryFromHost l D a cI cZ σ (f) (-1) hf (Or.inl rfl) hI) (jG_v mL_N_174 mI_K_carryFromHost mS_K_carryFromHost mZ_K mC_K_carryFromHost) rfl rfl rfl dd_K_carryFromHost ⟨Nat.le_of_ble_eq_true rfl, Nat.le_of_ble_eq_true rfl⟩ 5 rfl rfl rfl rfl (Nat.le_of_ble_eq_true rfl) dN_routedStep_50 ?_
    refine jq_bipush (pc := 53) hF dN_routedStep_53 bi_6 ?_
    refine jq_cSI (pc := 55) hF (As := [.int ((cCarry σ (nI (f)) (-1) (σ 10 (f)) (-1)) 5 4), .int (nI 6)]) (rest := []) (mN_hasBit l D a cI cZ (cCarry σ (nI (f)) (-1) (σ 10 (f)) (-1)) ((cCarry σ (nI (f)) (-1) (σ 10 (f)) (-1)) 5 4) (nI (6)) ) (jG_st mL_N_195 mT_N_hasBit mZ_N mC_N_hasBit) rfl rfl rfl dd_N_hasBit ⟨Nat.le_of_ble_eq_true rfl, Nat.le_of_ble_eq_true rfl⟩ rfl rfl (Nat.le_of_ble_eq_true rfl) dN_routedStep_55 ?_
    exact jq_at (hk 58 _ dN_routedStep_58) (congrArg (wC a cI cZ) (by rfl)) rfl rfl (congrArg (fun z => [Value.int z]) (by rfl))
  · refine jq_tabIn (pc := 1) hF 135 dN_routedStep_1 (by decide) (by decide) (off := 134) (by decide) rfl ?_
    refine jq_aload_n (pc := 135) hF 0 dN_routedStep_135 rfl ?_
    refine Cg_N_52 (pc := 136) hF dN_routedStep_136 ?_
    refine jq_aload_n (pc := 139) hF 0 dN_routedStep_139 rfl ?_
    refine Cg_N_20 (pc := 140) hF dN_routedStep_140 ?_
    refine Cg_N_177 (pc := 143) hF dN_routedStep_143 ?_
    refine jq_iload_n (pc := 146) hF 2 dN_routedStep_146 rfl ?_
    refine Cl_11 (pc := 147) hF (by omega) dN_routedStep_147 ?_
    refine jq_iload_n (pc := 148) hF 2 dN_routedStep_148 rfl ?_
    refine jq_cVI (pc := 149) hF (As := [.int (σ 11 (f)), .int (nI f)]) (rest := []) (mK_carryFromRouter l D a cI cZ σ (σ 11 (f)) (nI (f)) (hI.sn hf) (okQn (by omega)) hI) (jG_v mL_N_199 mI_K_carryFromRouter mS_K_carryFromRouter mZ_K mC_K_carryFromRouter) rfl rfl rfl dd_K_carryFromRouter ⟨Nat.le_of_ble_eq_true rfl, Nat.le_of_ble_eq_true rfl⟩ 5 rfl rfl rfl rfl (Nat.le_of_ble_eq_true rfl) dN_routedStep_149 ?_
    refine jq_iload_n (pc := 152) hF 2 dN_routedStep_152 rfl ?_
    refine jq_cSI (pc := 153) hF (As := [.int (if ¬ σ 1 3 = -1 then (cCarry σ (nI 6) (nI (f)) (σ 1 3) (cTagOut σ (σ 1 3).toNatClampNeg (σ 11 (f)))) 5 4 else nI 0), .int (nI f)]) (rest := []) (mN_hasBit l D a cI cZ (if ¬ σ 1 3 = -1 then cCarry σ (nI 6) (nI (f)) (σ 1 3) (cTagOut σ (σ 1 3).toNatClampNeg (σ 11 (f))) else σ) (if ¬ σ 1 3 = -1 then (cCarry σ (nI 6) (nI (f)) (σ 1 3) (cTagOut σ (σ 1 3).toNatClampNeg (σ 11 (f)))) 5 4 else nI 0) (nI (f)) ) (jG_st mL_N_195 mT_N_hasBit mZ_N mC_N_hasBit) rfl rfl rfl dd_N_hasBit ⟨Nat.le_of_ble_eq_true rfl, Nat.le_of_ble_eq_true rfl⟩ rfl rfl (Nat.le_of_ble_eq_true rfl) dN_routedStep_153 ?_
    exact jq_at (hk 156 _ dN_routedStep_156) (congrArg (wC a cI cZ) (by rfl)) rfl rfl (congrArg (fun z => [Value.int z]) (by rfl))
  · refine jq_tabIn (pc := 1) hF 59 dN_routedStep_1 (by decide) (by decide) (off := 58) (by decide) rfl ?_
    refine jq_aload_n (pc := 59) hF 0 dN_routedStep_59 rfl ?_
    refine Cg_N_52 (pc := 60) hF dN_routedStep_60 ?_
    refine jq_iload_n (pc := 63) hF 2 dN_routedStep_63 rfl ?_
    refine jq_bipush (pc := 64) hF dN_routedStep_64 bi_6 ?_
    refine jq_cVI (pc := 66) hF (As := [.int (nI f), .int (nI 6)]) (rest := []) (mK_carryFromHost l D a cI cZ σ (f) (nI (6)) hf (okQn (by decide)) hI) (jG_v mL_N_174 mI_K_carryFromHost mS_K_carryFromHost mZ_K mC_K_carryFromHost) rfl rfl rfl dd_K_carryFromHost ⟨Nat.le_of_ble_eq_true rfl, Nat.le_of_ble_eq_true rfl⟩ 5 rfl rfl rfl rfl (Nat.le_of_ble_eq_true rfl) dN_routedStep_66 ?_
    refine jq_bipush (pc := 69) hF dN_routedStep_69 bi_6 ?_
    refine jq_cSI (pc := 71) hF (As := [.int ((cCarry σ (nI (f)) (nI (6)) (σ 10 (f)) (-1)) 5 4), .int (nI 6)]) (rest := []) (mN_hasBit l D a cI cZ (cCarry σ (nI (f)) (nI (6)) (σ 10 (f)) (-1)) ((cCarry σ (nI (f)) (nI (6)) (σ 10 (f)) (-1)) 5 4) (nI (6)) ) (jG_st mL_N_195 mT_N_hasBit mZ_N mC_N_hasBit) rfl rfl rfl dd_N_hasBit ⟨Nat.le_of_ble_eq_true rfl, Nat.le_of_ble_eq_true rfl⟩ rfl rfl (Nat.le_of_ble_eq_true rfl) dN_routedStep_71 ?_
    exact jq_at (hk 74 _ dN_routedStep_74) (congrArg (wC a cI cZ) (by rfl)) rfl rfl (congrArg (fun z => [Value.int z]) (by rfl))
  · refine jq_tabIn (pc := 1) hF 75 dN_routedStep_1 (by decide) (by decide) (off := 74) (by decide) rfl ?_
    refine jq_aload_n (pc := 75) hF 0 dN_routedStep_75 rfl ?_
    refine Cg_N_52 (pc := 76) hF dN_routedStep_76 ?_
    refine jq_aload_n (pc := 79) hF 0 dN_routedStep_79 rfl ?_
    refine Cg_N_20 (pc := 80) hF dN_routedStep_80 ?_
    refine Cg_N_177 (pc := 83) hF dN_routedStep_83 ?_
    refine jq_iload_n (pc := 86) hF 3 dN_routedStep_86 rfl ?_
    refine Cl_11 (pc := 87) hF (by omega) dN_routedStep_87 ?_
    refine jq_iconst (pc := 88) hF dN_routedStep_88 ic_m1 ?_
    refine jq_cVI (pc := 89) hF (As := [.int (σ 11 (t)), .int (-1)]) (rest := []) (mK_carryFromRouter l D a cI cZ σ (σ 11 (t)) (-1) (hI.sn ht) (Or.inl rfl) hI) (jG_v mL_N_199 mI_K_carryFromRouter mS_K_carryFromRouter mZ_K mC_K_carryFromRouter) rfl rfl rfl dd_K_carryFromRouter ⟨Nat.le_of_ble_eq_true rfl, Nat.le_of_ble_eq_true rfl⟩ 5 rfl rfl rfl rfl (Nat.le_of_ble_eq_true rfl) dN_routedStep_89 ?_
    refine jq_iload_n (pc := 92) hF 3 dN_routedStep_92 rfl ?_
    refine jq_cSI (pc := 93) hF (As := [.int (if ¬ σ 1 3 = -1 then (cCarry σ (nI 6) (-1) (σ 1 3) (cTagOut σ (σ 1 3).toNatClampNeg (σ 11 (t)))) 5 4 else nI 0), .int (nI t)]) (rest := []) (mN_hasBit l D a cI cZ (if ¬ σ 1 3 = -1 then cCarry σ (nI 6) (-1) (σ 1 3) (cTagOut σ (σ 1 3).toNatClampNeg (σ 11 (t))) else σ) (if ¬ σ 1 3 = -1 then (cCarry σ (nI 6) (-1) (σ 1 3) (cTagOut σ (σ 1 3).toNatClampNeg (σ 11 (t)))) 5 4 else nI 0) (nI (t)) ) (jG_st mL_N_195 mT_N_hasBit mZ_N mC_N_hasBit) rfl rfl rfl dd_N_hasBit ⟨Nat.le_of_ble_eq_true rfl, Nat.le_of_ble_eq_true rfl⟩ rfl rfl (Nat.le_of_ble_eq_true rfl) dN_routedStep_93 ?_
    exact jq_at (hk 96 _ dN_routedStep_96) (congrArg (wC a cI cZ) (by rfl)) rfl rfl (congrArg (fun z => [Value.int z]) (by rfl))
  · refine jq_tabIn (pc := 1) hF 97 dN_routedStep_1 (by decide) (by decide) (off := 96) (by decide) rfl ?_
    refine jq_aload_n (pc := 97) hF 0 dN_routedStep_97 rfl ?_
    refine Cg_N_52 (pc := 98) hF dN_routedStep_98 ?_
    refine jq_iload_n (pc := 101) hF 3 dN_routedStep_101 rfl ?_
    refine jq_bipush (pc := 102) hF dN_routedStep_102 bi_6 ?_
    refine jq_cVI (pc := 104) hF (As := [.int (nI t), .int (nI 6)]) (rest := []) (mK_carryFromHost l D a cI cZ σ (t) (nI (6)) ht (okQn (by decide)) hI) (jG_v mL_N_174 mI_K_carryFromHost mS_K_carryFromHost mZ_K mC_K_carryFromHost) rfl rfl rfl dd_K_carryFromHost ⟨Nat.le_of_ble_eq_true rfl, Nat.le_of_ble_eq_true rfl⟩ 5 rfl rfl rfl rfl (Nat.le_of_ble_eq_true rfl) dN_routedStep_104 ?_
    refine jq_bipush (pc := 107) hF dN_routedStep_107 bi_6 ?_
    refine jq_cSI (pc := 109) hF (As := [.int ((cCarry σ (nI (t)) (nI (6)) (σ 10 (t)) (-1)) 5 4), .int (nI 6)]) (rest := []) (mN_hasBit l D a cI cZ (cCarry σ (nI (t)) (nI (6)) (σ 10 (t)) (-1)) ((cCarry σ (nI (t)) (nI (6)) (σ 10 (t)) (-1)) 5 4) (nI (6)) ) (jG_st mL_N_195 mT_N_hasBit mZ_N mC_N_hasBit) rfl rfl rfl dd_N_hasBit ⟨Nat.le_of_ble_eq_true rfl, Nat.le_of_ble_eq_true rfl⟩ rfl rfl (Nat.le_of_ble_eq_true rfl) dN_routedStep_109 ?_
    exact jq_at (hk 112 _ dN_routedStep_112) (congrArg (wC a cI cZ) (by rfl)) rfl rfl (congrArg (fun z => [Value.int z]) (by rfl))
  · refine jq_tabIn (pc := 1) hF 113 dN_routedStep_1 (by decide) (by decide) (off := 112) (by decide) rfl ?_
    refine jq_aload_n (pc := 113) hF 0 dN_routedStep_113 rfl ?_
    refine Cg_N_52 (pc := 114) hF dN_routedStep_114 ?_
    refine jq_aload_n (pc := 117) hF 0 dN_routedStep_117 rfl ?_
    refine Cg_N_20 (pc := 118) hF dN_routedStep_118 ?_
    refine Cg_N_177 (pc := 121) hF dN_routedStep_121 ?_
    refine jq_iload_n (pc := 124) hF 3 dN_routedStep_124 rfl ?_
    refine Cl_11 (pc := 125) hF (by omega) dN_routedStep_125 ?_
    refine jq_iload_n (pc := 126) hF 3 dN_routedStep_126 rfl ?_
    refine jq_cVI (pc := 127) hF (As := [.int (σ 11 (t)), .int (nI t)]) (rest := []) (mK_carryFromRouter l D a cI cZ σ (σ 11 (t)) (nI (t)) (hI.sn ht) (okQn (by omega)) hI) (jG_v mL_N_199 mI_K_carryFromRouter mS_K_carryFromRouter mZ_K mC_K_carryFromRouter) rfl rfl rfl dd_K_carryFromRouter ⟨Nat.le_of_ble_eq_true rfl, Nat.le_of_ble_eq_true rfl⟩ 5 rfl rfl rfl rfl (Nat.le_of_ble_eq_true rfl) dN_routedStep_127 ?_
    refine jq_iload_n (pc := 130) hF 3 dN_routedStep_130 rfl ?_
    refine jq_cSI (pc := 131) hF (As := [.int (if ¬ σ 1 3 = -1 then (cCarry σ (nI 6) (nI (t)) (σ 1 3) (cTagOut σ (σ 1 3).toNatClampNeg (σ 11 (t)))) 5 4 else nI 0), .int (nI t)]) (rest := []) (mN_hasBit l D a cI cZ (if ¬ σ 1 3 = -1 then cCarry σ (nI 6) (nI (t)) (σ 1 3) (cTagOut σ (σ 1 3).toNatClampNeg (σ 11 (t))) else σ) (if ¬ σ 1 3 = -1 then (cCarry σ (nI 6) (nI (t)) (σ 1 3) (cTagOut σ (σ 1 3).toNatClampNeg (σ 11 (t)))) 5 4 else nI 0) (nI (t)) ) (jG_st mL_N_195 mT_N_hasBit mZ_N mC_N_hasBit) rfl rfl rfl dd_N_hasBit ⟨Nat.le_of_ble_eq_true rfl, Nat.le_of_ble_eq_true rfl⟩ rfl rfl (Nat.le_of_ble_eq_true rfl) dN_routedStep_131 ?_
    exact jq_at (hk 134 _ dN_routedStep_134) (congrArg (wC a cI cZ) (by rfl)) rfl rfl (congrArg (fun z => [Value.int z]) (by rfl))
  · refine jq_tabIn (pc := 1) hF 97 dN_routedStep_1 (by decide) (by decide) (off := 96) (by decide) rfl ?_
    refine jq_aload_n (pc := 97) hF 0 dN_routedStep_97 rfl ?_
    refine Cg_N_52 (pc := 98) hF dN_routedStep_98 ?_
    refine jq_iload_n (pc := 101) hF 3 dN_routedStep_101 rfl ?_
    refine jq_bipush (pc := 102) hF dN_routedStep_102 bi_6 ?_
    refine jq_cVI (pc := 104) hF (As := [.int (nI t), .int (nI 6)]) (rest := []) (mK_carryFromHost l D a cI cZ σ (t) (nI (6)) ht (okQn (by decide)) hI) (jG_v mL_N_174 mI_K_carryFromHost mS_K_carryFromHost mZ_K mC_K_carryFromHost) rfl rfl rfl dd_K_carryFromHost ⟨Nat.le_of_ble_eq_true rfl, Nat.le_of_ble_eq_true rfl⟩ 5 rfl rfl rfl rfl (Nat.le_of_ble_eq_true rfl) dN_routedStep_104 ?_
    refine jq_bipush (pc := 107) hF dN_routedStep_107 bi_6 ?_
    refine jq_cSI (pc := 109) hF (As := [.int ((cCarry σ (nI (t)) (nI (6)) (σ 10 (t)) (-1)) 5 4), .int (nI 6)]) (rest := []) (mN_hasBit l D a cI cZ (cCarry σ (nI (t)) (nI (6)) (σ 10 (t)) (-1)) ((cCarry σ (nI (t)) (nI (6)) (σ 10 (t)) (-1)) 5 4) (nI (6)) ) (jG_st mL_N_195 mT_N_hasBit mZ_N mC_N_hasBit) rfl rfl rfl dd_N_hasBit ⟨Nat.le_of_ble_eq_true rfl, Nat.le_of_ble_eq_true rfl⟩ rfl rfl (Nat.le_of_ble_eq_true rfl) dN_routedStep_109 ?_
    exact jq_at (hk 112 _ dN_routedStep_112) (congrArg (wC a cI cZ) (by rfl)) rfl rfl (congrArg (fun z => [Value.int z]) (by rfl))
  · refine jq_tabOut (pc := 1) hF 135 dN_routedStep_1 (by decide) rfl ?_
    refine jq_aload_n (pc := 135) hF 0 dN_routedStep_135 rfl ?_
    refine Cg_N_52 (pc := 136) hF dN_routedStep_136 ?_
    refine jq_aload_n (pc := 139) hF 0 dN_routedStep_139 rfl ?_
    refine Cg_N_20 (pc := 140) hF dN_routedStep_140 ?_
    refine Cg_N_177 (pc := 143) hF dN_routedStep_143 ?_
    refine jq_iload_n (pc := 146) hF 2 dN_routedStep_146 rfl ?_
    refine Cl_11 (pc := 147) hF (by omega) dN_routedStep_147 ?_
    refine jq_iload_n (pc := 148) hF 2 dN_routedStep_148 rfl ?_
    refine jq_cVI (pc := 149) hF (As := [.int (σ 11 (f)), .int (nI f)]) (rest := []) (mK_carryFromRouter l D a cI cZ σ (σ 11 (f)) (nI (f)) (hI.sn hf) (okQn (by omega)) hI) (jG_v mL_N_199 mI_K_carryFromRouter mS_K_carryFromRouter mZ_K mC_K_carryFromRouter) rfl rfl rfl dd_K_carryFromRouter ⟨Nat.le_of_ble_eq_true rfl, Nat.le_of_ble_eq_true rfl⟩ 5 rfl rfl rfl rfl (Nat.le_of_ble_eq_true rfl) dN_routedStep_149 ?_
    refine jq_iload_n (pc := 152) hF 2 dN_routedStep_152 rfl ?_
    refine jq_cSI (pc := 153) hF (As := [.int (if ¬ σ 1 3 = -1 then (cCarry σ (nI 6) (nI (f)) (σ 1 3) (cTagOut σ (σ 1 3).toNatClampNeg (σ 11 (f)))) 5 4 else nI 0), .int (nI f)]) (rest := []) (mN_hasBit l D a cI cZ (if ¬ σ 1 3 = -1 then cCarry σ (nI 6) (nI (f)) (σ 1 3) (cTagOut σ (σ 1 3).toNatClampNeg (σ 11 (f))) else σ) (if ¬ σ 1 3 = -1 then (cCarry σ (nI 6) (nI (f)) (σ 1 3) (cTagOut σ (σ 1 3).toNatClampNeg (σ 11 (f)))) 5 4 else nI 0) (nI (f)) ) (jG_st mL_N_195 mT_N_hasBit mZ_N mC_N_hasBit) rfl rfl rfl dd_N_hasBit ⟨Nat.le_of_ble_eq_true rfl, Nat.le_of_ble_eq_true rfl⟩ rfl rfl (Nat.le_of_ble_eq_true rfl) dN_routedStep_153 ?_
    exact jq_at (hk 156 _ dN_routedStep_156) (congrArg (wC a cI cZ) (by rfl)) rfl rfl (congrArg (fun z => [Value.int z]) (by rfl))
set_option maxHeartbeats 4000000 in
set_option maxRecDepth 100000 in
theorem mN_ask (l : Launch) (D : va_G) (a : Nat → Nat) (cI cZ : ClassId) (σ : jS) (f : Int32) (t : Int32) (v : Int32) (hI : cInv σ) : jI l yN_ask w_N_ask (rmD 6) D (jTys cI cZ) [.ref (a 0), .int (f), .int (t), .int (v)] (wC a cI cZ σ) (wC a cI cZ (if cAskB σ f t = true then cAskSt σ (f).toNatClampNeg (t).toNatClampNeg v else σ)) (if cAskB σ f t = true then nI (cAskF σ (f).toNatClampNeg (t).toNatClampNeg).2 else -1) := by
  refine jI_of (ws' := jG) rfl (by decide) rfl (Nat.le_of_ble_eq_true rfl) ?_
  intro X hF hk
  show jJ l D (rmD 6) 7 X (wC a cI cZ σ) 0 [(0, .ref (a 0)), (1, .int (f)), (2, .int (t)), (3, .int (v))] []
  refine jq_aload_n (pc := 0) hF 0 dN_ask_0 rfl ?_
  refine Cg_N_20 (pc := 1) hF dN_ask_1 ?_
  refine jq_iload_n (pc := 4) hF 1 dN_ask_4 rfl ?_
  refine jq_cVI (pc := 5) hF (As := [.int (f)]) (rest := []) (mP_isHost l D a cI cZ σ (f) ) (jG_v mL_N_165 mI_P_isHost mS_P_isHost mZ_P mC_P_isHost) rfl rfl rfl dd_P_isHost ⟨Nat.le_of_ble_eq_true rfl, Nat.le_of_ble_eq_true rfl⟩ 1 rfl rfl rfl rfl (Nat.le_of_ble_eq_true rfl) dN_ask_5 ?_
  refine jq_if_eqB (pc := 8) hF 22 dN_ask_8 rfl (fun h8 => ?_) (fun h8 => ?_)
  · refine jq_iconst (pc := 22) hF dN_ask_22 ic_m1 ?_
    exact jq_at (hk 23 _ dN_ask_23) (congrArg (wC a cI cZ) (by exact if_neg (by simp [cAskB, h8]))) rfl rfl (congrArg (fun z => [Value.int z]) (by exact if_neg (by simp [cAskB, h8])))
  · refine jq_aload_n (pc := 11) hF 0 dN_ask_11 rfl ?_
    refine Cg_N_20 (pc := 12) hF dN_ask_12 ?_
    refine jq_iload_n (pc := 15) hF 2 dN_ask_15 rfl ?_
    refine jq_cVI (pc := 16) hF (As := [.int (t)]) (rest := []) (mP_isHost l D a cI cZ σ (t) ) (jG_v mL_N_165 mI_P_isHost mS_P_isHost mZ_P mC_P_isHost) rfl rfl rfl dd_P_isHost ⟨Nat.le_of_ble_eq_true rfl, Nat.le_of_ble_eq_true rfl⟩ 1 rfl rfl rfl rfl (Nat.le_of_ble_eq_true rfl) dN_ask_16 ?_
    refine jq_if_neB (pc := 19) hF 24 dN_ask_19 rfl (fun h19 => ?_) (fun h19 => ?_)
    · obtain ⟨k, rfl, -, hkk⟩ := cIsHost_at hI h8
      obtain ⟨j, rfl, -, hjj⟩ := cIsHost_at hI h19
      have ck : (nI k).toNatClampNeg = k := nI_clamp (by omega)
      have cj : (nI j).toNatClampNeg = j := nI_clamp (by omega)
      refine jq_aload_n (pc := 24) hF 0 dN_ask_24 rfl ?_
      refine Cg_N_20 (pc := 25) hF dN_ask_25 ?_
      refine Cg_N_177 (pc := 28) hF dN_ask_28 ?_
      refine jq_iload_n (pc := 31) hF 1 dN_ask_31 rfl ?_
      refine Cl_11 (pc := 32) hF (by omega) dN_ask_32 ?_
      refine jq_aload_n (pc := 33) hF 0 dN_ask_33 rfl ?_
      refine Cg_N_20 (pc := 34) hF dN_ask_34 ?_
      refine Cg_N_177 (pc := 37) hF dN_ask_37 ?_
      refine jq_iload_n (pc := 40) hF 2 dN_ask_40 rfl ?_
      refine Cl_11 (pc := 41) hF (by omega) dN_ask_41 ?_
      have j50 : jJ l D (rmD 6) 7 X (wC a cI cZ σ) 50 [(0, .ref (a 0)), (1, .int (nI k)), (2, .int (nI j)), (3, .int (v))] [.int (bI (!decide (σ 11 (k) = σ 11 (j))))] := by
        refine jq_istore (pc := 50) hF [(4, .int (bI (!decide (σ 11 (k) = σ 11 (j))))), (0, .ref (a 0)), (1, .int (nI k)), (2, .int (nI j)), (3, .int (v))] dN_ask_50 (Nat.le_of_ble_eq_true rfl) rfl ?_
        refine jq_iload (pc := 52) hF 0 dN_ask_52 rfl ?_
        refine jq_if_eqB (pc := 54) hF 69 dN_ask_54 rfl (fun h54 => ?_) (fun h54 => ?_)
        · have hB : cAskB σ (nI k) (nI j) = true := by
            have hR : cAskR σ k j = (!decide (σ 11 (k) = σ 11 (j))) := rfl
            unfold cAskB
            rw [ck, cj, hR, h8, h19]
            first | (rw [h54]; rfl) | (rw [h64]; simp)
          refine jq_aload_n (pc := 69) hF 1 dN_ask_69 rfl ?_
          refine Cg_N_52 (pc := 70) hF dN_ask_70 ?_
          refine jq_cVV (pc := 73) hF (As := []) (rest := []) (mK_startCount l D a cI cZ σ  ) (jG_v mL_N_171 mI_K_startCount mS_K_startCount mZ_K mC_K_startCount) rfl rfl rfl dd_K_startCount ⟨Nat.le_of_ble_eq_true rfl, Nat.le_of_ble_eq_true rfl⟩ 5 rfl rfl rfl rfl (Nat.le_of_ble_eq_true rfl) dN_ask_73 ?_
          refine jq_iload (pc := 76) hF 0 dN_ask_76 rfl ?_
          have j87 : jJ l D (rmD 6) 7 X (wC a cI cZ (sU σ 5 5 (nI 0))) 87 [(4, .int (bI (!decide (σ 11 (k) = σ 11 (j))))), (0, .ref (a 0)), (1, .int (nI k)), (2, .int (nI j)), (3, .int (v))] [.int (nI (if (!decide (σ 11 (k) = σ 11 (j))) = false then 4 else 8))] := by
            obtain ⟨due, hdue⟩ : ∃ d, d = cAskDue (!decide (σ 11 (k) = σ 11 (j))) := ⟨_, rfl⟩
            have hd8 : due ≤ 8 := by rw [hdue]; unfold cAskDue; split <;> omega
            have hd4 : (!decide (σ 11 (k) = σ 11 (j))) = false → due ≤ 4 := by intro e; rw [hdue, e]; decide
            refine jq_top (nI (due)) (by rw [hdue]; rfl) ?_
            refine jq_istore (pc := 87) hF [(5, .int (nI due)), (4, .int (bI (!decide (σ 11 (k) = σ 11 (j))))), (0, .ref (a 0)), (1, .int (nI k)), (2, .int (nI j)), (3, .int (v))] dN_ask_87 (Nat.le_of_ble_eq_true rfl) rfl ?_
            refine jq_iconst (pc := 89) hF dN_ask_89 ic_0 ?_
            refine jq_istore (pc := 90) hF [(6, .int (nI 0)), (5, .int (nI due)), (4, .int (bI (!decide (σ 11 (k) = σ 11 (j))))), (0, .ref (a 0)), (1, .int (nI k)), (2, .int (nI j)), (3, .int (v))] dN_ask_90 (Nat.le_of_ble_eq_true rfl) rfl ?_
            have lp92 : ∀ i, i ≤ due → ∀ S : jS, cInv S ∧ cAskRun (!decide (σ 11 (k) = σ 11 (j))) k j (due - i) i S = cAskRun (!decide (σ 11 (k) = σ 11 (j))) k j due 0 (sU σ 5 5 (nI 0)) → jJ l D (rmD 6) 7 X (wC a cI cZ S) 92 [(6, .int (nI i)), (5, .int (nI due)), (4, .int (bI (!decide (σ 11 (k) = σ 11 (j))))), (0, .ref (a 0)), (1, .int (nI k)), (2, .int (nI j)), (3, .int (v))] [] := by
              refine loop_st (fun i hi ih S hS => ?_)
              refine jq_iload (pc := 92) hF 0 dN_ask_92 rfl ?_
              refine jq_iload (pc := 94) hF 1 dN_ask_94 rfl ?_
              refine jq_icmp_geN (pc := 96) hF 135 (by omega) (by omega) dN_ask_96 rfl (fun h96 => ?_) (fun h96 => ?_)
              · have eF : cAskF σ k j = (S, i) := by
                  show cAskRun (!decide (σ 11 (k) = σ 11 (j))) k j (cAskDue (!decide (σ 11 (k) = σ 11 (j)))) 0 (sU σ 5 5 (nI 0)) = _
                  rw [← hdue, ← hS.2]
                  rw [show due - i = 0 by omega]
                  rfl
                refine jq_iload (pc := 135) hF 0 dN_ask_135 rfl ?_
                refine jq_iload (pc := 137) hF 1 dN_ask_137 rfl ?_
                refine jq_icmp_neN (pc := 139) hF 152 (by omega) (by omega) dN_ask_139 rfl (fun h139 => ?_) (fun h139 => ?_)
                · refine jq_iload (pc := 152) hF 0 dN_ask_152 rfl ?_
                  exact jq_at (hk 154 _ dN_ask_154) (congrArg (wC a cI cZ) (by rw [if_pos hB, ck, cj]; unfold cAskSt; rw [eF]; dsimp only; exact if_neg (fun e => h139 (e.trans hdue.symm)))) rfl rfl (congrArg (fun z => [Value.int z]) (by rw [if_pos hB, ck, cj, eF]))
                · refine jq_aload_n (pc := 142) hF 3 dN_ask_142 rfl ?_
                  refine jq_bipush (pc := 143) hF dN_ask_143 bi_31 ?_
                  refine jq_iload_n (pc := 145) hF 6 dN_ask_145 rfl ?_
                  refine jq_imul (pc := 146) hF dN_ask_146 ?_
                  refine jq_iload_n (pc := 147) hF 5 dN_ask_147 rfl ?_
                  refine jq_iadd (pc := 148) hF dN_ask_148 ?_
                  refine Cp_N_56 (pc := 149) hF dN_ask_149 ?_
                  refine jq_iload (pc := 152) hF 0 dN_ask_152 rfl ?_
                  exact jq_at (hk 154 _ dN_ask_154) (congrArg (wC a cI cZ) (by rw [if_pos hB, ck, cj]; unfold cAskSt; rw [eF]; dsimp only; exact if_pos (h139.trans hdue))) rfl rfl (congrArg (fun z => [Value.int z]) (by rw [if_pos hB, ck, cj, eF]))
              · refine jq_iload (pc := 99) hF 2 dN_ask_99 rfl ?_
                refine jq_if_eqB (pc := 101) hF 118 dN_ask_101 rfl (fun h101 => ?_) (fun h101 => ?_)
                · refine jq_aload_n (pc := 118) hF 3 dN_ask_118 rfl ?_
                  refine jq_iload (pc := 119) hF 0 dN_ask_119 rfl ?_
                  refine jq_iload_n (pc := 121) hF 4 dN_ask_121 rfl ?_
                  refine jq_iload_n (pc := 122) hF 5 dN_ask_122 rfl ?_
                  refine jq_cVI (pc := 123) hF (As := [.int (nI i), .int (nI k), .int (nI j)]) (rest := []) (mN_directStep l D a cI cZ S (i) (k) (j) (by have := hd4 h101; omega) hkk hjj hS.1) (jG_v mL_N_183 mI_N_directStep mS_N_directStep mZ_N mC_N_directStep) rfl rfl rfl dd_N_directStep ⟨Nat.le_of_ble_eq_true rfl, Nat.le_of_ble_eq_true rfl⟩ 0 rfl rfl rfl rfl (Nat.le_of_ble_eq_true rfl) dN_ask_123 ?_
                  refine jq_if_eqB (pc := 126) hF 135 dN_ask_126 rfl (fun h126 => ?_) (fun h126 => ?_)
                  · have eF : cAskF σ k j = ((cDirS S (i) (k) (j)), i) := by
                      show cAskRun (!decide (σ 11 (k) = σ 11 (j))) k j (cAskDue (!decide (σ 11 (k) = σ 11 (j)))) 0 (sU σ 5 5 (nI 0)) = _
                      rw [← hdue, ← hS.2]
                      rw [show due - i = (due - (i + 1)) + 1 by omega]
                      exact ask_stopD h101 h126
                    refine jq_iload (pc := 135) hF 0 dN_ask_135 rfl ?_
                    refine jq_iload (pc := 137) hF 1 dN_ask_137 rfl ?_
                    refine jq_icmp_neN (pc := 139) hF 152 (by omega) (by omega) dN_ask_139 rfl (fun h139 => ?_) (fun h139 => ?_)
                    · refine jq_iload (pc := 152) hF 0 dN_ask_152 rfl ?_
                      exact jq_at (hk 154 _ dN_ask_154) (congrArg (wC a cI cZ) (by rw [if_pos hB, ck, cj]; unfold cAskSt; rw [eF]; dsimp only; exact if_neg (fun e => h139 (e.trans hdue.symm)))) rfl rfl (congrArg (fun z => [Value.int z]) (by rw [if_pos hB, ck, cj, eF]))
                    · refine jq_aload_n (pc := 142) hF 3 dN_ask_142 rfl ?_
                      refine jq_bipush (pc := 143) hF dN_ask_143 bi_31 ?_
                      refine jq_iload_n (pc := 145) hF 6 dN_ask_145 rfl ?_
                      refine jq_imul (pc := 146) hF dN_ask_146 ?_
                      refine jq_iload_n (pc := 147) hF 5 dN_ask_147 rfl ?_
                      refine jq_iadd (pc := 148) hF dN_ask_148 ?_
                      refine Cp_N_56 (pc := 149) hF dN_ask_149 ?_
                      refine jq_iload (pc := 152) hF 0 dN_ask_152 rfl ?_
                      exact jq_at (hk 154 _ dN_ask_154) (congrArg (wC a cI cZ) (by rw [if_pos hB, ck, cj]; unfold cAskSt; rw [eF]; dsimp only; exact if_pos (h139.trans hdue))) rfl rfl (congrArg (fun z => [Value.int z]) (by rw [if_pos hB, ck, cj, eF]))
                  · refine jq_iincN (pc := 129) hF 0 [(6, .int (nI (i + 1))), (5, .int (nI due)), (4, .int (bI (!decide (σ 11 (k) = σ 11 (j))))), (0, .ref (a 0)), (1, .int (nI k)), (2, .int (nI j)), (3, .int (v))] dN_ask_129 rfl (Nat.le_of_ble_eq_true rfl) rfl ?_
                    refine jq_goto (pc := 132) hF 92 dN_ask_132 rfl ?_
                    refine jq_sub [(6, .int (nI (i + 1))), (5, .int (nI due)), (4, .int (bI (!decide (σ 11 (k) = σ 11 (j))))), (0, .ref (a 0)), (1, .int (nI k)), (2, .int (nI j)), (3, .int (v))] [0, 1, 2, 3, 4, 5, 6] rfl ?_
                    exact jq_at (ih (by omega) ((cDirS S (i) (k) (j))) ⟨cDirS_inv hS.1 hkk hjj, by rw [← hS.2, show due - i = (due - (i + 1)) + 1 by omega]; exact (ask_goD h101 h126).symm⟩) rfl rfl rfl rfl
                · refine jq_aload_n (pc := 104) hF 3 dN_ask_104 rfl ?_
                  refine jq_iload (pc := 105) hF 0 dN_ask_105 rfl ?_
                  refine jq_iload_n (pc := 107) hF 4 dN_ask_107 rfl ?_
                  refine jq_iload_n (pc := 108) hF 5 dN_ask_108 rfl ?_
                  refine jq_cVI (pc := 109) hF (As := [.int (nI i), .int (nI k), .int (nI j)]) (rest := []) (mN_routedStep l D a cI cZ S (i) (k) (j) (by omega) hkk hjj hS.1) (jG_v mL_N_180 mI_N_routedStep mS_N_routedStep mZ_N mC_N_routedStep) rfl rfl rfl dd_N_routedStep ⟨Nat.le_of_ble_eq_true rfl, Nat.le_of_ble_eq_true rfl⟩ 0 rfl rfl rfl rfl (Nat.le_of_ble_eq_true rfl) dN_ask_109 ?_
                  refine jq_if_eqB (pc := 112) hF 135 dN_ask_112 rfl (fun h112 => ?_) (fun h112 => ?_)
                  · have eF : cAskF σ k j = ((cRouS S (i) (k) (j)), i) := by
                      show cAskRun (!decide (σ 11 (k) = σ 11 (j))) k j (cAskDue (!decide (σ 11 (k) = σ 11 (j)))) 0 (sU σ 5 5 (nI 0)) = _
                      rw [← hdue, ← hS.2]
                      rw [show due - i = (due - (i + 1)) + 1 by omega]
                      exact ask_stopR h101 h112
                    refine jq_iload (pc := 135) hF 0 dN_ask_135 rfl ?_
                    refine jq_iload (pc := 137) hF 1 dN_ask_137 rfl ?_
                    refine jq_icmp_neN (pc := 139) hF 152 (by omega) (by omega) dN_ask_139 rfl (fun h139 => ?_) (fun h139 => ?_)
                    · refine jq_iload (pc := 152) hF 0 dN_ask_152 rfl ?_
                      exact jq_at (hk 154 _ dN_ask_154) (congrArg (wC a cI cZ) (by rw [if_pos hB, ck, cj]; unfold cAskSt; rw [eF]; dsimp only; exact if_neg (fun e => h139 (e.trans hdue.symm)))) rfl rfl (congrArg (fun z => [Value.int z]) (by rw [if_pos hB, ck, cj, eF]))
                    · refine jq_aload_n (pc := 142) hF 3 dN_ask_142 rfl ?_
                      refine jq_bipush (pc := 143) hF dN_ask_143 bi_31 ?_
                      refine jq_iload_n (pc := 145) hF 6 dN_ask_145 rfl ?_
                      refine jq_imul (pc := 146) hF dN_ask_146 ?_
                      refine jq_iload_n (pc := 147) hF 5 dN_ask_147 rfl ?_
                      refine jq_iadd (pc := 148) hF dN_ask_148 ?_
                      refine Cp_N_56 (pc := 149) hF dN_ask_149 ?_
                      refine jq_iload (pc := 152) hF 0 dN_ask_152 rfl ?_
                      exact jq_at (hk 154 _ dN_ask_154) (congrArg (wC a cI cZ) (by rw [if_pos hB, ck, cj]; unfold cAskSt; rw [eF]; dsimp only; exact if_pos (h139.trans hdue))) rfl rfl (congrArg (fun z => [Value.int z]) (by rw [if_pos hB, ck, cj, eF]))
                  · refine jq_goto (pc := 115) hF 129 dN_ask_115 rfl ?_
                    refine jq_iincN (pc := 129) hF 0 [(6, .int (nI (i + 1))), (5, .int (nI due)), (4, .int (bI (!decide (σ 11 (k) = σ 11 (j))))), (0, .ref (a 0)), (1, .int (nI k)), (2, .int (nI j)), (3, .int (v))] dN_ask_129 rfl (Nat.le_of_ble_eq_true rfl) rfl ?_
                    refine jq_goto (pc := 132) hF 92 dN_ask_132 rfl ?_
                    refine jq_sub [(6, .int (nI (i + 1))), (5, .int (nI due)), (4, .int (bI (!decide (σ 11 (k) = σ 11 (j))))), (0, .ref (a 0)), (1, .int (nI k)), (2, .int (nI j)), (3, .int (v))] [0, 1, 2, 3, 4, 5, 6] rfl ?_
                    exact jq_at (ih (by omega) ((cRouS S (i) (k) (j))) ⟨cRouS_inv hS.1 hkk hjj, by rw [← hS.2, show due - i = (due - (i + 1)) + 1 by omega]; exact (ask_goR h101 h112).symm⟩) rfl rfl rfl rfl
            exact jq_at (lp92 0 (by omega) (sU σ 5 5 (nI 0)) ⟨hI.u (by decide), rfl⟩) rfl rfl rfl rfl
          refine jq_if_eqB (pc := 78) hF 86 dN_ask_78 rfl (fun h78 => ?_) (fun h78 => ?_)
          · refine jq_iconst (pc := 86) hF dN_ask_86 ic_4 ?_
            exact jq_at j87 rfl rfl rfl (by rw [if_pos h78])
          · refine jq_bipush (pc := 81) hF dN_ask_81 bi_8 ?_
            refine jq_goto (pc := 83) hF 87 dN_ask_83 rfl ?_
            exact jq_at j87 rfl rfl rfl (by rw [if_neg (show ¬ ((!decide (σ 11 (k) = σ 11 (j))) = false) by simp [h78])])
        · refine jq_aload_n (pc := 57) hF 1 dN_ask_57 rfl ?_
          refine Cg_N_20 (pc := 58) hF dN_ask_58 ?_
          refine jq_cVI (pc := 61) hF (As := []) (rest := []) (mP_hasRouter l D a cI cZ σ  ) (jG_v mL_N_93 mI_P_hasRouter mS_P_hasRouter mZ_P mC_P_hasRouter) rfl rfl rfl dd_P_hasRouter ⟨Nat.le_of_ble_eq_true rfl, Nat.le_of_ble_eq_true rfl⟩ 1 rfl rfl rfl rfl (Nat.le_of_ble_eq_true rfl) dN_ask_61 ?_
          refine jq_if_neB (pc := 64) hF 69 dN_ask_64 rfl (fun h64 => ?_) (fun h64 => ?_)
          · have hB : cAskB σ (nI k) (nI j) = true := by
              have hR : cAskR σ k j = (!decide (σ 11 (k) = σ 11 (j))) := rfl
              unfold cAskB
              rw [ck, cj, hR, h8, h19]
              first | (rw [h54]; rfl) | (rw [h64]; simp)
            refine jq_aload_n (pc := 69) hF 1 dN_ask_69 rfl ?_
            refine Cg_N_52 (pc := 70) hF dN_ask_70 ?_
            refine jq_cVV (pc := 73) hF (As := []) (rest := []) (mK_startCount l D a cI cZ σ  ) (jG_v mL_N_171 mI_K_startCount mS_K_startCount mZ_K mC_K_startCount) rfl rfl rfl dd_K_startCount ⟨Nat.le_of_ble_eq_true rfl, Nat.le_of_ble_eq_true rfl⟩ 5 rfl rfl rfl rfl (Nat.le_of_ble_eq_true rfl) dN_ask_73 ?_
            refine jq_iload (pc := 76) hF 0 dN_ask_76 rfl ?_
            have j87 : jJ l D (rmD 6) 7 X (wC a cI cZ (sU σ 5 5 (nI 0))) 87 [(4, .int (bI (!decide (σ 11 (k) = σ 11 (j))))), (0, .ref (a 0)), (1, .int (nI k)), (2, .int (nI j)), (3, .int (v))] [.int (nI (if (!decide (σ 11 (k) = σ 11 (j))) = false then 4 else 8))] := by
              obtain ⟨due, hdue⟩ : ∃ d, d = cAskDue (!decide (σ 11 (k) = σ 11 (j))) := ⟨_, rfl⟩
              have hd8 : due ≤ 8 := by rw [hdue]; unfold cAskDue; split <;> omega
              have hd4 : (!decide (σ 11 (k) = σ 11 (j))) = false → due ≤ 4 := by intro e; rw [hdue, e]; decide
              refine jq_top (nI (due)) (by rw [hdue]; rfl) ?_
              refine jq_istore (pc := 87) hF [(5, .int (nI due)), (4, .int (bI (!decide (σ 11 (k) = σ 11 (j))))), (0, .ref (a 0)), (1, .int (nI k)), (2, .int (nI j)), (3, .int (v))] dN_ask_87 (Nat.le_of_ble_eq_true rfl) rfl ?_
              refine jq_iconst (pc := 89) hF dN_ask_89 ic_0 ?_
              refine jq_istore (pc := 90) hF [(6, .int (nI 0)), (5, .int (nI due)), (4, .int (bI (!decide (σ 11 (k) = σ 11 (j))))), (0, .ref (a 0)), (1, .int (nI k)), (2, .int (nI j)), (3, .int (v))] dN_ask_90 (Nat.le_of_ble_eq_true rfl) rfl ?_
              have lp92 : ∀ i, i ≤ due → ∀ S : jS, cInv S ∧ cAskRun (!decide (σ 11 (k) = σ 11 (j))) k j (due - i) i S = cAskRun (!decide (σ 11 (k) = σ 11 (j))) k j due 0 (sU σ 5 5 (nI 0)) → jJ l D (rmD 6) 7 X (wC a cI cZ S) 92 [(6, .int (nI i)), (5, .int (nI due)), (4, .int (bI (!decide (σ 11 (k) = σ 11 (j))))), (0, .ref (a 0)), (1, .int (nI k)), (2, .int (nI j)), (3, .int (v))] [] := by
                refine loop_st (fun i hi ih S hS => ?_)
                refine jq_iload (pc := 92) hF 0 dN_ask_92 rfl ?_
                refine jq_iload (pc := 94) hF 1 dN_ask_94 rfl ?_
                refine jq_icmp_geN (pc := 96) hF 135 (by omega) (by omega) dN_ask_96 rfl (fun h96 => ?_) (fun h96 => ?_)
                · have eF : cAskF σ k j = (S, i) := by
                    show cAskRun (!decide (σ 11 (k) = σ 11 (j))) k j (cAskDue (!decide (σ 11 (k) = σ 11 (j)))) 0 (sU σ 5 5 (nI 0)) = _
                    rw [← hdue, ← hS.2]
                    rw [show due - i = 0 by omega]
                    rfl
                  refine jq_iload (pc := 135) hF 0 dN_ask_135 rfl ?_
                  refine jq_iload (pc := 137) hF 1 dN_ask_137 rfl ?_
                  refine jq_icmp_neN (pc := 139) hF 152 (by omega) (by omega) dN_ask_139 rfl (fun h139 => ?_) (fun h139 => ?_)
                  · refine jq_iload (pc := 152) hF 0 dN_ask_152 rfl ?_
                    exact jq_at (hk 154 _ dN_ask_154) (congrArg (wC a cI cZ) (by rw [if_pos hB, ck, cj]; unfold cAskSt; rw [eF]; dsimp only; exact if_neg (fun e => h139 (e.trans hdue.symm)))) rfl rfl (congrArg (fun z => [Value.int z]) (by rw [if_pos hB, ck, cj, eF]))
                  · refine jq_aload_n (pc := 142) hF 3 dN_ask_142 rfl ?_
                    refine jq_bipush (pc := 143) hF dN_ask_143 bi_31 ?_
                    refine jq_iload_n (pc := 145) hF 6 dN_ask_145 rfl ?_
                    refine jq_imul (pc := 146) hF dN_ask_146 ?_
                    refine jq_iload_n (pc := 147) hF 5 dN_ask_147 rfl ?_
                    refine jq_iadd (pc := 148) hF dN_ask_148 ?_
                    refine Cp_N_56 (pc := 149) hF dN_ask_149 ?_
                    refine jq_iload (pc := 152) hF 0 dN_ask_152 rfl ?_
                    exact jq_at (hk 154 _ dN_ask_154) (congrArg (wC a cI cZ) (by rw [if_pos hB, ck, cj]; unfold cAskSt; rw [eF]; dsimp only; exact if_pos (h139.trans hdue))) rfl rfl (congrArg (fun z => [Value.int z]) (by rw [if_pos hB, ck, cj, eF]))
                · refine jq_iload (pc := 99) hF 2 dN_ask_99 rfl ?_
                  refine jq_if_eqB (pc := 101) hF 118 dN_ask_101 rfl (fun h101 => ?_) (fun h101 => ?_)
                  · refine jq_aload_n (pc := 118) hF 3 dN_ask_118 rfl ?_
                    refine jq_iload (pc := 119) hF 0 dN_ask_119 rfl ?_
                    refine jq_iload_n (pc := 121) hF 4 dN_ask_121 rfl ?_
                    refine jq_iload_n (pc := 122) hF 5 dN_ask_122 rfl ?_
                    refine jq_cVI (pc := 123) hF (As := [.int (nI i), .int (nI k), .int (nI j)]) (rest := []) (mN_directStep l D a cI cZ S (i) (k) (j) (by have := hd4 h101; omega) hkk hjj hS.1) (jG_v mL_N_183 mI_N_directStep mS_N_directStep mZ_N mC_N_directStep) rfl rfl rfl dd_N_directStep ⟨Nat.le_of_ble_eq_true rfl, Nat.le_of_ble_eq_true rfl⟩ 0 rfl rfl rfl rfl (Nat.le_of_ble_eq_true rfl) dN_ask_123 ?_
                    refine jq_if_eqB (pc := 126) hF 135 dN_ask_126 rfl (fun h126 => ?_) (fun h126 => ?_)
                    · have eF : cAskF σ k j = ((cDirS S (i) (k) (j)), i) := by
                        show cAskRun (!decide (σ 11 (k) = σ 11 (j))) k j (cAskDue (!decide (σ 11 (k) = σ 11 (j)))) 0 (sU σ 5 5 (nI 0)) = _
                        rw [← hdue, ← hS.2]
                        rw [show due - i = (due - (i + 1)) + 1 by omega]
                        exact ask_stopD h101 h126
                      refine jq_iload (pc := 135) hF 0 dN_ask_135 rfl ?_
                      refine jq_iload (pc := 137) hF 1 dN_ask_137 rfl ?_
                      refine jq_icmp_neN (pc := 139) hF 152 (by omega) (by omega) dN_ask_139 rfl (fun h139 => ?_) (fun h139 => ?_)
                      · refine jq_iload (pc := 152) hF 0 dN_ask_152 rfl ?_
                        exact jq_at (hk 154 _ dN_ask_154) (congrArg (wC a cI cZ) (by rw [if_pos hB, ck, cj]; unfold cAskSt; rw [eF]; dsimp only; exact if_neg (fun e => h139 (e.trans hdue.symm)))) rfl rfl (congrArg (fun z => [Value.int z]) (by rw [if_pos hB, ck, cj, eF]))
                      · refine jq_aload_n (pc := 142) hF 3 dN_ask_142 rfl ?_
                        refine jq_bipush (pc := 143) hF dN_ask_143 bi_31 ?_
                        refine jq_iload_n (pc := 145) hF 6 dN_ask_145 rfl ?_
                        refine jq_imul (pc := 146) hF dN_ask_146 ?_
                        refine jq_iload_n (pc := 147) hF 5 dN_ask_147 rfl ?_
                        refine jq_iadd (pc := 148) hF dN_ask_148 ?_
                        refine Cp_N_56 (pc := 149) hF dN_ask_149 ?_
                        refine jq_iload (pc := 152) hF 0 dN_ask_152 rfl ?_
                        exact jq_at (hk 154 _ dN_ask_154) (congrArg (wC a cI cZ) (by rw [if_pos hB, ck, cj]; unfold cAskSt; rw [eF]; dsimp only; exact if_pos (h139.trans hdue))) rfl rfl (congrArg (fun z => [Value.int z]) (by rw [if_pos hB, ck, cj, eF]))
                    · refine jq_iincN (pc := 129) hF 0 [(6, .int (nI (i + 1))), (5, .int (nI due)), (4, .int (bI (!decide (σ 11 (k) = σ 11 (j))))), (0, .ref (a 0)), (1, .int (nI k)), (2, .int (nI j)), (3, .int (v))] dN_ask_129 rfl (Nat.le_of_ble_eq_true rfl) rfl ?_
                      refine jq_goto (pc := 132) hF 92 dN_ask_132 rfl ?_
                      refine jq_sub [(6, .int (nI (i + 1))), (5, .int (nI due)), (4, .int (bI (!decide (σ 11 (k) = σ 11 (j))))), (0, .ref (a 0)), (1, .int (nI k)), (2, .int (nI j)), (3, .int (v))] [0, 1, 2, 3, 4, 5, 6] rfl ?_
                      exact jq_at (ih (by omega) ((cDirS S (i) (k) (j))) ⟨cDirS_inv hS.1 hkk hjj, by rw [← hS.2, show due - i = (due - (i + 1)) + 1 by omega]; exact (ask_goD h101 h126).symm⟩) rfl rfl rfl rfl
                  · refine jq_aload_n (pc := 104) hF 3 dN_ask_104 rfl ?_
                    refine jq_iload (pc := 105) hF 0 dN_ask_105 rfl ?_
                    refine jq_iload_n (pc := 107) hF 4 dN_ask_107 rfl ?_
                    refine jq_iload_n (pc := 108) hF 5 dN_ask_108 rfl ?_
                    refine jq_cVI (pc := 109) hF (As := [.int (nI i), .int (nI k), .int (nI j)]) (rest := []) (mN_routedStep l D a cI cZ S (i) (k) (j) (by omega) hkk hjj hS.1) (jG_v mL_N_180 mI_N_routedStep mS_N_routedStep mZ_N mC_N_routedStep) rfl rfl rfl dd_N_routedStep ⟨Nat.le_of_ble_eq_true rfl, Nat.le_of_ble_eq_true rfl⟩ 0 rfl rfl rfl rfl (Nat.le_of_ble_eq_true rfl) dN_ask_109 ?_
                    refine jq_if_eqB (pc := 112) hF 135 dN_ask_112 rfl (fun h112 => ?_) (fun h112 => ?_)
                    · have eF : cAskF σ k j = ((cRouS S (i) (k) (j)), i) := by
                        show cAskRun (!decide (σ 11 (k) = σ 11 (j))) k j (cAskDue (!decide (σ 11 (k) = σ 11 (j)))) 0 (sU σ 5 5 (nI 0)) = _
                        rw [← hdue, ← hS.2]
                        rw [show due - i = (due - (i + 1)) + 1 by omega]
                        exact ask_stopR h101 h112
                      refine jq_iload (pc := 135) hF 0 dN_ask_135 rfl ?_
                      refine jq_iload (pc := 137) hF 1 dN_ask_137 rfl ?_
                      refine jq_icmp_neN (pc := 139) hF 152 (by omega) (by omega) dN_ask_139 rfl (fun h139 => ?_) (fun h139 => ?_)
                      · refine jq_iload (pc := 152) hF 0 dN_ask_152 rfl ?_
                        exact jq_at (hk 154 _ dN_ask_154) (congrArg (wC a cI cZ) (by rw [if_pos hB, ck, cj]; unfold cAskSt; rw [eF]; dsimp only; exact if_neg (fun e => h139 (e.trans hdue.symm)))) rfl rfl (congrArg (fun z => [Value.int z]) (by rw [if_pos hB, ck, cj, eF]))
                      · refine jq_aload_n (pc := 142) hF 3 dN_ask_142 rfl ?_
                        refine jq_bipush (pc := 143) hF dN_ask_143 bi_31 ?_
                        refine jq_iload_n (pc := 145) hF 6 dN_ask_145 rfl ?_
                        refine jq_imul (pc := 146) hF dN_ask_146 ?_
                        refine jq_iload_n (pc := 147) hF 5 dN_ask_147 rfl ?_
                        refine jq_iadd (pc := 148) hF dN_ask_148 ?_
                        refine Cp_N_56 (pc := 149) hF dN_ask_149 ?_
                        refine jq_iload (pc := 152) hF 0 dN_ask_152 rfl ?_
                        exact jq_at (hk 154 _ dN_ask_154) (congrArg (wC a cI cZ) (by rw [if_pos hB, ck, cj]; unfold cAskSt; rw [eF]; dsimp only; exact if_pos (h139.trans hdue))) rfl rfl (congrArg (fun z => [Value.int z]) (by rw [if_pos hB, ck, cj, eF]))
                    · refine jq_goto (pc := 115) hF 129 dN_ask_115 rfl ?_
                      refine jq_iincN (pc := 129) hF 0 [(6, .int (nI (i + 1))), (5, .int (nI due)), (4, .int (bI (!decide (σ 11 (k) = σ 11 (j))))), (0, .ref (a 0)), (1, .int (nI k)), (2, .int (nI j)), (3, .int (v))] dN_ask_129 rfl (Nat.le_of_ble_eq_true rfl) rfl ?_
                      refine jq_goto (pc := 132) hF 92 dN_ask_132 rfl ?_
                      refine jq_sub [(6, .int (nI (i + 1))), (5, .int (nI due)), (4, .int (bI (!decide (σ 11 (k) = σ 11 (j))))), (0, .ref (a 0)), (1, .int (nI k)), (2, .int (nI j)), (3, .int (v))] [0, 1, 2, 3, 4, 5, 6] rfl ?_
                      exact jq_at (ih (by omega) ((cRouS S (i) (k) (j))) ⟨cRouS_inv hS.1 hkk hjj, by rw [← hS.2, show due - i = (due - (i + 1)) + 1 by omega]; exact (ask_goR h101 h112).symm⟩) rfl rfl rfl rfl
              exact jq_at (lp92 0 (by omega) (sU σ 5 5 (nI 0)) ⟨hI.u (by decide), rfl⟩) rfl rfl rfl rfl
            refine jq_if_eqB (pc := 78) hF 86 dN_ask_78 rfl (fun h78 => ?_) (fun h78 => ?_)
            · refine jq_iconst (pc := 86) hF dN_ask_86 ic_4 ?_
              exact jq_at j87 rfl rfl rfl (by rw [if_pos h78])
            · refine jq_bipush (pc := 81) hF dN_ask_81 bi_8 ?_
              refine jq_goto (pc := 83) hF 87 dN_ask_83 rfl ?_
              exact jq_at j87 rfl rfl rfl (by rw [if_neg (show ¬ ((!decide (σ 11 (k) = σ 11 (j))) = false) by simp [h78])])
          · refine jq_iconst (pc := 67) hF dN_ask_67 ic_m1 ?_
            exact jq_at (hk 68 _ dN_ask_68) (congrArg (wC a cI cZ) (by exact if_neg (by have hR : cAskR σ k j = true := h54; simp [cAskB, ck, cj, hR, h64]))) rfl rfl (congrArg (fun z => [Value.int z]) (by exact if_neg (by have hR : cAskR σ k j = true := h54; simp [cAskB, ck, cj, hR, h64])))
      refine jq_icmp_eq (pc := 42) hF 49 dN_ask_42 rfl (fun h42 => ?_) (fun h42 => ?_)
      · refine jq_iconst (pc := 49) hF dN_ask_49 ic_0 ?_
        exact jq_at j50 rfl rfl rfl (by rw [decide_eq_true h42]; rfl)
      · refine jq_iconst (pc := 45) hF dN_ask_45 ic_1 ?_
        refine jq_goto (pc := 46) hF 50 dN_ask_46 rfl ?_
        exact jq_at j50 rfl rfl rfl (by rw [decide_eq_false h42]; rfl)
    · refine jq_iconst (pc := 22) hF dN_ask_22 ic_m1 ?_
      exact jq_at (hk 23 _ dN_ask_23) (congrArg (wC a cI cZ) (by exact if_neg (by simp [cAskB, h8, h19]))) rfl rfl (congrArg (fun z => [Value.int z]) (by exact if_neg (by simp [cAskB, h8, h19])))
end
