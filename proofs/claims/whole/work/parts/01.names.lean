-- ===== PART A: goes FIRST, ahead of the names: the tables' words, and 'selects' of the private methods out of them =====
/-- a private method of a class that the tables say can be made, by its rows of tables_1 -/
def lw_okq (q : MethodName × Nat) : Prop := (q.1.cls ≠ "java/lang/invoke/MethodHandle" ∧ q.1.cls ≠ "java/lang/invoke/VarHandle") ∧ Cond.instantiable q.1.cls q.2 ∈ tables_1 ∧ Cond.privateMethod q.1 ∈ tables_1 ∧ Cond.instanceMethod q.1 ∈ tables_1
theorem lw_p0 : lw_okq (⟨"GatedTrunk", "logged", "(IIII)LGatedTrunk$Event;"⟩, 4) := ⟨⟨by decide +kernel, by decide +kernel⟩, List.mem_of_getElem? (i := 14) (by decide +kernel), List.mem_of_getElem? (i := 209) (by decide +kernel), List.mem_of_getElem? (i := 210) (by decide +kernel)⟩
theorem lw_p1 : lw_okq (⟨"GatedTrunk", "keepLiveState", "()V"⟩, 4) := ⟨⟨by decide +kernel, by decide +kernel⟩, List.mem_of_getElem? (i := 14) (by decide +kernel), List.mem_of_getElem? (i := 213) (by decide +kernel), List.mem_of_getElem? (i := 214) (by decide +kernel)⟩
theorem lw_p2 : lw_okq (⟨"GatedTrunk$State", "addChange", "()I"⟩, 9) := ⟨⟨by decide +kernel, by decide +kernel⟩, List.mem_of_getElem? (i := 54) (by decide +kernel), List.mem_of_getElem? (i := 246) (by decide +kernel), List.mem_of_getElem? (i := 247) (by decide +kernel)⟩
theorem lw_p3 : lw_okq (⟨"GatedTrunk$State", "leaseNextJob", "(I)I"⟩, 9) := ⟨⟨by decide +kernel, by decide +kernel⟩, List.mem_of_getElem? (i := 54) (by decide +kernel), List.mem_of_getElem? (i := 287) (by decide +kernel), List.mem_of_getElem? (i := 288) (by decide +kernel)⟩
theorem lw_p4 : lw_okq (⟨"GatedTrunk$Batch", "passedJobs", "()I"⟩, 5) := ⟨⟨by decide +kernel, by decide +kernel⟩, List.mem_of_getElem? (i := 77) (by decide +kernel), List.mem_of_getElem? (i := 302) (by decide +kernel), List.mem_of_getElem? (i := 303) (by decide +kernel)⟩
theorem lw_p5 : lw_okq (⟨"GatedTrunk$State", "endJob", "(II)V"⟩, 9) := ⟨⟨by decide +kernel, by decide +kernel⟩, List.mem_of_getElem? (i := 54) (by decide +kernel), List.mem_of_getElem? (i := 317) (by decide +kernel), List.mem_of_getElem? (i := 318) (by decide +kernel)⟩
theorem lw_p6 : lw_okq (⟨"GatedTrunk$State", "judgeBatch", "()V"⟩, 9) := ⟨⟨by decide +kernel, by decide +kernel⟩, List.mem_of_getElem? (i := 54) (by decide +kernel), List.mem_of_getElem? (i := 332) (by decide +kernel), List.mem_of_getElem? (i := 333) (by decide +kernel)⟩
theorem lw_p7 : lw_okq (⟨"GatedTrunk$State", "failBatch", "(II)V"⟩, 9) := ⟨⟨by decide +kernel, by decide +kernel⟩, List.mem_of_getElem? (i := 54) (by decide +kernel), List.mem_of_getElem? (i := 343) (by decide +kernel), List.mem_of_getElem? (i := 344) (by decide +kernel)⟩
theorem lw_p8 : lw_okq (⟨"GatedTrunk$State", "takeFromQueue", "(III)V"⟩, 9) := ⟨⟨by decide +kernel, by decide +kernel⟩, List.mem_of_getElem? (i := 54) (by decide +kernel), List.mem_of_getElem? (i := 351) (by decide +kernel), List.mem_of_getElem? (i := 352) (by decide +kernel)⟩
theorem lw_p9 : lw_okq (⟨"GatedTrunk$State", "passBatch", "()V"⟩, 9) := ⟨⟨by decide +kernel, by decide +kernel⟩, List.mem_of_getElem? (i := 54) (by decide +kernel), List.mem_of_getElem? (i := 377) (by decide +kernel), List.mem_of_getElem? (i := 378) (by decide +kernel)⟩
theorem lw_p10 : lw_okq (⟨"GatedTrunk$State", "expireLeases", "(Z)I"⟩, 9) := ⟨⟨by decide +kernel, by decide +kernel⟩, List.mem_of_getElem? (i := 54) (by decide +kernel), List.mem_of_getElem? (i := 381) (by decide +kernel), List.mem_of_getElem? (i := 382) (by decide +kernel)⟩
theorem lw_p11 : lw_okq (⟨"GatedTrunk$State", "buildBatches", "()V"⟩, 9) := ⟨⟨by decide +kernel, by decide +kernel⟩, List.mem_of_getElem? (i := 54) (by decide +kernel), List.mem_of_getElem? (i := 390) (by decide +kernel), List.mem_of_getElem? (i := 391) (by decide +kernel)⟩
theorem lw_p12 : lw_okq (⟨"GatedTrunk$State", "buildBatch", "()V"⟩, 9) := ⟨⟨by decide +kernel, by decide +kernel⟩, List.mem_of_getElem? (i := 54) (by decide +kernel), List.mem_of_getElem? (i := 399) (by decide +kernel), List.mem_of_getElem? (i := 400) (by decide +kernel)⟩
theorem lw_p13 : lw_okq (⟨"GatedTrunk$State", "mergeFirst", "(I)I"⟩, 9) := ⟨⟨by decide +kernel, by decide +kernel⟩, List.mem_of_getElem? (i := 54) (by decide +kernel), List.mem_of_getElem? (i := 404) (by decide +kernel), List.mem_of_getElem? (i := 405) (by decide +kernel)⟩
theorem lw_p14 : lw_okq (⟨"GatedTrunkModel", "begin", "()V"⟩, 30) := ⟨⟨by decide +kernel, by decide +kernel⟩, List.mem_of_getElem? (i := 559) (by decide +kernel), List.mem_of_getElem? (i := 568) (by decide +kernel), List.mem_of_getElem? (i := 569) (by decide +kernel)⟩
theorem lw_p15 : lw_okq (⟨"GatedTrunkModel", "event", "(IIII)I"⟩, 30) := ⟨⟨by decide +kernel, by decide +kernel⟩, List.mem_of_getElem? (i := 559) (by decide +kernel), List.mem_of_getElem? (i := 668) (by decide +kernel), List.mem_of_getElem? (i := 669) (by decide +kernel)⟩
def lw_privs_1 : List (MethodName × Nat) := [(⟨"GatedTrunk", "logged", "(IIII)LGatedTrunk$Event;"⟩, 4), (⟨"GatedTrunk", "keepLiveState", "()V"⟩, 4), (⟨"GatedTrunk$State", "addChange", "()I"⟩, 9), (⟨"GatedTrunk$State", "leaseNextJob", "(I)I"⟩, 9), (⟨"GatedTrunk$Batch", "passedJobs", "()I"⟩, 5), (⟨"GatedTrunk$State", "endJob", "(II)V"⟩, 9), (⟨"GatedTrunk$State", "judgeBatch", "()V"⟩, 9), (⟨"GatedTrunk$State", "failBatch", "(II)V"⟩, 9), (⟨"GatedTrunk$State", "takeFromQueue", "(III)V"⟩, 9), (⟨"GatedTrunk$State", "passBatch", "()V"⟩, 9), (⟨"GatedTrunk$State", "expireLeases", "(Z)I"⟩, 9), (⟨"GatedTrunk$State", "buildBatches", "()V"⟩, 9), (⟨"GatedTrunk$State", "buildBatch", "()V"⟩, 9), (⟨"GatedTrunk$State", "mergeFirst", "(I)I"⟩, 9), (⟨"GatedTrunkModel", "begin", "()V"⟩, 30), (⟨"GatedTrunkModel", "event", "(IIII)I"⟩, 30)]
theorem lw_r1 : ∀ q ∈ lw_privs_1, lw_okq q := List.forall_mem_cons.mpr ⟨lw_p0, List.forall_mem_cons.mpr ⟨lw_p1, List.forall_mem_cons.mpr ⟨lw_p2, List.forall_mem_cons.mpr ⟨lw_p3, List.forall_mem_cons.mpr ⟨lw_p4, List.forall_mem_cons.mpr ⟨lw_p5, List.forall_mem_cons.mpr ⟨lw_p6, List.forall_mem_cons.mpr ⟨lw_p7, List.forall_mem_cons.mpr ⟨lw_p8, List.forall_mem_cons.mpr ⟨lw_p9, List.forall_mem_cons.mpr ⟨lw_p10, List.forall_mem_cons.mpr ⟨lw_p11, List.forall_mem_cons.mpr ⟨lw_p12, List.forall_mem_cons.mpr ⟨lw_p13, List.forall_mem_cons.mpr ⟨lw_p14, List.forall_mem_cons.mpr ⟨lw_p15, fun _ h => absurd h List.not_mem_nil⟩⟩⟩⟩⟩⟩⟩⟩⟩⟩⟩⟩⟩⟩⟩⟩
theorem lw_p16 : lw_okq (⟨"GatedTrunkModel", "once", "(IIII)I"⟩, 30) := ⟨⟨by decide +kernel, by decide +kernel⟩, List.mem_of_getElem? (i := 559) (by decide +kernel), List.mem_of_getElem? (i := 672) (by decide +kernel), List.mem_of_getElem? (i := 673) (by decide +kernel)⟩
theorem lw_p17 : lw_okq (⟨"GatedTrunkModel", "doOpen", "()I"⟩, 30) := ⟨⟨by decide +kernel, by decide +kernel⟩, List.mem_of_getElem? (i := 559) (by decide +kernel), List.mem_of_getElem? (i := 676) (by decide +kernel), List.mem_of_getElem? (i := 677) (by decide +kernel)⟩
theorem lw_p18 : lw_okq (⟨"GatedTrunkModel", "noReviews", "(I)V"⟩, 30) := ⟨⟨by decide +kernel, by decide +kernel⟩, List.mem_of_getElem? (i := 559) (by decide +kernel), List.mem_of_getElem? (i := 680) (by decide +kernel), List.mem_of_getElem? (i := 681) (by decide +kernel)⟩
theorem lw_p19 : lw_okq (⟨"GatedTrunkModel", "doPush", "(III)I"⟩, 30) := ⟨⟨by decide +kernel, by decide +kernel⟩, List.mem_of_getElem? (i := 559) (by decide +kernel), List.mem_of_getElem? (i := 684) (by decide +kernel), List.mem_of_getElem? (i := 685) (by decide +kernel)⟩
theorem lw_p20 : lw_okq (⟨"GatedTrunkModel", "is", "(II)Z"⟩, 30) := ⟨⟨by decide +kernel, by decide +kernel⟩, List.mem_of_getElem? (i := 559) (by decide +kernel), List.mem_of_getElem? (i := 688) (by decide +kernel), List.mem_of_getElem? (i := 689) (by decide +kernel)⟩
theorem lw_p21 : lw_okq (⟨"GatedTrunkModel", "isChange", "(I)Z"⟩, 30) := ⟨⟨by decide +kernel, by decide +kernel⟩, List.mem_of_getElem? (i := 559) (by decide +kernel), List.mem_of_getElem? (i := 692) (by decide +kernel), List.mem_of_getElem? (i := 693) (by decide +kernel)⟩
theorem lw_p22 : lw_okq (⟨"GatedTrunkModel", "doReview", "(III)I"⟩, 30) := ⟨⟨by decide +kernel, by decide +kernel⟩, List.mem_of_getElem? (i := 559) (by decide +kernel), List.mem_of_getElem? (i := 696) (by decide +kernel), List.mem_of_getElem? (i := 697) (by decide +kernel)⟩
theorem lw_p23 : lw_okq (⟨"GatedTrunkModel", "doClose", "(I)I"⟩, 30) := ⟨⟨by decide +kernel, by decide +kernel⟩, List.mem_of_getElem? (i := 559) (by decide +kernel), List.mem_of_getElem? (i := 700) (by decide +kernel), List.mem_of_getElem? (i := 701) (by decide +kernel)⟩
theorem lw_p24 : lw_okq (⟨"GatedTrunkModel", "doEnqueue", "(I)I"⟩, 30) := ⟨⟨by decide +kernel, by decide +kernel⟩, List.mem_of_getElem? (i := 559) (by decide +kernel), List.mem_of_getElem? (i := 704) (by decide +kernel), List.mem_of_getElem? (i := 705) (by decide +kernel)⟩
theorem lw_p25 : lw_okq (⟨"GatedTrunkModel", "count", "(II)I"⟩, 30) := ⟨⟨by decide +kernel, by decide +kernel⟩, List.mem_of_getElem? (i := 559) (by decide +kernel), List.mem_of_getElem? (i := 708) (by decide +kernel), List.mem_of_getElem? (i := 709) (by decide +kernel)⟩
theorem lw_p26 : lw_okq (⟨"GatedTrunkModel", "doRebase", "(I)I"⟩, 30) := ⟨⟨by decide +kernel, by decide +kernel⟩, List.mem_of_getElem? (i := 559) (by decide +kernel), List.mem_of_getElem? (i := 712) (by decide +kernel), List.mem_of_getElem? (i := 713) (by decide +kernel)⟩
theorem lw_p27 : lw_okq (⟨"GatedTrunkModel", "startTree", "()V"⟩, 30) := ⟨⟨by decide +kernel, by decide +kernel⟩, List.mem_of_getElem? (i := 559) (by decide +kernel), List.mem_of_getElem? (i := 716) (by decide +kernel), List.mem_of_getElem? (i := 717) (by decide +kernel)⟩
theorem lw_p28 : lw_okq (⟨"GatedTrunkModel", "conflicts", "(I)Z"⟩, 30) := ⟨⟨by decide +kernel, by decide +kernel⟩, List.mem_of_getElem? (i := 559) (by decide +kernel), List.mem_of_getElem? (i := 720) (by decide +kernel), List.mem_of_getElem? (i := 721) (by decide +kernel)⟩
theorem lw_p29 : lw_okq (⟨"GatedTrunkModel", "doClaim", "(I)I"⟩, 30) := ⟨⟨by decide +kernel, by decide +kernel⟩, List.mem_of_getElem? (i := 559) (by decide +kernel), List.mem_of_getElem? (i := 724) (by decide +kernel), List.mem_of_getElem? (i := 725) (by decide +kernel)⟩
theorem lw_p30 : lw_okq (⟨"GatedTrunkModel", "isWorker", "(I)Z"⟩, 30) := ⟨⟨by decide +kernel, by decide +kernel⟩, List.mem_of_getElem? (i := 559) (by decide +kernel), List.mem_of_getElem? (i := 728) (by decide +kernel), List.mem_of_getElem? (i := 729) (by decide +kernel)⟩
theorem lw_p31 : lw_okq (⟨"GatedTrunkModel", "batchTree", "()V"⟩, 30) := ⟨⟨by decide +kernel, by decide +kernel⟩, List.mem_of_getElem? (i := 559) (by decide +kernel), List.mem_of_getElem? (i := 732) (by decide +kernel), List.mem_of_getElem? (i := 733) (by decide +kernel)⟩
def lw_privs_2 : List (MethodName × Nat) := [(⟨"GatedTrunkModel", "once", "(IIII)I"⟩, 30), (⟨"GatedTrunkModel", "doOpen", "()I"⟩, 30), (⟨"GatedTrunkModel", "noReviews", "(I)V"⟩, 30), (⟨"GatedTrunkModel", "doPush", "(III)I"⟩, 30), (⟨"GatedTrunkModel", "is", "(II)Z"⟩, 30), (⟨"GatedTrunkModel", "isChange", "(I)Z"⟩, 30), (⟨"GatedTrunkModel", "doReview", "(III)I"⟩, 30), (⟨"GatedTrunkModel", "doClose", "(I)I"⟩, 30), (⟨"GatedTrunkModel", "doEnqueue", "(I)I"⟩, 30), (⟨"GatedTrunkModel", "count", "(II)I"⟩, 30), (⟨"GatedTrunkModel", "doRebase", "(I)I"⟩, 30), (⟨"GatedTrunkModel", "startTree", "()V"⟩, 30), (⟨"GatedTrunkModel", "conflicts", "(I)Z"⟩, 30), (⟨"GatedTrunkModel", "doClaim", "(I)I"⟩, 30), (⟨"GatedTrunkModel", "isWorker", "(I)Z"⟩, 30), (⟨"GatedTrunkModel", "batchTree", "()V"⟩, 30)]
theorem lw_r2 : ∀ q ∈ lw_privs_2, lw_okq q := List.forall_mem_cons.mpr ⟨lw_p16, List.forall_mem_cons.mpr ⟨lw_p17, List.forall_mem_cons.mpr ⟨lw_p18, List.forall_mem_cons.mpr ⟨lw_p19, List.forall_mem_cons.mpr ⟨lw_p20, List.forall_mem_cons.mpr ⟨lw_p21, List.forall_mem_cons.mpr ⟨lw_p22, List.forall_mem_cons.mpr ⟨lw_p23, List.forall_mem_cons.mpr ⟨lw_p24, List.forall_mem_cons.mpr ⟨lw_p25, List.forall_mem_cons.mpr ⟨lw_p26, List.forall_mem_cons.mpr ⟨lw_p27, List.forall_mem_cons.mpr ⟨lw_p28, List.forall_mem_cons.mpr ⟨lw_p29, List.forall_mem_cons.mpr ⟨lw_p30, List.forall_mem_cons.mpr ⟨lw_p31, fun _ h => absurd h List.not_mem_nil⟩⟩⟩⟩⟩⟩⟩⟩⟩⟩⟩⟩⟩⟩⟩⟩
theorem lw_p32 : lw_okq (⟨"GatedTrunkModel", "needs", "(II)Z"⟩, 30) := ⟨⟨by decide +kernel, by decide +kernel⟩, List.mem_of_getElem? (i := 559) (by decide +kernel), List.mem_of_getElem? (i := 736) (by decide +kernel), List.mem_of_getElem? (i := 737) (by decide +kernel)⟩
theorem lw_p33 : lw_okq (⟨"GatedTrunkModel", "bit", "(I)Z"⟩, 30) := ⟨⟨by decide +kernel, by decide +kernel⟩, List.mem_of_getElem? (i := 559) (by decide +kernel), List.mem_of_getElem? (i := 740) (by decide +kernel), List.mem_of_getElem? (i := 741) (by decide +kernel)⟩
theorem lw_p34 : lw_okq (⟨"GatedTrunkModel", "doReport", "(IZ)I"⟩, 30) := ⟨⟨by decide +kernel, by decide +kernel⟩, List.mem_of_getElem? (i := 559) (by decide +kernel), List.mem_of_getElem? (i := 744) (by decide +kernel), List.mem_of_getElem? (i := 745) (by decide +kernel)⟩
theorem lw_p35 : lw_okq (⟨"GatedTrunkModel", "settle", "(IZ)V"⟩, 30) := ⟨⟨by decide +kernel, by decide +kernel⟩, List.mem_of_getElem? (i := 559) (by decide +kernel), List.mem_of_getElem? (i := 748) (by decide +kernel), List.mem_of_getElem? (i := 749) (by decide +kernel)⟩
theorem lw_p36 : lw_okq (⟨"GatedTrunkModel", "close4", "()V"⟩, 30) := ⟨⟨by decide +kernel, by decide +kernel⟩, List.mem_of_getElem? (i := 559) (by decide +kernel), List.mem_of_getElem? (i := 752) (by decide +kernel), List.mem_of_getElem? (i := 753) (by decide +kernel)⟩
theorem lw_p37 : lw_okq (⟨"GatedTrunkModel", "endLeaseOn", "(I)V"⟩, 30) := ⟨⟨by decide +kernel, by decide +kernel⟩, List.mem_of_getElem? (i := 559) (by decide +kernel), List.mem_of_getElem? (i := 756) (by decide +kernel), List.mem_of_getElem? (i := 757) (by decide +kernel)⟩
theorem lw_p38 : lw_okq (⟨"GatedTrunkModel", "judge", "()V"⟩, 30) := ⟨⟨by decide +kernel, by decide +kernel⟩, List.mem_of_getElem? (i := 559) (by decide +kernel), List.mem_of_getElem? (i := 760) (by decide +kernel), List.mem_of_getElem? (i := 761) (by decide +kernel)⟩
theorem lw_p39 : lw_okq (⟨"GatedTrunkModel", "required", "(I)Z"⟩, 30) := ⟨⟨by decide +kernel, by decide +kernel⟩, List.mem_of_getElem? (i := 559) (by decide +kernel), List.mem_of_getElem? (i := 764) (by decide +kernel), List.mem_of_getElem? (i := 765) (by decide +kernel)⟩
theorem lw_p40 : lw_okq (⟨"GatedTrunkModel", "batchFails", "(I)V"⟩, 30) := ⟨⟨by decide +kernel, by decide +kernel⟩, List.mem_of_getElem? (i := 559) (by decide +kernel), List.mem_of_getElem? (i := 768) (by decide +kernel), List.mem_of_getElem? (i := 769) (by decide +kernel)⟩
theorem lw_p41 : lw_okq (⟨"GatedTrunkModel", "endLeases", "()V"⟩, 30) := ⟨⟨by decide +kernel, by decide +kernel⟩, List.mem_of_getElem? (i := 559) (by decide +kernel), List.mem_of_getElem? (i := 772) (by decide +kernel), List.mem_of_getElem? (i := 773) (by decide +kernel)⟩
theorem lw_p42 : lw_okq (⟨"GatedTrunkModel", "reject", "(II)V"⟩, 30) := ⟨⟨by decide +kernel, by decide +kernel⟩, List.mem_of_getElem? (i := 559) (by decide +kernel), List.mem_of_getElem? (i := 776) (by decide +kernel), List.mem_of_getElem? (i := 777) (by decide +kernel)⟩
theorem lw_p43 : lw_okq (⟨"GatedTrunkModel", "leaveQueue", "(I)V"⟩, 30) := ⟨⟨by decide +kernel, by decide +kernel⟩, List.mem_of_getElem? (i := 559) (by decide +kernel), List.mem_of_getElem? (i := 780) (by decide +kernel), List.mem_of_getElem? (i := 781) (by decide +kernel)⟩
theorem lw_p44 : lw_okq (⟨"GatedTrunkModel", "dropPlan", "()V"⟩, 30) := ⟨⟨by decide +kernel, by decide +kernel⟩, List.mem_of_getElem? (i := 559) (by decide +kernel), List.mem_of_getElem? (i := 784) (by decide +kernel), List.mem_of_getElem? (i := 785) (by decide +kernel)⟩
theorem lw_p45 : lw_okq (⟨"GatedTrunkModel", "batchPasses", "()V"⟩, 30) := ⟨⟨by decide +kernel, by decide +kernel⟩, List.mem_of_getElem? (i := 559) (by decide +kernel), List.mem_of_getElem? (i := 788) (by decide +kernel), List.mem_of_getElem? (i := 789) (by decide +kernel)⟩
theorem lw_p46 : lw_okq (⟨"GatedTrunkModel", "doTick", "(I)I"⟩, 30) := ⟨⟨by decide +kernel, by decide +kernel⟩, List.mem_of_getElem? (i := 559) (by decide +kernel), List.mem_of_getElem? (i := 792) (by decide +kernel), List.mem_of_getElem? (i := 793) (by decide +kernel)⟩
theorem lw_p47 : lw_okq (⟨"GatedTrunkModel", "expire", "(I)V"⟩, 30) := ⟨⟨by decide +kernel, by decide +kernel⟩, List.mem_of_getElem? (i := 559) (by decide +kernel), List.mem_of_getElem? (i := 796) (by decide +kernel), List.mem_of_getElem? (i := 797) (by decide +kernel)⟩
def lw_privs_3 : List (MethodName × Nat) := [(⟨"GatedTrunkModel", "needs", "(II)Z"⟩, 30), (⟨"GatedTrunkModel", "bit", "(I)Z"⟩, 30), (⟨"GatedTrunkModel", "doReport", "(IZ)I"⟩, 30), (⟨"GatedTrunkModel", "settle", "(IZ)V"⟩, 30), (⟨"GatedTrunkModel", "close4", "()V"⟩, 30), (⟨"GatedTrunkModel", "endLeaseOn", "(I)V"⟩, 30), (⟨"GatedTrunkModel", "judge", "()V"⟩, 30), (⟨"GatedTrunkModel", "required", "(I)Z"⟩, 30), (⟨"GatedTrunkModel", "batchFails", "(I)V"⟩, 30), (⟨"GatedTrunkModel", "endLeases", "()V"⟩, 30), (⟨"GatedTrunkModel", "reject", "(II)V"⟩, 30), (⟨"GatedTrunkModel", "leaveQueue", "(I)V"⟩, 30), (⟨"GatedTrunkModel", "dropPlan", "()V"⟩, 30), (⟨"GatedTrunkModel", "batchPasses", "()V"⟩, 30), (⟨"GatedTrunkModel", "doTick", "(I)I"⟩, 30), (⟨"GatedTrunkModel", "expire", "(I)V"⟩, 30)]
theorem lw_r3 : ∀ q ∈ lw_privs_3, lw_okq q := List.forall_mem_cons.mpr ⟨lw_p32, List.forall_mem_cons.mpr ⟨lw_p33, List.forall_mem_cons.mpr ⟨lw_p34, List.forall_mem_cons.mpr ⟨lw_p35, List.forall_mem_cons.mpr ⟨lw_p36, List.forall_mem_cons.mpr ⟨lw_p37, List.forall_mem_cons.mpr ⟨lw_p38, List.forall_mem_cons.mpr ⟨lw_p39, List.forall_mem_cons.mpr ⟨lw_p40, List.forall_mem_cons.mpr ⟨lw_p41, List.forall_mem_cons.mpr ⟨lw_p42, List.forall_mem_cons.mpr ⟨lw_p43, List.forall_mem_cons.mpr ⟨lw_p44, List.forall_mem_cons.mpr ⟨lw_p45, List.forall_mem_cons.mpr ⟨lw_p46, List.forall_mem_cons.mpr ⟨lw_p47, fun _ h => absurd h List.not_mem_nil⟩⟩⟩⟩⟩⟩⟩⟩⟩⟩⟩⟩⟩⟩⟩⟩
theorem lw_p48 : lw_okq (⟨"GatedTrunkModel", "buildAll", "()V"⟩, 30) := ⟨⟨by decide +kernel, by decide +kernel⟩, List.mem_of_getElem? (i := 559) (by decide +kernel), List.mem_of_getElem? (i := 800) (by decide +kernel), List.mem_of_getElem? (i := 801) (by decide +kernel)⟩
theorem lw_p49 : lw_okq (⟨"GatedTrunkModel", "build", "()V"⟩, 30) := ⟨⟨by decide +kernel, by decide +kernel⟩, List.mem_of_getElem? (i := 559) (by decide +kernel), List.mem_of_getElem? (i := 804) (by decide +kernel), List.mem_of_getElem? (i := 805) (by decide +kernel)⟩
theorem lw_p50 : lw_okq (⟨"GatedTrunkModel", "valid", "()Z"⟩, 30) := ⟨⟨by decide +kernel, by decide +kernel⟩, List.mem_of_getElem? (i := 559) (by decide +kernel), List.mem_of_getElem? (i := 808) (by decide +kernel), List.mem_of_getElem? (i := 809) (by decide +kernel)⟩
theorem lw_p51 : lw_okq (⟨"GatedTrunkModel", "there", "(I)Z"⟩, 30) := ⟨⟨by decide +kernel, by decide +kernel⟩, List.mem_of_getElem? (i := 559) (by decide +kernel), List.mem_of_getElem? (i := 812) (by decide +kernel), List.mem_of_getElem? (i := 813) (by decide +kernel)⟩
theorem lw_p52 : lw_okq (⟨"GatedTrunkModel", "expireAll", "()V"⟩, 30) := ⟨⟨by decide +kernel, by decide +kernel⟩, List.mem_of_getElem? (i := 559) (by decide +kernel), List.mem_of_getElem? (i := 816) (by decide +kernel), List.mem_of_getElem? (i := 817) (by decide +kernel)⟩
theorem lw_p53 : lw_okq (⟨"GatedTrunkModel", "note", "(IIII)V"⟩, 30) := ⟨⟨by decide +kernel, by decide +kernel⟩, List.mem_of_getElem? (i := 559) (by decide +kernel), List.mem_of_getElem? (i := 820) (by decide +kernel), List.mem_of_getElem? (i := 821) (by decide +kernel)⟩
def lw_privs_4 : List (MethodName × Nat) := [(⟨"GatedTrunkModel", "buildAll", "()V"⟩, 30), (⟨"GatedTrunkModel", "build", "()V"⟩, 30), (⟨"GatedTrunkModel", "valid", "()Z"⟩, 30), (⟨"GatedTrunkModel", "there", "(I)Z"⟩, 30), (⟨"GatedTrunkModel", "expireAll", "()V"⟩, 30), (⟨"GatedTrunkModel", "note", "(IIII)V"⟩, 30)]
theorem lw_r4 : ∀ q ∈ lw_privs_4, lw_okq q := List.forall_mem_cons.mpr ⟨lw_p48, List.forall_mem_cons.mpr ⟨lw_p49, List.forall_mem_cons.mpr ⟨lw_p50, List.forall_mem_cons.mpr ⟨lw_p51, List.forall_mem_cons.mpr ⟨lw_p52, List.forall_mem_cons.mpr ⟨lw_p53, fun _ h => absurd h List.not_mem_nil⟩⟩⟩⟩⟩⟩
def lw_privs : List (MethodName × Nat) := lw_privs_1 ++ (lw_privs_2 ++ (lw_privs_3 ++ (lw_privs_4)))
def lw_tbl : List Cond := k2_sels lw_privs ++ tables_1
theorem lw_privs_ok : ∀ q ∈ lw_privs, lw_okq q := by
  show ∀ q ∈ lw_privs_1 ++ (lw_privs_2 ++ (lw_privs_3 ++ (lw_privs_4))), lw_okq q
  exact List.forall_mem_append.mpr ⟨lw_r1, List.forall_mem_append.mpr ⟨lw_r2, List.forall_mem_append.mpr ⟨lw_r3, lw_r4⟩⟩⟩
def RX0 : String := "GatedTrunk$Batch"
def TX0 : u_T := fun k => match k with
  | 0 => ("GatedTrunk$Batch", "tree", "[I", true)
  | 1 => ("GatedTrunk$Batch", "members", "I", false)
  | 2 => ("GatedTrunk$Batch", "jobs", "[I", true)
  | 3 => ("GatedTrunk$Batch", "attempts", "[I", true)
  | _ => ("GatedTrunk$Batch", "leaseEnds", "[I", true)
def tyX0 : Nat → FieldType := fun k => match k with
  | 0 => .array .int
  | 1 => .int
  | 2 => .array .int
  | 3 => .array .int
  | _ => .array .int
abbrev wsX00 : List Cond := u_ws RX0 TX0 5
theorem nmX0 : ∀ a, a < 5 → ∀ b, b < 5 → a ≠ b → (TX0 a).2.1 ≠ (TX0 b).2.1 := by decide +kernel
theorem tyX0_ok : ∀ k, k < 5 → parseFieldDescriptor (TX0 k).2.2.1 = some (tyX0 k) := by decide +kernel
abbrev cX0_init : ByteArray := prog_2_method_1_code
def yX0_init : MethodName := ⟨RX0, "<init>", "()V"⟩
abbrev cX0_copyFrom : ByteArray := prog_2_method_2_code
def yX0_copyFrom : MethodName := ⟨RX0, "copyFrom", "(LGatedTrunk$Batch;)V"⟩
abbrev cX0_isUnderTest : ByteArray := prog_2_method_3_code
def yX0_isUnderTest : MethodName := ⟨RX0, "isUnderTest", "()Z"⟩
abbrev cX0_pipeline : ByteArray := prog_2_method_4_code
def yX0_pipeline : MethodName := ⟨RX0, "pipeline", "()I"⟩
abbrev cX0_start : ByteArray := prog_2_method_5_code
def yX0_start : MethodName := ⟨RX0, "start", "(I)V"⟩
abbrev cX0_end : ByteArray := prog_2_method_6_code
def yX0_end : MethodName := ⟨RX0, "end", "()V"⟩
abbrev cX0_leasedJob : ByteArray := prog_2_method_7_code
def yX0_leasedJob : MethodName := ⟨RX0, "leasedJob", "(I)I"⟩
abbrev cX0_nextJob : ByteArray := prog_2_method_8_code
def yX0_nextJob : MethodName := ⟨RX0, "nextJob", "()I"⟩
abbrev cX0_lease : ByteArray := prog_2_method_9_code
def yX0_lease : MethodName := ⟨RX0, "lease", "(III)V"⟩
abbrev cX0_expireLease : ByteArray := prog_2_method_10_code
def yX0_expireLease : MethodName := ⟨RX0, "expireLease", "(II)V"⟩
abbrev cX0_failJob : ByteArray := prog_2_method_11_code
def yX0_failJob : MethodName := ⟨RX0, "failJob", "(I)V"⟩
abbrev cX0_firstFailedRequired : ByteArray := prog_2_method_12_code
def yX0_firstFailedRequired : MethodName := ⟨RX0, "firstFailedRequired", "()I"⟩
abbrev cX0_hasPassedRequired : ByteArray := prog_2_method_13_code
def yX0_hasPassedRequired : MethodName := ⟨RX0, "hasPassedRequired", "()Z"⟩
abbrev cX0_passedJobs : ByteArray := prog_2_method_14_code
def yX0_passedJobs : MethodName := ⟨RX0, "passedJobs", "()I"⟩
def RX1 : String := "GatedTrunk$Change"
def TX1 : u_T := fun k => match k with
  | 0 => ("GatedTrunk$Change", "base", "[I", true)
  | 1 => ("GatedTrunk$Change", "own", "[I", true)
  | 2 => ("GatedTrunk$Change", "condition", "I", false)
  | 3 => ("GatedTrunk$Change", "rejection", "I", false)
  | 4 => ("GatedTrunk$Change", "standFor", "I", false)
  | _ => ("GatedTrunk$Change", "standAgainst", "I", false)
def tyX1 : Nat → FieldType := fun k => match k with
  | 0 => .array .int
  | 1 => .array .int
  | 2 => .int
  | 3 => .int
  | 4 => .int
  | _ => .int
abbrev wsX10 : List Cond := u_ws RX1 TX1 6
theorem nmX1 : ∀ a, a < 6 → ∀ b, b < 6 → a ≠ b → (TX1 a).2.1 ≠ (TX1 b).2.1 := by decide +kernel
theorem tyX1_ok : ∀ k, k < 6 → parseFieldDescriptor (TX1 k).2.2.1 = some (tyX1 k) := by decide +kernel
abbrev cX1_init : ByteArray := prog_3_method_1_code
def yX1_init : MethodName := ⟨RX1, "<init>", "()V"⟩
abbrev cX1_copyFrom : ByteArray := prog_3_method_2_code
def yX1_copyFrom : MethodName := ⟨RX1, "copyFrom", "(LGatedTrunk$Change;)V"⟩
abbrev cX1_startFrom : ByteArray := prog_3_method_3_code
def yX1_startFrom : MethodName := ⟨RX1, "startFrom", "([I)V"⟩
abbrev cX1_become : ByteArray := prog_3_method_4_code
def yX1_become : MethodName := ⟨RX1, "become", "(II)V"⟩
abbrev cX1_setContent : ByteArray := prog_3_method_5_code
def yX1_setContent : MethodName := ⟨RX1, "setContent", "(II)V"⟩
abbrev cX1_dropReviews : ByteArray := prog_3_method_6_code
def yX1_dropReviews : MethodName := ⟨RX1, "dropReviews", "()V"⟩
abbrev cX1_addSupporter : ByteArray := prog_3_method_7_code
def yX1_addSupporter : MethodName := ⟨RX1, "addSupporter", "(I)V"⟩
abbrev cX1_addOpponent : ByteArray := prog_3_method_8_code
def yX1_addOpponent : MethodName := ⟨RX1, "addOpponent", "(I)V"⟩
abbrev cX1_countFor : ByteArray := prog_3_method_9_code
def yX1_countFor : MethodName := ⟨RX1, "countFor", "()I"⟩
abbrev cX1_countAgainst : ByteArray := prog_3_method_10_code
def yX1_countAgainst : MethodName := ⟨RX1, "countAgainst", "()I"⟩
abbrev cX1_conflictsWith : ByteArray := prog_3_method_11_code
def yX1_conflictsWith : MethodName := ⟨RX1, "conflictsWith", "([I)Z"⟩
abbrev cX1_mergeInto : ByteArray := prog_3_method_12_code
def yX1_mergeInto : MethodName := ⟨RX1, "mergeInto", "([I)V"⟩
abbrev cX1_moveOnto : ByteArray := prog_3_method_13_code
def yX1_moveOnto : MethodName := ⟨RX1, "moveOnto", "([I)V"⟩
def RX2 : String := "GatedTrunk$Event"
def TX2 : u_T := fun k => match k with
  | 0 => ("GatedTrunk$Event", "kind", "I", false)
  | 1 => ("GatedTrunk$Event", "first", "I", false)
  | 2 => ("GatedTrunk$Event", "second", "I", false)
  | _ => ("GatedTrunk$Event", "third", "I", false)
def tyX2 : Nat → FieldType := fun k => match k with
  | 0 => .int
  | 1 => .int
  | 2 => .int
  | _ => .int
abbrev wsX20 : List Cond := u_ws RX2 TX2 4
theorem nmX2 : ∀ a, a < 4 → ∀ b, b < 4 → a ≠ b → (TX2 a).2.1 ≠ (TX2 b).2.1 := by decide +kernel
theorem tyX2_ok : ∀ k, k < 4 → parseFieldDescriptor (TX2 k).2.2.1 = some (tyX2 k) := by decide +kernel
abbrev cX2_init : ByteArray := prog_4_method_1_code
def yX2_init : MethodName := ⟨RX2, "<init>", "()V"⟩
def RX3 : String := "GatedTrunk$Pipeline"
def TX3 : u_T := fun k => match k with
  | _ => ("", "", "", false)
def tyX3 : Nat → FieldType := fun k => match k with
  | _ => .int
abbrev wsX30 : List Cond := u_ws RX3 TX3 0
theorem nmX3 : ∀ a, a < 0 → ∀ b, b < 0 → a ≠ b → (TX3 a).2.1 ≠ (TX3 b).2.1 := by decide +kernel
theorem tyX3_ok : ∀ k, k < 0 → parseFieldDescriptor (TX3 k).2.2.1 = some (tyX3 k) := by decide +kernel
abbrev cX3_isThere : ByteArray := prog_5_method_2_code
def yX3_isThere : MethodName := ⟨RX3, "isThere", "(II)Z"⟩
abbrev cX3_isRequired : ByteArray := prog_5_method_3_code
def yX3_isRequired : MethodName := ⟨RX3, "isRequired", "(II)Z"⟩
abbrev cX3_needsOf : ByteArray := prog_5_method_4_code
def yX3_needsOf : MethodName := ⟨RX3, "needsOf", "(II)I"⟩
abbrev cX3_allThatNeed : ByteArray := prog_5_method_5_code
def yX3_allThatNeed : MethodName := ⟨RX3, "allThatNeed", "(II)I"⟩
abbrev cX3_isValid : ByteArray := prog_5_method_6_code
def yX3_isValid : MethodName := ⟨RX3, "isValid", "(I)Z"⟩
def RX4 : String := "GatedTrunk$Row"
def TX4 : u_T := fun k => match k with
  | 0 => ("GatedTrunk$Row", "numbers", "[I", true)
  | _ => ("GatedTrunk$Row", "length", "I", false)
def tyX4 : Nat → FieldType := fun k => match k with
  | 0 => .array .int
  | _ => .int
abbrev wsX40 : List Cond := u_ws RX4 TX4 2
theorem nmX4 : ∀ a, a < 2 → ∀ b, b < 2 → a ≠ b → (TX4 a).2.1 ≠ (TX4 b).2.1 := by decide +kernel
theorem tyX4_ok : ∀ k, k < 2 → parseFieldDescriptor (TX4 k).2.2.1 = some (tyX4 k) := by decide +kernel
abbrev cX4_init : ByteArray := prog_6_method_1_code
def yX4_init : MethodName := ⟨RX4, "<init>", "(I)V"⟩
abbrev cX4_copyFrom : ByteArray := prog_6_method_2_code
def yX4_copyFrom : MethodName := ⟨RX4, "copyFrom", "(LGatedTrunk$Row;)V"⟩
abbrev cX4_at : ByteArray := prog_6_method_3_code
def yX4_at : MethodName := ⟨RX4, "at", "(I)I"⟩
abbrev cX4_insert : ByteArray := prog_6_method_4_code
def yX4_insert : MethodName := ⟨RX4, "insert", "(II)V"⟩
abbrev cX4_append : ByteArray := prog_6_method_5_code
def yX4_append : MethodName := ⟨RX4, "append", "(I)V"⟩
abbrev cX4_removeAt : ByteArray := prog_6_method_6_code
def yX4_removeAt : MethodName := ⟨RX4, "removeAt", "(I)V"⟩
abbrev cX4_replaceFirst : ByteArray := prog_6_method_7_code
def yX4_replaceFirst : MethodName := ⟨RX4, "replaceFirst", "(I)V"⟩
def RX5 : String := "GatedTrunk$Settings"
def TX5 : u_T := fun k => match k with
  | 0 => ("GatedTrunk$Settings", "approvals", "I", false)
  | 1 => ("GatedTrunk$Settings", "batchSize", "I", false)
  | 2 => ("GatedTrunk$Settings", "retries", "I", false)
  | _ => ("GatedTrunk$Settings", "leaseTicks", "I", false)
def tyX5 : Nat → FieldType := fun k => match k with
  | 0 => .int
  | 1 => .int
  | 2 => .int
  | _ => .int
abbrev wsX50 : List Cond := u_ws RX5 TX5 4
theorem nmX5 : ∀ a, a < 4 → ∀ b, b < 4 → a ≠ b → (TX5 a).2.1 ≠ (TX5 b).2.1 := by decide +kernel
theorem tyX5_ok : ∀ k, k < 4 → parseFieldDescriptor (TX5 k).2.2.1 = some (tyX5 k) := by decide +kernel
abbrev cX5_init : ByteArray := prog_7_method_1_code
def yX5_init : MethodName := ⟨RX5, "<init>", "()V"⟩
def RX6 : String := "GatedTrunk$State"
def TX6 : u_T := fun k => match k with
  | 0 => ("GatedTrunk$State", "settings", "LGatedTrunk$Settings;", true)
  | 1 => ("GatedTrunk$State", "trunk", "[I", true)
  | 2 => ("GatedTrunk$State", "trunkVersion", "I", false)
  | 3 => ("GatedTrunk$State", "changes", "[LGatedTrunk$Change;", true)
  | 4 => ("GatedTrunk$State", "changeCount", "I", false)
  | 5 => ("GatedTrunk$State", "queue", "LGatedTrunk$Row;", true)
  | 6 => ("GatedTrunk$State", "plan", "LGatedTrunk$Row;", true)
  | 7 => ("GatedTrunk$State", "batch", "LGatedTrunk$Batch;", true)
  | _ => ("GatedTrunk$State", "time", "I", false)
def tyX6 : Nat → FieldType := fun k => match k with
  | 0 => .object "GatedTrunk$Settings"
  | 1 => .array .int
  | 2 => .int
  | 3 => .array (.object "GatedTrunk$Change")
  | 4 => .int
  | 5 => .object "GatedTrunk$Row"
  | 6 => .object "GatedTrunk$Row"
  | 7 => .object "GatedTrunk$Batch"
  | _ => .int
abbrev wsX60 : List Cond := u_ws RX6 TX6 9
theorem nmX6 : ∀ a, a < 9 → ∀ b, b < 9 → a ≠ b → (TX6 a).2.1 ≠ (TX6 b).2.1 := by decide +kernel
theorem tyX6_ok : ∀ k, k < 9 → parseFieldDescriptor (TX6 k).2.2.1 = some (tyX6 k) := by decide +kernel
abbrev cX6_init : ByteArray := prog_8_method_1_code
def yX6_init : MethodName := ⟨RX6, "<init>", "(LGatedTrunk$Settings;)V"⟩
abbrev cX6_copyFrom : ByteArray := prog_8_method_2_code
def yX6_copyFrom : MethodName := ⟨RX6, "copyFrom", "(LGatedTrunk$State;)V"⟩
abbrev cX6_isChange : ByteArray := prog_8_method_3_code
def yX6_isChange : MethodName := ⟨RX6, "isChange", "(I)Z"⟩
abbrev cX6_isOpen : ByteArray := prog_8_method_4_code
def yX6_isOpen : MethodName := ⟨RX6, "isOpen", "(I)Z"⟩
abbrev cX6_isOpenOrRejected : ByteArray := prog_8_method_5_code
def yX6_isOpenOrRejected : MethodName := ⟨RX6, "isOpenOrRejected", "(I)Z"⟩
abbrev cX6_mayBeQueued : ByteArray := prog_8_method_6_code
def yX6_mayBeQueued : MethodName := ⟨RX6, "mayBeQueued", "(I)Z"⟩
abbrev cX6_mayBeRebased : ByteArray := prog_8_method_7_code
def yX6_mayBeRebased : MethodName := ⟨RX6, "mayBeRebased", "(I)Z"⟩
abbrev cX6_jobToLease : ByteArray := prog_8_method_8_code
def yX6_jobToLease : MethodName := ⟨RX6, "jobToLease", "(I)I"⟩
abbrev cX6_carryOut : ByteArray := prog_8_method_9_code
def yX6_carryOut : MethodName := ⟨RX6, "carryOut", "(LGatedTrunk$Event;)I"⟩
abbrev cX6_addChange : ByteArray := prog_8_method_10_code
def yX6_addChange : MethodName := ⟨RX6, "addChange", "()I"⟩
abbrev cX6_leaseNextJob : ByteArray := prog_8_method_11_code
def yX6_leaseNextJob : MethodName := ⟨RX6, "leaseNextJob", "(I)I"⟩
abbrev cX6_recover : ByteArray := prog_8_method_12_code
def yX6_recover : MethodName := ⟨RX6, "recover", "()V"⟩
abbrev cX6_expireLeases : ByteArray := prog_8_method_13_code
def yX6_expireLeases : MethodName := ⟨RX6, "expireLeases", "(Z)I"⟩
abbrev cX6_endJob : ByteArray := prog_8_method_14_code
def yX6_endJob : MethodName := ⟨RX6, "endJob", "(II)V"⟩
abbrev cX6_judgeBatch : ByteArray := prog_8_method_15_code
def yX6_judgeBatch : MethodName := ⟨RX6, "judgeBatch", "()V"⟩
abbrev cX6_passBatch : ByteArray := prog_8_method_16_code
def yX6_passBatch : MethodName := ⟨RX6, "passBatch", "()V"⟩
abbrev cX6_failBatch : ByteArray := prog_8_method_17_code
def yX6_failBatch : MethodName := ⟨RX6, "failBatch", "(II)V"⟩
abbrev cX6_takeFromQueue : ByteArray := prog_8_method_18_code
def yX6_takeFromQueue : MethodName := ⟨RX6, "takeFromQueue", "(III)V"⟩
abbrev cX6_buildBatches : ByteArray := prog_8_method_19_code
def yX6_buildBatches : MethodName := ⟨RX6, "buildBatches", "()V"⟩
abbrev cX6_buildBatch : ByteArray := prog_8_method_20_code
def yX6_buildBatch : MethodName := ⟨RX6, "buildBatch", "()V"⟩
abbrev cX6_mergeFirst : ByteArray := prog_8_method_21_code
def yX6_mergeFirst : MethodName := ⟨RX6, "mergeFirst", "(I)I"⟩
def RX7 : String := "GatedTrunk"
def TX7 : u_T := fun k => match k with
  | 0 => ("GatedTrunk", "live", "LGatedTrunk$State;", true)
  | 1 => ("GatedTrunk", "flushed", "LGatedTrunk$State;", true)
  | 2 => ("GatedTrunk", "log", "[LGatedTrunk$Event;", true)
  | _ => ("GatedTrunk", "unflushed", "I", false)
def tyX7 : Nat → FieldType := fun k => match k with
  | 0 => .object "GatedTrunk$State"
  | 1 => .object "GatedTrunk$State"
  | 2 => .array (.object "GatedTrunk$Event")
  | _ => .int
abbrev wsX70 : List Cond := u_ws RX7 TX7 4
theorem nmX7 : ∀ a, a < 4 → ∀ b, b < 4 → a ≠ b → (TX7 a).2.1 ≠ (TX7 b).2.1 := by decide +kernel
theorem tyX7_ok : ∀ k, k < 4 → parseFieldDescriptor (TX7 k).2.2.1 = some (tyX7 k) := by decide +kernel
abbrev cX7_init : ByteArray := prog_1_method_1_code
def yX7_init : MethodName := ⟨RX7, "<init>", "(IIII)V"⟩
abbrev cX7_open : ByteArray := prog_1_method_2_code
def yX7_open : MethodName := ⟨RX7, "open", "()I"⟩
abbrev cX7_push : ByteArray := prog_1_method_3_code
def yX7_push : MethodName := ⟨RX7, "push", "(III)Z"⟩
abbrev cX7_approve : ByteArray := prog_1_method_4_code
def yX7_approve : MethodName := ⟨RX7, "approve", "(II)Z"⟩
abbrev cX7_object : ByteArray := prog_1_method_5_code
def yX7_object : MethodName := ⟨RX7, "object", "(II)Z"⟩
abbrev cX7_close : ByteArray := prog_1_method_6_code
def yX7_close : MethodName := ⟨RX7, "close", "(I)Z"⟩
abbrev cX7_enqueue : ByteArray := prog_1_method_7_code
def yX7_enqueue : MethodName := ⟨RX7, "enqueue", "(I)Z"⟩
abbrev cX7_rebase : ByteArray := prog_1_method_8_code
def yX7_rebase : MethodName := ⟨RX7, "rebase", "(I)Z"⟩
abbrev cX7_claim : ByteArray := prog_1_method_9_code
def yX7_claim : MethodName := ⟨RX7, "claim", "(I)I"⟩
abbrev cX7_report : ByteArray := prog_1_method_10_code
def yX7_report : MethodName := ⟨RX7, "report", "(IZ)Z"⟩
abbrev cX7_tick : ByteArray := prog_1_method_11_code
def yX7_tick : MethodName := ⟨RX7, "tick", "(I)I"⟩
abbrev cX7_flush : ByteArray := prog_1_method_12_code
def yX7_flush : MethodName := ⟨RX7, "flush", "()I"⟩
abbrev cX7_crash : ByteArray := prog_1_method_13_code
def yX7_crash : MethodName := ⟨RX7, "crash", "(I)I"⟩
abbrev cX7_state : ByteArray := prog_1_method_14_code
def yX7_state : MethodName := ⟨RX7, "state", "(I)I"⟩
abbrev cX7_cause : ByteArray := prog_1_method_15_code
def yX7_cause : MethodName := ⟨RX7, "cause", "(I)I"⟩
abbrev cX7_standing : ByteArray := prog_1_method_16_code
def yX7_standing : MethodName := ⟨RX7, "standing", "(I)I"⟩
abbrev cX7_file : ByteArray := prog_1_method_17_code
def yX7_file : MethodName := ⟨RX7, "file", "(II)I"⟩
abbrev cX7_queueAt : ByteArray := prog_1_method_18_code
def yX7_queueAt : MethodName := ⟨RX7, "queueAt", "(I)I"⟩
abbrev cX7_batch : ByteArray := prog_1_method_19_code
def yX7_batch : MethodName := ⟨RX7, "batch", "()I"⟩
abbrev cX7_job : ByteArray := prog_1_method_20_code
def yX7_job : MethodName := ⟨RX7, "job", "(I)I"⟩
abbrev cX7_version : ByteArray := prog_1_method_21_code
def yX7_version : MethodName := ⟨RX7, "version", "()I"⟩
abbrev cX7_logged : ByteArray := prog_1_method_22_code
def yX7_logged : MethodName := ⟨RX7, "logged", "(IIII)LGatedTrunk$Event;"⟩
abbrev cX7_keepLiveState : ByteArray := prog_1_method_23_code
def yX7_keepLiveState : MethodName := ⟨RX7, "keepLiveState", "()V"⟩
abbrev cX7_clamped : ByteArray := prog_1_method_24_code
def yX7_clamped : MethodName := ⟨RX7, "clamped", "(III)I"⟩
abbrev cX7_isPath : ByteArray := prog_1_method_25_code
def yX7_isPath : MethodName := ⟨RX7, "isPath", "(I)Z"⟩
abbrev cX7_isReviewer : ByteArray := prog_1_method_26_code
def yX7_isReviewer : MethodName := ⟨RX7, "isReviewer", "(I)Z"⟩
abbrev cX7_isWorker : ByteArray := prog_1_method_27_code
def yX7_isWorker : MethodName := ⟨RX7, "isWorker", "(I)Z"⟩
abbrev cX7_copyNumbers : ByteArray := prog_1_method_28_code
def yX7_copyNumbers : MethodName := ⟨RX7, "copyNumbers", "([I[I)V"⟩
def RX8 : String := "GatedTrunkModel"
def TX8 : u_T := fun k => match k with
  | 0 => ("GatedTrunkModel", "approvals", "I", true)
  | 1 => ("GatedTrunkModel", "size", "I", true)
  | 2 => ("GatedTrunkModel", "retries", "I", true)
  | 3 => ("GatedTrunkModel", "lasts", "I", true)
  | 4 => ("GatedTrunkModel", "kinds", "[I", true)
  | 5 => ("GatedTrunkModel", "firsts", "[I", true)
  | 6 => ("GatedTrunkModel", "seconds", "[I", true)
  | 7 => ("GatedTrunkModel", "thirds", "[I", true)
  | 8 => ("GatedTrunkModel", "entries", "I", false)
  | 9 => ("GatedTrunkModel", "flushed", "I", false)
  | 10 => ("GatedTrunkModel", "trunk", "[I", true)
  | 11 => ("GatedTrunkModel", "versions", "I", false)
  | 12 => ("GatedTrunkModel", "time", "I", false)
  | 13 => ("GatedTrunkModel", "changes", "I", false)
  | 14 => ("GatedTrunkModel", "base", "[I", true)
  | 15 => ("GatedTrunkModel", "own", "[I", true)
  | 16 => ("GatedTrunkModel", "states", "[I", true)
  | 17 => ("GatedTrunkModel", "causes", "[I", true)
  | 18 => ("GatedTrunkModel", "stands", "[I", true)
  | 19 => ("GatedTrunkModel", "queue", "[I", true)
  | 20 => ("GatedTrunkModel", "queued", "I", false)
  | 21 => ("GatedTrunkModel", "plan", "[I", true)
  | 22 => ("GatedTrunkModel", "planned", "I", false)
  | 23 => ("GatedTrunkModel", "members", "I", false)
  | 24 => ("GatedTrunkModel", "jobs", "[I", true)
  | 25 => ("GatedTrunkModel", "attempts", "[I", true)
  | 26 => ("GatedTrunkModel", "held", "[I", true)
  | 27 => ("GatedTrunkModel", "until", "[I", true)
  | 28 => ("GatedTrunkModel", "tree", "[I", true)
  | _ => ("GatedTrunkModel", "leads", "[Z", true)
def tyX8 : Nat → FieldType := fun k => match k with
  | 0 => .int
  | 1 => .int
  | 2 => .int
  | 3 => .int
  | 4 => .array .int
  | 5 => .array .int
  | 6 => .array .int
  | 7 => .array .int
  | 8 => .int
  | 9 => .int
  | 10 => .array .int
  | 11 => .int
  | 12 => .int
  | 13 => .int
  | 14 => .array .int
  | 15 => .array .int
  | 16 => .array .int
  | 17 => .array .int
  | 18 => .array .int
  | 19 => .array .int
  | 20 => .int
  | 21 => .array .int
  | 22 => .int
  | 23 => .int
  | 24 => .array .int
  | 25 => .array .int
  | 26 => .array .int
  | 27 => .array .int
  | 28 => .array .int
  | _ => .array .boolean
abbrev wsX80 : List Cond := u_ws RX8 TX8 30
theorem nmX8 : ∀ a, a < 30 → ∀ b, b < 30 → a ≠ b → (TX8 a).2.1 ≠ (TX8 b).2.1 := by decide +kernel
theorem tyX8_ok : ∀ k, k < 30 → parseFieldDescriptor (TX8 k).2.2.1 = some (tyX8 k) := by decide +kernel
abbrev cX8_init : ByteArray := prog_10_method_1_code
def yX8_init : MethodName := ⟨RX8, "<init>", "(IIII)V"⟩
abbrev cX8_within : ByteArray := prog_10_method_2_code
def yX8_within : MethodName := ⟨RX8, "within", "(III)I"⟩
abbrev cX8_begin : ByteArray := prog_10_method_3_code
def yX8_begin : MethodName := ⟨RX8, "begin", "()V"⟩
abbrev cX8_conflicts : ByteArray := prog_10_method_4_code
def yX8_conflicts : MethodName := ⟨RX8, "conflicts", "(I)Z"⟩
abbrev cX8_startTree : ByteArray := prog_10_method_5_code
def yX8_startTree : MethodName := ⟨RX8, "startTree", "()V"⟩
abbrev cX8_batchTree : ByteArray := prog_10_method_6_code
def yX8_batchTree : MethodName := ⟨RX8, "batchTree", "()V"⟩
abbrev cX8_bit : ByteArray := prog_10_method_7_code
def yX8_bit : MethodName := ⟨RX8, "bit", "(I)Z"⟩
abbrev cX8_there : ByteArray := prog_10_method_8_code
def yX8_there : MethodName := ⟨RX8, "there", "(I)Z"⟩
abbrev cX8_required : ByteArray := prog_10_method_9_code
def yX8_required : MethodName := ⟨RX8, "required", "(I)Z"⟩
abbrev cX8_needs : ByteArray := prog_10_method_10_code
def yX8_needs : MethodName := ⟨RX8, "needs", "(II)Z"⟩
abbrev cX8_close4 : ByteArray := prog_10_method_11_code
def yX8_close4 : MethodName := ⟨RX8, "close4", "()V"⟩
abbrev cX8_valid : ByteArray := prog_10_method_12_code
def yX8_valid : MethodName := ⟨RX8, "valid", "()Z"⟩
abbrev cX8_leaveQueue : ByteArray := prog_10_method_13_code
def yX8_leaveQueue : MethodName := ⟨RX8, "leaveQueue", "(I)V"⟩
abbrev cX8_reject : ByteArray := prog_10_method_14_code
def yX8_reject : MethodName := ⟨RX8, "reject", "(II)V"⟩
abbrev cX8_dropPlan : ByteArray := prog_10_method_15_code
def yX8_dropPlan : MethodName := ⟨RX8, "dropPlan", "()V"⟩
abbrev cX8_endLeases : ByteArray := prog_10_method_16_code
def yX8_endLeases : MethodName := ⟨RX8, "endLeases", "()V"⟩
abbrev cX8_batchFails : ByteArray := prog_10_method_17_code
def yX8_batchFails : MethodName := ⟨RX8, "batchFails", "(I)V"⟩
abbrev cX8_batchPasses : ByteArray := prog_10_method_18_code
def yX8_batchPasses : MethodName := ⟨RX8, "batchPasses", "()V"⟩
abbrev cX8_build : ByteArray := prog_10_method_19_code
def yX8_build : MethodName := ⟨RX8, "build", "()V"⟩
abbrev cX8_buildAll : ByteArray := prog_10_method_20_code
def yX8_buildAll : MethodName := ⟨RX8, "buildAll", "()V"⟩
abbrev cX8_judge : ByteArray := prog_10_method_21_code
def yX8_judge : MethodName := ⟨RX8, "judge", "()V"⟩
abbrev cX8_endLeaseOn : ByteArray := prog_10_method_22_code
def yX8_endLeaseOn : MethodName := ⟨RX8, "endLeaseOn", "(I)V"⟩
abbrev cX8_settle : ByteArray := prog_10_method_23_code
def yX8_settle : MethodName := ⟨RX8, "settle", "(IZ)V"⟩
abbrev cX8_expire : ByteArray := prog_10_method_24_code
def yX8_expire : MethodName := ⟨RX8, "expire", "(I)V"⟩
abbrev cX8_isChange : ByteArray := prog_10_method_25_code
def yX8_isChange : MethodName := ⟨RX8, "isChange", "(I)Z"⟩
abbrev cX8_is : ByteArray := prog_10_method_26_code
def yX8_is : MethodName := ⟨RX8, "is", "(II)Z"⟩
abbrev cX8_noReviews : ByteArray := prog_10_method_27_code
def yX8_noReviews : MethodName := ⟨RX8, "noReviews", "(I)V"⟩
abbrev cX8_doOpen : ByteArray := prog_10_method_28_code
def yX8_doOpen : MethodName := ⟨RX8, "doOpen", "()I"⟩
abbrev cX8_doPush : ByteArray := prog_10_method_29_code
def yX8_doPush : MethodName := ⟨RX8, "doPush", "(III)I"⟩
abbrev cX8_doReview : ByteArray := prog_10_method_30_code
def yX8_doReview : MethodName := ⟨RX8, "doReview", "(III)I"⟩
abbrev cX8_doClose : ByteArray := prog_10_method_31_code
def yX8_doClose : MethodName := ⟨RX8, "doClose", "(I)I"⟩
abbrev cX8_count : ByteArray := prog_10_method_32_code
def yX8_count : MethodName := ⟨RX8, "count", "(II)I"⟩
abbrev cX8_doEnqueue : ByteArray := prog_10_method_33_code
def yX8_doEnqueue : MethodName := ⟨RX8, "doEnqueue", "(I)I"⟩
abbrev cX8_doRebase : ByteArray := prog_10_method_34_code
def yX8_doRebase : MethodName := ⟨RX8, "doRebase", "(I)I"⟩
abbrev cX8_isWorker : ByteArray := prog_10_method_35_code
def yX8_isWorker : MethodName := ⟨RX8, "isWorker", "(I)Z"⟩
abbrev cX8_doClaim : ByteArray := prog_10_method_36_code
def yX8_doClaim : MethodName := ⟨RX8, "doClaim", "(I)I"⟩
abbrev cX8_doReport : ByteArray := prog_10_method_37_code
def yX8_doReport : MethodName := ⟨RX8, "doReport", "(IZ)I"⟩
abbrev cX8_doTick : ByteArray := prog_10_method_38_code
def yX8_doTick : MethodName := ⟨RX8, "doTick", "(I)I"⟩
abbrev cX8_expireAll : ByteArray := prog_10_method_39_code
def yX8_expireAll : MethodName := ⟨RX8, "expireAll", "()V"⟩
abbrev cX8_once : ByteArray := prog_10_method_40_code
def yX8_once : MethodName := ⟨RX8, "once", "(IIII)I"⟩
abbrev cX8_note : ByteArray := prog_10_method_41_code
def yX8_note : MethodName := ⟨RX8, "note", "(IIII)V"⟩
abbrev cX8_event : ByteArray := prog_10_method_42_code
def yX8_event : MethodName := ⟨RX8, "event", "(IIII)I"⟩
abbrev cX8_open : ByteArray := prog_10_method_43_code
def yX8_open : MethodName := ⟨RX8, "open", "()I"⟩
abbrev cX8_push : ByteArray := prog_10_method_44_code
def yX8_push : MethodName := ⟨RX8, "push", "(III)Z"⟩
abbrev cX8_approve : ByteArray := prog_10_method_45_code
def yX8_approve : MethodName := ⟨RX8, "approve", "(II)Z"⟩
abbrev cX8_object : ByteArray := prog_10_method_46_code
def yX8_object : MethodName := ⟨RX8, "object", "(II)Z"⟩
abbrev cX8_close : ByteArray := prog_10_method_47_code
def yX8_close : MethodName := ⟨RX8, "close", "(I)Z"⟩
abbrev cX8_enqueue : ByteArray := prog_10_method_48_code
def yX8_enqueue : MethodName := ⟨RX8, "enqueue", "(I)Z"⟩
abbrev cX8_rebase : ByteArray := prog_10_method_49_code
def yX8_rebase : MethodName := ⟨RX8, "rebase", "(I)Z"⟩
abbrev cX8_claim : ByteArray := prog_10_method_50_code
def yX8_claim : MethodName := ⟨RX8, "claim", "(I)I"⟩
abbrev cX8_report : ByteArray := prog_10_method_51_code
def yX8_report : MethodName := ⟨RX8, "report", "(IZ)Z"⟩
abbrev cX8_tick : ByteArray := prog_10_method_52_code
def yX8_tick : MethodName := ⟨RX8, "tick", "(I)I"⟩
abbrev cX8_flush : ByteArray := prog_10_method_53_code
def yX8_flush : MethodName := ⟨RX8, "flush", "()I"⟩
abbrev cX8_crash : ByteArray := prog_10_method_54_code
def yX8_crash : MethodName := ⟨RX8, "crash", "(I)I"⟩
abbrev cX8_state : ByteArray := prog_10_method_55_code
def yX8_state : MethodName := ⟨RX8, "state", "(I)I"⟩
abbrev cX8_cause : ByteArray := prog_10_method_56_code
def yX8_cause : MethodName := ⟨RX8, "cause", "(I)I"⟩
abbrev cX8_standing : ByteArray := prog_10_method_57_code
def yX8_standing : MethodName := ⟨RX8, "standing", "(I)I"⟩
abbrev cX8_file : ByteArray := prog_10_method_58_code
def yX8_file : MethodName := ⟨RX8, "file", "(II)I"⟩
abbrev cX8_queueAt : ByteArray := prog_10_method_59_code
def yX8_queueAt : MethodName := ⟨RX8, "queueAt", "(I)I"⟩
abbrev cX8_batch : ByteArray := prog_10_method_60_code
def yX8_batch : MethodName := ⟨RX8, "batch", "()I"⟩
abbrev cX8_job : ByteArray := prog_10_method_61_code
def yX8_job : MethodName := ⟨RX8, "job", "(I)I"⟩
abbrev cX8_version : ByteArray := prog_10_method_62_code
def yX8_version : MethodName := ⟨RX8, "version", "()I"⟩
def RJ6 : String := "java/lang/Integer"
def TJ6 : u_T := fun k => match k with
  | _ => ("", "", "", false)
def tyJ6 : Nat → FieldType := fun k => match k with
  | _ => .int
abbrev wsJ60 : List Cond := u_ws RJ6 TJ6 0
theorem nmJ6 : ∀ a, a < 0 → ∀ b, b < 0 → a ≠ b → (TJ6 a).2.1 ≠ (TJ6 b).2.1 := by decide +kernel
theorem tyJ6_ok : ∀ k, k < 0 → parseFieldDescriptor (TJ6 k).2.2.1 = some (tyJ6 k) := by decide +kernel
abbrev cJ6_bitCount_0f7a4 : ByteArray := prog_11_method_49_code
def yJ6_bitCount_0f7a4 : MethodName := ⟨RJ6, "bitCount", "(I)I"⟩
def RJ9 : String := "java/lang/Math"
def TJ9 : u_T := fun k => match k with
  | _ => ("", "", "", false)
def tyJ9 : Nat → FieldType := fun k => match k with
  | _ => .int
abbrev wsJ90 : List Cond := u_ws RJ9 TJ9 0
theorem nmJ9 : ∀ a, a < 0 → ∀ b, b < 0 → a ≠ b → (TJ9 a).2.1 ≠ (TJ9 b).2.1 := by decide +kernel
theorem tyJ9_ok : ∀ k, k < 0 → parseFieldDescriptor (TJ9 k).2.2.1 = some (tyJ9 k) := by decide +kernel
abbrev cJ9_max_7cf53 : ByteArray := prog_12_method_65_code
def yJ9_max_7cf53 : MethodName := ⟨RJ9, "max", "(II)I"⟩
abbrev cJ9_min_7cf53 : ByteArray := prog_12_method_69_code
def yJ9_min_7cf53 : MethodName := ⟨RJ9, "min", "(II)I"⟩
def RJ10 : String := "java/lang/System"
def TJ10 : u_T := fun k => match k with
  | _ => ("", "", "", false)
def tyJ10 : Nat → FieldType := fun k => match k with
  | _ => .int
abbrev wsJ100 : List Cond := u_ws RJ10 TJ10 0
theorem nmJ10 : ∀ a, a < 0 → ∀ b, b < 0 → a ≠ b → (TJ10 a).2.1 ≠ (TJ10 b).2.1 := by decide +kernel
theorem tyJ10_ok : ∀ k, k < 0 → parseFieldDescriptor (TJ10 k).2.2.1 = some (tyJ10 k) := by decide +kernel
def RL : String := "GatedTrunkLaw"
abbrev cL_cell : ByteArray := method_2_code
def yL_cell : MethodName := ⟨RL, "cell", "([II)I"⟩
abbrev cL_law : ByteArray := code
def yL_law : MethodName := ⟨RL, "law", "([I)Z"⟩
abbrev vwCl : List vw_C := [(RX0, TX0, 5), (RX1, TX1, 6), (RX2, TX2, 4), (RX4, TX4, 2), (RX5, TX5, 4), (RX6, TX6, 9), (RX7, TX7, 4), (RX8, TX8, 30)]
/-- the words of the tables that a contract may carry -/
def TBL : List Cond := lw_tbl.filter goodWord
