section
-- ===== PART A: goes FIRST, ahead of the names: the tables' words, and 'selects' of the private methods out of them =====
/-- a private method of a class that the tables say can be made, by its rows of tables_1 -/
def lw_okq (q : MethodName × Nat) : Prop := (q.1.cls ≠ "java/lang/invoke/MethodHandle" ∧ q.1.cls ≠ "java/lang/invoke/VarHandle") ∧ Cond.instantiable q.1.cls q.2 ∈ tables_1 ∧ Cond.privateMethod q.1 ∈ tables_1 ∧ Cond.instanceMethod q.1 ∈ tables_1
theorem lw_p0 : lw_okq (⟨"GatedTrunk", "logged", "(IIII)LGatedTrunk$Event;"⟩, 4) := ⟨⟨by decide +kernel, by decide +kernel⟩, List.mem_of_getElem? (i := 14) (by decide +kernel), List.mem_of_getElem? (i := 209) (by decide +kernel), List.mem_of_getElem? (i := 210) (by decide +kernel)⟩
theorem lw_p1 : lw_okq (⟨"GatedTrunk", "keepLiveState", "()V"⟩, 4) := ⟨⟨by decide +kernel, by decide +kernel⟩, List.mem_of_getElem? (i := 14) (by decide +kernel), List.mem_of_getElem? (i := 213) (by decide +kernel), List.mem_of_getElem? (i := 214) (by decide +kernel)⟩
theorem lw_p2 : lw_okq (⟨"GatedTrunk$State", "addChange", "()I"⟩, 9) := ⟨⟨by decide +kernel, by decide +kernel⟩, List.mem_of_getElem? (i := 54) (by decide +kernel), List.mem_of_getElem? (i := 246) (by decide +kernel), List.mem_of_getElem? (i := 247) (by decide +kernel)⟩
theorem lw_p3 : lw_okq (⟨"GatedTrunk$State", "leaseNextJob", "(I)I"⟩, 9) := ⟨⟨by decide +kernel, by decide +kernel⟩, List.mem_of_getElem? (i := 54) (by decide +kernel), List.mem_of_getElem? (i := 287) (by decide +kernel), List.mem_of_getElem? (i := 288) (by decide +kernel)⟩
theorem lw_p4 : lw_okq (⟨"GatedTrunk$Batch", "passedJobs", "()I"⟩, 5) := ⟨⟨by decide +kernel, by decide +kernel⟩, List.mem_of_getElem? (i := 77) (by decide +kernel), List.mem_of_getElem? (i := 302) (by decide +kernel), List.mem_of_getElem? (i := 303) (by decide +kernel)⟩
theorem lw_p5 : lw_okq (⟨"GatedTrunk$State", "endJob", "(II)V"⟩, 9) := ⟨⟨by decide +kernel, by decide +kernel⟩, List.mem_of_getElem? (i := 54) (by decide +kernel), List.mem_of_getElem? (i := 317) (by decide +kernel), List.mem_of_getElem? (i := 318) (by decide +kernel)⟩
theorem lw_p6 : lw_okq (⟨"GatedTrunk$State", "judgeBatch", "()V"⟩, 9) := ⟨⟨by decide +kernel, by decide +kernel⟩, List.mem_of_getElem? (i := 54) (by decide +kernel), List.mem_of_getElem? (i := 332) (by decide +kernel), List.mem_of_getElem? (i := 333) (by decide +kernel)⟩
theorem lw_p7 : lw_okq (⟨"GatedTrunk$State", "failBatch", "(II)V"⟩, 9) := ⟨⟨by decide +kernel, by decide +kernel⟩, List.mem_of_getElem? (i := 54) (by decide +kernel), List.mem_of_getElem? (i := 343) (by decide +kernel), List.mem_of_getElem? (i := 344) (by decide +kernel)⟩
theorem lw_p8 : lw_okq (⟨"GatedTrunk$State", "takeFromQueue", "(III)V"⟩, 9) := ⟨⟨by decide +kernel, by decide +kernel⟩, List.mem_of_getElem? (i := 54) (by decide +kernel), List.mem_of_getElem? (i := 351) (by decide +kernel), List.mem_of_getElem? (i := 352) (by decide +kernel)⟩
theorem lw_p9 : lw_okq (⟨"GatedTrunk$State", "passBatch", "()V"⟩, 9) := ⟨⟨by decide +kernel, by decide +kernel⟩, List.mem_of_getElem? (i := 54) (by decide +kernel), List.mem_of_getElem? (i := 377) (by decide +kernel), List.mem_of_getElem? (i := 378) (by decide +kernel)⟩
theorem lw_p10 : lw_okq (⟨"GatedTrunk$State", "expireLeases", "(Z)I"⟩, 9) := ⟨⟨by decide +kernel, by decide +kernel⟩, List.mem_of_getElem? (i := 54) (by decide +kernel), List.mem_of_getElem? (i := 381) (by decide +kernel), List.mem_of_getElem? (i := 382) (by decide +kernel)⟩
theorem lw_p11 : lw_okq (⟨"GatedTrunk$State", "buildBatches", "()V"⟩, 9) := ⟨⟨by decide +kernel, by decide +kernel⟩, List.mem_of_getElem? (i := 54) (by decide +kernel), List.mem_of_getElem? (i := 390) (by decide +kernel), List.mem_of_getElem? (i := 391) (by decide +kernel)⟩
theorem lw_p12 : lw_okq (⟨"GatedTrunk$State", "buildBatch", "()V"⟩, 9) := ⟨⟨by decide +kernel, by decide +kernel⟩, List.mem_of_getElem? (i := 54) (by decide +kernel), List.mem_of_getElem? (i := 399) (by decide +kernel), List.mem_of_getElem? (i := 400) (by decide +kernel)⟩
theorem lw_p13 : lw_okq (⟨"GatedTrunk$State", "mergeFirst", "(I)I"⟩, 9) := ⟨⟨by decide +kernel, by decide +kernel⟩, List.mem_of_getElem? (i := 54) (by decide +kernel), List.mem_of_getElem? (i := 404) (by decide +kernel), List.mem_of_getElem? (i := 405) (by decide +kernel)⟩
theorem lw_p14 : lw_okq (⟨"GatedTrunkModel", "begin", "()V"⟩, 30) := ⟨⟨by decide +kernel, by decide +kernel⟩, List.mem_of_getElem? (i := 559) (by decide +kernel), List.mem_of_getElem? (i := 568) (by decide +kernel), List.mem_of_getElem? (i := 569) (by decide +kernel)⟩
theorem lw_p15 : lw_okq (⟨"GatedTrunkModel", "event", "(IIII)I"⟩, 30) := ⟨⟨by decide +kernel, by decide +kernel⟩, List.mem_of_getElem? (i := 559) (by decide +kernel), List.mem_of_getElem? (i := 668) (by decide +kernel), List.mem_of_getElem? (i := 669) (by decide +kernel)⟩
def lw_privs_1 : List (MethodName × Nat) := [(⟨"GatedTrunk", "logged", "(IIII)LGatedTrunk$Event;"⟩, 4), (⟨"GatedTrunk", "keepLiveState", "()V"⟩, 4), (⟨"GatedTrunk$State", "addChange", "()I"⟩, 9), (⟨"GatedTrunk$State", "leaseNextJob", "(I)I"⟩, 9), (⟨"GatedTrunk$Batch", "passedJobs", "()I"⟩, 5), (⟨"GatedTrunk$State", "endJob", "(II)V"⟩, 9), (⟨"GatedTrunk$State", "judgeBatch", "()V"⟩, 9), (⟨"GatedTrunk$State", "failBatch", "(II)V"⟩, 9), (⟨"GatedTrunk$State", "takeFromQueue", "(III)V"⟩, 9), (⟨"GatedTrunk$State", "passBatch", "()V"⟩, 9), (⟨"GatedTrunk$State", "expireLeases", "(Z)I"⟩, 9), (⟨"GatedTrunk$State", "buildBatches", "()V"⟩, 9), (⟨"GatedTrunk$State", "buildBatch", "()V"⟩, 9), (⟨"GatedTrunk$State", "mergeFirst", "(I)I"⟩, 9), (⟨"GatedTrunkModel", "begin", "()V"⟩, 30), (⟨"GatedTrunkModel", "event", "(IIII)I"⟩, 30)]
theorem lw_r1 : ∀ q ∈ lw_privs_1, lw_okq q := List.forall_mem_cons.mpr ⟨lw_p0, List.forall_mem_cons.mpr ⟨lw_p1, List.forall_mem_cons.mpr ⟨lw_p2, List.forall_mem_cons.mpr ⟨lw_p3, List.forall_mem_cons.mpr ⟨lw_p4, List.forall_mem_cons.mpr ⟨lw_p5, List.forall_mem_cons.mpr ⟨lw_p6, List.forall_mem_cons.mpr ⟨lw_p7, List.forall_mem_cons.mpr ⟨lw_p8, List.forall_mem_cons.mpr ⟨lw_p9, List.forall_mem_cons.mpr ⟨lw_p10, List.forall_mem_cons.mpr ⟨lw_p11, List.forall_mem_cons.mpr ⟨lw_p12, List.forall_mem_cons.mpr ⟨lw_p13, List.forall_mem_cons.mpr ⟨lw_p14, List.forall_mem_cons.mpr ⟨lw_p15, fun _ h => absurd h List.not_mem_nil⟩⟩⟩⟩⟩⟩⟩⟩⟩⟩⟩⟩⟩⟩⟩⟩
theorem lw_p16 : lw_okq (⟨"GatedTrunkModel", "once", "(IIII)I"⟩, 30) := ⟨⟨by decide +kernel, by decide +kernel⟩, List.mem_of_getElem? (i := 559) (by decide +kernel), List.mem_of_getElem? (i := 672) (by decide +kernel), List.mem_of_getElem? (i := 673) (by decide +kernel)⟩
theorem lw_p17 : lw_okq (⟨"GatedTrunkModel", "doOpen", "()I"⟩, 30) := ⟨⟨by decide +kernel, by decide +kernel⟩, List.mem_of_getElem? (i := 559) (by decide +kernel), List.mem_of_getElem? (i := 676) (by decide +kernel), List.mem_of_getElem? (i := 677) (by decide +kernel)⟩
theorem lw_p18 : lw_okq (⟨"GatedTrunkModel", "noReviews", "(I)V"⟩, 30) := ⟨⟨by decide +kernel, by decide +kernel⟩, List.mem_of_getElem? (i := 559) (by decide +kernel), List.mem_of_getElem? (i := 680) (by decide +kernel), List.mem_of_getElem? (i := 681) (by decide +kernel)⟩
theorem lw_p19 : lw_okq (⟨"GatedTrunkModel", "doPush", "(III)I"⟩, 30) := ⟨⟨by decide +kernel, by decide +kernel⟩, List.mem_of_getElem? (i := 559) (by decide +kernel), List.mem_of_getElem? (i := 684) (by decide +kernel), List.mem_of_getElem? (i := 685) (by decide +kernel)⟩
theorem lw_p20 : lw_okq (⟨"GatedTrunkModel", "is", "(II)Z"⟩, 30) := ⟨⟨by decide +kernel, by decide +kernel⟩, List.mem_of_getElem? (i := 559) (by decide +kernel), List.mem_of_getElem? (i := 688) (by decide +kernel), List.mem_of_getElem? (i := 689) (by decide +kernel)⟩
theorem lw_p21 : lw_okq (⟨"GatedTrunkModel", "isChange", "(I)Z"⟩, 30) := ⟨⟨by decide +kernel, by decide +kernel⟩, List.mem_of_getElem? (i := 559) (by decide +kernel), List.mem_of_getElem? (i := 692) (by decide +kernel), List.mem_of_getElem? (i := 693) (by decide +kernel)⟩
theorem lw_p22 : lw_okq (⟨"GatedTrunkModel", "doReview", "(III)I"⟩, 30) := ⟨⟨by decide +kernel, by decide +kernel⟩, List.mem_of_getElem? (i := 559) (by decide +kernel), List.mem_of_getElem? (i := 696) (by decide +kernel), List.mem_of_getElem? (i := 697) (by decide +kernel)⟩
theorem lw_p23 : lw_okq (⟨"GatedTrunkModel", "doClose", "(I)I"⟩, 30) := ⟨⟨by decide +kernel, by decide +kernel⟩, List.mem_of_getElem? (i := 559) (by decide +kernel), List.mem_of_getElem? (i := 700) (by decide +kernel), List.mem_of_getElem? (i := 701) (by decide +kernel)⟩
theorem lw_p24 : lw_okq (⟨"GatedTrunkModel", "doEnqueue", "(I)I"⟩, 30) := ⟨⟨by decide +kernel, by decide +kernel⟩, List.mem_of_getElem? (i := 559) (by decide +kernel), List.mem_of_getElem? (i := 704) (by decide +kernel), List.mem_of_getElem? (i := 705) (by decide +kernel)⟩
theorem lw_p25 : lw_okq (⟨"GatedTrunkModel", "count", "(II)I"⟩, 30) := ⟨⟨by decide +kernel, by decide +kernel⟩, List.mem_of_getElem? (i := 559) (by decide +kernel), List.mem_of_getElem? (i := 708) (by decide +kernel), List.mem_of_getElem? (i := 709) (by decide +kernel)⟩
theorem lw_p26 : lw_okq (⟨"GatedTrunkModel", "doRebase", "(I)I"⟩, 30) := ⟨⟨by decide +kernel, by decide +kernel⟩, List.mem_of_getElem? (i := 559) (by decide +kernel), List.mem_of_getElem? (i := 712) (by decide +kernel), List.mem_of_getElem? (i := 713) (by decide +kernel)⟩
theorem lw_p27 : lw_okq (⟨"GatedTrunkModel", "startTree", "()V"⟩, 30) := ⟨⟨by decide +kernel, by decide +kernel⟩, List.mem_of_getElem? (i := 559) (by decide +kernel), List.mem_of_getElem? (i := 716) (by decide +kernel), List.mem_of_getElem? (i := 717) (by decide +kernel)⟩
theorem lw_p28 : lw_okq (⟨"GatedTrunkModel", "conflicts", "(I)Z"⟩, 30) := ⟨⟨by decide +kernel, by decide +kernel⟩, List.mem_of_getElem? (i := 559) (by decide +kernel), List.mem_of_getElem? (i := 720) (by decide +kernel), List.mem_of_getElem? (i := 721) (by decide +kernel)⟩
theorem lw_p29 : lw_okq (⟨"GatedTrunkModel", "doClaim", "(I)I"⟩, 30) := ⟨⟨by decide +kernel, by decide +kernel⟩, List.mem_of_getElem? (i := 559) (by decide +kernel), List.mem_of_getElem? (i := 724) (by decide +kernel), List.mem_of_getElem? (i := 725) (by decide +kernel)⟩
theorem lw_p30 : lw_okq (⟨"GatedTrunkModel", "isWorker", "(I)Z"⟩, 30) := ⟨⟨by decide +kernel, by decide +kernel⟩, List.mem_of_getElem? (i := 559) (by decide +kernel), List.mem_of_getElem? (i := 728) (by decide +kernel), List.mem_of_getElem? (i := 729) (by decide +kernel)⟩
theorem lw_p31 : lw_okq (⟨"GatedTrunkModel", "batchTree", "()V"⟩, 30) := ⟨⟨by decide +kernel, by decide +kernel⟩, List.mem_of_getElem? (i := 559) (by decide +kernel), List.mem_of_getElem? (i := 732) (by decide +kernel), List.mem_of_getElem? (i := 733) (by decide +kernel)⟩
def lw_privs_2 : List (MethodName × Nat) := [(⟨"GatedTrunkModel", "once", "(IIII)I"⟩, 30), (⟨"GatedTrunkModel", "doOpen", "()I"⟩, 30), (⟨"GatedTrunkModel", "noReviews", "(I)V"⟩, 30), (⟨"GatedTrunkModel", "doPush", "(III)I"⟩, 30), (⟨"GatedTrunkModel", "is", "(II)Z"⟩, 30), (⟨"GatedTrunkModel", "isChange", "(I)Z"⟩, 30), (⟨"GatedTrunkModel", "doReview", "(III)I"⟩, 30), (⟨"GatedTrunkModel", "doClose", "(I)I"⟩, 30), (⟨"GatedTrunkModel", "doEnqueue", "(I)I"⟩, 30), (⟨"GatedTrunkModel", "count", "(II)I"⟩, 30), (⟨"GatedTrunkModel", "doRebase", "(I)I"⟩, 30), (⟨"GatedTrunkModel", "startTree", "()V"⟩, 30), (⟨"GatedTrunkModel", "conflicts", "(I)Z"⟩, 30), (⟨"GatedTrunkModel", "doClaim", "(I)I"⟩, 30), (⟨"GatedTrunkModel", "isWorker", "(I)Z"⟩, 30), (⟨"GatedTrunkModel", "batchTree", "()V"⟩, 30)]
theorem lw_r2 : ∀ q ∈ lw_privs_2, lw_okq q := List.forall_mem_cons.mpr ⟨lw_p16, List.forall_mem_cons.mpr ⟨lw_p17, List.forall_mem_cons.mpr ⟨lw_p18, List.forall_mem_cons.mpr ⟨lw_p19, List.forall_mem_cons.mpr ⟨lw_p20, List.forall_mem_cons.mpr ⟨lw_p21, List.forall_mem_cons.mpr ⟨lw_p22, List.forall_mem_cons.mpr ⟨lw_p23, List.forall_mem_cons.mpr ⟨lw_p24, List.forall_mem_cons.mpr ⟨lw_p25, List.forall_mem_cons.mpr ⟨lw_p26, List.forall_mem_cons.mpr ⟨lw_p27, List.forall_mem_cons.mpr ⟨lw_p28, List.forall_mem_cons.mpr ⟨lw_p29, List.forall_mem_cons.mpr ⟨lw_p30, List.forall_mem_cons.mpr ⟨lw_p31, fun _ h => absurd h List.not_mem_nil⟩⟩⟩⟩⟩⟩⟩⟩⟩⟩⟩⟩⟩⟩⟩⟩
theorem lw_p32 : lw_okq (⟨"GatedTrunkModel", "needs", "(II)Z"⟩, 30) := ⟨⟨by decide +kernel, by decide +kernel⟩, List.mem_of_getElem? (i := 559) (by decide +kernel), List.mem_of_getElem? (i := 736) (by decide +kernel), List.mem_of_getElem? (i := 737) (by decide +kernel)⟩
theorem lw_p33 : lw_okq (⟨"GatedTrunkModel", "bit", "(I)Z"⟩, 30) := ⟨⟨by decide +kernel, by decide +kernel⟩, List.mem_of_getElem? (i := 559) (by decide +kernel), List.mem_of_getElem? (i := 740) (by decide +kernel), List.mem_of_getElem? (i := 741) (by decide +kernel)⟩
theorem lw_p34 : lw_okq (⟨"GatedTrunkModel", "doReport", "(IZ)I"⟩, 30) := ⟨⟨by decide +kernel, by decide +kernel⟩, List.mem_of_getElem? (i := 559) (by decide +kernel), List.mem_of_getElem? (i := 744) (by decide +kernel), List.mem_of_getElem? (i := 745) (by decide +kernel)⟩
theorem lw_p35 : lw_okq (⟨"GatedTrunkModel", "settle", "(IZ)V"⟩, 30) := ⟨⟨by decide +kernel, by decide +kernel⟩, List.mem_of_getElem? (i := 559) (by decide +kernel), List.mem_of_getElem? (i := 748) (by decide +kernel), List.mem_of_getElem? (i := 749) (by decide +kernel)⟩
theorem lw_p36 : lw_okq (⟨"GatedTrunkModel", "close4", "()V"⟩, 30) := ⟨⟨by decide +kernel, by decide +kernel⟩, List.mem_of_getElem? (i := 559) (by decide +kernel), List.mem_of_getElem? (i := 752) (by decide +kernel), List.mem_of_getElem? (i := 753) (by decide +kernel)⟩
theorem lw_p37 : lw_okq (⟨"GatedTrunkModel", "endLeaseOn", "(I)V"⟩, 30) := ⟨⟨by decide +kernel, by decide +kernel⟩, List.mem_of_getElem? (i := 559) (by decide +kernel), List.mem_of_getElem? (i := 756) (by decide +kernel), List.mem_of_getElem? (i := 757) (by decide +kernel)⟩
theorem lw_p38 : lw_okq (⟨"GatedTrunkModel", "judge", "()V"⟩, 30) := ⟨⟨by decide +kernel, by decide +kernel⟩, List.mem_of_getElem? (i := 559) (by decide +kernel), List.mem_of_getElem? (i := 760) (by decide +kernel), List.mem_of_getElem? (i := 761) (by decide +kernel)⟩
theorem lw_p39 : lw_okq (⟨"GatedTrunkModel", "required", "(I)Z"⟩, 30) := ⟨⟨by decide +kernel, by decide +kernel⟩, List.mem_of_getElem? (i := 559) (by decide +kernel), List.mem_of_getElem? (i := 764) (by decide +kernel), List.mem_of_getElem? (i := 765) (by decide +kernel)⟩
theorem lw_p40 : lw_okq (⟨"GatedTrunkModel", "batchFails", "(I)V"⟩, 30) := ⟨⟨by decide +kernel, by decide +kernel⟩, List.mem_of_getElem? (i := 559) (by decide +kernel), List.mem_of_getElem? (i := 768) (by decide +kernel), List.mem_of_getElem? (i := 769) (by decide +kernel)⟩
theorem lw_p41 : lw_okq (⟨"GatedTrunkModel", "endLeases", "()V"⟩, 30) := ⟨⟨by decide +kernel, by decide +kernel⟩, List.mem_of_getElem? (i := 559) (by decide +kernel), List.mem_of_getElem? (i := 772) (by decide +kernel), List.mem_of_getElem? (i := 773) (by decide +kernel)⟩
theorem lw_p42 : lw_okq (⟨"GatedTrunkModel", "reject", "(II)V"⟩, 30) := ⟨⟨by decide +kernel, by decide +kernel⟩, List.mem_of_getElem? (i := 559) (by decide +kernel), List.mem_of_getElem? (i := 776) (by decide +kernel), List.mem_of_getElem? (i := 777) (by decide +kernel)⟩
theorem lw_p43 : lw_okq (⟨"GatedTrunkModel", "leaveQueue", "(I)V"⟩, 30) := ⟨⟨by decide +kernel, by decide +kernel⟩, List.mem_of_getElem? (i := 559) (by decide +kernel), List.mem_of_getElem? (i := 780) (by decide +kernel), List.mem_of_getElem? (i := 781) (by decide +kernel)⟩
theorem lw_p44 : lw_okq (⟨"GatedTrunkModel", "dropPlan", "()V"⟩, 30) := ⟨⟨by decide +kernel, by decide +kernel⟩, List.mem_of_getElem? (i := 559) (by decide +kernel), List.mem_of_getElem? (i := 784) (by decide +kernel), List.mem_of_getElem? (i := 785) (by decide +kernel)⟩
theorem lw_p45 : lw_okq (⟨"GatedTrunkModel", "batchPasses", "()V"⟩, 30) := ⟨⟨by decide +kernel, by decide +kernel⟩, List.mem_of_getElem? (i := 559) (by decide +kernel), List.mem_of_getElem? (i := 788) (by decide +kernel), List.mem_of_getElem? (i := 789) (by decide +kernel)⟩
theorem lw_p46 : lw_okq (⟨"GatedTrunkModel", "doTick", "(I)I"⟩, 30) := ⟨⟨by decide +kernel, by decide +kernel⟩, List.mem_of_getElem? (i := 559) (by decide +kernel), List.mem_of_getElem? (i := 792) (by decide +kernel), List.mem_of_getElem? (i := 793) (by decide +kernel)⟩
theorem lw_p47 : lw_okq (⟨"GatedTrunkModel", "expire", "(I)V"⟩, 30) := ⟨⟨by decide +kernel, by decide +kernel⟩, List.mem_of_getElem? (i := 559) (by decide +kernel), List.mem_of_getElem? (i := 796) (by decide +kernel), List.mem_of_getElem? (i := 797) (by decide +kernel)⟩
def lw_privs_3 : List (MethodName × Nat) := [(⟨"GatedTrunkModel", "needs", "(II)Z"⟩, 30), (⟨"GatedTrunkModel", "bit", "(I)Z"⟩, 30), (⟨"GatedTrunkModel", "doReport", "(IZ)I"⟩, 30), (⟨"GatedTrunkModel", "settle", "(IZ)V"⟩, 30), (⟨"GatedTrunkModel", "close4", "()V"⟩, 30), (⟨"GatedTrunkModel", "endLeaseOn", "(I)V"⟩, 30), (⟨"GatedTrunkModel", "judge", "()V"⟩, 30), (⟨"GatedTrunkModel", "required", "(I)Z"⟩, 30), (⟨"GatedTrunkModel", "batchFails", "(I)V"⟩, 30), (⟨"GatedTrunkModel", "endLeases", "()V"⟩, 30), (⟨"GatedTrunkModel", "reject", "(II)V"⟩, 30), (⟨"GatedTrunkModel", "leaveQueue", "(I)V"⟩, 30), (⟨"GatedTrunkModel", "dropPlan", "()V"⟩, 30), (⟨"GatedTrunkModel", "batchPasses", "()V"⟩, 30), (⟨"GatedTrunkModel", "doTick", "(I)I"⟩, 30), (⟨"GatedTrunkModel", "expire", "(I)V"⟩, 30)]
theorem lw_r3 : ∀ q ∈ lw_privs_3, lw_okq q := List.forall_mem_cons.mpr ⟨lw_p32, List.forall_mem_cons.mpr ⟨lw_p33, List.forall_mem_cons.mpr ⟨lw_p34, List.forall_mem_cons.mpr ⟨lw_p35, List.forall_mem_cons.mpr ⟨lw_p36, List.forall_mem_cons.mpr ⟨lw_p37, List.forall_mem_cons.mpr ⟨lw_p38, List.forall_mem_cons.mpr ⟨lw_p39, List.forall_mem_cons.mpr ⟨lw_p40, List.forall_mem_cons.mpr ⟨lw_p41, List.forall_mem_cons.mpr ⟨lw_p42, List.forall_mem_cons.mpr ⟨lw_p43, List.forall_mem_cons.mpr ⟨lw_p44, List.forall_mem_cons.mpr ⟨lw_p45, List.forall_mem_cons.mpr ⟨lw_p46, List.forall_mem_cons.mpr ⟨lw_p47, fun _ h => absurd h List.not_mem_nil⟩⟩⟩⟩⟩⟩⟩⟩⟩⟩⟩⟩⟩⟩⟩⟩
theorem lw_p48 : lw_okq (⟨"GatedTrunkModel", "buildAll", "()V"⟩, 30) := ⟨⟨by decide +kernel, by decide +kernel⟩, List.mem_of_getElem? (i := 559) (by decide +kernel), List.mem_of_getElem? (i := 800) (by decide +kernel), List.mem_of_getElem? (i := 801) (by decide +kernel)⟩
theorem lw_p49 : lw_okq (⟨"GatedTrunkModel", "build", "()V"⟩, 30) := ⟨⟨by decide +kernel, by decide +kernel⟩, List.mem_of_getElem? (i := 559) (by decide +kernel), List.mem_of_getElem? (i := 804) (by decide +kernel), List.mem_of_getElem? (i := 805) (by decide +kernel)⟩
theorem lw_p50 : lw_okq (⟨"GatedTrunkModel", "valid", "()Z"⟩, 30) := ⟨⟨by decide +kernel, by decide +kernel⟩, List.mem_of_getElem? (i := 559) (by decide +kernel), List.mem_of_getElem? (i := 808) (by decide +kernel), List.mem_of_getElem? (i := 809) (by decide +kernel)⟩
theorem lw_p51 : lw_okq (⟨"GatedTrunkModel", "there", "(I)Z"⟩, 30) := ⟨⟨by decide +kernel, by decide +kernel⟩, List.mem_of_getElem? (i := 559) (by decide +kernel), List.mem_of_getElem? (i := 812) (by decide +kernel), List.mem_of_getElem? (i := 813) (by decide +kernel)⟩
theorem lw_p52 : lw_okq (⟨"GatedTrunkModel", "expireAll", "()V"⟩, 30) := ⟨⟨by decide +kernel, by decide +kernel⟩, List.mem_of_getElem? (i := 559) (by decide +kernel), List.mem_of_getElem? (i := 816) (by decide +kernel), List.mem_of_getElem? (i := 817) (by decide +kernel)⟩
theorem lw_p53 : lw_okq (⟨"GatedTrunkModel", "note", "(IIII)V"⟩, 30) := ⟨⟨by decide +kernel, by decide +kernel⟩, List.mem_of_getElem? (i := 559) (by decide +kernel), List.mem_of_getElem? (i := 820) (by decide +kernel), List.mem_of_getElem? (i := 821) (by decide +kernel)⟩
def lw_privs_4 : List (MethodName × Nat) := [(⟨"GatedTrunkModel", "buildAll", "()V"⟩, 30), (⟨"GatedTrunkModel", "build", "()V"⟩, 30), (⟨"GatedTrunkModel", "valid", "()Z"⟩, 30), (⟨"GatedTrunkModel", "there", "(I)Z"⟩, 30), (⟨"GatedTrunkModel", "expireAll", "()V"⟩, 30), (⟨"GatedTrunkModel", "note", "(IIII)V"⟩, 30)]
theorem lw_r4 : ∀ q ∈ lw_privs_4, lw_okq q := List.forall_mem_cons.mpr ⟨lw_p48, List.forall_mem_cons.mpr ⟨lw_p49, List.forall_mem_cons.mpr ⟨lw_p50, List.forall_mem_cons.mpr ⟨lw_p51, List.forall_mem_cons.mpr ⟨lw_p52, List.forall_mem_cons.mpr ⟨lw_p53, fun _ h => absurd h List.not_mem_nil⟩⟩⟩⟩⟩⟩
def lw_privs : List (MethodName × Nat) := lw_privs_1 ++ (lw_privs_2 ++ (lw_privs_3 ++ (lw_privs_4)))
def lw_tbl : List Cond := k2_sels lw_privs ++ tables_1
theorem lw_privs_ok : ∀ q ∈ lw_privs, lw_okq q := by
  show ∀ q ∈ lw_privs_1 ++ (lw_privs_2 ++ (lw_privs_3 ++ (lw_privs_4))), lw_okq q
  exact List.forall_mem_append.mpr ⟨lw_r1, List.forall_mem_append.mpr ⟨lw_r2, List.forall_mem_append.mpr ⟨lw_r3, lw_r4⟩⟩⟩
def RX0 : String := "GatedTrunk$Batch"
def TX0 : u_T := fun k => match k with
  | 0 => ("GatedTrunk$Batch", "tree", "[I", true)
  | 1 => ("GatedTrunk$Batch", "members", "I", false)
  | 2 => ("GatedTrunk$Batch", "jobs", "[I", true)
  | 3 => ("GatedTrunk$Batch", "attempts", "[I", true)
  | _ => ("GatedTrunk$Batch", "leaseEnds", "[I", true)
def tyX0 : Nat → FieldType := fun k => match k with
  | 0 => .array .int
  | 1 => .int
  | 2 => .array .int
  | 3 => .array .int
  | _ => .array .int
abbrev wsX00 : List Cond := u_ws RX0 TX0 5
theorem nmX0 : ∀ a, a < 5 → ∀ b, b < 5 → a ≠ b → (TX0 a).2.1 ≠ (TX0 b).2.1 := by decide +kernel
theorem tyX0_ok : ∀ k, k < 5 → parseFieldDescriptor (TX0 k).2.2.1 = some (tyX0 k) := by decide +kernel
abbrev cX0_init : ByteArray := prog_2_method_1_code
def yX0_init : MethodName := ⟨RX0, "<init>", "()V"⟩
abbrev cX0_copyFrom : ByteArray := prog_2_method_2_code
def yX0_copyFrom : MethodName := ⟨RX0, "copyFrom", "(LGatedTrunk$Batch;)V"⟩
abbrev cX0_isUnderTest : ByteArray := prog_2_method_3_code
def yX0_isUnderTest : MethodName := ⟨RX0, "isUnderTest", "()Z"⟩
abbrev cX0_pipeline : ByteArray := prog_2_method_4_code
def yX0_pipeline : MethodName := ⟨RX0, "pipeline", "()I"⟩
abbrev cX0_start : ByteArray := prog_2_method_5_code
def yX0_start : MethodName := ⟨RX0, "start", "(I)V"⟩
abbrev cX0_end : ByteArray := prog_2_method_6_code
def yX0_end : MethodName := ⟨RX0, "end", "()V"⟩
abbrev cX0_leasedJob : ByteArray := prog_2_method_7_code
def yX0_leasedJob : MethodName := ⟨RX0, "leasedJob", "(I)I"⟩
abbrev cX0_nextJob : ByteArray := prog_2_method_8_code
def yX0_nextJob : MethodName := ⟨RX0, "nextJob", "()I"⟩
abbrev cX0_lease : ByteArray := prog_2_method_9_code
def yX0_lease : MethodName := ⟨RX0, "lease", "(III)V"⟩
abbrev cX0_expireLease : ByteArray := prog_2_method_10_code
def yX0_expireLease : MethodName := ⟨RX0, "expireLease", "(II)V"⟩
abbrev cX0_failJob : ByteArray := prog_2_method_11_code
def yX0_failJob : MethodName := ⟨RX0, "failJob", "(I)V"⟩
abbrev cX0_firstFailedRequired : ByteArray := prog_2_method_12_code
def yX0_firstFailedRequired : MethodName := ⟨RX0, "firstFailedRequired", "()I"⟩
abbrev cX0_hasPassedRequired : ByteArray := prog_2_method_13_code
def yX0_hasPassedRequired : MethodName := ⟨RX0, "hasPassedRequired", "()Z"⟩
abbrev cX0_passedJobs : ByteArray := prog_2_method_14_code
def yX0_passedJobs : MethodName := ⟨RX0, "passedJobs", "()I"⟩
def RX1 : String := "GatedTrunk$Change"
def TX1 : u_T := fun k => match k with
  | 0 => ("GatedTrunk$Change", "base", "[I", true)
  | 1 => ("GatedTrunk$Change", "own", "[I", true)
  | 2 => ("GatedTrunk$Change", "condition", "I", false)
  | 3 => ("GatedTrunk$Change", "rejection", "I", false)
  | 4 => ("GatedTrunk$Change", "standFor", "I", false)
  | _ => ("GatedTrunk$Change", "standAgainst", "I", false)
def tyX1 : Nat → FieldType := fun k => match k with
  | 0 => .array .int
  | 1 => .array .int
  | 2 => .int
  | 3 => .int
  | 4 => .int
  | _ => .int
abbrev wsX10 : List Cond := u_ws RX1 TX1 6
theorem nmX1 : ∀ a, a < 6 → ∀ b, b < 6 → a ≠ b → (TX1 a).2.1 ≠ (TX1 b).2.1 := by decide +kernel
theorem tyX1_ok : ∀ k, k < 6 → parseFieldDescriptor (TX1 k).2.2.1 = some (tyX1 k) := by decide +kernel
abbrev cX1_init : ByteArray := prog_3_method_1_code
def yX1_init : MethodName := ⟨RX1, "<init>", "()V"⟩
abbrev cX1_copyFrom : ByteArray := prog_3_method_2_code
def yX1_copyFrom : MethodName := ⟨RX1, "copyFrom", "(LGatedTrunk$Change;)V"⟩
abbrev cX1_startFrom : ByteArray := prog_3_method_3_code
def yX1_startFrom : MethodName := ⟨RX1, "startFrom", "([I)V"⟩
abbrev cX1_become : ByteArray := prog_3_method_4_code
def yX1_become : MethodName := ⟨RX1, "become", "(II)V"⟩
abbrev cX1_setContent : ByteArray := prog_3_method_5_code
def yX1_setContent : MethodName := ⟨RX1, "setContent", "(II)V"⟩
abbrev cX1_dropReviews : ByteArray := prog_3_method_6_code
def yX1_dropReviews : MethodName := ⟨RX1, "dropReviews", "()V"⟩
abbrev cX1_addSupporter : ByteArray := prog_3_method_7_code
def yX1_addSupporter : MethodName := ⟨RX1, "addSupporter", "(I)V"⟩
abbrev cX1_addOpponent : ByteArray := prog_3_method_8_code
def yX1_addOpponent : MethodName := ⟨RX1, "addOpponent", "(I)V"⟩
abbrev cX1_countFor : ByteArray := prog_3_method_9_code
def yX1_countFor : MethodName := ⟨RX1, "countFor", "()I"⟩
abbrev cX1_countAgainst : ByteArray := prog_3_method_10_code
def yX1_countAgainst : MethodName := ⟨RX1, "countAgainst", "()I"⟩
abbrev cX1_conflictsWith : ByteArray := prog_3_method_11_code
def yX1_conflictsWith : MethodName := ⟨RX1, "conflictsWith", "([I)Z"⟩
abbrev cX1_mergeInto : ByteArray := prog_3_method_12_code
def yX1_mergeInto : MethodName := ⟨RX1, "mergeInto", "([I)V"⟩
abbrev cX1_moveOnto : ByteArray := prog_3_method_13_code
def yX1_moveOnto : MethodName := ⟨RX1, "moveOnto", "([I)V"⟩
def RX2 : String := "GatedTrunk$Event"
def TX2 : u_T := fun k => match k with
  | 0 => ("GatedTrunk$Event", "kind", "I", false)
  | 1 => ("GatedTrunk$Event", "first", "I", false)
  | 2 => ("GatedTrunk$Event", "second", "I", false)
  | _ => ("GatedTrunk$Event", "third", "I", false)
def tyX2 : Nat → FieldType := fun k => match k with
  | 0 => .int
  | 1 => .int
  | 2 => .int
  | _ => .int
abbrev wsX20 : List Cond := u_ws RX2 TX2 4
theorem nmX2 : ∀ a, a < 4 → ∀ b, b < 4 → a ≠ b → (TX2 a).2.1 ≠ (TX2 b).2.1 := by decide +kernel
theorem tyX2_ok : ∀ k, k < 4 → parseFieldDescriptor (TX2 k).2.2.1 = some (tyX2 k) := by decide +kernel
abbrev cX2_init : ByteArray := prog_4_method_1_code
def yX2_init : MethodName := ⟨RX2, "<init>", "()V"⟩
def RX3 : String := "GatedTrunk$Pipeline"
def TX3 : u_T := fun k => match k with
  | _ => ("", "", "", false)
def tyX3 : Nat → FieldType := fun k => match k with
  | _ => .int
abbrev wsX30 : List Cond := u_ws RX3 TX3 0
theorem nmX3 : ∀ a, a < 0 → ∀ b, b < 0 → a ≠ b → (TX3 a).2.1 ≠ (TX3 b).2.1 := by decide +kernel
theorem tyX3_ok : ∀ k, k < 0 → parseFieldDescriptor (TX3 k).2.2.1 = some (tyX3 k) := by decide +kernel
abbrev cX3_isThere : ByteArray := prog_5_method_2_code
def yX3_isThere : MethodName := ⟨RX3, "isThere", "(II)Z"⟩
abbrev cX3_isRequired : ByteArray := prog_5_method_3_code
def yX3_isRequired : MethodName := ⟨RX3, "isRequired", "(II)Z"⟩
abbrev cX3_needsOf : ByteArray := prog_5_method_4_code
def yX3_needsOf : MethodName := ⟨RX3, "needsOf", "(II)I"⟩
abbrev cX3_allThatNeed : ByteArray := prog_5_method_5_code
def yX3_allThatNeed : MethodName := ⟨RX3, "allThatNeed", "(II)I"⟩
abbrev cX3_isValid : ByteArray := prog_5_method_6_code
def yX3_isValid : MethodName := ⟨RX3, "isValid", "(I)Z"⟩
def RX4 : String := "GatedTrunk$Row"
def TX4 : u_T := fun k => match k with
  | 0 => ("GatedTrunk$Row", "numbers", "[I", true)
  | _ => ("GatedTrunk$Row", "length", "I", false)
def tyX4 : Nat → FieldType := fun k => match k with
  | 0 => .array .int
  | _ => .int
abbrev wsX40 : List Cond := u_ws RX4 TX4 2
theorem nmX4 : ∀ a, a < 2 → ∀ b, b < 2 → a ≠ b → (TX4 a).2.1 ≠ (TX4 b).2.1 := by decide +kernel
theorem tyX4_ok : ∀ k, k < 2 → parseFieldDescriptor (TX4 k).2.2.1 = some (tyX4 k) := by decide +kernel
abbrev cX4_init : ByteArray := prog_6_method_1_code
def yX4_init : MethodName := ⟨RX4, "<init>", "(I)V"⟩
abbrev cX4_copyFrom : ByteArray := prog_6_method_2_code
def yX4_copyFrom : MethodName := ⟨RX4, "copyFrom", "(LGatedTrunk$Row;)V"⟩
abbrev cX4_at : ByteArray := prog_6_method_3_code
def yX4_at : MethodName := ⟨RX4, "at", "(I)I"⟩
abbrev cX4_insert : ByteArray := prog_6_method_4_code
def yX4_insert : MethodName := ⟨RX4, "insert", "(II)V"⟩
abbrev cX4_append : ByteArray := prog_6_method_5_code
def yX4_append : MethodName := ⟨RX4, "append", "(I)V"⟩
abbrev cX4_removeAt : ByteArray := prog_6_method_6_code
def yX4_removeAt : MethodName := ⟨RX4, "removeAt", "(I)V"⟩
abbrev cX4_replaceFirst : ByteArray := prog_6_method_7_code
def yX4_replaceFirst : MethodName := ⟨RX4, "replaceFirst", "(I)V"⟩
def RX5 : String := "GatedTrunk$Settings"
def TX5 : u_T := fun k => match k with
  | 0 => ("GatedTrunk$Settings", "approvals", "I", false)
  | 1 => ("GatedTrunk$Settings", "batchSize", "I", false)
  | 2 => ("GatedTrunk$Settings", "retries", "I", false)
  | _ => ("GatedTrunk$Settings", "leaseTicks", "I", false)
def tyX5 : Nat → FieldType := fun k => match k with
  | 0 => .int
  | 1 => .int
  | 2 => .int
  | _ => .int
abbrev wsX50 : List Cond := u_ws RX5 TX5 4
theorem nmX5 : ∀ a, a < 4 → ∀ b, b < 4 → a ≠ b → (TX5 a).2.1 ≠ (TX5 b).2.1 := by decide +kernel
theorem tyX5_ok : ∀ k, k < 4 → parseFieldDescriptor (TX5 k).2.2.1 = some (tyX5 k) := by decide +kernel
abbrev cX5_init : ByteArray := prog_7_method_1_code
def yX5_init : MethodName := ⟨RX5, "<init>", "()V"⟩
def RX6 : String := "GatedTrunk$State"
def TX6 : u_T := fun k => match k with
  | 0 => ("GatedTrunk$State", "settings", "LGatedTrunk$Settings;", true)
  | 1 => ("GatedTrunk$State", "trunk", "[I", true)
  | 2 => ("GatedTrunk$State", "trunkVersion", "I", false)
  | 3 => ("GatedTrunk$State", "changes", "[LGatedTrunk$Change;", true)
  | 4 => ("GatedTrunk$State", "changeCount", "I", false)
  | 5 => ("GatedTrunk$State", "queue", "LGatedTrunk$Row;", true)
  | 6 => ("GatedTrunk$State", "plan", "LGatedTrunk$Row;", true)
  | 7 => ("GatedTrunk$State", "batch", "LGatedTrunk$Batch;", true)
  | _ => ("GatedTrunk$State", "time", "I", false)
def tyX6 : Nat → FieldType := fun k => match k with
  | 0 => .object "GatedTrunk$Settings"
  | 1 => .array .int
  | 2 => .int
  | 3 => .array (.object "GatedTrunk$Change")
  | 4 => .int
  | 5 => .object "GatedTrunk$Row"
  | 6 => .object "GatedTrunk$Row"
  | 7 => .object "GatedTrunk$Batch"
  | _ => .int
abbrev wsX60 : List Cond := u_ws RX6 TX6 9
theorem nmX6 : ∀ a, a < 9 → ∀ b, b < 9 → a ≠ b → (TX6 a).2.1 ≠ (TX6 b).2.1 := by decide +kernel
theorem tyX6_ok : ∀ k, k < 9 → parseFieldDescriptor (TX6 k).2.2.1 = some (tyX6 k) := by decide +kernel
abbrev cX6_init : ByteArray := prog_8_method_1_code
def yX6_init : MethodName := ⟨RX6, "<init>", "(LGatedTrunk$Settings;)V"⟩
abbrev cX6_copyFrom : ByteArray := prog_8_method_2_code
def yX6_copyFrom : MethodName := ⟨RX6, "copyFrom", "(LGatedTrunk$State;)V"⟩
abbrev cX6_isChange : ByteArray := prog_8_method_3_code
def yX6_isChange : MethodName := ⟨RX6, "isChange", "(I)Z"⟩
abbrev cX6_isOpen : ByteArray := prog_8_method_4_code
def yX6_isOpen : MethodName := ⟨RX6, "isOpen", "(I)Z"⟩
abbrev cX6_isOpenOrRejected : ByteArray := prog_8_method_5_code
def yX6_isOpenOrRejected : MethodName := ⟨RX6, "isOpenOrRejected", "(I)Z"⟩
abbrev cX6_mayBeQueued : ByteArray := prog_8_method_6_code
def yX6_mayBeQueued : MethodName := ⟨RX6, "mayBeQueued", "(I)Z"⟩
abbrev cX6_mayBeRebased : ByteArray := prog_8_method_7_code
def yX6_mayBeRebased : MethodName := ⟨RX6, "mayBeRebased", "(I)Z"⟩
abbrev cX6_jobToLease : ByteArray := prog_8_method_8_code
def yX6_jobToLease : MethodName := ⟨RX6, "jobToLease", "(I)I"⟩
abbrev cX6_carryOut : ByteArray := prog_8_method_9_code
def yX6_carryOut : MethodName := ⟨RX6, "carryOut", "(LGatedTrunk$Event;)I"⟩
abbrev cX6_addChange : ByteArray := prog_8_method_10_code
def yX6_addChange : MethodName := ⟨RX6, "addChange", "()I"⟩
abbrev cX6_leaseNextJob : ByteArray := prog_8_method_11_code
def yX6_leaseNextJob : MethodName := ⟨RX6, "leaseNextJob", "(I)I"⟩
abbrev cX6_recover : ByteArray := prog_8_method_12_code
def yX6_recover : MethodName := ⟨RX6, "recover", "()V"⟩
abbrev cX6_expireLeases : ByteArray := prog_8_method_13_code
def yX6_expireLeases : MethodName := ⟨RX6, "expireLeases", "(Z)I"⟩
abbrev cX6_endJob : ByteArray := prog_8_method_14_code
def yX6_endJob : MethodName := ⟨RX6, "endJob", "(II)V"⟩
abbrev cX6_judgeBatch : ByteArray := prog_8_method_15_code
def yX6_judgeBatch : MethodName := ⟨RX6, "judgeBatch", "()V"⟩
abbrev cX6_passBatch : ByteArray := prog_8_method_16_code
def yX6_passBatch : MethodName := ⟨RX6, "passBatch", "()V"⟩
abbrev cX6_failBatch : ByteArray := prog_8_method_17_code
def yX6_failBatch : MethodName := ⟨RX6, "failBatch", "(II)V"⟩
abbrev cX6_takeFromQueue : ByteArray := prog_8_method_18_code
def yX6_takeFromQueue : MethodName := ⟨RX6, "takeFromQueue", "(III)V"⟩
abbrev cX6_buildBatches : ByteArray := prog_8_method_19_code
def yX6_buildBatches : MethodName := ⟨RX6, "buildBatches", "()V"⟩
abbrev cX6_buildBatch : ByteArray := prog_8_method_20_code
def yX6_buildBatch : MethodName := ⟨RX6, "buildBatch", "()V"⟩
abbrev cX6_mergeFirst : ByteArray := prog_8_method_21_code
def yX6_mergeFirst : MethodName := ⟨RX6, "mergeFirst", "(I)I"⟩
def RX7 : String := "GatedTrunk"
def TX7 : u_T := fun k => match k with
  | 0 => ("GatedTrunk", "live", "LGatedTrunk$State;", true)
  | 1 => ("GatedTrunk", "flushed", "LGatedTrunk$State;", true)
  | 2 => ("GatedTrunk", "log", "[LGatedTrunk$Event;", true)
  | _ => ("GatedTrunk", "unflushed", "I", false)
def tyX7 : Nat → FieldType := fun k => match k with
  | 0 => .object "GatedTrunk$State"
  | 1 => .object "GatedTrunk$State"
  | 2 => .array (.object "GatedTrunk$Event")
  | _ => .int
abbrev wsX70 : List Cond := u_ws RX7 TX7 4
theorem nmX7 : ∀ a, a < 4 → ∀ b, b < 4 → a ≠ b → (TX7 a).2.1 ≠ (TX7 b).2.1 := by decide +kernel
theorem tyX7_ok : ∀ k, k < 4 → parseFieldDescriptor (TX7 k).2.2.1 = some (tyX7 k) := by decide +kernel
abbrev cX7_init : ByteArray := prog_1_method_1_code
def yX7_init : MethodName := ⟨RX7, "<init>", "(IIII)V"⟩
abbrev cX7_open : ByteArray := prog_1_method_2_code
def yX7_open : MethodName := ⟨RX7, "open", "()I"⟩
abbrev cX7_push : ByteArray := prog_1_method_3_code
def yX7_push : MethodName := ⟨RX7, "push", "(III)Z"⟩
abbrev cX7_approve : ByteArray := prog_1_method_4_code
def yX7_approve : MethodName := ⟨RX7, "approve", "(II)Z"⟩
abbrev cX7_object : ByteArray := prog_1_method_5_code
def yX7_object : MethodName := ⟨RX7, "object", "(II)Z"⟩
abbrev cX7_close : ByteArray := prog_1_method_6_code
def yX7_close : MethodName := ⟨RX7, "close", "(I)Z"⟩
abbrev cX7_enqueue : ByteArray := prog_1_method_7_code
def yX7_enqueue : MethodName := ⟨RX7, "enqueue", "(I)Z"⟩
abbrev cX7_rebase : ByteArray := prog_1_method_8_code
def yX7_rebase : MethodName := ⟨RX7, "rebase", "(I)Z"⟩
abbrev cX7_claim : ByteArray := prog_1_method_9_code
def yX7_claim : MethodName := ⟨RX7, "claim", "(I)I"⟩
abbrev cX7_report : ByteArray := prog_1_method_10_code
def yX7_report : MethodName := ⟨RX7, "report", "(IZ)Z"⟩
abbrev cX7_tick : ByteArray := prog_1_method_11_code
def yX7_tick : MethodName := ⟨RX7, "tick", "(I)I"⟩
abbrev cX7_flush : ByteArray := prog_1_method_12_code
def yX7_flush : MethodName := ⟨RX7, "flush", "()I"⟩
abbrev cX7_crash : ByteArray := prog_1_method_13_code
def yX7_crash : MethodName := ⟨RX7, "crash", "(I)I"⟩
abbrev cX7_state : ByteArray := prog_1_method_14_code
def yX7_state : MethodName := ⟨RX7, "state", "(I)I"⟩
abbrev cX7_cause : ByteArray := prog_1_method_15_code
def yX7_cause : MethodName := ⟨RX7, "cause", "(I)I"⟩
abbrev cX7_standing : ByteArray := prog_1_method_16_code
def yX7_standing : MethodName := ⟨RX7, "standing", "(I)I"⟩
abbrev cX7_file : ByteArray := prog_1_method_17_code
def yX7_file : MethodName := ⟨RX7, "file", "(II)I"⟩
abbrev cX7_queueAt : ByteArray := prog_1_method_18_code
def yX7_queueAt : MethodName := ⟨RX7, "queueAt", "(I)I"⟩
abbrev cX7_batch : ByteArray := prog_1_method_19_code
def yX7_batch : MethodName := ⟨RX7, "batch", "()I"⟩
abbrev cX7_job : ByteArray := prog_1_method_20_code
def yX7_job : MethodName := ⟨RX7, "job", "(I)I"⟩
abbrev cX7_version : ByteArray := prog_1_method_21_code
def yX7_version : MethodName := ⟨RX7, "version", "()I"⟩
abbrev cX7_logged : ByteArray := prog_1_method_22_code
def yX7_logged : MethodName := ⟨RX7, "logged", "(IIII)LGatedTrunk$Event;"⟩
abbrev cX7_keepLiveState : ByteArray := prog_1_method_23_code
def yX7_keepLiveState : MethodName := ⟨RX7, "keepLiveState", "()V"⟩
abbrev cX7_clamped : ByteArray := prog_1_method_24_code
def yX7_clamped : MethodName := ⟨RX7, "clamped", "(III)I"⟩
abbrev cX7_isPath : ByteArray := prog_1_method_25_code
def yX7_isPath : MethodName := ⟨RX7, "isPath", "(I)Z"⟩
abbrev cX7_isReviewer : ByteArray := prog_1_method_26_code
def yX7_isReviewer : MethodName := ⟨RX7, "isReviewer", "(I)Z"⟩
abbrev cX7_isWorker : ByteArray := prog_1_method_27_code
def yX7_isWorker : MethodName := ⟨RX7, "isWorker", "(I)Z"⟩
abbrev cX7_copyNumbers : ByteArray := prog_1_method_28_code
def yX7_copyNumbers : MethodName := ⟨RX7, "copyNumbers", "([I[I)V"⟩
def RX8 : String := "GatedTrunkModel"
def TX8 : u_T := fun k => match k with
  | 0 => ("GatedTrunkModel", "approvals", "I", true)
  | 1 => ("GatedTrunkModel", "size", "I", true)
  | 2 => ("GatedTrunkModel", "retries", "I", true)
  | 3 => ("GatedTrunkModel", "lasts", "I", true)
  | 4 => ("GatedTrunkModel", "kinds", "[I", true)
  | 5 => ("GatedTrunkModel", "firsts", "[I", true)
  | 6 => ("GatedTrunkModel", "seconds", "[I", true)
  | 7 => ("GatedTrunkModel", "thirds", "[I", true)
  | 8 => ("GatedTrunkModel", "entries", "I", false)
  | 9 => ("GatedTrunkModel", "flushed", "I", false)
  | 10 => ("GatedTrunkModel", "trunk", "[I", true)
  | 11 => ("GatedTrunkModel", "versions", "I", false)
  | 12 => ("GatedTrunkModel", "time", "I", false)
  | 13 => ("GatedTrunkModel", "changes", "I", false)
  | 14 => ("GatedTrunkModel", "base", "[I", true)
  | 15 => ("GatedTrunkModel", "own", "[I", true)
  | 16 => ("GatedTrunkModel", "states", "[I", true)
  | 17 => ("GatedTrunkModel", "causes", "[I", true)
  | 18 => ("GatedTrunkModel", "stands", "[I", true)
  | 19 => ("GatedTrunkModel", "queue", "[I", true)
  | 20 => ("GatedTrunkModel", "queued", "I", false)
  | 21 => ("GatedTrunkModel", "plan", "[I", true)
  | 22 => ("GatedTrunkModel", "planned", "I", false)
  | 23 => ("GatedTrunkModel", "members", "I", false)
  | 24 => ("GatedTrunkModel", "jobs", "[I", true)
  | 25 => ("GatedTrunkModel", "attempts", "[I", true)
  | 26 => ("GatedTrunkModel", "held", "[I", true)
  | 27 => ("GatedTrunkModel", "until", "[I", true)
  | 28 => ("GatedTrunkModel", "tree", "[I", true)
  | _ => ("GatedTrunkModel", "leads", "[Z", true)
def tyX8 : Nat → FieldType := fun k => match k with
  | 0 => .int
  | 1 => .int
  | 2 => .int
  | 3 => .int
  | 4 => .array .int
  | 5 => .array .int
  | 6 => .array .int
  | 7 => .array .int
  | 8 => .int
  | 9 => .int
  | 10 => .array .int
  | 11 => .int
  | 12 => .int
  | 13 => .int
  | 14 => .array .int
  | 15 => .array .int
  | 16 => .array .int
  | 17 => .array .int
  | 18 => .array .int
  | 19 => .array .int
  | 20 => .int
  | 21 => .array .int
  | 22 => .int
  | 23 => .int
  | 24 => .array .int
  | 25 => .array .int
  | 26 => .array .int
  | 27 => .array .int
  | 28 => .array .int
  | _ => .array .boolean
abbrev wsX80 : List Cond := u_ws RX8 TX8 30
theorem nmX8 : ∀ a, a < 30 → ∀ b, b < 30 → a ≠ b → (TX8 a).2.1 ≠ (TX8 b).2.1 := by decide +kernel
theorem tyX8_ok : ∀ k, k < 30 → parseFieldDescriptor (TX8 k).2.2.1 = some (tyX8 k) := by decide +kernel
abbrev cX8_init : ByteArray := prog_10_method_1_code
def yX8_init : MethodName := ⟨RX8, "<init>", "(IIII)V"⟩
abbrev cX8_within : ByteArray := prog_10_method_2_code
def yX8_within : MethodName := ⟨RX8, "within", "(III)I"⟩
abbrev cX8_begin : ByteArray := prog_10_method_3_code
def yX8_begin : MethodName := ⟨RX8, "begin", "()V"⟩
abbrev cX8_conflicts : ByteArray := prog_10_method_4_code
def yX8_conflicts : MethodName := ⟨RX8, "conflicts", "(I)Z"⟩
abbrev cX8_startTree : ByteArray := prog_10_method_5_code
def yX8_startTree : MethodName := ⟨RX8, "startTree", "()V"⟩
abbrev cX8_batchTree : ByteArray := prog_10_method_6_code
def yX8_batchTree : MethodName := ⟨RX8, "batchTree", "()V"⟩
abbrev cX8_bit : ByteArray := prog_10_method_7_code
def yX8_bit : MethodName := ⟨RX8, "bit", "(I)Z"⟩
abbrev cX8_there : ByteArray := prog_10_method_8_code
def yX8_there : MethodName := ⟨RX8, "there", "(I)Z"⟩
abbrev cX8_required : ByteArray := prog_10_method_9_code
def yX8_required : MethodName := ⟨RX8, "required", "(I)Z"⟩
abbrev cX8_needs : ByteArray := prog_10_method_10_code
def yX8_needs : MethodName := ⟨RX8, "needs", "(II)Z"⟩
abbrev cX8_close4 : ByteArray := prog_10_method_11_code
def yX8_close4 : MethodName := ⟨RX8, "close4", "()V"⟩
abbrev cX8_valid : ByteArray := prog_10_method_12_code
def yX8_valid : MethodName := ⟨RX8, "valid", "()Z"⟩
abbrev cX8_leaveQueue : ByteArray := prog_10_method_13_code
def yX8_leaveQueue : MethodName := ⟨RX8, "leaveQueue", "(I)V"⟩
abbrev cX8_reject : ByteArray := prog_10_method_14_code
def yX8_reject : MethodName := ⟨RX8, "reject", "(II)V"⟩
abbrev cX8_dropPlan : ByteArray := prog_10_method_15_code
def yX8_dropPlan : MethodName := ⟨RX8, "dropPlan", "()V"⟩
abbrev cX8_endLeases : ByteArray := prog_10_method_16_code
def yX8_endLeases : MethodName := ⟨RX8, "endLeases", "()V"⟩
abbrev cX8_batchFails : ByteArray := prog_10_method_17_code
def yX8_batchFails : MethodName := ⟨RX8, "batchFails", "(I)V"⟩
abbrev cX8_batchPasses : ByteArray := prog_10_method_18_code
def yX8_batchPasses : MethodName := ⟨RX8, "batchPasses", "()V"⟩
abbrev cX8_build : ByteArray := prog_10_method_19_code
def yX8_build : MethodName := ⟨RX8, "build", "()V"⟩
abbrev cX8_buildAll : ByteArray := prog_10_method_20_code
def yX8_buildAll : MethodName := ⟨RX8, "buildAll", "()V"⟩
abbrev cX8_judge : ByteArray := prog_10_method_21_code
def yX8_judge : MethodName := ⟨RX8, "judge", "()V"⟩
abbrev cX8_endLeaseOn : ByteArray := prog_10_method_22_code
def yX8_endLeaseOn : MethodName := ⟨RX8, "endLeaseOn", "(I)V"⟩
abbrev cX8_settle : ByteArray := prog_10_method_23_code
def yX8_settle : MethodName := ⟨RX8, "settle", "(IZ)V"⟩
abbrev cX8_expire : ByteArray := prog_10_method_24_code
def yX8_expire : MethodName := ⟨RX8, "expire", "(I)V"⟩
abbrev cX8_isChange : ByteArray := prog_10_method_25_code
def yX8_isChange : MethodName := ⟨RX8, "isChange", "(I)Z"⟩
abbrev cX8_is : ByteArray := prog_10_method_26_code
def yX8_is : MethodName := ⟨RX8, "is", "(II)Z"⟩
abbrev cX8_noReviews : ByteArray := prog_10_method_27_code
def yX8_noReviews : MethodName := ⟨RX8, "noReviews", "(I)V"⟩
abbrev cX8_doOpen : ByteArray := prog_10_method_28_code
def yX8_doOpen : MethodName := ⟨RX8, "doOpen", "()I"⟩
abbrev cX8_doPush : ByteArray := prog_10_method_29_code
def yX8_doPush : MethodName := ⟨RX8, "doPush", "(III)I"⟩
abbrev cX8_doReview : ByteArray := prog_10_method_30_code
def yX8_doReview : MethodName := ⟨RX8, "doReview", "(III)I"⟩
abbrev cX8_doClose : ByteArray := prog_10_method_31_code
def yX8_doClose : MethodName := ⟨RX8, "doClose", "(I)I"⟩
abbrev cX8_count : ByteArray := prog_10_method_32_code
def yX8_count : MethodName := ⟨RX8, "count", "(II)I"⟩
abbrev cX8_doEnqueue : ByteArray := prog_10_method_33_code
def yX8_doEnqueue : MethodName := ⟨RX8, "doEnqueue", "(I)I"⟩
abbrev cX8_doRebase : ByteArray := prog_10_method_34_code
def yX8_doRebase : MethodName := ⟨RX8, "doRebase", "(I)I"⟩
abbrev cX8_isWorker : ByteArray := prog_10_method_35_code
def yX8_isWorker : MethodName := ⟨RX8, "isWorker", "(I)Z"⟩
abbrev cX8_doClaim : ByteArray := prog_10_method_36_code
def yX8_doClaim : MethodName := ⟨RX8, "doClaim", "(I)I"⟩
abbrev cX8_doReport : ByteArray := prog_10_method_37_code
def yX8_doReport : MethodName := ⟨RX8, "doReport", "(IZ)I"⟩
abbrev cX8_doTick : ByteArray := prog_10_method_38_code
def yX8_doTick : MethodName := ⟨RX8, "doTick", "(I)I"⟩
abbrev cX8_expireAll : ByteArray := prog_10_method_39_code
def yX8_expireAll : MethodName := ⟨RX8, "expireAll", "()V"⟩
abbrev cX8_once : ByteArray := prog_10_method_40_code
def yX8_once : MethodName := ⟨RX8, "once", "(IIII)I"⟩
abbrev cX8_note : ByteArray := prog_10_method_41_code
def yX8_note : MethodName := ⟨RX8, "note", "(IIII)V"⟩
abbrev cX8_event : ByteArray := prog_10_method_42_code
def yX8_event : MethodName := ⟨RX8, "event", "(IIII)I"⟩
abbrev cX8_open : ByteArray := prog_10_method_43_code
def yX8_open : MethodName := ⟨RX8, "open", "()I"⟩
abbrev cX8_push : ByteArray := prog_10_method_44_code
def yX8_push : MethodName := ⟨RX8, "push", "(III)Z"⟩
abbrev cX8_approve : ByteArray := prog_10_method_45_code
def yX8_approve : MethodName := ⟨RX8, "approve", "(II)Z"⟩
abbrev cX8_object : ByteArray := prog_10_method_46_code
def yX8_object : MethodName := ⟨RX8, "object", "(II)Z"⟩
abbrev cX8_close : ByteArray := prog_10_method_47_code
def yX8_close : MethodName := ⟨RX8, "close", "(I)Z"⟩
abbrev cX8_enqueue : ByteArray := prog_10_method_48_code
def yX8_enqueue : MethodName := ⟨RX8, "enqueue", "(I)Z"⟩
abbrev cX8_rebase : ByteArray := prog_10_method_49_code
def yX8_rebase : MethodName := ⟨RX8, "rebase", "(I)Z"⟩
abbrev cX8_claim : ByteArray := prog_10_method_50_code
def yX8_claim : MethodName := ⟨RX8, "claim", "(I)I"⟩
abbrev cX8_report : ByteArray := prog_10_method_51_code
def yX8_report : MethodName := ⟨RX8, "report", "(IZ)Z"⟩
abbrev cX8_tick : ByteArray := prog_10_method_52_code
def yX8_tick : MethodName := ⟨RX8, "tick", "(I)I"⟩
abbrev cX8_flush : ByteArray := prog_10_method_53_code
def yX8_flush : MethodName := ⟨RX8, "flush", "()I"⟩
abbrev cX8_crash : ByteArray := prog_10_method_54_code
def yX8_crash : MethodName := ⟨RX8, "crash", "(I)I"⟩
abbrev cX8_state : ByteArray := prog_10_method_55_code
def yX8_state : MethodName := ⟨RX8, "state", "(I)I"⟩
abbrev cX8_cause : ByteArray := prog_10_method_56_code
def yX8_cause : MethodName := ⟨RX8, "cause", "(I)I"⟩
abbrev cX8_standing : ByteArray := prog_10_method_57_code
def yX8_standing : MethodName := ⟨RX8, "standing", "(I)I"⟩
abbrev cX8_file : ByteArray := prog_10_method_58_code
def yX8_file : MethodName := ⟨RX8, "file", "(II)I"⟩
abbrev cX8_queueAt : ByteArray := prog_10_method_59_code
def yX8_queueAt : MethodName := ⟨RX8, "queueAt", "(I)I"⟩
abbrev cX8_batch : ByteArray := prog_10_method_60_code
def yX8_batch : MethodName := ⟨RX8, "batch", "()I"⟩
abbrev cX8_job : ByteArray := prog_10_method_61_code
def yX8_job : MethodName := ⟨RX8, "job", "(I)I"⟩
abbrev cX8_version : ByteArray := prog_10_method_62_code
def yX8_version : MethodName := ⟨RX8, "version", "()I"⟩
def RJ6 : String := "java/lang/Integer"
def TJ6 : u_T := fun k => match k with
  | _ => ("", "", "", false)
def tyJ6 : Nat → FieldType := fun k => match k with
  | _ => .int
abbrev wsJ60 : List Cond := u_ws RJ6 TJ6 0
theorem nmJ6 : ∀ a, a < 0 → ∀ b, b < 0 → a ≠ b → (TJ6 a).2.1 ≠ (TJ6 b).2.1 := by decide +kernel
theorem tyJ6_ok : ∀ k, k < 0 → parseFieldDescriptor (TJ6 k).2.2.1 = some (tyJ6 k) := by decide +kernel
abbrev cJ6_bitCount_0f7a4 : ByteArray := prog_11_method_49_code
def yJ6_bitCount_0f7a4 : MethodName := ⟨RJ6, "bitCount", "(I)I"⟩
def RJ9 : String := "java/lang/Math"
def TJ9 : u_T := fun k => match k with
  | _ => ("", "", "", false)
def tyJ9 : Nat → FieldType := fun k => match k with
  | _ => .int
abbrev wsJ90 : List Cond := u_ws RJ9 TJ9 0
theorem nmJ9 : ∀ a, a < 0 → ∀ b, b < 0 → a ≠ b → (TJ9 a).2.1 ≠ (TJ9 b).2.1 := by decide +kernel
theorem tyJ9_ok : ∀ k, k < 0 → parseFieldDescriptor (TJ9 k).2.2.1 = some (tyJ9 k) := by decide +kernel
abbrev cJ9_max_7cf53 : ByteArray := prog_12_method_65_code
def yJ9_max_7cf53 : MethodName := ⟨RJ9, "max", "(II)I"⟩
abbrev cJ9_min_7cf53 : ByteArray := prog_12_method_69_code
def yJ9_min_7cf53 : MethodName := ⟨RJ9, "min", "(II)I"⟩
def RJ10 : String := "java/lang/System"
def TJ10 : u_T := fun k => match k with
  | _ => ("", "", "", false)
def tyJ10 : Nat → FieldType := fun k => match k with
  | _ => .int
abbrev wsJ100 : List Cond := u_ws RJ10 TJ10 0
theorem nmJ10 : ∀ a, a < 0 → ∀ b, b < 0 → a ≠ b → (TJ10 a).2.1 ≠ (TJ10 b).2.1 := by decide +kernel
theorem tyJ10_ok : ∀ k, k < 0 → parseFieldDescriptor (TJ10 k).2.2.1 = some (tyJ10 k) := by decide +kernel
def RL : String := "GatedTrunkLaw"
abbrev cL_cell : ByteArray := method_2_code
def yL_cell : MethodName := ⟨RL, "cell", "([II)I"⟩
abbrev cL_law : ByteArray := code
def yL_law : MethodName := ⟨RL, "law", "([I)Z"⟩
abbrev vwCl : List vw_C := [(RX0, TX0, 5), (RX1, TX1, 6), (RX2, TX2, 4), (RX4, TX4, 2), (RX5, TX5, 4), (RX6, TX6, 9), (RX7, TX7, 4), (RX8, TX8, 30)]
/-- the words of the tables that a contract may carry -/
def TBL : List Cond := lw_tbl.filter goodWord
end
section
theorem dX0_init_0 : decode cX0_init 0 = .ok (.aload_n 0, 1) := by decide +kernel
theorem dX0_init_1 : decode cX0_init 1 = .ok (.invokespecial 3, 3) := by decide +kernel
theorem dX0_init_4 : decode cX0_init 4 = .ok (.aload_n 0, 1) := by decide +kernel
theorem dX0_init_5 : decode cX0_init 5 = .ok (.bipush 6, 2) := by decide +kernel
theorem dX0_init_7 : decode cX0_init 7 = .ok (.newarray .int, 2) := by decide +kernel
theorem dX0_init_9 : decode cX0_init 9 = .ok (.putfield 9, 3) := by decide +kernel
theorem dX0_init_12 : decode cX0_init 12 = .ok (.aload_n 0, 1) := by decide +kernel
theorem dX0_init_13 : decode cX0_init 13 = .ok (.iconst 4, 1) := by decide +kernel
theorem dX0_init_14 : decode cX0_init 14 = .ok (.newarray .int, 2) := by decide +kernel
theorem dX0_init_16 : decode cX0_init 16 = .ok (.putfield 15, 3) := by decide +kernel
theorem dX0_init_19 : decode cX0_init 19 = .ok (.aload_n 0, 1) := by decide +kernel
theorem dX0_init_20 : decode cX0_init 20 = .ok (.iconst 4, 1) := by decide +kernel
theorem dX0_init_21 : decode cX0_init 21 = .ok (.newarray .int, 2) := by decide +kernel
theorem dX0_init_23 : decode cX0_init 23 = .ok (.putfield 18, 3) := by decide +kernel
theorem dX0_init_26 : decode cX0_init 26 = .ok (.aload_n 0, 1) := by decide +kernel
theorem dX0_init_27 : decode cX0_init 27 = .ok (.iconst 4, 1) := by decide +kernel
theorem dX0_init_28 : decode cX0_init 28 = .ok (.newarray .int, 2) := by decide +kernel
theorem dX0_init_30 : decode cX0_init 30 = .ok (.putfield 21, 3) := by decide +kernel
theorem dX0_init_33 : decode cX0_init 33 = .ok (.return_, 1) := by decide +kernel
theorem dX0_copyFrom_0 : decode cX0_copyFrom 0 = .ok (.aload_n 1, 1) := by decide +kernel
theorem dX0_copyFrom_1 : decode cX0_copyFrom 1 = .ok (.getfield 9, 3) := by decide +kernel
theorem dX0_copyFrom_4 : decode cX0_copyFrom 4 = .ok (.aload_n 0, 1) := by decide +kernel
theorem dX0_copyFrom_5 : decode cX0_copyFrom 5 = .ok (.getfield 9, 3) := by decide +kernel
theorem dX0_copyFrom_8 : decode cX0_copyFrom 8 = .ok (.invokestatic 24, 3) := by decide +kernel
theorem dX0_copyFrom_11 : decode cX0_copyFrom 11 = .ok (.aload_n 0, 1) := by decide +kernel
theorem dX0_copyFrom_12 : decode cX0_copyFrom 12 = .ok (.aload_n 1, 1) := by decide +kernel
theorem dX0_copyFrom_13 : decode cX0_copyFrom 13 = .ok (.getfield 28, 3) := by decide +kernel
theorem dX0_copyFrom_16 : decode cX0_copyFrom 16 = .ok (.putfield 28, 3) := by decide +kernel
theorem dX0_copyFrom_19 : decode cX0_copyFrom 19 = .ok (.aload_n 1, 1) := by decide +kernel
theorem dX0_copyFrom_20 : decode cX0_copyFrom 20 = .ok (.getfield 15, 3) := by decide +kernel
theorem dX0_copyFrom_23 : decode cX0_copyFrom 23 = .ok (.aload_n 0, 1) := by decide +kernel
theorem dX0_copyFrom_24 : decode cX0_copyFrom 24 = .ok (.getfield 15, 3) := by decide +kernel
theorem dX0_copyFrom_27 : decode cX0_copyFrom 27 = .ok (.invokestatic 24, 3) := by decide +kernel
theorem dX0_copyFrom_30 : decode cX0_copyFrom 30 = .ok (.aload_n 1, 1) := by decide +kernel
theorem dX0_copyFrom_31 : decode cX0_copyFrom 31 = .ok (.getfield 18, 3) := by decide +kernel
theorem dX0_copyFrom_34 : decode cX0_copyFrom 34 = .ok (.aload_n 0, 1) := by decide +kernel
theorem dX0_copyFrom_35 : decode cX0_copyFrom 35 = .ok (.getfield 18, 3) := by decide +kernel
theorem dX0_copyFrom_38 : decode cX0_copyFrom 38 = .ok (.invokestatic 24, 3) := by decide +kernel
theorem dX0_copyFrom_41 : decode cX0_copyFrom 41 = .ok (.aload_n 1, 1) := by decide +kernel
theorem dX0_copyFrom_42 : decode cX0_copyFrom 42 = .ok (.getfield 21, 3) := by decide +kernel
theorem dX0_copyFrom_45 : decode cX0_copyFrom 45 = .ok (.aload_n 0, 1) := by decide +kernel
theorem dX0_copyFrom_46 : decode cX0_copyFrom 46 = .ok (.getfield 21, 3) := by decide +kernel
theorem dX0_copyFrom_49 : decode cX0_copyFrom 49 = .ok (.invokestatic 24, 3) := by decide +kernel
theorem dX0_copyFrom_52 : decode cX0_copyFrom 52 = .ok (.return_, 1) := by decide +kernel
theorem dX0_isUnderTest_0 : decode cX0_isUnderTest 0 = .ok (.aload_n 0, 1) := by decide +kernel
theorem dX0_isUnderTest_1 : decode cX0_isUnderTest 1 = .ok (.getfield 28, 3) := by decide +kernel
theorem dX0_isUnderTest_4 : decode cX0_isUnderTest 4 = .ok (.ifCond .le 7, 3) := by decide +kernel
theorem dX0_isUnderTest_7 : decode cX0_isUnderTest 7 = .ok (.iconst 1, 1) := by decide +kernel
theorem dX0_isUnderTest_8 : decode cX0_isUnderTest 8 = .ok (.goto 4, 3) := by decide +kernel
theorem dX0_isUnderTest_11 : decode cX0_isUnderTest 11 = .ok (.iconst 0, 1) := by decide +kernel
theorem dX0_isUnderTest_12 : decode cX0_isUnderTest 12 = .ok (.ireturn, 1) := by decide +kernel
theorem dX0_pipeline_0 : decode cX0_pipeline 0 = .ok (.aload_n 0, 1) := by decide +kernel
theorem dX0_pipeline_1 : decode cX0_pipeline 1 = .ok (.getfield 9, 3) := by decide +kernel
theorem dX0_pipeline_4 : decode cX0_pipeline 4 = .ok (.iconst 0, 1) := by decide +kernel
theorem dX0_pipeline_5 : decode cX0_pipeline 5 = .ok (.iaload, 1) := by decide +kernel
theorem dX0_pipeline_6 : decode cX0_pipeline 6 = .ok (.ireturn, 1) := by decide +kernel
theorem dX0_start_0 : decode cX0_start 0 = .ok (.aload_n 0, 1) := by decide +kernel
theorem dX0_start_1 : decode cX0_start 1 = .ok (.iload_n 1, 1) := by decide +kernel
theorem dX0_start_2 : decode cX0_start 2 = .ok (.putfield 28, 3) := by decide +kernel
theorem dX0_start_5 : decode cX0_start 5 = .ok (.iconst 0, 1) := by decide +kernel
theorem dX0_start_6 : decode cX0_start 6 = .ok (.istore_n 2, 1) := by decide +kernel
theorem dX0_start_7 : decode cX0_start 7 = .ok (.iload_n 2, 1) := by decide +kernel
theorem dX0_start_8 : decode cX0_start 8 = .ok (.iconst 4, 1) := by decide +kernel
theorem dX0_start_9 : decode cX0_start 9 = .ok (.if_icmp .ge 38, 3) := by decide +kernel
theorem dX0_start_12 : decode cX0_start 12 = .ok (.aload_n 0, 1) := by decide +kernel
theorem dX0_start_13 : decode cX0_start 13 = .ok (.getfield 15, 3) := by decide +kernel
theorem dX0_start_16 : decode cX0_start 16 = .ok (.iload_n 2, 1) := by decide +kernel
theorem dX0_start_17 : decode cX0_start 17 = .ok (.aload_n 0, 1) := by decide +kernel
theorem dX0_start_18 : decode cX0_start 18 = .ok (.invokevirtual 32, 3) := by decide +kernel
theorem dX0_start_21 : decode cX0_start 21 = .ok (.iload_n 2, 1) := by decide +kernel
theorem dX0_start_22 : decode cX0_start 22 = .ok (.invokestatic 36, 3) := by decide +kernel
theorem dX0_start_25 : decode cX0_start 25 = .ok (.ifCond .eq 7, 3) := by decide +kernel
theorem dX0_start_28 : decode cX0_start 28 = .ok (.iconst 1, 1) := by decide +kernel
theorem dX0_start_29 : decode cX0_start 29 = .ok (.goto 4, 3) := by decide +kernel
theorem dX0_start_32 : decode cX0_start 32 = .ok (.iconst 0, 1) := by decide +kernel
theorem dX0_start_33 : decode cX0_start 33 = .ok (.iastore, 1) := by decide +kernel
theorem dX0_start_34 : decode cX0_start 34 = .ok (.aload_n 0, 1) := by decide +kernel
theorem dX0_start_35 : decode cX0_start 35 = .ok (.getfield 18, 3) := by decide +kernel
theorem dX0_start_38 : decode cX0_start 38 = .ok (.iload_n 2, 1) := by decide +kernel
theorem dX0_start_39 : decode cX0_start 39 = .ok (.iconst 0, 1) := by decide +kernel
theorem dX0_start_40 : decode cX0_start 40 = .ok (.iastore, 1) := by decide +kernel
theorem dX0_start_41 : decode cX0_start 41 = .ok (.iinc 2 1, 3) := by decide +kernel
theorem dX0_start_44 : decode cX0_start 44 = .ok (.goto (-37), 3) := by decide +kernel
theorem dX0_start_47 : decode cX0_start 47 = .ok (.return_, 1) := by decide +kernel
theorem dX0_end_0 : decode cX0_end 0 = .ok (.aload_n 0, 1) := by decide +kernel
theorem dX0_end_1 : decode cX0_end 1 = .ok (.iconst 0, 1) := by decide +kernel
theorem dX0_end_2 : decode cX0_end 2 = .ok (.putfield 28, 3) := by decide +kernel
theorem dX0_end_5 : decode cX0_end 5 = .ok (.iconst 0, 1) := by decide +kernel
theorem dX0_end_6 : decode cX0_end 6 = .ok (.istore_n 1, 1) := by decide +kernel
theorem dX0_end_7 : decode cX0_end 7 = .ok (.iload_n 1, 1) := by decide +kernel
theorem dX0_end_8 : decode cX0_end 8 = .ok (.iconst 4, 1) := by decide +kernel
theorem dX0_end_9 : decode cX0_end 9 = .ok (.if_icmp .ge 16, 3) := by decide +kernel
theorem dX0_end_12 : decode cX0_end 12 = .ok (.aload_n 0, 1) := by decide +kernel
theorem dX0_end_13 : decode cX0_end 13 = .ok (.getfield 15, 3) := by decide +kernel
theorem dX0_end_16 : decode cX0_end 16 = .ok (.iload_n 1, 1) := by decide +kernel
theorem dX0_end_17 : decode cX0_end 17 = .ok (.iconst 0, 1) := by decide +kernel
theorem dX0_end_18 : decode cX0_end 18 = .ok (.iastore, 1) := by decide +kernel
theorem dX0_end_19 : decode cX0_end 19 = .ok (.iinc 1 1, 3) := by decide +kernel
theorem dX0_end_22 : decode cX0_end 22 = .ok (.goto (-15), 3) := by decide +kernel
theorem dX0_end_25 : decode cX0_end 25 = .ok (.return_, 1) := by decide +kernel
theorem dX0_leasedJob_0 : decode cX0_leasedJob 0 = .ok (.iconst 0, 1) := by decide +kernel
theorem dX0_leasedJob_1 : decode cX0_leasedJob 1 = .ok (.istore_n 2, 1) := by decide +kernel
theorem dX0_leasedJob_2 : decode cX0_leasedJob 2 = .ok (.iload_n 2, 1) := by decide +kernel
theorem dX0_leasedJob_3 : decode cX0_leasedJob 3 = .ok (.iconst 4, 1) := by decide +kernel
theorem dX0_leasedJob_4 : decode cX0_leasedJob 4 = .ok (.if_icmp .ge 31, 3) := by decide +kernel
theorem dX0_leasedJob_7 : decode cX0_leasedJob 7 = .ok (.iload_n 1, 1) := by decide +kernel
theorem dX0_leasedJob_8 : decode cX0_leasedJob 8 = .ok (.invokestatic 42, 3) := by decide +kernel
theorem dX0_leasedJob_11 : decode cX0_leasedJob 11 = .ok (.ifCond .eq 18, 3) := by decide +kernel
theorem dX0_leasedJob_14 : decode cX0_leasedJob 14 = .ok (.aload_n 0, 1) := by decide +kernel
theorem dX0_leasedJob_15 : decode cX0_leasedJob 15 = .ok (.getfield 15, 3) := by decide +kernel
theorem dX0_leasedJob_18 : decode cX0_leasedJob 18 = .ok (.iload_n 2, 1) := by decide +kernel
theorem dX0_leasedJob_19 : decode cX0_leasedJob 19 = .ok (.iaload, 1) := by decide +kernel
theorem dX0_leasedJob_20 : decode cX0_leasedJob 20 = .ok (.bipush 10, 2) := by decide +kernel
theorem dX0_leasedJob_22 : decode cX0_leasedJob 22 = .ok (.iload_n 1, 1) := by decide +kernel
theorem dX0_leasedJob_23 : decode cX0_leasedJob 23 = .ok (.iadd, 1) := by decide +kernel
theorem dX0_leasedJob_24 : decode cX0_leasedJob 24 = .ok (.if_icmp .ne 5, 3) := by decide +kernel
theorem dX0_leasedJob_27 : decode cX0_leasedJob 27 = .ok (.iload_n 2, 1) := by decide +kernel
theorem dX0_leasedJob_28 : decode cX0_leasedJob 28 = .ok (.ireturn, 1) := by decide +kernel
theorem dX0_leasedJob_29 : decode cX0_leasedJob 29 = .ok (.iinc 2 1, 3) := by decide +kernel
theorem dX0_leasedJob_32 : decode cX0_leasedJob 32 = .ok (.goto (-30), 3) := by decide +kernel
theorem dX0_leasedJob_35 : decode cX0_leasedJob 35 = .ok (.iconst (-1), 1) := by decide +kernel
theorem dX0_leasedJob_36 : decode cX0_leasedJob 36 = .ok (.ireturn, 1) := by decide +kernel
theorem dX0_nextJob_0 : decode cX0_nextJob 0 = .ok (.iconst 0, 1) := by decide +kernel
theorem dX0_nextJob_1 : decode cX0_nextJob 1 = .ok (.istore_n 1, 1) := by decide +kernel
theorem dX0_nextJob_2 : decode cX0_nextJob 2 = .ok (.iload_n 1, 1) := by decide +kernel
theorem dX0_nextJob_3 : decode cX0_nextJob 3 = .ok (.iconst 4, 1) := by decide +kernel
theorem dX0_nextJob_4 : decode cX0_nextJob 4 = .ok (.if_icmp .ge 39, 3) := by decide +kernel
theorem dX0_nextJob_7 : decode cX0_nextJob 7 = .ok (.aload_n 0, 1) := by decide +kernel
theorem dX0_nextJob_8 : decode cX0_nextJob 8 = .ok (.getfield 15, 3) := by decide +kernel
theorem dX0_nextJob_11 : decode cX0_nextJob 11 = .ok (.iload_n 1, 1) := by decide +kernel
theorem dX0_nextJob_12 : decode cX0_nextJob 12 = .ok (.iaload, 1) := by decide +kernel
theorem dX0_nextJob_13 : decode cX0_nextJob 13 = .ok (.iconst 1, 1) := by decide +kernel
theorem dX0_nextJob_14 : decode cX0_nextJob 14 = .ok (.if_icmp .ne 23, 3) := by decide +kernel
theorem dX0_nextJob_17 : decode cX0_nextJob 17 = .ok (.aload_n 0, 1) := by decide +kernel
theorem dX0_nextJob_18 : decode cX0_nextJob 18 = .ok (.invokevirtual 32, 3) := by decide +kernel
theorem dX0_nextJob_21 : decode cX0_nextJob 21 = .ok (.iload_n 1, 1) := by decide +kernel
theorem dX0_nextJob_22 : decode cX0_nextJob 22 = .ok (.invokestatic 46, 3) := by decide +kernel
theorem dX0_nextJob_25 : decode cX0_nextJob 25 = .ok (.aload_n 0, 1) := by decide +kernel
theorem dX0_nextJob_26 : decode cX0_nextJob 26 = .ok (.invokevirtual 50, 3) := by decide +kernel
theorem dX0_nextJob_29 : decode cX0_nextJob 29 = .ok (.iconst (-1), 1) := by decide +kernel
theorem dX0_nextJob_30 : decode cX0_nextJob 30 = .ok (.ixor, 1) := by decide +kernel
theorem dX0_nextJob_31 : decode cX0_nextJob 31 = .ok (.iand, 1) := by decide +kernel
theorem dX0_nextJob_32 : decode cX0_nextJob 32 = .ok (.ifCond .ne 5, 3) := by decide +kernel
theorem dX0_nextJob_35 : decode cX0_nextJob 35 = .ok (.iload_n 1, 1) := by decide +kernel
theorem dX0_nextJob_36 : decode cX0_nextJob 36 = .ok (.ireturn, 1) := by decide +kernel
theorem dX0_nextJob_37 : decode cX0_nextJob 37 = .ok (.iinc 1 1, 3) := by decide +kernel
theorem dX0_nextJob_40 : decode cX0_nextJob 40 = .ok (.goto (-38), 3) := by decide +kernel
theorem dX0_nextJob_43 : decode cX0_nextJob 43 = .ok (.iconst (-1), 1) := by decide +kernel
theorem dX0_nextJob_44 : decode cX0_nextJob 44 = .ok (.ireturn, 1) := by decide +kernel
theorem dX0_lease_0 : decode cX0_lease 0 = .ok (.aload_n 0, 1) := by decide +kernel
theorem dX0_lease_1 : decode cX0_lease 1 = .ok (.getfield 15, 3) := by decide +kernel
theorem dX0_lease_4 : decode cX0_lease 4 = .ok (.iload_n 1, 1) := by decide +kernel
theorem dX0_lease_5 : decode cX0_lease 5 = .ok (.bipush 10, 2) := by decide +kernel
theorem dX0_lease_7 : decode cX0_lease 7 = .ok (.iload_n 2, 1) := by decide +kernel
theorem dX0_lease_8 : decode cX0_lease 8 = .ok (.iadd, 1) := by decide +kernel
theorem dX0_lease_9 : decode cX0_lease 9 = .ok (.iastore, 1) := by decide +kernel
theorem dX0_lease_10 : decode cX0_lease 10 = .ok (.aload_n 0, 1) := by decide +kernel
theorem dX0_lease_11 : decode cX0_lease 11 = .ok (.getfield 18, 3) := by decide +kernel
theorem dX0_lease_14 : decode cX0_lease 14 = .ok (.iload_n 1, 1) := by decide +kernel
theorem dX0_lease_15 : decode cX0_lease 15 = .ok (.dup2, 1) := by decide +kernel
theorem dX0_lease_16 : decode cX0_lease 16 = .ok (.iaload, 1) := by decide +kernel
theorem dX0_lease_17 : decode cX0_lease 17 = .ok (.iconst 1, 1) := by decide +kernel
theorem dX0_lease_18 : decode cX0_lease 18 = .ok (.iadd, 1) := by decide +kernel
theorem dX0_lease_19 : decode cX0_lease 19 = .ok (.iastore, 1) := by decide +kernel
theorem dX0_lease_20 : decode cX0_lease 20 = .ok (.aload_n 0, 1) := by decide +kernel
theorem dX0_lease_21 : decode cX0_lease 21 = .ok (.getfield 21, 3) := by decide +kernel
theorem dX0_lease_24 : decode cX0_lease 24 = .ok (.iload_n 2, 1) := by decide +kernel
theorem dX0_lease_25 : decode cX0_lease 25 = .ok (.iload_n 3, 1) := by decide +kernel
theorem dX0_lease_26 : decode cX0_lease 26 = .ok (.iastore, 1) := by decide +kernel
theorem dX0_lease_27 : decode cX0_lease 27 = .ok (.return_, 1) := by decide +kernel
theorem dX0_expireLease_0 : decode cX0_expireLease 0 = .ok (.aload_n 0, 1) := by decide +kernel
theorem dX0_expireLease_1 : decode cX0_expireLease 1 = .ok (.getfield 18, 3) := by decide +kernel
theorem dX0_expireLease_4 : decode cX0_expireLease 4 = .ok (.iload_n 1, 1) := by decide +kernel
theorem dX0_expireLease_5 : decode cX0_expireLease 5 = .ok (.iaload, 1) := by decide +kernel
theorem dX0_expireLease_6 : decode cX0_expireLease 6 = .ok (.iload_n 2, 1) := by decide +kernel
theorem dX0_expireLease_7 : decode cX0_expireLease 7 = .ok (.if_icmp .lt 11, 3) := by decide +kernel
theorem dX0_expireLease_10 : decode cX0_expireLease 10 = .ok (.aload_n 0, 1) := by decide +kernel
theorem dX0_expireLease_11 : decode cX0_expireLease 11 = .ok (.iload_n 1, 1) := by decide +kernel
theorem dX0_expireLease_12 : decode cX0_expireLease 12 = .ok (.invokevirtual 53, 3) := by decide +kernel
theorem dX0_expireLease_15 : decode cX0_expireLease 15 = .ok (.goto 10, 3) := by decide +kernel
theorem dX0_expireLease_18 : decode cX0_expireLease 18 = .ok (.aload_n 0, 1) := by decide +kernel
theorem dX0_expireLease_19 : decode cX0_expireLease 19 = .ok (.getfield 15, 3) := by decide +kernel
theorem dX0_expireLease_22 : decode cX0_expireLease 22 = .ok (.iload_n 1, 1) := by decide +kernel
theorem dX0_expireLease_23 : decode cX0_expireLease 23 = .ok (.iconst 1, 1) := by decide +kernel
theorem dX0_expireLease_24 : decode cX0_expireLease 24 = .ok (.iastore, 1) := by decide +kernel
theorem dX0_expireLease_25 : decode cX0_expireLease 25 = .ok (.return_, 1) := by decide +kernel
theorem dX0_failJob_0 : decode cX0_failJob 0 = .ok (.aload_n 0, 1) := by decide +kernel
theorem dX0_failJob_1 : decode cX0_failJob 1 = .ok (.invokevirtual 32, 3) := by decide +kernel
theorem dX0_failJob_4 : decode cX0_failJob 4 = .ok (.iload_n 1, 1) := by decide +kernel
theorem dX0_failJob_5 : decode cX0_failJob 5 = .ok (.invokestatic 57, 3) := by decide +kernel
theorem dX0_failJob_8 : decode cX0_failJob 8 = .ok (.iconst 1, 1) := by decide +kernel
theorem dX0_failJob_9 : decode cX0_failJob 9 = .ok (.iload_n 1, 1) := by decide +kernel
theorem dX0_failJob_10 : decode cX0_failJob 10 = .ok (.ishl, 1) := by decide +kernel
theorem dX0_failJob_11 : decode cX0_failJob 11 = .ok (.ior, 1) := by decide +kernel
theorem dX0_failJob_12 : decode cX0_failJob 12 = .ok (.istore_n 2, 1) := by decide +kernel
theorem dX0_failJob_13 : decode cX0_failJob 13 = .ok (.iconst 0, 1) := by decide +kernel
theorem dX0_failJob_14 : decode cX0_failJob 14 = .ok (.istore_n 3, 1) := by decide +kernel
theorem dX0_failJob_15 : decode cX0_failJob 15 = .ok (.iload_n 3, 1) := by decide +kernel
theorem dX0_failJob_16 : decode cX0_failJob 16 = .ok (.iconst 4, 1) := by decide +kernel
theorem dX0_failJob_17 : decode cX0_failJob 17 = .ok (.if_icmp .ge 24, 3) := by decide +kernel
theorem dX0_failJob_20 : decode cX0_failJob 20 = .ok (.iload_n 2, 1) := by decide +kernel
theorem dX0_failJob_21 : decode cX0_failJob 21 = .ok (.iload_n 3, 1) := by decide +kernel
theorem dX0_failJob_22 : decode cX0_failJob 22 = .ok (.ishr, 1) := by decide +kernel
theorem dX0_failJob_23 : decode cX0_failJob 23 = .ok (.iconst 1, 1) := by decide +kernel
theorem dX0_failJob_24 : decode cX0_failJob 24 = .ok (.iand, 1) := by decide +kernel
theorem dX0_failJob_25 : decode cX0_failJob 25 = .ok (.ifCond .eq 10, 3) := by decide +kernel
theorem dX0_failJob_28 : decode cX0_failJob 28 = .ok (.aload_n 0, 1) := by decide +kernel
theorem dX0_failJob_29 : decode cX0_failJob 29 = .ok (.getfield 15, 3) := by decide +kernel
theorem dX0_failJob_32 : decode cX0_failJob 32 = .ok (.iload_n 3, 1) := by decide +kernel
theorem dX0_failJob_33 : decode cX0_failJob 33 = .ok (.iconst 3, 1) := by decide +kernel
theorem dX0_failJob_34 : decode cX0_failJob 34 = .ok (.iastore, 1) := by decide +kernel
theorem dX0_failJob_35 : decode cX0_failJob 35 = .ok (.iinc 3 1, 3) := by decide +kernel
theorem dX0_failJob_38 : decode cX0_failJob 38 = .ok (.goto (-23), 3) := by decide +kernel
theorem dX0_failJob_41 : decode cX0_failJob 41 = .ok (.return_, 1) := by decide +kernel
theorem dX0_firstFailedRequired_0 : decode cX0_firstFailedRequired 0 = .ok (.iconst 0, 1) := by decide +kernel
theorem dX0_firstFailedRequired_1 : decode cX0_firstFailedRequired 1 = .ok (.istore_n 1, 1) := by decide +kernel
theorem dX0_firstFailedRequired_2 : decode cX0_firstFailedRequired 2 = .ok (.iload_n 1, 1) := by decide +kernel
theorem dX0_firstFailedRequired_3 : decode cX0_firstFailedRequired 3 = .ok (.iconst 4, 1) := by decide +kernel
theorem dX0_firstFailedRequired_4 : decode cX0_firstFailedRequired 4 = .ok (.if_icmp .ge 32, 3) := by decide +kernel
theorem dX0_firstFailedRequired_7 : decode cX0_firstFailedRequired 7 = .ok (.aload_n 0, 1) := by decide +kernel
theorem dX0_firstFailedRequired_8 : decode cX0_firstFailedRequired 8 = .ok (.getfield 15, 3) := by decide +kernel
theorem dX0_firstFailedRequired_11 : decode cX0_firstFailedRequired 11 = .ok (.iload_n 1, 1) := by decide +kernel
theorem dX0_firstFailedRequired_12 : decode cX0_firstFailedRequired 12 = .ok (.iaload, 1) := by decide +kernel
theorem dX0_firstFailedRequired_13 : decode cX0_firstFailedRequired 13 = .ok (.iconst 3, 1) := by decide +kernel
theorem dX0_firstFailedRequired_14 : decode cX0_firstFailedRequired 14 = .ok (.if_icmp .ne 16, 3) := by decide +kernel
theorem dX0_firstFailedRequired_17 : decode cX0_firstFailedRequired 17 = .ok (.aload_n 0, 1) := by decide +kernel
theorem dX0_firstFailedRequired_18 : decode cX0_firstFailedRequired 18 = .ok (.invokevirtual 32, 3) := by decide +kernel
theorem dX0_firstFailedRequired_21 : decode cX0_firstFailedRequired 21 = .ok (.iload_n 1, 1) := by decide +kernel
theorem dX0_firstFailedRequired_22 : decode cX0_firstFailedRequired 22 = .ok (.invokestatic 60, 3) := by decide +kernel
theorem dX0_firstFailedRequired_25 : decode cX0_firstFailedRequired 25 = .ok (.ifCond .eq 5, 3) := by decide +kernel
theorem dX0_firstFailedRequired_28 : decode cX0_firstFailedRequired 28 = .ok (.iload_n 1, 1) := by decide +kernel
theorem dX0_firstFailedRequired_29 : decode cX0_firstFailedRequired 29 = .ok (.ireturn, 1) := by decide +kernel
theorem dX0_firstFailedRequired_30 : decode cX0_firstFailedRequired 30 = .ok (.iinc 1 1, 3) := by decide +kernel
theorem dX0_firstFailedRequired_33 : decode cX0_firstFailedRequired 33 = .ok (.goto (-31), 3) := by decide +kernel
theorem dX0_firstFailedRequired_36 : decode cX0_firstFailedRequired 36 = .ok (.iconst (-1), 1) := by decide +kernel
theorem dX0_firstFailedRequired_37 : decode cX0_firstFailedRequired 37 = .ok (.ireturn, 1) := by decide +kernel
theorem dX0_hasPassedRequired_0 : decode cX0_hasPassedRequired 0 = .ok (.iconst 0, 1) := by decide +kernel
theorem dX0_hasPassedRequired_1 : decode cX0_hasPassedRequired 1 = .ok (.istore_n 1, 1) := by decide +kernel
theorem dX0_hasPassedRequired_2 : decode cX0_hasPassedRequired 2 = .ok (.iload_n 1, 1) := by decide +kernel
theorem dX0_hasPassedRequired_3 : decode cX0_hasPassedRequired 3 = .ok (.iconst 4, 1) := by decide +kernel
theorem dX0_hasPassedRequired_4 : decode cX0_hasPassedRequired 4 = .ok (.if_icmp .ge 32, 3) := by decide +kernel
theorem dX0_hasPassedRequired_7 : decode cX0_hasPassedRequired 7 = .ok (.aload_n 0, 1) := by decide +kernel
theorem dX0_hasPassedRequired_8 : decode cX0_hasPassedRequired 8 = .ok (.getfield 15, 3) := by decide +kernel
theorem dX0_hasPassedRequired_11 : decode cX0_hasPassedRequired 11 = .ok (.iload_n 1, 1) := by decide +kernel
theorem dX0_hasPassedRequired_12 : decode cX0_hasPassedRequired 12 = .ok (.iaload, 1) := by decide +kernel
theorem dX0_hasPassedRequired_13 : decode cX0_hasPassedRequired 13 = .ok (.iconst 2, 1) := by decide +kernel
theorem dX0_hasPassedRequired_14 : decode cX0_hasPassedRequired 14 = .ok (.if_icmp .eq 16, 3) := by decide +kernel
theorem dX0_hasPassedRequired_17 : decode cX0_hasPassedRequired 17 = .ok (.aload_n 0, 1) := by decide +kernel
theorem dX0_hasPassedRequired_18 : decode cX0_hasPassedRequired 18 = .ok (.invokevirtual 32, 3) := by decide +kernel
theorem dX0_hasPassedRequired_21 : decode cX0_hasPassedRequired 21 = .ok (.iload_n 1, 1) := by decide +kernel
theorem dX0_hasPassedRequired_22 : decode cX0_hasPassedRequired 22 = .ok (.invokestatic 60, 3) := by decide +kernel
theorem dX0_hasPassedRequired_25 : decode cX0_hasPassedRequired 25 = .ok (.ifCond .eq 5, 3) := by decide +kernel
theorem dX0_hasPassedRequired_28 : decode cX0_hasPassedRequired 28 = .ok (.iconst 0, 1) := by decide +kernel
theorem dX0_hasPassedRequired_29 : decode cX0_hasPassedRequired 29 = .ok (.ireturn, 1) := by decide +kernel
theorem dX0_hasPassedRequired_30 : decode cX0_hasPassedRequired 30 = .ok (.iinc 1 1, 3) := by decide +kernel
theorem dX0_hasPassedRequired_33 : decode cX0_hasPassedRequired 33 = .ok (.goto (-31), 3) := by decide +kernel
theorem dX0_hasPassedRequired_36 : decode cX0_hasPassedRequired 36 = .ok (.iconst 1, 1) := by decide +kernel
theorem dX0_hasPassedRequired_37 : decode cX0_hasPassedRequired 37 = .ok (.ireturn, 1) := by decide +kernel
theorem dX0_passedJobs_0 : decode cX0_passedJobs 0 = .ok (.iconst 0, 1) := by decide +kernel
theorem dX0_passedJobs_1 : decode cX0_passedJobs 1 = .ok (.istore_n 1, 1) := by decide +kernel
theorem dX0_passedJobs_2 : decode cX0_passedJobs 2 = .ok (.iconst 0, 1) := by decide +kernel
theorem dX0_passedJobs_3 : decode cX0_passedJobs 3 = .ok (.istore_n 2, 1) := by decide +kernel
theorem dX0_passedJobs_4 : decode cX0_passedJobs 4 = .ok (.iload_n 2, 1) := by decide +kernel
theorem dX0_passedJobs_5 : decode cX0_passedJobs 5 = .ok (.iconst 4, 1) := by decide +kernel
theorem dX0_passedJobs_6 : decode cX0_passedJobs 6 = .ok (.if_icmp .ge 25, 3) := by decide +kernel
theorem dX0_passedJobs_9 : decode cX0_passedJobs 9 = .ok (.aload_n 0, 1) := by decide +kernel
theorem dX0_passedJobs_10 : decode cX0_passedJobs 10 = .ok (.getfield 15, 3) := by decide +kernel
theorem dX0_passedJobs_13 : decode cX0_passedJobs 13 = .ok (.iload_n 2, 1) := by decide +kernel
theorem dX0_passedJobs_14 : decode cX0_passedJobs 14 = .ok (.iaload, 1) := by decide +kernel
theorem dX0_passedJobs_15 : decode cX0_passedJobs 15 = .ok (.iconst 2, 1) := by decide +kernel
theorem dX0_passedJobs_16 : decode cX0_passedJobs 16 = .ok (.if_icmp .ne 9, 3) := by decide +kernel
theorem dX0_passedJobs_19 : decode cX0_passedJobs 19 = .ok (.iload_n 1, 1) := by decide +kernel
theorem dX0_passedJobs_20 : decode cX0_passedJobs 20 = .ok (.iconst 1, 1) := by decide +kernel
theorem dX0_passedJobs_21 : decode cX0_passedJobs 21 = .ok (.iload_n 2, 1) := by decide +kernel
theorem dX0_passedJobs_22 : decode cX0_passedJobs 22 = .ok (.ishl, 1) := by decide +kernel
theorem dX0_passedJobs_23 : decode cX0_passedJobs 23 = .ok (.ior, 1) := by decide +kernel
theorem dX0_passedJobs_24 : decode cX0_passedJobs 24 = .ok (.istore_n 1, 1) := by decide +kernel
theorem dX0_passedJobs_25 : decode cX0_passedJobs 25 = .ok (.iinc 2 1, 3) := by decide +kernel
theorem dX0_passedJobs_28 : decode cX0_passedJobs 28 = .ok (.goto (-24), 3) := by decide +kernel
theorem dX0_passedJobs_31 : decode cX0_passedJobs 31 = .ok (.iload_n 1, 1) := by decide +kernel
theorem dX0_passedJobs_32 : decode cX0_passedJobs 32 = .ok (.ireturn, 1) := by decide +kernel
theorem dX1_init_0 : decode cX1_init 0 = .ok (.aload_n 0, 1) := by decide +kernel
theorem dX1_init_1 : decode cX1_init 1 = .ok (.invokespecial 3, 3) := by decide +kernel
theorem dX1_init_4 : decode cX1_init 4 = .ok (.aload_n 0, 1) := by decide +kernel
theorem dX1_init_5 : decode cX1_init 5 = .ok (.bipush 6, 2) := by decide +kernel
theorem dX1_init_7 : decode cX1_init 7 = .ok (.newarray .int, 2) := by decide +kernel
theorem dX1_init_9 : decode cX1_init 9 = .ok (.putfield 9, 3) := by decide +kernel
theorem dX1_init_12 : decode cX1_init 12 = .ok (.aload_n 0, 1) := by decide +kernel
theorem dX1_init_13 : decode cX1_init 13 = .ok (.bipush 6, 2) := by decide +kernel
theorem dX1_init_15 : decode cX1_init 15 = .ok (.newarray .int, 2) := by decide +kernel
theorem dX1_init_17 : decode cX1_init 17 = .ok (.putfield 15, 3) := by decide +kernel
theorem dX1_init_20 : decode cX1_init 20 = .ok (.return_, 1) := by decide +kernel
theorem dX1_copyFrom_0 : decode cX1_copyFrom 0 = .ok (.aload_n 1, 1) := by decide +kernel
theorem dX1_copyFrom_1 : decode cX1_copyFrom 1 = .ok (.getfield 9, 3) := by decide +kernel
theorem dX1_copyFrom_4 : decode cX1_copyFrom 4 = .ok (.aload_n 0, 1) := by decide +kernel
theorem dX1_copyFrom_5 : decode cX1_copyFrom 5 = .ok (.getfield 9, 3) := by decide +kernel
theorem dX1_copyFrom_8 : decode cX1_copyFrom 8 = .ok (.invokestatic 18, 3) := by decide +kernel
theorem dX1_copyFrom_11 : decode cX1_copyFrom 11 = .ok (.aload_n 1, 1) := by decide +kernel
theorem dX1_copyFrom_12 : decode cX1_copyFrom 12 = .ok (.getfield 15, 3) := by decide +kernel
theorem dX1_copyFrom_15 : decode cX1_copyFrom 15 = .ok (.aload_n 0, 1) := by decide +kernel
theorem dX1_copyFrom_16 : decode cX1_copyFrom 16 = .ok (.getfield 15, 3) := by decide +kernel
theorem dX1_copyFrom_19 : decode cX1_copyFrom 19 = .ok (.invokestatic 18, 3) := by decide +kernel
theorem dX1_copyFrom_22 : decode cX1_copyFrom 22 = .ok (.aload_n 0, 1) := by decide +kernel
theorem dX1_copyFrom_23 : decode cX1_copyFrom 23 = .ok (.aload_n 1, 1) := by decide +kernel
theorem dX1_copyFrom_24 : decode cX1_copyFrom 24 = .ok (.getfield 22, 3) := by decide +kernel
theorem dX1_copyFrom_27 : decode cX1_copyFrom 27 = .ok (.putfield 22, 3) := by decide +kernel
theorem dX1_copyFrom_30 : decode cX1_copyFrom 30 = .ok (.aload_n 0, 1) := by decide +kernel
theorem dX1_copyFrom_31 : decode cX1_copyFrom 31 = .ok (.aload_n 1, 1) := by decide +kernel
theorem dX1_copyFrom_32 : decode cX1_copyFrom 32 = .ok (.getfield 26, 3) := by decide +kernel
theorem dX1_copyFrom_35 : decode cX1_copyFrom 35 = .ok (.putfield 26, 3) := by decide +kernel
theorem dX1_copyFrom_38 : decode cX1_copyFrom 38 = .ok (.aload_n 0, 1) := by decide +kernel
theorem dX1_copyFrom_39 : decode cX1_copyFrom 39 = .ok (.aload_n 1, 1) := by decide +kernel
theorem dX1_copyFrom_40 : decode cX1_copyFrom 40 = .ok (.getfield 29, 3) := by decide +kernel
theorem dX1_copyFrom_43 : decode cX1_copyFrom 43 = .ok (.putfield 29, 3) := by decide +kernel
theorem dX1_copyFrom_46 : decode cX1_copyFrom 46 = .ok (.aload_n 0, 1) := by decide +kernel
theorem dX1_copyFrom_47 : decode cX1_copyFrom 47 = .ok (.aload_n 1, 1) := by decide +kernel
theorem dX1_copyFrom_48 : decode cX1_copyFrom 48 = .ok (.getfield 32, 3) := by decide +kernel
theorem dX1_copyFrom_51 : decode cX1_copyFrom 51 = .ok (.putfield 32, 3) := by decide +kernel
theorem dX1_copyFrom_54 : decode cX1_copyFrom 54 = .ok (.return_, 1) := by decide +kernel
theorem dX1_startFrom_0 : decode cX1_startFrom 0 = .ok (.aload_n 1, 1) := by decide +kernel
theorem dX1_startFrom_1 : decode cX1_startFrom 1 = .ok (.aload_n 0, 1) := by decide +kernel
theorem dX1_startFrom_2 : decode cX1_startFrom 2 = .ok (.getfield 9, 3) := by decide +kernel
theorem dX1_startFrom_5 : decode cX1_startFrom 5 = .ok (.invokestatic 18, 3) := by decide +kernel
theorem dX1_startFrom_8 : decode cX1_startFrom 8 = .ok (.aload_n 1, 1) := by decide +kernel
theorem dX1_startFrom_9 : decode cX1_startFrom 9 = .ok (.aload_n 0, 1) := by decide +kernel
theorem dX1_startFrom_10 : decode cX1_startFrom 10 = .ok (.getfield 15, 3) := by decide +kernel
theorem dX1_startFrom_13 : decode cX1_startFrom 13 = .ok (.invokestatic 18, 3) := by decide +kernel
theorem dX1_startFrom_16 : decode cX1_startFrom 16 = .ok (.aload_n 0, 1) := by decide +kernel
theorem dX1_startFrom_17 : decode cX1_startFrom 17 = .ok (.iconst 0, 1) := by decide +kernel
theorem dX1_startFrom_18 : decode cX1_startFrom 18 = .ok (.iconst 0, 1) := by decide +kernel
theorem dX1_startFrom_19 : decode cX1_startFrom 19 = .ok (.invokevirtual 35, 3) := by decide +kernel
theorem dX1_startFrom_22 : decode cX1_startFrom 22 = .ok (.aload_n 0, 1) := by decide +kernel
theorem dX1_startFrom_23 : decode cX1_startFrom 23 = .ok (.invokevirtual 39, 3) := by decide +kernel
theorem dX1_startFrom_26 : decode cX1_startFrom 26 = .ok (.return_, 1) := by decide +kernel
theorem dX1_become_0 : decode cX1_become 0 = .ok (.aload_n 0, 1) := by decide +kernel
theorem dX1_become_1 : decode cX1_become 1 = .ok (.iload_n 1, 1) := by decide +kernel
theorem dX1_become_2 : decode cX1_become 2 = .ok (.putfield 22, 3) := by decide +kernel
theorem dX1_become_5 : decode cX1_become 5 = .ok (.aload_n 0, 1) := by decide +kernel
theorem dX1_become_6 : decode cX1_become 6 = .ok (.iload_n 2, 1) := by decide +kernel
theorem dX1_become_7 : decode cX1_become 7 = .ok (.putfield 26, 3) := by decide +kernel
theorem dX1_become_10 : decode cX1_become 10 = .ok (.return_, 1) := by decide +kernel
theorem dX1_setContent_0 : decode cX1_setContent 0 = .ok (.aload_n 0, 1) := by decide +kernel
theorem dX1_setContent_1 : decode cX1_setContent 1 = .ok (.getfield 15, 3) := by decide +kernel
theorem dX1_setContent_4 : decode cX1_setContent 4 = .ok (.iload_n 1, 1) := by decide +kernel
theorem dX1_setContent_5 : decode cX1_setContent 5 = .ok (.iload_n 2, 1) := by decide +kernel
theorem dX1_setContent_6 : decode cX1_setContent 6 = .ok (.iastore, 1) := by decide +kernel
theorem dX1_setContent_7 : decode cX1_setContent 7 = .ok (.aload_n 0, 1) := by decide +kernel
theorem dX1_setContent_8 : decode cX1_setContent 8 = .ok (.invokevirtual 39, 3) := by decide +kernel
theorem dX1_setContent_11 : decode cX1_setContent 11 = .ok (.return_, 1) := by decide +kernel
theorem dX1_dropReviews_0 : decode cX1_dropReviews 0 = .ok (.aload_n 0, 1) := by decide +kernel
theorem dX1_dropReviews_1 : decode cX1_dropReviews 1 = .ok (.iconst 0, 1) := by decide +kernel
theorem dX1_dropReviews_2 : decode cX1_dropReviews 2 = .ok (.putfield 29, 3) := by decide +kernel
theorem dX1_dropReviews_5 : decode cX1_dropReviews 5 = .ok (.aload_n 0, 1) := by decide +kernel
theorem dX1_dropReviews_6 : decode cX1_dropReviews 6 = .ok (.iconst 0, 1) := by decide +kernel
theorem dX1_dropReviews_7 : decode cX1_dropReviews 7 = .ok (.putfield 32, 3) := by decide +kernel
theorem dX1_dropReviews_10 : decode cX1_dropReviews 10 = .ok (.return_, 1) := by decide +kernel
theorem dX1_addSupporter_0 : decode cX1_addSupporter 0 = .ok (.aload_n 0, 1) := by decide +kernel
theorem dX1_addSupporter_1 : decode cX1_addSupporter 1 = .ok (.dup, 1) := by decide +kernel
theorem dX1_addSupporter_2 : decode cX1_addSupporter 2 = .ok (.getfield 29, 3) := by decide +kernel
theorem dX1_addSupporter_5 : decode cX1_addSupporter 5 = .ok (.iconst 1, 1) := by decide +kernel
theorem dX1_addSupporter_6 : decode cX1_addSupporter 6 = .ok (.iload_n 1, 1) := by decide +kernel
theorem dX1_addSupporter_7 : decode cX1_addSupporter 7 = .ok (.ishl, 1) := by decide +kernel
theorem dX1_addSupporter_8 : decode cX1_addSupporter 8 = .ok (.ior, 1) := by decide +kernel
theorem dX1_addSupporter_9 : decode cX1_addSupporter 9 = .ok (.putfield 29, 3) := by decide +kernel
theorem dX1_addSupporter_12 : decode cX1_addSupporter 12 = .ok (.aload_n 0, 1) := by decide +kernel
theorem dX1_addSupporter_13 : decode cX1_addSupporter 13 = .ok (.dup, 1) := by decide +kernel
theorem dX1_addSupporter_14 : decode cX1_addSupporter 14 = .ok (.getfield 32, 3) := by decide +kernel
theorem dX1_addSupporter_17 : decode cX1_addSupporter 17 = .ok (.iconst 1, 1) := by decide +kernel
theorem dX1_addSupporter_18 : decode cX1_addSupporter 18 = .ok (.iload_n 1, 1) := by decide +kernel
theorem dX1_addSupporter_19 : decode cX1_addSupporter 19 = .ok (.ishl, 1) := by decide +kernel
theorem dX1_addSupporter_20 : decode cX1_addSupporter 20 = .ok (.iconst (-1), 1) := by decide +kernel
theorem dX1_addSupporter_21 : decode cX1_addSupporter 21 = .ok (.ixor, 1) := by decide +kernel
theorem dX1_addSupporter_22 : decode cX1_addSupporter 22 = .ok (.iand, 1) := by decide +kernel
theorem dX1_addSupporter_23 : decode cX1_addSupporter 23 = .ok (.putfield 32, 3) := by decide +kernel
theorem dX1_addSupporter_26 : decode cX1_addSupporter 26 = .ok (.return_, 1) := by decide +kernel
theorem dX1_addOpponent_0 : decode cX1_addOpponent 0 = .ok (.aload_n 0, 1) := by decide +kernel
theorem dX1_addOpponent_1 : decode cX1_addOpponent 1 = .ok (.dup, 1) := by decide +kernel
theorem dX1_addOpponent_2 : decode cX1_addOpponent 2 = .ok (.getfield 32, 3) := by decide +kernel
theorem dX1_addOpponent_5 : decode cX1_addOpponent 5 = .ok (.iconst 1, 1) := by decide +kernel
theorem dX1_addOpponent_6 : decode cX1_addOpponent 6 = .ok (.iload_n 1, 1) := by decide +kernel
theorem dX1_addOpponent_7 : decode cX1_addOpponent 7 = .ok (.ishl, 1) := by decide +kernel
theorem dX1_addOpponent_8 : decode cX1_addOpponent 8 = .ok (.ior, 1) := by decide +kernel
theorem dX1_addOpponent_9 : decode cX1_addOpponent 9 = .ok (.putfield 32, 3) := by decide +kernel
theorem dX1_addOpponent_12 : decode cX1_addOpponent 12 = .ok (.aload_n 0, 1) := by decide +kernel
theorem dX1_addOpponent_13 : decode cX1_addOpponent 13 = .ok (.dup, 1) := by decide +kernel
theorem dX1_addOpponent_14 : decode cX1_addOpponent 14 = .ok (.getfield 29, 3) := by decide +kernel
theorem dX1_addOpponent_17 : decode cX1_addOpponent 17 = .ok (.iconst 1, 1) := by decide +kernel
theorem dX1_addOpponent_18 : decode cX1_addOpponent 18 = .ok (.iload_n 1, 1) := by decide +kernel
theorem dX1_addOpponent_19 : decode cX1_addOpponent 19 = .ok (.ishl, 1) := by decide +kernel
theorem dX1_addOpponent_20 : decode cX1_addOpponent 20 = .ok (.iconst (-1), 1) := by decide +kernel
theorem dX1_addOpponent_21 : decode cX1_addOpponent 21 = .ok (.ixor, 1) := by decide +kernel
theorem dX1_addOpponent_22 : decode cX1_addOpponent 22 = .ok (.iand, 1) := by decide +kernel
theorem dX1_addOpponent_23 : decode cX1_addOpponent 23 = .ok (.putfield 29, 3) := by decide +kernel
theorem dX1_addOpponent_26 : decode cX1_addOpponent 26 = .ok (.return_, 1) := by decide +kernel
theorem dX1_countFor_0 : decode cX1_countFor 0 = .ok (.aload_n 0, 1) := by decide +kernel
theorem dX1_countFor_1 : decode cX1_countFor 1 = .ok (.getfield 29, 3) := by decide +kernel
theorem dX1_countFor_4 : decode cX1_countFor 4 = .ok (.invokestatic 42, 3) := by decide +kernel
theorem dX1_countFor_7 : decode cX1_countFor 7 = .ok (.ireturn, 1) := by decide +kernel
theorem dX1_countAgainst_0 : decode cX1_countAgainst 0 = .ok (.aload_n 0, 1) := by decide +kernel
theorem dX1_countAgainst_1 : decode cX1_countAgainst 1 = .ok (.getfield 32, 3) := by decide +kernel
theorem dX1_countAgainst_4 : decode cX1_countAgainst 4 = .ok (.invokestatic 42, 3) := by decide +kernel
theorem dX1_countAgainst_7 : decode cX1_countAgainst 7 = .ok (.ireturn, 1) := by decide +kernel
theorem dX1_conflictsWith_0 : decode cX1_conflictsWith 0 = .ok (.iconst 0, 1) := by decide +kernel
theorem dX1_conflictsWith_1 : decode cX1_conflictsWith 1 = .ok (.istore_n 2, 1) := by decide +kernel
theorem dX1_conflictsWith_2 : decode cX1_conflictsWith 2 = .ok (.iload_n 2, 1) := by decide +kernel
theorem dX1_conflictsWith_3 : decode cX1_conflictsWith 3 = .ok (.bipush 6, 2) := by decide +kernel
theorem dX1_conflictsWith_5 : decode cX1_conflictsWith 5 = .ok (.if_icmp .ge 60, 3) := by decide +kernel
theorem dX1_conflictsWith_8 : decode cX1_conflictsWith 8 = .ok (.aload_n 0, 1) := by decide +kernel
theorem dX1_conflictsWith_9 : decode cX1_conflictsWith 9 = .ok (.getfield 15, 3) := by decide +kernel
theorem dX1_conflictsWith_12 : decode cX1_conflictsWith 12 = .ok (.iload_n 2, 1) := by decide +kernel
theorem dX1_conflictsWith_13 : decode cX1_conflictsWith 13 = .ok (.iaload, 1) := by decide +kernel
theorem dX1_conflictsWith_14 : decode cX1_conflictsWith 14 = .ok (.aload_n 0, 1) := by decide +kernel
theorem dX1_conflictsWith_15 : decode cX1_conflictsWith 15 = .ok (.getfield 9, 3) := by decide +kernel
theorem dX1_conflictsWith_18 : decode cX1_conflictsWith 18 = .ok (.iload_n 2, 1) := by decide +kernel
theorem dX1_conflictsWith_19 : decode cX1_conflictsWith 19 = .ok (.iaload, 1) := by decide +kernel
theorem dX1_conflictsWith_20 : decode cX1_conflictsWith 20 = .ok (.if_icmp .eq 7, 3) := by decide +kernel
theorem dX1_conflictsWith_23 : decode cX1_conflictsWith 23 = .ok (.iconst 1, 1) := by decide +kernel
theorem dX1_conflictsWith_24 : decode cX1_conflictsWith 24 = .ok (.goto 4, 3) := by decide +kernel
theorem dX1_conflictsWith_27 : decode cX1_conflictsWith 27 = .ok (.iconst 0, 1) := by decide +kernel
theorem dX1_conflictsWith_28 : decode cX1_conflictsWith 28 = .ok (.istore_n 3, 1) := by decide +kernel
theorem dX1_conflictsWith_29 : decode cX1_conflictsWith 29 = .ok (.iload_n 3, 1) := by decide +kernel
theorem dX1_conflictsWith_30 : decode cX1_conflictsWith 30 = .ok (.ifCond .eq 29, 3) := by decide +kernel
theorem dX1_conflictsWith_33 : decode cX1_conflictsWith 33 = .ok (.aload_n 1, 1) := by decide +kernel
theorem dX1_conflictsWith_34 : decode cX1_conflictsWith 34 = .ok (.iload_n 2, 1) := by decide +kernel
theorem dX1_conflictsWith_35 : decode cX1_conflictsWith 35 = .ok (.iaload, 1) := by decide +kernel
theorem dX1_conflictsWith_36 : decode cX1_conflictsWith 36 = .ok (.aload_n 0, 1) := by decide +kernel
theorem dX1_conflictsWith_37 : decode cX1_conflictsWith 37 = .ok (.getfield 9, 3) := by decide +kernel
theorem dX1_conflictsWith_40 : decode cX1_conflictsWith 40 = .ok (.iload_n 2, 1) := by decide +kernel
theorem dX1_conflictsWith_41 : decode cX1_conflictsWith 41 = .ok (.iaload, 1) := by decide +kernel
theorem dX1_conflictsWith_42 : decode cX1_conflictsWith 42 = .ok (.if_icmp .eq 17, 3) := by decide +kernel
theorem dX1_conflictsWith_45 : decode cX1_conflictsWith 45 = .ok (.aload_n 1, 1) := by decide +kernel
theorem dX1_conflictsWith_46 : decode cX1_conflictsWith 46 = .ok (.iload_n 2, 1) := by decide +kernel
theorem dX1_conflictsWith_47 : decode cX1_conflictsWith 47 = .ok (.iaload, 1) := by decide +kernel
theorem dX1_conflictsWith_48 : decode cX1_conflictsWith 48 = .ok (.aload_n 0, 1) := by decide +kernel
theorem dX1_conflictsWith_49 : decode cX1_conflictsWith 49 = .ok (.getfield 15, 3) := by decide +kernel
theorem dX1_conflictsWith_52 : decode cX1_conflictsWith 52 = .ok (.iload_n 2, 1) := by decide +kernel
theorem dX1_conflictsWith_53 : decode cX1_conflictsWith 53 = .ok (.iaload, 1) := by decide +kernel
theorem dX1_conflictsWith_54 : decode cX1_conflictsWith 54 = .ok (.if_icmp .eq 5, 3) := by decide +kernel
theorem dX1_conflictsWith_57 : decode cX1_conflictsWith 57 = .ok (.iconst 1, 1) := by decide +kernel
theorem dX1_conflictsWith_58 : decode cX1_conflictsWith 58 = .ok (.ireturn, 1) := by decide +kernel
theorem dX1_conflictsWith_59 : decode cX1_conflictsWith 59 = .ok (.iinc 2 1, 3) := by decide +kernel
theorem dX1_conflictsWith_62 : decode cX1_conflictsWith 62 = .ok (.goto (-60), 3) := by decide +kernel
theorem dX1_conflictsWith_65 : decode cX1_conflictsWith 65 = .ok (.iconst 0, 1) := by decide +kernel
theorem dX1_conflictsWith_66 : decode cX1_conflictsWith 66 = .ok (.ireturn, 1) := by decide +kernel
theorem dX1_mergeInto_0 : decode cX1_mergeInto 0 = .ok (.iconst 0, 1) := by decide +kernel
theorem dX1_mergeInto_1 : decode cX1_mergeInto 1 = .ok (.istore_n 2, 1) := by decide +kernel
theorem dX1_mergeInto_2 : decode cX1_mergeInto 2 = .ok (.iload_n 2, 1) := by decide +kernel
theorem dX1_mergeInto_3 : decode cX1_mergeInto 3 = .ok (.bipush 6, 2) := by decide +kernel
theorem dX1_mergeInto_5 : decode cX1_mergeInto 5 = .ok (.if_icmp .ge 33, 3) := by decide +kernel
theorem dX1_mergeInto_8 : decode cX1_mergeInto 8 = .ok (.aload_n 0, 1) := by decide +kernel
theorem dX1_mergeInto_9 : decode cX1_mergeInto 9 = .ok (.getfield 15, 3) := by decide +kernel
theorem dX1_mergeInto_12 : decode cX1_mergeInto 12 = .ok (.iload_n 2, 1) := by decide +kernel
theorem dX1_mergeInto_13 : decode cX1_mergeInto 13 = .ok (.iaload, 1) := by decide +kernel
theorem dX1_mergeInto_14 : decode cX1_mergeInto 14 = .ok (.aload_n 0, 1) := by decide +kernel
theorem dX1_mergeInto_15 : decode cX1_mergeInto 15 = .ok (.getfield 9, 3) := by decide +kernel
theorem dX1_mergeInto_18 : decode cX1_mergeInto 18 = .ok (.iload_n 2, 1) := by decide +kernel
theorem dX1_mergeInto_19 : decode cX1_mergeInto 19 = .ok (.iaload, 1) := by decide +kernel
theorem dX1_mergeInto_20 : decode cX1_mergeInto 20 = .ok (.if_icmp .eq 12, 3) := by decide +kernel
theorem dX1_mergeInto_23 : decode cX1_mergeInto 23 = .ok (.aload_n 1, 1) := by decide +kernel
theorem dX1_mergeInto_24 : decode cX1_mergeInto 24 = .ok (.iload_n 2, 1) := by decide +kernel
theorem dX1_mergeInto_25 : decode cX1_mergeInto 25 = .ok (.aload_n 0, 1) := by decide +kernel
theorem dX1_mergeInto_26 : decode cX1_mergeInto 26 = .ok (.getfield 15, 3) := by decide +kernel
theorem dX1_mergeInto_29 : decode cX1_mergeInto 29 = .ok (.iload_n 2, 1) := by decide +kernel
theorem dX1_mergeInto_30 : decode cX1_mergeInto 30 = .ok (.iaload, 1) := by decide +kernel
theorem dX1_mergeInto_31 : decode cX1_mergeInto 31 = .ok (.iastore, 1) := by decide +kernel
theorem dX1_mergeInto_32 : decode cX1_mergeInto 32 = .ok (.iinc 2 1, 3) := by decide +kernel
theorem dX1_mergeInto_35 : decode cX1_mergeInto 35 = .ok (.goto (-33), 3) := by decide +kernel
theorem dX1_mergeInto_38 : decode cX1_mergeInto 38 = .ok (.return_, 1) := by decide +kernel
theorem dX1_moveOnto_0 : decode cX1_moveOnto 0 = .ok (.iconst 0, 1) := by decide +kernel
theorem dX1_moveOnto_1 : decode cX1_moveOnto 1 = .ok (.istore_n 2, 1) := by decide +kernel
theorem dX1_moveOnto_2 : decode cX1_moveOnto 2 = .ok (.iload_n 2, 1) := by decide +kernel
theorem dX1_moveOnto_3 : decode cX1_moveOnto 3 = .ok (.bipush 6, 2) := by decide +kernel
theorem dX1_moveOnto_5 : decode cX1_moveOnto 5 = .ok (.if_icmp .ge 33, 3) := by decide +kernel
theorem dX1_moveOnto_8 : decode cX1_moveOnto 8 = .ok (.aload_n 0, 1) := by decide +kernel
theorem dX1_moveOnto_9 : decode cX1_moveOnto 9 = .ok (.getfield 15, 3) := by decide +kernel
theorem dX1_moveOnto_12 : decode cX1_moveOnto 12 = .ok (.iload_n 2, 1) := by decide +kernel
theorem dX1_moveOnto_13 : decode cX1_moveOnto 13 = .ok (.iaload, 1) := by decide +kernel
theorem dX1_moveOnto_14 : decode cX1_moveOnto 14 = .ok (.aload_n 0, 1) := by decide +kernel
theorem dX1_moveOnto_15 : decode cX1_moveOnto 15 = .ok (.getfield 9, 3) := by decide +kernel
theorem dX1_moveOnto_18 : decode cX1_moveOnto 18 = .ok (.iload_n 2, 1) := by decide +kernel
theorem dX1_moveOnto_19 : decode cX1_moveOnto 19 = .ok (.iaload, 1) := by decide +kernel
theorem dX1_moveOnto_20 : decode cX1_moveOnto 20 = .ok (.if_icmp .ne 12, 3) := by decide +kernel
theorem dX1_moveOnto_23 : decode cX1_moveOnto 23 = .ok (.aload_n 0, 1) := by decide +kernel
theorem dX1_moveOnto_24 : decode cX1_moveOnto 24 = .ok (.getfield 15, 3) := by decide +kernel
theorem dX1_moveOnto_27 : decode cX1_moveOnto 27 = .ok (.iload_n 2, 1) := by decide +kernel
theorem dX1_moveOnto_28 : decode cX1_moveOnto 28 = .ok (.aload_n 1, 1) := by decide +kernel
theorem dX1_moveOnto_29 : decode cX1_moveOnto 29 = .ok (.iload_n 2, 1) := by decide +kernel
theorem dX1_moveOnto_30 : decode cX1_moveOnto 30 = .ok (.iaload, 1) := by decide +kernel
theorem dX1_moveOnto_31 : decode cX1_moveOnto 31 = .ok (.iastore, 1) := by decide +kernel
theorem dX1_moveOnto_32 : decode cX1_moveOnto 32 = .ok (.iinc 2 1, 3) := by decide +kernel
theorem dX1_moveOnto_35 : decode cX1_moveOnto 35 = .ok (.goto (-33), 3) := by decide +kernel
theorem dX1_moveOnto_38 : decode cX1_moveOnto 38 = .ok (.aload_n 1, 1) := by decide +kernel
theorem dX1_moveOnto_39 : decode cX1_moveOnto 39 = .ok (.aload_n 0, 1) := by decide +kernel
theorem dX1_moveOnto_40 : decode cX1_moveOnto 40 = .ok (.getfield 9, 3) := by decide +kernel
theorem dX1_moveOnto_43 : decode cX1_moveOnto 43 = .ok (.invokestatic 18, 3) := by decide +kernel
theorem dX1_moveOnto_46 : decode cX1_moveOnto 46 = .ok (.aload_n 0, 1) := by decide +kernel
theorem dX1_moveOnto_47 : decode cX1_moveOnto 47 = .ok (.iconst 0, 1) := by decide +kernel
theorem dX1_moveOnto_48 : decode cX1_moveOnto 48 = .ok (.iconst 0, 1) := by decide +kernel
theorem dX1_moveOnto_49 : decode cX1_moveOnto 49 = .ok (.invokevirtual 35, 3) := by decide +kernel
theorem dX1_moveOnto_52 : decode cX1_moveOnto 52 = .ok (.aload_n 0, 1) := by decide +kernel
theorem dX1_moveOnto_53 : decode cX1_moveOnto 53 = .ok (.invokevirtual 39, 3) := by decide +kernel
theorem dX1_moveOnto_56 : decode cX1_moveOnto 56 = .ok (.return_, 1) := by decide +kernel
theorem dX2_init_0 : decode cX2_init 0 = .ok (.aload_n 0, 1) := by decide +kernel
theorem dX2_init_1 : decode cX2_init 1 = .ok (.invokespecial 1, 3) := by decide +kernel
theorem dX2_init_4 : decode cX2_init 4 = .ok (.return_, 1) := by decide +kernel
theorem dX3_isThere_0 : decode cX3_isThere 0 = .ok (.iload_n 0, 1) := by decide +kernel
theorem dX3_isThere_1 : decode cX3_isThere 1 = .ok (.iload_n 1, 1) := by decide +kernel
theorem dX3_isThere_2 : decode cX3_isThere 2 = .ok (.ishr, 1) := by decide +kernel
theorem dX3_isThere_3 : decode cX3_isThere 3 = .ok (.iconst 1, 1) := by decide +kernel
theorem dX3_isThere_4 : decode cX3_isThere 4 = .ok (.iand, 1) := by decide +kernel
theorem dX3_isThere_5 : decode cX3_isThere 5 = .ok (.ifCond .eq 7, 3) := by decide +kernel
theorem dX3_isThere_8 : decode cX3_isThere 8 = .ok (.iconst 1, 1) := by decide +kernel
theorem dX3_isThere_9 : decode cX3_isThere 9 = .ok (.goto 4, 3) := by decide +kernel
theorem dX3_isThere_12 : decode cX3_isThere 12 = .ok (.iconst 0, 1) := by decide +kernel
theorem dX3_isThere_13 : decode cX3_isThere 13 = .ok (.ireturn, 1) := by decide +kernel
theorem dX3_isRequired_0 : decode cX3_isRequired 0 = .ok (.iload_n 0, 1) := by decide +kernel
theorem dX3_isRequired_1 : decode cX3_isRequired 1 = .ok (.iload_n 1, 1) := by decide +kernel
theorem dX3_isRequired_2 : decode cX3_isRequired 2 = .ok (.invokestatic 9, 3) := by decide +kernel
theorem dX3_isRequired_5 : decode cX3_isRequired 5 = .ok (.ifCond .eq 17, 3) := by decide +kernel
theorem dX3_isRequired_8 : decode cX3_isRequired 8 = .ok (.iload_n 0, 1) := by decide +kernel
theorem dX3_isRequired_9 : decode cX3_isRequired 9 = .ok (.iconst 4, 1) := by decide +kernel
theorem dX3_isRequired_10 : decode cX3_isRequired 10 = .ok (.iload_n 1, 1) := by decide +kernel
theorem dX3_isRequired_11 : decode cX3_isRequired 11 = .ok (.iadd, 1) := by decide +kernel
theorem dX3_isRequired_12 : decode cX3_isRequired 12 = .ok (.ishr, 1) := by decide +kernel
theorem dX3_isRequired_13 : decode cX3_isRequired 13 = .ok (.iconst 1, 1) := by decide +kernel
theorem dX3_isRequired_14 : decode cX3_isRequired 14 = .ok (.iand, 1) := by decide +kernel
theorem dX3_isRequired_15 : decode cX3_isRequired 15 = .ok (.ifCond .eq 7, 3) := by decide +kernel
theorem dX3_isRequired_18 : decode cX3_isRequired 18 = .ok (.iconst 1, 1) := by decide +kernel
theorem dX3_isRequired_19 : decode cX3_isRequired 19 = .ok (.goto 4, 3) := by decide +kernel
theorem dX3_isRequired_22 : decode cX3_isRequired 22 = .ok (.iconst 0, 1) := by decide +kernel
theorem dX3_isRequired_23 : decode cX3_isRequired 23 = .ok (.ireturn, 1) := by decide +kernel
theorem dX3_needsOf_0 : decode cX3_needsOf 0 = .ok (.iload_n 0, 1) := by decide +kernel
theorem dX3_needsOf_1 : decode cX3_needsOf 1 = .ok (.bipush 8, 2) := by decide +kernel
theorem dX3_needsOf_3 : decode cX3_needsOf 3 = .ok (.iconst 4, 1) := by decide +kernel
theorem dX3_needsOf_4 : decode cX3_needsOf 4 = .ok (.iload_n 1, 1) := by decide +kernel
theorem dX3_needsOf_5 : decode cX3_needsOf 5 = .ok (.imul, 1) := by decide +kernel
theorem dX3_needsOf_6 : decode cX3_needsOf 6 = .ok (.iadd, 1) := by decide +kernel
theorem dX3_needsOf_7 : decode cX3_needsOf 7 = .ok (.ishr, 1) := by decide +kernel
theorem dX3_needsOf_8 : decode cX3_needsOf 8 = .ok (.bipush 15, 2) := by decide +kernel
theorem dX3_needsOf_10 : decode cX3_needsOf 10 = .ok (.iand, 1) := by decide +kernel
theorem dX3_needsOf_11 : decode cX3_needsOf 11 = .ok (.ireturn, 1) := by decide +kernel
theorem dX3_allThatNeed_0 : decode cX3_allThatNeed 0 = .ok (.iconst 0, 1) := by decide +kernel
theorem dX3_allThatNeed_1 : decode cX3_allThatNeed 1 = .ok (.istore_n 2, 1) := by decide +kernel
theorem dX3_allThatNeed_2 : decode cX3_allThatNeed 2 = .ok (.iconst 0, 1) := by decide +kernel
theorem dX3_allThatNeed_3 : decode cX3_allThatNeed 3 = .ok (.istore_n 3, 1) := by decide +kernel
theorem dX3_allThatNeed_4 : decode cX3_allThatNeed 4 = .ok (.iload_n 3, 1) := by decide +kernel
theorem dX3_allThatNeed_5 : decode cX3_allThatNeed 5 = .ok (.iconst 4, 1) := by decide +kernel
theorem dX3_allThatNeed_6 : decode cX3_allThatNeed 6 = .ok (.if_icmp .ge 55, 3) := by decide +kernel
theorem dX3_allThatNeed_9 : decode cX3_allThatNeed 9 = .ok (.iconst 0, 1) := by decide +kernel
theorem dX3_allThatNeed_10 : decode cX3_allThatNeed 10 = .ok (.istore 4, 2) := by decide +kernel
theorem dX3_allThatNeed_12 : decode cX3_allThatNeed 12 = .ok (.iload 4, 2) := by decide +kernel
theorem dX3_allThatNeed_14 : decode cX3_allThatNeed 14 = .ok (.iconst 4, 1) := by decide +kernel
theorem dX3_allThatNeed_15 : decode cX3_allThatNeed 15 = .ok (.if_icmp .ge 40, 3) := by decide +kernel
theorem dX3_allThatNeed_18 : decode cX3_allThatNeed 18 = .ok (.iload_n 0, 1) := by decide +kernel
theorem dX3_allThatNeed_19 : decode cX3_allThatNeed 19 = .ok (.iload 4, 2) := by decide +kernel
theorem dX3_allThatNeed_21 : decode cX3_allThatNeed 21 = .ok (.invokestatic 9, 3) := by decide +kernel
theorem dX3_allThatNeed_24 : decode cX3_allThatNeed 24 = .ok (.ifCond .eq 25, 3) := by decide +kernel
theorem dX3_allThatNeed_27 : decode cX3_allThatNeed 27 = .ok (.iload_n 0, 1) := by decide +kernel
theorem dX3_allThatNeed_28 : decode cX3_allThatNeed 28 = .ok (.iload 4, 2) := by decide +kernel
theorem dX3_allThatNeed_30 : decode cX3_allThatNeed 30 = .ok (.invokestatic 15, 3) := by decide +kernel
theorem dX3_allThatNeed_33 : decode cX3_allThatNeed 33 = .ok (.iload_n 2, 1) := by decide +kernel
theorem dX3_allThatNeed_34 : decode cX3_allThatNeed 34 = .ok (.iconst 1, 1) := by decide +kernel
theorem dX3_allThatNeed_35 : decode cX3_allThatNeed 35 = .ok (.iload_n 1, 1) := by decide +kernel
theorem dX3_allThatNeed_36 : decode cX3_allThatNeed 36 = .ok (.ishl, 1) := by decide +kernel
theorem dX3_allThatNeed_37 : decode cX3_allThatNeed 37 = .ok (.ior, 1) := by decide +kernel
theorem dX3_allThatNeed_38 : decode cX3_allThatNeed 38 = .ok (.iand, 1) := by decide +kernel
theorem dX3_allThatNeed_39 : decode cX3_allThatNeed 39 = .ok (.ifCond .eq 10, 3) := by decide +kernel
theorem dX3_allThatNeed_42 : decode cX3_allThatNeed 42 = .ok (.iload_n 2, 1) := by decide +kernel
theorem dX3_allThatNeed_43 : decode cX3_allThatNeed 43 = .ok (.iconst 1, 1) := by decide +kernel
theorem dX3_allThatNeed_44 : decode cX3_allThatNeed 44 = .ok (.iload 4, 2) := by decide +kernel
theorem dX3_allThatNeed_46 : decode cX3_allThatNeed 46 = .ok (.ishl, 1) := by decide +kernel
theorem dX3_allThatNeed_47 : decode cX3_allThatNeed 47 = .ok (.ior, 1) := by decide +kernel
theorem dX3_allThatNeed_48 : decode cX3_allThatNeed 48 = .ok (.istore_n 2, 1) := by decide +kernel
theorem dX3_allThatNeed_49 : decode cX3_allThatNeed 49 = .ok (.iinc 4 1, 3) := by decide +kernel
theorem dX3_allThatNeed_52 : decode cX3_allThatNeed 52 = .ok (.goto (-40), 3) := by decide +kernel
theorem dX3_allThatNeed_55 : decode cX3_allThatNeed 55 = .ok (.iinc 3 1, 3) := by decide +kernel
theorem dX3_allThatNeed_58 : decode cX3_allThatNeed 58 = .ok (.goto (-54), 3) := by decide +kernel
theorem dX3_allThatNeed_61 : decode cX3_allThatNeed 61 = .ok (.iload_n 2, 1) := by decide +kernel
theorem dX3_allThatNeed_62 : decode cX3_allThatNeed 62 = .ok (.ireturn, 1) := by decide +kernel
theorem dX3_isValid_0 : decode cX3_isValid 0 = .ok (.iconst 0, 1) := by decide +kernel
theorem dX3_isValid_1 : decode cX3_isValid 1 = .ok (.istore_n 1, 1) := by decide +kernel
theorem dX3_isValid_2 : decode cX3_isValid 2 = .ok (.iload_n 0, 1) := by decide +kernel
theorem dX3_isValid_3 : decode cX3_isValid 3 = .ok (.bipush 15, 2) := by decide +kernel
theorem dX3_isValid_5 : decode cX3_isValid 5 = .ok (.iand, 1) := by decide +kernel
theorem dX3_isValid_6 : decode cX3_isValid 6 = .ok (.istore_n 2, 1) := by decide +kernel
theorem dX3_isValid_7 : decode cX3_isValid 7 = .ok (.iconst 0, 1) := by decide +kernel
theorem dX3_isValid_8 : decode cX3_isValid 8 = .ok (.istore_n 3, 1) := by decide +kernel
theorem dX3_isValid_9 : decode cX3_isValid 9 = .ok (.iload_n 3, 1) := by decide +kernel
theorem dX3_isValid_10 : decode cX3_isValid 10 = .ok (.iconst 4, 1) := by decide +kernel
theorem dX3_isValid_11 : decode cX3_isValid 11 = .ok (.if_icmp .ge 85, 3) := by decide +kernel
theorem dX3_isValid_14 : decode cX3_isValid 14 = .ok (.iload_n 1, 1) := by decide +kernel
theorem dX3_isValid_15 : decode cX3_isValid 15 = .ok (.ifCond .ne 11, 3) := by decide +kernel
theorem dX3_isValid_18 : decode cX3_isValid 18 = .ok (.iload_n 0, 1) := by decide +kernel
theorem dX3_isValid_19 : decode cX3_isValid 19 = .ok (.iload_n 3, 1) := by decide +kernel
theorem dX3_isValid_20 : decode cX3_isValid 20 = .ok (.invokestatic 19, 3) := by decide +kernel
theorem dX3_isValid_23 : decode cX3_isValid 23 = .ok (.ifCond .eq 7, 3) := by decide +kernel
theorem dX3_isValid_26 : decode cX3_isValid 26 = .ok (.iconst 1, 1) := by decide +kernel
theorem dX3_isValid_27 : decode cX3_isValid 27 = .ok (.goto 4, 3) := by decide +kernel
theorem dX3_isValid_30 : decode cX3_isValid 30 = .ok (.iconst 0, 1) := by decide +kernel
theorem dX3_isValid_31 : decode cX3_isValid 31 = .ok (.istore_n 1, 1) := by decide +kernel
theorem dX3_isValid_32 : decode cX3_isValid 32 = .ok (.iload_n 0, 1) := by decide +kernel
theorem dX3_isValid_33 : decode cX3_isValid 33 = .ok (.iload_n 3, 1) := by decide +kernel
theorem dX3_isValid_34 : decode cX3_isValid 34 = .ok (.invokestatic 15, 3) := by decide +kernel
theorem dX3_isValid_37 : decode cX3_isValid 37 = .ok (.iload_n 2, 1) := by decide +kernel
theorem dX3_isValid_38 : decode cX3_isValid 38 = .ok (.iconst (-1), 1) := by decide +kernel
theorem dX3_isValid_39 : decode cX3_isValid 39 = .ok (.ixor, 1) := by decide +kernel
theorem dX3_isValid_40 : decode cX3_isValid 40 = .ok (.iand, 1) := by decide +kernel
theorem dX3_isValid_41 : decode cX3_isValid 41 = .ok (.ifCond .eq 7, 3) := by decide +kernel
theorem dX3_isValid_44 : decode cX3_isValid 44 = .ok (.iconst 1, 1) := by decide +kernel
theorem dX3_isValid_45 : decode cX3_isValid 45 = .ok (.goto 4, 3) := by decide +kernel
theorem dX3_isValid_48 : decode cX3_isValid 48 = .ok (.iconst 0, 1) := by decide +kernel
theorem dX3_isValid_49 : decode cX3_isValid 49 = .ok (.istore 4, 2) := by decide +kernel
theorem dX3_isValid_51 : decode cX3_isValid 51 = .ok (.iload_n 0, 1) := by decide +kernel
theorem dX3_isValid_52 : decode cX3_isValid 52 = .ok (.iload_n 3, 1) := by decide +kernel
theorem dX3_isValid_53 : decode cX3_isValid 53 = .ok (.invokestatic 22, 3) := by decide +kernel
theorem dX3_isValid_56 : decode cX3_isValid 56 = .ok (.iload_n 3, 1) := by decide +kernel
theorem dX3_isValid_57 : decode cX3_isValid 57 = .ok (.ishr, 1) := by decide +kernel
theorem dX3_isValid_58 : decode cX3_isValid 58 = .ok (.iconst 1, 1) := by decide +kernel
theorem dX3_isValid_59 : decode cX3_isValid 59 = .ok (.iand, 1) := by decide +kernel
theorem dX3_isValid_60 : decode cX3_isValid 60 = .ok (.ifCond .eq 7, 3) := by decide +kernel
theorem dX3_isValid_63 : decode cX3_isValid 63 = .ok (.iconst 1, 1) := by decide +kernel
theorem dX3_isValid_64 : decode cX3_isValid 64 = .ok (.goto 4, 3) := by decide +kernel
theorem dX3_isValid_67 : decode cX3_isValid 67 = .ok (.iconst 0, 1) := by decide +kernel
theorem dX3_isValid_68 : decode cX3_isValid 68 = .ok (.istore 5, 2) := by decide +kernel
theorem dX3_isValid_70 : decode cX3_isValid 70 = .ok (.iload_n 0, 1) := by decide +kernel
theorem dX3_isValid_71 : decode cX3_isValid 71 = .ok (.iload_n 3, 1) := by decide +kernel
theorem dX3_isValid_72 : decode cX3_isValid 72 = .ok (.invokestatic 9, 3) := by decide +kernel
theorem dX3_isValid_75 : decode cX3_isValid 75 = .ok (.ifCond .eq 15, 3) := by decide +kernel
theorem dX3_isValid_78 : decode cX3_isValid 78 = .ok (.iload 4, 2) := by decide +kernel
theorem dX3_isValid_80 : decode cX3_isValid 80 = .ok (.ifCond .ne 8, 3) := by decide +kernel
theorem dX3_isValid_83 : decode cX3_isValid 83 = .ok (.iload 5, 2) := by decide +kernel
theorem dX3_isValid_85 : decode cX3_isValid 85 = .ok (.ifCond .eq 5, 3) := by decide +kernel
theorem dX3_isValid_88 : decode cX3_isValid 88 = .ok (.iconst 0, 1) := by decide +kernel
theorem dX3_isValid_89 : decode cX3_isValid 89 = .ok (.ireturn, 1) := by decide +kernel
theorem dX3_isValid_90 : decode cX3_isValid 90 = .ok (.iinc 3 1, 3) := by decide +kernel
theorem dX3_isValid_93 : decode cX3_isValid 93 = .ok (.goto (-84), 3) := by decide +kernel
theorem dX3_isValid_96 : decode cX3_isValid 96 = .ok (.iload_n 1, 1) := by decide +kernel
theorem dX3_isValid_97 : decode cX3_isValid 97 = .ok (.ireturn, 1) := by decide +kernel
theorem dX4_init_0 : decode cX4_init 0 = .ok (.aload_n 0, 1) := by decide +kernel
theorem dX4_init_1 : decode cX4_init 1 = .ok (.invokespecial 3, 3) := by decide +kernel
theorem dX4_init_4 : decode cX4_init 4 = .ok (.aload_n 0, 1) := by decide +kernel
theorem dX4_init_5 : decode cX4_init 5 = .ok (.iload_n 1, 1) := by decide +kernel
theorem dX4_init_6 : decode cX4_init 6 = .ok (.newarray .int, 2) := by decide +kernel
theorem dX4_init_8 : decode cX4_init 8 = .ok (.putfield 9, 3) := by decide +kernel
theorem dX4_init_11 : decode cX4_init 11 = .ok (.return_, 1) := by decide +kernel
theorem dX4_copyFrom_0 : decode cX4_copyFrom 0 = .ok (.aload_n 1, 1) := by decide +kernel
theorem dX4_copyFrom_1 : decode cX4_copyFrom 1 = .ok (.getfield 9, 3) := by decide +kernel
theorem dX4_copyFrom_4 : decode cX4_copyFrom 4 = .ok (.aload_n 0, 1) := by decide +kernel
theorem dX4_copyFrom_5 : decode cX4_copyFrom 5 = .ok (.getfield 9, 3) := by decide +kernel
theorem dX4_copyFrom_8 : decode cX4_copyFrom 8 = .ok (.invokestatic 15, 3) := by decide +kernel
theorem dX4_copyFrom_11 : decode cX4_copyFrom 11 = .ok (.aload_n 0, 1) := by decide +kernel
theorem dX4_copyFrom_12 : decode cX4_copyFrom 12 = .ok (.aload_n 1, 1) := by decide +kernel
theorem dX4_copyFrom_13 : decode cX4_copyFrom 13 = .ok (.getfield 19, 3) := by decide +kernel
theorem dX4_copyFrom_16 : decode cX4_copyFrom 16 = .ok (.putfield 19, 3) := by decide +kernel
theorem dX4_copyFrom_19 : decode cX4_copyFrom 19 = .ok (.return_, 1) := by decide +kernel
theorem dX4_at_0 : decode cX4_at 0 = .ok (.iload_n 1, 1) := by decide +kernel
theorem dX4_at_1 : decode cX4_at 1 = .ok (.ifCond .lt 20, 3) := by decide +kernel
theorem dX4_at_4 : decode cX4_at 4 = .ok (.iload_n 1, 1) := by decide +kernel
theorem dX4_at_5 : decode cX4_at 5 = .ok (.aload_n 0, 1) := by decide +kernel
theorem dX4_at_6 : decode cX4_at 6 = .ok (.getfield 19, 3) := by decide +kernel
theorem dX4_at_9 : decode cX4_at 9 = .ok (.if_icmp .ge 12, 3) := by decide +kernel
theorem dX4_at_12 : decode cX4_at 12 = .ok (.aload_n 0, 1) := by decide +kernel
theorem dX4_at_13 : decode cX4_at 13 = .ok (.getfield 9, 3) := by decide +kernel
theorem dX4_at_16 : decode cX4_at 16 = .ok (.iload_n 1, 1) := by decide +kernel
theorem dX4_at_17 : decode cX4_at 17 = .ok (.iaload, 1) := by decide +kernel
theorem dX4_at_18 : decode cX4_at 18 = .ok (.goto 4, 3) := by decide +kernel
theorem dX4_at_21 : decode cX4_at 21 = .ok (.iconst (-1), 1) := by decide +kernel
theorem dX4_at_22 : decode cX4_at 22 = .ok (.ireturn, 1) := by decide +kernel
theorem dX4_insert_0 : decode cX4_insert 0 = .ok (.iload_n 1, 1) := by decide +kernel
theorem dX4_insert_1 : decode cX4_insert 1 = .ok (.ifCond .lt 23, 3) := by decide +kernel
theorem dX4_insert_4 : decode cX4_insert 4 = .ok (.iload_n 1, 1) := by decide +kernel
theorem dX4_insert_5 : decode cX4_insert 5 = .ok (.aload_n 0, 1) := by decide +kernel
theorem dX4_insert_6 : decode cX4_insert 6 = .ok (.getfield 19, 3) := by decide +kernel
theorem dX4_insert_9 : decode cX4_insert 9 = .ok (.if_icmp .gt 15, 3) := by decide +kernel
theorem dX4_insert_12 : decode cX4_insert 12 = .ok (.aload_n 0, 1) := by decide +kernel
theorem dX4_insert_13 : decode cX4_insert 13 = .ok (.getfield 19, 3) := by decide +kernel
theorem dX4_insert_16 : decode cX4_insert 16 = .ok (.aload_n 0, 1) := by decide +kernel
theorem dX4_insert_17 : decode cX4_insert 17 = .ok (.getfield 9, 3) := by decide +kernel
theorem dX4_insert_20 : decode cX4_insert 20 = .ok (.arraylength, 1) := by decide +kernel
theorem dX4_insert_21 : decode cX4_insert 21 = .ok (.if_icmp .lt 4, 3) := by decide +kernel
theorem dX4_insert_24 : decode cX4_insert 24 = .ok (.return_, 1) := by decide +kernel
theorem dX4_insert_25 : decode cX4_insert 25 = .ok (.aload_n 0, 1) := by decide +kernel
theorem dX4_insert_26 : decode cX4_insert 26 = .ok (.getfield 19, 3) := by decide +kernel
theorem dX4_insert_29 : decode cX4_insert 29 = .ok (.istore_n 3, 1) := by decide +kernel
theorem dX4_insert_30 : decode cX4_insert 30 = .ok (.iload_n 3, 1) := by decide +kernel
theorem dX4_insert_31 : decode cX4_insert 31 = .ok (.iload_n 1, 1) := by decide +kernel
theorem dX4_insert_32 : decode cX4_insert 32 = .ok (.if_icmp .le 23, 3) := by decide +kernel
theorem dX4_insert_35 : decode cX4_insert 35 = .ok (.aload_n 0, 1) := by decide +kernel
theorem dX4_insert_36 : decode cX4_insert 36 = .ok (.getfield 9, 3) := by decide +kernel
theorem dX4_insert_39 : decode cX4_insert 39 = .ok (.iload_n 3, 1) := by decide +kernel
theorem dX4_insert_40 : decode cX4_insert 40 = .ok (.aload_n 0, 1) := by decide +kernel
theorem dX4_insert_41 : decode cX4_insert 41 = .ok (.getfield 9, 3) := by decide +kernel
theorem dX4_insert_44 : decode cX4_insert 44 = .ok (.iload_n 3, 1) := by decide +kernel
theorem dX4_insert_45 : decode cX4_insert 45 = .ok (.iconst 1, 1) := by decide +kernel
theorem dX4_insert_46 : decode cX4_insert 46 = .ok (.isub, 1) := by decide +kernel
theorem dX4_insert_47 : decode cX4_insert 47 = .ok (.iaload, 1) := by decide +kernel
theorem dX4_insert_48 : decode cX4_insert 48 = .ok (.iastore, 1) := by decide +kernel
theorem dX4_insert_49 : decode cX4_insert 49 = .ok (.iinc 3 (-1), 3) := by decide +kernel
theorem dX4_insert_52 : decode cX4_insert 52 = .ok (.goto (-22), 3) := by decide +kernel
theorem dX4_insert_55 : decode cX4_insert 55 = .ok (.aload_n 0, 1) := by decide +kernel
theorem dX4_insert_56 : decode cX4_insert 56 = .ok (.getfield 9, 3) := by decide +kernel
theorem dX4_insert_59 : decode cX4_insert 59 = .ok (.iload_n 1, 1) := by decide +kernel
theorem dX4_insert_60 : decode cX4_insert 60 = .ok (.iload_n 2, 1) := by decide +kernel
theorem dX4_insert_61 : decode cX4_insert 61 = .ok (.iastore, 1) := by decide +kernel
theorem dX4_insert_62 : decode cX4_insert 62 = .ok (.aload_n 0, 1) := by decide +kernel
theorem dX4_insert_63 : decode cX4_insert 63 = .ok (.dup, 1) := by decide +kernel
theorem dX4_insert_64 : decode cX4_insert 64 = .ok (.getfield 19, 3) := by decide +kernel
theorem dX4_insert_67 : decode cX4_insert 67 = .ok (.iconst 1, 1) := by decide +kernel
theorem dX4_insert_68 : decode cX4_insert 68 = .ok (.iadd, 1) := by decide +kernel
theorem dX4_insert_69 : decode cX4_insert 69 = .ok (.putfield 19, 3) := by decide +kernel
theorem dX4_insert_72 : decode cX4_insert 72 = .ok (.return_, 1) := by decide +kernel
theorem dX4_append_0 : decode cX4_append 0 = .ok (.aload_n 0, 1) := by decide +kernel
theorem dX4_append_1 : decode cX4_append 1 = .ok (.aload_n 0, 1) := by decide +kernel
theorem dX4_append_2 : decode cX4_append 2 = .ok (.getfield 19, 3) := by decide +kernel
theorem dX4_append_5 : decode cX4_append 5 = .ok (.iload_n 1, 1) := by decide +kernel
theorem dX4_append_6 : decode cX4_append 6 = .ok (.invokevirtual 23, 3) := by decide +kernel
theorem dX4_append_9 : decode cX4_append 9 = .ok (.return_, 1) := by decide +kernel
theorem dX4_removeAt_0 : decode cX4_removeAt 0 = .ok (.iload_n 1, 1) := by decide +kernel
theorem dX4_removeAt_1 : decode cX4_removeAt 1 = .ok (.ifCond .lt 11, 3) := by decide +kernel
theorem dX4_removeAt_4 : decode cX4_removeAt 4 = .ok (.iload_n 1, 1) := by decide +kernel
theorem dX4_removeAt_5 : decode cX4_removeAt 5 = .ok (.aload_n 0, 1) := by decide +kernel
theorem dX4_removeAt_6 : decode cX4_removeAt 6 = .ok (.getfield 19, 3) := by decide +kernel
theorem dX4_removeAt_9 : decode cX4_removeAt 9 = .ok (.if_icmp .lt 4, 3) := by decide +kernel
theorem dX4_removeAt_12 : decode cX4_removeAt 12 = .ok (.return_, 1) := by decide +kernel
theorem dX4_removeAt_13 : decode cX4_removeAt 13 = .ok (.aload_n 0, 1) := by decide +kernel
theorem dX4_removeAt_14 : decode cX4_removeAt 14 = .ok (.dup, 1) := by decide +kernel
theorem dX4_removeAt_15 : decode cX4_removeAt 15 = .ok (.getfield 19, 3) := by decide +kernel
theorem dX4_removeAt_18 : decode cX4_removeAt 18 = .ok (.iconst 1, 1) := by decide +kernel
theorem dX4_removeAt_19 : decode cX4_removeAt 19 = .ok (.isub, 1) := by decide +kernel
theorem dX4_removeAt_20 : decode cX4_removeAt 20 = .ok (.putfield 19, 3) := by decide +kernel
theorem dX4_removeAt_23 : decode cX4_removeAt 23 = .ok (.iload_n 1, 1) := by decide +kernel
theorem dX4_removeAt_24 : decode cX4_removeAt 24 = .ok (.istore_n 2, 1) := by decide +kernel
theorem dX4_removeAt_25 : decode cX4_removeAt 25 = .ok (.iload_n 2, 1) := by decide +kernel
theorem dX4_removeAt_26 : decode cX4_removeAt 26 = .ok (.aload_n 0, 1) := by decide +kernel
theorem dX4_removeAt_27 : decode cX4_removeAt 27 = .ok (.getfield 19, 3) := by decide +kernel
theorem dX4_removeAt_30 : decode cX4_removeAt 30 = .ok (.if_icmp .ge 23, 3) := by decide +kernel
theorem dX4_removeAt_33 : decode cX4_removeAt 33 = .ok (.aload_n 0, 1) := by decide +kernel
theorem dX4_removeAt_34 : decode cX4_removeAt 34 = .ok (.getfield 9, 3) := by decide +kernel
theorem dX4_removeAt_37 : decode cX4_removeAt 37 = .ok (.iload_n 2, 1) := by decide +kernel
theorem dX4_removeAt_38 : decode cX4_removeAt 38 = .ok (.aload_n 0, 1) := by decide +kernel
theorem dX4_removeAt_39 : decode cX4_removeAt 39 = .ok (.getfield 9, 3) := by decide +kernel
theorem dX4_removeAt_42 : decode cX4_removeAt 42 = .ok (.iload_n 2, 1) := by decide +kernel
theorem dX4_removeAt_43 : decode cX4_removeAt 43 = .ok (.iconst 1, 1) := by decide +kernel
theorem dX4_removeAt_44 : decode cX4_removeAt 44 = .ok (.iadd, 1) := by decide +kernel
theorem dX4_removeAt_45 : decode cX4_removeAt 45 = .ok (.iaload, 1) := by decide +kernel
theorem dX4_removeAt_46 : decode cX4_removeAt 46 = .ok (.iastore, 1) := by decide +kernel
theorem dX4_removeAt_47 : decode cX4_removeAt 47 = .ok (.iinc 2 1, 3) := by decide +kernel
theorem dX4_removeAt_50 : decode cX4_removeAt 50 = .ok (.goto (-25), 3) := by decide +kernel
theorem dX4_removeAt_53 : decode cX4_removeAt 53 = .ok (.return_, 1) := by decide +kernel
theorem dX4_replaceFirst_0 : decode cX4_replaceFirst 0 = .ok (.aload_n 0, 1) := by decide +kernel
theorem dX4_replaceFirst_1 : decode cX4_replaceFirst 1 = .ok (.iconst 0, 1) := by decide +kernel
theorem dX4_replaceFirst_2 : decode cX4_replaceFirst 2 = .ok (.invokevirtual 27, 3) := by decide +kernel
theorem dX4_replaceFirst_5 : decode cX4_replaceFirst 5 = .ok (.aload_n 0, 1) := by decide +kernel
theorem dX4_replaceFirst_6 : decode cX4_replaceFirst 6 = .ok (.iconst 0, 1) := by decide +kernel
theorem dX4_replaceFirst_7 : decode cX4_replaceFirst 7 = .ok (.iload_n 1, 1) := by decide +kernel
theorem dX4_replaceFirst_8 : decode cX4_replaceFirst 8 = .ok (.invokevirtual 23, 3) := by decide +kernel
theorem dX4_replaceFirst_11 : decode cX4_replaceFirst 11 = .ok (.return_, 1) := by decide +kernel
theorem dX5_init_0 : decode cX5_init 0 = .ok (.aload_n 0, 1) := by decide +kernel
theorem dX5_init_1 : decode cX5_init 1 = .ok (.invokespecial 1, 3) := by decide +kernel
theorem dX5_init_4 : decode cX5_init 4 = .ok (.return_, 1) := by decide +kernel
theorem dX6_init_0 : decode cX6_init 0 = .ok (.aload_n 0, 1) := by decide +kernel
theorem dX6_init_1 : decode cX6_init 1 = .ok (.invokespecial 3, 3) := by decide +kernel
theorem dX6_init_4 : decode cX6_init 4 = .ok (.aload_n 0, 1) := by decide +kernel
theorem dX6_init_5 : decode cX6_init 5 = .ok (.bipush 6, 2) := by decide +kernel
theorem dX6_init_7 : decode cX6_init 7 = .ok (.newarray .int, 2) := by decide +kernel
theorem dX6_init_9 : decode cX6_init 9 = .ok (.putfield 9, 3) := by decide +kernel
theorem dX6_init_12 : decode cX6_init 12 = .ok (.aload_n 0, 1) := by decide +kernel
theorem dX6_init_13 : decode cX6_init 13 = .ok (.bipush 16, 2) := by decide +kernel
theorem dX6_init_15 : decode cX6_init 15 = .ok (.anewarray 15, 3) := by decide +kernel
theorem dX6_init_18 : decode cX6_init 18 = .ok (.putfield 17, 3) := by decide +kernel
theorem dX6_init_21 : decode cX6_init 21 = .ok (.aload_n 0, 1) := by decide +kernel
theorem dX6_init_22 : decode cX6_init 22 = .ok (.new 21, 3) := by decide +kernel
theorem dX6_init_25 : decode cX6_init 25 = .ok (.dup, 1) := by decide +kernel
theorem dX6_init_26 : decode cX6_init 26 = .ok (.bipush 16, 2) := by decide +kernel
theorem dX6_init_28 : decode cX6_init 28 = .ok (.invokespecial 23, 3) := by decide +kernel
theorem dX6_init_31 : decode cX6_init 31 = .ok (.putfield 26, 3) := by decide +kernel
theorem dX6_init_34 : decode cX6_init 34 = .ok (.aload_n 0, 1) := by decide +kernel
theorem dX6_init_35 : decode cX6_init 35 = .ok (.new 21, 3) := by decide +kernel
theorem dX6_init_38 : decode cX6_init 38 = .ok (.dup, 1) := by decide +kernel
theorem dX6_init_39 : decode cX6_init 39 = .ok (.bipush 8, 2) := by decide +kernel
theorem dX6_init_41 : decode cX6_init 41 = .ok (.invokespecial 23, 3) := by decide +kernel
theorem dX6_init_44 : decode cX6_init 44 = .ok (.putfield 30, 3) := by decide +kernel
theorem dX6_init_47 : decode cX6_init 47 = .ok (.aload_n 0, 1) := by decide +kernel
theorem dX6_init_48 : decode cX6_init 48 = .ok (.new 33, 3) := by decide +kernel
theorem dX6_init_51 : decode cX6_init 51 = .ok (.dup, 1) := by decide +kernel
theorem dX6_init_52 : decode cX6_init 52 = .ok (.invokespecial 35, 3) := by decide +kernel
theorem dX6_init_55 : decode cX6_init 55 = .ok (.putfield 36, 3) := by decide +kernel
theorem dX6_init_58 : decode cX6_init 58 = .ok (.aload_n 0, 1) := by decide +kernel
theorem dX6_init_59 : decode cX6_init 59 = .ok (.aload_n 1, 1) := by decide +kernel
theorem dX6_init_60 : decode cX6_init 60 = .ok (.putfield 40, 3) := by decide +kernel
theorem dX6_init_63 : decode cX6_init 63 = .ok (.aload_n 0, 1) := by decide +kernel
theorem dX6_init_64 : decode cX6_init 64 = .ok (.getfield 9, 3) := by decide +kernel
theorem dX6_init_67 : decode cX6_init 67 = .ok (.iconst 0, 1) := by decide +kernel
theorem dX6_init_68 : decode cX6_init 68 = .ok (.bipush 17, 2) := by decide +kernel
theorem dX6_init_70 : decode cX6_init 70 = .ok (.iastore, 1) := by decide +kernel
theorem dX6_init_71 : decode cX6_init 71 = .ok (.iconst 0, 1) := by decide +kernel
theorem dX6_init_72 : decode cX6_init 72 = .ok (.istore_n 2, 1) := by decide +kernel
theorem dX6_init_73 : decode cX6_init 73 = .ok (.iload_n 2, 1) := by decide +kernel
theorem dX6_init_74 : decode cX6_init 74 = .ok (.bipush 16, 2) := by decide +kernel
theorem dX6_init_76 : decode cX6_init 76 = .ok (.if_icmp .ge 22, 3) := by decide +kernel
theorem dX6_init_79 : decode cX6_init 79 = .ok (.aload_n 0, 1) := by decide +kernel
theorem dX6_init_80 : decode cX6_init 80 = .ok (.getfield 17, 3) := by decide +kernel
theorem dX6_init_83 : decode cX6_init 83 = .ok (.iload_n 2, 1) := by decide +kernel
theorem dX6_init_84 : decode cX6_init 84 = .ok (.new 15, 3) := by decide +kernel
theorem dX6_init_87 : decode cX6_init 87 = .ok (.dup, 1) := by decide +kernel
theorem dX6_init_88 : decode cX6_init 88 = .ok (.invokespecial 44, 3) := by decide +kernel
theorem dX6_init_91 : decode cX6_init 91 = .ok (.aastore, 1) := by decide +kernel
theorem dX6_init_92 : decode cX6_init 92 = .ok (.iinc 2 1, 3) := by decide +kernel
theorem dX6_init_95 : decode cX6_init 95 = .ok (.goto (-22), 3) := by decide +kernel
theorem dX6_init_98 : decode cX6_init 98 = .ok (.return_, 1) := by decide +kernel
theorem dX6_copyFrom_0 : decode cX6_copyFrom 0 = .ok (.aload_n 1, 1) := by decide +kernel
theorem dX6_copyFrom_1 : decode cX6_copyFrom 1 = .ok (.getfield 9, 3) := by decide +kernel
theorem dX6_copyFrom_4 : decode cX6_copyFrom 4 = .ok (.aload_n 0, 1) := by decide +kernel
theorem dX6_copyFrom_5 : decode cX6_copyFrom 5 = .ok (.getfield 9, 3) := by decide +kernel
theorem dX6_copyFrom_8 : decode cX6_copyFrom 8 = .ok (.invokestatic 45, 3) := by decide +kernel
theorem dX6_copyFrom_11 : decode cX6_copyFrom 11 = .ok (.aload_n 0, 1) := by decide +kernel
theorem dX6_copyFrom_12 : decode cX6_copyFrom 12 = .ok (.aload_n 1, 1) := by decide +kernel
theorem dX6_copyFrom_13 : decode cX6_copyFrom 13 = .ok (.getfield 49, 3) := by decide +kernel
theorem dX6_copyFrom_16 : decode cX6_copyFrom 16 = .ok (.putfield 49, 3) := by decide +kernel
theorem dX6_copyFrom_19 : decode cX6_copyFrom 19 = .ok (.iconst 0, 1) := by decide +kernel
theorem dX6_copyFrom_20 : decode cX6_copyFrom 20 = .ok (.istore_n 2, 1) := by decide +kernel
theorem dX6_copyFrom_21 : decode cX6_copyFrom 21 = .ok (.iload_n 2, 1) := by decide +kernel
theorem dX6_copyFrom_22 : decode cX6_copyFrom 22 = .ok (.bipush 16, 2) := by decide +kernel
theorem dX6_copyFrom_24 : decode cX6_copyFrom 24 = .ok (.if_icmp .ge 24, 3) := by decide +kernel
theorem dX6_copyFrom_27 : decode cX6_copyFrom 27 = .ok (.aload_n 0, 1) := by decide +kernel
theorem dX6_copyFrom_28 : decode cX6_copyFrom 28 = .ok (.getfield 17, 3) := by decide +kernel
theorem dX6_copyFrom_31 : decode cX6_copyFrom 31 = .ok (.iload_n 2, 1) := by decide +kernel
theorem dX6_copyFrom_32 : decode cX6_copyFrom 32 = .ok (.aaload, 1) := by decide +kernel
theorem dX6_copyFrom_33 : decode cX6_copyFrom 33 = .ok (.aload_n 1, 1) := by decide +kernel
theorem dX6_copyFrom_34 : decode cX6_copyFrom 34 = .ok (.getfield 17, 3) := by decide +kernel
theorem dX6_copyFrom_37 : decode cX6_copyFrom 37 = .ok (.iload_n 2, 1) := by decide +kernel
theorem dX6_copyFrom_38 : decode cX6_copyFrom 38 = .ok (.aaload, 1) := by decide +kernel
theorem dX6_copyFrom_39 : decode cX6_copyFrom 39 = .ok (.invokevirtual 53, 3) := by decide +kernel
theorem dX6_copyFrom_42 : decode cX6_copyFrom 42 = .ok (.iinc 2 1, 3) := by decide +kernel
theorem dX6_copyFrom_45 : decode cX6_copyFrom 45 = .ok (.goto (-24), 3) := by decide +kernel
theorem dX6_copyFrom_48 : decode cX6_copyFrom 48 = .ok (.aload_n 0, 1) := by decide +kernel
theorem dX6_copyFrom_49 : decode cX6_copyFrom 49 = .ok (.aload_n 1, 1) := by decide +kernel
theorem dX6_copyFrom_50 : decode cX6_copyFrom 50 = .ok (.getfield 57, 3) := by decide +kernel
theorem dX6_copyFrom_53 : decode cX6_copyFrom 53 = .ok (.putfield 57, 3) := by decide +kernel
theorem dX6_copyFrom_56 : decode cX6_copyFrom 56 = .ok (.aload_n 0, 1) := by decide +kernel
theorem dX6_copyFrom_57 : decode cX6_copyFrom 57 = .ok (.getfield 26, 3) := by decide +kernel
theorem dX6_copyFrom_60 : decode cX6_copyFrom 60 = .ok (.aload_n 1, 1) := by decide +kernel
theorem dX6_copyFrom_61 : decode cX6_copyFrom 61 = .ok (.getfield 26, 3) := by decide +kernel
theorem dX6_copyFrom_64 : decode cX6_copyFrom 64 = .ok (.invokevirtual 60, 3) := by decide +kernel
theorem dX6_copyFrom_67 : decode cX6_copyFrom 67 = .ok (.aload_n 0, 1) := by decide +kernel
theorem dX6_copyFrom_68 : decode cX6_copyFrom 68 = .ok (.getfield 30, 3) := by decide +kernel
theorem dX6_copyFrom_71 : decode cX6_copyFrom 71 = .ok (.aload_n 1, 1) := by decide +kernel
theorem dX6_copyFrom_72 : decode cX6_copyFrom 72 = .ok (.getfield 30, 3) := by decide +kernel
theorem dX6_copyFrom_75 : decode cX6_copyFrom 75 = .ok (.invokevirtual 60, 3) := by decide +kernel
theorem dX6_copyFrom_78 : decode cX6_copyFrom 78 = .ok (.aload_n 0, 1) := by decide +kernel
theorem dX6_copyFrom_79 : decode cX6_copyFrom 79 = .ok (.getfield 36, 3) := by decide +kernel
theorem dX6_copyFrom_82 : decode cX6_copyFrom 82 = .ok (.aload_n 1, 1) := by decide +kernel
theorem dX6_copyFrom_83 : decode cX6_copyFrom 83 = .ok (.getfield 36, 3) := by decide +kernel
theorem dX6_copyFrom_86 : decode cX6_copyFrom 86 = .ok (.invokevirtual 63, 3) := by decide +kernel
theorem dX6_copyFrom_89 : decode cX6_copyFrom 89 = .ok (.aload_n 0, 1) := by decide +kernel
theorem dX6_copyFrom_90 : decode cX6_copyFrom 90 = .ok (.aload_n 1, 1) := by decide +kernel
theorem dX6_copyFrom_91 : decode cX6_copyFrom 91 = .ok (.getfield 66, 3) := by decide +kernel
theorem dX6_copyFrom_94 : decode cX6_copyFrom 94 = .ok (.putfield 66, 3) := by decide +kernel
theorem dX6_copyFrom_97 : decode cX6_copyFrom 97 = .ok (.return_, 1) := by decide +kernel
theorem dX6_isChange_0 : decode cX6_isChange 0 = .ok (.iload_n 1, 1) := by decide +kernel
theorem dX6_isChange_1 : decode cX6_isChange 1 = .ok (.ifCond .lt 15, 3) := by decide +kernel
theorem dX6_isChange_4 : decode cX6_isChange 4 = .ok (.iload_n 1, 1) := by decide +kernel
theorem dX6_isChange_5 : decode cX6_isChange 5 = .ok (.aload_n 0, 1) := by decide +kernel
theorem dX6_isChange_6 : decode cX6_isChange 6 = .ok (.getfield 57, 3) := by decide +kernel
theorem dX6_isChange_9 : decode cX6_isChange 9 = .ok (.if_icmp .ge 7, 3) := by decide +kernel
theorem dX6_isChange_12 : decode cX6_isChange 12 = .ok (.iconst 1, 1) := by decide +kernel
theorem dX6_isChange_13 : decode cX6_isChange 13 = .ok (.goto 4, 3) := by decide +kernel
theorem dX6_isChange_16 : decode cX6_isChange 16 = .ok (.iconst 0, 1) := by decide +kernel
theorem dX6_isChange_17 : decode cX6_isChange 17 = .ok (.ireturn, 1) := by decide +kernel
theorem dX6_isOpen_0 : decode cX6_isOpen 0 = .ok (.aload_n 0, 1) := by decide +kernel
theorem dX6_isOpen_1 : decode cX6_isOpen 1 = .ok (.iload_n 1, 1) := by decide +kernel
theorem dX6_isOpen_2 : decode cX6_isOpen 2 = .ok (.invokevirtual 69, 3) := by decide +kernel
theorem dX6_isOpen_5 : decode cX6_isOpen 5 = .ok (.ifCond .eq 19, 3) := by decide +kernel
theorem dX6_isOpen_8 : decode cX6_isOpen 8 = .ok (.aload_n 0, 1) := by decide +kernel
theorem dX6_isOpen_9 : decode cX6_isOpen 9 = .ok (.getfield 17, 3) := by decide +kernel
theorem dX6_isOpen_12 : decode cX6_isOpen 12 = .ok (.iload_n 1, 1) := by decide +kernel
theorem dX6_isOpen_13 : decode cX6_isOpen 13 = .ok (.aaload, 1) := by decide +kernel
theorem dX6_isOpen_14 : decode cX6_isOpen 14 = .ok (.getfield 73, 3) := by decide +kernel
theorem dX6_isOpen_17 : decode cX6_isOpen 17 = .ok (.ifCond .ne 7, 3) := by decide +kernel
theorem dX6_isOpen_20 : decode cX6_isOpen 20 = .ok (.iconst 1, 1) := by decide +kernel
theorem dX6_isOpen_21 : decode cX6_isOpen 21 = .ok (.goto 4, 3) := by decide +kernel
theorem dX6_isOpen_24 : decode cX6_isOpen 24 = .ok (.iconst 0, 1) := by decide +kernel
theorem dX6_isOpen_25 : decode cX6_isOpen 25 = .ok (.ireturn, 1) := by decide +kernel
theorem dX6_isOpenOrRejected_0 : decode cX6_isOpenOrRejected 0 = .ok (.aload_n 0, 1) := by decide +kernel
theorem dX6_isOpenOrRejected_1 : decode cX6_isOpenOrRejected 1 = .ok (.iload_n 1, 1) := by decide +kernel
theorem dX6_isOpenOrRejected_2 : decode cX6_isOpenOrRejected 2 = .ok (.invokevirtual 76, 3) := by decide +kernel
theorem dX6_isOpenOrRejected_5 : decode cX6_isOpenOrRejected 5 = .ok (.ifCond .ne 24, 3) := by decide +kernel
theorem dX6_isOpenOrRejected_8 : decode cX6_isOpenOrRejected 8 = .ok (.aload_n 0, 1) := by decide +kernel
theorem dX6_isOpenOrRejected_9 : decode cX6_isOpenOrRejected 9 = .ok (.iload_n 1, 1) := by decide +kernel
theorem dX6_isOpenOrRejected_10 : decode cX6_isOpenOrRejected 10 = .ok (.invokevirtual 69, 3) := by decide +kernel
theorem dX6_isOpenOrRejected_13 : decode cX6_isOpenOrRejected 13 = .ok (.ifCond .eq 20, 3) := by decide +kernel
theorem dX6_isOpenOrRejected_16 : decode cX6_isOpenOrRejected 16 = .ok (.aload_n 0, 1) := by decide +kernel
theorem dX6_isOpenOrRejected_17 : decode cX6_isOpenOrRejected 17 = .ok (.getfield 17, 3) := by decide +kernel
theorem dX6_isOpenOrRejected_20 : decode cX6_isOpenOrRejected 20 = .ok (.iload_n 1, 1) := by decide +kernel
theorem dX6_isOpenOrRejected_21 : decode cX6_isOpenOrRejected 21 = .ok (.aaload, 1) := by decide +kernel
theorem dX6_isOpenOrRejected_22 : decode cX6_isOpenOrRejected 22 = .ok (.getfield 73, 3) := by decide +kernel
theorem dX6_isOpenOrRejected_25 : decode cX6_isOpenOrRejected 25 = .ok (.iconst 3, 1) := by decide +kernel
theorem dX6_isOpenOrRejected_26 : decode cX6_isOpenOrRejected 26 = .ok (.if_icmp .ne 7, 3) := by decide +kernel
theorem dX6_isOpenOrRejected_29 : decode cX6_isOpenOrRejected 29 = .ok (.iconst 1, 1) := by decide +kernel
theorem dX6_isOpenOrRejected_30 : decode cX6_isOpenOrRejected 30 = .ok (.goto 4, 3) := by decide +kernel
theorem dX6_isOpenOrRejected_33 : decode cX6_isOpenOrRejected 33 = .ok (.iconst 0, 1) := by decide +kernel
theorem dX6_isOpenOrRejected_34 : decode cX6_isOpenOrRejected 34 = .ok (.ireturn, 1) := by decide +kernel
theorem dX6_mayBeQueued_0 : decode cX6_mayBeQueued 0 = .ok (.aload_n 0, 1) := by decide +kernel
theorem dX6_mayBeQueued_1 : decode cX6_mayBeQueued 1 = .ok (.iload_n 1, 1) := by decide +kernel
theorem dX6_mayBeQueued_2 : decode cX6_mayBeQueued 2 = .ok (.invokevirtual 76, 3) := by decide +kernel
theorem dX6_mayBeQueued_5 : decode cX6_mayBeQueued 5 = .ok (.ifCond .eq 38, 3) := by decide +kernel
theorem dX6_mayBeQueued_8 : decode cX6_mayBeQueued 8 = .ok (.aload_n 0, 1) := by decide +kernel
theorem dX6_mayBeQueued_9 : decode cX6_mayBeQueued 9 = .ok (.getfield 17, 3) := by decide +kernel
theorem dX6_mayBeQueued_12 : decode cX6_mayBeQueued 12 = .ok (.iload_n 1, 1) := by decide +kernel
theorem dX6_mayBeQueued_13 : decode cX6_mayBeQueued 13 = .ok (.aaload, 1) := by decide +kernel
theorem dX6_mayBeQueued_14 : decode cX6_mayBeQueued 14 = .ok (.invokevirtual 79, 3) := by decide +kernel
theorem dX6_mayBeQueued_17 : decode cX6_mayBeQueued 17 = .ok (.aload_n 0, 1) := by decide +kernel
theorem dX6_mayBeQueued_18 : decode cX6_mayBeQueued 18 = .ok (.getfield 40, 3) := by decide +kernel
theorem dX6_mayBeQueued_21 : decode cX6_mayBeQueued 21 = .ok (.getfield 83, 3) := by decide +kernel
theorem dX6_mayBeQueued_24 : decode cX6_mayBeQueued 24 = .ok (.if_icmp .lt 19, 3) := by decide +kernel
theorem dX6_mayBeQueued_27 : decode cX6_mayBeQueued 27 = .ok (.aload_n 0, 1) := by decide +kernel
theorem dX6_mayBeQueued_28 : decode cX6_mayBeQueued 28 = .ok (.getfield 17, 3) := by decide +kernel
theorem dX6_mayBeQueued_31 : decode cX6_mayBeQueued 31 = .ok (.iload_n 1, 1) := by decide +kernel
theorem dX6_mayBeQueued_32 : decode cX6_mayBeQueued 32 = .ok (.aaload, 1) := by decide +kernel
theorem dX6_mayBeQueued_33 : decode cX6_mayBeQueued 33 = .ok (.invokevirtual 88, 3) := by decide +kernel
theorem dX6_mayBeQueued_36 : decode cX6_mayBeQueued 36 = .ok (.ifCond .ne 7, 3) := by decide +kernel
theorem dX6_mayBeQueued_39 : decode cX6_mayBeQueued 39 = .ok (.iconst 1, 1) := by decide +kernel
theorem dX6_mayBeQueued_40 : decode cX6_mayBeQueued 40 = .ok (.goto 4, 3) := by decide +kernel
theorem dX6_mayBeQueued_43 : decode cX6_mayBeQueued 43 = .ok (.iconst 0, 1) := by decide +kernel
theorem dX6_mayBeQueued_44 : decode cX6_mayBeQueued 44 = .ok (.ireturn, 1) := by decide +kernel
theorem dX6_mayBeRebased_0 : decode cX6_mayBeRebased 0 = .ok (.aload_n 0, 1) := by decide +kernel
theorem dX6_mayBeRebased_1 : decode cX6_mayBeRebased 1 = .ok (.iload_n 1, 1) := by decide +kernel
theorem dX6_mayBeRebased_2 : decode cX6_mayBeRebased 2 = .ok (.invokevirtual 91, 3) := by decide +kernel
theorem dX6_mayBeRebased_5 : decode cX6_mayBeRebased 5 = .ok (.ifCond .eq 23, 3) := by decide +kernel
theorem dX6_mayBeRebased_8 : decode cX6_mayBeRebased 8 = .ok (.aload_n 0, 1) := by decide +kernel
theorem dX6_mayBeRebased_9 : decode cX6_mayBeRebased 9 = .ok (.getfield 17, 3) := by decide +kernel
theorem dX6_mayBeRebased_12 : decode cX6_mayBeRebased 12 = .ok (.iload_n 1, 1) := by decide +kernel
theorem dX6_mayBeRebased_13 : decode cX6_mayBeRebased 13 = .ok (.aaload, 1) := by decide +kernel
theorem dX6_mayBeRebased_14 : decode cX6_mayBeRebased 14 = .ok (.aload_n 0, 1) := by decide +kernel
theorem dX6_mayBeRebased_15 : decode cX6_mayBeRebased 15 = .ok (.getfield 9, 3) := by decide +kernel
theorem dX6_mayBeRebased_18 : decode cX6_mayBeRebased 18 = .ok (.invokevirtual 94, 3) := by decide +kernel
theorem dX6_mayBeRebased_21 : decode cX6_mayBeRebased 21 = .ok (.ifCond .ne 7, 3) := by decide +kernel
theorem dX6_mayBeRebased_24 : decode cX6_mayBeRebased 24 = .ok (.iconst 1, 1) := by decide +kernel
theorem dX6_mayBeRebased_25 : decode cX6_mayBeRebased 25 = .ok (.goto 4, 3) := by decide +kernel
theorem dX6_mayBeRebased_28 : decode cX6_mayBeRebased 28 = .ok (.iconst 0, 1) := by decide +kernel
theorem dX6_mayBeRebased_29 : decode cX6_mayBeRebased 29 = .ok (.ireturn, 1) := by decide +kernel
theorem dX6_jobToLease_0 : decode cX6_jobToLease 0 = .ok (.iload_n 1, 1) := by decide +kernel
theorem dX6_jobToLease_1 : decode cX6_jobToLease 1 = .ok (.invokestatic 98, 3) := by decide +kernel
theorem dX6_jobToLease_4 : decode cX6_jobToLease 4 = .ok (.ifCond .eq 25, 3) := by decide +kernel
theorem dX6_jobToLease_7 : decode cX6_jobToLease 7 = .ok (.aload_n 0, 1) := by decide +kernel
theorem dX6_jobToLease_8 : decode cX6_jobToLease 8 = .ok (.getfield 36, 3) := by decide +kernel
theorem dX6_jobToLease_11 : decode cX6_jobToLease 11 = .ok (.iload_n 1, 1) := by decide +kernel
theorem dX6_jobToLease_12 : decode cX6_jobToLease 12 = .ok (.invokevirtual 101, 3) := by decide +kernel
theorem dX6_jobToLease_15 : decode cX6_jobToLease 15 = .ok (.iconst (-1), 1) := by decide +kernel
theorem dX6_jobToLease_16 : decode cX6_jobToLease 16 = .ok (.if_icmp .ne 13, 3) := by decide +kernel
theorem dX6_jobToLease_19 : decode cX6_jobToLease 19 = .ok (.aload_n 0, 1) := by decide +kernel
theorem dX6_jobToLease_20 : decode cX6_jobToLease 20 = .ok (.getfield 36, 3) := by decide +kernel
theorem dX6_jobToLease_23 : decode cX6_jobToLease 23 = .ok (.invokevirtual 105, 3) := by decide +kernel
theorem dX6_jobToLease_26 : decode cX6_jobToLease 26 = .ok (.goto 4, 3) := by decide +kernel
theorem dX6_jobToLease_29 : decode cX6_jobToLease 29 = .ok (.iconst (-1), 1) := by decide +kernel
theorem dX6_jobToLease_30 : decode cX6_jobToLease 30 = .ok (.ireturn, 1) := by decide +kernel
theorem dX6_carryOut_0 : decode cX6_carryOut 0 = .ok (.iconst 0, 1) := by decide +kernel
theorem dX6_carryOut_1 : decode cX6_carryOut 1 = .ok (.istore_n 2, 1) := by decide +kernel
theorem dX6_carryOut_2 : decode cX6_carryOut 2 = .ok (.aload_n 1, 1) := by decide +kernel
theorem dX6_carryOut_3 : decode cX6_carryOut 3 = .ok (.getfield 108, 3) := by decide +kernel
theorem dX6_carryOut_6 : decode cX6_carryOut 6 = .ok (.tableswitch 262 0 9 #[54, 62, 85, 104, 123, 140, 168, 187, 199, 221], 54) := by decide +kernel
theorem dX6_carryOut_60 : decode cX6_carryOut 60 = .ok (.aload_n 0, 1) := by decide +kernel
theorem dX6_carryOut_61 : decode cX6_carryOut 61 = .ok (.invokevirtual 113, 3) := by decide +kernel
theorem dX6_carryOut_64 : decode cX6_carryOut 64 = .ok (.istore_n 2, 1) := by decide +kernel
theorem dX6_carryOut_65 : decode cX6_carryOut 65 = .ok (.goto 203, 3) := by decide +kernel
theorem dX6_carryOut_68 : decode cX6_carryOut 68 = .ok (.aload_n 0, 1) := by decide +kernel
theorem dX6_carryOut_69 : decode cX6_carryOut 69 = .ok (.getfield 17, 3) := by decide +kernel
theorem dX6_carryOut_72 : decode cX6_carryOut 72 = .ok (.aload_n 1, 1) := by decide +kernel
theorem dX6_carryOut_73 : decode cX6_carryOut 73 = .ok (.getfield 116, 3) := by decide +kernel
theorem dX6_carryOut_76 : decode cX6_carryOut 76 = .ok (.aaload, 1) := by decide +kernel
theorem dX6_carryOut_77 : decode cX6_carryOut 77 = .ok (.aload_n 1, 1) := by decide +kernel
theorem dX6_carryOut_78 : decode cX6_carryOut 78 = .ok (.getfield 119, 3) := by decide +kernel
theorem dX6_carryOut_81 : decode cX6_carryOut 81 = .ok (.aload_n 1, 1) := by decide +kernel
theorem dX6_carryOut_82 : decode cX6_carryOut 82 = .ok (.getfield 122, 3) := by decide +kernel
theorem dX6_carryOut_85 : decode cX6_carryOut 85 = .ok (.invokevirtual 125, 3) := by decide +kernel
theorem dX6_carryOut_88 : decode cX6_carryOut 88 = .ok (.goto 180, 3) := by decide +kernel
theorem dX6_carryOut_91 : decode cX6_carryOut 91 = .ok (.aload_n 0, 1) := by decide +kernel
theorem dX6_carryOut_92 : decode cX6_carryOut 92 = .ok (.getfield 17, 3) := by decide +kernel
theorem dX6_carryOut_95 : decode cX6_carryOut 95 = .ok (.aload_n 1, 1) := by decide +kernel
theorem dX6_carryOut_96 : decode cX6_carryOut 96 = .ok (.getfield 116, 3) := by decide +kernel
theorem dX6_carryOut_99 : decode cX6_carryOut 99 = .ok (.aaload, 1) := by decide +kernel
theorem dX6_carryOut_100 : decode cX6_carryOut 100 = .ok (.aload_n 1, 1) := by decide +kernel
theorem dX6_carryOut_101 : decode cX6_carryOut 101 = .ok (.getfield 119, 3) := by decide +kernel
theorem dX6_carryOut_104 : decode cX6_carryOut 104 = .ok (.invokevirtual 129, 3) := by decide +kernel
theorem dX6_carryOut_107 : decode cX6_carryOut 107 = .ok (.goto 161, 3) := by decide +kernel
theorem dX6_carryOut_110 : decode cX6_carryOut 110 = .ok (.aload_n 0, 1) := by decide +kernel
theorem dX6_carryOut_111 : decode cX6_carryOut 111 = .ok (.getfield 17, 3) := by decide +kernel
theorem dX6_carryOut_114 : decode cX6_carryOut 114 = .ok (.aload_n 1, 1) := by decide +kernel
theorem dX6_carryOut_115 : decode cX6_carryOut 115 = .ok (.getfield 116, 3) := by decide +kernel
theorem dX6_carryOut_118 : decode cX6_carryOut 118 = .ok (.aaload, 1) := by decide +kernel
theorem dX6_carryOut_119 : decode cX6_carryOut 119 = .ok (.aload_n 1, 1) := by decide +kernel
theorem dX6_carryOut_120 : decode cX6_carryOut 120 = .ok (.getfield 119, 3) := by decide +kernel
theorem dX6_carryOut_123 : decode cX6_carryOut 123 = .ok (.invokevirtual 132, 3) := by decide +kernel
theorem dX6_carryOut_126 : decode cX6_carryOut 126 = .ok (.goto 142, 3) := by decide +kernel
theorem dX6_carryOut_129 : decode cX6_carryOut 129 = .ok (.aload_n 0, 1) := by decide +kernel
theorem dX6_carryOut_130 : decode cX6_carryOut 130 = .ok (.getfield 17, 3) := by decide +kernel
theorem dX6_carryOut_133 : decode cX6_carryOut 133 = .ok (.aload_n 1, 1) := by decide +kernel
theorem dX6_carryOut_134 : decode cX6_carryOut 134 = .ok (.getfield 116, 3) := by decide +kernel
theorem dX6_carryOut_137 : decode cX6_carryOut 137 = .ok (.aaload, 1) := by decide +kernel
theorem dX6_carryOut_138 : decode cX6_carryOut 138 = .ok (.iconst 4, 1) := by decide +kernel
theorem dX6_carryOut_139 : decode cX6_carryOut 139 = .ok (.iconst 0, 1) := by decide +kernel
theorem dX6_carryOut_140 : decode cX6_carryOut 140 = .ok (.invokevirtual 135, 3) := by decide +kernel
theorem dX6_carryOut_143 : decode cX6_carryOut 143 = .ok (.goto 125, 3) := by decide +kernel
theorem dX6_carryOut_146 : decode cX6_carryOut 146 = .ok (.aload_n 0, 1) := by decide +kernel
theorem dX6_carryOut_147 : decode cX6_carryOut 147 = .ok (.getfield 17, 3) := by decide +kernel
theorem dX6_carryOut_150 : decode cX6_carryOut 150 = .ok (.aload_n 1, 1) := by decide +kernel
theorem dX6_carryOut_151 : decode cX6_carryOut 151 = .ok (.getfield 116, 3) := by decide +kernel
theorem dX6_carryOut_154 : decode cX6_carryOut 154 = .ok (.aaload, 1) := by decide +kernel
theorem dX6_carryOut_155 : decode cX6_carryOut 155 = .ok (.iconst 1, 1) := by decide +kernel
theorem dX6_carryOut_156 : decode cX6_carryOut 156 = .ok (.iconst 0, 1) := by decide +kernel
theorem dX6_carryOut_157 : decode cX6_carryOut 157 = .ok (.invokevirtual 135, 3) := by decide +kernel
theorem dX6_carryOut_160 : decode cX6_carryOut 160 = .ok (.aload_n 0, 1) := by decide +kernel
theorem dX6_carryOut_161 : decode cX6_carryOut 161 = .ok (.getfield 26, 3) := by decide +kernel
theorem dX6_carryOut_164 : decode cX6_carryOut 164 = .ok (.aload_n 1, 1) := by decide +kernel
theorem dX6_carryOut_165 : decode cX6_carryOut 165 = .ok (.getfield 116, 3) := by decide +kernel
theorem dX6_carryOut_168 : decode cX6_carryOut 168 = .ok (.invokevirtual 138, 3) := by decide +kernel
theorem dX6_carryOut_171 : decode cX6_carryOut 171 = .ok (.goto 97, 3) := by decide +kernel
theorem dX6_carryOut_174 : decode cX6_carryOut 174 = .ok (.aload_n 0, 1) := by decide +kernel
theorem dX6_carryOut_175 : decode cX6_carryOut 175 = .ok (.getfield 17, 3) := by decide +kernel
theorem dX6_carryOut_178 : decode cX6_carryOut 178 = .ok (.aload_n 1, 1) := by decide +kernel
theorem dX6_carryOut_179 : decode cX6_carryOut 179 = .ok (.getfield 116, 3) := by decide +kernel
theorem dX6_carryOut_182 : decode cX6_carryOut 182 = .ok (.aaload, 1) := by decide +kernel
theorem dX6_carryOut_183 : decode cX6_carryOut 183 = .ok (.aload_n 0, 1) := by decide +kernel
theorem dX6_carryOut_184 : decode cX6_carryOut 184 = .ok (.getfield 9, 3) := by decide +kernel
theorem dX6_carryOut_187 : decode cX6_carryOut 187 = .ok (.invokevirtual 141, 3) := by decide +kernel
theorem dX6_carryOut_190 : decode cX6_carryOut 190 = .ok (.goto 78, 3) := by decide +kernel
theorem dX6_carryOut_193 : decode cX6_carryOut 193 = .ok (.aload_n 0, 1) := by decide +kernel
theorem dX6_carryOut_194 : decode cX6_carryOut 194 = .ok (.aload_n 1, 1) := by decide +kernel
theorem dX6_carryOut_195 : decode cX6_carryOut 195 = .ok (.getfield 116, 3) := by decide +kernel
theorem dX6_carryOut_198 : decode cX6_carryOut 198 = .ok (.invokevirtual 145, 3) := by decide +kernel
theorem dX6_carryOut_201 : decode cX6_carryOut 201 = .ok (.istore_n 2, 1) := by decide +kernel
theorem dX6_carryOut_202 : decode cX6_carryOut 202 = .ok (.goto 66, 3) := by decide +kernel
theorem dX6_carryOut_205 : decode cX6_carryOut 205 = .ok (.aload_n 0, 1) := by decide +kernel
theorem dX6_carryOut_206 : decode cX6_carryOut 206 = .ok (.aload_n 0, 1) := by decide +kernel
theorem dX6_carryOut_207 : decode cX6_carryOut 207 = .ok (.getfield 36, 3) := by decide +kernel
theorem dX6_carryOut_210 : decode cX6_carryOut 210 = .ok (.aload_n 1, 1) := by decide +kernel
theorem dX6_carryOut_211 : decode cX6_carryOut 211 = .ok (.getfield 116, 3) := by decide +kernel
theorem dX6_carryOut_214 : decode cX6_carryOut 214 = .ok (.invokevirtual 101, 3) := by decide +kernel
theorem dX6_carryOut_217 : decode cX6_carryOut 217 = .ok (.aload_n 1, 1) := by decide +kernel
theorem dX6_carryOut_218 : decode cX6_carryOut 218 = .ok (.getfield 119, 3) := by decide +kernel
theorem dX6_carryOut_221 : decode cX6_carryOut 221 = .ok (.invokevirtual 148, 3) := by decide +kernel
theorem dX6_carryOut_224 : decode cX6_carryOut 224 = .ok (.goto 44, 3) := by decide +kernel
theorem dX6_carryOut_227 : decode cX6_carryOut 227 = .ok (.iconst 0, 1) := by decide +kernel
theorem dX6_carryOut_228 : decode cX6_carryOut 228 = .ok (.istore_n 3, 1) := by decide +kernel
theorem dX6_carryOut_229 : decode cX6_carryOut 229 = .ok (.iload_n 3, 1) := by decide +kernel
theorem dX6_carryOut_230 : decode cX6_carryOut 230 = .ok (.aload_n 1, 1) := by decide +kernel
theorem dX6_carryOut_231 : decode cX6_carryOut 231 = .ok (.getfield 116, 3) := by decide +kernel
theorem dX6_carryOut_234 : decode cX6_carryOut 234 = .ok (.if_icmp .ge 31, 3) := by decide +kernel
theorem dX6_carryOut_237 : decode cX6_carryOut 237 = .ok (.aload_n 0, 1) := by decide +kernel
theorem dX6_carryOut_238 : decode cX6_carryOut 238 = .ok (.dup, 1) := by decide +kernel
theorem dX6_carryOut_239 : decode cX6_carryOut 239 = .ok (.getfield 66, 3) := by decide +kernel
theorem dX6_carryOut_242 : decode cX6_carryOut 242 = .ok (.iconst 1, 1) := by decide +kernel
theorem dX6_carryOut_243 : decode cX6_carryOut 243 = .ok (.iadd, 1) := by decide +kernel
theorem dX6_carryOut_244 : decode cX6_carryOut 244 = .ok (.putfield 66, 3) := by decide +kernel
theorem dX6_carryOut_247 : decode cX6_carryOut 247 = .ok (.iload_n 2, 1) := by decide +kernel
theorem dX6_carryOut_248 : decode cX6_carryOut 248 = .ok (.aload_n 0, 1) := by decide +kernel
theorem dX6_carryOut_249 : decode cX6_carryOut 249 = .ok (.iconst 0, 1) := by decide +kernel
theorem dX6_carryOut_250 : decode cX6_carryOut 250 = .ok (.invokevirtual 151, 3) := by decide +kernel
theorem dX6_carryOut_253 : decode cX6_carryOut 253 = .ok (.iadd, 1) := by decide +kernel
theorem dX6_carryOut_254 : decode cX6_carryOut 254 = .ok (.istore_n 2, 1) := by decide +kernel
theorem dX6_carryOut_255 : decode cX6_carryOut 255 = .ok (.aload_n 0, 1) := by decide +kernel
theorem dX6_carryOut_256 : decode cX6_carryOut 256 = .ok (.invokevirtual 155, 3) := by decide +kernel
theorem dX6_carryOut_259 : decode cX6_carryOut 259 = .ok (.iinc 3 1, 3) := by decide +kernel
theorem dX6_carryOut_262 : decode cX6_carryOut 262 = .ok (.goto (-33), 3) := by decide +kernel
theorem dX6_carryOut_265 : decode cX6_carryOut 265 = .ok (.goto 3, 3) := by decide +kernel
theorem dX6_carryOut_268 : decode cX6_carryOut 268 = .ok (.aload_n 0, 1) := by decide +kernel
theorem dX6_carryOut_269 : decode cX6_carryOut 269 = .ok (.invokevirtual 155, 3) := by decide +kernel
theorem dX6_carryOut_272 : decode cX6_carryOut 272 = .ok (.iload_n 2, 1) := by decide +kernel
theorem dX6_carryOut_273 : decode cX6_carryOut 273 = .ok (.ireturn, 1) := by decide +kernel
theorem dX6_addChange_0 : decode cX6_addChange 0 = .ok (.aload_n 0, 1) := by decide +kernel
theorem dX6_addChange_1 : decode cX6_addChange 1 = .ok (.getfield 57, 3) := by decide +kernel
theorem dX6_addChange_4 : decode cX6_addChange 4 = .ok (.istore_n 1, 1) := by decide +kernel
theorem dX6_addChange_5 : decode cX6_addChange 5 = .ok (.aload_n 0, 1) := by decide +kernel
theorem dX6_addChange_6 : decode cX6_addChange 6 = .ok (.getfield 17, 3) := by decide +kernel
theorem dX6_addChange_9 : decode cX6_addChange 9 = .ok (.iload_n 1, 1) := by decide +kernel
theorem dX6_addChange_10 : decode cX6_addChange 10 = .ok (.aaload, 1) := by decide +kernel
theorem dX6_addChange_11 : decode cX6_addChange 11 = .ok (.aload_n 0, 1) := by decide +kernel
theorem dX6_addChange_12 : decode cX6_addChange 12 = .ok (.getfield 9, 3) := by decide +kernel
theorem dX6_addChange_15 : decode cX6_addChange 15 = .ok (.invokevirtual 158, 3) := by decide +kernel
theorem dX6_addChange_18 : decode cX6_addChange 18 = .ok (.aload_n 0, 1) := by decide +kernel
theorem dX6_addChange_19 : decode cX6_addChange 19 = .ok (.dup, 1) := by decide +kernel
theorem dX6_addChange_20 : decode cX6_addChange 20 = .ok (.getfield 57, 3) := by decide +kernel
theorem dX6_addChange_23 : decode cX6_addChange 23 = .ok (.iconst 1, 1) := by decide +kernel
theorem dX6_addChange_24 : decode cX6_addChange 24 = .ok (.iadd, 1) := by decide +kernel
theorem dX6_addChange_25 : decode cX6_addChange 25 = .ok (.putfield 57, 3) := by decide +kernel
theorem dX6_addChange_28 : decode cX6_addChange 28 = .ok (.iload_n 1, 1) := by decide +kernel
theorem dX6_addChange_29 : decode cX6_addChange 29 = .ok (.ireturn, 1) := by decide +kernel
theorem dX6_leaseNextJob_0 : decode cX6_leaseNextJob 0 = .ok (.aload_n 0, 1) := by decide +kernel
theorem dX6_leaseNextJob_1 : decode cX6_leaseNextJob 1 = .ok (.getfield 36, 3) := by decide +kernel
theorem dX6_leaseNextJob_4 : decode cX6_leaseNextJob 4 = .ok (.invokevirtual 105, 3) := by decide +kernel
theorem dX6_leaseNextJob_7 : decode cX6_leaseNextJob 7 = .ok (.istore_n 2, 1) := by decide +kernel
theorem dX6_leaseNextJob_8 : decode cX6_leaseNextJob 8 = .ok (.iload_n 2, 1) := by decide +kernel
theorem dX6_leaseNextJob_9 : decode cX6_leaseNextJob 9 = .ok (.iconst (-1), 1) := by decide +kernel
theorem dX6_leaseNextJob_10 : decode cX6_leaseNextJob 10 = .ok (.if_icmp .eq 24, 3) := by decide +kernel
theorem dX6_leaseNextJob_13 : decode cX6_leaseNextJob 13 = .ok (.aload_n 0, 1) := by decide +kernel
theorem dX6_leaseNextJob_14 : decode cX6_leaseNextJob 14 = .ok (.getfield 36, 3) := by decide +kernel
theorem dX6_leaseNextJob_17 : decode cX6_leaseNextJob 17 = .ok (.iload_n 2, 1) := by decide +kernel
theorem dX6_leaseNextJob_18 : decode cX6_leaseNextJob 18 = .ok (.iload_n 1, 1) := by decide +kernel
theorem dX6_leaseNextJob_19 : decode cX6_leaseNextJob 19 = .ok (.aload_n 0, 1) := by decide +kernel
theorem dX6_leaseNextJob_20 : decode cX6_leaseNextJob 20 = .ok (.getfield 66, 3) := by decide +kernel
theorem dX6_leaseNextJob_23 : decode cX6_leaseNextJob 23 = .ok (.aload_n 0, 1) := by decide +kernel
theorem dX6_leaseNextJob_24 : decode cX6_leaseNextJob 24 = .ok (.getfield 40, 3) := by decide +kernel
theorem dX6_leaseNextJob_27 : decode cX6_leaseNextJob 27 = .ok (.getfield 161, 3) := by decide +kernel
theorem dX6_leaseNextJob_30 : decode cX6_leaseNextJob 30 = .ok (.iadd, 1) := by decide +kernel
theorem dX6_leaseNextJob_31 : decode cX6_leaseNextJob 31 = .ok (.invokevirtual 164, 3) := by decide +kernel
theorem dX6_leaseNextJob_34 : decode cX6_leaseNextJob 34 = .ok (.iload_n 2, 1) := by decide +kernel
theorem dX6_leaseNextJob_35 : decode cX6_leaseNextJob 35 = .ok (.ireturn, 1) := by decide +kernel
theorem dX6_recover_0 : decode cX6_recover 0 = .ok (.aload_n 0, 1) := by decide +kernel
theorem dX6_recover_1 : decode cX6_recover 1 = .ok (.iconst 1, 1) := by decide +kernel
theorem dX6_recover_2 : decode cX6_recover 2 = .ok (.invokevirtual 151, 3) := by decide +kernel
theorem dX6_recover_5 : decode cX6_recover 5 = .ok (.pop, 1) := by decide +kernel
theorem dX6_recover_6 : decode cX6_recover 6 = .ok (.aload_n 0, 1) := by decide +kernel
theorem dX6_recover_7 : decode cX6_recover 7 = .ok (.invokevirtual 155, 3) := by decide +kernel
theorem dX6_recover_10 : decode cX6_recover 10 = .ok (.return_, 1) := by decide +kernel
theorem dX6_expireLeases_0 : decode cX6_expireLeases 0 = .ok (.iconst 0, 1) := by decide +kernel
theorem dX6_expireLeases_1 : decode cX6_expireLeases 1 = .ok (.istore_n 2, 1) := by decide +kernel
theorem dX6_expireLeases_2 : decode cX6_expireLeases 2 = .ok (.iconst 0, 1) := by decide +kernel
theorem dX6_expireLeases_3 : decode cX6_expireLeases 3 = .ok (.istore_n 3, 1) := by decide +kernel
theorem dX6_expireLeases_4 : decode cX6_expireLeases 4 = .ok (.iload_n 3, 1) := by decide +kernel
theorem dX6_expireLeases_5 : decode cX6_expireLeases 5 = .ok (.iconst 4, 1) := by decide +kernel
theorem dX6_expireLeases_6 : decode cX6_expireLeases 6 = .ok (.if_icmp .ge 70, 3) := by decide +kernel
theorem dX6_expireLeases_9 : decode cX6_expireLeases 9 = .ok (.aload_n 0, 1) := by decide +kernel
theorem dX6_expireLeases_10 : decode cX6_expireLeases 10 = .ok (.getfield 36, 3) := by decide +kernel
theorem dX6_expireLeases_13 : decode cX6_expireLeases 13 = .ok (.iload_n 3, 1) := by decide +kernel
theorem dX6_expireLeases_14 : decode cX6_expireLeases 14 = .ok (.invokevirtual 101, 3) := by decide +kernel
theorem dX6_expireLeases_17 : decode cX6_expireLeases 17 = .ok (.istore 4, 2) := by decide +kernel
theorem dX6_expireLeases_19 : decode cX6_expireLeases 19 = .ok (.iload 4, 2) := by decide +kernel
theorem dX6_expireLeases_21 : decode cX6_expireLeases 21 = .ok (.iconst (-1), 1) := by decide +kernel
theorem dX6_expireLeases_22 : decode cX6_expireLeases 22 = .ok (.if_icmp .eq 48, 3) := by decide +kernel
theorem dX6_expireLeases_25 : decode cX6_expireLeases 25 = .ok (.iload_n 1, 1) := by decide +kernel
theorem dX6_expireLeases_26 : decode cX6_expireLeases 26 = .ok (.ifCond .ne 19, 3) := by decide +kernel
theorem dX6_expireLeases_29 : decode cX6_expireLeases 29 = .ok (.aload_n 0, 1) := by decide +kernel
theorem dX6_expireLeases_30 : decode cX6_expireLeases 30 = .ok (.getfield 36, 3) := by decide +kernel
theorem dX6_expireLeases_33 : decode cX6_expireLeases 33 = .ok (.getfield 168, 3) := by decide +kernel
theorem dX6_expireLeases_36 : decode cX6_expireLeases 36 = .ok (.iload_n 3, 1) := by decide +kernel
theorem dX6_expireLeases_37 : decode cX6_expireLeases 37 = .ok (.iaload, 1) := by decide +kernel
theorem dX6_expireLeases_38 : decode cX6_expireLeases 38 = .ok (.aload_n 0, 1) := by decide +kernel
theorem dX6_expireLeases_39 : decode cX6_expireLeases 39 = .ok (.getfield 66, 3) := by decide +kernel
theorem dX6_expireLeases_42 : decode cX6_expireLeases 42 = .ok (.if_icmp .ne 28, 3) := by decide +kernel
theorem dX6_expireLeases_45 : decode cX6_expireLeases 45 = .ok (.aload_n 0, 1) := by decide +kernel
theorem dX6_expireLeases_46 : decode cX6_expireLeases 46 = .ok (.getfield 36, 3) := by decide +kernel
theorem dX6_expireLeases_49 : decode cX6_expireLeases 49 = .ok (.iload 4, 2) := by decide +kernel
theorem dX6_expireLeases_51 : decode cX6_expireLeases 51 = .ok (.aload_n 0, 1) := by decide +kernel
theorem dX6_expireLeases_52 : decode cX6_expireLeases 52 = .ok (.getfield 40, 3) := by decide +kernel
theorem dX6_expireLeases_55 : decode cX6_expireLeases 55 = .ok (.getfield 171, 3) := by decide +kernel
theorem dX6_expireLeases_58 : decode cX6_expireLeases 58 = .ok (.iconst 1, 1) := by decide +kernel
theorem dX6_expireLeases_59 : decode cX6_expireLeases 59 = .ok (.iadd, 1) := by decide +kernel
theorem dX6_expireLeases_60 : decode cX6_expireLeases 60 = .ok (.invokevirtual 174, 3) := by decide +kernel
theorem dX6_expireLeases_63 : decode cX6_expireLeases 63 = .ok (.aload_n 0, 1) := by decide +kernel
theorem dX6_expireLeases_64 : decode cX6_expireLeases 64 = .ok (.invokevirtual 177, 3) := by decide +kernel
theorem dX6_expireLeases_67 : decode cX6_expireLeases 67 = .ok (.iinc 2 1, 3) := by decide +kernel
theorem dX6_expireLeases_70 : decode cX6_expireLeases 70 = .ok (.iinc 3 1, 3) := by decide +kernel
theorem dX6_expireLeases_73 : decode cX6_expireLeases 73 = .ok (.goto (-69), 3) := by decide +kernel
theorem dX6_expireLeases_76 : decode cX6_expireLeases 76 = .ok (.iload_n 2, 1) := by decide +kernel
theorem dX6_expireLeases_77 : decode cX6_expireLeases 77 = .ok (.ireturn, 1) := by decide +kernel
theorem dX6_endJob_0 : decode cX6_endJob 0 = .ok (.iload_n 1, 1) := by decide +kernel
theorem dX6_endJob_1 : decode cX6_endJob 1 = .ok (.iconst (-1), 1) := by decide +kernel
theorem dX6_endJob_2 : decode cX6_endJob 2 = .ok (.if_icmp .ne 4, 3) := by decide +kernel
theorem dX6_endJob_5 : decode cX6_endJob 5 = .ok (.return_, 1) := by decide +kernel
theorem dX6_endJob_6 : decode cX6_endJob 6 = .ok (.iload_n 2, 1) := by decide +kernel
theorem dX6_endJob_7 : decode cX6_endJob 7 = .ok (.iconst 2, 1) := by decide +kernel
theorem dX6_endJob_8 : decode cX6_endJob 8 = .ok (.if_icmp .ne 16, 3) := by decide +kernel
theorem dX6_endJob_11 : decode cX6_endJob 11 = .ok (.aload_n 0, 1) := by decide +kernel
theorem dX6_endJob_12 : decode cX6_endJob 12 = .ok (.getfield 36, 3) := by decide +kernel
theorem dX6_endJob_15 : decode cX6_endJob 15 = .ok (.getfield 180, 3) := by decide +kernel
theorem dX6_endJob_18 : decode cX6_endJob 18 = .ok (.iload_n 1, 1) := by decide +kernel
theorem dX6_endJob_19 : decode cX6_endJob 19 = .ok (.iconst 2, 1) := by decide +kernel
theorem dX6_endJob_20 : decode cX6_endJob 20 = .ok (.iastore, 1) := by decide +kernel
theorem dX6_endJob_21 : decode cX6_endJob 21 = .ok (.goto 11, 3) := by decide +kernel
theorem dX6_endJob_24 : decode cX6_endJob 24 = .ok (.aload_n 0, 1) := by decide +kernel
theorem dX6_endJob_25 : decode cX6_endJob 25 = .ok (.getfield 36, 3) := by decide +kernel
theorem dX6_endJob_28 : decode cX6_endJob 28 = .ok (.iload_n 1, 1) := by decide +kernel
theorem dX6_endJob_29 : decode cX6_endJob 29 = .ok (.invokevirtual 183, 3) := by decide +kernel
theorem dX6_endJob_32 : decode cX6_endJob 32 = .ok (.aload_n 0, 1) := by decide +kernel
theorem dX6_endJob_33 : decode cX6_endJob 33 = .ok (.invokevirtual 177, 3) := by decide +kernel
theorem dX6_endJob_36 : decode cX6_endJob 36 = .ok (.return_, 1) := by decide +kernel
theorem dX6_judgeBatch_0 : decode cX6_judgeBatch 0 = .ok (.aload_n 0, 1) := by decide +kernel
theorem dX6_judgeBatch_1 : decode cX6_judgeBatch 1 = .ok (.getfield 36, 3) := by decide +kernel
theorem dX6_judgeBatch_4 : decode cX6_judgeBatch 4 = .ok (.invokevirtual 186, 3) := by decide +kernel
theorem dX6_judgeBatch_7 : decode cX6_judgeBatch 7 = .ok (.istore_n 1, 1) := by decide +kernel
theorem dX6_judgeBatch_8 : decode cX6_judgeBatch 8 = .ok (.iload_n 1, 1) := by decide +kernel
theorem dX6_judgeBatch_9 : decode cX6_judgeBatch 9 = .ok (.iconst (-1), 1) := by decide +kernel
theorem dX6_judgeBatch_10 : decode cX6_judgeBatch 10 = .ok (.if_icmp .eq 21, 3) := by decide +kernel
theorem dX6_judgeBatch_13 : decode cX6_judgeBatch 13 = .ok (.aload_n 0, 1) := by decide +kernel
theorem dX6_judgeBatch_14 : decode cX6_judgeBatch 14 = .ok (.aload_n 0, 1) := by decide +kernel
theorem dX6_judgeBatch_15 : decode cX6_judgeBatch 15 = .ok (.getfield 36, 3) := by decide +kernel
theorem dX6_judgeBatch_18 : decode cX6_judgeBatch 18 = .ok (.getfield 189, 3) := by decide +kernel
theorem dX6_judgeBatch_21 : decode cX6_judgeBatch 21 = .ok (.bipush 10, 2) := by decide +kernel
theorem dX6_judgeBatch_23 : decode cX6_judgeBatch 23 = .ok (.iload_n 1, 1) := by decide +kernel
theorem dX6_judgeBatch_24 : decode cX6_judgeBatch 24 = .ok (.iadd, 1) := by decide +kernel
theorem dX6_judgeBatch_25 : decode cX6_judgeBatch 25 = .ok (.invokevirtual 192, 3) := by decide +kernel
theorem dX6_judgeBatch_28 : decode cX6_judgeBatch 28 = .ok (.goto 17, 3) := by decide +kernel
theorem dX6_judgeBatch_31 : decode cX6_judgeBatch 31 = .ok (.aload_n 0, 1) := by decide +kernel
theorem dX6_judgeBatch_32 : decode cX6_judgeBatch 32 = .ok (.getfield 36, 3) := by decide +kernel
theorem dX6_judgeBatch_35 : decode cX6_judgeBatch 35 = .ok (.invokevirtual 195, 3) := by decide +kernel
theorem dX6_judgeBatch_38 : decode cX6_judgeBatch 38 = .ok (.ifCond .eq 7, 3) := by decide +kernel
theorem dX6_judgeBatch_41 : decode cX6_judgeBatch 41 = .ok (.aload_n 0, 1) := by decide +kernel
theorem dX6_judgeBatch_42 : decode cX6_judgeBatch 42 = .ok (.invokevirtual 199, 3) := by decide +kernel
theorem dX6_judgeBatch_45 : decode cX6_judgeBatch 45 = .ok (.return_, 1) := by decide +kernel
theorem dX6_passBatch_0 : decode cX6_passBatch 0 = .ok (.aload_n 0, 1) := by decide +kernel
theorem dX6_passBatch_1 : decode cX6_passBatch 1 = .ok (.getfield 36, 3) := by decide +kernel
theorem dX6_passBatch_4 : decode cX6_passBatch 4 = .ok (.getfield 202, 3) := by decide +kernel
theorem dX6_passBatch_7 : decode cX6_passBatch 7 = .ok (.aload_n 0, 1) := by decide +kernel
theorem dX6_passBatch_8 : decode cX6_passBatch 8 = .ok (.getfield 9, 3) := by decide +kernel
theorem dX6_passBatch_11 : decode cX6_passBatch 11 = .ok (.invokestatic 45, 3) := by decide +kernel
theorem dX6_passBatch_14 : decode cX6_passBatch 14 = .ok (.aload_n 0, 1) := by decide +kernel
theorem dX6_passBatch_15 : decode cX6_passBatch 15 = .ok (.dup, 1) := by decide +kernel
theorem dX6_passBatch_16 : decode cX6_passBatch 16 = .ok (.getfield 49, 3) := by decide +kernel
theorem dX6_passBatch_19 : decode cX6_passBatch 19 = .ok (.iconst 1, 1) := by decide +kernel
theorem dX6_passBatch_20 : decode cX6_passBatch 20 = .ok (.iadd, 1) := by decide +kernel
theorem dX6_passBatch_21 : decode cX6_passBatch 21 = .ok (.putfield 49, 3) := by decide +kernel
theorem dX6_passBatch_24 : decode cX6_passBatch 24 = .ok (.iconst 0, 1) := by decide +kernel
theorem dX6_passBatch_25 : decode cX6_passBatch 25 = .ok (.istore_n 1, 1) := by decide +kernel
theorem dX6_passBatch_26 : decode cX6_passBatch 26 = .ok (.iload_n 1, 1) := by decide +kernel
theorem dX6_passBatch_27 : decode cX6_passBatch 27 = .ok (.aload_n 0, 1) := by decide +kernel
theorem dX6_passBatch_28 : decode cX6_passBatch 28 = .ok (.getfield 36, 3) := by decide +kernel
theorem dX6_passBatch_31 : decode cX6_passBatch 31 = .ok (.getfield 189, 3) := by decide +kernel
theorem dX6_passBatch_34 : decode cX6_passBatch 34 = .ok (.if_icmp .ge 16, 3) := by decide +kernel
theorem dX6_passBatch_37 : decode cX6_passBatch 37 = .ok (.aload_n 0, 1) := by decide +kernel
theorem dX6_passBatch_38 : decode cX6_passBatch 38 = .ok (.iconst 0, 1) := by decide +kernel
theorem dX6_passBatch_39 : decode cX6_passBatch 39 = .ok (.iconst 2, 1) := by decide +kernel
theorem dX6_passBatch_40 : decode cX6_passBatch 40 = .ok (.iconst 0, 1) := by decide +kernel
theorem dX6_passBatch_41 : decode cX6_passBatch 41 = .ok (.invokevirtual 205, 3) := by decide +kernel
theorem dX6_passBatch_44 : decode cX6_passBatch 44 = .ok (.iinc 1 1, 3) := by decide +kernel
theorem dX6_passBatch_47 : decode cX6_passBatch 47 = .ok (.goto (-21), 3) := by decide +kernel
theorem dX6_passBatch_50 : decode cX6_passBatch 50 = .ok (.aload_n 0, 1) := by decide +kernel
theorem dX6_passBatch_51 : decode cX6_passBatch 51 = .ok (.getfield 30, 3) := by decide +kernel
theorem dX6_passBatch_54 : decode cX6_passBatch 54 = .ok (.iconst 0, 1) := by decide +kernel
theorem dX6_passBatch_55 : decode cX6_passBatch 55 = .ok (.invokevirtual 208, 3) := by decide +kernel
theorem dX6_passBatch_58 : decode cX6_passBatch 58 = .ok (.aload_n 0, 1) := by decide +kernel
theorem dX6_passBatch_59 : decode cX6_passBatch 59 = .ok (.getfield 36, 3) := by decide +kernel
theorem dX6_passBatch_62 : decode cX6_passBatch 62 = .ok (.invokevirtual 211, 3) := by decide +kernel
theorem dX6_passBatch_65 : decode cX6_passBatch 65 = .ok (.return_, 1) := by decide +kernel
theorem dX6_failBatch_0 : decode cX6_failBatch 0 = .ok (.aload_n 0, 1) := by decide +kernel
theorem dX6_failBatch_1 : decode cX6_failBatch 1 = .ok (.getfield 36, 3) := by decide +kernel
theorem dX6_failBatch_4 : decode cX6_failBatch 4 = .ok (.invokevirtual 211, 3) := by decide +kernel
theorem dX6_failBatch_7 : decode cX6_failBatch 7 = .ok (.iload_n 1, 1) := by decide +kernel
theorem dX6_failBatch_8 : decode cX6_failBatch 8 = .ok (.iconst 1, 1) := by decide +kernel
theorem dX6_failBatch_9 : decode cX6_failBatch 9 = .ok (.if_icmp .ne 21, 3) := by decide +kernel
theorem dX6_failBatch_12 : decode cX6_failBatch 12 = .ok (.aload_n 0, 1) := by decide +kernel
theorem dX6_failBatch_13 : decode cX6_failBatch 13 = .ok (.iconst 0, 1) := by decide +kernel
theorem dX6_failBatch_14 : decode cX6_failBatch 14 = .ok (.iconst 3, 1) := by decide +kernel
theorem dX6_failBatch_15 : decode cX6_failBatch 15 = .ok (.iload_n 2, 1) := by decide +kernel
theorem dX6_failBatch_16 : decode cX6_failBatch 16 = .ok (.invokevirtual 205, 3) := by decide +kernel
theorem dX6_failBatch_19 : decode cX6_failBatch 19 = .ok (.aload_n 0, 1) := by decide +kernel
theorem dX6_failBatch_20 : decode cX6_failBatch 20 = .ok (.getfield 30, 3) := by decide +kernel
theorem dX6_failBatch_23 : decode cX6_failBatch 23 = .ok (.iconst 0, 1) := by decide +kernel
theorem dX6_failBatch_24 : decode cX6_failBatch 24 = .ok (.invokevirtual 208, 3) := by decide +kernel
theorem dX6_failBatch_27 : decode cX6_failBatch 27 = .ok (.goto 26, 3) := by decide +kernel
theorem dX6_failBatch_30 : decode cX6_failBatch 30 = .ok (.aload_n 0, 1) := by decide +kernel
theorem dX6_failBatch_31 : decode cX6_failBatch 31 = .ok (.getfield 30, 3) := by decide +kernel
theorem dX6_failBatch_34 : decode cX6_failBatch 34 = .ok (.iload_n 1, 1) := by decide +kernel
theorem dX6_failBatch_35 : decode cX6_failBatch 35 = .ok (.iconst 2, 1) := by decide +kernel
theorem dX6_failBatch_36 : decode cX6_failBatch 36 = .ok (.idiv, 1) := by decide +kernel
theorem dX6_failBatch_37 : decode cX6_failBatch 37 = .ok (.invokevirtual 214, 3) := by decide +kernel
theorem dX6_failBatch_40 : decode cX6_failBatch 40 = .ok (.aload_n 0, 1) := by decide +kernel
theorem dX6_failBatch_41 : decode cX6_failBatch 41 = .ok (.getfield 30, 3) := by decide +kernel
theorem dX6_failBatch_44 : decode cX6_failBatch 44 = .ok (.iconst 0, 1) := by decide +kernel
theorem dX6_failBatch_45 : decode cX6_failBatch 45 = .ok (.iload_n 1, 1) := by decide +kernel
theorem dX6_failBatch_46 : decode cX6_failBatch 46 = .ok (.iconst 1, 1) := by decide +kernel
theorem dX6_failBatch_47 : decode cX6_failBatch 47 = .ok (.iadd, 1) := by decide +kernel
theorem dX6_failBatch_48 : decode cX6_failBatch 48 = .ok (.iconst 2, 1) := by decide +kernel
theorem dX6_failBatch_49 : decode cX6_failBatch 49 = .ok (.idiv, 1) := by decide +kernel
theorem dX6_failBatch_50 : decode cX6_failBatch 50 = .ok (.invokevirtual 217, 3) := by decide +kernel
theorem dX6_failBatch_53 : decode cX6_failBatch 53 = .ok (.return_, 1) := by decide +kernel
theorem dX6_takeFromQueue_0 : decode cX6_takeFromQueue 0 = .ok (.aload_n 0, 1) := by decide +kernel
theorem dX6_takeFromQueue_1 : decode cX6_takeFromQueue 1 = .ok (.getfield 26, 3) := by decide +kernel
theorem dX6_takeFromQueue_4 : decode cX6_takeFromQueue 4 = .ok (.iload_n 1, 1) := by decide +kernel
theorem dX6_takeFromQueue_5 : decode cX6_takeFromQueue 5 = .ok (.invokevirtual 220, 3) := by decide +kernel
theorem dX6_takeFromQueue_8 : decode cX6_takeFromQueue 8 = .ok (.istore 4, 2) := by decide +kernel
theorem dX6_takeFromQueue_10 : decode cX6_takeFromQueue 10 = .ok (.aload_n 0, 1) := by decide +kernel
theorem dX6_takeFromQueue_11 : decode cX6_takeFromQueue 11 = .ok (.iload 4, 2) := by decide +kernel
theorem dX6_takeFromQueue_13 : decode cX6_takeFromQueue 13 = .ok (.invokevirtual 69, 3) := by decide +kernel
theorem dX6_takeFromQueue_16 : decode cX6_takeFromQueue 16 = .ok (.ifCond .eq 23, 3) := by decide +kernel
theorem dX6_takeFromQueue_19 : decode cX6_takeFromQueue 19 = .ok (.aload_n 0, 1) := by decide +kernel
theorem dX6_takeFromQueue_20 : decode cX6_takeFromQueue 20 = .ok (.getfield 17, 3) := by decide +kernel
theorem dX6_takeFromQueue_23 : decode cX6_takeFromQueue 23 = .ok (.iload 4, 2) := by decide +kernel
theorem dX6_takeFromQueue_25 : decode cX6_takeFromQueue 25 = .ok (.aaload, 1) := by decide +kernel
theorem dX6_takeFromQueue_26 : decode cX6_takeFromQueue 26 = .ok (.iload_n 2, 1) := by decide +kernel
theorem dX6_takeFromQueue_27 : decode cX6_takeFromQueue 27 = .ok (.iload_n 3, 1) := by decide +kernel
theorem dX6_takeFromQueue_28 : decode cX6_takeFromQueue 28 = .ok (.invokevirtual 135, 3) := by decide +kernel
theorem dX6_takeFromQueue_31 : decode cX6_takeFromQueue 31 = .ok (.aload_n 0, 1) := by decide +kernel
theorem dX6_takeFromQueue_32 : decode cX6_takeFromQueue 32 = .ok (.getfield 26, 3) := by decide +kernel
theorem dX6_takeFromQueue_35 : decode cX6_takeFromQueue 35 = .ok (.iload_n 1, 1) := by decide +kernel
theorem dX6_takeFromQueue_36 : decode cX6_takeFromQueue 36 = .ok (.invokevirtual 208, 3) := by decide +kernel
theorem dX6_takeFromQueue_39 : decode cX6_takeFromQueue 39 = .ok (.return_, 1) := by decide +kernel
theorem dX6_buildBatches_0 : decode cX6_buildBatches 0 = .ok (.iconst 0, 1) := by decide +kernel
theorem dX6_buildBatches_1 : decode cX6_buildBatches 1 = .ok (.istore_n 1, 1) := by decide +kernel
theorem dX6_buildBatches_2 : decode cX6_buildBatches 2 = .ok (.iload_n 1, 1) := by decide +kernel
theorem dX6_buildBatches_3 : decode cX6_buildBatches 3 = .ok (.ldc 223, 2) := by decide +kernel
theorem dX6_buildBatches_5 : decode cX6_buildBatches 5 = .ok (.if_icmp .ge 33, 3) := by decide +kernel
theorem dX6_buildBatches_8 : decode cX6_buildBatches 8 = .ok (.aload_n 0, 1) := by decide +kernel
theorem dX6_buildBatches_9 : decode cX6_buildBatches 9 = .ok (.getfield 36, 3) := by decide +kernel
theorem dX6_buildBatches_12 : decode cX6_buildBatches 12 = .ok (.invokevirtual 224, 3) := by decide +kernel
theorem dX6_buildBatches_15 : decode cX6_buildBatches 15 = .ok (.ifCond .ne 23, 3) := by decide +kernel
theorem dX6_buildBatches_18 : decode cX6_buildBatches 18 = .ok (.aload_n 0, 1) := by decide +kernel
theorem dX6_buildBatches_19 : decode cX6_buildBatches 19 = .ok (.getfield 26, 3) := by decide +kernel
theorem dX6_buildBatches_22 : decode cX6_buildBatches 22 = .ok (.getfield 227, 3) := by decide +kernel
theorem dX6_buildBatches_25 : decode cX6_buildBatches 25 = .ok (.ifCond .le 13, 3) := by decide +kernel
theorem dX6_buildBatches_28 : decode cX6_buildBatches 28 = .ok (.aload_n 0, 1) := by decide +kernel
theorem dX6_buildBatches_29 : decode cX6_buildBatches 29 = .ok (.invokevirtual 230, 3) := by decide +kernel
theorem dX6_buildBatches_32 : decode cX6_buildBatches 32 = .ok (.iinc 1 1, 3) := by decide +kernel
theorem dX6_buildBatches_35 : decode cX6_buildBatches 35 = .ok (.goto (-33), 3) := by decide +kernel
theorem dX6_buildBatches_38 : decode cX6_buildBatches 38 = .ok (.return_, 1) := by decide +kernel
theorem dX6_buildBatch_0 : decode cX6_buildBatch 0 = .ok (.aload_n 0, 1) := by decide +kernel
theorem dX6_buildBatch_1 : decode cX6_buildBatch 1 = .ok (.getfield 30, 3) := by decide +kernel
theorem dX6_buildBatch_4 : decode cX6_buildBatch 4 = .ok (.getfield 227, 3) := by decide +kernel
theorem dX6_buildBatch_7 : decode cX6_buildBatch 7 = .ok (.ifCond .ne 27, 3) := by decide +kernel
theorem dX6_buildBatch_10 : decode cX6_buildBatch 10 = .ok (.aload_n 0, 1) := by decide +kernel
theorem dX6_buildBatch_11 : decode cX6_buildBatch 11 = .ok (.getfield 30, 3) := by decide +kernel
theorem dX6_buildBatch_14 : decode cX6_buildBatch 14 = .ok (.aload_n 0, 1) := by decide +kernel
theorem dX6_buildBatch_15 : decode cX6_buildBatch 15 = .ok (.getfield 40, 3) := by decide +kernel
theorem dX6_buildBatch_18 : decode cX6_buildBatch 18 = .ok (.getfield 233, 3) := by decide +kernel
theorem dX6_buildBatch_21 : decode cX6_buildBatch 21 = .ok (.aload_n 0, 1) := by decide +kernel
theorem dX6_buildBatch_22 : decode cX6_buildBatch 22 = .ok (.getfield 26, 3) := by decide +kernel
theorem dX6_buildBatch_25 : decode cX6_buildBatch 25 = .ok (.getfield 227, 3) := by decide +kernel
theorem dX6_buildBatch_28 : decode cX6_buildBatch 28 = .ok (.invokestatic 236, 3) := by decide +kernel
theorem dX6_buildBatch_31 : decode cX6_buildBatch 31 = .ok (.invokevirtual 138, 3) := by decide +kernel
theorem dX6_buildBatch_34 : decode cX6_buildBatch 34 = .ok (.aload_n 0, 1) := by decide +kernel
theorem dX6_buildBatch_35 : decode cX6_buildBatch 35 = .ok (.aload_n 0, 1) := by decide +kernel
theorem dX6_buildBatch_36 : decode cX6_buildBatch 36 = .ok (.getfield 30, 3) := by decide +kernel
theorem dX6_buildBatch_39 : decode cX6_buildBatch 39 = .ok (.iconst 0, 1) := by decide +kernel
theorem dX6_buildBatch_40 : decode cX6_buildBatch 40 = .ok (.invokevirtual 220, 3) := by decide +kernel
theorem dX6_buildBatch_43 : decode cX6_buildBatch 43 = .ok (.invokevirtual 242, 3) := by decide +kernel
theorem dX6_buildBatch_46 : decode cX6_buildBatch 46 = .ok (.istore_n 1, 1) := by decide +kernel
theorem dX6_buildBatch_47 : decode cX6_buildBatch 47 = .ok (.iload_n 1, 1) := by decide +kernel
theorem dX6_buildBatch_48 : decode cX6_buildBatch 48 = .ok (.ifCond .ne 12, 3) := by decide +kernel
theorem dX6_buildBatch_51 : decode cX6_buildBatch 51 = .ok (.aload_n 0, 1) := by decide +kernel
theorem dX6_buildBatch_52 : decode cX6_buildBatch 52 = .ok (.getfield 30, 3) := by decide +kernel
theorem dX6_buildBatch_55 : decode cX6_buildBatch 55 = .ok (.iconst 0, 1) := by decide +kernel
theorem dX6_buildBatch_56 : decode cX6_buildBatch 56 = .ok (.invokevirtual 208, 3) := by decide +kernel
theorem dX6_buildBatch_59 : decode cX6_buildBatch 59 = .ok (.return_, 1) := by decide +kernel
theorem dX6_buildBatch_60 : decode cX6_buildBatch 60 = .ok (.aload_n 0, 1) := by decide +kernel
theorem dX6_buildBatch_61 : decode cX6_buildBatch 61 = .ok (.getfield 30, 3) := by decide +kernel
theorem dX6_buildBatch_64 : decode cX6_buildBatch 64 = .ok (.iload_n 1, 1) := by decide +kernel
theorem dX6_buildBatch_65 : decode cX6_buildBatch 65 = .ok (.invokevirtual 214, 3) := by decide +kernel
theorem dX6_buildBatch_68 : decode cX6_buildBatch 68 = .ok (.aload_n 0, 1) := by decide +kernel
theorem dX6_buildBatch_69 : decode cX6_buildBatch 69 = .ok (.getfield 36, 3) := by decide +kernel
theorem dX6_buildBatch_72 : decode cX6_buildBatch 72 = .ok (.invokevirtual 245, 3) := by decide +kernel
theorem dX6_buildBatch_75 : decode cX6_buildBatch 75 = .ok (.invokestatic 248, 3) := by decide +kernel
theorem dX6_buildBatch_78 : decode cX6_buildBatch 78 = .ok (.ifCond .eq 14, 3) := by decide +kernel
theorem dX6_buildBatch_81 : decode cX6_buildBatch 81 = .ok (.aload_n 0, 1) := by decide +kernel
theorem dX6_buildBatch_82 : decode cX6_buildBatch 82 = .ok (.getfield 36, 3) := by decide +kernel
theorem dX6_buildBatch_85 : decode cX6_buildBatch 85 = .ok (.iload_n 1, 1) := by decide +kernel
theorem dX6_buildBatch_86 : decode cX6_buildBatch 86 = .ok (.invokevirtual 253, 3) := by decide +kernel
theorem dX6_buildBatch_89 : decode cX6_buildBatch 89 = .ok (.goto 9, 3) := by decide +kernel
theorem dX6_buildBatch_92 : decode cX6_buildBatch 92 = .ok (.aload_n 0, 1) := by decide +kernel
theorem dX6_buildBatch_93 : decode cX6_buildBatch 93 = .ok (.iload_n 1, 1) := by decide +kernel
theorem dX6_buildBatch_94 : decode cX6_buildBatch 94 = .ok (.iconst 2, 1) := by decide +kernel
theorem dX6_buildBatch_95 : decode cX6_buildBatch 95 = .ok (.invokevirtual 192, 3) := by decide +kernel
theorem dX6_buildBatch_98 : decode cX6_buildBatch 98 = .ok (.return_, 1) := by decide +kernel
theorem dX6_mergeFirst_0 : decode cX6_mergeFirst 0 = .ok (.aload_n 0, 1) := by decide +kernel
theorem dX6_mergeFirst_1 : decode cX6_mergeFirst 1 = .ok (.getfield 9, 3) := by decide +kernel
theorem dX6_mergeFirst_4 : decode cX6_mergeFirst 4 = .ok (.aload_n 0, 1) := by decide +kernel
theorem dX6_mergeFirst_5 : decode cX6_mergeFirst 5 = .ok (.getfield 36, 3) := by decide +kernel
theorem dX6_mergeFirst_8 : decode cX6_mergeFirst 8 = .ok (.getfield 202, 3) := by decide +kernel
theorem dX6_mergeFirst_11 : decode cX6_mergeFirst 11 = .ok (.invokestatic 45, 3) := by decide +kernel
theorem dX6_mergeFirst_14 : decode cX6_mergeFirst 14 = .ok (.iconst 0, 1) := by decide +kernel
theorem dX6_mergeFirst_15 : decode cX6_mergeFirst 15 = .ok (.istore_n 2, 1) := by decide +kernel
theorem dX6_mergeFirst_16 : decode cX6_mergeFirst 16 = .ok (.iconst 0, 1) := by decide +kernel
theorem dX6_mergeFirst_17 : decode cX6_mergeFirst 17 = .ok (.istore_n 3, 1) := by decide +kernel
theorem dX6_mergeFirst_18 : decode cX6_mergeFirst 18 = .ok (.iload_n 3, 1) := by decide +kernel
theorem dX6_mergeFirst_19 : decode cX6_mergeFirst 19 = .ok (.iload_n 1, 1) := by decide +kernel
theorem dX6_mergeFirst_20 : decode cX6_mergeFirst 20 = .ok (.if_icmp .ge 75, 3) := by decide +kernel
theorem dX6_mergeFirst_23 : decode cX6_mergeFirst 23 = .ok (.iload_n 2, 1) := by decide +kernel
theorem dX6_mergeFirst_24 : decode cX6_mergeFirst 24 = .ok (.aload_n 0, 1) := by decide +kernel
theorem dX6_mergeFirst_25 : decode cX6_mergeFirst 25 = .ok (.getfield 26, 3) := by decide +kernel
theorem dX6_mergeFirst_28 : decode cX6_mergeFirst 28 = .ok (.getfield 227, 3) := by decide +kernel
theorem dX6_mergeFirst_31 : decode cX6_mergeFirst 31 = .ok (.if_icmp .ge 64, 3) := by decide +kernel
theorem dX6_mergeFirst_34 : decode cX6_mergeFirst 34 = .ok (.aload_n 0, 1) := by decide +kernel
theorem dX6_mergeFirst_35 : decode cX6_mergeFirst 35 = .ok (.getfield 17, 3) := by decide +kernel
theorem dX6_mergeFirst_38 : decode cX6_mergeFirst 38 = .ok (.aload_n 0, 1) := by decide +kernel
theorem dX6_mergeFirst_39 : decode cX6_mergeFirst 39 = .ok (.getfield 26, 3) := by decide +kernel
theorem dX6_mergeFirst_42 : decode cX6_mergeFirst 42 = .ok (.iload_n 2, 1) := by decide +kernel
theorem dX6_mergeFirst_43 : decode cX6_mergeFirst 43 = .ok (.invokevirtual 220, 3) := by decide +kernel
theorem dX6_mergeFirst_46 : decode cX6_mergeFirst 46 = .ok (.aaload, 1) := by decide +kernel
theorem dX6_mergeFirst_47 : decode cX6_mergeFirst 47 = .ok (.astore 4, 2) := by decide +kernel
theorem dX6_mergeFirst_49 : decode cX6_mergeFirst 49 = .ok (.aload 4, 2) := by decide +kernel
theorem dX6_mergeFirst_51 : decode cX6_mergeFirst 51 = .ok (.aload_n 0, 1) := by decide +kernel
theorem dX6_mergeFirst_52 : decode cX6_mergeFirst 52 = .ok (.getfield 36, 3) := by decide +kernel
theorem dX6_mergeFirst_55 : decode cX6_mergeFirst 55 = .ok (.getfield 202, 3) := by decide +kernel
theorem dX6_mergeFirst_58 : decode cX6_mergeFirst 58 = .ok (.invokevirtual 94, 3) := by decide +kernel
theorem dX6_mergeFirst_61 : decode cX6_mergeFirst 61 = .ok (.ifCond .eq 13, 3) := by decide +kernel
theorem dX6_mergeFirst_64 : decode cX6_mergeFirst 64 = .ok (.aload_n 0, 1) := by decide +kernel
theorem dX6_mergeFirst_65 : decode cX6_mergeFirst 65 = .ok (.iload_n 2, 1) := by decide +kernel
theorem dX6_mergeFirst_66 : decode cX6_mergeFirst 66 = .ok (.iconst 3, 1) := by decide +kernel
theorem dX6_mergeFirst_67 : decode cX6_mergeFirst 67 = .ok (.iconst 1, 1) := by decide +kernel
theorem dX6_mergeFirst_68 : decode cX6_mergeFirst 68 = .ok (.invokevirtual 205, 3) := by decide +kernel
theorem dX6_mergeFirst_71 : decode cX6_mergeFirst 71 = .ok (.goto 18, 3) := by decide +kernel
theorem dX6_mergeFirst_74 : decode cX6_mergeFirst 74 = .ok (.aload 4, 2) := by decide +kernel
theorem dX6_mergeFirst_76 : decode cX6_mergeFirst 76 = .ok (.aload_n 0, 1) := by decide +kernel
theorem dX6_mergeFirst_77 : decode cX6_mergeFirst 77 = .ok (.getfield 36, 3) := by decide +kernel
theorem dX6_mergeFirst_80 : decode cX6_mergeFirst 80 = .ok (.getfield 202, 3) := by decide +kernel
theorem dX6_mergeFirst_83 : decode cX6_mergeFirst 83 = .ok (.invokevirtual 256, 3) := by decide +kernel
theorem dX6_mergeFirst_86 : decode cX6_mergeFirst 86 = .ok (.iinc 2 1, 3) := by decide +kernel
theorem dX6_mergeFirst_89 : decode cX6_mergeFirst 89 = .ok (.iinc 3 1, 3) := by decide +kernel
theorem dX6_mergeFirst_92 : decode cX6_mergeFirst 92 = .ok (.goto (-74), 3) := by decide +kernel
theorem dX6_mergeFirst_95 : decode cX6_mergeFirst 95 = .ok (.iload_n 2, 1) := by decide +kernel
theorem dX6_mergeFirst_96 : decode cX6_mergeFirst 96 = .ok (.ireturn, 1) := by decide +kernel
theorem dX7_init_0 : decode cX7_init 0 = .ok (.aload_n 0, 1) := by decide +kernel
theorem dX7_init_1 : decode cX7_init 1 = .ok (.invokespecial 1, 3) := by decide +kernel
theorem dX7_init_4 : decode cX7_init 4 = .ok (.new 7, 3) := by decide +kernel
theorem dX7_init_7 : decode cX7_init 7 = .ok (.dup, 1) := by decide +kernel
theorem dX7_init_8 : decode cX7_init 8 = .ok (.invokespecial 9, 3) := by decide +kernel
theorem dX7_init_11 : decode cX7_init 11 = .ok (.astore 5, 2) := by decide +kernel
theorem dX7_init_13 : decode cX7_init 13 = .ok (.aload 5, 2) := by decide +kernel
theorem dX7_init_15 : decode cX7_init 15 = .ok (.iload_n 1, 1) := by decide +kernel
theorem dX7_init_16 : decode cX7_init 16 = .ok (.iconst 0, 1) := by decide +kernel
theorem dX7_init_17 : decode cX7_init 17 = .ok (.iconst 3, 1) := by decide +kernel
theorem dX7_init_18 : decode cX7_init 18 = .ok (.invokestatic 12, 3) := by decide +kernel
theorem dX7_init_21 : decode cX7_init 21 = .ok (.putfield 16, 3) := by decide +kernel
theorem dX7_init_24 : decode cX7_init 24 = .ok (.aload 5, 2) := by decide +kernel
theorem dX7_init_26 : decode cX7_init 26 = .ok (.iload_n 2, 1) := by decide +kernel
theorem dX7_init_27 : decode cX7_init 27 = .ok (.iconst 1, 1) := by decide +kernel
theorem dX7_init_28 : decode cX7_init 28 = .ok (.bipush 8, 2) := by decide +kernel
theorem dX7_init_30 : decode cX7_init 30 = .ok (.invokestatic 12, 3) := by decide +kernel
theorem dX7_init_33 : decode cX7_init 33 = .ok (.putfield 20, 3) := by decide +kernel
theorem dX7_init_36 : decode cX7_init 36 = .ok (.aload 5, 2) := by decide +kernel
theorem dX7_init_38 : decode cX7_init 38 = .ok (.iload_n 3, 1) := by decide +kernel
theorem dX7_init_39 : decode cX7_init 39 = .ok (.iconst 0, 1) := by decide +kernel
theorem dX7_init_40 : decode cX7_init 40 = .ok (.iconst 2, 1) := by decide +kernel
theorem dX7_init_41 : decode cX7_init 41 = .ok (.invokestatic 12, 3) := by decide +kernel
theorem dX7_init_44 : decode cX7_init 44 = .ok (.putfield 23, 3) := by decide +kernel
theorem dX7_init_47 : decode cX7_init 47 = .ok (.aload 5, 2) := by decide +kernel
theorem dX7_init_49 : decode cX7_init 49 = .ok (.iload 4, 2) := by decide +kernel
theorem dX7_init_51 : decode cX7_init 51 = .ok (.iconst 1, 1) := by decide +kernel
theorem dX7_init_52 : decode cX7_init 52 = .ok (.bipush 9, 2) := by decide +kernel
theorem dX7_init_54 : decode cX7_init 54 = .ok (.invokestatic 12, 3) := by decide +kernel
theorem dX7_init_57 : decode cX7_init 57 = .ok (.putfield 26, 3) := by decide +kernel
theorem dX7_init_60 : decode cX7_init 60 = .ok (.aload_n 0, 1) := by decide +kernel
theorem dX7_init_61 : decode cX7_init 61 = .ok (.new 29, 3) := by decide +kernel
theorem dX7_init_64 : decode cX7_init 64 = .ok (.dup, 1) := by decide +kernel
theorem dX7_init_65 : decode cX7_init 65 = .ok (.aload 5, 2) := by decide +kernel
theorem dX7_init_67 : decode cX7_init 67 = .ok (.invokespecial 31, 3) := by decide +kernel
theorem dX7_init_70 : decode cX7_init 70 = .ok (.putfield 34, 3) := by decide +kernel
theorem dX7_init_73 : decode cX7_init 73 = .ok (.aload_n 0, 1) := by decide +kernel
theorem dX7_init_74 : decode cX7_init 74 = .ok (.new 29, 3) := by decide +kernel
theorem dX7_init_77 : decode cX7_init 77 = .ok (.dup, 1) := by decide +kernel
theorem dX7_init_78 : decode cX7_init 78 = .ok (.aload 5, 2) := by decide +kernel
theorem dX7_init_80 : decode cX7_init 80 = .ok (.invokespecial 31, 3) := by decide +kernel
theorem dX7_init_83 : decode cX7_init 83 = .ok (.putfield 38, 3) := by decide +kernel
theorem dX7_init_86 : decode cX7_init 86 = .ok (.aload_n 0, 1) := by decide +kernel
theorem dX7_init_87 : decode cX7_init 87 = .ok (.bipush 16, 2) := by decide +kernel
theorem dX7_init_89 : decode cX7_init 89 = .ok (.anewarray 41, 3) := by decide +kernel
theorem dX7_init_92 : decode cX7_init 92 = .ok (.putfield 43, 3) := by decide +kernel
theorem dX7_init_95 : decode cX7_init 95 = .ok (.iconst 0, 1) := by decide +kernel
theorem dX7_init_96 : decode cX7_init 96 = .ok (.istore 6, 2) := by decide +kernel
theorem dX7_init_98 : decode cX7_init 98 = .ok (.iload 6, 2) := by decide +kernel
theorem dX7_init_100 : decode cX7_init 100 = .ok (.bipush 16, 2) := by decide +kernel
theorem dX7_init_102 : decode cX7_init 102 = .ok (.if_icmp .ge 23, 3) := by decide +kernel
theorem dX7_init_105 : decode cX7_init 105 = .ok (.aload_n 0, 1) := by decide +kernel
theorem dX7_init_106 : decode cX7_init 106 = .ok (.getfield 43, 3) := by decide +kernel
theorem dX7_init_109 : decode cX7_init 109 = .ok (.iload 6, 2) := by decide +kernel
theorem dX7_init_111 : decode cX7_init 111 = .ok (.new 41, 3) := by decide +kernel
theorem dX7_init_114 : decode cX7_init 114 = .ok (.dup, 1) := by decide +kernel
theorem dX7_init_115 : decode cX7_init 115 = .ok (.invokespecial 47, 3) := by decide +kernel
theorem dX7_init_118 : decode cX7_init 118 = .ok (.aastore, 1) := by decide +kernel
theorem dX7_init_119 : decode cX7_init 119 = .ok (.iinc 6 1, 3) := by decide +kernel
theorem dX7_init_122 : decode cX7_init 122 = .ok (.goto (-24), 3) := by decide +kernel
theorem dX7_init_125 : decode cX7_init 125 = .ok (.aload_n 0, 1) := by decide +kernel
theorem dX7_init_126 : decode cX7_init 126 = .ok (.iconst 0, 1) := by decide +kernel
theorem dX7_init_127 : decode cX7_init 127 = .ok (.putfield 48, 3) := by decide +kernel
theorem dX7_init_130 : decode cX7_init 130 = .ok (.return_, 1) := by decide +kernel
theorem dX7_open_0 : decode cX7_open 0 = .ok (.aload_n 0, 1) := by decide +kernel
theorem dX7_open_1 : decode cX7_open 1 = .ok (.getfield 34, 3) := by decide +kernel
theorem dX7_open_4 : decode cX7_open 4 = .ok (.getfield 51, 3) := by decide +kernel
theorem dX7_open_7 : decode cX7_open 7 = .ok (.bipush 16, 2) := by decide +kernel
theorem dX7_open_9 : decode cX7_open 9 = .ok (.if_icmp .lt 5, 3) := by decide +kernel
theorem dX7_open_12 : decode cX7_open 12 = .ok (.iconst (-1), 1) := by decide +kernel
theorem dX7_open_13 : decode cX7_open 13 = .ok (.ireturn, 1) := by decide +kernel
theorem dX7_open_14 : decode cX7_open 14 = .ok (.aload_n 0, 1) := by decide +kernel
theorem dX7_open_15 : decode cX7_open 15 = .ok (.getfield 34, 3) := by decide +kernel
theorem dX7_open_18 : decode cX7_open 18 = .ok (.aload_n 0, 1) := by decide +kernel
theorem dX7_open_19 : decode cX7_open 19 = .ok (.iconst 0, 1) := by decide +kernel
theorem dX7_open_20 : decode cX7_open 20 = .ok (.iconst 0, 1) := by decide +kernel
theorem dX7_open_21 : decode cX7_open 21 = .ok (.iconst 0, 1) := by decide +kernel
theorem dX7_open_22 : decode cX7_open 22 = .ok (.iconst 0, 1) := by decide +kernel
theorem dX7_open_23 : decode cX7_open 23 = .ok (.invokevirtual 54, 3) := by decide +kernel
theorem dX7_open_26 : decode cX7_open 26 = .ok (.invokevirtual 58, 3) := by decide +kernel
theorem dX7_open_29 : decode cX7_open 29 = .ok (.ireturn, 1) := by decide +kernel
theorem dX7_push_0 : decode cX7_push 0 = .ok (.aload_n 0, 1) := by decide +kernel
theorem dX7_push_1 : decode cX7_push 1 = .ok (.getfield 34, 3) := by decide +kernel
theorem dX7_push_4 : decode cX7_push 4 = .ok (.iload_n 1, 1) := by decide +kernel
theorem dX7_push_5 : decode cX7_push 5 = .ok (.invokevirtual 62, 3) := by decide +kernel
theorem dX7_push_8 : decode cX7_push 8 = .ok (.ifCond .eq 10, 3) := by decide +kernel
theorem dX7_push_11 : decode cX7_push 11 = .ok (.iload_n 2, 1) := by decide +kernel
theorem dX7_push_12 : decode cX7_push 12 = .ok (.invokestatic 66, 3) := by decide +kernel
theorem dX7_push_15 : decode cX7_push 15 = .ok (.ifCond .ne 5, 3) := by decide +kernel
theorem dX7_push_18 : decode cX7_push 18 = .ok (.iconst 0, 1) := by decide +kernel
theorem dX7_push_19 : decode cX7_push 19 = .ok (.ireturn, 1) := by decide +kernel
theorem dX7_push_20 : decode cX7_push 20 = .ok (.aload_n 0, 1) := by decide +kernel
theorem dX7_push_21 : decode cX7_push 21 = .ok (.getfield 34, 3) := by decide +kernel
theorem dX7_push_24 : decode cX7_push 24 = .ok (.aload_n 0, 1) := by decide +kernel
theorem dX7_push_25 : decode cX7_push 25 = .ok (.iconst 1, 1) := by decide +kernel
theorem dX7_push_26 : decode cX7_push 26 = .ok (.iload_n 1, 1) := by decide +kernel
theorem dX7_push_27 : decode cX7_push 27 = .ok (.iload_n 2, 1) := by decide +kernel
theorem dX7_push_28 : decode cX7_push 28 = .ok (.iload_n 3, 1) := by decide +kernel
theorem dX7_push_29 : decode cX7_push 29 = .ok (.invokevirtual 54, 3) := by decide +kernel
theorem dX7_push_32 : decode cX7_push 32 = .ok (.invokevirtual 58, 3) := by decide +kernel
theorem dX7_push_35 : decode cX7_push 35 = .ok (.pop, 1) := by decide +kernel
theorem dX7_push_36 : decode cX7_push 36 = .ok (.iconst 1, 1) := by decide +kernel
theorem dX7_push_37 : decode cX7_push 37 = .ok (.ireturn, 1) := by decide +kernel
theorem dX7_approve_0 : decode cX7_approve 0 = .ok (.aload_n 0, 1) := by decide +kernel
theorem dX7_approve_1 : decode cX7_approve 1 = .ok (.getfield 34, 3) := by decide +kernel
theorem dX7_approve_4 : decode cX7_approve 4 = .ok (.iload_n 1, 1) := by decide +kernel
theorem dX7_approve_5 : decode cX7_approve 5 = .ok (.invokevirtual 62, 3) := by decide +kernel
theorem dX7_approve_8 : decode cX7_approve 8 = .ok (.ifCond .eq 10, 3) := by decide +kernel
theorem dX7_approve_11 : decode cX7_approve 11 = .ok (.iload_n 2, 1) := by decide +kernel
theorem dX7_approve_12 : decode cX7_approve 12 = .ok (.invokestatic 69, 3) := by decide +kernel
theorem dX7_approve_15 : decode cX7_approve 15 = .ok (.ifCond .ne 5, 3) := by decide +kernel
theorem dX7_approve_18 : decode cX7_approve 18 = .ok (.iconst 0, 1) := by decide +kernel
theorem dX7_approve_19 : decode cX7_approve 19 = .ok (.ireturn, 1) := by decide +kernel
theorem dX7_approve_20 : decode cX7_approve 20 = .ok (.aload_n 0, 1) := by decide +kernel
theorem dX7_approve_21 : decode cX7_approve 21 = .ok (.getfield 34, 3) := by decide +kernel
theorem dX7_approve_24 : decode cX7_approve 24 = .ok (.aload_n 0, 1) := by decide +kernel
theorem dX7_approve_25 : decode cX7_approve 25 = .ok (.iconst 2, 1) := by decide +kernel
theorem dX7_approve_26 : decode cX7_approve 26 = .ok (.iload_n 1, 1) := by decide +kernel
theorem dX7_approve_27 : decode cX7_approve 27 = .ok (.iload_n 2, 1) := by decide +kernel
theorem dX7_approve_28 : decode cX7_approve 28 = .ok (.iconst 0, 1) := by decide +kernel
theorem dX7_approve_29 : decode cX7_approve 29 = .ok (.invokevirtual 54, 3) := by decide +kernel
theorem dX7_approve_32 : decode cX7_approve 32 = .ok (.invokevirtual 58, 3) := by decide +kernel
theorem dX7_approve_35 : decode cX7_approve 35 = .ok (.pop, 1) := by decide +kernel
theorem dX7_approve_36 : decode cX7_approve 36 = .ok (.iconst 1, 1) := by decide +kernel
theorem dX7_approve_37 : decode cX7_approve 37 = .ok (.ireturn, 1) := by decide +kernel
theorem dX7_object_0 : decode cX7_object 0 = .ok (.aload_n 0, 1) := by decide +kernel
theorem dX7_object_1 : decode cX7_object 1 = .ok (.getfield 34, 3) := by decide +kernel
theorem dX7_object_4 : decode cX7_object 4 = .ok (.iload_n 1, 1) := by decide +kernel
theorem dX7_object_5 : decode cX7_object 5 = .ok (.invokevirtual 62, 3) := by decide +kernel
theorem dX7_object_8 : decode cX7_object 8 = .ok (.ifCond .eq 10, 3) := by decide +kernel
theorem dX7_object_11 : decode cX7_object 11 = .ok (.iload_n 2, 1) := by decide +kernel
theorem dX7_object_12 : decode cX7_object 12 = .ok (.invokestatic 69, 3) := by decide +kernel
theorem dX7_object_15 : decode cX7_object 15 = .ok (.ifCond .ne 5, 3) := by decide +kernel
theorem dX7_object_18 : decode cX7_object 18 = .ok (.iconst 0, 1) := by decide +kernel
theorem dX7_object_19 : decode cX7_object 19 = .ok (.ireturn, 1) := by decide +kernel
theorem dX7_object_20 : decode cX7_object 20 = .ok (.aload_n 0, 1) := by decide +kernel
theorem dX7_object_21 : decode cX7_object 21 = .ok (.getfield 34, 3) := by decide +kernel
theorem dX7_object_24 : decode cX7_object 24 = .ok (.aload_n 0, 1) := by decide +kernel
theorem dX7_object_25 : decode cX7_object 25 = .ok (.iconst 3, 1) := by decide +kernel
theorem dX7_object_26 : decode cX7_object 26 = .ok (.iload_n 1, 1) := by decide +kernel
theorem dX7_object_27 : decode cX7_object 27 = .ok (.iload_n 2, 1) := by decide +kernel
theorem dX7_object_28 : decode cX7_object 28 = .ok (.iconst 0, 1) := by decide +kernel
theorem dX7_object_29 : decode cX7_object 29 = .ok (.invokevirtual 54, 3) := by decide +kernel
theorem dX7_object_32 : decode cX7_object 32 = .ok (.invokevirtual 58, 3) := by decide +kernel
theorem dX7_object_35 : decode cX7_object 35 = .ok (.pop, 1) := by decide +kernel
theorem dX7_object_36 : decode cX7_object 36 = .ok (.iconst 1, 1) := by decide +kernel
theorem dX7_object_37 : decode cX7_object 37 = .ok (.ireturn, 1) := by decide +kernel
theorem dX7_close_0 : decode cX7_close 0 = .ok (.aload_n 0, 1) := by decide +kernel
theorem dX7_close_1 : decode cX7_close 1 = .ok (.getfield 34, 3) := by decide +kernel
theorem dX7_close_4 : decode cX7_close 4 = .ok (.iload_n 1, 1) := by decide +kernel
theorem dX7_close_5 : decode cX7_close 5 = .ok (.invokevirtual 72, 3) := by decide +kernel
theorem dX7_close_8 : decode cX7_close 8 = .ok (.ifCond .ne 5, 3) := by decide +kernel
theorem dX7_close_11 : decode cX7_close 11 = .ok (.iconst 0, 1) := by decide +kernel
theorem dX7_close_12 : decode cX7_close 12 = .ok (.ireturn, 1) := by decide +kernel
theorem dX7_close_13 : decode cX7_close 13 = .ok (.aload_n 0, 1) := by decide +kernel
theorem dX7_close_14 : decode cX7_close 14 = .ok (.getfield 34, 3) := by decide +kernel
theorem dX7_close_17 : decode cX7_close 17 = .ok (.aload_n 0, 1) := by decide +kernel
theorem dX7_close_18 : decode cX7_close 18 = .ok (.iconst 4, 1) := by decide +kernel
theorem dX7_close_19 : decode cX7_close 19 = .ok (.iload_n 1, 1) := by decide +kernel
theorem dX7_close_20 : decode cX7_close 20 = .ok (.iconst 0, 1) := by decide +kernel
theorem dX7_close_21 : decode cX7_close 21 = .ok (.iconst 0, 1) := by decide +kernel
theorem dX7_close_22 : decode cX7_close 22 = .ok (.invokevirtual 54, 3) := by decide +kernel
theorem dX7_close_25 : decode cX7_close 25 = .ok (.invokevirtual 58, 3) := by decide +kernel
theorem dX7_close_28 : decode cX7_close 28 = .ok (.pop, 1) := by decide +kernel
theorem dX7_close_29 : decode cX7_close 29 = .ok (.iconst 1, 1) := by decide +kernel
theorem dX7_close_30 : decode cX7_close 30 = .ok (.ireturn, 1) := by decide +kernel
theorem dX7_enqueue_0 : decode cX7_enqueue 0 = .ok (.aload_n 0, 1) := by decide +kernel
theorem dX7_enqueue_1 : decode cX7_enqueue 1 = .ok (.getfield 34, 3) := by decide +kernel
theorem dX7_enqueue_4 : decode cX7_enqueue 4 = .ok (.iload_n 1, 1) := by decide +kernel
theorem dX7_enqueue_5 : decode cX7_enqueue 5 = .ok (.invokevirtual 75, 3) := by decide +kernel
theorem dX7_enqueue_8 : decode cX7_enqueue 8 = .ok (.ifCond .ne 5, 3) := by decide +kernel
theorem dX7_enqueue_11 : decode cX7_enqueue 11 = .ok (.iconst 0, 1) := by decide +kernel
theorem dX7_enqueue_12 : decode cX7_enqueue 12 = .ok (.ireturn, 1) := by decide +kernel
theorem dX7_enqueue_13 : decode cX7_enqueue 13 = .ok (.aload_n 0, 1) := by decide +kernel
theorem dX7_enqueue_14 : decode cX7_enqueue 14 = .ok (.getfield 34, 3) := by decide +kernel
theorem dX7_enqueue_17 : decode cX7_enqueue 17 = .ok (.aload_n 0, 1) := by decide +kernel
theorem dX7_enqueue_18 : decode cX7_enqueue 18 = .ok (.iconst 5, 1) := by decide +kernel
theorem dX7_enqueue_19 : decode cX7_enqueue 19 = .ok (.iload_n 1, 1) := by decide +kernel
theorem dX7_enqueue_20 : decode cX7_enqueue 20 = .ok (.iconst 0, 1) := by decide +kernel
theorem dX7_enqueue_21 : decode cX7_enqueue 21 = .ok (.iconst 0, 1) := by decide +kernel
theorem dX7_enqueue_22 : decode cX7_enqueue 22 = .ok (.invokevirtual 54, 3) := by decide +kernel
theorem dX7_enqueue_25 : decode cX7_enqueue 25 = .ok (.invokevirtual 58, 3) := by decide +kernel
theorem dX7_enqueue_28 : decode cX7_enqueue 28 = .ok (.pop, 1) := by decide +kernel
theorem dX7_enqueue_29 : decode cX7_enqueue 29 = .ok (.iconst 1, 1) := by decide +kernel
theorem dX7_enqueue_30 : decode cX7_enqueue 30 = .ok (.ireturn, 1) := by decide +kernel
theorem dX7_rebase_0 : decode cX7_rebase 0 = .ok (.aload_n 0, 1) := by decide +kernel
theorem dX7_rebase_1 : decode cX7_rebase 1 = .ok (.getfield 34, 3) := by decide +kernel
theorem dX7_rebase_4 : decode cX7_rebase 4 = .ok (.iload_n 1, 1) := by decide +kernel
theorem dX7_rebase_5 : decode cX7_rebase 5 = .ok (.invokevirtual 78, 3) := by decide +kernel
theorem dX7_rebase_8 : decode cX7_rebase 8 = .ok (.ifCond .ne 5, 3) := by decide +kernel
theorem dX7_rebase_11 : decode cX7_rebase 11 = .ok (.iconst 0, 1) := by decide +kernel
theorem dX7_rebase_12 : decode cX7_rebase 12 = .ok (.ireturn, 1) := by decide +kernel
theorem dX7_rebase_13 : decode cX7_rebase 13 = .ok (.aload_n 0, 1) := by decide +kernel
theorem dX7_rebase_14 : decode cX7_rebase 14 = .ok (.getfield 34, 3) := by decide +kernel
theorem dX7_rebase_17 : decode cX7_rebase 17 = .ok (.aload_n 0, 1) := by decide +kernel
theorem dX7_rebase_18 : decode cX7_rebase 18 = .ok (.bipush 6, 2) := by decide +kernel
theorem dX7_rebase_20 : decode cX7_rebase 20 = .ok (.iload_n 1, 1) := by decide +kernel
theorem dX7_rebase_21 : decode cX7_rebase 21 = .ok (.iconst 0, 1) := by decide +kernel
theorem dX7_rebase_22 : decode cX7_rebase 22 = .ok (.iconst 0, 1) := by decide +kernel
theorem dX7_rebase_23 : decode cX7_rebase 23 = .ok (.invokevirtual 54, 3) := by decide +kernel
theorem dX7_rebase_26 : decode cX7_rebase 26 = .ok (.invokevirtual 58, 3) := by decide +kernel
theorem dX7_rebase_29 : decode cX7_rebase 29 = .ok (.pop, 1) := by decide +kernel
theorem dX7_rebase_30 : decode cX7_rebase 30 = .ok (.iconst 1, 1) := by decide +kernel
theorem dX7_rebase_31 : decode cX7_rebase 31 = .ok (.ireturn, 1) := by decide +kernel
theorem dX7_claim_0 : decode cX7_claim 0 = .ok (.aload_n 0, 1) := by decide +kernel
theorem dX7_claim_1 : decode cX7_claim 1 = .ok (.getfield 34, 3) := by decide +kernel
theorem dX7_claim_4 : decode cX7_claim 4 = .ok (.iload_n 1, 1) := by decide +kernel
theorem dX7_claim_5 : decode cX7_claim 5 = .ok (.invokevirtual 81, 3) := by decide +kernel
theorem dX7_claim_8 : decode cX7_claim 8 = .ok (.iconst (-1), 1) := by decide +kernel
theorem dX7_claim_9 : decode cX7_claim 9 = .ok (.if_icmp .ne 5, 3) := by decide +kernel
theorem dX7_claim_12 : decode cX7_claim 12 = .ok (.iconst (-1), 1) := by decide +kernel
theorem dX7_claim_13 : decode cX7_claim 13 = .ok (.ireturn, 1) := by decide +kernel
theorem dX7_claim_14 : decode cX7_claim 14 = .ok (.aload_n 0, 1) := by decide +kernel
theorem dX7_claim_15 : decode cX7_claim 15 = .ok (.getfield 34, 3) := by decide +kernel
theorem dX7_claim_18 : decode cX7_claim 18 = .ok (.aload_n 0, 1) := by decide +kernel
theorem dX7_claim_19 : decode cX7_claim 19 = .ok (.bipush 7, 2) := by decide +kernel
theorem dX7_claim_21 : decode cX7_claim 21 = .ok (.iload_n 1, 1) := by decide +kernel
theorem dX7_claim_22 : decode cX7_claim 22 = .ok (.iconst 0, 1) := by decide +kernel
theorem dX7_claim_23 : decode cX7_claim 23 = .ok (.iconst 0, 1) := by decide +kernel
theorem dX7_claim_24 : decode cX7_claim 24 = .ok (.invokevirtual 54, 3) := by decide +kernel
theorem dX7_claim_27 : decode cX7_claim 27 = .ok (.invokevirtual 58, 3) := by decide +kernel
theorem dX7_claim_30 : decode cX7_claim 30 = .ok (.ireturn, 1) := by decide +kernel
theorem dX7_report_0 : decode cX7_report 0 = .ok (.aload_n 0, 1) := by decide +kernel
theorem dX7_report_1 : decode cX7_report 1 = .ok (.getfield 34, 3) := by decide +kernel
theorem dX7_report_4 : decode cX7_report 4 = .ok (.getfield 85, 3) := by decide +kernel
theorem dX7_report_7 : decode cX7_report 7 = .ok (.iload_n 1, 1) := by decide +kernel
theorem dX7_report_8 : decode cX7_report 8 = .ok (.invokevirtual 89, 3) := by decide +kernel
theorem dX7_report_11 : decode cX7_report 11 = .ok (.iconst (-1), 1) := by decide +kernel
theorem dX7_report_12 : decode cX7_report 12 = .ok (.if_icmp .ne 5, 3) := by decide +kernel
theorem dX7_report_15 : decode cX7_report 15 = .ok (.iconst 0, 1) := by decide +kernel
theorem dX7_report_16 : decode cX7_report 16 = .ok (.ireturn, 1) := by decide +kernel
theorem dX7_report_17 : decode cX7_report 17 = .ok (.aload_n 0, 1) := by decide +kernel
theorem dX7_report_18 : decode cX7_report 18 = .ok (.getfield 34, 3) := by decide +kernel
theorem dX7_report_21 : decode cX7_report 21 = .ok (.aload_n 0, 1) := by decide +kernel
theorem dX7_report_22 : decode cX7_report 22 = .ok (.bipush 8, 2) := by decide +kernel
theorem dX7_report_24 : decode cX7_report 24 = .ok (.iload_n 1, 1) := by decide +kernel
theorem dX7_report_25 : decode cX7_report 25 = .ok (.iload_n 2, 1) := by decide +kernel
theorem dX7_report_26 : decode cX7_report 26 = .ok (.ifCond .eq 7, 3) := by decide +kernel
theorem dX7_report_29 : decode cX7_report 29 = .ok (.iconst 2, 1) := by decide +kernel
theorem dX7_report_30 : decode cX7_report 30 = .ok (.goto 4, 3) := by decide +kernel
theorem dX7_report_33 : decode cX7_report 33 = .ok (.iconst 3, 1) := by decide +kernel
theorem dX7_report_34 : decode cX7_report 34 = .ok (.iconst 0, 1) := by decide +kernel
theorem dX7_report_35 : decode cX7_report 35 = .ok (.invokevirtual 54, 3) := by decide +kernel
theorem dX7_report_38 : decode cX7_report 38 = .ok (.invokevirtual 58, 3) := by decide +kernel
theorem dX7_report_41 : decode cX7_report 41 = .ok (.pop, 1) := by decide +kernel
theorem dX7_report_42 : decode cX7_report 42 = .ok (.iconst 1, 1) := by decide +kernel
theorem dX7_report_43 : decode cX7_report 43 = .ok (.ireturn, 1) := by decide +kernel
theorem dX7_tick_0 : decode cX7_tick 0 = .ok (.iload_n 1, 1) := by decide +kernel
theorem dX7_tick_1 : decode cX7_tick 1 = .ok (.iconst 1, 1) := by decide +kernel
theorem dX7_tick_2 : decode cX7_tick 2 = .ok (.if_icmp .lt 9, 3) := by decide +kernel
theorem dX7_tick_5 : decode cX7_tick 5 = .ok (.iload_n 1, 1) := by decide +kernel
theorem dX7_tick_6 : decode cX7_tick 6 = .ok (.bipush 20, 2) := by decide +kernel
theorem dX7_tick_8 : decode cX7_tick 8 = .ok (.if_icmp .le 5, 3) := by decide +kernel
theorem dX7_tick_11 : decode cX7_tick 11 = .ok (.iconst (-1), 1) := by decide +kernel
theorem dX7_tick_12 : decode cX7_tick 12 = .ok (.ireturn, 1) := by decide +kernel
theorem dX7_tick_13 : decode cX7_tick 13 = .ok (.aload_n 0, 1) := by decide +kernel
theorem dX7_tick_14 : decode cX7_tick 14 = .ok (.getfield 34, 3) := by decide +kernel
theorem dX7_tick_17 : decode cX7_tick 17 = .ok (.aload_n 0, 1) := by decide +kernel
theorem dX7_tick_18 : decode cX7_tick 18 = .ok (.bipush 9, 2) := by decide +kernel
theorem dX7_tick_20 : decode cX7_tick 20 = .ok (.iload_n 1, 1) := by decide +kernel
theorem dX7_tick_21 : decode cX7_tick 21 = .ok (.iconst 0, 1) := by decide +kernel
theorem dX7_tick_22 : decode cX7_tick 22 = .ok (.iconst 0, 1) := by decide +kernel
theorem dX7_tick_23 : decode cX7_tick 23 = .ok (.invokevirtual 54, 3) := by decide +kernel
theorem dX7_tick_26 : decode cX7_tick 26 = .ok (.invokevirtual 58, 3) := by decide +kernel
theorem dX7_tick_29 : decode cX7_tick 29 = .ok (.ireturn, 1) := by decide +kernel
theorem dX7_flush_0 : decode cX7_flush 0 = .ok (.aload_n 0, 1) := by decide +kernel
theorem dX7_flush_1 : decode cX7_flush 1 = .ok (.getfield 48, 3) := by decide +kernel
theorem dX7_flush_4 : decode cX7_flush 4 = .ok (.istore_n 1, 1) := by decide +kernel
theorem dX7_flush_5 : decode cX7_flush 5 = .ok (.aload_n 0, 1) := by decide +kernel
theorem dX7_flush_6 : decode cX7_flush 6 = .ok (.invokevirtual 94, 3) := by decide +kernel
theorem dX7_flush_9 : decode cX7_flush 9 = .ok (.iload_n 1, 1) := by decide +kernel
theorem dX7_flush_10 : decode cX7_flush 10 = .ok (.ireturn, 1) := by decide +kernel
theorem dX7_crash_0 : decode cX7_crash 0 = .ok (.iload_n 1, 1) := by decide +kernel
theorem dX7_crash_1 : decode cX7_crash 1 = .ok (.iconst 0, 1) := by decide +kernel
theorem dX7_crash_2 : decode cX7_crash 2 = .ok (.aload_n 0, 1) := by decide +kernel
theorem dX7_crash_3 : decode cX7_crash 3 = .ok (.getfield 48, 3) := by decide +kernel
theorem dX7_crash_6 : decode cX7_crash 6 = .ok (.invokestatic 12, 3) := by decide +kernel
theorem dX7_crash_9 : decode cX7_crash 9 = .ok (.istore_n 2, 1) := by decide +kernel
theorem dX7_crash_10 : decode cX7_crash 10 = .ok (.aload_n 0, 1) := by decide +kernel
theorem dX7_crash_11 : decode cX7_crash 11 = .ok (.getfield 48, 3) := by decide +kernel
theorem dX7_crash_14 : decode cX7_crash 14 = .ok (.iload_n 2, 1) := by decide +kernel
theorem dX7_crash_15 : decode cX7_crash 15 = .ok (.isub, 1) := by decide +kernel
theorem dX7_crash_16 : decode cX7_crash 16 = .ok (.istore_n 3, 1) := by decide +kernel
theorem dX7_crash_17 : decode cX7_crash 17 = .ok (.aload_n 0, 1) := by decide +kernel
theorem dX7_crash_18 : decode cX7_crash 18 = .ok (.getfield 34, 3) := by decide +kernel
theorem dX7_crash_21 : decode cX7_crash 21 = .ok (.aload_n 0, 1) := by decide +kernel
theorem dX7_crash_22 : decode cX7_crash 22 = .ok (.getfield 38, 3) := by decide +kernel
theorem dX7_crash_25 : decode cX7_crash 25 = .ok (.invokevirtual 97, 3) := by decide +kernel
theorem dX7_crash_28 : decode cX7_crash 28 = .ok (.iconst 0, 1) := by decide +kernel
theorem dX7_crash_29 : decode cX7_crash 29 = .ok (.istore 4, 2) := by decide +kernel
theorem dX7_crash_31 : decode cX7_crash 31 = .ok (.iload 4, 2) := by decide +kernel
theorem dX7_crash_33 : decode cX7_crash 33 = .ok (.iload_n 2, 1) := by decide +kernel
theorem dX7_crash_34 : decode cX7_crash 34 = .ok (.if_icmp .ge 24, 3) := by decide +kernel
theorem dX7_crash_37 : decode cX7_crash 37 = .ok (.aload_n 0, 1) := by decide +kernel
theorem dX7_crash_38 : decode cX7_crash 38 = .ok (.getfield 34, 3) := by decide +kernel
theorem dX7_crash_41 : decode cX7_crash 41 = .ok (.aload_n 0, 1) := by decide +kernel
theorem dX7_crash_42 : decode cX7_crash 42 = .ok (.getfield 43, 3) := by decide +kernel
theorem dX7_crash_45 : decode cX7_crash 45 = .ok (.iload 4, 2) := by decide +kernel
theorem dX7_crash_47 : decode cX7_crash 47 = .ok (.aaload, 1) := by decide +kernel
theorem dX7_crash_48 : decode cX7_crash 48 = .ok (.invokevirtual 58, 3) := by decide +kernel
theorem dX7_crash_51 : decode cX7_crash 51 = .ok (.pop, 1) := by decide +kernel
theorem dX7_crash_52 : decode cX7_crash 52 = .ok (.iinc 4 1, 3) := by decide +kernel
theorem dX7_crash_55 : decode cX7_crash 55 = .ok (.goto (-24), 3) := by decide +kernel
theorem dX7_crash_58 : decode cX7_crash 58 = .ok (.aload_n 0, 1) := by decide +kernel
theorem dX7_crash_59 : decode cX7_crash 59 = .ok (.getfield 34, 3) := by decide +kernel
theorem dX7_crash_62 : decode cX7_crash 62 = .ok (.invokevirtual 101, 3) := by decide +kernel
theorem dX7_crash_65 : decode cX7_crash 65 = .ok (.aload_n 0, 1) := by decide +kernel
theorem dX7_crash_66 : decode cX7_crash 66 = .ok (.invokevirtual 94, 3) := by decide +kernel
theorem dX7_crash_69 : decode cX7_crash 69 = .ok (.iload_n 3, 1) := by decide +kernel
theorem dX7_crash_70 : decode cX7_crash 70 = .ok (.ireturn, 1) := by decide +kernel
theorem dX7_state_0 : decode cX7_state 0 = .ok (.aload_n 0, 1) := by decide +kernel
theorem dX7_state_1 : decode cX7_state 1 = .ok (.getfield 34, 3) := by decide +kernel
theorem dX7_state_4 : decode cX7_state 4 = .ok (.iload_n 1, 1) := by decide +kernel
theorem dX7_state_5 : decode cX7_state 5 = .ok (.invokevirtual 104, 3) := by decide +kernel
theorem dX7_state_8 : decode cX7_state 8 = .ok (.ifCond .eq 18, 3) := by decide +kernel
theorem dX7_state_11 : decode cX7_state 11 = .ok (.aload_n 0, 1) := by decide +kernel
theorem dX7_state_12 : decode cX7_state 12 = .ok (.getfield 34, 3) := by decide +kernel
theorem dX7_state_15 : decode cX7_state 15 = .ok (.getfield 107, 3) := by decide +kernel
theorem dX7_state_18 : decode cX7_state 18 = .ok (.iload_n 1, 1) := by decide +kernel
theorem dX7_state_19 : decode cX7_state 19 = .ok (.aaload, 1) := by decide +kernel
theorem dX7_state_20 : decode cX7_state 20 = .ok (.getfield 111, 3) := by decide +kernel
theorem dX7_state_23 : decode cX7_state 23 = .ok (.goto 4, 3) := by decide +kernel
theorem dX7_state_26 : decode cX7_state 26 = .ok (.iconst (-1), 1) := by decide +kernel
theorem dX7_state_27 : decode cX7_state 27 = .ok (.ireturn, 1) := by decide +kernel
theorem dX7_cause_0 : decode cX7_cause 0 = .ok (.aload_n 0, 1) := by decide +kernel
theorem dX7_cause_1 : decode cX7_cause 1 = .ok (.getfield 34, 3) := by decide +kernel
theorem dX7_cause_4 : decode cX7_cause 4 = .ok (.iload_n 1, 1) := by decide +kernel
theorem dX7_cause_5 : decode cX7_cause 5 = .ok (.invokevirtual 104, 3) := by decide +kernel
theorem dX7_cause_8 : decode cX7_cause 8 = .ok (.ifCond .eq 18, 3) := by decide +kernel
theorem dX7_cause_11 : decode cX7_cause 11 = .ok (.aload_n 0, 1) := by decide +kernel
theorem dX7_cause_12 : decode cX7_cause 12 = .ok (.getfield 34, 3) := by decide +kernel
theorem dX7_cause_15 : decode cX7_cause 15 = .ok (.getfield 107, 3) := by decide +kernel
theorem dX7_cause_18 : decode cX7_cause 18 = .ok (.iload_n 1, 1) := by decide +kernel
theorem dX7_cause_19 : decode cX7_cause 19 = .ok (.aaload, 1) := by decide +kernel
theorem dX7_cause_20 : decode cX7_cause 20 = .ok (.getfield 116, 3) := by decide +kernel
theorem dX7_cause_23 : decode cX7_cause 23 = .ok (.goto 4, 3) := by decide +kernel
theorem dX7_cause_26 : decode cX7_cause 26 = .ok (.iconst (-1), 1) := by decide +kernel
theorem dX7_cause_27 : decode cX7_cause 27 = .ok (.ireturn, 1) := by decide +kernel
theorem dX7_standing_0 : decode cX7_standing 0 = .ok (.aload_n 0, 1) := by decide +kernel
theorem dX7_standing_1 : decode cX7_standing 1 = .ok (.getfield 34, 3) := by decide +kernel
theorem dX7_standing_4 : decode cX7_standing 4 = .ok (.iload_n 1, 1) := by decide +kernel
theorem dX7_standing_5 : decode cX7_standing 5 = .ok (.invokevirtual 104, 3) := by decide +kernel
theorem dX7_standing_8 : decode cX7_standing 8 = .ok (.ifCond .ne 5, 3) := by decide +kernel
theorem dX7_standing_11 : decode cX7_standing 11 = .ok (.iconst (-1), 1) := by decide +kernel
theorem dX7_standing_12 : decode cX7_standing 12 = .ok (.ireturn, 1) := by decide +kernel
theorem dX7_standing_13 : decode cX7_standing 13 = .ok (.aload_n 0, 1) := by decide +kernel
theorem dX7_standing_14 : decode cX7_standing 14 = .ok (.getfield 34, 3) := by decide +kernel
theorem dX7_standing_17 : decode cX7_standing 17 = .ok (.getfield 107, 3) := by decide +kernel
theorem dX7_standing_20 : decode cX7_standing 20 = .ok (.iload_n 1, 1) := by decide +kernel
theorem dX7_standing_21 : decode cX7_standing 21 = .ok (.aaload, 1) := by decide +kernel
theorem dX7_standing_22 : decode cX7_standing 22 = .ok (.invokevirtual 119, 3) := by decide +kernel
theorem dX7_standing_25 : decode cX7_standing 25 = .ok (.bipush 10, 2) := by decide +kernel
theorem dX7_standing_27 : decode cX7_standing 27 = .ok (.aload_n 0, 1) := by decide +kernel
theorem dX7_standing_28 : decode cX7_standing 28 = .ok (.getfield 34, 3) := by decide +kernel
theorem dX7_standing_31 : decode cX7_standing 31 = .ok (.getfield 107, 3) := by decide +kernel
theorem dX7_standing_34 : decode cX7_standing 34 = .ok (.iload_n 1, 1) := by decide +kernel
theorem dX7_standing_35 : decode cX7_standing 35 = .ok (.aaload, 1) := by decide +kernel
theorem dX7_standing_36 : decode cX7_standing 36 = .ok (.invokevirtual 123, 3) := by decide +kernel
theorem dX7_standing_39 : decode cX7_standing 39 = .ok (.imul, 1) := by decide +kernel
theorem dX7_standing_40 : decode cX7_standing 40 = .ok (.iadd, 1) := by decide +kernel
theorem dX7_standing_41 : decode cX7_standing 41 = .ok (.ireturn, 1) := by decide +kernel
theorem dX7_file_0 : decode cX7_file 0 = .ok (.iload_n 2, 1) := by decide +kernel
theorem dX7_file_1 : decode cX7_file 1 = .ok (.invokestatic 66, 3) := by decide +kernel
theorem dX7_file_4 : decode cX7_file 4 = .ok (.ifCond .ne 5, 3) := by decide +kernel
theorem dX7_file_7 : decode cX7_file 7 = .ok (.iconst 0, 1) := by decide +kernel
theorem dX7_file_8 : decode cX7_file 8 = .ok (.ireturn, 1) := by decide +kernel
theorem dX7_file_9 : decode cX7_file 9 = .ok (.iload_n 1, 1) := by decide +kernel
theorem dX7_file_10 : decode cX7_file 10 = .ok (.iconst (-1), 1) := by decide +kernel
theorem dX7_file_11 : decode cX7_file 11 = .ok (.if_icmp .ne 13, 3) := by decide +kernel
theorem dX7_file_14 : decode cX7_file 14 = .ok (.aload_n 0, 1) := by decide +kernel
theorem dX7_file_15 : decode cX7_file 15 = .ok (.getfield 34, 3) := by decide +kernel
theorem dX7_file_18 : decode cX7_file 18 = .ok (.getfield 126, 3) := by decide +kernel
theorem dX7_file_21 : decode cX7_file 21 = .ok (.iload_n 2, 1) := by decide +kernel
theorem dX7_file_22 : decode cX7_file 22 = .ok (.iaload, 1) := by decide +kernel
theorem dX7_file_23 : decode cX7_file 23 = .ok (.ireturn, 1) := by decide +kernel
theorem dX7_file_24 : decode cX7_file 24 = .ok (.iload_n 1, 1) := by decide +kernel
theorem dX7_file_25 : decode cX7_file 25 = .ok (.bipush (-2), 2) := by decide +kernel
theorem dX7_file_27 : decode cX7_file 27 = .ok (.if_icmp .ne 33, 3) := by decide +kernel
theorem dX7_file_30 : decode cX7_file 30 = .ok (.aload_n 0, 1) := by decide +kernel
theorem dX7_file_31 : decode cX7_file 31 = .ok (.getfield 34, 3) := by decide +kernel
theorem dX7_file_34 : decode cX7_file 34 = .ok (.getfield 85, 3) := by decide +kernel
theorem dX7_file_37 : decode cX7_file 37 = .ok (.invokevirtual 130, 3) := by decide +kernel
theorem dX7_file_40 : decode cX7_file 40 = .ok (.ifCond .eq 18, 3) := by decide +kernel
theorem dX7_file_43 : decode cX7_file 43 = .ok (.aload_n 0, 1) := by decide +kernel
theorem dX7_file_44 : decode cX7_file 44 = .ok (.getfield 34, 3) := by decide +kernel
theorem dX7_file_47 : decode cX7_file 47 = .ok (.getfield 85, 3) := by decide +kernel
theorem dX7_file_50 : decode cX7_file 50 = .ok (.getfield 134, 3) := by decide +kernel
theorem dX7_file_53 : decode cX7_file 53 = .ok (.iload_n 2, 1) := by decide +kernel
theorem dX7_file_54 : decode cX7_file 54 = .ok (.iaload, 1) := by decide +kernel
theorem dX7_file_55 : decode cX7_file 55 = .ok (.goto 4, 3) := by decide +kernel
theorem dX7_file_58 : decode cX7_file 58 = .ok (.iconst 0, 1) := by decide +kernel
theorem dX7_file_59 : decode cX7_file 59 = .ok (.ireturn, 1) := by decide +kernel
theorem dX7_file_60 : decode cX7_file 60 = .ok (.aload_n 0, 1) := by decide +kernel
theorem dX7_file_61 : decode cX7_file 61 = .ok (.getfield 34, 3) := by decide +kernel
theorem dX7_file_64 : decode cX7_file 64 = .ok (.iload_n 1, 1) := by decide +kernel
theorem dX7_file_65 : decode cX7_file 65 = .ok (.invokevirtual 104, 3) := by decide +kernel
theorem dX7_file_68 : decode cX7_file 68 = .ok (.ifCond .eq 20, 3) := by decide +kernel
theorem dX7_file_71 : decode cX7_file 71 = .ok (.aload_n 0, 1) := by decide +kernel
theorem dX7_file_72 : decode cX7_file 72 = .ok (.getfield 34, 3) := by decide +kernel
theorem dX7_file_75 : decode cX7_file 75 = .ok (.getfield 107, 3) := by decide +kernel
theorem dX7_file_78 : decode cX7_file 78 = .ok (.iload_n 1, 1) := by decide +kernel
theorem dX7_file_79 : decode cX7_file 79 = .ok (.aaload, 1) := by decide +kernel
theorem dX7_file_80 : decode cX7_file 80 = .ok (.getfield 137, 3) := by decide +kernel
theorem dX7_file_83 : decode cX7_file 83 = .ok (.iload_n 2, 1) := by decide +kernel
theorem dX7_file_84 : decode cX7_file 84 = .ok (.iaload, 1) := by decide +kernel
theorem dX7_file_85 : decode cX7_file 85 = .ok (.goto 4, 3) := by decide +kernel
theorem dX7_file_88 : decode cX7_file 88 = .ok (.iconst 0, 1) := by decide +kernel
theorem dX7_file_89 : decode cX7_file 89 = .ok (.ireturn, 1) := by decide +kernel
theorem dX7_queueAt_0 : decode cX7_queueAt 0 = .ok (.aload_n 0, 1) := by decide +kernel
theorem dX7_queueAt_1 : decode cX7_queueAt 1 = .ok (.getfield 34, 3) := by decide +kernel
theorem dX7_queueAt_4 : decode cX7_queueAt 4 = .ok (.getfield 140, 3) := by decide +kernel
theorem dX7_queueAt_7 : decode cX7_queueAt 7 = .ok (.iload_n 1, 1) := by decide +kernel
theorem dX7_queueAt_8 : decode cX7_queueAt 8 = .ok (.invokevirtual 144, 3) := by decide +kernel
theorem dX7_queueAt_11 : decode cX7_queueAt 11 = .ok (.ireturn, 1) := by decide +kernel
theorem dX7_batch_0 : decode cX7_batch 0 = .ok (.aload_n 0, 1) := by decide +kernel
theorem dX7_batch_1 : decode cX7_batch 1 = .ok (.getfield 34, 3) := by decide +kernel
theorem dX7_batch_4 : decode cX7_batch 4 = .ok (.getfield 85, 3) := by decide +kernel
theorem dX7_batch_7 : decode cX7_batch 7 = .ok (.getfield 149, 3) := by decide +kernel
theorem dX7_batch_10 : decode cX7_batch 10 = .ok (.ireturn, 1) := by decide +kernel
theorem dX7_job_0 : decode cX7_job 0 = .ok (.iload_n 1, 1) := by decide +kernel
theorem dX7_job_1 : decode cX7_job 1 = .ok (.ifCond .lt 23, 3) := by decide +kernel
theorem dX7_job_4 : decode cX7_job 4 = .ok (.iload_n 1, 1) := by decide +kernel
theorem dX7_job_5 : decode cX7_job 5 = .ok (.iconst 4, 1) := by decide +kernel
theorem dX7_job_6 : decode cX7_job 6 = .ok (.if_icmp .ge 18, 3) := by decide +kernel
theorem dX7_job_9 : decode cX7_job 9 = .ok (.aload_n 0, 1) := by decide +kernel
theorem dX7_job_10 : decode cX7_job 10 = .ok (.getfield 34, 3) := by decide +kernel
theorem dX7_job_13 : decode cX7_job 13 = .ok (.getfield 85, 3) := by decide +kernel
theorem dX7_job_16 : decode cX7_job 16 = .ok (.getfield 152, 3) := by decide +kernel
theorem dX7_job_19 : decode cX7_job 19 = .ok (.iload_n 1, 1) := by decide +kernel
theorem dX7_job_20 : decode cX7_job 20 = .ok (.iaload, 1) := by decide +kernel
theorem dX7_job_21 : decode cX7_job 21 = .ok (.goto 4, 3) := by decide +kernel
theorem dX7_job_24 : decode cX7_job 24 = .ok (.iconst 0, 1) := by decide +kernel
theorem dX7_job_25 : decode cX7_job 25 = .ok (.ireturn, 1) := by decide +kernel
theorem dX7_version_0 : decode cX7_version 0 = .ok (.aload_n 0, 1) := by decide +kernel
theorem dX7_version_1 : decode cX7_version 1 = .ok (.getfield 34, 3) := by decide +kernel
theorem dX7_version_4 : decode cX7_version 4 = .ok (.getfield 155, 3) := by decide +kernel
theorem dX7_version_7 : decode cX7_version 7 = .ok (.ireturn, 1) := by decide +kernel
theorem dX7_logged_0 : decode cX7_logged 0 = .ok (.aload_n 0, 1) := by decide +kernel
theorem dX7_logged_1 : decode cX7_logged 1 = .ok (.getfield 48, 3) := by decide +kernel
theorem dX7_logged_4 : decode cX7_logged 4 = .ok (.bipush 16, 2) := by decide +kernel
theorem dX7_logged_6 : decode cX7_logged 6 = .ok (.if_icmp .lt 7, 3) := by decide +kernel
theorem dX7_logged_9 : decode cX7_logged 9 = .ok (.aload_n 0, 1) := by decide +kernel
theorem dX7_logged_10 : decode cX7_logged 10 = .ok (.invokevirtual 94, 3) := by decide +kernel
theorem dX7_logged_13 : decode cX7_logged 13 = .ok (.aload_n 0, 1) := by decide +kernel
theorem dX7_logged_14 : decode cX7_logged 14 = .ok (.getfield 43, 3) := by decide +kernel
theorem dX7_logged_17 : decode cX7_logged 17 = .ok (.aload_n 0, 1) := by decide +kernel
theorem dX7_logged_18 : decode cX7_logged 18 = .ok (.getfield 48, 3) := by decide +kernel
theorem dX7_logged_21 : decode cX7_logged 21 = .ok (.aaload, 1) := by decide +kernel
theorem dX7_logged_22 : decode cX7_logged 22 = .ok (.astore 5, 2) := by decide +kernel
theorem dX7_logged_24 : decode cX7_logged 24 = .ok (.aload_n 0, 1) := by decide +kernel
theorem dX7_logged_25 : decode cX7_logged 25 = .ok (.dup, 1) := by decide +kernel
theorem dX7_logged_26 : decode cX7_logged 26 = .ok (.getfield 48, 3) := by decide +kernel
theorem dX7_logged_29 : decode cX7_logged 29 = .ok (.iconst 1, 1) := by decide +kernel
theorem dX7_logged_30 : decode cX7_logged 30 = .ok (.iadd, 1) := by decide +kernel
theorem dX7_logged_31 : decode cX7_logged 31 = .ok (.putfield 48, 3) := by decide +kernel
theorem dX7_logged_34 : decode cX7_logged 34 = .ok (.aload 5, 2) := by decide +kernel
theorem dX7_logged_36 : decode cX7_logged 36 = .ok (.iload_n 1, 1) := by decide +kernel
theorem dX7_logged_37 : decode cX7_logged 37 = .ok (.putfield 158, 3) := by decide +kernel
theorem dX7_logged_40 : decode cX7_logged 40 = .ok (.aload 5, 2) := by decide +kernel
theorem dX7_logged_42 : decode cX7_logged 42 = .ok (.iload_n 2, 1) := by decide +kernel
theorem dX7_logged_43 : decode cX7_logged 43 = .ok (.putfield 161, 3) := by decide +kernel
theorem dX7_logged_46 : decode cX7_logged 46 = .ok (.aload 5, 2) := by decide +kernel
theorem dX7_logged_48 : decode cX7_logged 48 = .ok (.iload_n 3, 1) := by decide +kernel
theorem dX7_logged_49 : decode cX7_logged 49 = .ok (.putfield 164, 3) := by decide +kernel
theorem dX7_logged_52 : decode cX7_logged 52 = .ok (.aload 5, 2) := by decide +kernel
theorem dX7_logged_54 : decode cX7_logged 54 = .ok (.iload 4, 2) := by decide +kernel
theorem dX7_logged_56 : decode cX7_logged 56 = .ok (.putfield 167, 3) := by decide +kernel
theorem dX7_logged_59 : decode cX7_logged 59 = .ok (.aload 5, 2) := by decide +kernel
theorem dX7_logged_61 : decode cX7_logged 61 = .ok (.areturn, 1) := by decide +kernel
theorem dX7_keepLiveState_0 : decode cX7_keepLiveState 0 = .ok (.aload_n 0, 1) := by decide +kernel
theorem dX7_keepLiveState_1 : decode cX7_keepLiveState 1 = .ok (.getfield 38, 3) := by decide +kernel
theorem dX7_keepLiveState_4 : decode cX7_keepLiveState 4 = .ok (.aload_n 0, 1) := by decide +kernel
theorem dX7_keepLiveState_5 : decode cX7_keepLiveState 5 = .ok (.getfield 34, 3) := by decide +kernel
theorem dX7_keepLiveState_8 : decode cX7_keepLiveState 8 = .ok (.invokevirtual 97, 3) := by decide +kernel
theorem dX7_keepLiveState_11 : decode cX7_keepLiveState 11 = .ok (.aload_n 0, 1) := by decide +kernel
theorem dX7_keepLiveState_12 : decode cX7_keepLiveState 12 = .ok (.iconst 0, 1) := by decide +kernel
theorem dX7_keepLiveState_13 : decode cX7_keepLiveState 13 = .ok (.putfield 48, 3) := by decide +kernel
theorem dX7_keepLiveState_16 : decode cX7_keepLiveState 16 = .ok (.return_, 1) := by decide +kernel
theorem dX7_clamped_0 : decode cX7_clamped 0 = .ok (.iload_n 1, 1) := by decide +kernel
theorem dX7_clamped_1 : decode cX7_clamped 1 = .ok (.iload_n 2, 1) := by decide +kernel
theorem dX7_clamped_2 : decode cX7_clamped 2 = .ok (.iload_n 0, 1) := by decide +kernel
theorem dX7_clamped_3 : decode cX7_clamped 3 = .ok (.invokestatic 170, 3) := by decide +kernel
theorem dX7_clamped_6 : decode cX7_clamped 6 = .ok (.invokestatic 176, 3) := by decide +kernel
theorem dX7_clamped_9 : decode cX7_clamped 9 = .ok (.ireturn, 1) := by decide +kernel
theorem dX7_isPath_0 : decode cX7_isPath 0 = .ok (.iload_n 0, 1) := by decide +kernel
theorem dX7_isPath_1 : decode cX7_isPath 1 = .ok (.ifCond .lt 13, 3) := by decide +kernel
theorem dX7_isPath_4 : decode cX7_isPath 4 = .ok (.iload_n 0, 1) := by decide +kernel
theorem dX7_isPath_5 : decode cX7_isPath 5 = .ok (.bipush 6, 2) := by decide +kernel
theorem dX7_isPath_7 : decode cX7_isPath 7 = .ok (.if_icmp .ge 7, 3) := by decide +kernel
theorem dX7_isPath_10 : decode cX7_isPath 10 = .ok (.iconst 1, 1) := by decide +kernel
theorem dX7_isPath_11 : decode cX7_isPath 11 = .ok (.goto 4, 3) := by decide +kernel
theorem dX7_isPath_14 : decode cX7_isPath 14 = .ok (.iconst 0, 1) := by decide +kernel
theorem dX7_isPath_15 : decode cX7_isPath 15 = .ok (.ireturn, 1) := by decide +kernel
theorem dX7_isReviewer_0 : decode cX7_isReviewer 0 = .ok (.iload_n 0, 1) := by decide +kernel
theorem dX7_isReviewer_1 : decode cX7_isReviewer 1 = .ok (.ifCond .lt 13, 3) := by decide +kernel
theorem dX7_isReviewer_4 : decode cX7_isReviewer 4 = .ok (.iload_n 0, 1) := by decide +kernel
theorem dX7_isReviewer_5 : decode cX7_isReviewer 5 = .ok (.bipush 8, 2) := by decide +kernel
theorem dX7_isReviewer_7 : decode cX7_isReviewer 7 = .ok (.if_icmp .ge 7, 3) := by decide +kernel
theorem dX7_isReviewer_10 : decode cX7_isReviewer 10 = .ok (.iconst 1, 1) := by decide +kernel
theorem dX7_isReviewer_11 : decode cX7_isReviewer 11 = .ok (.goto 4, 3) := by decide +kernel
theorem dX7_isReviewer_14 : decode cX7_isReviewer 14 = .ok (.iconst 0, 1) := by decide +kernel
theorem dX7_isReviewer_15 : decode cX7_isReviewer 15 = .ok (.ireturn, 1) := by decide +kernel
theorem dX7_isWorker_0 : decode cX7_isWorker 0 = .ok (.iload_n 0, 1) := by decide +kernel
theorem dX7_isWorker_1 : decode cX7_isWorker 1 = .ok (.ifCond .lt 12, 3) := by decide +kernel
theorem dX7_isWorker_4 : decode cX7_isWorker 4 = .ok (.iload_n 0, 1) := by decide +kernel
theorem dX7_isWorker_5 : decode cX7_isWorker 5 = .ok (.iconst 4, 1) := by decide +kernel
theorem dX7_isWorker_6 : decode cX7_isWorker 6 = .ok (.if_icmp .ge 7, 3) := by decide +kernel
theorem dX7_isWorker_9 : decode cX7_isWorker 9 = .ok (.iconst 1, 1) := by decide +kernel
theorem dX7_isWorker_10 : decode cX7_isWorker 10 = .ok (.goto 4, 3) := by decide +kernel
theorem dX7_isWorker_13 : decode cX7_isWorker 13 = .ok (.iconst 0, 1) := by decide +kernel
theorem dX7_isWorker_14 : decode cX7_isWorker 14 = .ok (.ireturn, 1) := by decide +kernel
theorem dX7_copyNumbers_0 : decode cX7_copyNumbers 0 = .ok (.aload_n 0, 1) := by decide +kernel
theorem dX7_copyNumbers_1 : decode cX7_copyNumbers 1 = .ok (.iconst 0, 1) := by decide +kernel
theorem dX7_copyNumbers_2 : decode cX7_copyNumbers 2 = .ok (.aload_n 1, 1) := by decide +kernel
theorem dX7_copyNumbers_3 : decode cX7_copyNumbers 3 = .ok (.iconst 0, 1) := by decide +kernel
theorem dX7_copyNumbers_4 : decode cX7_copyNumbers 4 = .ok (.aload_n 0, 1) := by decide +kernel
theorem dX7_copyNumbers_5 : decode cX7_copyNumbers 5 = .ok (.arraylength, 1) := by decide +kernel
theorem dX7_copyNumbers_6 : decode cX7_copyNumbers 6 = .ok (.aload_n 1, 1) := by decide +kernel
theorem dX7_copyNumbers_7 : decode cX7_copyNumbers 7 = .ok (.arraylength, 1) := by decide +kernel
theorem dX7_copyNumbers_8 : decode cX7_copyNumbers 8 = .ok (.invokestatic 170, 3) := by decide +kernel
theorem dX7_copyNumbers_11 : decode cX7_copyNumbers 11 = .ok (.invokestatic 179, 3) := by decide +kernel
theorem dX7_copyNumbers_14 : decode cX7_copyNumbers 14 = .ok (.return_, 1) := by decide +kernel
theorem dX8_init_0 : decode cX8_init 0 = .ok (.aload_n 0, 1) := by decide +kernel
theorem dX8_init_1 : decode cX8_init 1 = .ok (.invokespecial 1, 3) := by decide +kernel
theorem dX8_init_4 : decode cX8_init 4 = .ok (.aload_n 0, 1) := by decide +kernel
theorem dX8_init_5 : decode cX8_init 5 = .ok (.sipush 512, 3) := by decide +kernel
theorem dX8_init_8 : decode cX8_init 8 = .ok (.newarray .int, 2) := by decide +kernel
theorem dX8_init_10 : decode cX8_init 10 = .ok (.putfield 7, 3) := by decide +kernel
theorem dX8_init_13 : decode cX8_init 13 = .ok (.aload_n 0, 1) := by decide +kernel
theorem dX8_init_14 : decode cX8_init 14 = .ok (.sipush 512, 3) := by decide +kernel
theorem dX8_init_17 : decode cX8_init 17 = .ok (.newarray .int, 2) := by decide +kernel
theorem dX8_init_19 : decode cX8_init 19 = .ok (.putfield 13, 3) := by decide +kernel
theorem dX8_init_22 : decode cX8_init 22 = .ok (.aload_n 0, 1) := by decide +kernel
theorem dX8_init_23 : decode cX8_init 23 = .ok (.sipush 512, 3) := by decide +kernel
theorem dX8_init_26 : decode cX8_init 26 = .ok (.newarray .int, 2) := by decide +kernel
theorem dX8_init_28 : decode cX8_init 28 = .ok (.putfield 16, 3) := by decide +kernel
theorem dX8_init_31 : decode cX8_init 31 = .ok (.aload_n 0, 1) := by decide +kernel
theorem dX8_init_32 : decode cX8_init 32 = .ok (.sipush 512, 3) := by decide +kernel
theorem dX8_init_35 : decode cX8_init 35 = .ok (.newarray .int, 2) := by decide +kernel
theorem dX8_init_37 : decode cX8_init 37 = .ok (.putfield 19, 3) := by decide +kernel
theorem dX8_init_40 : decode cX8_init 40 = .ok (.aload_n 0, 1) := by decide +kernel
theorem dX8_init_41 : decode cX8_init 41 = .ok (.bipush 6, 2) := by decide +kernel
theorem dX8_init_43 : decode cX8_init 43 = .ok (.newarray .int, 2) := by decide +kernel
theorem dX8_init_45 : decode cX8_init 45 = .ok (.putfield 22, 3) := by decide +kernel
theorem dX8_init_48 : decode cX8_init 48 = .ok (.aload_n 0, 1) := by decide +kernel
theorem dX8_init_49 : decode cX8_init 49 = .ok (.bipush 96, 2) := by decide +kernel
theorem dX8_init_51 : decode cX8_init 51 = .ok (.newarray .int, 2) := by decide +kernel
theorem dX8_init_53 : decode cX8_init 53 = .ok (.putfield 25, 3) := by decide +kernel
theorem dX8_init_56 : decode cX8_init 56 = .ok (.aload_n 0, 1) := by decide +kernel
theorem dX8_init_57 : decode cX8_init 57 = .ok (.bipush 96, 2) := by decide +kernel
theorem dX8_init_59 : decode cX8_init 59 = .ok (.newarray .int, 2) := by decide +kernel
theorem dX8_init_61 : decode cX8_init 61 = .ok (.putfield 28, 3) := by decide +kernel
theorem dX8_init_64 : decode cX8_init 64 = .ok (.aload_n 0, 1) := by decide +kernel
theorem dX8_init_65 : decode cX8_init 65 = .ok (.bipush 16, 2) := by decide +kernel
theorem dX8_init_67 : decode cX8_init 67 = .ok (.newarray .int, 2) := by decide +kernel
theorem dX8_init_69 : decode cX8_init 69 = .ok (.putfield 31, 3) := by decide +kernel
theorem dX8_init_72 : decode cX8_init 72 = .ok (.aload_n 0, 1) := by decide +kernel
theorem dX8_init_73 : decode cX8_init 73 = .ok (.bipush 16, 2) := by decide +kernel
theorem dX8_init_75 : decode cX8_init 75 = .ok (.newarray .int, 2) := by decide +kernel
theorem dX8_init_77 : decode cX8_init 77 = .ok (.putfield 34, 3) := by decide +kernel
theorem dX8_init_80 : decode cX8_init 80 = .ok (.aload_n 0, 1) := by decide +kernel
theorem dX8_init_81 : decode cX8_init 81 = .ok (.sipush 128, 3) := by decide +kernel
theorem dX8_init_84 : decode cX8_init 84 = .ok (.newarray .int, 2) := by decide +kernel
theorem dX8_init_86 : decode cX8_init 86 = .ok (.putfield 37, 3) := by decide +kernel
theorem dX8_init_89 : decode cX8_init 89 = .ok (.aload_n 0, 1) := by decide +kernel
theorem dX8_init_90 : decode cX8_init 90 = .ok (.bipush 16, 2) := by decide +kernel
theorem dX8_init_92 : decode cX8_init 92 = .ok (.newarray .int, 2) := by decide +kernel
theorem dX8_init_94 : decode cX8_init 94 = .ok (.putfield 40, 3) := by decide +kernel
theorem dX8_init_97 : decode cX8_init 97 = .ok (.aload_n 0, 1) := by decide +kernel
theorem dX8_init_98 : decode cX8_init 98 = .ok (.bipush 9, 2) := by decide +kernel
theorem dX8_init_100 : decode cX8_init 100 = .ok (.newarray .int, 2) := by decide +kernel
theorem dX8_init_102 : decode cX8_init 102 = .ok (.putfield 43, 3) := by decide +kernel
theorem dX8_init_105 : decode cX8_init 105 = .ok (.aload_n 0, 1) := by decide +kernel
theorem dX8_init_106 : decode cX8_init 106 = .ok (.iconst 4, 1) := by decide +kernel
theorem dX8_init_107 : decode cX8_init 107 = .ok (.newarray .int, 2) := by decide +kernel
theorem dX8_init_109 : decode cX8_init 109 = .ok (.putfield 46, 3) := by decide +kernel
theorem dX8_init_112 : decode cX8_init 112 = .ok (.aload_n 0, 1) := by decide +kernel
theorem dX8_init_113 : decode cX8_init 113 = .ok (.iconst 4, 1) := by decide +kernel
theorem dX8_init_114 : decode cX8_init 114 = .ok (.newarray .int, 2) := by decide +kernel
theorem dX8_init_116 : decode cX8_init 116 = .ok (.putfield 49, 3) := by decide +kernel
theorem dX8_init_119 : decode cX8_init 119 = .ok (.aload_n 0, 1) := by decide +kernel
theorem dX8_init_120 : decode cX8_init 120 = .ok (.iconst 4, 1) := by decide +kernel
theorem dX8_init_121 : decode cX8_init 121 = .ok (.newarray .int, 2) := by decide +kernel
theorem dX8_init_123 : decode cX8_init 123 = .ok (.putfield 52, 3) := by decide +kernel
theorem dX8_init_126 : decode cX8_init 126 = .ok (.aload_n 0, 1) := by decide +kernel
theorem dX8_init_127 : decode cX8_init 127 = .ok (.iconst 4, 1) := by decide +kernel
theorem dX8_init_128 : decode cX8_init 128 = .ok (.newarray .int, 2) := by decide +kernel
theorem dX8_init_130 : decode cX8_init 130 = .ok (.putfield 55, 3) := by decide +kernel
theorem dX8_init_133 : decode cX8_init 133 = .ok (.aload_n 0, 1) := by decide +kernel
theorem dX8_init_134 : decode cX8_init 134 = .ok (.bipush 6, 2) := by decide +kernel
theorem dX8_init_136 : decode cX8_init 136 = .ok (.newarray .int, 2) := by decide +kernel
theorem dX8_init_138 : decode cX8_init 138 = .ok (.putfield 58, 3) := by decide +kernel
theorem dX8_init_141 : decode cX8_init 141 = .ok (.aload_n 0, 1) := by decide +kernel
theorem dX8_init_142 : decode cX8_init 142 = .ok (.bipush 16, 2) := by decide +kernel
theorem dX8_init_144 : decode cX8_init 144 = .ok (.newarray .boolean, 2) := by decide +kernel
theorem dX8_init_146 : decode cX8_init 146 = .ok (.putfield 61, 3) := by decide +kernel
theorem dX8_init_149 : decode cX8_init 149 = .ok (.aload_n 0, 1) := by decide +kernel
theorem dX8_init_150 : decode cX8_init 150 = .ok (.iload_n 1, 1) := by decide +kernel
theorem dX8_init_151 : decode cX8_init 151 = .ok (.iconst 0, 1) := by decide +kernel
theorem dX8_init_152 : decode cX8_init 152 = .ok (.iconst 3, 1) := by decide +kernel
theorem dX8_init_153 : decode cX8_init 153 = .ok (.invokestatic 65, 3) := by decide +kernel
theorem dX8_init_156 : decode cX8_init 156 = .ok (.putfield 69, 3) := by decide +kernel
theorem dX8_init_159 : decode cX8_init 159 = .ok (.aload_n 0, 1) := by decide +kernel
theorem dX8_init_160 : decode cX8_init 160 = .ok (.iload_n 2, 1) := by decide +kernel
theorem dX8_init_161 : decode cX8_init 161 = .ok (.iconst 1, 1) := by decide +kernel
theorem dX8_init_162 : decode cX8_init 162 = .ok (.bipush 8, 2) := by decide +kernel
theorem dX8_init_164 : decode cX8_init 164 = .ok (.invokestatic 65, 3) := by decide +kernel
theorem dX8_init_167 : decode cX8_init 167 = .ok (.putfield 73, 3) := by decide +kernel
theorem dX8_init_170 : decode cX8_init 170 = .ok (.aload_n 0, 1) := by decide +kernel
theorem dX8_init_171 : decode cX8_init 171 = .ok (.iload_n 3, 1) := by decide +kernel
theorem dX8_init_172 : decode cX8_init 172 = .ok (.iconst 0, 1) := by decide +kernel
theorem dX8_init_173 : decode cX8_init 173 = .ok (.iconst 2, 1) := by decide +kernel
theorem dX8_init_174 : decode cX8_init 174 = .ok (.invokestatic 65, 3) := by decide +kernel
theorem dX8_init_177 : decode cX8_init 177 = .ok (.putfield 76, 3) := by decide +kernel
theorem dX8_init_180 : decode cX8_init 180 = .ok (.aload_n 0, 1) := by decide +kernel
theorem dX8_init_181 : decode cX8_init 181 = .ok (.iload 4, 2) := by decide +kernel
theorem dX8_init_183 : decode cX8_init 183 = .ok (.iconst 1, 1) := by decide +kernel
theorem dX8_init_184 : decode cX8_init 184 = .ok (.bipush 9, 2) := by decide +kernel
theorem dX8_init_186 : decode cX8_init 186 = .ok (.invokestatic 65, 3) := by decide +kernel
theorem dX8_init_189 : decode cX8_init 189 = .ok (.putfield 79, 3) := by decide +kernel
theorem dX8_init_192 : decode cX8_init 192 = .ok (.aload_n 0, 1) := by decide +kernel
theorem dX8_init_193 : decode cX8_init 193 = .ok (.invokevirtual 82, 3) := by decide +kernel
theorem dX8_init_196 : decode cX8_init 196 = .ok (.return_, 1) := by decide +kernel
theorem dX8_within_0 : decode cX8_within 0 = .ok (.iload_n 0, 1) := by decide +kernel
theorem dX8_within_1 : decode cX8_within 1 = .ok (.iload_n 1, 1) := by decide +kernel
theorem dX8_within_2 : decode cX8_within 2 = .ok (.if_icmp .ge 7, 3) := by decide +kernel
theorem dX8_within_5 : decode cX8_within 5 = .ok (.iload_n 1, 1) := by decide +kernel
theorem dX8_within_6 : decode cX8_within 6 = .ok (.goto 13, 3) := by decide +kernel
theorem dX8_within_9 : decode cX8_within 9 = .ok (.iload_n 0, 1) := by decide +kernel
theorem dX8_within_10 : decode cX8_within 10 = .ok (.iload_n 2, 1) := by decide +kernel
theorem dX8_within_11 : decode cX8_within 11 = .ok (.if_icmp .le 7, 3) := by decide +kernel
theorem dX8_within_14 : decode cX8_within 14 = .ok (.iload_n 2, 1) := by decide +kernel
theorem dX8_within_15 : decode cX8_within 15 = .ok (.goto 4, 3) := by decide +kernel
theorem dX8_within_18 : decode cX8_within 18 = .ok (.iload_n 0, 1) := by decide +kernel
theorem dX8_within_19 : decode cX8_within 19 = .ok (.ireturn, 1) := by decide +kernel
theorem dX8_begin_0 : decode cX8_begin 0 = .ok (.iconst 0, 1) := by decide +kernel
theorem dX8_begin_1 : decode cX8_begin 1 = .ok (.istore_n 1, 1) := by decide +kernel
theorem dX8_begin_2 : decode cX8_begin 2 = .ok (.iload_n 1, 1) := by decide +kernel
theorem dX8_begin_3 : decode cX8_begin 3 = .ok (.bipush 6, 2) := by decide +kernel
theorem dX8_begin_5 : decode cX8_begin 5 = .ok (.if_icmp .ge 25, 3) := by decide +kernel
theorem dX8_begin_8 : decode cX8_begin 8 = .ok (.aload_n 0, 1) := by decide +kernel
theorem dX8_begin_9 : decode cX8_begin 9 = .ok (.getfield 22, 3) := by decide +kernel
theorem dX8_begin_12 : decode cX8_begin 12 = .ok (.iload_n 1, 1) := by decide +kernel
theorem dX8_begin_13 : decode cX8_begin 13 = .ok (.iload_n 1, 1) := by decide +kernel
theorem dX8_begin_14 : decode cX8_begin 14 = .ok (.ifCond .ne 8, 3) := by decide +kernel
theorem dX8_begin_17 : decode cX8_begin 17 = .ok (.bipush 17, 2) := by decide +kernel
theorem dX8_begin_19 : decode cX8_begin 19 = .ok (.goto 4, 3) := by decide +kernel
theorem dX8_begin_22 : decode cX8_begin 22 = .ok (.iconst 0, 1) := by decide +kernel
theorem dX8_begin_23 : decode cX8_begin 23 = .ok (.iastore, 1) := by decide +kernel
theorem dX8_begin_24 : decode cX8_begin 24 = .ok (.iinc 1 1, 3) := by decide +kernel
theorem dX8_begin_27 : decode cX8_begin 27 = .ok (.goto (-25), 3) := by decide +kernel
theorem dX8_begin_30 : decode cX8_begin 30 = .ok (.aload_n 0, 1) := by decide +kernel
theorem dX8_begin_31 : decode cX8_begin 31 = .ok (.iconst 0, 1) := by decide +kernel
theorem dX8_begin_32 : decode cX8_begin 32 = .ok (.putfield 85, 3) := by decide +kernel
theorem dX8_begin_35 : decode cX8_begin 35 = .ok (.aload_n 0, 1) := by decide +kernel
theorem dX8_begin_36 : decode cX8_begin 36 = .ok (.iconst 0, 1) := by decide +kernel
theorem dX8_begin_37 : decode cX8_begin 37 = .ok (.putfield 88, 3) := by decide +kernel
theorem dX8_begin_40 : decode cX8_begin 40 = .ok (.aload_n 0, 1) := by decide +kernel
theorem dX8_begin_41 : decode cX8_begin 41 = .ok (.iconst 0, 1) := by decide +kernel
theorem dX8_begin_42 : decode cX8_begin 42 = .ok (.putfield 91, 3) := by decide +kernel
theorem dX8_begin_45 : decode cX8_begin 45 = .ok (.aload_n 0, 1) := by decide +kernel
theorem dX8_begin_46 : decode cX8_begin 46 = .ok (.iconst 0, 1) := by decide +kernel
theorem dX8_begin_47 : decode cX8_begin 47 = .ok (.putfield 94, 3) := by decide +kernel
theorem dX8_begin_50 : decode cX8_begin 50 = .ok (.aload_n 0, 1) := by decide +kernel
theorem dX8_begin_51 : decode cX8_begin 51 = .ok (.iconst 0, 1) := by decide +kernel
theorem dX8_begin_52 : decode cX8_begin 52 = .ok (.putfield 97, 3) := by decide +kernel
theorem dX8_begin_55 : decode cX8_begin 55 = .ok (.aload_n 0, 1) := by decide +kernel
theorem dX8_begin_56 : decode cX8_begin 56 = .ok (.iconst 0, 1) := by decide +kernel
theorem dX8_begin_57 : decode cX8_begin 57 = .ok (.putfield 100, 3) := by decide +kernel
theorem dX8_begin_60 : decode cX8_begin 60 = .ok (.iconst 0, 1) := by decide +kernel
theorem dX8_begin_61 : decode cX8_begin 61 = .ok (.istore_n 1, 1) := by decide +kernel
theorem dX8_begin_62 : decode cX8_begin 62 = .ok (.iload_n 1, 1) := by decide +kernel
theorem dX8_begin_63 : decode cX8_begin 63 = .ok (.iconst 4, 1) := by decide +kernel
theorem dX8_begin_64 : decode cX8_begin 64 = .ok (.if_icmp .ge 16, 3) := by decide +kernel
theorem dX8_begin_67 : decode cX8_begin 67 = .ok (.aload_n 0, 1) := by decide +kernel
theorem dX8_begin_68 : decode cX8_begin 68 = .ok (.getfield 52, 3) := by decide +kernel
theorem dX8_begin_71 : decode cX8_begin 71 = .ok (.iload_n 1, 1) := by decide +kernel
theorem dX8_begin_72 : decode cX8_begin 72 = .ok (.iconst (-1), 1) := by decide +kernel
theorem dX8_begin_73 : decode cX8_begin 73 = .ok (.iastore, 1) := by decide +kernel
theorem dX8_begin_74 : decode cX8_begin 74 = .ok (.iinc 1 1, 3) := by decide +kernel
theorem dX8_begin_77 : decode cX8_begin 77 = .ok (.goto (-15), 3) := by decide +kernel
theorem dX8_begin_80 : decode cX8_begin 80 = .ok (.return_, 1) := by decide +kernel
theorem dX8_conflicts_0 : decode cX8_conflicts 0 = .ok (.iconst 0, 1) := by decide +kernel
theorem dX8_conflicts_1 : decode cX8_conflicts 1 = .ok (.istore_n 2, 1) := by decide +kernel
theorem dX8_conflicts_2 : decode cX8_conflicts 2 = .ok (.iload_n 2, 1) := by decide +kernel
theorem dX8_conflicts_3 : decode cX8_conflicts 3 = .ok (.bipush 6, 2) := by decide +kernel
theorem dX8_conflicts_5 : decode cX8_conflicts 5 = .ok (.if_icmp .ge 63, 3) := by decide +kernel
theorem dX8_conflicts_8 : decode cX8_conflicts 8 = .ok (.aload_n 0, 1) := by decide +kernel
theorem dX8_conflicts_9 : decode cX8_conflicts 9 = .ok (.getfield 25, 3) := by decide +kernel
theorem dX8_conflicts_12 : decode cX8_conflicts 12 = .ok (.bipush 6, 2) := by decide +kernel
theorem dX8_conflicts_14 : decode cX8_conflicts 14 = .ok (.iload_n 1, 1) := by decide +kernel
theorem dX8_conflicts_15 : decode cX8_conflicts 15 = .ok (.imul, 1) := by decide +kernel
theorem dX8_conflicts_16 : decode cX8_conflicts 16 = .ok (.iload_n 2, 1) := by decide +kernel
theorem dX8_conflicts_17 : decode cX8_conflicts 17 = .ok (.iadd, 1) := by decide +kernel
theorem dX8_conflicts_18 : decode cX8_conflicts 18 = .ok (.iaload, 1) := by decide +kernel
theorem dX8_conflicts_19 : decode cX8_conflicts 19 = .ok (.istore_n 3, 1) := by decide +kernel
theorem dX8_conflicts_20 : decode cX8_conflicts 20 = .ok (.aload_n 0, 1) := by decide +kernel
theorem dX8_conflicts_21 : decode cX8_conflicts 21 = .ok (.getfield 28, 3) := by decide +kernel
theorem dX8_conflicts_24 : decode cX8_conflicts 24 = .ok (.bipush 6, 2) := by decide +kernel
theorem dX8_conflicts_26 : decode cX8_conflicts 26 = .ok (.iload_n 1, 1) := by decide +kernel
theorem dX8_conflicts_27 : decode cX8_conflicts 27 = .ok (.imul, 1) := by decide +kernel
theorem dX8_conflicts_28 : decode cX8_conflicts 28 = .ok (.iload_n 2, 1) := by decide +kernel
theorem dX8_conflicts_29 : decode cX8_conflicts 29 = .ok (.iadd, 1) := by decide +kernel
theorem dX8_conflicts_30 : decode cX8_conflicts 30 = .ok (.iaload, 1) := by decide +kernel
theorem dX8_conflicts_31 : decode cX8_conflicts 31 = .ok (.istore 4, 2) := by decide +kernel
theorem dX8_conflicts_33 : decode cX8_conflicts 33 = .ok (.iload_n 3, 1) := by decide +kernel
theorem dX8_conflicts_34 : decode cX8_conflicts 34 = .ok (.iload 4, 2) := by decide +kernel
theorem dX8_conflicts_36 : decode cX8_conflicts 36 = .ok (.if_icmp .eq 26, 3) := by decide +kernel
theorem dX8_conflicts_39 : decode cX8_conflicts 39 = .ok (.aload_n 0, 1) := by decide +kernel
theorem dX8_conflicts_40 : decode cX8_conflicts 40 = .ok (.getfield 58, 3) := by decide +kernel
theorem dX8_conflicts_43 : decode cX8_conflicts 43 = .ok (.iload_n 2, 1) := by decide +kernel
theorem dX8_conflicts_44 : decode cX8_conflicts 44 = .ok (.iaload, 1) := by decide +kernel
theorem dX8_conflicts_45 : decode cX8_conflicts 45 = .ok (.iload_n 3, 1) := by decide +kernel
theorem dX8_conflicts_46 : decode cX8_conflicts 46 = .ok (.if_icmp .eq 16, 3) := by decide +kernel
theorem dX8_conflicts_49 : decode cX8_conflicts 49 = .ok (.aload_n 0, 1) := by decide +kernel
theorem dX8_conflicts_50 : decode cX8_conflicts 50 = .ok (.getfield 58, 3) := by decide +kernel
theorem dX8_conflicts_53 : decode cX8_conflicts 53 = .ok (.iload_n 2, 1) := by decide +kernel
theorem dX8_conflicts_54 : decode cX8_conflicts 54 = .ok (.iaload, 1) := by decide +kernel
theorem dX8_conflicts_55 : decode cX8_conflicts 55 = .ok (.iload 4, 2) := by decide +kernel
theorem dX8_conflicts_57 : decode cX8_conflicts 57 = .ok (.if_icmp .eq 5, 3) := by decide +kernel
theorem dX8_conflicts_60 : decode cX8_conflicts 60 = .ok (.iconst 1, 1) := by decide +kernel
theorem dX8_conflicts_61 : decode cX8_conflicts 61 = .ok (.ireturn, 1) := by decide +kernel
theorem dX8_conflicts_62 : decode cX8_conflicts 62 = .ok (.iinc 2 1, 3) := by decide +kernel
theorem dX8_conflicts_65 : decode cX8_conflicts 65 = .ok (.goto (-63), 3) := by decide +kernel
theorem dX8_conflicts_68 : decode cX8_conflicts 68 = .ok (.iconst 0, 1) := by decide +kernel
theorem dX8_conflicts_69 : decode cX8_conflicts 69 = .ok (.istore_n 2, 1) := by decide +kernel
theorem dX8_conflicts_70 : decode cX8_conflicts 70 = .ok (.iload_n 2, 1) := by decide +kernel
theorem dX8_conflicts_71 : decode cX8_conflicts 71 = .ok (.bipush 6, 2) := by decide +kernel
theorem dX8_conflicts_73 : decode cX8_conflicts 73 = .ok (.if_icmp .ge 60, 3) := by decide +kernel
theorem dX8_conflicts_76 : decode cX8_conflicts 76 = .ok (.aload_n 0, 1) := by decide +kernel
theorem dX8_conflicts_77 : decode cX8_conflicts 77 = .ok (.getfield 58, 3) := by decide +kernel
theorem dX8_conflicts_80 : decode cX8_conflicts 80 = .ok (.iload_n 2, 1) := by decide +kernel
theorem dX8_conflicts_81 : decode cX8_conflicts 81 = .ok (.aload_n 0, 1) := by decide +kernel
theorem dX8_conflicts_82 : decode cX8_conflicts 82 = .ok (.getfield 28, 3) := by decide +kernel
theorem dX8_conflicts_85 : decode cX8_conflicts 85 = .ok (.bipush 6, 2) := by decide +kernel
theorem dX8_conflicts_87 : decode cX8_conflicts 87 = .ok (.iload_n 1, 1) := by decide +kernel
theorem dX8_conflicts_88 : decode cX8_conflicts 88 = .ok (.imul, 1) := by decide +kernel
theorem dX8_conflicts_89 : decode cX8_conflicts 89 = .ok (.iload_n 2, 1) := by decide +kernel
theorem dX8_conflicts_90 : decode cX8_conflicts 90 = .ok (.iadd, 1) := by decide +kernel
theorem dX8_conflicts_91 : decode cX8_conflicts 91 = .ok (.iaload, 1) := by decide +kernel
theorem dX8_conflicts_92 : decode cX8_conflicts 92 = .ok (.aload_n 0, 1) := by decide +kernel
theorem dX8_conflicts_93 : decode cX8_conflicts 93 = .ok (.getfield 25, 3) := by decide +kernel
theorem dX8_conflicts_96 : decode cX8_conflicts 96 = .ok (.bipush 6, 2) := by decide +kernel
theorem dX8_conflicts_98 : decode cX8_conflicts 98 = .ok (.iload_n 1, 1) := by decide +kernel
theorem dX8_conflicts_99 : decode cX8_conflicts 99 = .ok (.imul, 1) := by decide +kernel
theorem dX8_conflicts_100 : decode cX8_conflicts 100 = .ok (.iload_n 2, 1) := by decide +kernel
theorem dX8_conflicts_101 : decode cX8_conflicts 101 = .ok (.iadd, 1) := by decide +kernel
theorem dX8_conflicts_102 : decode cX8_conflicts 102 = .ok (.iaload, 1) := by decide +kernel
theorem dX8_conflicts_103 : decode cX8_conflicts 103 = .ok (.if_icmp .eq 17, 3) := by decide +kernel
theorem dX8_conflicts_106 : decode cX8_conflicts 106 = .ok (.aload_n 0, 1) := by decide +kernel
theorem dX8_conflicts_107 : decode cX8_conflicts 107 = .ok (.getfield 28, 3) := by decide +kernel
theorem dX8_conflicts_110 : decode cX8_conflicts 110 = .ok (.bipush 6, 2) := by decide +kernel
theorem dX8_conflicts_112 : decode cX8_conflicts 112 = .ok (.iload_n 1, 1) := by decide +kernel
theorem dX8_conflicts_113 : decode cX8_conflicts 113 = .ok (.imul, 1) := by decide +kernel
theorem dX8_conflicts_114 : decode cX8_conflicts 114 = .ok (.iload_n 2, 1) := by decide +kernel
theorem dX8_conflicts_115 : decode cX8_conflicts 115 = .ok (.iadd, 1) := by decide +kernel
theorem dX8_conflicts_116 : decode cX8_conflicts 116 = .ok (.iaload, 1) := by decide +kernel
theorem dX8_conflicts_117 : decode cX8_conflicts 117 = .ok (.goto 9, 3) := by decide +kernel
theorem dX8_conflicts_120 : decode cX8_conflicts 120 = .ok (.aload_n 0, 1) := by decide +kernel
theorem dX8_conflicts_121 : decode cX8_conflicts 121 = .ok (.getfield 58, 3) := by decide +kernel
theorem dX8_conflicts_124 : decode cX8_conflicts 124 = .ok (.iload_n 2, 1) := by decide +kernel
theorem dX8_conflicts_125 : decode cX8_conflicts 125 = .ok (.iaload, 1) := by decide +kernel
theorem dX8_conflicts_126 : decode cX8_conflicts 126 = .ok (.iastore, 1) := by decide +kernel
theorem dX8_conflicts_127 : decode cX8_conflicts 127 = .ok (.iinc 2 1, 3) := by decide +kernel
theorem dX8_conflicts_130 : decode cX8_conflicts 130 = .ok (.goto (-60), 3) := by decide +kernel
theorem dX8_conflicts_133 : decode cX8_conflicts 133 = .ok (.iconst 0, 1) := by decide +kernel
theorem dX8_conflicts_134 : decode cX8_conflicts 134 = .ok (.ireturn, 1) := by decide +kernel
theorem dX8_startTree_0 : decode cX8_startTree 0 = .ok (.iconst 0, 1) := by decide +kernel
theorem dX8_startTree_1 : decode cX8_startTree 1 = .ok (.istore_n 1, 1) := by decide +kernel
theorem dX8_startTree_2 : decode cX8_startTree 2 = .ok (.iload_n 1, 1) := by decide +kernel
theorem dX8_startTree_3 : decode cX8_startTree 3 = .ok (.bipush 6, 2) := by decide +kernel
theorem dX8_startTree_5 : decode cX8_startTree 5 = .ok (.if_icmp .ge 21, 3) := by decide +kernel
theorem dX8_startTree_8 : decode cX8_startTree 8 = .ok (.aload_n 0, 1) := by decide +kernel
theorem dX8_startTree_9 : decode cX8_startTree 9 = .ok (.getfield 58, 3) := by decide +kernel
theorem dX8_startTree_12 : decode cX8_startTree 12 = .ok (.iload_n 1, 1) := by decide +kernel
theorem dX8_startTree_13 : decode cX8_startTree 13 = .ok (.aload_n 0, 1) := by decide +kernel
theorem dX8_startTree_14 : decode cX8_startTree 14 = .ok (.getfield 22, 3) := by decide +kernel
theorem dX8_startTree_17 : decode cX8_startTree 17 = .ok (.iload_n 1, 1) := by decide +kernel
theorem dX8_startTree_18 : decode cX8_startTree 18 = .ok (.iaload, 1) := by decide +kernel
theorem dX8_startTree_19 : decode cX8_startTree 19 = .ok (.iastore, 1) := by decide +kernel
theorem dX8_startTree_20 : decode cX8_startTree 20 = .ok (.iinc 1 1, 3) := by decide +kernel
theorem dX8_startTree_23 : decode cX8_startTree 23 = .ok (.goto (-21), 3) := by decide +kernel
theorem dX8_startTree_26 : decode cX8_startTree 26 = .ok (.return_, 1) := by decide +kernel
theorem dX8_batchTree_0 : decode cX8_batchTree 0 = .ok (.aload_n 0, 1) := by decide +kernel
theorem dX8_batchTree_1 : decode cX8_batchTree 1 = .ok (.invokevirtual 103, 3) := by decide +kernel
theorem dX8_batchTree_4 : decode cX8_batchTree 4 = .ok (.iconst 0, 1) := by decide +kernel
theorem dX8_batchTree_5 : decode cX8_batchTree 5 = .ok (.istore_n 1, 1) := by decide +kernel
theorem dX8_batchTree_6 : decode cX8_batchTree 6 = .ok (.iload_n 1, 1) := by decide +kernel
theorem dX8_batchTree_7 : decode cX8_batchTree 7 = .ok (.aload_n 0, 1) := by decide +kernel
theorem dX8_batchTree_8 : decode cX8_batchTree 8 = .ok (.getfield 100, 3) := by decide +kernel
theorem dX8_batchTree_11 : decode cX8_batchTree 11 = .ok (.if_icmp .ge 23, 3) := by decide +kernel
theorem dX8_batchTree_14 : decode cX8_batchTree 14 = .ok (.aload_n 0, 1) := by decide +kernel
theorem dX8_batchTree_15 : decode cX8_batchTree 15 = .ok (.aload_n 0, 1) := by decide +kernel
theorem dX8_batchTree_16 : decode cX8_batchTree 16 = .ok (.getfield 40, 3) := by decide +kernel
theorem dX8_batchTree_19 : decode cX8_batchTree 19 = .ok (.iload_n 1, 1) := by decide +kernel
theorem dX8_batchTree_20 : decode cX8_batchTree 20 = .ok (.iaload, 1) := by decide +kernel
theorem dX8_batchTree_21 : decode cX8_batchTree 21 = .ok (.invokevirtual 106, 3) := by decide +kernel
theorem dX8_batchTree_24 : decode cX8_batchTree 24 = .ok (.ifCond .eq 4, 3) := by decide +kernel
theorem dX8_batchTree_27 : decode cX8_batchTree 27 = .ok (.return_, 1) := by decide +kernel
theorem dX8_batchTree_28 : decode cX8_batchTree 28 = .ok (.iinc 1 1, 3) := by decide +kernel
theorem dX8_batchTree_31 : decode cX8_batchTree 31 = .ok (.goto (-25), 3) := by decide +kernel
theorem dX8_batchTree_34 : decode cX8_batchTree 34 = .ok (.return_, 1) := by decide +kernel
theorem dX8_bit_0 : decode cX8_bit 0 = .ok (.aload_n 0, 1) := by decide +kernel
theorem dX8_bit_1 : decode cX8_bit 1 = .ok (.getfield 58, 3) := by decide +kernel
theorem dX8_bit_4 : decode cX8_bit 4 = .ok (.iconst 0, 1) := by decide +kernel
theorem dX8_bit_5 : decode cX8_bit 5 = .ok (.iaload, 1) := by decide +kernel
theorem dX8_bit_6 : decode cX8_bit 6 = .ok (.iload_n 1, 1) := by decide +kernel
theorem dX8_bit_7 : decode cX8_bit 7 = .ok (.ishr, 1) := by decide +kernel
theorem dX8_bit_8 : decode cX8_bit 8 = .ok (.iconst 1, 1) := by decide +kernel
theorem dX8_bit_9 : decode cX8_bit 9 = .ok (.iand, 1) := by decide +kernel
theorem dX8_bit_10 : decode cX8_bit 10 = .ok (.iconst 1, 1) := by decide +kernel
theorem dX8_bit_11 : decode cX8_bit 11 = .ok (.if_icmp .ne 7, 3) := by decide +kernel
theorem dX8_bit_14 : decode cX8_bit 14 = .ok (.iconst 1, 1) := by decide +kernel
theorem dX8_bit_15 : decode cX8_bit 15 = .ok (.goto 4, 3) := by decide +kernel
theorem dX8_bit_18 : decode cX8_bit 18 = .ok (.iconst 0, 1) := by decide +kernel
theorem dX8_bit_19 : decode cX8_bit 19 = .ok (.ireturn, 1) := by decide +kernel
theorem dX8_there_0 : decode cX8_there 0 = .ok (.aload_n 0, 1) := by decide +kernel
theorem dX8_there_1 : decode cX8_there 1 = .ok (.iload_n 1, 1) := by decide +kernel
theorem dX8_there_2 : decode cX8_there 2 = .ok (.invokevirtual 110, 3) := by decide +kernel
theorem dX8_there_5 : decode cX8_there 5 = .ok (.ireturn, 1) := by decide +kernel
theorem dX8_required_0 : decode cX8_required 0 = .ok (.aload_n 0, 1) := by decide +kernel
theorem dX8_required_1 : decode cX8_required 1 = .ok (.iload_n 1, 1) := by decide +kernel
theorem dX8_required_2 : decode cX8_required 2 = .ok (.invokevirtual 110, 3) := by decide +kernel
theorem dX8_required_5 : decode cX8_required 5 = .ok (.ifCond .eq 17, 3) := by decide +kernel
theorem dX8_required_8 : decode cX8_required 8 = .ok (.aload_n 0, 1) := by decide +kernel
theorem dX8_required_9 : decode cX8_required 9 = .ok (.iconst 4, 1) := by decide +kernel
theorem dX8_required_10 : decode cX8_required 10 = .ok (.iload_n 1, 1) := by decide +kernel
theorem dX8_required_11 : decode cX8_required 11 = .ok (.iadd, 1) := by decide +kernel
theorem dX8_required_12 : decode cX8_required 12 = .ok (.invokevirtual 110, 3) := by decide +kernel
theorem dX8_required_15 : decode cX8_required 15 = .ok (.ifCond .eq 7, 3) := by decide +kernel
theorem dX8_required_18 : decode cX8_required 18 = .ok (.iconst 1, 1) := by decide +kernel
theorem dX8_required_19 : decode cX8_required 19 = .ok (.goto 4, 3) := by decide +kernel
theorem dX8_required_22 : decode cX8_required 22 = .ok (.iconst 0, 1) := by decide +kernel
theorem dX8_required_23 : decode cX8_required 23 = .ok (.ireturn, 1) := by decide +kernel
theorem dX8_needs_0 : decode cX8_needs 0 = .ok (.aload_n 0, 1) := by decide +kernel
theorem dX8_needs_1 : decode cX8_needs 1 = .ok (.iload_n 1, 1) := by decide +kernel
theorem dX8_needs_2 : decode cX8_needs 2 = .ok (.invokevirtual 110, 3) := by decide +kernel
theorem dX8_needs_5 : decode cX8_needs 5 = .ok (.ifCond .eq 22, 3) := by decide +kernel
theorem dX8_needs_8 : decode cX8_needs 8 = .ok (.aload_n 0, 1) := by decide +kernel
theorem dX8_needs_9 : decode cX8_needs 9 = .ok (.bipush 8, 2) := by decide +kernel
theorem dX8_needs_11 : decode cX8_needs 11 = .ok (.iconst 4, 1) := by decide +kernel
theorem dX8_needs_12 : decode cX8_needs 12 = .ok (.iload_n 1, 1) := by decide +kernel
theorem dX8_needs_13 : decode cX8_needs 13 = .ok (.imul, 1) := by decide +kernel
theorem dX8_needs_14 : decode cX8_needs 14 = .ok (.iadd, 1) := by decide +kernel
theorem dX8_needs_15 : decode cX8_needs 15 = .ok (.iload_n 2, 1) := by decide +kernel
theorem dX8_needs_16 : decode cX8_needs 16 = .ok (.iadd, 1) := by decide +kernel
theorem dX8_needs_17 : decode cX8_needs 17 = .ok (.invokevirtual 110, 3) := by decide +kernel
theorem dX8_needs_20 : decode cX8_needs 20 = .ok (.ifCond .eq 7, 3) := by decide +kernel
theorem dX8_needs_23 : decode cX8_needs 23 = .ok (.iconst 1, 1) := by decide +kernel
theorem dX8_needs_24 : decode cX8_needs 24 = .ok (.goto 4, 3) := by decide +kernel
theorem dX8_needs_27 : decode cX8_needs 27 = .ok (.iconst 0, 1) := by decide +kernel
theorem dX8_needs_28 : decode cX8_needs 28 = .ok (.ireturn, 1) := by decide +kernel
theorem dX8_close4_0 : decode cX8_close4 0 = .ok (.iconst 0, 1) := by decide +kernel
theorem dX8_close4_1 : decode cX8_close4 1 = .ok (.istore_n 1, 1) := by decide +kernel
theorem dX8_close4_2 : decode cX8_close4 2 = .ok (.iload_n 1, 1) := by decide +kernel
theorem dX8_close4_3 : decode cX8_close4 3 = .ok (.bipush 16, 2) := by decide +kernel
theorem dX8_close4_5 : decode cX8_close4 5 = .ok (.if_icmp .ge 25, 3) := by decide +kernel
theorem dX8_close4_8 : decode cX8_close4 8 = .ok (.aload_n 0, 1) := by decide +kernel
theorem dX8_close4_9 : decode cX8_close4 9 = .ok (.getfield 61, 3) := by decide +kernel
theorem dX8_close4_12 : decode cX8_close4 12 = .ok (.iload_n 1, 1) := by decide +kernel
theorem dX8_close4_13 : decode cX8_close4 13 = .ok (.aload_n 0, 1) := by decide +kernel
theorem dX8_close4_14 : decode cX8_close4 14 = .ok (.iload_n 1, 1) := by decide +kernel
theorem dX8_close4_15 : decode cX8_close4 15 = .ok (.iconst 4, 1) := by decide +kernel
theorem dX8_close4_16 : decode cX8_close4 16 = .ok (.idiv, 1) := by decide +kernel
theorem dX8_close4_17 : decode cX8_close4 17 = .ok (.iload_n 1, 1) := by decide +kernel
theorem dX8_close4_18 : decode cX8_close4 18 = .ok (.iconst 4, 1) := by decide +kernel
theorem dX8_close4_19 : decode cX8_close4 19 = .ok (.irem, 1) := by decide +kernel
theorem dX8_close4_20 : decode cX8_close4 20 = .ok (.invokevirtual 113, 3) := by decide +kernel
theorem dX8_close4_23 : decode cX8_close4 23 = .ok (.bastore, 1) := by decide +kernel
theorem dX8_close4_24 : decode cX8_close4 24 = .ok (.iinc 1 1, 3) := by decide +kernel
theorem dX8_close4_27 : decode cX8_close4 27 = .ok (.goto (-25), 3) := by decide +kernel
theorem dX8_close4_30 : decode cX8_close4 30 = .ok (.iconst 0, 1) := by decide +kernel
theorem dX8_close4_31 : decode cX8_close4 31 = .ok (.istore_n 1, 1) := by decide +kernel
theorem dX8_close4_32 : decode cX8_close4 32 = .ok (.iload_n 1, 1) := by decide +kernel
theorem dX8_close4_33 : decode cX8_close4 33 = .ok (.iconst 4, 1) := by decide +kernel
theorem dX8_close4_34 : decode cX8_close4 34 = .ok (.if_icmp .ge 73, 3) := by decide +kernel
theorem dX8_close4_37 : decode cX8_close4 37 = .ok (.iconst 0, 1) := by decide +kernel
theorem dX8_close4_38 : decode cX8_close4 38 = .ok (.istore_n 2, 1) := by decide +kernel
theorem dX8_close4_39 : decode cX8_close4 39 = .ok (.iload_n 2, 1) := by decide +kernel
theorem dX8_close4_40 : decode cX8_close4 40 = .ok (.bipush 16, 2) := by decide +kernel
theorem dX8_close4_42 : decode cX8_close4 42 = .ok (.if_icmp .ge 59, 3) := by decide +kernel
theorem dX8_close4_45 : decode cX8_close4 45 = .ok (.aload_n 0, 1) := by decide +kernel
theorem dX8_close4_46 : decode cX8_close4 46 = .ok (.getfield 61, 3) := by decide +kernel
theorem dX8_close4_49 : decode cX8_close4 49 = .ok (.iload_n 2, 1) := by decide +kernel
theorem dX8_close4_50 : decode cX8_close4 50 = .ok (.aload_n 0, 1) := by decide +kernel
theorem dX8_close4_51 : decode cX8_close4 51 = .ok (.getfield 61, 3) := by decide +kernel
theorem dX8_close4_54 : decode cX8_close4 54 = .ok (.iload_n 2, 1) := by decide +kernel
theorem dX8_close4_55 : decode cX8_close4 55 = .ok (.baload, 1) := by decide +kernel
theorem dX8_close4_56 : decode cX8_close4 56 = .ok (.ifCond .ne 33, 3) := by decide +kernel
theorem dX8_close4_59 : decode cX8_close4 59 = .ok (.aload_n 0, 1) := by decide +kernel
theorem dX8_close4_60 : decode cX8_close4 60 = .ok (.getfield 61, 3) := by decide +kernel
theorem dX8_close4_63 : decode cX8_close4 63 = .ok (.iconst 4, 1) := by decide +kernel
theorem dX8_close4_64 : decode cX8_close4 64 = .ok (.iload_n 2, 1) := by decide +kernel
theorem dX8_close4_65 : decode cX8_close4 65 = .ok (.iconst 4, 1) := by decide +kernel
theorem dX8_close4_66 : decode cX8_close4 66 = .ok (.idiv, 1) := by decide +kernel
theorem dX8_close4_67 : decode cX8_close4 67 = .ok (.imul, 1) := by decide +kernel
theorem dX8_close4_68 : decode cX8_close4 68 = .ok (.iload_n 1, 1) := by decide +kernel
theorem dX8_close4_69 : decode cX8_close4 69 = .ok (.iadd, 1) := by decide +kernel
theorem dX8_close4_70 : decode cX8_close4 70 = .ok (.baload, 1) := by decide +kernel
theorem dX8_close4_71 : decode cX8_close4 71 = .ok (.ifCond .eq 22, 3) := by decide +kernel
theorem dX8_close4_74 : decode cX8_close4 74 = .ok (.aload_n 0, 1) := by decide +kernel
theorem dX8_close4_75 : decode cX8_close4 75 = .ok (.getfield 61, 3) := by decide +kernel
theorem dX8_close4_78 : decode cX8_close4 78 = .ok (.iconst 4, 1) := by decide +kernel
theorem dX8_close4_79 : decode cX8_close4 79 = .ok (.iload_n 1, 1) := by decide +kernel
theorem dX8_close4_80 : decode cX8_close4 80 = .ok (.imul, 1) := by decide +kernel
theorem dX8_close4_81 : decode cX8_close4 81 = .ok (.iload_n 2, 1) := by decide +kernel
theorem dX8_close4_82 : decode cX8_close4 82 = .ok (.iconst 4, 1) := by decide +kernel
theorem dX8_close4_83 : decode cX8_close4 83 = .ok (.irem, 1) := by decide +kernel
theorem dX8_close4_84 : decode cX8_close4 84 = .ok (.iadd, 1) := by decide +kernel
theorem dX8_close4_85 : decode cX8_close4 85 = .ok (.baload, 1) := by decide +kernel
theorem dX8_close4_86 : decode cX8_close4 86 = .ok (.ifCond .eq 7, 3) := by decide +kernel
theorem dX8_close4_89 : decode cX8_close4 89 = .ok (.iconst 1, 1) := by decide +kernel
theorem dX8_close4_90 : decode cX8_close4 90 = .ok (.goto 4, 3) := by decide +kernel
theorem dX8_close4_93 : decode cX8_close4 93 = .ok (.iconst 0, 1) := by decide +kernel
theorem dX8_close4_94 : decode cX8_close4 94 = .ok (.bastore, 1) := by decide +kernel
theorem dX8_close4_95 : decode cX8_close4 95 = .ok (.iinc 2 1, 3) := by decide +kernel
theorem dX8_close4_98 : decode cX8_close4 98 = .ok (.goto (-59), 3) := by decide +kernel
theorem dX8_close4_101 : decode cX8_close4 101 = .ok (.iinc 1 1, 3) := by decide +kernel
theorem dX8_close4_104 : decode cX8_close4 104 = .ok (.goto (-72), 3) := by decide +kernel
theorem dX8_close4_107 : decode cX8_close4 107 = .ok (.return_, 1) := by decide +kernel
theorem dX8_valid_0 : decode cX8_valid 0 = .ok (.iconst 0, 1) := by decide +kernel
theorem dX8_valid_1 : decode cX8_valid 1 = .ok (.istore_n 1, 1) := by decide +kernel
theorem dX8_valid_2 : decode cX8_valid 2 = .ok (.iconst 1, 1) := by decide +kernel
theorem dX8_valid_3 : decode cX8_valid 3 = .ok (.istore_n 2, 1) := by decide +kernel
theorem dX8_valid_4 : decode cX8_valid 4 = .ok (.aload_n 0, 1) := by decide +kernel
theorem dX8_valid_5 : decode cX8_valid 5 = .ok (.invokevirtual 117, 3) := by decide +kernel
theorem dX8_valid_8 : decode cX8_valid 8 = .ok (.iconst 0, 1) := by decide +kernel
theorem dX8_valid_9 : decode cX8_valid 9 = .ok (.istore_n 3, 1) := by decide +kernel
theorem dX8_valid_10 : decode cX8_valid 10 = .ok (.iload_n 3, 1) := by decide +kernel
theorem dX8_valid_11 : decode cX8_valid 11 = .ok (.iconst 4, 1) := by decide +kernel
theorem dX8_valid_12 : decode cX8_valid 12 = .ok (.if_icmp .ge 92, 3) := by decide +kernel
theorem dX8_valid_15 : decode cX8_valid 15 = .ok (.iload_n 1, 1) := by decide +kernel
theorem dX8_valid_16 : decode cX8_valid 16 = .ok (.ifCond .ne 11, 3) := by decide +kernel
theorem dX8_valid_19 : decode cX8_valid 19 = .ok (.aload_n 0, 1) := by decide +kernel
theorem dX8_valid_20 : decode cX8_valid 20 = .ok (.iload_n 3, 1) := by decide +kernel
theorem dX8_valid_21 : decode cX8_valid 21 = .ok (.invokevirtual 120, 3) := by decide +kernel
theorem dX8_valid_24 : decode cX8_valid 24 = .ok (.ifCond .eq 7, 3) := by decide +kernel
theorem dX8_valid_27 : decode cX8_valid 27 = .ok (.iconst 1, 1) := by decide +kernel
theorem dX8_valid_28 : decode cX8_valid 28 = .ok (.goto 4, 3) := by decide +kernel
theorem dX8_valid_31 : decode cX8_valid 31 = .ok (.iconst 0, 1) := by decide +kernel
theorem dX8_valid_32 : decode cX8_valid 32 = .ok (.istore_n 1, 1) := by decide +kernel
theorem dX8_valid_33 : decode cX8_valid 33 = .ok (.iload_n 2, 1) := by decide +kernel
theorem dX8_valid_34 : decode cX8_valid 34 = .ok (.ifCond .eq 18, 3) := by decide +kernel
theorem dX8_valid_37 : decode cX8_valid 37 = .ok (.aload_n 0, 1) := by decide +kernel
theorem dX8_valid_38 : decode cX8_valid 38 = .ok (.getfield 61, 3) := by decide +kernel
theorem dX8_valid_41 : decode cX8_valid 41 = .ok (.iconst 5, 1) := by decide +kernel
theorem dX8_valid_42 : decode cX8_valid 42 = .ok (.iload_n 3, 1) := by decide +kernel
theorem dX8_valid_43 : decode cX8_valid 43 = .ok (.imul, 1) := by decide +kernel
theorem dX8_valid_44 : decode cX8_valid 44 = .ok (.baload, 1) := by decide +kernel
theorem dX8_valid_45 : decode cX8_valid 45 = .ok (.ifCond .ne 7, 3) := by decide +kernel
theorem dX8_valid_48 : decode cX8_valid 48 = .ok (.iconst 1, 1) := by decide +kernel
theorem dX8_valid_49 : decode cX8_valid 49 = .ok (.goto 4, 3) := by decide +kernel
theorem dX8_valid_52 : decode cX8_valid 52 = .ok (.iconst 0, 1) := by decide +kernel
theorem dX8_valid_53 : decode cX8_valid 53 = .ok (.istore_n 2, 1) := by decide +kernel
theorem dX8_valid_54 : decode cX8_valid 54 = .ok (.iconst 0, 1) := by decide +kernel
theorem dX8_valid_55 : decode cX8_valid 55 = .ok (.istore 4, 2) := by decide +kernel
theorem dX8_valid_57 : decode cX8_valid 57 = .ok (.iload 4, 2) := by decide +kernel
theorem dX8_valid_59 : decode cX8_valid 59 = .ok (.iconst 4, 1) := by decide +kernel
theorem dX8_valid_60 : decode cX8_valid 60 = .ok (.if_icmp .ge 38, 3) := by decide +kernel
theorem dX8_valid_63 : decode cX8_valid 63 = .ok (.iload_n 2, 1) := by decide +kernel
theorem dX8_valid_64 : decode cX8_valid 64 = .ok (.ifCond .eq 26, 3) := by decide +kernel
theorem dX8_valid_67 : decode cX8_valid 67 = .ok (.aload_n 0, 1) := by decide +kernel
theorem dX8_valid_68 : decode cX8_valid 68 = .ok (.iload_n 3, 1) := by decide +kernel
theorem dX8_valid_69 : decode cX8_valid 69 = .ok (.iload 4, 2) := by decide +kernel
theorem dX8_valid_71 : decode cX8_valid 71 = .ok (.invokevirtual 113, 3) := by decide +kernel
theorem dX8_valid_74 : decode cX8_valid 74 = .ok (.ifCond .eq 12, 3) := by decide +kernel
theorem dX8_valid_77 : decode cX8_valid 77 = .ok (.aload_n 0, 1) := by decide +kernel
theorem dX8_valid_78 : decode cX8_valid 78 = .ok (.iload 4, 2) := by decide +kernel
theorem dX8_valid_80 : decode cX8_valid 80 = .ok (.invokevirtual 123, 3) := by decide +kernel
theorem dX8_valid_83 : decode cX8_valid 83 = .ok (.ifCond .eq 7, 3) := by decide +kernel
theorem dX8_valid_86 : decode cX8_valid 86 = .ok (.iconst 1, 1) := by decide +kernel
theorem dX8_valid_87 : decode cX8_valid 87 = .ok (.goto 4, 3) := by decide +kernel
theorem dX8_valid_90 : decode cX8_valid 90 = .ok (.iconst 0, 1) := by decide +kernel
theorem dX8_valid_91 : decode cX8_valid 91 = .ok (.istore_n 2, 1) := by decide +kernel
theorem dX8_valid_92 : decode cX8_valid 92 = .ok (.iinc 4 1, 3) := by decide +kernel
theorem dX8_valid_95 : decode cX8_valid 95 = .ok (.goto (-38), 3) := by decide +kernel
theorem dX8_valid_98 : decode cX8_valid 98 = .ok (.iinc 3 1, 3) := by decide +kernel
theorem dX8_valid_101 : decode cX8_valid 101 = .ok (.goto (-91), 3) := by decide +kernel
theorem dX8_valid_104 : decode cX8_valid 104 = .ok (.iload_n 1, 1) := by decide +kernel
theorem dX8_valid_105 : decode cX8_valid 105 = .ok (.ifCond .eq 11, 3) := by decide +kernel
theorem dX8_valid_108 : decode cX8_valid 108 = .ok (.iload_n 2, 1) := by decide +kernel
theorem dX8_valid_109 : decode cX8_valid 109 = .ok (.ifCond .eq 7, 3) := by decide +kernel
theorem dX8_valid_112 : decode cX8_valid 112 = .ok (.iconst 1, 1) := by decide +kernel
theorem dX8_valid_113 : decode cX8_valid 113 = .ok (.goto 4, 3) := by decide +kernel
theorem dX8_valid_116 : decode cX8_valid 116 = .ok (.iconst 0, 1) := by decide +kernel
theorem dX8_valid_117 : decode cX8_valid 117 = .ok (.ireturn, 1) := by decide +kernel
theorem dX8_leaveQueue_0 : decode cX8_leaveQueue 0 = .ok (.aload_n 0, 1) := by decide +kernel
theorem dX8_leaveQueue_1 : decode cX8_leaveQueue 1 = .ok (.aload_n 0, 1) := by decide +kernel
theorem dX8_leaveQueue_2 : decode cX8_leaveQueue 2 = .ok (.getfield 94, 3) := by decide +kernel
theorem dX8_leaveQueue_5 : decode cX8_leaveQueue 5 = .ok (.iconst 1, 1) := by decide +kernel
theorem dX8_leaveQueue_6 : decode cX8_leaveQueue 6 = .ok (.isub, 1) := by decide +kernel
theorem dX8_leaveQueue_7 : decode cX8_leaveQueue 7 = .ok (.putfield 94, 3) := by decide +kernel
theorem dX8_leaveQueue_10 : decode cX8_leaveQueue 10 = .ok (.iload_n 1, 1) := by decide +kernel
theorem dX8_leaveQueue_11 : decode cX8_leaveQueue 11 = .ok (.istore_n 2, 1) := by decide +kernel
theorem dX8_leaveQueue_12 : decode cX8_leaveQueue 12 = .ok (.iload_n 2, 1) := by decide +kernel
theorem dX8_leaveQueue_13 : decode cX8_leaveQueue 13 = .ok (.aload_n 0, 1) := by decide +kernel
theorem dX8_leaveQueue_14 : decode cX8_leaveQueue 14 = .ok (.getfield 94, 3) := by decide +kernel
theorem dX8_leaveQueue_17 : decode cX8_leaveQueue 17 = .ok (.if_icmp .ge 23, 3) := by decide +kernel
theorem dX8_leaveQueue_20 : decode cX8_leaveQueue 20 = .ok (.aload_n 0, 1) := by decide +kernel
theorem dX8_leaveQueue_21 : decode cX8_leaveQueue 21 = .ok (.getfield 40, 3) := by decide +kernel
theorem dX8_leaveQueue_24 : decode cX8_leaveQueue 24 = .ok (.iload_n 2, 1) := by decide +kernel
theorem dX8_leaveQueue_25 : decode cX8_leaveQueue 25 = .ok (.aload_n 0, 1) := by decide +kernel
theorem dX8_leaveQueue_26 : decode cX8_leaveQueue 26 = .ok (.getfield 40, 3) := by decide +kernel
theorem dX8_leaveQueue_29 : decode cX8_leaveQueue 29 = .ok (.iload_n 2, 1) := by decide +kernel
theorem dX8_leaveQueue_30 : decode cX8_leaveQueue 30 = .ok (.iconst 1, 1) := by decide +kernel
theorem dX8_leaveQueue_31 : decode cX8_leaveQueue 31 = .ok (.iadd, 1) := by decide +kernel
theorem dX8_leaveQueue_32 : decode cX8_leaveQueue 32 = .ok (.iaload, 1) := by decide +kernel
theorem dX8_leaveQueue_33 : decode cX8_leaveQueue 33 = .ok (.iastore, 1) := by decide +kernel
theorem dX8_leaveQueue_34 : decode cX8_leaveQueue 34 = .ok (.iinc 2 1, 3) := by decide +kernel
theorem dX8_leaveQueue_37 : decode cX8_leaveQueue 37 = .ok (.goto (-25), 3) := by decide +kernel
theorem dX8_leaveQueue_40 : decode cX8_leaveQueue 40 = .ok (.return_, 1) := by decide +kernel
theorem dX8_reject_0 : decode cX8_reject 0 = .ok (.aload_n 0, 1) := by decide +kernel
theorem dX8_reject_1 : decode cX8_reject 1 = .ok (.getfield 31, 3) := by decide +kernel
theorem dX8_reject_4 : decode cX8_reject 4 = .ok (.iload_n 1, 1) := by decide +kernel
theorem dX8_reject_5 : decode cX8_reject 5 = .ok (.iconst 3, 1) := by decide +kernel
theorem dX8_reject_6 : decode cX8_reject 6 = .ok (.iastore, 1) := by decide +kernel
theorem dX8_reject_7 : decode cX8_reject 7 = .ok (.aload_n 0, 1) := by decide +kernel
theorem dX8_reject_8 : decode cX8_reject 8 = .ok (.getfield 34, 3) := by decide +kernel
theorem dX8_reject_11 : decode cX8_reject 11 = .ok (.iload_n 1, 1) := by decide +kernel
theorem dX8_reject_12 : decode cX8_reject 12 = .ok (.iload_n 2, 1) := by decide +kernel
theorem dX8_reject_13 : decode cX8_reject 13 = .ok (.iastore, 1) := by decide +kernel
theorem dX8_reject_14 : decode cX8_reject 14 = .ok (.return_, 1) := by decide +kernel
theorem dX8_dropPlan_0 : decode cX8_dropPlan 0 = .ok (.aload_n 0, 1) := by decide +kernel
theorem dX8_dropPlan_1 : decode cX8_dropPlan 1 = .ok (.aload_n 0, 1) := by decide +kernel
theorem dX8_dropPlan_2 : decode cX8_dropPlan 2 = .ok (.getfield 97, 3) := by decide +kernel
theorem dX8_dropPlan_5 : decode cX8_dropPlan 5 = .ok (.iconst 1, 1) := by decide +kernel
theorem dX8_dropPlan_6 : decode cX8_dropPlan 6 = .ok (.isub, 1) := by decide +kernel
theorem dX8_dropPlan_7 : decode cX8_dropPlan 7 = .ok (.putfield 97, 3) := by decide +kernel
theorem dX8_dropPlan_10 : decode cX8_dropPlan 10 = .ok (.iconst 0, 1) := by decide +kernel
theorem dX8_dropPlan_11 : decode cX8_dropPlan 11 = .ok (.istore_n 1, 1) := by decide +kernel
theorem dX8_dropPlan_12 : decode cX8_dropPlan 12 = .ok (.iload_n 1, 1) := by decide +kernel
theorem dX8_dropPlan_13 : decode cX8_dropPlan 13 = .ok (.aload_n 0, 1) := by decide +kernel
theorem dX8_dropPlan_14 : decode cX8_dropPlan 14 = .ok (.getfield 97, 3) := by decide +kernel
theorem dX8_dropPlan_17 : decode cX8_dropPlan 17 = .ok (.if_icmp .ge 23, 3) := by decide +kernel
theorem dX8_dropPlan_20 : decode cX8_dropPlan 20 = .ok (.aload_n 0, 1) := by decide +kernel
theorem dX8_dropPlan_21 : decode cX8_dropPlan 21 = .ok (.getfield 43, 3) := by decide +kernel
theorem dX8_dropPlan_24 : decode cX8_dropPlan 24 = .ok (.iload_n 1, 1) := by decide +kernel
theorem dX8_dropPlan_25 : decode cX8_dropPlan 25 = .ok (.aload_n 0, 1) := by decide +kernel
theorem dX8_dropPlan_26 : decode cX8_dropPlan 26 = .ok (.getfield 43, 3) := by decide +kernel
theorem dX8_dropPlan_29 : decode cX8_dropPlan 29 = .ok (.iload_n 1, 1) := by decide +kernel
theorem dX8_dropPlan_30 : decode cX8_dropPlan 30 = .ok (.iconst 1, 1) := by decide +kernel
theorem dX8_dropPlan_31 : decode cX8_dropPlan 31 = .ok (.iadd, 1) := by decide +kernel
theorem dX8_dropPlan_32 : decode cX8_dropPlan 32 = .ok (.iaload, 1) := by decide +kernel
theorem dX8_dropPlan_33 : decode cX8_dropPlan 33 = .ok (.iastore, 1) := by decide +kernel
theorem dX8_dropPlan_34 : decode cX8_dropPlan 34 = .ok (.iinc 1 1, 3) := by decide +kernel
theorem dX8_dropPlan_37 : decode cX8_dropPlan 37 = .ok (.goto (-25), 3) := by decide +kernel
theorem dX8_dropPlan_40 : decode cX8_dropPlan 40 = .ok (.return_, 1) := by decide +kernel
theorem dX8_endLeases_0 : decode cX8_endLeases 0 = .ok (.iconst 0, 1) := by decide +kernel
theorem dX8_endLeases_1 : decode cX8_endLeases 1 = .ok (.istore_n 1, 1) := by decide +kernel
theorem dX8_endLeases_2 : decode cX8_endLeases 2 = .ok (.iload_n 1, 1) := by decide +kernel
theorem dX8_endLeases_3 : decode cX8_endLeases 3 = .ok (.iconst 4, 1) := by decide +kernel
theorem dX8_endLeases_4 : decode cX8_endLeases 4 = .ok (.if_icmp .ge 16, 3) := by decide +kernel
theorem dX8_endLeases_7 : decode cX8_endLeases 7 = .ok (.aload_n 0, 1) := by decide +kernel
theorem dX8_endLeases_8 : decode cX8_endLeases 8 = .ok (.getfield 52, 3) := by decide +kernel
theorem dX8_endLeases_11 : decode cX8_endLeases 11 = .ok (.iload_n 1, 1) := by decide +kernel
theorem dX8_endLeases_12 : decode cX8_endLeases 12 = .ok (.iconst (-1), 1) := by decide +kernel
theorem dX8_endLeases_13 : decode cX8_endLeases 13 = .ok (.iastore, 1) := by decide +kernel
theorem dX8_endLeases_14 : decode cX8_endLeases 14 = .ok (.iinc 1 1, 3) := by decide +kernel
theorem dX8_endLeases_17 : decode cX8_endLeases 17 = .ok (.goto (-15), 3) := by decide +kernel
theorem dX8_endLeases_20 : decode cX8_endLeases 20 = .ok (.return_, 1) := by decide +kernel
theorem dX8_batchFails_0 : decode cX8_batchFails 0 = .ok (.aload_n 0, 1) := by decide +kernel
theorem dX8_batchFails_1 : decode cX8_batchFails 1 = .ok (.getfield 100, 3) := by decide +kernel
theorem dX8_batchFails_4 : decode cX8_batchFails 4 = .ok (.istore_n 2, 1) := by decide +kernel
theorem dX8_batchFails_5 : decode cX8_batchFails 5 = .ok (.aload_n 0, 1) := by decide +kernel
theorem dX8_batchFails_6 : decode cX8_batchFails 6 = .ok (.iconst 0, 1) := by decide +kernel
theorem dX8_batchFails_7 : decode cX8_batchFails 7 = .ok (.putfield 100, 3) := by decide +kernel
theorem dX8_batchFails_10 : decode cX8_batchFails 10 = .ok (.aload_n 0, 1) := by decide +kernel
theorem dX8_batchFails_11 : decode cX8_batchFails 11 = .ok (.invokevirtual 126, 3) := by decide +kernel
theorem dX8_batchFails_14 : decode cX8_batchFails 14 = .ok (.iload_n 2, 1) := by decide +kernel
theorem dX8_batchFails_15 : decode cX8_batchFails 15 = .ok (.iconst 1, 1) := by decide +kernel
theorem dX8_batchFails_16 : decode cX8_batchFails 16 = .ok (.if_icmp .ne 24, 3) := by decide +kernel
theorem dX8_batchFails_19 : decode cX8_batchFails 19 = .ok (.aload_n 0, 1) := by decide +kernel
theorem dX8_batchFails_20 : decode cX8_batchFails 20 = .ok (.aload_n 0, 1) := by decide +kernel
theorem dX8_batchFails_21 : decode cX8_batchFails 21 = .ok (.getfield 40, 3) := by decide +kernel
theorem dX8_batchFails_24 : decode cX8_batchFails 24 = .ok (.iconst 0, 1) := by decide +kernel
theorem dX8_batchFails_25 : decode cX8_batchFails 25 = .ok (.iaload, 1) := by decide +kernel
theorem dX8_batchFails_26 : decode cX8_batchFails 26 = .ok (.iload_n 1, 1) := by decide +kernel
theorem dX8_batchFails_27 : decode cX8_batchFails 27 = .ok (.invokevirtual 129, 3) := by decide +kernel
theorem dX8_batchFails_30 : decode cX8_batchFails 30 = .ok (.aload_n 0, 1) := by decide +kernel
theorem dX8_batchFails_31 : decode cX8_batchFails 31 = .ok (.iconst 0, 1) := by decide +kernel
theorem dX8_batchFails_32 : decode cX8_batchFails 32 = .ok (.invokevirtual 133, 3) := by decide +kernel
theorem dX8_batchFails_35 : decode cX8_batchFails 35 = .ok (.aload_n 0, 1) := by decide +kernel
theorem dX8_batchFails_36 : decode cX8_batchFails 36 = .ok (.invokevirtual 137, 3) := by decide +kernel
theorem dX8_batchFails_39 : decode cX8_batchFails 39 = .ok (.return_, 1) := by decide +kernel
theorem dX8_batchFails_40 : decode cX8_batchFails 40 = .ok (.aload_n 0, 1) := by decide +kernel
theorem dX8_batchFails_41 : decode cX8_batchFails 41 = .ok (.getfield 97, 3) := by decide +kernel
theorem dX8_batchFails_44 : decode cX8_batchFails 44 = .ok (.istore_n 3, 1) := by decide +kernel
theorem dX8_batchFails_45 : decode cX8_batchFails 45 = .ok (.iload_n 3, 1) := by decide +kernel
theorem dX8_batchFails_46 : decode cX8_batchFails 46 = .ok (.iconst 1, 1) := by decide +kernel
theorem dX8_batchFails_47 : decode cX8_batchFails 47 = .ok (.if_icmp .le 23, 3) := by decide +kernel
theorem dX8_batchFails_50 : decode cX8_batchFails 50 = .ok (.aload_n 0, 1) := by decide +kernel
theorem dX8_batchFails_51 : decode cX8_batchFails 51 = .ok (.getfield 43, 3) := by decide +kernel
theorem dX8_batchFails_54 : decode cX8_batchFails 54 = .ok (.iload_n 3, 1) := by decide +kernel
theorem dX8_batchFails_55 : decode cX8_batchFails 55 = .ok (.aload_n 0, 1) := by decide +kernel
theorem dX8_batchFails_56 : decode cX8_batchFails 56 = .ok (.getfield 43, 3) := by decide +kernel
theorem dX8_batchFails_59 : decode cX8_batchFails 59 = .ok (.iload_n 3, 1) := by decide +kernel
theorem dX8_batchFails_60 : decode cX8_batchFails 60 = .ok (.iconst 1, 1) := by decide +kernel
theorem dX8_batchFails_61 : decode cX8_batchFails 61 = .ok (.isub, 1) := by decide +kernel
theorem dX8_batchFails_62 : decode cX8_batchFails 62 = .ok (.iaload, 1) := by decide +kernel
theorem dX8_batchFails_63 : decode cX8_batchFails 63 = .ok (.iastore, 1) := by decide +kernel
theorem dX8_batchFails_64 : decode cX8_batchFails 64 = .ok (.iinc 3 (-1), 3) := by decide +kernel
theorem dX8_batchFails_67 : decode cX8_batchFails 67 = .ok (.goto (-22), 3) := by decide +kernel
theorem dX8_batchFails_70 : decode cX8_batchFails 70 = .ok (.aload_n 0, 1) := by decide +kernel
theorem dX8_batchFails_71 : decode cX8_batchFails 71 = .ok (.getfield 43, 3) := by decide +kernel
theorem dX8_batchFails_74 : decode cX8_batchFails 74 = .ok (.iconst 0, 1) := by decide +kernel
theorem dX8_batchFails_75 : decode cX8_batchFails 75 = .ok (.iload_n 2, 1) := by decide +kernel
theorem dX8_batchFails_76 : decode cX8_batchFails 76 = .ok (.iconst 1, 1) := by decide +kernel
theorem dX8_batchFails_77 : decode cX8_batchFails 77 = .ok (.iadd, 1) := by decide +kernel
theorem dX8_batchFails_78 : decode cX8_batchFails 78 = .ok (.iconst 2, 1) := by decide +kernel
theorem dX8_batchFails_79 : decode cX8_batchFails 79 = .ok (.idiv, 1) := by decide +kernel
theorem dX8_batchFails_80 : decode cX8_batchFails 80 = .ok (.iastore, 1) := by decide +kernel
theorem dX8_batchFails_81 : decode cX8_batchFails 81 = .ok (.aload_n 0, 1) := by decide +kernel
theorem dX8_batchFails_82 : decode cX8_batchFails 82 = .ok (.getfield 43, 3) := by decide +kernel
theorem dX8_batchFails_85 : decode cX8_batchFails 85 = .ok (.iconst 1, 1) := by decide +kernel
theorem dX8_batchFails_86 : decode cX8_batchFails 86 = .ok (.iload_n 2, 1) := by decide +kernel
theorem dX8_batchFails_87 : decode cX8_batchFails 87 = .ok (.iconst 2, 1) := by decide +kernel
theorem dX8_batchFails_88 : decode cX8_batchFails 88 = .ok (.idiv, 1) := by decide +kernel
theorem dX8_batchFails_89 : decode cX8_batchFails 89 = .ok (.iastore, 1) := by decide +kernel
theorem dX8_batchFails_90 : decode cX8_batchFails 90 = .ok (.aload_n 0, 1) := by decide +kernel
theorem dX8_batchFails_91 : decode cX8_batchFails 91 = .ok (.aload_n 0, 1) := by decide +kernel
theorem dX8_batchFails_92 : decode cX8_batchFails 92 = .ok (.getfield 97, 3) := by decide +kernel
theorem dX8_batchFails_95 : decode cX8_batchFails 95 = .ok (.iconst 1, 1) := by decide +kernel
theorem dX8_batchFails_96 : decode cX8_batchFails 96 = .ok (.iadd, 1) := by decide +kernel
theorem dX8_batchFails_97 : decode cX8_batchFails 97 = .ok (.putfield 97, 3) := by decide +kernel
theorem dX8_batchFails_100 : decode cX8_batchFails 100 = .ok (.return_, 1) := by decide +kernel
theorem dX8_batchPasses_0 : decode cX8_batchPasses 0 = .ok (.aload_n 0, 1) := by decide +kernel
theorem dX8_batchPasses_1 : decode cX8_batchPasses 1 = .ok (.invokevirtual 140, 3) := by decide +kernel
theorem dX8_batchPasses_4 : decode cX8_batchPasses 4 = .ok (.iconst 0, 1) := by decide +kernel
theorem dX8_batchPasses_5 : decode cX8_batchPasses 5 = .ok (.istore_n 1, 1) := by decide +kernel
theorem dX8_batchPasses_6 : decode cX8_batchPasses 6 = .ok (.iload_n 1, 1) := by decide +kernel
theorem dX8_batchPasses_7 : decode cX8_batchPasses 7 = .ok (.bipush 6, 2) := by decide +kernel
theorem dX8_batchPasses_9 : decode cX8_batchPasses 9 = .ok (.if_icmp .ge 21, 3) := by decide +kernel
theorem dX8_batchPasses_12 : decode cX8_batchPasses 12 = .ok (.aload_n 0, 1) := by decide +kernel
theorem dX8_batchPasses_13 : decode cX8_batchPasses 13 = .ok (.getfield 22, 3) := by decide +kernel
theorem dX8_batchPasses_16 : decode cX8_batchPasses 16 = .ok (.iload_n 1, 1) := by decide +kernel
theorem dX8_batchPasses_17 : decode cX8_batchPasses 17 = .ok (.aload_n 0, 1) := by decide +kernel
theorem dX8_batchPasses_18 : decode cX8_batchPasses 18 = .ok (.getfield 58, 3) := by decide +kernel
theorem dX8_batchPasses_21 : decode cX8_batchPasses 21 = .ok (.iload_n 1, 1) := by decide +kernel
theorem dX8_batchPasses_22 : decode cX8_batchPasses 22 = .ok (.iaload, 1) := by decide +kernel
theorem dX8_batchPasses_23 : decode cX8_batchPasses 23 = .ok (.iastore, 1) := by decide +kernel
theorem dX8_batchPasses_24 : decode cX8_batchPasses 24 = .ok (.iinc 1 1, 3) := by decide +kernel
theorem dX8_batchPasses_27 : decode cX8_batchPasses 27 = .ok (.goto (-21), 3) := by decide +kernel
theorem dX8_batchPasses_30 : decode cX8_batchPasses 30 = .ok (.aload_n 0, 1) := by decide +kernel
theorem dX8_batchPasses_31 : decode cX8_batchPasses 31 = .ok (.aload_n 0, 1) := by decide +kernel
theorem dX8_batchPasses_32 : decode cX8_batchPasses 32 = .ok (.getfield 85, 3) := by decide +kernel
theorem dX8_batchPasses_35 : decode cX8_batchPasses 35 = .ok (.iconst 1, 1) := by decide +kernel
theorem dX8_batchPasses_36 : decode cX8_batchPasses 36 = .ok (.iadd, 1) := by decide +kernel
theorem dX8_batchPasses_37 : decode cX8_batchPasses 37 = .ok (.putfield 85, 3) := by decide +kernel
theorem dX8_batchPasses_40 : decode cX8_batchPasses 40 = .ok (.iconst 0, 1) := by decide +kernel
theorem dX8_batchPasses_41 : decode cX8_batchPasses 41 = .ok (.istore_n 1, 1) := by decide +kernel
theorem dX8_batchPasses_42 : decode cX8_batchPasses 42 = .ok (.iload_n 1, 1) := by decide +kernel
theorem dX8_batchPasses_43 : decode cX8_batchPasses 43 = .ok (.aload_n 0, 1) := by decide +kernel
theorem dX8_batchPasses_44 : decode cX8_batchPasses 44 = .ok (.getfield 100, 3) := by decide +kernel
theorem dX8_batchPasses_47 : decode cX8_batchPasses 47 = .ok (.if_icmp .ge 26, 3) := by decide +kernel
theorem dX8_batchPasses_50 : decode cX8_batchPasses 50 = .ok (.aload_n 0, 1) := by decide +kernel
theorem dX8_batchPasses_51 : decode cX8_batchPasses 51 = .ok (.getfield 31, 3) := by decide +kernel
theorem dX8_batchPasses_54 : decode cX8_batchPasses 54 = .ok (.aload_n 0, 1) := by decide +kernel
theorem dX8_batchPasses_55 : decode cX8_batchPasses 55 = .ok (.getfield 40, 3) := by decide +kernel
theorem dX8_batchPasses_58 : decode cX8_batchPasses 58 = .ok (.iconst 0, 1) := by decide +kernel
theorem dX8_batchPasses_59 : decode cX8_batchPasses 59 = .ok (.iaload, 1) := by decide +kernel
theorem dX8_batchPasses_60 : decode cX8_batchPasses 60 = .ok (.iconst 2, 1) := by decide +kernel
theorem dX8_batchPasses_61 : decode cX8_batchPasses 61 = .ok (.iastore, 1) := by decide +kernel
theorem dX8_batchPasses_62 : decode cX8_batchPasses 62 = .ok (.aload_n 0, 1) := by decide +kernel
theorem dX8_batchPasses_63 : decode cX8_batchPasses 63 = .ok (.iconst 0, 1) := by decide +kernel
theorem dX8_batchPasses_64 : decode cX8_batchPasses 64 = .ok (.invokevirtual 133, 3) := by decide +kernel
theorem dX8_batchPasses_67 : decode cX8_batchPasses 67 = .ok (.iinc 1 1, 3) := by decide +kernel
theorem dX8_batchPasses_70 : decode cX8_batchPasses 70 = .ok (.goto (-28), 3) := by decide +kernel
theorem dX8_batchPasses_73 : decode cX8_batchPasses 73 = .ok (.aload_n 0, 1) := by decide +kernel
theorem dX8_batchPasses_74 : decode cX8_batchPasses 74 = .ok (.iconst 0, 1) := by decide +kernel
theorem dX8_batchPasses_75 : decode cX8_batchPasses 75 = .ok (.putfield 100, 3) := by decide +kernel
theorem dX8_batchPasses_78 : decode cX8_batchPasses 78 = .ok (.aload_n 0, 1) := by decide +kernel
theorem dX8_batchPasses_79 : decode cX8_batchPasses 79 = .ok (.invokevirtual 137, 3) := by decide +kernel
theorem dX8_batchPasses_82 : decode cX8_batchPasses 82 = .ok (.aload_n 0, 1) := by decide +kernel
theorem dX8_batchPasses_83 : decode cX8_batchPasses 83 = .ok (.invokevirtual 126, 3) := by decide +kernel
theorem dX8_batchPasses_86 : decode cX8_batchPasses 86 = .ok (.return_, 1) := by decide +kernel
theorem dX8_build_0 : decode cX8_build 0 = .ok (.aload_n 0, 1) := by decide +kernel
theorem dX8_build_1 : decode cX8_build 1 = .ok (.getfield 97, 3) := by decide +kernel
theorem dX8_build_4 : decode cX8_build 4 = .ok (.ifCond .ne 36, 3) := by decide +kernel
theorem dX8_build_7 : decode cX8_build 7 = .ok (.aload_n 0, 1) := by decide +kernel
theorem dX8_build_8 : decode cX8_build 8 = .ok (.getfield 43, 3) := by decide +kernel
theorem dX8_build_11 : decode cX8_build 11 = .ok (.iconst 0, 1) := by decide +kernel
theorem dX8_build_12 : decode cX8_build 12 = .ok (.aload_n 0, 1) := by decide +kernel
theorem dX8_build_13 : decode cX8_build 13 = .ok (.getfield 73, 3) := by decide +kernel
theorem dX8_build_16 : decode cX8_build 16 = .ok (.aload_n 0, 1) := by decide +kernel
theorem dX8_build_17 : decode cX8_build 17 = .ok (.getfield 94, 3) := by decide +kernel
theorem dX8_build_20 : decode cX8_build 20 = .ok (.if_icmp .ge 10, 3) := by decide +kernel
theorem dX8_build_23 : decode cX8_build 23 = .ok (.aload_n 0, 1) := by decide +kernel
theorem dX8_build_24 : decode cX8_build 24 = .ok (.getfield 73, 3) := by decide +kernel
theorem dX8_build_27 : decode cX8_build 27 = .ok (.goto 7, 3) := by decide +kernel
theorem dX8_build_30 : decode cX8_build 30 = .ok (.aload_n 0, 1) := by decide +kernel
theorem dX8_build_31 : decode cX8_build 31 = .ok (.getfield 94, 3) := by decide +kernel
theorem dX8_build_34 : decode cX8_build 34 = .ok (.iastore, 1) := by decide +kernel
theorem dX8_build_35 : decode cX8_build 35 = .ok (.aload_n 0, 1) := by decide +kernel
theorem dX8_build_36 : decode cX8_build 36 = .ok (.iconst 1, 1) := by decide +kernel
theorem dX8_build_37 : decode cX8_build 37 = .ok (.putfield 97, 3) := by decide +kernel
theorem dX8_build_40 : decode cX8_build 40 = .ok (.aload_n 0, 1) := by decide +kernel
theorem dX8_build_41 : decode cX8_build 41 = .ok (.invokevirtual 103, 3) := by decide +kernel
theorem dX8_build_44 : decode cX8_build 44 = .ok (.aload_n 0, 1) := by decide +kernel
theorem dX8_build_45 : decode cX8_build 45 = .ok (.getfield 43, 3) := by decide +kernel
theorem dX8_build_48 : decode cX8_build 48 = .ok (.iconst 0, 1) := by decide +kernel
theorem dX8_build_49 : decode cX8_build 49 = .ok (.iaload, 1) := by decide +kernel
theorem dX8_build_50 : decode cX8_build 50 = .ok (.istore_n 1, 1) := by decide +kernel
theorem dX8_build_51 : decode cX8_build 51 = .ok (.iconst 0, 1) := by decide +kernel
theorem dX8_build_52 : decode cX8_build 52 = .ok (.istore_n 2, 1) := by decide +kernel
theorem dX8_build_53 : decode cX8_build 53 = .ok (.iconst 0, 1) := by decide +kernel
theorem dX8_build_54 : decode cX8_build 54 = .ok (.istore_n 3, 1) := by decide +kernel
theorem dX8_build_55 : decode cX8_build 55 = .ok (.iload_n 3, 1) := by decide +kernel
theorem dX8_build_56 : decode cX8_build 56 = .ok (.iload_n 1, 1) := by decide +kernel
theorem dX8_build_57 : decode cX8_build 57 = .ok (.if_icmp .ge 45, 3) := by decide +kernel
theorem dX8_build_60 : decode cX8_build 60 = .ok (.aload_n 0, 1) := by decide +kernel
theorem dX8_build_61 : decode cX8_build 61 = .ok (.getfield 40, 3) := by decide +kernel
theorem dX8_build_64 : decode cX8_build 64 = .ok (.iload_n 2, 1) := by decide +kernel
theorem dX8_build_65 : decode cX8_build 65 = .ok (.iaload, 1) := by decide +kernel
theorem dX8_build_66 : decode cX8_build 66 = .ok (.istore 4, 2) := by decide +kernel
theorem dX8_build_68 : decode cX8_build 68 = .ok (.aload_n 0, 1) := by decide +kernel
theorem dX8_build_69 : decode cX8_build 69 = .ok (.iload 4, 2) := by decide +kernel
theorem dX8_build_71 : decode cX8_build 71 = .ok (.invokevirtual 106, 3) := by decide +kernel
theorem dX8_build_74 : decode cX8_build 74 = .ok (.ifCond .eq 18, 3) := by decide +kernel
theorem dX8_build_77 : decode cX8_build 77 = .ok (.aload_n 0, 1) := by decide +kernel
theorem dX8_build_78 : decode cX8_build 78 = .ok (.iload 4, 2) := by decide +kernel
theorem dX8_build_80 : decode cX8_build 80 = .ok (.iconst 1, 1) := by decide +kernel
theorem dX8_build_81 : decode cX8_build 81 = .ok (.invokevirtual 129, 3) := by decide +kernel
theorem dX8_build_84 : decode cX8_build 84 = .ok (.aload_n 0, 1) := by decide +kernel
theorem dX8_build_85 : decode cX8_build 85 = .ok (.iload_n 2, 1) := by decide +kernel
theorem dX8_build_86 : decode cX8_build 86 = .ok (.invokevirtual 133, 3) := by decide +kernel
theorem dX8_build_89 : decode cX8_build 89 = .ok (.goto 7, 3) := by decide +kernel
theorem dX8_build_92 : decode cX8_build 92 = .ok (.iload_n 2, 1) := by decide +kernel
theorem dX8_build_93 : decode cX8_build 93 = .ok (.iconst 1, 1) := by decide +kernel
theorem dX8_build_94 : decode cX8_build 94 = .ok (.iadd, 1) := by decide +kernel
theorem dX8_build_95 : decode cX8_build 95 = .ok (.istore_n 2, 1) := by decide +kernel
theorem dX8_build_96 : decode cX8_build 96 = .ok (.iinc 3 1, 3) := by decide +kernel
theorem dX8_build_99 : decode cX8_build 99 = .ok (.goto (-44), 3) := by decide +kernel
theorem dX8_build_102 : decode cX8_build 102 = .ok (.aload_n 0, 1) := by decide +kernel
theorem dX8_build_103 : decode cX8_build 103 = .ok (.getfield 43, 3) := by decide +kernel
theorem dX8_build_106 : decode cX8_build 106 = .ok (.iconst 0, 1) := by decide +kernel
theorem dX8_build_107 : decode cX8_build 107 = .ok (.iload_n 2, 1) := by decide +kernel
theorem dX8_build_108 : decode cX8_build 108 = .ok (.iastore, 1) := by decide +kernel
theorem dX8_build_109 : decode cX8_build 109 = .ok (.iload_n 2, 1) := by decide +kernel
theorem dX8_build_110 : decode cX8_build 110 = .ok (.ifCond .ne 8, 3) := by decide +kernel
theorem dX8_build_113 : decode cX8_build 113 = .ok (.aload_n 0, 1) := by decide +kernel
theorem dX8_build_114 : decode cX8_build 114 = .ok (.invokevirtual 137, 3) := by decide +kernel
theorem dX8_build_117 : decode cX8_build 117 = .ok (.return_, 1) := by decide +kernel
theorem dX8_build_118 : decode cX8_build 118 = .ok (.aload_n 0, 1) := by decide +kernel
theorem dX8_build_119 : decode cX8_build 119 = .ok (.iload_n 2, 1) := by decide +kernel
theorem dX8_build_120 : decode cX8_build 120 = .ok (.putfield 100, 3) := by decide +kernel
theorem dX8_build_123 : decode cX8_build 123 = .ok (.aload_n 0, 1) := by decide +kernel
theorem dX8_build_124 : decode cX8_build 124 = .ok (.invokevirtual 143, 3) := by decide +kernel
theorem dX8_build_127 : decode cX8_build 127 = .ok (.ifCond .ne 9, 3) := by decide +kernel
theorem dX8_build_130 : decode cX8_build 130 = .ok (.aload_n 0, 1) := by decide +kernel
theorem dX8_build_131 : decode cX8_build 131 = .ok (.iconst 2, 1) := by decide +kernel
theorem dX8_build_132 : decode cX8_build 132 = .ok (.invokevirtual 147, 3) := by decide +kernel
theorem dX8_build_135 : decode cX8_build 135 = .ok (.return_, 1) := by decide +kernel
theorem dX8_build_136 : decode cX8_build 136 = .ok (.iconst 0, 1) := by decide +kernel
theorem dX8_build_137 : decode cX8_build 137 = .ok (.istore_n 3, 1) := by decide +kernel
theorem dX8_build_138 : decode cX8_build 138 = .ok (.iload_n 3, 1) := by decide +kernel
theorem dX8_build_139 : decode cX8_build 139 = .ok (.iconst 4, 1) := by decide +kernel
theorem dX8_build_140 : decode cX8_build 140 = .ok (.if_icmp .ge 35, 3) := by decide +kernel
theorem dX8_build_143 : decode cX8_build 143 = .ok (.aload_n 0, 1) := by decide +kernel
theorem dX8_build_144 : decode cX8_build 144 = .ok (.getfield 46, 3) := by decide +kernel
theorem dX8_build_147 : decode cX8_build 147 = .ok (.iload_n 3, 1) := by decide +kernel
theorem dX8_build_148 : decode cX8_build 148 = .ok (.aload_n 0, 1) := by decide +kernel
theorem dX8_build_149 : decode cX8_build 149 = .ok (.iload_n 3, 1) := by decide +kernel
theorem dX8_build_150 : decode cX8_build 150 = .ok (.invokevirtual 123, 3) := by decide +kernel
theorem dX8_build_153 : decode cX8_build 153 = .ok (.ifCond .eq 7, 3) := by decide +kernel
theorem dX8_build_156 : decode cX8_build 156 = .ok (.iconst 1, 1) := by decide +kernel
theorem dX8_build_157 : decode cX8_build 157 = .ok (.goto 4, 3) := by decide +kernel
theorem dX8_build_160 : decode cX8_build 160 = .ok (.iconst 0, 1) := by decide +kernel
theorem dX8_build_161 : decode cX8_build 161 = .ok (.iastore, 1) := by decide +kernel
theorem dX8_build_162 : decode cX8_build 162 = .ok (.aload_n 0, 1) := by decide +kernel
theorem dX8_build_163 : decode cX8_build 163 = .ok (.getfield 49, 3) := by decide +kernel
theorem dX8_build_166 : decode cX8_build 166 = .ok (.iload_n 3, 1) := by decide +kernel
theorem dX8_build_167 : decode cX8_build 167 = .ok (.iconst 0, 1) := by decide +kernel
theorem dX8_build_168 : decode cX8_build 168 = .ok (.iastore, 1) := by decide +kernel
theorem dX8_build_169 : decode cX8_build 169 = .ok (.iinc 3 1, 3) := by decide +kernel
theorem dX8_build_172 : decode cX8_build 172 = .ok (.goto (-34), 3) := by decide +kernel
theorem dX8_build_175 : decode cX8_build 175 = .ok (.return_, 1) := by decide +kernel
theorem dX8_buildAll_0 : decode cX8_buildAll 0 = .ok (.iconst 0, 1) := by decide +kernel
theorem dX8_buildAll_1 : decode cX8_buildAll 1 = .ok (.istore_n 1, 1) := by decide +kernel
theorem dX8_buildAll_2 : decode cX8_buildAll 2 = .ok (.iload_n 1, 1) := by decide +kernel
theorem dX8_buildAll_3 : decode cX8_buildAll 3 = .ok (.sipush 1000, 3) := by decide +kernel
theorem dX8_buildAll_6 : decode cX8_buildAll 6 = .ok (.if_icmp .ge 27, 3) := by decide +kernel
theorem dX8_buildAll_9 : decode cX8_buildAll 9 = .ok (.aload_n 0, 1) := by decide +kernel
theorem dX8_buildAll_10 : decode cX8_buildAll 10 = .ok (.getfield 100, 3) := by decide +kernel
theorem dX8_buildAll_13 : decode cX8_buildAll 13 = .ok (.ifCond .ne 20, 3) := by decide +kernel
theorem dX8_buildAll_16 : decode cX8_buildAll 16 = .ok (.aload_n 0, 1) := by decide +kernel
theorem dX8_buildAll_17 : decode cX8_buildAll 17 = .ok (.getfield 94, 3) := by decide +kernel
theorem dX8_buildAll_20 : decode cX8_buildAll 20 = .ok (.ifCond .le 13, 3) := by decide +kernel
theorem dX8_buildAll_23 : decode cX8_buildAll 23 = .ok (.aload_n 0, 1) := by decide +kernel
theorem dX8_buildAll_24 : decode cX8_buildAll 24 = .ok (.invokevirtual 150, 3) := by decide +kernel
theorem dX8_buildAll_27 : decode cX8_buildAll 27 = .ok (.iinc 1 1, 3) := by decide +kernel
theorem dX8_buildAll_30 : decode cX8_buildAll 30 = .ok (.goto (-28), 3) := by decide +kernel
theorem dX8_buildAll_33 : decode cX8_buildAll 33 = .ok (.return_, 1) := by decide +kernel
theorem dX8_judge_0 : decode cX8_judge 0 = .ok (.aload_n 0, 1) := by decide +kernel
theorem dX8_judge_1 : decode cX8_judge 1 = .ok (.invokevirtual 140, 3) := by decide +kernel
theorem dX8_judge_4 : decode cX8_judge 4 = .ok (.iconst (-1), 1) := by decide +kernel
theorem dX8_judge_5 : decode cX8_judge 5 = .ok (.istore_n 1, 1) := by decide +kernel
theorem dX8_judge_6 : decode cX8_judge 6 = .ok (.iconst 1, 1) := by decide +kernel
theorem dX8_judge_7 : decode cX8_judge 7 = .ok (.istore_n 2, 1) := by decide +kernel
theorem dX8_judge_8 : decode cX8_judge 8 = .ok (.iconst 3, 1) := by decide +kernel
theorem dX8_judge_9 : decode cX8_judge 9 = .ok (.istore_n 3, 1) := by decide +kernel
theorem dX8_judge_10 : decode cX8_judge 10 = .ok (.iload_n 3, 1) := by decide +kernel
theorem dX8_judge_11 : decode cX8_judge 11 = .ok (.ifCond .lt 61, 3) := by decide +kernel
theorem dX8_judge_14 : decode cX8_judge 14 = .ok (.aload_n 0, 1) := by decide +kernel
theorem dX8_judge_15 : decode cX8_judge 15 = .ok (.iload_n 3, 1) := by decide +kernel
theorem dX8_judge_16 : decode cX8_judge 16 = .ok (.invokevirtual 120, 3) := by decide +kernel
theorem dX8_judge_19 : decode cX8_judge 19 = .ok (.ifCond .eq 17, 3) := by decide +kernel
theorem dX8_judge_22 : decode cX8_judge 22 = .ok (.aload_n 0, 1) := by decide +kernel
theorem dX8_judge_23 : decode cX8_judge 23 = .ok (.getfield 46, 3) := by decide +kernel
theorem dX8_judge_26 : decode cX8_judge 26 = .ok (.iload_n 3, 1) := by decide +kernel
theorem dX8_judge_27 : decode cX8_judge 27 = .ok (.iaload, 1) := by decide +kernel
theorem dX8_judge_28 : decode cX8_judge 28 = .ok (.iconst 3, 1) := by decide +kernel
theorem dX8_judge_29 : decode cX8_judge 29 = .ok (.if_icmp .ne 7, 3) := by decide +kernel
theorem dX8_judge_32 : decode cX8_judge 32 = .ok (.iload_n 3, 1) := by decide +kernel
theorem dX8_judge_33 : decode cX8_judge 33 = .ok (.goto 4, 3) := by decide +kernel
theorem dX8_judge_36 : decode cX8_judge 36 = .ok (.iload_n 1, 1) := by decide +kernel
theorem dX8_judge_37 : decode cX8_judge 37 = .ok (.istore_n 1, 1) := by decide +kernel
theorem dX8_judge_38 : decode cX8_judge 38 = .ok (.iload_n 2, 1) := by decide +kernel
theorem dX8_judge_39 : decode cX8_judge 39 = .ok (.ifCond .eq 25, 3) := by decide +kernel
theorem dX8_judge_42 : decode cX8_judge 42 = .ok (.aload_n 0, 1) := by decide +kernel
theorem dX8_judge_43 : decode cX8_judge 43 = .ok (.iload_n 3, 1) := by decide +kernel
theorem dX8_judge_44 : decode cX8_judge 44 = .ok (.invokevirtual 120, 3) := by decide +kernel
theorem dX8_judge_47 : decode cX8_judge 47 = .ok (.ifCond .eq 13, 3) := by decide +kernel
theorem dX8_judge_50 : decode cX8_judge 50 = .ok (.aload_n 0, 1) := by decide +kernel
theorem dX8_judge_51 : decode cX8_judge 51 = .ok (.getfield 46, 3) := by decide +kernel
theorem dX8_judge_54 : decode cX8_judge 54 = .ok (.iload_n 3, 1) := by decide +kernel
theorem dX8_judge_55 : decode cX8_judge 55 = .ok (.iaload, 1) := by decide +kernel
theorem dX8_judge_56 : decode cX8_judge 56 = .ok (.iconst 2, 1) := by decide +kernel
theorem dX8_judge_57 : decode cX8_judge 57 = .ok (.if_icmp .ne 7, 3) := by decide +kernel
theorem dX8_judge_60 : decode cX8_judge 60 = .ok (.iconst 1, 1) := by decide +kernel
theorem dX8_judge_61 : decode cX8_judge 61 = .ok (.goto 4, 3) := by decide +kernel
theorem dX8_judge_64 : decode cX8_judge 64 = .ok (.iconst 0, 1) := by decide +kernel
theorem dX8_judge_65 : decode cX8_judge 65 = .ok (.istore_n 2, 1) := by decide +kernel
theorem dX8_judge_66 : decode cX8_judge 66 = .ok (.iinc 3 (-1), 3) := by decide +kernel
theorem dX8_judge_69 : decode cX8_judge 69 = .ok (.goto (-59), 3) := by decide +kernel
theorem dX8_judge_72 : decode cX8_judge 72 = .ok (.iload_n 1, 1) := by decide +kernel
theorem dX8_judge_73 : decode cX8_judge 73 = .ok (.ifCond .lt 14, 3) := by decide +kernel
theorem dX8_judge_76 : decode cX8_judge 76 = .ok (.aload_n 0, 1) := by decide +kernel
theorem dX8_judge_77 : decode cX8_judge 77 = .ok (.bipush 10, 2) := by decide +kernel
theorem dX8_judge_79 : decode cX8_judge 79 = .ok (.iload_n 1, 1) := by decide +kernel
theorem dX8_judge_80 : decode cX8_judge 80 = .ok (.iadd, 1) := by decide +kernel
theorem dX8_judge_81 : decode cX8_judge 81 = .ok (.invokevirtual 147, 3) := by decide +kernel
theorem dX8_judge_84 : decode cX8_judge 84 = .ok (.goto 11, 3) := by decide +kernel
theorem dX8_judge_87 : decode cX8_judge 87 = .ok (.iload_n 2, 1) := by decide +kernel
theorem dX8_judge_88 : decode cX8_judge 88 = .ok (.ifCond .eq 7, 3) := by decide +kernel
theorem dX8_judge_91 : decode cX8_judge 91 = .ok (.aload_n 0, 1) := by decide +kernel
theorem dX8_judge_92 : decode cX8_judge 92 = .ok (.invokevirtual 153, 3) := by decide +kernel
theorem dX8_judge_95 : decode cX8_judge 95 = .ok (.return_, 1) := by decide +kernel
theorem dX8_endLeaseOn_0 : decode cX8_endLeaseOn 0 = .ok (.iconst 0, 1) := by decide +kernel
theorem dX8_endLeaseOn_1 : decode cX8_endLeaseOn 1 = .ok (.istore_n 2, 1) := by decide +kernel
theorem dX8_endLeaseOn_2 : decode cX8_endLeaseOn 2 = .ok (.iload_n 2, 1) := by decide +kernel
theorem dX8_endLeaseOn_3 : decode cX8_endLeaseOn 3 = .ok (.iconst 4, 1) := by decide +kernel
theorem dX8_endLeaseOn_4 : decode cX8_endLeaseOn 4 = .ok (.if_icmp .ge 35, 3) := by decide +kernel
theorem dX8_endLeaseOn_7 : decode cX8_endLeaseOn 7 = .ok (.aload_n 0, 1) := by decide +kernel
theorem dX8_endLeaseOn_8 : decode cX8_endLeaseOn 8 = .ok (.getfield 52, 3) := by decide +kernel
theorem dX8_endLeaseOn_11 : decode cX8_endLeaseOn 11 = .ok (.iload_n 2, 1) := by decide +kernel
theorem dX8_endLeaseOn_12 : decode cX8_endLeaseOn 12 = .ok (.aload_n 0, 1) := by decide +kernel
theorem dX8_endLeaseOn_13 : decode cX8_endLeaseOn 13 = .ok (.getfield 52, 3) := by decide +kernel
theorem dX8_endLeaseOn_16 : decode cX8_endLeaseOn 16 = .ok (.iload_n 2, 1) := by decide +kernel
theorem dX8_endLeaseOn_17 : decode cX8_endLeaseOn 17 = .ok (.iaload, 1) := by decide +kernel
theorem dX8_endLeaseOn_18 : decode cX8_endLeaseOn 18 = .ok (.iload_n 1, 1) := by decide +kernel
theorem dX8_endLeaseOn_19 : decode cX8_endLeaseOn 19 = .ok (.if_icmp .ne 7, 3) := by decide +kernel
theorem dX8_endLeaseOn_22 : decode cX8_endLeaseOn 22 = .ok (.iconst (-1), 1) := by decide +kernel
theorem dX8_endLeaseOn_23 : decode cX8_endLeaseOn 23 = .ok (.goto 9, 3) := by decide +kernel
theorem dX8_endLeaseOn_26 : decode cX8_endLeaseOn 26 = .ok (.aload_n 0, 1) := by decide +kernel
theorem dX8_endLeaseOn_27 : decode cX8_endLeaseOn 27 = .ok (.getfield 52, 3) := by decide +kernel
theorem dX8_endLeaseOn_30 : decode cX8_endLeaseOn 30 = .ok (.iload_n 2, 1) := by decide +kernel
theorem dX8_endLeaseOn_31 : decode cX8_endLeaseOn 31 = .ok (.iaload, 1) := by decide +kernel
theorem dX8_endLeaseOn_32 : decode cX8_endLeaseOn 32 = .ok (.iastore, 1) := by decide +kernel
theorem dX8_endLeaseOn_33 : decode cX8_endLeaseOn 33 = .ok (.iinc 2 1, 3) := by decide +kernel
theorem dX8_endLeaseOn_36 : decode cX8_endLeaseOn 36 = .ok (.goto (-34), 3) := by decide +kernel
theorem dX8_endLeaseOn_39 : decode cX8_endLeaseOn 39 = .ok (.return_, 1) := by decide +kernel
theorem dX8_settle_0 : decode cX8_settle 0 = .ok (.aload_n 0, 1) := by decide +kernel
theorem dX8_settle_1 : decode cX8_settle 1 = .ok (.getfield 46, 3) := by decide +kernel
theorem dX8_settle_4 : decode cX8_settle 4 = .ok (.iload_n 1, 1) := by decide +kernel
theorem dX8_settle_5 : decode cX8_settle 5 = .ok (.iload_n 2, 1) := by decide +kernel
theorem dX8_settle_6 : decode cX8_settle 6 = .ok (.ifCond .eq 7, 3) := by decide +kernel
theorem dX8_settle_9 : decode cX8_settle 9 = .ok (.iconst 2, 1) := by decide +kernel
theorem dX8_settle_10 : decode cX8_settle 10 = .ok (.goto 4, 3) := by decide +kernel
theorem dX8_settle_13 : decode cX8_settle 13 = .ok (.iconst 3, 1) := by decide +kernel
theorem dX8_settle_14 : decode cX8_settle 14 = .ok (.iastore, 1) := by decide +kernel
theorem dX8_settle_15 : decode cX8_settle 15 = .ok (.iload_n 2, 1) := by decide +kernel
theorem dX8_settle_16 : decode cX8_settle 16 = .ok (.ifCond .ne 49, 3) := by decide +kernel
theorem dX8_settle_19 : decode cX8_settle 19 = .ok (.aload_n 0, 1) := by decide +kernel
theorem dX8_settle_20 : decode cX8_settle 20 = .ok (.invokevirtual 140, 3) := by decide +kernel
theorem dX8_settle_23 : decode cX8_settle 23 = .ok (.aload_n 0, 1) := by decide +kernel
theorem dX8_settle_24 : decode cX8_settle 24 = .ok (.invokevirtual 117, 3) := by decide +kernel
theorem dX8_settle_27 : decode cX8_settle 27 = .ok (.iconst 0, 1) := by decide +kernel
theorem dX8_settle_28 : decode cX8_settle 28 = .ok (.istore_n 3, 1) := by decide +kernel
theorem dX8_settle_29 : decode cX8_settle 29 = .ok (.iload_n 3, 1) := by decide +kernel
theorem dX8_settle_30 : decode cX8_settle 30 = .ok (.iconst 4, 1) := by decide +kernel
theorem dX8_settle_31 : decode cX8_settle 31 = .ok (.if_icmp .ge 34, 3) := by decide +kernel
theorem dX8_settle_34 : decode cX8_settle 34 = .ok (.aload_n 0, 1) := by decide +kernel
theorem dX8_settle_35 : decode cX8_settle 35 = .ok (.getfield 61, 3) := by decide +kernel
theorem dX8_settle_38 : decode cX8_settle 38 = .ok (.iconst 4, 1) := by decide +kernel
theorem dX8_settle_39 : decode cX8_settle 39 = .ok (.iload_n 3, 1) := by decide +kernel
theorem dX8_settle_40 : decode cX8_settle 40 = .ok (.imul, 1) := by decide +kernel
theorem dX8_settle_41 : decode cX8_settle 41 = .ok (.iload_n 1, 1) := by decide +kernel
theorem dX8_settle_42 : decode cX8_settle 42 = .ok (.iadd, 1) := by decide +kernel
theorem dX8_settle_43 : decode cX8_settle 43 = .ok (.baload, 1) := by decide +kernel
theorem dX8_settle_44 : decode cX8_settle 44 = .ok (.ifCond .eq 15, 3) := by decide +kernel
theorem dX8_settle_47 : decode cX8_settle 47 = .ok (.aload_n 0, 1) := by decide +kernel
theorem dX8_settle_48 : decode cX8_settle 48 = .ok (.getfield 46, 3) := by decide +kernel
theorem dX8_settle_51 : decode cX8_settle 51 = .ok (.iload_n 3, 1) := by decide +kernel
theorem dX8_settle_52 : decode cX8_settle 52 = .ok (.iconst 3, 1) := by decide +kernel
theorem dX8_settle_53 : decode cX8_settle 53 = .ok (.iastore, 1) := by decide +kernel
theorem dX8_settle_54 : decode cX8_settle 54 = .ok (.aload_n 0, 1) := by decide +kernel
theorem dX8_settle_55 : decode cX8_settle 55 = .ok (.iload_n 3, 1) := by decide +kernel
theorem dX8_settle_56 : decode cX8_settle 56 = .ok (.invokevirtual 156, 3) := by decide +kernel
theorem dX8_settle_59 : decode cX8_settle 59 = .ok (.iinc 3 1, 3) := by decide +kernel
theorem dX8_settle_62 : decode cX8_settle 62 = .ok (.goto (-33), 3) := by decide +kernel
theorem dX8_settle_65 : decode cX8_settle 65 = .ok (.aload_n 0, 1) := by decide +kernel
theorem dX8_settle_66 : decode cX8_settle 66 = .ok (.invokevirtual 159, 3) := by decide +kernel
theorem dX8_settle_69 : decode cX8_settle 69 = .ok (.return_, 1) := by decide +kernel
theorem dX8_expire_0 : decode cX8_expire 0 = .ok (.aload_n 0, 1) := by decide +kernel
theorem dX8_expire_1 : decode cX8_expire 1 = .ok (.getfield 52, 3) := by decide +kernel
theorem dX8_expire_4 : decode cX8_expire 4 = .ok (.iload_n 1, 1) := by decide +kernel
theorem dX8_expire_5 : decode cX8_expire 5 = .ok (.iaload, 1) := by decide +kernel
theorem dX8_expire_6 : decode cX8_expire 6 = .ok (.istore_n 2, 1) := by decide +kernel
theorem dX8_expire_7 : decode cX8_expire 7 = .ok (.aload_n 0, 1) := by decide +kernel
theorem dX8_expire_8 : decode cX8_expire 8 = .ok (.getfield 52, 3) := by decide +kernel
theorem dX8_expire_11 : decode cX8_expire 11 = .ok (.iload_n 1, 1) := by decide +kernel
theorem dX8_expire_12 : decode cX8_expire 12 = .ok (.iconst (-1), 1) := by decide +kernel
theorem dX8_expire_13 : decode cX8_expire 13 = .ok (.iastore, 1) := by decide +kernel
theorem dX8_expire_14 : decode cX8_expire 14 = .ok (.aload_n 0, 1) := by decide +kernel
theorem dX8_expire_15 : decode cX8_expire 15 = .ok (.getfield 49, 3) := by decide +kernel
theorem dX8_expire_18 : decode cX8_expire 18 = .ok (.iload_n 2, 1) := by decide +kernel
theorem dX8_expire_19 : decode cX8_expire 19 = .ok (.iaload, 1) := by decide +kernel
theorem dX8_expire_20 : decode cX8_expire 20 = .ok (.aload_n 0, 1) := by decide +kernel
theorem dX8_expire_21 : decode cX8_expire 21 = .ok (.getfield 76, 3) := by decide +kernel
theorem dX8_expire_24 : decode cX8_expire 24 = .ok (.if_icmp .le 12, 3) := by decide +kernel
theorem dX8_expire_27 : decode cX8_expire 27 = .ok (.aload_n 0, 1) := by decide +kernel
theorem dX8_expire_28 : decode cX8_expire 28 = .ok (.iload_n 2, 1) := by decide +kernel
theorem dX8_expire_29 : decode cX8_expire 29 = .ok (.iconst 0, 1) := by decide +kernel
theorem dX8_expire_30 : decode cX8_expire 30 = .ok (.invokevirtual 162, 3) := by decide +kernel
theorem dX8_expire_33 : decode cX8_expire 33 = .ok (.goto 10, 3) := by decide +kernel
theorem dX8_expire_36 : decode cX8_expire 36 = .ok (.aload_n 0, 1) := by decide +kernel
theorem dX8_expire_37 : decode cX8_expire 37 = .ok (.getfield 46, 3) := by decide +kernel
theorem dX8_expire_40 : decode cX8_expire 40 = .ok (.iload_n 2, 1) := by decide +kernel
theorem dX8_expire_41 : decode cX8_expire 41 = .ok (.iconst 1, 1) := by decide +kernel
theorem dX8_expire_42 : decode cX8_expire 42 = .ok (.iastore, 1) := by decide +kernel
theorem dX8_expire_43 : decode cX8_expire 43 = .ok (.return_, 1) := by decide +kernel
theorem dX8_isChange_0 : decode cX8_isChange 0 = .ok (.iload_n 1, 1) := by decide +kernel
theorem dX8_isChange_1 : decode cX8_isChange 1 = .ok (.ifCond .lt 15, 3) := by decide +kernel
theorem dX8_isChange_4 : decode cX8_isChange 4 = .ok (.iload_n 1, 1) := by decide +kernel
theorem dX8_isChange_5 : decode cX8_isChange 5 = .ok (.aload_n 0, 1) := by decide +kernel
theorem dX8_isChange_6 : decode cX8_isChange 6 = .ok (.getfield 91, 3) := by decide +kernel
theorem dX8_isChange_9 : decode cX8_isChange 9 = .ok (.if_icmp .ge 7, 3) := by decide +kernel
theorem dX8_isChange_12 : decode cX8_isChange 12 = .ok (.iconst 1, 1) := by decide +kernel
theorem dX8_isChange_13 : decode cX8_isChange 13 = .ok (.goto 4, 3) := by decide +kernel
theorem dX8_isChange_16 : decode cX8_isChange 16 = .ok (.iconst 0, 1) := by decide +kernel
theorem dX8_isChange_17 : decode cX8_isChange 17 = .ok (.ireturn, 1) := by decide +kernel
theorem dX8_is_0 : decode cX8_is 0 = .ok (.aload_n 0, 1) := by decide +kernel
theorem dX8_is_1 : decode cX8_is 1 = .ok (.iload_n 1, 1) := by decide +kernel
theorem dX8_is_2 : decode cX8_is 2 = .ok (.invokevirtual 166, 3) := by decide +kernel
theorem dX8_is_5 : decode cX8_is 5 = .ok (.ifCond .eq 17, 3) := by decide +kernel
theorem dX8_is_8 : decode cX8_is 8 = .ok (.aload_n 0, 1) := by decide +kernel
theorem dX8_is_9 : decode cX8_is 9 = .ok (.getfield 31, 3) := by decide +kernel
theorem dX8_is_12 : decode cX8_is 12 = .ok (.iload_n 1, 1) := by decide +kernel
theorem dX8_is_13 : decode cX8_is 13 = .ok (.iaload, 1) := by decide +kernel
theorem dX8_is_14 : decode cX8_is 14 = .ok (.iload_n 2, 1) := by decide +kernel
theorem dX8_is_15 : decode cX8_is 15 = .ok (.if_icmp .ne 7, 3) := by decide +kernel
theorem dX8_is_18 : decode cX8_is 18 = .ok (.iconst 1, 1) := by decide +kernel
theorem dX8_is_19 : decode cX8_is 19 = .ok (.goto 4, 3) := by decide +kernel
theorem dX8_is_22 : decode cX8_is 22 = .ok (.iconst 0, 1) := by decide +kernel
theorem dX8_is_23 : decode cX8_is 23 = .ok (.ireturn, 1) := by decide +kernel
theorem dX8_noReviews_0 : decode cX8_noReviews 0 = .ok (.iconst 0, 1) := by decide +kernel
theorem dX8_noReviews_1 : decode cX8_noReviews 1 = .ok (.istore_n 2, 1) := by decide +kernel
theorem dX8_noReviews_2 : decode cX8_noReviews 2 = .ok (.iload_n 2, 1) := by decide +kernel
theorem dX8_noReviews_3 : decode cX8_noReviews 3 = .ok (.bipush 8, 2) := by decide +kernel
theorem dX8_noReviews_5 : decode cX8_noReviews 5 = .ok (.if_icmp .ge 21, 3) := by decide +kernel
theorem dX8_noReviews_8 : decode cX8_noReviews 8 = .ok (.aload_n 0, 1) := by decide +kernel
theorem dX8_noReviews_9 : decode cX8_noReviews 9 = .ok (.getfield 37, 3) := by decide +kernel
theorem dX8_noReviews_12 : decode cX8_noReviews 12 = .ok (.bipush 8, 2) := by decide +kernel
theorem dX8_noReviews_14 : decode cX8_noReviews 14 = .ok (.iload_n 1, 1) := by decide +kernel
theorem dX8_noReviews_15 : decode cX8_noReviews 15 = .ok (.imul, 1) := by decide +kernel
theorem dX8_noReviews_16 : decode cX8_noReviews 16 = .ok (.iload_n 2, 1) := by decide +kernel
theorem dX8_noReviews_17 : decode cX8_noReviews 17 = .ok (.iadd, 1) := by decide +kernel
theorem dX8_noReviews_18 : decode cX8_noReviews 18 = .ok (.iconst 0, 1) := by decide +kernel
theorem dX8_noReviews_19 : decode cX8_noReviews 19 = .ok (.iastore, 1) := by decide +kernel
theorem dX8_noReviews_20 : decode cX8_noReviews 20 = .ok (.iinc 2 1, 3) := by decide +kernel
theorem dX8_noReviews_23 : decode cX8_noReviews 23 = .ok (.goto (-21), 3) := by decide +kernel
theorem dX8_noReviews_26 : decode cX8_noReviews 26 = .ok (.return_, 1) := by decide +kernel
theorem dX8_doOpen_0 : decode cX8_doOpen 0 = .ok (.aload_n 0, 1) := by decide +kernel
theorem dX8_doOpen_1 : decode cX8_doOpen 1 = .ok (.getfield 91, 3) := by decide +kernel
theorem dX8_doOpen_4 : decode cX8_doOpen 4 = .ok (.bipush 16, 2) := by decide +kernel
theorem dX8_doOpen_6 : decode cX8_doOpen 6 = .ok (.if_icmp .lt 5, 3) := by decide +kernel
theorem dX8_doOpen_9 : decode cX8_doOpen 9 = .ok (.iconst (-1), 1) := by decide +kernel
theorem dX8_doOpen_10 : decode cX8_doOpen 10 = .ok (.ireturn, 1) := by decide +kernel
theorem dX8_doOpen_11 : decode cX8_doOpen 11 = .ok (.iconst 0, 1) := by decide +kernel
theorem dX8_doOpen_12 : decode cX8_doOpen 12 = .ok (.istore_n 1, 1) := by decide +kernel
theorem dX8_doOpen_13 : decode cX8_doOpen 13 = .ok (.iload_n 1, 1) := by decide +kernel
theorem dX8_doOpen_14 : decode cX8_doOpen 14 = .ok (.bipush 6, 2) := by decide +kernel
theorem dX8_doOpen_16 : decode cX8_doOpen 16 = .ok (.if_icmp .ge 49, 3) := by decide +kernel
theorem dX8_doOpen_19 : decode cX8_doOpen 19 = .ok (.aload_n 0, 1) := by decide +kernel
theorem dX8_doOpen_20 : decode cX8_doOpen 20 = .ok (.getfield 25, 3) := by decide +kernel
theorem dX8_doOpen_23 : decode cX8_doOpen 23 = .ok (.bipush 6, 2) := by decide +kernel
theorem dX8_doOpen_25 : decode cX8_doOpen 25 = .ok (.aload_n 0, 1) := by decide +kernel
theorem dX8_doOpen_26 : decode cX8_doOpen 26 = .ok (.getfield 91, 3) := by decide +kernel
theorem dX8_doOpen_29 : decode cX8_doOpen 29 = .ok (.imul, 1) := by decide +kernel
theorem dX8_doOpen_30 : decode cX8_doOpen 30 = .ok (.iload_n 1, 1) := by decide +kernel
theorem dX8_doOpen_31 : decode cX8_doOpen 31 = .ok (.iadd, 1) := by decide +kernel
theorem dX8_doOpen_32 : decode cX8_doOpen 32 = .ok (.aload_n 0, 1) := by decide +kernel
theorem dX8_doOpen_33 : decode cX8_doOpen 33 = .ok (.getfield 22, 3) := by decide +kernel
theorem dX8_doOpen_36 : decode cX8_doOpen 36 = .ok (.iload_n 1, 1) := by decide +kernel
theorem dX8_doOpen_37 : decode cX8_doOpen 37 = .ok (.iaload, 1) := by decide +kernel
theorem dX8_doOpen_38 : decode cX8_doOpen 38 = .ok (.iastore, 1) := by decide +kernel
theorem dX8_doOpen_39 : decode cX8_doOpen 39 = .ok (.aload_n 0, 1) := by decide +kernel
theorem dX8_doOpen_40 : decode cX8_doOpen 40 = .ok (.getfield 28, 3) := by decide +kernel
theorem dX8_doOpen_43 : decode cX8_doOpen 43 = .ok (.bipush 6, 2) := by decide +kernel
theorem dX8_doOpen_45 : decode cX8_doOpen 45 = .ok (.aload_n 0, 1) := by decide +kernel
theorem dX8_doOpen_46 : decode cX8_doOpen 46 = .ok (.getfield 91, 3) := by decide +kernel
theorem dX8_doOpen_49 : decode cX8_doOpen 49 = .ok (.imul, 1) := by decide +kernel
theorem dX8_doOpen_50 : decode cX8_doOpen 50 = .ok (.iload_n 1, 1) := by decide +kernel
theorem dX8_doOpen_51 : decode cX8_doOpen 51 = .ok (.iadd, 1) := by decide +kernel
theorem dX8_doOpen_52 : decode cX8_doOpen 52 = .ok (.aload_n 0, 1) := by decide +kernel
theorem dX8_doOpen_53 : decode cX8_doOpen 53 = .ok (.getfield 22, 3) := by decide +kernel
theorem dX8_doOpen_56 : decode cX8_doOpen 56 = .ok (.iload_n 1, 1) := by decide +kernel
theorem dX8_doOpen_57 : decode cX8_doOpen 57 = .ok (.iaload, 1) := by decide +kernel
theorem dX8_doOpen_58 : decode cX8_doOpen 58 = .ok (.iastore, 1) := by decide +kernel
theorem dX8_doOpen_59 : decode cX8_doOpen 59 = .ok (.iinc 1 1, 3) := by decide +kernel
theorem dX8_doOpen_62 : decode cX8_doOpen 62 = .ok (.goto (-49), 3) := by decide +kernel
theorem dX8_doOpen_65 : decode cX8_doOpen 65 = .ok (.aload_n 0, 1) := by decide +kernel
theorem dX8_doOpen_66 : decode cX8_doOpen 66 = .ok (.getfield 31, 3) := by decide +kernel
theorem dX8_doOpen_69 : decode cX8_doOpen 69 = .ok (.aload_n 0, 1) := by decide +kernel
theorem dX8_doOpen_70 : decode cX8_doOpen 70 = .ok (.getfield 91, 3) := by decide +kernel
theorem dX8_doOpen_73 : decode cX8_doOpen 73 = .ok (.iconst 0, 1) := by decide +kernel
theorem dX8_doOpen_74 : decode cX8_doOpen 74 = .ok (.iastore, 1) := by decide +kernel
theorem dX8_doOpen_75 : decode cX8_doOpen 75 = .ok (.aload_n 0, 1) := by decide +kernel
theorem dX8_doOpen_76 : decode cX8_doOpen 76 = .ok (.getfield 34, 3) := by decide +kernel
theorem dX8_doOpen_79 : decode cX8_doOpen 79 = .ok (.aload_n 0, 1) := by decide +kernel
theorem dX8_doOpen_80 : decode cX8_doOpen 80 = .ok (.getfield 91, 3) := by decide +kernel
theorem dX8_doOpen_83 : decode cX8_doOpen 83 = .ok (.iconst 0, 1) := by decide +kernel
theorem dX8_doOpen_84 : decode cX8_doOpen 84 = .ok (.iastore, 1) := by decide +kernel
theorem dX8_doOpen_85 : decode cX8_doOpen 85 = .ok (.aload_n 0, 1) := by decide +kernel
theorem dX8_doOpen_86 : decode cX8_doOpen 86 = .ok (.aload_n 0, 1) := by decide +kernel
theorem dX8_doOpen_87 : decode cX8_doOpen 87 = .ok (.getfield 91, 3) := by decide +kernel
theorem dX8_doOpen_90 : decode cX8_doOpen 90 = .ok (.invokevirtual 169, 3) := by decide +kernel
theorem dX8_doOpen_93 : decode cX8_doOpen 93 = .ok (.aload_n 0, 1) := by decide +kernel
theorem dX8_doOpen_94 : decode cX8_doOpen 94 = .ok (.aload_n 0, 1) := by decide +kernel
theorem dX8_doOpen_95 : decode cX8_doOpen 95 = .ok (.getfield 91, 3) := by decide +kernel
theorem dX8_doOpen_98 : decode cX8_doOpen 98 = .ok (.iconst 1, 1) := by decide +kernel
theorem dX8_doOpen_99 : decode cX8_doOpen 99 = .ok (.iadd, 1) := by decide +kernel
theorem dX8_doOpen_100 : decode cX8_doOpen 100 = .ok (.putfield 91, 3) := by decide +kernel
theorem dX8_doOpen_103 : decode cX8_doOpen 103 = .ok (.aload_n 0, 1) := by decide +kernel
theorem dX8_doOpen_104 : decode cX8_doOpen 104 = .ok (.getfield 91, 3) := by decide +kernel
theorem dX8_doOpen_107 : decode cX8_doOpen 107 = .ok (.iconst 1, 1) := by decide +kernel
theorem dX8_doOpen_108 : decode cX8_doOpen 108 = .ok (.isub, 1) := by decide +kernel
theorem dX8_doOpen_109 : decode cX8_doOpen 109 = .ok (.ireturn, 1) := by decide +kernel
theorem dX8_doPush_0 : decode cX8_doPush 0 = .ok (.aload_n 0, 1) := by decide +kernel
theorem dX8_doPush_1 : decode cX8_doPush 1 = .ok (.iload_n 1, 1) := by decide +kernel
theorem dX8_doPush_2 : decode cX8_doPush 2 = .ok (.iconst 0, 1) := by decide +kernel
theorem dX8_doPush_3 : decode cX8_doPush 3 = .ok (.invokevirtual 172, 3) := by decide +kernel
theorem dX8_doPush_6 : decode cX8_doPush 6 = .ok (.ifCond .eq 12, 3) := by decide +kernel
theorem dX8_doPush_9 : decode cX8_doPush 9 = .ok (.iload_n 2, 1) := by decide +kernel
theorem dX8_doPush_10 : decode cX8_doPush 10 = .ok (.ifCond .lt 8, 3) := by decide +kernel
theorem dX8_doPush_13 : decode cX8_doPush 13 = .ok (.iload_n 2, 1) := by decide +kernel
theorem dX8_doPush_14 : decode cX8_doPush 14 = .ok (.iconst 5, 1) := by decide +kernel
theorem dX8_doPush_15 : decode cX8_doPush 15 = .ok (.if_icmp .le 5, 3) := by decide +kernel
theorem dX8_doPush_18 : decode cX8_doPush 18 = .ok (.iconst (-1), 1) := by decide +kernel
theorem dX8_doPush_19 : decode cX8_doPush 19 = .ok (.ireturn, 1) := by decide +kernel
theorem dX8_doPush_20 : decode cX8_doPush 20 = .ok (.aload_n 0, 1) := by decide +kernel
theorem dX8_doPush_21 : decode cX8_doPush 21 = .ok (.getfield 28, 3) := by decide +kernel
theorem dX8_doPush_24 : decode cX8_doPush 24 = .ok (.bipush 6, 2) := by decide +kernel
theorem dX8_doPush_26 : decode cX8_doPush 26 = .ok (.iload_n 1, 1) := by decide +kernel
theorem dX8_doPush_27 : decode cX8_doPush 27 = .ok (.imul, 1) := by decide +kernel
theorem dX8_doPush_28 : decode cX8_doPush 28 = .ok (.iload_n 2, 1) := by decide +kernel
theorem dX8_doPush_29 : decode cX8_doPush 29 = .ok (.iadd, 1) := by decide +kernel
theorem dX8_doPush_30 : decode cX8_doPush 30 = .ok (.iload_n 3, 1) := by decide +kernel
theorem dX8_doPush_31 : decode cX8_doPush 31 = .ok (.iastore, 1) := by decide +kernel
theorem dX8_doPush_32 : decode cX8_doPush 32 = .ok (.aload_n 0, 1) := by decide +kernel
theorem dX8_doPush_33 : decode cX8_doPush 33 = .ok (.iload_n 1, 1) := by decide +kernel
theorem dX8_doPush_34 : decode cX8_doPush 34 = .ok (.invokevirtual 169, 3) := by decide +kernel
theorem dX8_doPush_37 : decode cX8_doPush 37 = .ok (.iconst 1, 1) := by decide +kernel
theorem dX8_doPush_38 : decode cX8_doPush 38 = .ok (.ireturn, 1) := by decide +kernel
theorem dX8_doReview_0 : decode cX8_doReview 0 = .ok (.aload_n 0, 1) := by decide +kernel
theorem dX8_doReview_1 : decode cX8_doReview 1 = .ok (.iload_n 1, 1) := by decide +kernel
theorem dX8_doReview_2 : decode cX8_doReview 2 = .ok (.iconst 0, 1) := by decide +kernel
theorem dX8_doReview_3 : decode cX8_doReview 3 = .ok (.invokevirtual 172, 3) := by decide +kernel
theorem dX8_doReview_6 : decode cX8_doReview 6 = .ok (.ifCond .eq 13, 3) := by decide +kernel
theorem dX8_doReview_9 : decode cX8_doReview 9 = .ok (.iload_n 2, 1) := by decide +kernel
theorem dX8_doReview_10 : decode cX8_doReview 10 = .ok (.ifCond .lt 9, 3) := by decide +kernel
theorem dX8_doReview_13 : decode cX8_doReview 13 = .ok (.iload_n 2, 1) := by decide +kernel
theorem dX8_doReview_14 : decode cX8_doReview 14 = .ok (.bipush 7, 2) := by decide +kernel
theorem dX8_doReview_16 : decode cX8_doReview 16 = .ok (.if_icmp .le 5, 3) := by decide +kernel
theorem dX8_doReview_19 : decode cX8_doReview 19 = .ok (.iconst (-1), 1) := by decide +kernel
theorem dX8_doReview_20 : decode cX8_doReview 20 = .ok (.ireturn, 1) := by decide +kernel
theorem dX8_doReview_21 : decode cX8_doReview 21 = .ok (.aload_n 0, 1) := by decide +kernel
theorem dX8_doReview_22 : decode cX8_doReview 22 = .ok (.getfield 37, 3) := by decide +kernel
theorem dX8_doReview_25 : decode cX8_doReview 25 = .ok (.bipush 8, 2) := by decide +kernel
theorem dX8_doReview_27 : decode cX8_doReview 27 = .ok (.iload_n 1, 1) := by decide +kernel
theorem dX8_doReview_28 : decode cX8_doReview 28 = .ok (.imul, 1) := by decide +kernel
theorem dX8_doReview_29 : decode cX8_doReview 29 = .ok (.iload_n 2, 1) := by decide +kernel
theorem dX8_doReview_30 : decode cX8_doReview 30 = .ok (.iadd, 1) := by decide +kernel
theorem dX8_doReview_31 : decode cX8_doReview 31 = .ok (.iload_n 3, 1) := by decide +kernel
theorem dX8_doReview_32 : decode cX8_doReview 32 = .ok (.iastore, 1) := by decide +kernel
theorem dX8_doReview_33 : decode cX8_doReview 33 = .ok (.iconst 1, 1) := by decide +kernel
theorem dX8_doReview_34 : decode cX8_doReview 34 = .ok (.ireturn, 1) := by decide +kernel
theorem dX8_doClose_0 : decode cX8_doClose 0 = .ok (.aload_n 0, 1) := by decide +kernel
theorem dX8_doClose_1 : decode cX8_doClose 1 = .ok (.iload_n 1, 1) := by decide +kernel
theorem dX8_doClose_2 : decode cX8_doClose 2 = .ok (.iconst 0, 1) := by decide +kernel
theorem dX8_doClose_3 : decode cX8_doClose 3 = .ok (.invokevirtual 172, 3) := by decide +kernel
theorem dX8_doClose_6 : decode cX8_doClose 6 = .ok (.ifCond .ne 14, 3) := by decide +kernel
theorem dX8_doClose_9 : decode cX8_doClose 9 = .ok (.aload_n 0, 1) := by decide +kernel
theorem dX8_doClose_10 : decode cX8_doClose 10 = .ok (.iload_n 1, 1) := by decide +kernel
theorem dX8_doClose_11 : decode cX8_doClose 11 = .ok (.iconst 3, 1) := by decide +kernel
theorem dX8_doClose_12 : decode cX8_doClose 12 = .ok (.invokevirtual 172, 3) := by decide +kernel
theorem dX8_doClose_15 : decode cX8_doClose 15 = .ok (.ifCond .ne 5, 3) := by decide +kernel
theorem dX8_doClose_18 : decode cX8_doClose 18 = .ok (.iconst (-1), 1) := by decide +kernel
theorem dX8_doClose_19 : decode cX8_doClose 19 = .ok (.ireturn, 1) := by decide +kernel
theorem dX8_doClose_20 : decode cX8_doClose 20 = .ok (.aload_n 0, 1) := by decide +kernel
theorem dX8_doClose_21 : decode cX8_doClose 21 = .ok (.getfield 31, 3) := by decide +kernel
theorem dX8_doClose_24 : decode cX8_doClose 24 = .ok (.iload_n 1, 1) := by decide +kernel
theorem dX8_doClose_25 : decode cX8_doClose 25 = .ok (.iconst 4, 1) := by decide +kernel
theorem dX8_doClose_26 : decode cX8_doClose 26 = .ok (.iastore, 1) := by decide +kernel
theorem dX8_doClose_27 : decode cX8_doClose 27 = .ok (.aload_n 0, 1) := by decide +kernel
theorem dX8_doClose_28 : decode cX8_doClose 28 = .ok (.getfield 34, 3) := by decide +kernel
theorem dX8_doClose_31 : decode cX8_doClose 31 = .ok (.iload_n 1, 1) := by decide +kernel
theorem dX8_doClose_32 : decode cX8_doClose 32 = .ok (.iconst 0, 1) := by decide +kernel
theorem dX8_doClose_33 : decode cX8_doClose 33 = .ok (.iastore, 1) := by decide +kernel
theorem dX8_doClose_34 : decode cX8_doClose 34 = .ok (.iconst 1, 1) := by decide +kernel
theorem dX8_doClose_35 : decode cX8_doClose 35 = .ok (.ireturn, 1) := by decide +kernel
theorem dX8_count_0 : decode cX8_count 0 = .ok (.iconst 0, 1) := by decide +kernel
theorem dX8_count_1 : decode cX8_count 1 = .ok (.istore_n 3, 1) := by decide +kernel
theorem dX8_count_2 : decode cX8_count 2 = .ok (.iconst 0, 1) := by decide +kernel
theorem dX8_count_3 : decode cX8_count 3 = .ok (.istore 4, 2) := by decide +kernel
theorem dX8_count_5 : decode cX8_count 5 = .ok (.iload 4, 2) := by decide +kernel
theorem dX8_count_7 : decode cX8_count 7 = .ok (.bipush 8, 2) := by decide +kernel
theorem dX8_count_9 : decode cX8_count 9 = .ok (.if_icmp .ge 33, 3) := by decide +kernel
theorem dX8_count_12 : decode cX8_count 12 = .ok (.aload_n 0, 1) := by decide +kernel
theorem dX8_count_13 : decode cX8_count 13 = .ok (.getfield 37, 3) := by decide +kernel
theorem dX8_count_16 : decode cX8_count 16 = .ok (.bipush 8, 2) := by decide +kernel
theorem dX8_count_18 : decode cX8_count 18 = .ok (.iload_n 1, 1) := by decide +kernel
theorem dX8_count_19 : decode cX8_count 19 = .ok (.imul, 1) := by decide +kernel
theorem dX8_count_20 : decode cX8_count 20 = .ok (.iload 4, 2) := by decide +kernel
theorem dX8_count_22 : decode cX8_count 22 = .ok (.iadd, 1) := by decide +kernel
theorem dX8_count_23 : decode cX8_count 23 = .ok (.iaload, 1) := by decide +kernel
theorem dX8_count_24 : decode cX8_count 24 = .ok (.iload_n 2, 1) := by decide +kernel
theorem dX8_count_25 : decode cX8_count 25 = .ok (.if_icmp .ne 9, 3) := by decide +kernel
theorem dX8_count_28 : decode cX8_count 28 = .ok (.iload_n 3, 1) := by decide +kernel
theorem dX8_count_29 : decode cX8_count 29 = .ok (.iconst 1, 1) := by decide +kernel
theorem dX8_count_30 : decode cX8_count 30 = .ok (.iadd, 1) := by decide +kernel
theorem dX8_count_31 : decode cX8_count 31 = .ok (.goto 4, 3) := by decide +kernel
theorem dX8_count_34 : decode cX8_count 34 = .ok (.iload_n 3, 1) := by decide +kernel
theorem dX8_count_35 : decode cX8_count 35 = .ok (.istore_n 3, 1) := by decide +kernel
theorem dX8_count_36 : decode cX8_count 36 = .ok (.iinc 4 1, 3) := by decide +kernel
theorem dX8_count_39 : decode cX8_count 39 = .ok (.goto (-34), 3) := by decide +kernel
theorem dX8_count_42 : decode cX8_count 42 = .ok (.iload_n 3, 1) := by decide +kernel
theorem dX8_count_43 : decode cX8_count 43 = .ok (.ireturn, 1) := by decide +kernel
theorem dX8_doEnqueue_0 : decode cX8_doEnqueue 0 = .ok (.aload_n 0, 1) := by decide +kernel
theorem dX8_doEnqueue_1 : decode cX8_doEnqueue 1 = .ok (.iload_n 1, 1) := by decide +kernel
theorem dX8_doEnqueue_2 : decode cX8_doEnqueue 2 = .ok (.iconst 0, 1) := by decide +kernel
theorem dX8_doEnqueue_3 : decode cX8_doEnqueue 3 = .ok (.invokevirtual 172, 3) := by decide +kernel
theorem dX8_doEnqueue_6 : decode cX8_doEnqueue 6 = .ok (.ifCond .eq 25, 3) := by decide +kernel
theorem dX8_doEnqueue_9 : decode cX8_doEnqueue 9 = .ok (.aload_n 0, 1) := by decide +kernel
theorem dX8_doEnqueue_10 : decode cX8_doEnqueue 10 = .ok (.iload_n 1, 1) := by decide +kernel
theorem dX8_doEnqueue_11 : decode cX8_doEnqueue 11 = .ok (.iconst 1, 1) := by decide +kernel
theorem dX8_doEnqueue_12 : decode cX8_doEnqueue 12 = .ok (.invokevirtual 175, 3) := by decide +kernel
theorem dX8_doEnqueue_15 : decode cX8_doEnqueue 15 = .ok (.aload_n 0, 1) := by decide +kernel
theorem dX8_doEnqueue_16 : decode cX8_doEnqueue 16 = .ok (.getfield 69, 3) := by decide +kernel
theorem dX8_doEnqueue_19 : decode cX8_doEnqueue 19 = .ok (.if_icmp .lt 12, 3) := by decide +kernel
theorem dX8_doEnqueue_22 : decode cX8_doEnqueue 22 = .ok (.aload_n 0, 1) := by decide +kernel
theorem dX8_doEnqueue_23 : decode cX8_doEnqueue 23 = .ok (.iload_n 1, 1) := by decide +kernel
theorem dX8_doEnqueue_24 : decode cX8_doEnqueue 24 = .ok (.iconst 2, 1) := by decide +kernel
theorem dX8_doEnqueue_25 : decode cX8_doEnqueue 25 = .ok (.invokevirtual 175, 3) := by decide +kernel
theorem dX8_doEnqueue_28 : decode cX8_doEnqueue 28 = .ok (.ifCond .le 5, 3) := by decide +kernel
theorem dX8_doEnqueue_31 : decode cX8_doEnqueue 31 = .ok (.iconst (-1), 1) := by decide +kernel
theorem dX8_doEnqueue_32 : decode cX8_doEnqueue 32 = .ok (.ireturn, 1) := by decide +kernel
theorem dX8_doEnqueue_33 : decode cX8_doEnqueue 33 = .ok (.aload_n 0, 1) := by decide +kernel
theorem dX8_doEnqueue_34 : decode cX8_doEnqueue 34 = .ok (.getfield 31, 3) := by decide +kernel
theorem dX8_doEnqueue_37 : decode cX8_doEnqueue 37 = .ok (.iload_n 1, 1) := by decide +kernel
theorem dX8_doEnqueue_38 : decode cX8_doEnqueue 38 = .ok (.iconst 1, 1) := by decide +kernel
theorem dX8_doEnqueue_39 : decode cX8_doEnqueue 39 = .ok (.iastore, 1) := by decide +kernel
theorem dX8_doEnqueue_40 : decode cX8_doEnqueue 40 = .ok (.aload_n 0, 1) := by decide +kernel
theorem dX8_doEnqueue_41 : decode cX8_doEnqueue 41 = .ok (.getfield 40, 3) := by decide +kernel
theorem dX8_doEnqueue_44 : decode cX8_doEnqueue 44 = .ok (.aload_n 0, 1) := by decide +kernel
theorem dX8_doEnqueue_45 : decode cX8_doEnqueue 45 = .ok (.getfield 94, 3) := by decide +kernel
theorem dX8_doEnqueue_48 : decode cX8_doEnqueue 48 = .ok (.iload_n 1, 1) := by decide +kernel
theorem dX8_doEnqueue_49 : decode cX8_doEnqueue 49 = .ok (.iastore, 1) := by decide +kernel
theorem dX8_doEnqueue_50 : decode cX8_doEnqueue 50 = .ok (.aload_n 0, 1) := by decide +kernel
theorem dX8_doEnqueue_51 : decode cX8_doEnqueue 51 = .ok (.aload_n 0, 1) := by decide +kernel
theorem dX8_doEnqueue_52 : decode cX8_doEnqueue 52 = .ok (.getfield 94, 3) := by decide +kernel
theorem dX8_doEnqueue_55 : decode cX8_doEnqueue 55 = .ok (.iconst 1, 1) := by decide +kernel
theorem dX8_doEnqueue_56 : decode cX8_doEnqueue 56 = .ok (.iadd, 1) := by decide +kernel
theorem dX8_doEnqueue_57 : decode cX8_doEnqueue 57 = .ok (.putfield 94, 3) := by decide +kernel
theorem dX8_doEnqueue_60 : decode cX8_doEnqueue 60 = .ok (.iconst 1, 1) := by decide +kernel
theorem dX8_doEnqueue_61 : decode cX8_doEnqueue 61 = .ok (.ireturn, 1) := by decide +kernel
theorem dX8_doRebase_0 : decode cX8_doRebase 0 = .ok (.aload_n 0, 1) := by decide +kernel
theorem dX8_doRebase_1 : decode cX8_doRebase 1 = .ok (.invokevirtual 103, 3) := by decide +kernel
theorem dX8_doRebase_4 : decode cX8_doRebase 4 = .ok (.aload_n 0, 1) := by decide +kernel
theorem dX8_doRebase_5 : decode cX8_doRebase 5 = .ok (.iload_n 1, 1) := by decide +kernel
theorem dX8_doRebase_6 : decode cX8_doRebase 6 = .ok (.iconst 0, 1) := by decide +kernel
theorem dX8_doRebase_7 : decode cX8_doRebase 7 = .ok (.invokevirtual 172, 3) := by decide +kernel
theorem dX8_doRebase_10 : decode cX8_doRebase 10 = .ok (.ifCond .ne 12, 3) := by decide +kernel
theorem dX8_doRebase_13 : decode cX8_doRebase 13 = .ok (.aload_n 0, 1) := by decide +kernel
theorem dX8_doRebase_14 : decode cX8_doRebase 14 = .ok (.iload_n 1, 1) := by decide +kernel
theorem dX8_doRebase_15 : decode cX8_doRebase 15 = .ok (.iconst 3, 1) := by decide +kernel
theorem dX8_doRebase_16 : decode cX8_doRebase 16 = .ok (.invokevirtual 172, 3) := by decide +kernel
theorem dX8_doRebase_19 : decode cX8_doRebase 19 = .ok (.ifCond .eq 11, 3) := by decide +kernel
theorem dX8_doRebase_22 : decode cX8_doRebase 22 = .ok (.aload_n 0, 1) := by decide +kernel
theorem dX8_doRebase_23 : decode cX8_doRebase 23 = .ok (.iload_n 1, 1) := by decide +kernel
theorem dX8_doRebase_24 : decode cX8_doRebase 24 = .ok (.invokevirtual 106, 3) := by decide +kernel
theorem dX8_doRebase_27 : decode cX8_doRebase 27 = .ok (.ifCond .eq 5, 3) := by decide +kernel
theorem dX8_doRebase_30 : decode cX8_doRebase 30 = .ok (.iconst (-1), 1) := by decide +kernel
theorem dX8_doRebase_31 : decode cX8_doRebase 31 = .ok (.ireturn, 1) := by decide +kernel
theorem dX8_doRebase_32 : decode cX8_doRebase 32 = .ok (.iconst 0, 1) := by decide +kernel
theorem dX8_doRebase_33 : decode cX8_doRebase 33 = .ok (.istore_n 2, 1) := by decide +kernel
theorem dX8_doRebase_34 : decode cX8_doRebase 34 = .ok (.iload_n 2, 1) := by decide +kernel
theorem dX8_doRebase_35 : decode cX8_doRebase 35 = .ok (.bipush 6, 2) := by decide +kernel
theorem dX8_doRebase_37 : decode cX8_doRebase 37 = .ok (.if_icmp .ge 43, 3) := by decide +kernel
theorem dX8_doRebase_40 : decode cX8_doRebase 40 = .ok (.aload_n 0, 1) := by decide +kernel
theorem dX8_doRebase_41 : decode cX8_doRebase 41 = .ok (.getfield 28, 3) := by decide +kernel
theorem dX8_doRebase_44 : decode cX8_doRebase 44 = .ok (.bipush 6, 2) := by decide +kernel
theorem dX8_doRebase_46 : decode cX8_doRebase 46 = .ok (.iload_n 1, 1) := by decide +kernel
theorem dX8_doRebase_47 : decode cX8_doRebase 47 = .ok (.imul, 1) := by decide +kernel
theorem dX8_doRebase_48 : decode cX8_doRebase 48 = .ok (.iload_n 2, 1) := by decide +kernel
theorem dX8_doRebase_49 : decode cX8_doRebase 49 = .ok (.iadd, 1) := by decide +kernel
theorem dX8_doRebase_50 : decode cX8_doRebase 50 = .ok (.aload_n 0, 1) := by decide +kernel
theorem dX8_doRebase_51 : decode cX8_doRebase 51 = .ok (.getfield 58, 3) := by decide +kernel
theorem dX8_doRebase_54 : decode cX8_doRebase 54 = .ok (.iload_n 2, 1) := by decide +kernel
theorem dX8_doRebase_55 : decode cX8_doRebase 55 = .ok (.iaload, 1) := by decide +kernel
theorem dX8_doRebase_56 : decode cX8_doRebase 56 = .ok (.iastore, 1) := by decide +kernel
theorem dX8_doRebase_57 : decode cX8_doRebase 57 = .ok (.aload_n 0, 1) := by decide +kernel
theorem dX8_doRebase_58 : decode cX8_doRebase 58 = .ok (.getfield 25, 3) := by decide +kernel
theorem dX8_doRebase_61 : decode cX8_doRebase 61 = .ok (.bipush 6, 2) := by decide +kernel
theorem dX8_doRebase_63 : decode cX8_doRebase 63 = .ok (.iload_n 1, 1) := by decide +kernel
theorem dX8_doRebase_64 : decode cX8_doRebase 64 = .ok (.imul, 1) := by decide +kernel
theorem dX8_doRebase_65 : decode cX8_doRebase 65 = .ok (.iload_n 2, 1) := by decide +kernel
theorem dX8_doRebase_66 : decode cX8_doRebase 66 = .ok (.iadd, 1) := by decide +kernel
theorem dX8_doRebase_67 : decode cX8_doRebase 67 = .ok (.aload_n 0, 1) := by decide +kernel
theorem dX8_doRebase_68 : decode cX8_doRebase 68 = .ok (.getfield 22, 3) := by decide +kernel
theorem dX8_doRebase_71 : decode cX8_doRebase 71 = .ok (.iload_n 2, 1) := by decide +kernel
theorem dX8_doRebase_72 : decode cX8_doRebase 72 = .ok (.iaload, 1) := by decide +kernel
theorem dX8_doRebase_73 : decode cX8_doRebase 73 = .ok (.iastore, 1) := by decide +kernel
theorem dX8_doRebase_74 : decode cX8_doRebase 74 = .ok (.iinc 2 1, 3) := by decide +kernel
theorem dX8_doRebase_77 : decode cX8_doRebase 77 = .ok (.goto (-43), 3) := by decide +kernel
theorem dX8_doRebase_80 : decode cX8_doRebase 80 = .ok (.aload_n 0, 1) := by decide +kernel
theorem dX8_doRebase_81 : decode cX8_doRebase 81 = .ok (.getfield 31, 3) := by decide +kernel
theorem dX8_doRebase_84 : decode cX8_doRebase 84 = .ok (.iload_n 1, 1) := by decide +kernel
theorem dX8_doRebase_85 : decode cX8_doRebase 85 = .ok (.iconst 0, 1) := by decide +kernel
theorem dX8_doRebase_86 : decode cX8_doRebase 86 = .ok (.iastore, 1) := by decide +kernel
theorem dX8_doRebase_87 : decode cX8_doRebase 87 = .ok (.aload_n 0, 1) := by decide +kernel
theorem dX8_doRebase_88 : decode cX8_doRebase 88 = .ok (.getfield 34, 3) := by decide +kernel
theorem dX8_doRebase_91 : decode cX8_doRebase 91 = .ok (.iload_n 1, 1) := by decide +kernel
theorem dX8_doRebase_92 : decode cX8_doRebase 92 = .ok (.iconst 0, 1) := by decide +kernel
theorem dX8_doRebase_93 : decode cX8_doRebase 93 = .ok (.iastore, 1) := by decide +kernel
theorem dX8_doRebase_94 : decode cX8_doRebase 94 = .ok (.aload_n 0, 1) := by decide +kernel
theorem dX8_doRebase_95 : decode cX8_doRebase 95 = .ok (.iload_n 1, 1) := by decide +kernel
theorem dX8_doRebase_96 : decode cX8_doRebase 96 = .ok (.invokevirtual 169, 3) := by decide +kernel
theorem dX8_doRebase_99 : decode cX8_doRebase 99 = .ok (.iconst 1, 1) := by decide +kernel
theorem dX8_doRebase_100 : decode cX8_doRebase 100 = .ok (.ireturn, 1) := by decide +kernel
theorem dX8_isWorker_0 : decode cX8_isWorker 0 = .ok (.iload_n 1, 1) := by decide +kernel
theorem dX8_isWorker_1 : decode cX8_isWorker 1 = .ok (.ifCond .lt 12, 3) := by decide +kernel
theorem dX8_isWorker_4 : decode cX8_isWorker 4 = .ok (.iload_n 1, 1) := by decide +kernel
theorem dX8_isWorker_5 : decode cX8_isWorker 5 = .ok (.iconst 3, 1) := by decide +kernel
theorem dX8_isWorker_6 : decode cX8_isWorker 6 = .ok (.if_icmp .gt 7, 3) := by decide +kernel
theorem dX8_isWorker_9 : decode cX8_isWorker 9 = .ok (.iconst 1, 1) := by decide +kernel
theorem dX8_isWorker_10 : decode cX8_isWorker 10 = .ok (.goto 4, 3) := by decide +kernel
theorem dX8_isWorker_13 : decode cX8_isWorker 13 = .ok (.iconst 0, 1) := by decide +kernel
theorem dX8_isWorker_14 : decode cX8_isWorker 14 = .ok (.ireturn, 1) := by decide +kernel
theorem dX8_doClaim_0 : decode cX8_doClaim 0 = .ok (.aload_n 0, 1) := by decide +kernel
theorem dX8_doClaim_1 : decode cX8_doClaim 1 = .ok (.iload_n 1, 1) := by decide +kernel
theorem dX8_doClaim_2 : decode cX8_doClaim 2 = .ok (.invokevirtual 179, 3) := by decide +kernel
theorem dX8_doClaim_5 : decode cX8_doClaim 5 = .ok (.ifCond .eq 20, 3) := by decide +kernel
theorem dX8_doClaim_8 : decode cX8_doClaim 8 = .ok (.aload_n 0, 1) := by decide +kernel
theorem dX8_doClaim_9 : decode cX8_doClaim 9 = .ok (.getfield 52, 3) := by decide +kernel
theorem dX8_doClaim_12 : decode cX8_doClaim 12 = .ok (.iload_n 1, 1) := by decide +kernel
theorem dX8_doClaim_13 : decode cX8_doClaim 13 = .ok (.iaload, 1) := by decide +kernel
theorem dX8_doClaim_14 : decode cX8_doClaim 14 = .ok (.iconst (-1), 1) := by decide +kernel
theorem dX8_doClaim_15 : decode cX8_doClaim 15 = .ok (.if_icmp .ne 10, 3) := by decide +kernel
theorem dX8_doClaim_18 : decode cX8_doClaim 18 = .ok (.aload_n 0, 1) := by decide +kernel
theorem dX8_doClaim_19 : decode cX8_doClaim 19 = .ok (.getfield 100, 3) := by decide +kernel
theorem dX8_doClaim_22 : decode cX8_doClaim 22 = .ok (.ifCond .ne 5, 3) := by decide +kernel
theorem dX8_doClaim_25 : decode cX8_doClaim 25 = .ok (.iconst (-1), 1) := by decide +kernel
theorem dX8_doClaim_26 : decode cX8_doClaim 26 = .ok (.ireturn, 1) := by decide +kernel
theorem dX8_doClaim_27 : decode cX8_doClaim 27 = .ok (.aload_n 0, 1) := by decide +kernel
theorem dX8_doClaim_28 : decode cX8_doClaim 28 = .ok (.invokevirtual 140, 3) := by decide +kernel
theorem dX8_doClaim_31 : decode cX8_doClaim 31 = .ok (.iconst 0, 1) := by decide +kernel
theorem dX8_doClaim_32 : decode cX8_doClaim 32 = .ok (.istore_n 2, 1) := by decide +kernel
theorem dX8_doClaim_33 : decode cX8_doClaim 33 = .ok (.iload_n 2, 1) := by decide +kernel
theorem dX8_doClaim_34 : decode cX8_doClaim 34 = .ok (.iconst 4, 1) := by decide +kernel
theorem dX8_doClaim_35 : decode cX8_doClaim 35 = .ok (.if_icmp .ge 123, 3) := by decide +kernel
theorem dX8_doClaim_38 : decode cX8_doClaim 38 = .ok (.aload_n 0, 1) := by decide +kernel
theorem dX8_doClaim_39 : decode cX8_doClaim 39 = .ok (.getfield 46, 3) := by decide +kernel
theorem dX8_doClaim_42 : decode cX8_doClaim 42 = .ok (.iload_n 2, 1) := by decide +kernel
theorem dX8_doClaim_43 : decode cX8_doClaim 43 = .ok (.iaload, 1) := by decide +kernel
theorem dX8_doClaim_44 : decode cX8_doClaim 44 = .ok (.iconst 1, 1) := by decide +kernel
theorem dX8_doClaim_45 : decode cX8_doClaim 45 = .ok (.if_icmp .ne 7, 3) := by decide +kernel
theorem dX8_doClaim_48 : decode cX8_doClaim 48 = .ok (.iconst 1, 1) := by decide +kernel
theorem dX8_doClaim_49 : decode cX8_doClaim 49 = .ok (.goto 4, 3) := by decide +kernel
theorem dX8_doClaim_52 : decode cX8_doClaim 52 = .ok (.iconst 0, 1) := by decide +kernel
theorem dX8_doClaim_53 : decode cX8_doClaim 53 = .ok (.istore_n 3, 1) := by decide +kernel
theorem dX8_doClaim_54 : decode cX8_doClaim 54 = .ok (.iconst 0, 1) := by decide +kernel
theorem dX8_doClaim_55 : decode cX8_doClaim 55 = .ok (.istore 4, 2) := by decide +kernel
theorem dX8_doClaim_57 : decode cX8_doClaim 57 = .ok (.iload 4, 2) := by decide +kernel
theorem dX8_doClaim_59 : decode cX8_doClaim 59 = .ok (.iconst 4, 1) := by decide +kernel
theorem dX8_doClaim_60 : decode cX8_doClaim 60 = .ok (.if_icmp .ge 40, 3) := by decide +kernel
theorem dX8_doClaim_63 : decode cX8_doClaim 63 = .ok (.iload_n 3, 1) := by decide +kernel
theorem dX8_doClaim_64 : decode cX8_doClaim 64 = .ok (.ifCond .eq 28, 3) := by decide +kernel
theorem dX8_doClaim_67 : decode cX8_doClaim 67 = .ok (.aload_n 0, 1) := by decide +kernel
theorem dX8_doClaim_68 : decode cX8_doClaim 68 = .ok (.iload_n 2, 1) := by decide +kernel
theorem dX8_doClaim_69 : decode cX8_doClaim 69 = .ok (.iload 4, 2) := by decide +kernel
theorem dX8_doClaim_71 : decode cX8_doClaim 71 = .ok (.invokevirtual 113, 3) := by decide +kernel
theorem dX8_doClaim_74 : decode cX8_doClaim 74 = .ok (.ifCond .eq 14, 3) := by decide +kernel
theorem dX8_doClaim_77 : decode cX8_doClaim 77 = .ok (.aload_n 0, 1) := by decide +kernel
theorem dX8_doClaim_78 : decode cX8_doClaim 78 = .ok (.getfield 46, 3) := by decide +kernel
theorem dX8_doClaim_81 : decode cX8_doClaim 81 = .ok (.iload 4, 2) := by decide +kernel
theorem dX8_doClaim_83 : decode cX8_doClaim 83 = .ok (.iaload, 1) := by decide +kernel
theorem dX8_doClaim_84 : decode cX8_doClaim 84 = .ok (.iconst 2, 1) := by decide +kernel
theorem dX8_doClaim_85 : decode cX8_doClaim 85 = .ok (.if_icmp .ne 7, 3) := by decide +kernel
theorem dX8_doClaim_88 : decode cX8_doClaim 88 = .ok (.iconst 1, 1) := by decide +kernel
theorem dX8_doClaim_89 : decode cX8_doClaim 89 = .ok (.goto 4, 3) := by decide +kernel
theorem dX8_doClaim_92 : decode cX8_doClaim 92 = .ok (.iconst 0, 1) := by decide +kernel
theorem dX8_doClaim_93 : decode cX8_doClaim 93 = .ok (.istore_n 3, 1) := by decide +kernel
theorem dX8_doClaim_94 : decode cX8_doClaim 94 = .ok (.iinc 4 1, 3) := by decide +kernel
theorem dX8_doClaim_97 : decode cX8_doClaim 97 = .ok (.goto (-40), 3) := by decide +kernel
theorem dX8_doClaim_100 : decode cX8_doClaim 100 = .ok (.iload_n 3, 1) := by decide +kernel
theorem dX8_doClaim_101 : decode cX8_doClaim 101 = .ok (.ifCond .eq 51, 3) := by decide +kernel
theorem dX8_doClaim_104 : decode cX8_doClaim 104 = .ok (.aload_n 0, 1) := by decide +kernel
theorem dX8_doClaim_105 : decode cX8_doClaim 105 = .ok (.getfield 46, 3) := by decide +kernel
theorem dX8_doClaim_108 : decode cX8_doClaim 108 = .ok (.iload_n 2, 1) := by decide +kernel
theorem dX8_doClaim_109 : decode cX8_doClaim 109 = .ok (.bipush 10, 2) := by decide +kernel
theorem dX8_doClaim_111 : decode cX8_doClaim 111 = .ok (.iload_n 1, 1) := by decide +kernel
theorem dX8_doClaim_112 : decode cX8_doClaim 112 = .ok (.iadd, 1) := by decide +kernel
theorem dX8_doClaim_113 : decode cX8_doClaim 113 = .ok (.iastore, 1) := by decide +kernel
theorem dX8_doClaim_114 : decode cX8_doClaim 114 = .ok (.aload_n 0, 1) := by decide +kernel
theorem dX8_doClaim_115 : decode cX8_doClaim 115 = .ok (.getfield 49, 3) := by decide +kernel
theorem dX8_doClaim_118 : decode cX8_doClaim 118 = .ok (.iload_n 2, 1) := by decide +kernel
theorem dX8_doClaim_119 : decode cX8_doClaim 119 = .ok (.aload_n 0, 1) := by decide +kernel
theorem dX8_doClaim_120 : decode cX8_doClaim 120 = .ok (.getfield 49, 3) := by decide +kernel
theorem dX8_doClaim_123 : decode cX8_doClaim 123 = .ok (.iload_n 2, 1) := by decide +kernel
theorem dX8_doClaim_124 : decode cX8_doClaim 124 = .ok (.iaload, 1) := by decide +kernel
theorem dX8_doClaim_125 : decode cX8_doClaim 125 = .ok (.iconst 1, 1) := by decide +kernel
theorem dX8_doClaim_126 : decode cX8_doClaim 126 = .ok (.iadd, 1) := by decide +kernel
theorem dX8_doClaim_127 : decode cX8_doClaim 127 = .ok (.iastore, 1) := by decide +kernel
theorem dX8_doClaim_128 : decode cX8_doClaim 128 = .ok (.aload_n 0, 1) := by decide +kernel
theorem dX8_doClaim_129 : decode cX8_doClaim 129 = .ok (.getfield 52, 3) := by decide +kernel
theorem dX8_doClaim_132 : decode cX8_doClaim 132 = .ok (.iload_n 1, 1) := by decide +kernel
theorem dX8_doClaim_133 : decode cX8_doClaim 133 = .ok (.iload_n 2, 1) := by decide +kernel
theorem dX8_doClaim_134 : decode cX8_doClaim 134 = .ok (.iastore, 1) := by decide +kernel
theorem dX8_doClaim_135 : decode cX8_doClaim 135 = .ok (.aload_n 0, 1) := by decide +kernel
theorem dX8_doClaim_136 : decode cX8_doClaim 136 = .ok (.getfield 55, 3) := by decide +kernel
theorem dX8_doClaim_139 : decode cX8_doClaim 139 = .ok (.iload_n 1, 1) := by decide +kernel
theorem dX8_doClaim_140 : decode cX8_doClaim 140 = .ok (.aload_n 0, 1) := by decide +kernel
theorem dX8_doClaim_141 : decode cX8_doClaim 141 = .ok (.getfield 88, 3) := by decide +kernel
theorem dX8_doClaim_144 : decode cX8_doClaim 144 = .ok (.aload_n 0, 1) := by decide +kernel
theorem dX8_doClaim_145 : decode cX8_doClaim 145 = .ok (.getfield 79, 3) := by decide +kernel
theorem dX8_doClaim_148 : decode cX8_doClaim 148 = .ok (.iadd, 1) := by decide +kernel
theorem dX8_doClaim_149 : decode cX8_doClaim 149 = .ok (.iastore, 1) := by decide +kernel
theorem dX8_doClaim_150 : decode cX8_doClaim 150 = .ok (.iload_n 2, 1) := by decide +kernel
theorem dX8_doClaim_151 : decode cX8_doClaim 151 = .ok (.ireturn, 1) := by decide +kernel
theorem dX8_doClaim_152 : decode cX8_doClaim 152 = .ok (.iinc 2 1, 3) := by decide +kernel
theorem dX8_doClaim_155 : decode cX8_doClaim 155 = .ok (.goto (-122), 3) := by decide +kernel
theorem dX8_doClaim_158 : decode cX8_doClaim 158 = .ok (.iconst (-1), 1) := by decide +kernel
theorem dX8_doClaim_159 : decode cX8_doClaim 159 = .ok (.ireturn, 1) := by decide +kernel
theorem dX8_doReport_0 : decode cX8_doReport 0 = .ok (.aload_n 0, 1) := by decide +kernel
theorem dX8_doReport_1 : decode cX8_doReport 1 = .ok (.iload_n 1, 1) := by decide +kernel
theorem dX8_doReport_2 : decode cX8_doReport 2 = .ok (.invokevirtual 179, 3) := by decide +kernel
theorem dX8_doReport_5 : decode cX8_doReport 5 = .ok (.ifCond .eq 13, 3) := by decide +kernel
theorem dX8_doReport_8 : decode cX8_doReport 8 = .ok (.aload_n 0, 1) := by decide +kernel
theorem dX8_doReport_9 : decode cX8_doReport 9 = .ok (.getfield 52, 3) := by decide +kernel
theorem dX8_doReport_12 : decode cX8_doReport 12 = .ok (.iload_n 1, 1) := by decide +kernel
theorem dX8_doReport_13 : decode cX8_doReport 13 = .ok (.iaload, 1) := by decide +kernel
theorem dX8_doReport_14 : decode cX8_doReport 14 = .ok (.iconst (-1), 1) := by decide +kernel
theorem dX8_doReport_15 : decode cX8_doReport 15 = .ok (.if_icmp .ne 5, 3) := by decide +kernel
theorem dX8_doReport_18 : decode cX8_doReport 18 = .ok (.iconst (-1), 1) := by decide +kernel
theorem dX8_doReport_19 : decode cX8_doReport 19 = .ok (.ireturn, 1) := by decide +kernel
theorem dX8_doReport_20 : decode cX8_doReport 20 = .ok (.aload_n 0, 1) := by decide +kernel
theorem dX8_doReport_21 : decode cX8_doReport 21 = .ok (.getfield 52, 3) := by decide +kernel
theorem dX8_doReport_24 : decode cX8_doReport 24 = .ok (.iload_n 1, 1) := by decide +kernel
theorem dX8_doReport_25 : decode cX8_doReport 25 = .ok (.iaload, 1) := by decide +kernel
theorem dX8_doReport_26 : decode cX8_doReport 26 = .ok (.istore_n 3, 1) := by decide +kernel
theorem dX8_doReport_27 : decode cX8_doReport 27 = .ok (.aload_n 0, 1) := by decide +kernel
theorem dX8_doReport_28 : decode cX8_doReport 28 = .ok (.getfield 52, 3) := by decide +kernel
theorem dX8_doReport_31 : decode cX8_doReport 31 = .ok (.iload_n 1, 1) := by decide +kernel
theorem dX8_doReport_32 : decode cX8_doReport 32 = .ok (.iconst (-1), 1) := by decide +kernel
theorem dX8_doReport_33 : decode cX8_doReport 33 = .ok (.iastore, 1) := by decide +kernel
theorem dX8_doReport_34 : decode cX8_doReport 34 = .ok (.aload_n 0, 1) := by decide +kernel
theorem dX8_doReport_35 : decode cX8_doReport 35 = .ok (.iload_n 3, 1) := by decide +kernel
theorem dX8_doReport_36 : decode cX8_doReport 36 = .ok (.iload_n 2, 1) := by decide +kernel
theorem dX8_doReport_37 : decode cX8_doReport 37 = .ok (.invokevirtual 162, 3) := by decide +kernel
theorem dX8_doReport_40 : decode cX8_doReport 40 = .ok (.iconst 1, 1) := by decide +kernel
theorem dX8_doReport_41 : decode cX8_doReport 41 = .ok (.ireturn, 1) := by decide +kernel
theorem dX8_doTick_0 : decode cX8_doTick 0 = .ok (.iload_n 1, 1) := by decide +kernel
theorem dX8_doTick_1 : decode cX8_doTick 1 = .ok (.iconst 1, 1) := by decide +kernel
theorem dX8_doTick_2 : decode cX8_doTick 2 = .ok (.if_icmp .lt 9, 3) := by decide +kernel
theorem dX8_doTick_5 : decode cX8_doTick 5 = .ok (.iload_n 1, 1) := by decide +kernel
theorem dX8_doTick_6 : decode cX8_doTick 6 = .ok (.bipush 20, 2) := by decide +kernel
theorem dX8_doTick_8 : decode cX8_doTick 8 = .ok (.if_icmp .le 5, 3) := by decide +kernel
theorem dX8_doTick_11 : decode cX8_doTick 11 = .ok (.iconst (-1), 1) := by decide +kernel
theorem dX8_doTick_12 : decode cX8_doTick 12 = .ok (.ireturn, 1) := by decide +kernel
theorem dX8_doTick_13 : decode cX8_doTick 13 = .ok (.iconst 0, 1) := by decide +kernel
theorem dX8_doTick_14 : decode cX8_doTick 14 = .ok (.istore_n 2, 1) := by decide +kernel
theorem dX8_doTick_15 : decode cX8_doTick 15 = .ok (.iconst 0, 1) := by decide +kernel
theorem dX8_doTick_16 : decode cX8_doTick 16 = .ok (.istore_n 3, 1) := by decide +kernel
theorem dX8_doTick_17 : decode cX8_doTick 17 = .ok (.iload_n 3, 1) := by decide +kernel
theorem dX8_doTick_18 : decode cX8_doTick 18 = .ok (.iload_n 1, 1) := by decide +kernel
theorem dX8_doTick_19 : decode cX8_doTick 19 = .ok (.if_icmp .ge 73, 3) := by decide +kernel
theorem dX8_doTick_22 : decode cX8_doTick 22 = .ok (.aload_n 0, 1) := by decide +kernel
theorem dX8_doTick_23 : decode cX8_doTick 23 = .ok (.aload_n 0, 1) := by decide +kernel
theorem dX8_doTick_24 : decode cX8_doTick 24 = .ok (.getfield 88, 3) := by decide +kernel
theorem dX8_doTick_27 : decode cX8_doTick 27 = .ok (.iconst 1, 1) := by decide +kernel
theorem dX8_doTick_28 : decode cX8_doTick 28 = .ok (.iadd, 1) := by decide +kernel
theorem dX8_doTick_29 : decode cX8_doTick 29 = .ok (.putfield 88, 3) := by decide +kernel
theorem dX8_doTick_32 : decode cX8_doTick 32 = .ok (.iconst 0, 1) := by decide +kernel
theorem dX8_doTick_33 : decode cX8_doTick 33 = .ok (.istore 4, 2) := by decide +kernel
theorem dX8_doTick_35 : decode cX8_doTick 35 = .ok (.iload 4, 2) := by decide +kernel
theorem dX8_doTick_37 : decode cX8_doTick 37 = .ok (.iconst 4, 1) := by decide +kernel
theorem dX8_doTick_38 : decode cX8_doTick 38 = .ok (.if_icmp .ge 44, 3) := by decide +kernel
theorem dX8_doTick_41 : decode cX8_doTick 41 = .ok (.aload_n 0, 1) := by decide +kernel
theorem dX8_doTick_42 : decode cX8_doTick 42 = .ok (.getfield 52, 3) := by decide +kernel
theorem dX8_doTick_45 : decode cX8_doTick 45 = .ok (.iload 4, 2) := by decide +kernel
theorem dX8_doTick_47 : decode cX8_doTick 47 = .ok (.iaload, 1) := by decide +kernel
theorem dX8_doTick_48 : decode cX8_doTick 48 = .ok (.iconst (-1), 1) := by decide +kernel
theorem dX8_doTick_49 : decode cX8_doTick 49 = .ok (.if_icmp .eq 27, 3) := by decide +kernel
theorem dX8_doTick_52 : decode cX8_doTick 52 = .ok (.aload_n 0, 1) := by decide +kernel
theorem dX8_doTick_53 : decode cX8_doTick 53 = .ok (.getfield 55, 3) := by decide +kernel
theorem dX8_doTick_56 : decode cX8_doTick 56 = .ok (.iload 4, 2) := by decide +kernel
theorem dX8_doTick_58 : decode cX8_doTick 58 = .ok (.iaload, 1) := by decide +kernel
theorem dX8_doTick_59 : decode cX8_doTick 59 = .ok (.aload_n 0, 1) := by decide +kernel
theorem dX8_doTick_60 : decode cX8_doTick 60 = .ok (.getfield 88, 3) := by decide +kernel
theorem dX8_doTick_63 : decode cX8_doTick 63 = .ok (.if_icmp .gt 13, 3) := by decide +kernel
theorem dX8_doTick_66 : decode cX8_doTick 66 = .ok (.aload_n 0, 1) := by decide +kernel
theorem dX8_doTick_67 : decode cX8_doTick 67 = .ok (.iload 4, 2) := by decide +kernel
theorem dX8_doTick_69 : decode cX8_doTick 69 = .ok (.invokevirtual 182, 3) := by decide +kernel
theorem dX8_doTick_72 : decode cX8_doTick 72 = .ok (.iload_n 2, 1) := by decide +kernel
theorem dX8_doTick_73 : decode cX8_doTick 73 = .ok (.iconst 1, 1) := by decide +kernel
theorem dX8_doTick_74 : decode cX8_doTick 74 = .ok (.iadd, 1) := by decide +kernel
theorem dX8_doTick_75 : decode cX8_doTick 75 = .ok (.istore_n 2, 1) := by decide +kernel
theorem dX8_doTick_76 : decode cX8_doTick 76 = .ok (.iinc 4 1, 3) := by decide +kernel
theorem dX8_doTick_79 : decode cX8_doTick 79 = .ok (.goto (-44), 3) := by decide +kernel
theorem dX8_doTick_82 : decode cX8_doTick 82 = .ok (.aload_n 0, 1) := by decide +kernel
theorem dX8_doTick_83 : decode cX8_doTick 83 = .ok (.invokevirtual 185, 3) := by decide +kernel
theorem dX8_doTick_86 : decode cX8_doTick 86 = .ok (.iinc 3 1, 3) := by decide +kernel
theorem dX8_doTick_89 : decode cX8_doTick 89 = .ok (.goto (-72), 3) := by decide +kernel
theorem dX8_doTick_92 : decode cX8_doTick 92 = .ok (.iload_n 2, 1) := by decide +kernel
theorem dX8_doTick_93 : decode cX8_doTick 93 = .ok (.ireturn, 1) := by decide +kernel
theorem dX8_expireAll_0 : decode cX8_expireAll 0 = .ok (.iconst 0, 1) := by decide +kernel
theorem dX8_expireAll_1 : decode cX8_expireAll 1 = .ok (.istore_n 1, 1) := by decide +kernel
theorem dX8_expireAll_2 : decode cX8_expireAll 2 = .ok (.iload_n 1, 1) := by decide +kernel
theorem dX8_expireAll_3 : decode cX8_expireAll 3 = .ok (.iconst 4, 1) := by decide +kernel
theorem dX8_expireAll_4 : decode cX8_expireAll 4 = .ok (.if_icmp .ge 24, 3) := by decide +kernel
theorem dX8_expireAll_7 : decode cX8_expireAll 7 = .ok (.aload_n 0, 1) := by decide +kernel
theorem dX8_expireAll_8 : decode cX8_expireAll 8 = .ok (.getfield 52, 3) := by decide +kernel
theorem dX8_expireAll_11 : decode cX8_expireAll 11 = .ok (.iload_n 1, 1) := by decide +kernel
theorem dX8_expireAll_12 : decode cX8_expireAll 12 = .ok (.iaload, 1) := by decide +kernel
theorem dX8_expireAll_13 : decode cX8_expireAll 13 = .ok (.iconst (-1), 1) := by decide +kernel
theorem dX8_expireAll_14 : decode cX8_expireAll 14 = .ok (.if_icmp .eq 8, 3) := by decide +kernel
theorem dX8_expireAll_17 : decode cX8_expireAll 17 = .ok (.aload_n 0, 1) := by decide +kernel
theorem dX8_expireAll_18 : decode cX8_expireAll 18 = .ok (.iload_n 1, 1) := by decide +kernel
theorem dX8_expireAll_19 : decode cX8_expireAll 19 = .ok (.invokevirtual 182, 3) := by decide +kernel
theorem dX8_expireAll_22 : decode cX8_expireAll 22 = .ok (.iinc 1 1, 3) := by decide +kernel
theorem dX8_expireAll_25 : decode cX8_expireAll 25 = .ok (.goto (-23), 3) := by decide +kernel
theorem dX8_expireAll_28 : decode cX8_expireAll 28 = .ok (.return_, 1) := by decide +kernel
theorem dX8_once_0 : decode cX8_once 0 = .ok (.iload_n 1, 1) := by decide +kernel
theorem dX8_once_1 : decode cX8_once 1 = .ok (.tableswitch 131 0 9 #[55, 60, 69, 77, 85, 91, 97, 103, 109, 125], 55) := by decide +kernel
theorem dX8_once_56 : decode cX8_once 56 = .ok (.aload_n 0, 1) := by decide +kernel
theorem dX8_once_57 : decode cX8_once 57 = .ok (.invokevirtual 188, 3) := by decide +kernel
theorem dX8_once_60 : decode cX8_once 60 = .ok (.ireturn, 1) := by decide +kernel
theorem dX8_once_61 : decode cX8_once 61 = .ok (.aload_n 0, 1) := by decide +kernel
theorem dX8_once_62 : decode cX8_once 62 = .ok (.iload_n 2, 1) := by decide +kernel
theorem dX8_once_63 : decode cX8_once 63 = .ok (.iload_n 3, 1) := by decide +kernel
theorem dX8_once_64 : decode cX8_once 64 = .ok (.iload 4, 2) := by decide +kernel
theorem dX8_once_66 : decode cX8_once 66 = .ok (.invokevirtual 192, 3) := by decide +kernel
theorem dX8_once_69 : decode cX8_once 69 = .ok (.ireturn, 1) := by decide +kernel
theorem dX8_once_70 : decode cX8_once 70 = .ok (.aload_n 0, 1) := by decide +kernel
theorem dX8_once_71 : decode cX8_once 71 = .ok (.iload_n 2, 1) := by decide +kernel
theorem dX8_once_72 : decode cX8_once 72 = .ok (.iload_n 3, 1) := by decide +kernel
theorem dX8_once_73 : decode cX8_once 73 = .ok (.iconst 1, 1) := by decide +kernel
theorem dX8_once_74 : decode cX8_once 74 = .ok (.invokevirtual 195, 3) := by decide +kernel
theorem dX8_once_77 : decode cX8_once 77 = .ok (.ireturn, 1) := by decide +kernel
theorem dX8_once_78 : decode cX8_once 78 = .ok (.aload_n 0, 1) := by decide +kernel
theorem dX8_once_79 : decode cX8_once 79 = .ok (.iload_n 2, 1) := by decide +kernel
theorem dX8_once_80 : decode cX8_once 80 = .ok (.iload_n 3, 1) := by decide +kernel
theorem dX8_once_81 : decode cX8_once 81 = .ok (.iconst 2, 1) := by decide +kernel
theorem dX8_once_82 : decode cX8_once 82 = .ok (.invokevirtual 195, 3) := by decide +kernel
theorem dX8_once_85 : decode cX8_once 85 = .ok (.ireturn, 1) := by decide +kernel
theorem dX8_once_86 : decode cX8_once 86 = .ok (.aload_n 0, 1) := by decide +kernel
theorem dX8_once_87 : decode cX8_once 87 = .ok (.iload_n 2, 1) := by decide +kernel
theorem dX8_once_88 : decode cX8_once 88 = .ok (.invokevirtual 198, 3) := by decide +kernel
theorem dX8_once_91 : decode cX8_once 91 = .ok (.ireturn, 1) := by decide +kernel
theorem dX8_once_92 : decode cX8_once 92 = .ok (.aload_n 0, 1) := by decide +kernel
theorem dX8_once_93 : decode cX8_once 93 = .ok (.iload_n 2, 1) := by decide +kernel
theorem dX8_once_94 : decode cX8_once 94 = .ok (.invokevirtual 202, 3) := by decide +kernel
theorem dX8_once_97 : decode cX8_once 97 = .ok (.ireturn, 1) := by decide +kernel
theorem dX8_once_98 : decode cX8_once 98 = .ok (.aload_n 0, 1) := by decide +kernel
theorem dX8_once_99 : decode cX8_once 99 = .ok (.iload_n 2, 1) := by decide +kernel
theorem dX8_once_100 : decode cX8_once 100 = .ok (.invokevirtual 205, 3) := by decide +kernel
theorem dX8_once_103 : decode cX8_once 103 = .ok (.ireturn, 1) := by decide +kernel
theorem dX8_once_104 : decode cX8_once 104 = .ok (.aload_n 0, 1) := by decide +kernel
theorem dX8_once_105 : decode cX8_once 105 = .ok (.iload_n 2, 1) := by decide +kernel
theorem dX8_once_106 : decode cX8_once 106 = .ok (.invokevirtual 208, 3) := by decide +kernel
theorem dX8_once_109 : decode cX8_once 109 = .ok (.ireturn, 1) := by decide +kernel
theorem dX8_once_110 : decode cX8_once 110 = .ok (.aload_n 0, 1) := by decide +kernel
theorem dX8_once_111 : decode cX8_once 111 = .ok (.iload_n 2, 1) := by decide +kernel
theorem dX8_once_112 : decode cX8_once 112 = .ok (.iload_n 3, 1) := by decide +kernel
theorem dX8_once_113 : decode cX8_once 113 = .ok (.iconst 1, 1) := by decide +kernel
theorem dX8_once_114 : decode cX8_once 114 = .ok (.if_icmp .ne 7, 3) := by decide +kernel
theorem dX8_once_117 : decode cX8_once 117 = .ok (.iconst 1, 1) := by decide +kernel
theorem dX8_once_118 : decode cX8_once 118 = .ok (.goto 4, 3) := by decide +kernel
theorem dX8_once_121 : decode cX8_once 121 = .ok (.iconst 0, 1) := by decide +kernel
theorem dX8_once_122 : decode cX8_once 122 = .ok (.invokevirtual 211, 3) := by decide +kernel
theorem dX8_once_125 : decode cX8_once 125 = .ok (.ireturn, 1) := by decide +kernel
theorem dX8_once_126 : decode cX8_once 126 = .ok (.aload_n 0, 1) := by decide +kernel
theorem dX8_once_127 : decode cX8_once 127 = .ok (.iload_n 2, 1) := by decide +kernel
theorem dX8_once_128 : decode cX8_once 128 = .ok (.invokevirtual 215, 3) := by decide +kernel
theorem dX8_once_131 : decode cX8_once 131 = .ok (.ireturn, 1) := by decide +kernel
theorem dX8_once_132 : decode cX8_once 132 = .ok (.aload_n 0, 1) := by decide +kernel
theorem dX8_once_133 : decode cX8_once 133 = .ok (.invokevirtual 218, 3) := by decide +kernel
theorem dX8_once_136 : decode cX8_once 136 = .ok (.iconst 0, 1) := by decide +kernel
theorem dX8_once_137 : decode cX8_once 137 = .ok (.ireturn, 1) := by decide +kernel
theorem dX8_note_0 : decode cX8_note 0 = .ok (.aload_n 0, 1) := by decide +kernel
theorem dX8_note_1 : decode cX8_note 1 = .ok (.getfield 7, 3) := by decide +kernel
theorem dX8_note_4 : decode cX8_note 4 = .ok (.aload_n 0, 1) := by decide +kernel
theorem dX8_note_5 : decode cX8_note 5 = .ok (.getfield 221, 3) := by decide +kernel
theorem dX8_note_8 : decode cX8_note 8 = .ok (.iload_n 1, 1) := by decide +kernel
theorem dX8_note_9 : decode cX8_note 9 = .ok (.iastore, 1) := by decide +kernel
theorem dX8_note_10 : decode cX8_note 10 = .ok (.aload_n 0, 1) := by decide +kernel
theorem dX8_note_11 : decode cX8_note 11 = .ok (.getfield 13, 3) := by decide +kernel
theorem dX8_note_14 : decode cX8_note 14 = .ok (.aload_n 0, 1) := by decide +kernel
theorem dX8_note_15 : decode cX8_note 15 = .ok (.getfield 221, 3) := by decide +kernel
theorem dX8_note_18 : decode cX8_note 18 = .ok (.iload_n 2, 1) := by decide +kernel
theorem dX8_note_19 : decode cX8_note 19 = .ok (.iastore, 1) := by decide +kernel
theorem dX8_note_20 : decode cX8_note 20 = .ok (.aload_n 0, 1) := by decide +kernel
theorem dX8_note_21 : decode cX8_note 21 = .ok (.getfield 16, 3) := by decide +kernel
theorem dX8_note_24 : decode cX8_note 24 = .ok (.aload_n 0, 1) := by decide +kernel
theorem dX8_note_25 : decode cX8_note 25 = .ok (.getfield 221, 3) := by decide +kernel
theorem dX8_note_28 : decode cX8_note 28 = .ok (.iload_n 3, 1) := by decide +kernel
theorem dX8_note_29 : decode cX8_note 29 = .ok (.iastore, 1) := by decide +kernel
theorem dX8_note_30 : decode cX8_note 30 = .ok (.aload_n 0, 1) := by decide +kernel
theorem dX8_note_31 : decode cX8_note 31 = .ok (.getfield 19, 3) := by decide +kernel
theorem dX8_note_34 : decode cX8_note 34 = .ok (.aload_n 0, 1) := by decide +kernel
theorem dX8_note_35 : decode cX8_note 35 = .ok (.getfield 221, 3) := by decide +kernel
theorem dX8_note_38 : decode cX8_note 38 = .ok (.iload 4, 2) := by decide +kernel
theorem dX8_note_40 : decode cX8_note 40 = .ok (.iastore, 1) := by decide +kernel
theorem dX8_note_41 : decode cX8_note 41 = .ok (.aload_n 0, 1) := by decide +kernel
theorem dX8_note_42 : decode cX8_note 42 = .ok (.aload_n 0, 1) := by decide +kernel
theorem dX8_note_43 : decode cX8_note 43 = .ok (.getfield 221, 3) := by decide +kernel
theorem dX8_note_46 : decode cX8_note 46 = .ok (.iconst 1, 1) := by decide +kernel
theorem dX8_note_47 : decode cX8_note 47 = .ok (.iadd, 1) := by decide +kernel
theorem dX8_note_48 : decode cX8_note 48 = .ok (.putfield 221, 3) := by decide +kernel
theorem dX8_note_51 : decode cX8_note 51 = .ok (.return_, 1) := by decide +kernel
theorem dX8_event_0 : decode cX8_event 0 = .ok (.aload_n 0, 1) := by decide +kernel
theorem dX8_event_1 : decode cX8_event 1 = .ok (.iload_n 1, 1) := by decide +kernel
theorem dX8_event_2 : decode cX8_event 2 = .ok (.iload_n 2, 1) := by decide +kernel
theorem dX8_event_3 : decode cX8_event 3 = .ok (.iload_n 3, 1) := by decide +kernel
theorem dX8_event_4 : decode cX8_event 4 = .ok (.iload 4, 2) := by decide +kernel
theorem dX8_event_6 : decode cX8_event 6 = .ok (.invokevirtual 224, 3) := by decide +kernel
theorem dX8_event_9 : decode cX8_event 9 = .ok (.istore 5, 2) := by decide +kernel
theorem dX8_event_11 : decode cX8_event 11 = .ok (.iload 5, 2) := by decide +kernel
theorem dX8_event_13 : decode cX8_event 13 = .ok (.ifCond .lt 45, 3) := by decide +kernel
theorem dX8_event_16 : decode cX8_event 16 = .ok (.aload_n 0, 1) := by decide +kernel
theorem dX8_event_17 : decode cX8_event 17 = .ok (.invokevirtual 185, 3) := by decide +kernel
theorem dX8_event_20 : decode cX8_event 20 = .ok (.aload_n 0, 1) := by decide +kernel
theorem dX8_event_21 : decode cX8_event 21 = .ok (.aload_n 0, 1) := by decide +kernel
theorem dX8_event_22 : decode cX8_event 22 = .ok (.getfield 221, 3) := by decide +kernel
theorem dX8_event_25 : decode cX8_event 25 = .ok (.aload_n 0, 1) := by decide +kernel
theorem dX8_event_26 : decode cX8_event 26 = .ok (.getfield 228, 3) := by decide +kernel
theorem dX8_event_29 : decode cX8_event 29 = .ok (.isub, 1) := by decide +kernel
theorem dX8_event_30 : decode cX8_event 30 = .ok (.bipush 16, 2) := by decide +kernel
theorem dX8_event_32 : decode cX8_event 32 = .ok (.if_icmp .lt 10, 3) := by decide +kernel
theorem dX8_event_35 : decode cX8_event 35 = .ok (.aload_n 0, 1) := by decide +kernel
theorem dX8_event_36 : decode cX8_event 36 = .ok (.getfield 221, 3) := by decide +kernel
theorem dX8_event_39 : decode cX8_event 39 = .ok (.goto 7, 3) := by decide +kernel
theorem dX8_event_42 : decode cX8_event 42 = .ok (.aload_n 0, 1) := by decide +kernel
theorem dX8_event_43 : decode cX8_event 43 = .ok (.getfield 228, 3) := by decide +kernel
theorem dX8_event_46 : decode cX8_event 46 = .ok (.putfield 228, 3) := by decide +kernel
theorem dX8_event_49 : decode cX8_event 49 = .ok (.aload_n 0, 1) := by decide +kernel
theorem dX8_event_50 : decode cX8_event 50 = .ok (.iload_n 1, 1) := by decide +kernel
theorem dX8_event_51 : decode cX8_event 51 = .ok (.iload_n 2, 1) := by decide +kernel
theorem dX8_event_52 : decode cX8_event 52 = .ok (.iload_n 3, 1) := by decide +kernel
theorem dX8_event_53 : decode cX8_event 53 = .ok (.iload 4, 2) := by decide +kernel
theorem dX8_event_55 : decode cX8_event 55 = .ok (.invokevirtual 231, 3) := by decide +kernel
theorem dX8_event_58 : decode cX8_event 58 = .ok (.iload 5, 2) := by decide +kernel
theorem dX8_event_60 : decode cX8_event 60 = .ok (.ireturn, 1) := by decide +kernel
theorem dX8_open_0 : decode cX8_open 0 = .ok (.aload_n 0, 1) := by decide +kernel
theorem dX8_open_1 : decode cX8_open 1 = .ok (.iconst 0, 1) := by decide +kernel
theorem dX8_open_2 : decode cX8_open 2 = .ok (.iconst 0, 1) := by decide +kernel
theorem dX8_open_3 : decode cX8_open 3 = .ok (.iconst 0, 1) := by decide +kernel
theorem dX8_open_4 : decode cX8_open 4 = .ok (.iconst 0, 1) := by decide +kernel
theorem dX8_open_5 : decode cX8_open 5 = .ok (.invokevirtual 235, 3) := by decide +kernel
theorem dX8_open_8 : decode cX8_open 8 = .ok (.ireturn, 1) := by decide +kernel
theorem dX8_push_0 : decode cX8_push 0 = .ok (.aload_n 0, 1) := by decide +kernel
theorem dX8_push_1 : decode cX8_push 1 = .ok (.iconst 1, 1) := by decide +kernel
theorem dX8_push_2 : decode cX8_push 2 = .ok (.iload_n 1, 1) := by decide +kernel
theorem dX8_push_3 : decode cX8_push 3 = .ok (.iload_n 2, 1) := by decide +kernel
theorem dX8_push_4 : decode cX8_push 4 = .ok (.iload_n 3, 1) := by decide +kernel
theorem dX8_push_5 : decode cX8_push 5 = .ok (.invokevirtual 235, 3) := by decide +kernel
theorem dX8_push_8 : decode cX8_push 8 = .ok (.ifCond .lt 7, 3) := by decide +kernel
theorem dX8_push_11 : decode cX8_push 11 = .ok (.iconst 1, 1) := by decide +kernel
theorem dX8_push_12 : decode cX8_push 12 = .ok (.goto 4, 3) := by decide +kernel
theorem dX8_push_15 : decode cX8_push 15 = .ok (.iconst 0, 1) := by decide +kernel
theorem dX8_push_16 : decode cX8_push 16 = .ok (.ireturn, 1) := by decide +kernel
theorem dX8_approve_0 : decode cX8_approve 0 = .ok (.aload_n 0, 1) := by decide +kernel
theorem dX8_approve_1 : decode cX8_approve 1 = .ok (.iconst 2, 1) := by decide +kernel
theorem dX8_approve_2 : decode cX8_approve 2 = .ok (.iload_n 1, 1) := by decide +kernel
theorem dX8_approve_3 : decode cX8_approve 3 = .ok (.iload_n 2, 1) := by decide +kernel
theorem dX8_approve_4 : decode cX8_approve 4 = .ok (.iconst 0, 1) := by decide +kernel
theorem dX8_approve_5 : decode cX8_approve 5 = .ok (.invokevirtual 235, 3) := by decide +kernel
theorem dX8_approve_8 : decode cX8_approve 8 = .ok (.ifCond .lt 7, 3) := by decide +kernel
theorem dX8_approve_11 : decode cX8_approve 11 = .ok (.iconst 1, 1) := by decide +kernel
theorem dX8_approve_12 : decode cX8_approve 12 = .ok (.goto 4, 3) := by decide +kernel
theorem dX8_approve_15 : decode cX8_approve 15 = .ok (.iconst 0, 1) := by decide +kernel
theorem dX8_approve_16 : decode cX8_approve 16 = .ok (.ireturn, 1) := by decide +kernel
theorem dX8_object_0 : decode cX8_object 0 = .ok (.aload_n 0, 1) := by decide +kernel
theorem dX8_object_1 : decode cX8_object 1 = .ok (.iconst 3, 1) := by decide +kernel
theorem dX8_object_2 : decode cX8_object 2 = .ok (.iload_n 1, 1) := by decide +kernel
theorem dX8_object_3 : decode cX8_object 3 = .ok (.iload_n 2, 1) := by decide +kernel
theorem dX8_object_4 : decode cX8_object 4 = .ok (.iconst 0, 1) := by decide +kernel
theorem dX8_object_5 : decode cX8_object 5 = .ok (.invokevirtual 235, 3) := by decide +kernel
theorem dX8_object_8 : decode cX8_object 8 = .ok (.ifCond .lt 7, 3) := by decide +kernel
theorem dX8_object_11 : decode cX8_object 11 = .ok (.iconst 1, 1) := by decide +kernel
theorem dX8_object_12 : decode cX8_object 12 = .ok (.goto 4, 3) := by decide +kernel
theorem dX8_object_15 : decode cX8_object 15 = .ok (.iconst 0, 1) := by decide +kernel
theorem dX8_object_16 : decode cX8_object 16 = .ok (.ireturn, 1) := by decide +kernel
theorem dX8_close_0 : decode cX8_close 0 = .ok (.aload_n 0, 1) := by decide +kernel
theorem dX8_close_1 : decode cX8_close 1 = .ok (.iconst 4, 1) := by decide +kernel
theorem dX8_close_2 : decode cX8_close 2 = .ok (.iload_n 1, 1) := by decide +kernel
theorem dX8_close_3 : decode cX8_close 3 = .ok (.iconst 0, 1) := by decide +kernel
theorem dX8_close_4 : decode cX8_close 4 = .ok (.iconst 0, 1) := by decide +kernel
theorem dX8_close_5 : decode cX8_close 5 = .ok (.invokevirtual 235, 3) := by decide +kernel
theorem dX8_close_8 : decode cX8_close 8 = .ok (.ifCond .lt 7, 3) := by decide +kernel
theorem dX8_close_11 : decode cX8_close 11 = .ok (.iconst 1, 1) := by decide +kernel
theorem dX8_close_12 : decode cX8_close 12 = .ok (.goto 4, 3) := by decide +kernel
theorem dX8_close_15 : decode cX8_close 15 = .ok (.iconst 0, 1) := by decide +kernel
theorem dX8_close_16 : decode cX8_close 16 = .ok (.ireturn, 1) := by decide +kernel
theorem dX8_enqueue_0 : decode cX8_enqueue 0 = .ok (.aload_n 0, 1) := by decide +kernel
theorem dX8_enqueue_1 : decode cX8_enqueue 1 = .ok (.iconst 5, 1) := by decide +kernel
theorem dX8_enqueue_2 : decode cX8_enqueue 2 = .ok (.iload_n 1, 1) := by decide +kernel
theorem dX8_enqueue_3 : decode cX8_enqueue 3 = .ok (.iconst 0, 1) := by decide +kernel
theorem dX8_enqueue_4 : decode cX8_enqueue 4 = .ok (.iconst 0, 1) := by decide +kernel
theorem dX8_enqueue_5 : decode cX8_enqueue 5 = .ok (.invokevirtual 235, 3) := by decide +kernel
theorem dX8_enqueue_8 : decode cX8_enqueue 8 = .ok (.ifCond .lt 7, 3) := by decide +kernel
theorem dX8_enqueue_11 : decode cX8_enqueue 11 = .ok (.iconst 1, 1) := by decide +kernel
theorem dX8_enqueue_12 : decode cX8_enqueue 12 = .ok (.goto 4, 3) := by decide +kernel
theorem dX8_enqueue_15 : decode cX8_enqueue 15 = .ok (.iconst 0, 1) := by decide +kernel
theorem dX8_enqueue_16 : decode cX8_enqueue 16 = .ok (.ireturn, 1) := by decide +kernel
theorem dX8_rebase_0 : decode cX8_rebase 0 = .ok (.aload_n 0, 1) := by decide +kernel
theorem dX8_rebase_1 : decode cX8_rebase 1 = .ok (.bipush 6, 2) := by decide +kernel
theorem dX8_rebase_3 : decode cX8_rebase 3 = .ok (.iload_n 1, 1) := by decide +kernel
theorem dX8_rebase_4 : decode cX8_rebase 4 = .ok (.iconst 0, 1) := by decide +kernel
theorem dX8_rebase_5 : decode cX8_rebase 5 = .ok (.iconst 0, 1) := by decide +kernel
theorem dX8_rebase_6 : decode cX8_rebase 6 = .ok (.invokevirtual 235, 3) := by decide +kernel
theorem dX8_rebase_9 : decode cX8_rebase 9 = .ok (.ifCond .lt 7, 3) := by decide +kernel
theorem dX8_rebase_12 : decode cX8_rebase 12 = .ok (.iconst 1, 1) := by decide +kernel
theorem dX8_rebase_13 : decode cX8_rebase 13 = .ok (.goto 4, 3) := by decide +kernel
theorem dX8_rebase_16 : decode cX8_rebase 16 = .ok (.iconst 0, 1) := by decide +kernel
theorem dX8_rebase_17 : decode cX8_rebase 17 = .ok (.ireturn, 1) := by decide +kernel
theorem dX8_claim_0 : decode cX8_claim 0 = .ok (.aload_n 0, 1) := by decide +kernel
theorem dX8_claim_1 : decode cX8_claim 1 = .ok (.bipush 7, 2) := by decide +kernel
theorem dX8_claim_3 : decode cX8_claim 3 = .ok (.iload_n 1, 1) := by decide +kernel
theorem dX8_claim_4 : decode cX8_claim 4 = .ok (.iconst 0, 1) := by decide +kernel
theorem dX8_claim_5 : decode cX8_claim 5 = .ok (.iconst 0, 1) := by decide +kernel
theorem dX8_claim_6 : decode cX8_claim 6 = .ok (.invokevirtual 235, 3) := by decide +kernel
theorem dX8_claim_9 : decode cX8_claim 9 = .ok (.ireturn, 1) := by decide +kernel
theorem dX8_report_0 : decode cX8_report 0 = .ok (.aload_n 0, 1) := by decide +kernel
theorem dX8_report_1 : decode cX8_report 1 = .ok (.bipush 8, 2) := by decide +kernel
theorem dX8_report_3 : decode cX8_report 3 = .ok (.iload_n 1, 1) := by decide +kernel
theorem dX8_report_4 : decode cX8_report 4 = .ok (.iload_n 2, 1) := by decide +kernel
theorem dX8_report_5 : decode cX8_report 5 = .ok (.ifCond .eq 7, 3) := by decide +kernel
theorem dX8_report_8 : decode cX8_report 8 = .ok (.iconst 1, 1) := by decide +kernel
theorem dX8_report_9 : decode cX8_report 9 = .ok (.goto 4, 3) := by decide +kernel
theorem dX8_report_12 : decode cX8_report 12 = .ok (.iconst 0, 1) := by decide +kernel
theorem dX8_report_13 : decode cX8_report 13 = .ok (.iconst 0, 1) := by decide +kernel
theorem dX8_report_14 : decode cX8_report 14 = .ok (.invokevirtual 235, 3) := by decide +kernel
theorem dX8_report_17 : decode cX8_report 17 = .ok (.ifCond .lt 7, 3) := by decide +kernel
theorem dX8_report_20 : decode cX8_report 20 = .ok (.iconst 1, 1) := by decide +kernel
theorem dX8_report_21 : decode cX8_report 21 = .ok (.goto 4, 3) := by decide +kernel
theorem dX8_report_24 : decode cX8_report 24 = .ok (.iconst 0, 1) := by decide +kernel
theorem dX8_report_25 : decode cX8_report 25 = .ok (.ireturn, 1) := by decide +kernel
theorem dX8_tick_0 : decode cX8_tick 0 = .ok (.aload_n 0, 1) := by decide +kernel
theorem dX8_tick_1 : decode cX8_tick 1 = .ok (.bipush 9, 2) := by decide +kernel
theorem dX8_tick_3 : decode cX8_tick 3 = .ok (.iload_n 1, 1) := by decide +kernel
theorem dX8_tick_4 : decode cX8_tick 4 = .ok (.iconst 0, 1) := by decide +kernel
theorem dX8_tick_5 : decode cX8_tick 5 = .ok (.iconst 0, 1) := by decide +kernel
theorem dX8_tick_6 : decode cX8_tick 6 = .ok (.invokevirtual 235, 3) := by decide +kernel
theorem dX8_tick_9 : decode cX8_tick 9 = .ok (.ireturn, 1) := by decide +kernel
theorem dX8_flush_0 : decode cX8_flush 0 = .ok (.aload_n 0, 1) := by decide +kernel
theorem dX8_flush_1 : decode cX8_flush 1 = .ok (.getfield 221, 3) := by decide +kernel
theorem dX8_flush_4 : decode cX8_flush 4 = .ok (.aload_n 0, 1) := by decide +kernel
theorem dX8_flush_5 : decode cX8_flush 5 = .ok (.getfield 228, 3) := by decide +kernel
theorem dX8_flush_8 : decode cX8_flush 8 = .ok (.isub, 1) := by decide +kernel
theorem dX8_flush_9 : decode cX8_flush 9 = .ok (.istore_n 1, 1) := by decide +kernel
theorem dX8_flush_10 : decode cX8_flush 10 = .ok (.aload_n 0, 1) := by decide +kernel
theorem dX8_flush_11 : decode cX8_flush 11 = .ok (.aload_n 0, 1) := by decide +kernel
theorem dX8_flush_12 : decode cX8_flush 12 = .ok (.getfield 221, 3) := by decide +kernel
theorem dX8_flush_15 : decode cX8_flush 15 = .ok (.putfield 228, 3) := by decide +kernel
theorem dX8_flush_18 : decode cX8_flush 18 = .ok (.iload_n 1, 1) := by decide +kernel
theorem dX8_flush_19 : decode cX8_flush 19 = .ok (.ireturn, 1) := by decide +kernel
theorem dX8_crash_0 : decode cX8_crash 0 = .ok (.aload_n 0, 1) := by decide +kernel
theorem dX8_crash_1 : decode cX8_crash 1 = .ok (.getfield 221, 3) := by decide +kernel
theorem dX8_crash_4 : decode cX8_crash 4 = .ok (.aload_n 0, 1) := by decide +kernel
theorem dX8_crash_5 : decode cX8_crash 5 = .ok (.getfield 228, 3) := by decide +kernel
theorem dX8_crash_8 : decode cX8_crash 8 = .ok (.isub, 1) := by decide +kernel
theorem dX8_crash_9 : decode cX8_crash 9 = .ok (.istore_n 2, 1) := by decide +kernel
theorem dX8_crash_10 : decode cX8_crash 10 = .ok (.iload_n 1, 1) := by decide +kernel
theorem dX8_crash_11 : decode cX8_crash 11 = .ok (.iconst 0, 1) := by decide +kernel
theorem dX8_crash_12 : decode cX8_crash 12 = .ok (.iload_n 2, 1) := by decide +kernel
theorem dX8_crash_13 : decode cX8_crash 13 = .ok (.invokestatic 65, 3) := by decide +kernel
theorem dX8_crash_16 : decode cX8_crash 16 = .ok (.istore_n 3, 1) := by decide +kernel
theorem dX8_crash_17 : decode cX8_crash 17 = .ok (.aload_n 0, 1) := by decide +kernel
theorem dX8_crash_18 : decode cX8_crash 18 = .ok (.aload_n 0, 1) := by decide +kernel
theorem dX8_crash_19 : decode cX8_crash 19 = .ok (.getfield 228, 3) := by decide +kernel
theorem dX8_crash_22 : decode cX8_crash 22 = .ok (.iload_n 3, 1) := by decide +kernel
theorem dX8_crash_23 : decode cX8_crash 23 = .ok (.iadd, 1) := by decide +kernel
theorem dX8_crash_24 : decode cX8_crash 24 = .ok (.putfield 221, 3) := by decide +kernel
theorem dX8_crash_27 : decode cX8_crash 27 = .ok (.aload_n 0, 1) := by decide +kernel
theorem dX8_crash_28 : decode cX8_crash 28 = .ok (.invokevirtual 82, 3) := by decide +kernel
theorem dX8_crash_31 : decode cX8_crash 31 = .ok (.iconst 0, 1) := by decide +kernel
theorem dX8_crash_32 : decode cX8_crash 32 = .ok (.istore 4, 2) := by decide +kernel
theorem dX8_crash_34 : decode cX8_crash 34 = .ok (.iload 4, 2) := by decide +kernel
theorem dX8_crash_36 : decode cX8_crash 36 = .ok (.aload_n 0, 1) := by decide +kernel
theorem dX8_crash_37 : decode cX8_crash 37 = .ok (.getfield 221, 3) := by decide +kernel
theorem dX8_crash_40 : decode cX8_crash 40 = .ok (.if_icmp .ge 47, 3) := by decide +kernel
theorem dX8_crash_43 : decode cX8_crash 43 = .ok (.aload_n 0, 1) := by decide +kernel
theorem dX8_crash_44 : decode cX8_crash 44 = .ok (.aload_n 0, 1) := by decide +kernel
theorem dX8_crash_45 : decode cX8_crash 45 = .ok (.getfield 7, 3) := by decide +kernel
theorem dX8_crash_48 : decode cX8_crash 48 = .ok (.iload 4, 2) := by decide +kernel
theorem dX8_crash_50 : decode cX8_crash 50 = .ok (.iaload, 1) := by decide +kernel
theorem dX8_crash_51 : decode cX8_crash 51 = .ok (.aload_n 0, 1) := by decide +kernel
theorem dX8_crash_52 : decode cX8_crash 52 = .ok (.getfield 13, 3) := by decide +kernel
theorem dX8_crash_55 : decode cX8_crash 55 = .ok (.iload 4, 2) := by decide +kernel
theorem dX8_crash_57 : decode cX8_crash 57 = .ok (.iaload, 1) := by decide +kernel
theorem dX8_crash_58 : decode cX8_crash 58 = .ok (.aload_n 0, 1) := by decide +kernel
theorem dX8_crash_59 : decode cX8_crash 59 = .ok (.getfield 16, 3) := by decide +kernel
theorem dX8_crash_62 : decode cX8_crash 62 = .ok (.iload 4, 2) := by decide +kernel
theorem dX8_crash_64 : decode cX8_crash 64 = .ok (.iaload, 1) := by decide +kernel
theorem dX8_crash_65 : decode cX8_crash 65 = .ok (.aload_n 0, 1) := by decide +kernel
theorem dX8_crash_66 : decode cX8_crash 66 = .ok (.getfield 19, 3) := by decide +kernel
theorem dX8_crash_69 : decode cX8_crash 69 = .ok (.iload 4, 2) := by decide +kernel
theorem dX8_crash_71 : decode cX8_crash 71 = .ok (.iaload, 1) := by decide +kernel
theorem dX8_crash_72 : decode cX8_crash 72 = .ok (.invokevirtual 224, 3) := by decide +kernel
theorem dX8_crash_75 : decode cX8_crash 75 = .ok (.istore 5, 2) := by decide +kernel
theorem dX8_crash_77 : decode cX8_crash 77 = .ok (.aload_n 0, 1) := by decide +kernel
theorem dX8_crash_78 : decode cX8_crash 78 = .ok (.invokevirtual 185, 3) := by decide +kernel
theorem dX8_crash_81 : decode cX8_crash 81 = .ok (.iinc 4 1, 3) := by decide +kernel
theorem dX8_crash_84 : decode cX8_crash 84 = .ok (.goto (-50), 3) := by decide +kernel
theorem dX8_crash_87 : decode cX8_crash 87 = .ok (.aload_n 0, 1) := by decide +kernel
theorem dX8_crash_88 : decode cX8_crash 88 = .ok (.invokevirtual 218, 3) := by decide +kernel
theorem dX8_crash_91 : decode cX8_crash 91 = .ok (.aload_n 0, 1) := by decide +kernel
theorem dX8_crash_92 : decode cX8_crash 92 = .ok (.invokevirtual 185, 3) := by decide +kernel
theorem dX8_crash_95 : decode cX8_crash 95 = .ok (.aload_n 0, 1) := by decide +kernel
theorem dX8_crash_96 : decode cX8_crash 96 = .ok (.bipush 10, 2) := by decide +kernel
theorem dX8_crash_98 : decode cX8_crash 98 = .ok (.iconst 0, 1) := by decide +kernel
theorem dX8_crash_99 : decode cX8_crash 99 = .ok (.iconst 0, 1) := by decide +kernel
theorem dX8_crash_100 : decode cX8_crash 100 = .ok (.iconst 0, 1) := by decide +kernel
theorem dX8_crash_101 : decode cX8_crash 101 = .ok (.invokevirtual 231, 3) := by decide +kernel
theorem dX8_crash_104 : decode cX8_crash 104 = .ok (.aload_n 0, 1) := by decide +kernel
theorem dX8_crash_105 : decode cX8_crash 105 = .ok (.aload_n 0, 1) := by decide +kernel
theorem dX8_crash_106 : decode cX8_crash 106 = .ok (.getfield 221, 3) := by decide +kernel
theorem dX8_crash_109 : decode cX8_crash 109 = .ok (.putfield 228, 3) := by decide +kernel
theorem dX8_crash_112 : decode cX8_crash 112 = .ok (.iload_n 2, 1) := by decide +kernel
theorem dX8_crash_113 : decode cX8_crash 113 = .ok (.iload_n 3, 1) := by decide +kernel
theorem dX8_crash_114 : decode cX8_crash 114 = .ok (.isub, 1) := by decide +kernel
theorem dX8_crash_115 : decode cX8_crash 115 = .ok (.ireturn, 1) := by decide +kernel
theorem dX8_state_0 : decode cX8_state 0 = .ok (.aload_n 0, 1) := by decide +kernel
theorem dX8_state_1 : decode cX8_state 1 = .ok (.iload_n 1, 1) := by decide +kernel
theorem dX8_state_2 : decode cX8_state 2 = .ok (.invokevirtual 166, 3) := by decide +kernel
theorem dX8_state_5 : decode cX8_state 5 = .ok (.ifCond .eq 12, 3) := by decide +kernel
theorem dX8_state_8 : decode cX8_state 8 = .ok (.aload_n 0, 1) := by decide +kernel
theorem dX8_state_9 : decode cX8_state 9 = .ok (.getfield 31, 3) := by decide +kernel
theorem dX8_state_12 : decode cX8_state 12 = .ok (.iload_n 1, 1) := by decide +kernel
theorem dX8_state_13 : decode cX8_state 13 = .ok (.iaload, 1) := by decide +kernel
theorem dX8_state_14 : decode cX8_state 14 = .ok (.goto 4, 3) := by decide +kernel
theorem dX8_state_17 : decode cX8_state 17 = .ok (.iconst (-1), 1) := by decide +kernel
theorem dX8_state_18 : decode cX8_state 18 = .ok (.ireturn, 1) := by decide +kernel
theorem dX8_cause_0 : decode cX8_cause 0 = .ok (.aload_n 0, 1) := by decide +kernel
theorem dX8_cause_1 : decode cX8_cause 1 = .ok (.iload_n 1, 1) := by decide +kernel
theorem dX8_cause_2 : decode cX8_cause 2 = .ok (.invokevirtual 166, 3) := by decide +kernel
theorem dX8_cause_5 : decode cX8_cause 5 = .ok (.ifCond .eq 12, 3) := by decide +kernel
theorem dX8_cause_8 : decode cX8_cause 8 = .ok (.aload_n 0, 1) := by decide +kernel
theorem dX8_cause_9 : decode cX8_cause 9 = .ok (.getfield 34, 3) := by decide +kernel
theorem dX8_cause_12 : decode cX8_cause 12 = .ok (.iload_n 1, 1) := by decide +kernel
theorem dX8_cause_13 : decode cX8_cause 13 = .ok (.iaload, 1) := by decide +kernel
theorem dX8_cause_14 : decode cX8_cause 14 = .ok (.goto 4, 3) := by decide +kernel
theorem dX8_cause_17 : decode cX8_cause 17 = .ok (.iconst (-1), 1) := by decide +kernel
theorem dX8_cause_18 : decode cX8_cause 18 = .ok (.ireturn, 1) := by decide +kernel
theorem dX8_standing_0 : decode cX8_standing 0 = .ok (.aload_n 0, 1) := by decide +kernel
theorem dX8_standing_1 : decode cX8_standing 1 = .ok (.iload_n 1, 1) := by decide +kernel
theorem dX8_standing_2 : decode cX8_standing 2 = .ok (.invokevirtual 166, 3) := by decide +kernel
theorem dX8_standing_5 : decode cX8_standing 5 = .ok (.ifCond .eq 22, 3) := by decide +kernel
theorem dX8_standing_8 : decode cX8_standing 8 = .ok (.aload_n 0, 1) := by decide +kernel
theorem dX8_standing_9 : decode cX8_standing 9 = .ok (.iload_n 1, 1) := by decide +kernel
theorem dX8_standing_10 : decode cX8_standing 10 = .ok (.iconst 1, 1) := by decide +kernel
theorem dX8_standing_11 : decode cX8_standing 11 = .ok (.invokevirtual 175, 3) := by decide +kernel
theorem dX8_standing_14 : decode cX8_standing 14 = .ok (.bipush 10, 2) := by decide +kernel
theorem dX8_standing_16 : decode cX8_standing 16 = .ok (.aload_n 0, 1) := by decide +kernel
theorem dX8_standing_17 : decode cX8_standing 17 = .ok (.iload_n 1, 1) := by decide +kernel
theorem dX8_standing_18 : decode cX8_standing 18 = .ok (.iconst 2, 1) := by decide +kernel
theorem dX8_standing_19 : decode cX8_standing 19 = .ok (.invokevirtual 175, 3) := by decide +kernel
theorem dX8_standing_22 : decode cX8_standing 22 = .ok (.imul, 1) := by decide +kernel
theorem dX8_standing_23 : decode cX8_standing 23 = .ok (.iadd, 1) := by decide +kernel
theorem dX8_standing_24 : decode cX8_standing 24 = .ok (.goto 4, 3) := by decide +kernel
theorem dX8_standing_27 : decode cX8_standing 27 = .ok (.iconst (-1), 1) := by decide +kernel
theorem dX8_standing_28 : decode cX8_standing 28 = .ok (.ireturn, 1) := by decide +kernel
theorem dX8_file_0 : decode cX8_file 0 = .ok (.iload_n 2, 1) := by decide +kernel
theorem dX8_file_1 : decode cX8_file 1 = .ok (.ifCond .lt 35, 3) := by decide +kernel
theorem dX8_file_4 : decode cX8_file 4 = .ok (.iload_n 2, 1) := by decide +kernel
theorem dX8_file_5 : decode cX8_file 5 = .ok (.iconst 5, 1) := by decide +kernel
theorem dX8_file_6 : decode cX8_file 6 = .ok (.if_icmp .gt 30, 3) := by decide +kernel
theorem dX8_file_9 : decode cX8_file 9 = .ok (.iload_n 1, 1) := by decide +kernel
theorem dX8_file_10 : decode cX8_file 10 = .ok (.bipush (-2), 2) := by decide +kernel
theorem dX8_file_12 : decode cX8_file 12 = .ok (.if_icmp .lt 24, 3) := by decide +kernel
theorem dX8_file_15 : decode cX8_file 15 = .ok (.iload_n 1, 1) := by decide +kernel
theorem dX8_file_16 : decode cX8_file 16 = .ok (.aload_n 0, 1) := by decide +kernel
theorem dX8_file_17 : decode cX8_file 17 = .ok (.getfield 91, 3) := by decide +kernel
theorem dX8_file_20 : decode cX8_file 20 = .ok (.if_icmp .ge 16, 3) := by decide +kernel
theorem dX8_file_23 : decode cX8_file 23 = .ok (.iload_n 1, 1) := by decide +kernel
theorem dX8_file_24 : decode cX8_file 24 = .ok (.bipush (-2), 2) := by decide +kernel
theorem dX8_file_26 : decode cX8_file 26 = .ok (.if_icmp .ne 12, 3) := by decide +kernel
theorem dX8_file_29 : decode cX8_file 29 = .ok (.aload_n 0, 1) := by decide +kernel
theorem dX8_file_30 : decode cX8_file 30 = .ok (.getfield 100, 3) := by decide +kernel
theorem dX8_file_33 : decode cX8_file 33 = .ok (.ifCond .ne 5, 3) := by decide +kernel
theorem dX8_file_36 : decode cX8_file 36 = .ok (.iconst 0, 1) := by decide +kernel
theorem dX8_file_37 : decode cX8_file 37 = .ok (.ireturn, 1) := by decide +kernel
theorem dX8_file_38 : decode cX8_file 38 = .ok (.aload_n 0, 1) := by decide +kernel
theorem dX8_file_39 : decode cX8_file 39 = .ok (.invokevirtual 140, 3) := by decide +kernel
theorem dX8_file_42 : decode cX8_file 42 = .ok (.iload_n 1, 1) := by decide +kernel
theorem dX8_file_43 : decode cX8_file 43 = .ok (.ifCond .lt 17, 3) := by decide +kernel
theorem dX8_file_46 : decode cX8_file 46 = .ok (.aload_n 0, 1) := by decide +kernel
theorem dX8_file_47 : decode cX8_file 47 = .ok (.getfield 28, 3) := by decide +kernel
theorem dX8_file_50 : decode cX8_file 50 = .ok (.bipush 6, 2) := by decide +kernel
theorem dX8_file_52 : decode cX8_file 52 = .ok (.iload_n 1, 1) := by decide +kernel
theorem dX8_file_53 : decode cX8_file 53 = .ok (.imul, 1) := by decide +kernel
theorem dX8_file_54 : decode cX8_file 54 = .ok (.iload_n 2, 1) := by decide +kernel
theorem dX8_file_55 : decode cX8_file 55 = .ok (.iadd, 1) := by decide +kernel
theorem dX8_file_56 : decode cX8_file 56 = .ok (.iaload, 1) := by decide +kernel
theorem dX8_file_57 : decode cX8_file 57 = .ok (.goto 23, 3) := by decide +kernel
theorem dX8_file_60 : decode cX8_file 60 = .ok (.iload_n 1, 1) := by decide +kernel
theorem dX8_file_61 : decode cX8_file 61 = .ok (.iconst (-1), 1) := by decide +kernel
theorem dX8_file_62 : decode cX8_file 62 = .ok (.if_icmp .ne 12, 3) := by decide +kernel
theorem dX8_file_65 : decode cX8_file 65 = .ok (.aload_n 0, 1) := by decide +kernel
theorem dX8_file_66 : decode cX8_file 66 = .ok (.getfield 22, 3) := by decide +kernel
theorem dX8_file_69 : decode cX8_file 69 = .ok (.iload_n 2, 1) := by decide +kernel
theorem dX8_file_70 : decode cX8_file 70 = .ok (.iaload, 1) := by decide +kernel
theorem dX8_file_71 : decode cX8_file 71 = .ok (.goto 9, 3) := by decide +kernel
theorem dX8_file_74 : decode cX8_file 74 = .ok (.aload_n 0, 1) := by decide +kernel
theorem dX8_file_75 : decode cX8_file 75 = .ok (.getfield 58, 3) := by decide +kernel
theorem dX8_file_78 : decode cX8_file 78 = .ok (.iload_n 2, 1) := by decide +kernel
theorem dX8_file_79 : decode cX8_file 79 = .ok (.iaload, 1) := by decide +kernel
theorem dX8_file_80 : decode cX8_file 80 = .ok (.ireturn, 1) := by decide +kernel
theorem dX8_queueAt_0 : decode cX8_queueAt 0 = .ok (.iload_n 1, 1) := by decide +kernel
theorem dX8_queueAt_1 : decode cX8_queueAt 1 = .ok (.ifCond .lt 20, 3) := by decide +kernel
theorem dX8_queueAt_4 : decode cX8_queueAt 4 = .ok (.iload_n 1, 1) := by decide +kernel
theorem dX8_queueAt_5 : decode cX8_queueAt 5 = .ok (.aload_n 0, 1) := by decide +kernel
theorem dX8_queueAt_6 : decode cX8_queueAt 6 = .ok (.getfield 94, 3) := by decide +kernel
theorem dX8_queueAt_9 : decode cX8_queueAt 9 = .ok (.if_icmp .ge 12, 3) := by decide +kernel
theorem dX8_queueAt_12 : decode cX8_queueAt 12 = .ok (.aload_n 0, 1) := by decide +kernel
theorem dX8_queueAt_13 : decode cX8_queueAt 13 = .ok (.getfield 40, 3) := by decide +kernel
theorem dX8_queueAt_16 : decode cX8_queueAt 16 = .ok (.iload_n 1, 1) := by decide +kernel
theorem dX8_queueAt_17 : decode cX8_queueAt 17 = .ok (.iaload, 1) := by decide +kernel
theorem dX8_queueAt_18 : decode cX8_queueAt 18 = .ok (.goto 4, 3) := by decide +kernel
theorem dX8_queueAt_21 : decode cX8_queueAt 21 = .ok (.iconst (-1), 1) := by decide +kernel
theorem dX8_queueAt_22 : decode cX8_queueAt 22 = .ok (.ireturn, 1) := by decide +kernel
theorem dX8_batch_0 : decode cX8_batch 0 = .ok (.aload_n 0, 1) := by decide +kernel
theorem dX8_batch_1 : decode cX8_batch 1 = .ok (.getfield 100, 3) := by decide +kernel
theorem dX8_batch_4 : decode cX8_batch 4 = .ok (.ireturn, 1) := by decide +kernel
theorem dX8_job_0 : decode cX8_job 0 = .ok (.aload_n 0, 1) := by decide +kernel
theorem dX8_job_1 : decode cX8_job 1 = .ok (.getfield 100, 3) := by decide +kernel
theorem dX8_job_4 : decode cX8_job 4 = .ok (.ifCond .eq 12, 3) := by decide +kernel
theorem dX8_job_7 : decode cX8_job 7 = .ok (.iload_n 1, 1) := by decide +kernel
theorem dX8_job_8 : decode cX8_job 8 = .ok (.ifCond .lt 8, 3) := by decide +kernel
theorem dX8_job_11 : decode cX8_job 11 = .ok (.iload_n 1, 1) := by decide +kernel
theorem dX8_job_12 : decode cX8_job 12 = .ok (.iconst 3, 1) := by decide +kernel
theorem dX8_job_13 : decode cX8_job 13 = .ok (.if_icmp .le 7, 3) := by decide +kernel
theorem dX8_job_16 : decode cX8_job 16 = .ok (.iconst 0, 1) := by decide +kernel
theorem dX8_job_17 : decode cX8_job 17 = .ok (.goto 9, 3) := by decide +kernel
theorem dX8_job_20 : decode cX8_job 20 = .ok (.aload_n 0, 1) := by decide +kernel
theorem dX8_job_21 : decode cX8_job 21 = .ok (.getfield 46, 3) := by decide +kernel
theorem dX8_job_24 : decode cX8_job 24 = .ok (.iload_n 1, 1) := by decide +kernel
theorem dX8_job_25 : decode cX8_job 25 = .ok (.iaload, 1) := by decide +kernel
theorem dX8_job_26 : decode cX8_job 26 = .ok (.ireturn, 1) := by decide +kernel
theorem dX8_version_0 : decode cX8_version 0 = .ok (.aload_n 0, 1) := by decide +kernel
theorem dX8_version_1 : decode cX8_version 1 = .ok (.getfield 85, 3) := by decide +kernel
theorem dX8_version_4 : decode cX8_version 4 = .ok (.ireturn, 1) := by decide +kernel
theorem dJ6_bitCount_0f7a4_0 : decode cJ6_bitCount_0f7a4 0 = .ok (.iload_n 0, 1) := by decide +kernel
theorem dJ6_bitCount_0f7a4_1 : decode cJ6_bitCount_0f7a4 1 = .ok (.iload_n 0, 1) := by decide +kernel
theorem dJ6_bitCount_0f7a4_2 : decode cJ6_bitCount_0f7a4 2 = .ok (.iconst 1, 1) := by decide +kernel
theorem dJ6_bitCount_0f7a4_3 : decode cJ6_bitCount_0f7a4 3 = .ok (.iushr, 1) := by decide +kernel
theorem dJ6_bitCount_0f7a4_4 : decode cJ6_bitCount_0f7a4 4 = .ok (.ldc_w 265, 3) := by decide +kernel
theorem dJ6_bitCount_0f7a4_7 : decode cJ6_bitCount_0f7a4 7 = .ok (.iand, 1) := by decide +kernel
theorem dJ6_bitCount_0f7a4_8 : decode cJ6_bitCount_0f7a4 8 = .ok (.isub, 1) := by decide +kernel
theorem dJ6_bitCount_0f7a4_9 : decode cJ6_bitCount_0f7a4 9 = .ok (.istore_n 0, 1) := by decide +kernel
theorem dJ6_bitCount_0f7a4_10 : decode cJ6_bitCount_0f7a4 10 = .ok (.iload_n 0, 1) := by decide +kernel
theorem dJ6_bitCount_0f7a4_11 : decode cJ6_bitCount_0f7a4 11 = .ok (.ldc_w 266, 3) := by decide +kernel
theorem dJ6_bitCount_0f7a4_14 : decode cJ6_bitCount_0f7a4 14 = .ok (.iand, 1) := by decide +kernel
theorem dJ6_bitCount_0f7a4_15 : decode cJ6_bitCount_0f7a4 15 = .ok (.iload_n 0, 1) := by decide +kernel
theorem dJ6_bitCount_0f7a4_16 : decode cJ6_bitCount_0f7a4 16 = .ok (.iconst 2, 1) := by decide +kernel
theorem dJ6_bitCount_0f7a4_17 : decode cJ6_bitCount_0f7a4 17 = .ok (.iushr, 1) := by decide +kernel
theorem dJ6_bitCount_0f7a4_18 : decode cJ6_bitCount_0f7a4 18 = .ok (.ldc_w 266, 3) := by decide +kernel
theorem dJ6_bitCount_0f7a4_21 : decode cJ6_bitCount_0f7a4 21 = .ok (.iand, 1) := by decide +kernel
theorem dJ6_bitCount_0f7a4_22 : decode cJ6_bitCount_0f7a4 22 = .ok (.iadd, 1) := by decide +kernel
theorem dJ6_bitCount_0f7a4_23 : decode cJ6_bitCount_0f7a4 23 = .ok (.istore_n 0, 1) := by decide +kernel
theorem dJ6_bitCount_0f7a4_24 : decode cJ6_bitCount_0f7a4 24 = .ok (.iload_n 0, 1) := by decide +kernel
theorem dJ6_bitCount_0f7a4_25 : decode cJ6_bitCount_0f7a4 25 = .ok (.iload_n 0, 1) := by decide +kernel
theorem dJ6_bitCount_0f7a4_26 : decode cJ6_bitCount_0f7a4 26 = .ok (.iconst 4, 1) := by decide +kernel
theorem dJ6_bitCount_0f7a4_27 : decode cJ6_bitCount_0f7a4 27 = .ok (.iushr, 1) := by decide +kernel
theorem dJ6_bitCount_0f7a4_28 : decode cJ6_bitCount_0f7a4 28 = .ok (.iadd, 1) := by decide +kernel
theorem dJ6_bitCount_0f7a4_29 : decode cJ6_bitCount_0f7a4 29 = .ok (.ldc_w 267, 3) := by decide +kernel
theorem dJ6_bitCount_0f7a4_32 : decode cJ6_bitCount_0f7a4 32 = .ok (.iand, 1) := by decide +kernel
theorem dJ6_bitCount_0f7a4_33 : decode cJ6_bitCount_0f7a4 33 = .ok (.istore_n 0, 1) := by decide +kernel
theorem dJ6_bitCount_0f7a4_34 : decode cJ6_bitCount_0f7a4 34 = .ok (.iload_n 0, 1) := by decide +kernel
theorem dJ6_bitCount_0f7a4_35 : decode cJ6_bitCount_0f7a4 35 = .ok (.iload_n 0, 1) := by decide +kernel
theorem dJ6_bitCount_0f7a4_36 : decode cJ6_bitCount_0f7a4 36 = .ok (.bipush 8, 2) := by decide +kernel
theorem dJ6_bitCount_0f7a4_38 : decode cJ6_bitCount_0f7a4 38 = .ok (.iushr, 1) := by decide +kernel
theorem dJ6_bitCount_0f7a4_39 : decode cJ6_bitCount_0f7a4 39 = .ok (.iadd, 1) := by decide +kernel
theorem dJ6_bitCount_0f7a4_40 : decode cJ6_bitCount_0f7a4 40 = .ok (.istore_n 0, 1) := by decide +kernel
theorem dJ6_bitCount_0f7a4_41 : decode cJ6_bitCount_0f7a4 41 = .ok (.iload_n 0, 1) := by decide +kernel
theorem dJ6_bitCount_0f7a4_42 : decode cJ6_bitCount_0f7a4 42 = .ok (.iload_n 0, 1) := by decide +kernel
theorem dJ6_bitCount_0f7a4_43 : decode cJ6_bitCount_0f7a4 43 = .ok (.bipush 16, 2) := by decide +kernel
theorem dJ6_bitCount_0f7a4_45 : decode cJ6_bitCount_0f7a4 45 = .ok (.iushr, 1) := by decide +kernel
theorem dJ6_bitCount_0f7a4_46 : decode cJ6_bitCount_0f7a4 46 = .ok (.iadd, 1) := by decide +kernel
theorem dJ6_bitCount_0f7a4_47 : decode cJ6_bitCount_0f7a4 47 = .ok (.istore_n 0, 1) := by decide +kernel
theorem dJ6_bitCount_0f7a4_48 : decode cJ6_bitCount_0f7a4 48 = .ok (.iload_n 0, 1) := by decide +kernel
theorem dJ6_bitCount_0f7a4_49 : decode cJ6_bitCount_0f7a4 49 = .ok (.bipush 63, 2) := by decide +kernel
theorem dJ6_bitCount_0f7a4_51 : decode cJ6_bitCount_0f7a4 51 = .ok (.iand, 1) := by decide +kernel
theorem dJ6_bitCount_0f7a4_52 : decode cJ6_bitCount_0f7a4 52 = .ok (.ireturn, 1) := by decide +kernel
theorem dJ9_max_7cf53_0 : decode cJ9_max_7cf53 0 = .ok (.iload_n 0, 1) := by decide +kernel
theorem dJ9_max_7cf53_1 : decode cJ9_max_7cf53 1 = .ok (.iload_n 1, 1) := by decide +kernel
theorem dJ9_max_7cf53_2 : decode cJ9_max_7cf53 2 = .ok (.if_icmp .lt 7, 3) := by decide +kernel
theorem dJ9_max_7cf53_5 : decode cJ9_max_7cf53 5 = .ok (.iload_n 0, 1) := by decide +kernel
theorem dJ9_max_7cf53_6 : decode cJ9_max_7cf53 6 = .ok (.goto 4, 3) := by decide +kernel
theorem dJ9_max_7cf53_9 : decode cJ9_max_7cf53 9 = .ok (.iload_n 1, 1) := by decide +kernel
theorem dJ9_max_7cf53_10 : decode cJ9_max_7cf53 10 = .ok (.ireturn, 1) := by decide +kernel
theorem dJ9_min_7cf53_0 : decode cJ9_min_7cf53 0 = .ok (.iload_n 0, 1) := by decide +kernel
theorem dJ9_min_7cf53_1 : decode cJ9_min_7cf53 1 = .ok (.iload_n 1, 1) := by decide +kernel
theorem dJ9_min_7cf53_2 : decode cJ9_min_7cf53 2 = .ok (.if_icmp .gt 7, 3) := by decide +kernel
theorem dJ9_min_7cf53_5 : decode cJ9_min_7cf53 5 = .ok (.iload_n 0, 1) := by decide +kernel
theorem dJ9_min_7cf53_6 : decode cJ9_min_7cf53 6 = .ok (.goto 4, 3) := by decide +kernel
theorem dJ9_min_7cf53_9 : decode cJ9_min_7cf53 9 = .ok (.iload_n 1, 1) := by decide +kernel
theorem dJ9_min_7cf53_10 : decode cJ9_min_7cf53 10 = .ok (.ireturn, 1) := by decide +kernel
theorem dL_cell_0 : decode cL_cell 0 = .ok (.iload_n 1, 1) := by decide +kernel
theorem dL_cell_1 : decode cL_cell 1 = .ok (.aload_n 0, 1) := by decide +kernel
theorem dL_cell_2 : decode cL_cell 2 = .ok (.arraylength, 1) := by decide +kernel
theorem dL_cell_3 : decode cL_cell 3 = .ok (.if_icmp .ge 9, 3) := by decide +kernel
theorem dL_cell_6 : decode cL_cell 6 = .ok (.aload_n 0, 1) := by decide +kernel
theorem dL_cell_7 : decode cL_cell 7 = .ok (.iload_n 1, 1) := by decide +kernel
theorem dL_cell_8 : decode cL_cell 8 = .ok (.iaload, 1) := by decide +kernel
theorem dL_cell_9 : decode cL_cell 9 = .ok (.goto 4, 3) := by decide +kernel
theorem dL_cell_12 : decode cL_cell 12 = .ok (.iconst 0, 1) := by decide +kernel
theorem dL_cell_13 : decode cL_cell 13 = .ok (.ireturn, 1) := by decide +kernel
theorem dL_law_0 : decode cL_law 0 = .ok (.new 7, 3) := by decide +kernel
theorem dL_law_3 : decode cL_law 3 = .ok (.dup, 1) := by decide +kernel
theorem dL_law_4 : decode cL_law 4 = .ok (.aload_n 0, 1) := by decide +kernel
theorem dL_law_5 : decode cL_law 5 = .ok (.iconst 0, 1) := by decide +kernel
theorem dL_law_6 : decode cL_law 6 = .ok (.invokestatic 9, 3) := by decide +kernel
theorem dL_law_9 : decode cL_law 9 = .ok (.aload_n 0, 1) := by decide +kernel
theorem dL_law_10 : decode cL_law 10 = .ok (.iconst 1, 1) := by decide +kernel
theorem dL_law_11 : decode cL_law 11 = .ok (.invokestatic 9, 3) := by decide +kernel
theorem dL_law_14 : decode cL_law 14 = .ok (.aload_n 0, 1) := by decide +kernel
theorem dL_law_15 : decode cL_law 15 = .ok (.iconst 2, 1) := by decide +kernel
theorem dL_law_16 : decode cL_law 16 = .ok (.invokestatic 9, 3) := by decide +kernel
theorem dL_law_19 : decode cL_law 19 = .ok (.aload_n 0, 1) := by decide +kernel
theorem dL_law_20 : decode cL_law 20 = .ok (.iconst 3, 1) := by decide +kernel
theorem dL_law_21 : decode cL_law 21 = .ok (.invokestatic 9, 3) := by decide +kernel
theorem dL_law_24 : decode cL_law 24 = .ok (.invokespecial 15, 3) := by decide +kernel
theorem dL_law_27 : decode cL_law 27 = .ok (.astore_n 1, 1) := by decide +kernel
theorem dL_law_28 : decode cL_law 28 = .ok (.new 18, 3) := by decide +kernel
theorem dL_law_31 : decode cL_law 31 = .ok (.dup, 1) := by decide +kernel
theorem dL_law_32 : decode cL_law 32 = .ok (.aload_n 0, 1) := by decide +kernel
theorem dL_law_33 : decode cL_law 33 = .ok (.iconst 0, 1) := by decide +kernel
theorem dL_law_34 : decode cL_law 34 = .ok (.invokestatic 9, 3) := by decide +kernel
theorem dL_law_37 : decode cL_law 37 = .ok (.aload_n 0, 1) := by decide +kernel
theorem dL_law_38 : decode cL_law 38 = .ok (.iconst 1, 1) := by decide +kernel
theorem dL_law_39 : decode cL_law 39 = .ok (.invokestatic 9, 3) := by decide +kernel
theorem dL_law_42 : decode cL_law 42 = .ok (.aload_n 0, 1) := by decide +kernel
theorem dL_law_43 : decode cL_law 43 = .ok (.iconst 2, 1) := by decide +kernel
theorem dL_law_44 : decode cL_law 44 = .ok (.invokestatic 9, 3) := by decide +kernel
theorem dL_law_47 : decode cL_law 47 = .ok (.aload_n 0, 1) := by decide +kernel
theorem dL_law_48 : decode cL_law 48 = .ok (.iconst 3, 1) := by decide +kernel
theorem dL_law_49 : decode cL_law 49 = .ok (.invokestatic 9, 3) := by decide +kernel
theorem dL_law_52 : decode cL_law 52 = .ok (.invokespecial 20, 3) := by decide +kernel
theorem dL_law_55 : decode cL_law 55 = .ok (.astore_n 2, 1) := by decide +kernel
theorem dL_law_56 : decode cL_law 56 = .ok (.iconst 4, 1) := by decide +kernel
theorem dL_law_57 : decode cL_law 57 = .ok (.istore_n 3, 1) := by decide +kernel
theorem dL_law_58 : decode cL_law 58 = .ok (.iload_n 3, 1) := by decide +kernel
theorem dL_law_59 : decode cL_law 59 = .ok (.aload_n 0, 1) := by decide +kernel
theorem dL_law_60 : decode cL_law 60 = .ok (.arraylength, 1) := by decide +kernel
theorem dL_law_61 : decode cL_law 61 = .ok (.iconst 4, 1) := by decide +kernel
theorem dL_law_62 : decode cL_law 62 = .ok (.isub, 1) := by decide +kernel
theorem dL_law_63 : decode cL_law 63 = .ok (.if_icmp .gt 607, 3) := by decide +kernel
theorem dL_law_66 : decode cL_law 66 = .ok (.aload_n 0, 1) := by decide +kernel
theorem dL_law_67 : decode cL_law 67 = .ok (.iload_n 3, 1) := by decide +kernel
theorem dL_law_68 : decode cL_law 68 = .ok (.iaload, 1) := by decide +kernel
theorem dL_law_69 : decode cL_law 69 = .ok (.bipush 31, 2) := by decide +kernel
theorem dL_law_71 : decode cL_law 71 = .ok (.iand, 1) := by decide +kernel
theorem dL_law_72 : decode cL_law 72 = .ok (.tableswitch 592 0 19 #[96, 109, 152, 185, 218, 241, 264, 287, 310, 359, 382, 395, 418, 441, 464, 487, 520, 543, 556, 579], 96) := by decide +kernel
theorem dL_law_168 : decode cL_law 168 = .ok (.aload_n 1, 1) := by decide +kernel
theorem dL_law_169 : decode cL_law 169 = .ok (.invokevirtual 21, 3) := by decide +kernel
theorem dL_law_172 : decode cL_law 172 = .ok (.aload_n 2, 1) := by decide +kernel
theorem dL_law_173 : decode cL_law 173 = .ok (.invokevirtual 25, 3) := by decide +kernel
theorem dL_law_176 : decode cL_law 176 = .ok (.if_icmp .eq 488, 3) := by decide +kernel
theorem dL_law_179 : decode cL_law 179 = .ok (.iconst 0, 1) := by decide +kernel
theorem dL_law_180 : decode cL_law 180 = .ok (.ireturn, 1) := by decide +kernel
theorem dL_law_181 : decode cL_law 181 = .ok (.aload_n 1, 1) := by decide +kernel
theorem dL_law_182 : decode cL_law 182 = .ok (.aload_n 0, 1) := by decide +kernel
theorem dL_law_183 : decode cL_law 183 = .ok (.iload_n 3, 1) := by decide +kernel
theorem dL_law_184 : decode cL_law 184 = .ok (.iconst 1, 1) := by decide +kernel
theorem dL_law_185 : decode cL_law 185 = .ok (.iadd, 1) := by decide +kernel
theorem dL_law_186 : decode cL_law 186 = .ok (.iaload, 1) := by decide +kernel
theorem dL_law_187 : decode cL_law 187 = .ok (.aload_n 0, 1) := by decide +kernel
theorem dL_law_188 : decode cL_law 188 = .ok (.iload_n 3, 1) := by decide +kernel
theorem dL_law_189 : decode cL_law 189 = .ok (.iconst 2, 1) := by decide +kernel
theorem dL_law_190 : decode cL_law 190 = .ok (.iadd, 1) := by decide +kernel
theorem dL_law_191 : decode cL_law 191 = .ok (.iaload, 1) := by decide +kernel
theorem dL_law_192 : decode cL_law 192 = .ok (.aload_n 0, 1) := by decide +kernel
theorem dL_law_193 : decode cL_law 193 = .ok (.iload_n 3, 1) := by decide +kernel
theorem dL_law_194 : decode cL_law 194 = .ok (.iconst 3, 1) := by decide +kernel
theorem dL_law_195 : decode cL_law 195 = .ok (.iadd, 1) := by decide +kernel
theorem dL_law_196 : decode cL_law 196 = .ok (.iaload, 1) := by decide +kernel
theorem dL_law_197 : decode cL_law 197 = .ok (.invokevirtual 26, 3) := by decide +kernel
theorem dL_law_200 : decode cL_law 200 = .ok (.aload_n 2, 1) := by decide +kernel
theorem dL_law_201 : decode cL_law 201 = .ok (.aload_n 0, 1) := by decide +kernel
theorem dL_law_202 : decode cL_law 202 = .ok (.iload_n 3, 1) := by decide +kernel
theorem dL_law_203 : decode cL_law 203 = .ok (.iconst 1, 1) := by decide +kernel
theorem dL_law_204 : decode cL_law 204 = .ok (.iadd, 1) := by decide +kernel
theorem dL_law_205 : decode cL_law 205 = .ok (.iaload, 1) := by decide +kernel
theorem dL_law_206 : decode cL_law 206 = .ok (.aload_n 0, 1) := by decide +kernel
theorem dL_law_207 : decode cL_law 207 = .ok (.iload_n 3, 1) := by decide +kernel
theorem dL_law_208 : decode cL_law 208 = .ok (.iconst 2, 1) := by decide +kernel
theorem dL_law_209 : decode cL_law 209 = .ok (.iadd, 1) := by decide +kernel
theorem dL_law_210 : decode cL_law 210 = .ok (.iaload, 1) := by decide +kernel
theorem dL_law_211 : decode cL_law 211 = .ok (.aload_n 0, 1) := by decide +kernel
theorem dL_law_212 : decode cL_law 212 = .ok (.iload_n 3, 1) := by decide +kernel
theorem dL_law_213 : decode cL_law 213 = .ok (.iconst 3, 1) := by decide +kernel
theorem dL_law_214 : decode cL_law 214 = .ok (.iadd, 1) := by decide +kernel
theorem dL_law_215 : decode cL_law 215 = .ok (.iaload, 1) := by decide +kernel
theorem dL_law_216 : decode cL_law 216 = .ok (.invokevirtual 30, 3) := by decide +kernel
theorem dL_law_219 : decode cL_law 219 = .ok (.if_icmp .eq 445, 3) := by decide +kernel
theorem dL_law_222 : decode cL_law 222 = .ok (.iconst 0, 1) := by decide +kernel
theorem dL_law_223 : decode cL_law 223 = .ok (.ireturn, 1) := by decide +kernel
theorem dL_law_224 : decode cL_law 224 = .ok (.aload_n 1, 1) := by decide +kernel
theorem dL_law_225 : decode cL_law 225 = .ok (.aload_n 0, 1) := by decide +kernel
theorem dL_law_226 : decode cL_law 226 = .ok (.iload_n 3, 1) := by decide +kernel
theorem dL_law_227 : decode cL_law 227 = .ok (.iconst 1, 1) := by decide +kernel
theorem dL_law_228 : decode cL_law 228 = .ok (.iadd, 1) := by decide +kernel
theorem dL_law_229 : decode cL_law 229 = .ok (.iaload, 1) := by decide +kernel
theorem dL_law_230 : decode cL_law 230 = .ok (.aload_n 0, 1) := by decide +kernel
theorem dL_law_231 : decode cL_law 231 = .ok (.iload_n 3, 1) := by decide +kernel
theorem dL_law_232 : decode cL_law 232 = .ok (.iconst 2, 1) := by decide +kernel
theorem dL_law_233 : decode cL_law 233 = .ok (.iadd, 1) := by decide +kernel
theorem dL_law_234 : decode cL_law 234 = .ok (.iaload, 1) := by decide +kernel
theorem dL_law_235 : decode cL_law 235 = .ok (.invokevirtual 31, 3) := by decide +kernel
theorem dL_law_238 : decode cL_law 238 = .ok (.aload_n 2, 1) := by decide +kernel
theorem dL_law_239 : decode cL_law 239 = .ok (.aload_n 0, 1) := by decide +kernel
theorem dL_law_240 : decode cL_law 240 = .ok (.iload_n 3, 1) := by decide +kernel
theorem dL_law_241 : decode cL_law 241 = .ok (.iconst 1, 1) := by decide +kernel
theorem dL_law_242 : decode cL_law 242 = .ok (.iadd, 1) := by decide +kernel
theorem dL_law_243 : decode cL_law 243 = .ok (.iaload, 1) := by decide +kernel
theorem dL_law_244 : decode cL_law 244 = .ok (.aload_n 0, 1) := by decide +kernel
theorem dL_law_245 : decode cL_law 245 = .ok (.iload_n 3, 1) := by decide +kernel
theorem dL_law_246 : decode cL_law 246 = .ok (.iconst 2, 1) := by decide +kernel
theorem dL_law_247 : decode cL_law 247 = .ok (.iadd, 1) := by decide +kernel
theorem dL_law_248 : decode cL_law 248 = .ok (.iaload, 1) := by decide +kernel
theorem dL_law_249 : decode cL_law 249 = .ok (.invokevirtual 35, 3) := by decide +kernel
theorem dL_law_252 : decode cL_law 252 = .ok (.if_icmp .eq 412, 3) := by decide +kernel
theorem dL_law_255 : decode cL_law 255 = .ok (.iconst 0, 1) := by decide +kernel
theorem dL_law_256 : decode cL_law 256 = .ok (.ireturn, 1) := by decide +kernel
theorem dL_law_257 : decode cL_law 257 = .ok (.aload_n 1, 1) := by decide +kernel
theorem dL_law_258 : decode cL_law 258 = .ok (.aload_n 0, 1) := by decide +kernel
theorem dL_law_259 : decode cL_law 259 = .ok (.iload_n 3, 1) := by decide +kernel
theorem dL_law_260 : decode cL_law 260 = .ok (.iconst 1, 1) := by decide +kernel
theorem dL_law_261 : decode cL_law 261 = .ok (.iadd, 1) := by decide +kernel
theorem dL_law_262 : decode cL_law 262 = .ok (.iaload, 1) := by decide +kernel
theorem dL_law_263 : decode cL_law 263 = .ok (.aload_n 0, 1) := by decide +kernel
theorem dL_law_264 : decode cL_law 264 = .ok (.iload_n 3, 1) := by decide +kernel
theorem dL_law_265 : decode cL_law 265 = .ok (.iconst 2, 1) := by decide +kernel
theorem dL_law_266 : decode cL_law 266 = .ok (.iadd, 1) := by decide +kernel
theorem dL_law_267 : decode cL_law 267 = .ok (.iaload, 1) := by decide +kernel
theorem dL_law_268 : decode cL_law 268 = .ok (.invokevirtual 36, 3) := by decide +kernel
theorem dL_law_271 : decode cL_law 271 = .ok (.aload_n 2, 1) := by decide +kernel
theorem dL_law_272 : decode cL_law 272 = .ok (.aload_n 0, 1) := by decide +kernel
theorem dL_law_273 : decode cL_law 273 = .ok (.iload_n 3, 1) := by decide +kernel
theorem dL_law_274 : decode cL_law 274 = .ok (.iconst 1, 1) := by decide +kernel
theorem dL_law_275 : decode cL_law 275 = .ok (.iadd, 1) := by decide +kernel
theorem dL_law_276 : decode cL_law 276 = .ok (.iaload, 1) := by decide +kernel
theorem dL_law_277 : decode cL_law 277 = .ok (.aload_n 0, 1) := by decide +kernel
theorem dL_law_278 : decode cL_law 278 = .ok (.iload_n 3, 1) := by decide +kernel
theorem dL_law_279 : decode cL_law 279 = .ok (.iconst 2, 1) := by decide +kernel
theorem dL_law_280 : decode cL_law 280 = .ok (.iadd, 1) := by decide +kernel
theorem dL_law_281 : decode cL_law 281 = .ok (.iaload, 1) := by decide +kernel
theorem dL_law_282 : decode cL_law 282 = .ok (.invokevirtual 39, 3) := by decide +kernel
theorem dL_law_285 : decode cL_law 285 = .ok (.if_icmp .eq 379, 3) := by decide +kernel
theorem dL_law_288 : decode cL_law 288 = .ok (.iconst 0, 1) := by decide +kernel
theorem dL_law_289 : decode cL_law 289 = .ok (.ireturn, 1) := by decide +kernel
theorem dL_law_290 : decode cL_law 290 = .ok (.aload_n 1, 1) := by decide +kernel
theorem dL_law_291 : decode cL_law 291 = .ok (.aload_n 0, 1) := by decide +kernel
theorem dL_law_292 : decode cL_law 292 = .ok (.iload_n 3, 1) := by decide +kernel
theorem dL_law_293 : decode cL_law 293 = .ok (.iconst 1, 1) := by decide +kernel
theorem dL_law_294 : decode cL_law 294 = .ok (.iadd, 1) := by decide +kernel
theorem dL_law_295 : decode cL_law 295 = .ok (.iaload, 1) := by decide +kernel
theorem dL_law_296 : decode cL_law 296 = .ok (.invokevirtual 40, 3) := by decide +kernel
theorem dL_law_299 : decode cL_law 299 = .ok (.aload_n 2, 1) := by decide +kernel
theorem dL_law_300 : decode cL_law 300 = .ok (.aload_n 0, 1) := by decide +kernel
theorem dL_law_301 : decode cL_law 301 = .ok (.iload_n 3, 1) := by decide +kernel
theorem dL_law_302 : decode cL_law 302 = .ok (.iconst 1, 1) := by decide +kernel
theorem dL_law_303 : decode cL_law 303 = .ok (.iadd, 1) := by decide +kernel
theorem dL_law_304 : decode cL_law 304 = .ok (.iaload, 1) := by decide +kernel
theorem dL_law_305 : decode cL_law 305 = .ok (.invokevirtual 44, 3) := by decide +kernel
theorem dL_law_308 : decode cL_law 308 = .ok (.if_icmp .eq 356, 3) := by decide +kernel
theorem dL_law_311 : decode cL_law 311 = .ok (.iconst 0, 1) := by decide +kernel
theorem dL_law_312 : decode cL_law 312 = .ok (.ireturn, 1) := by decide +kernel
theorem dL_law_313 : decode cL_law 313 = .ok (.aload_n 1, 1) := by decide +kernel
theorem dL_law_314 : decode cL_law 314 = .ok (.aload_n 0, 1) := by decide +kernel
theorem dL_law_315 : decode cL_law 315 = .ok (.iload_n 3, 1) := by decide +kernel
theorem dL_law_316 : decode cL_law 316 = .ok (.iconst 1, 1) := by decide +kernel
theorem dL_law_317 : decode cL_law 317 = .ok (.iadd, 1) := by decide +kernel
theorem dL_law_318 : decode cL_law 318 = .ok (.iaload, 1) := by decide +kernel
theorem dL_law_319 : decode cL_law 319 = .ok (.invokevirtual 45, 3) := by decide +kernel
theorem dL_law_322 : decode cL_law 322 = .ok (.aload_n 2, 1) := by decide +kernel
theorem dL_law_323 : decode cL_law 323 = .ok (.aload_n 0, 1) := by decide +kernel
theorem dL_law_324 : decode cL_law 324 = .ok (.iload_n 3, 1) := by decide +kernel
theorem dL_law_325 : decode cL_law 325 = .ok (.iconst 1, 1) := by decide +kernel
theorem dL_law_326 : decode cL_law 326 = .ok (.iadd, 1) := by decide +kernel
theorem dL_law_327 : decode cL_law 327 = .ok (.iaload, 1) := by decide +kernel
theorem dL_law_328 : decode cL_law 328 = .ok (.invokevirtual 48, 3) := by decide +kernel
theorem dL_law_331 : decode cL_law 331 = .ok (.if_icmp .eq 333, 3) := by decide +kernel
theorem dL_law_334 : decode cL_law 334 = .ok (.iconst 0, 1) := by decide +kernel
theorem dL_law_335 : decode cL_law 335 = .ok (.ireturn, 1) := by decide +kernel
theorem dL_law_336 : decode cL_law 336 = .ok (.aload_n 1, 1) := by decide +kernel
theorem dL_law_337 : decode cL_law 337 = .ok (.aload_n 0, 1) := by decide +kernel
theorem dL_law_338 : decode cL_law 338 = .ok (.iload_n 3, 1) := by decide +kernel
theorem dL_law_339 : decode cL_law 339 = .ok (.iconst 1, 1) := by decide +kernel
theorem dL_law_340 : decode cL_law 340 = .ok (.iadd, 1) := by decide +kernel
theorem dL_law_341 : decode cL_law 341 = .ok (.iaload, 1) := by decide +kernel
theorem dL_law_342 : decode cL_law 342 = .ok (.invokevirtual 49, 3) := by decide +kernel
theorem dL_law_345 : decode cL_law 345 = .ok (.aload_n 2, 1) := by decide +kernel
theorem dL_law_346 : decode cL_law 346 = .ok (.aload_n 0, 1) := by decide +kernel
theorem dL_law_347 : decode cL_law 347 = .ok (.iload_n 3, 1) := by decide +kernel
theorem dL_law_348 : decode cL_law 348 = .ok (.iconst 1, 1) := by decide +kernel
theorem dL_law_349 : decode cL_law 349 = .ok (.iadd, 1) := by decide +kernel
theorem dL_law_350 : decode cL_law 350 = .ok (.iaload, 1) := by decide +kernel
theorem dL_law_351 : decode cL_law 351 = .ok (.invokevirtual 52, 3) := by decide +kernel
theorem dL_law_354 : decode cL_law 354 = .ok (.if_icmp .eq 310, 3) := by decide +kernel
theorem dL_law_357 : decode cL_law 357 = .ok (.iconst 0, 1) := by decide +kernel
theorem dL_law_358 : decode cL_law 358 = .ok (.ireturn, 1) := by decide +kernel
theorem dL_law_359 : decode cL_law 359 = .ok (.aload_n 1, 1) := by decide +kernel
theorem dL_law_360 : decode cL_law 360 = .ok (.aload_n 0, 1) := by decide +kernel
theorem dL_law_361 : decode cL_law 361 = .ok (.iload_n 3, 1) := by decide +kernel
theorem dL_law_362 : decode cL_law 362 = .ok (.iconst 1, 1) := by decide +kernel
theorem dL_law_363 : decode cL_law 363 = .ok (.iadd, 1) := by decide +kernel
theorem dL_law_364 : decode cL_law 364 = .ok (.iaload, 1) := by decide +kernel
theorem dL_law_365 : decode cL_law 365 = .ok (.invokevirtual 53, 3) := by decide +kernel
theorem dL_law_368 : decode cL_law 368 = .ok (.aload_n 2, 1) := by decide +kernel
theorem dL_law_369 : decode cL_law 369 = .ok (.aload_n 0, 1) := by decide +kernel
theorem dL_law_370 : decode cL_law 370 = .ok (.iload_n 3, 1) := by decide +kernel
theorem dL_law_371 : decode cL_law 371 = .ok (.iconst 1, 1) := by decide +kernel
theorem dL_law_372 : decode cL_law 372 = .ok (.iadd, 1) := by decide +kernel
theorem dL_law_373 : decode cL_law 373 = .ok (.iaload, 1) := by decide +kernel
theorem dL_law_374 : decode cL_law 374 = .ok (.invokevirtual 57, 3) := by decide +kernel
theorem dL_law_377 : decode cL_law 377 = .ok (.if_icmp .eq 287, 3) := by decide +kernel
theorem dL_law_380 : decode cL_law 380 = .ok (.iconst 0, 1) := by decide +kernel
theorem dL_law_381 : decode cL_law 381 = .ok (.ireturn, 1) := by decide +kernel
theorem dL_law_382 : decode cL_law 382 = .ok (.aload_n 1, 1) := by decide +kernel
theorem dL_law_383 : decode cL_law 383 = .ok (.aload_n 0, 1) := by decide +kernel
theorem dL_law_384 : decode cL_law 384 = .ok (.iload_n 3, 1) := by decide +kernel
theorem dL_law_385 : decode cL_law 385 = .ok (.iconst 1, 1) := by decide +kernel
theorem dL_law_386 : decode cL_law 386 = .ok (.iadd, 1) := by decide +kernel
theorem dL_law_387 : decode cL_law 387 = .ok (.iaload, 1) := by decide +kernel
theorem dL_law_388 : decode cL_law 388 = .ok (.aload_n 0, 1) := by decide +kernel
theorem dL_law_389 : decode cL_law 389 = .ok (.iload_n 3, 1) := by decide +kernel
theorem dL_law_390 : decode cL_law 390 = .ok (.iconst 2, 1) := by decide +kernel
theorem dL_law_391 : decode cL_law 391 = .ok (.iadd, 1) := by decide +kernel
theorem dL_law_392 : decode cL_law 392 = .ok (.iaload, 1) := by decide +kernel
theorem dL_law_393 : decode cL_law 393 = .ok (.ifCond .eq 7, 3) := by decide +kernel
theorem dL_law_396 : decode cL_law 396 = .ok (.iconst 1, 1) := by decide +kernel
theorem dL_law_397 : decode cL_law 397 = .ok (.goto 4, 3) := by decide +kernel
theorem dL_law_400 : decode cL_law 400 = .ok (.iconst 0, 1) := by decide +kernel
theorem dL_law_401 : decode cL_law 401 = .ok (.invokevirtual 58, 3) := by decide +kernel
theorem dL_law_404 : decode cL_law 404 = .ok (.aload_n 2, 1) := by decide +kernel
theorem dL_law_405 : decode cL_law 405 = .ok (.aload_n 0, 1) := by decide +kernel
theorem dL_law_406 : decode cL_law 406 = .ok (.iload_n 3, 1) := by decide +kernel
theorem dL_law_407 : decode cL_law 407 = .ok (.iconst 1, 1) := by decide +kernel
theorem dL_law_408 : decode cL_law 408 = .ok (.iadd, 1) := by decide +kernel
theorem dL_law_409 : decode cL_law 409 = .ok (.iaload, 1) := by decide +kernel
theorem dL_law_410 : decode cL_law 410 = .ok (.aload_n 0, 1) := by decide +kernel
theorem dL_law_411 : decode cL_law 411 = .ok (.iload_n 3, 1) := by decide +kernel
theorem dL_law_412 : decode cL_law 412 = .ok (.iconst 2, 1) := by decide +kernel
theorem dL_law_413 : decode cL_law 413 = .ok (.iadd, 1) := by decide +kernel
theorem dL_law_414 : decode cL_law 414 = .ok (.iaload, 1) := by decide +kernel
theorem dL_law_415 : decode cL_law 415 = .ok (.ifCond .eq 7, 3) := by decide +kernel
theorem dL_law_418 : decode cL_law 418 = .ok (.iconst 1, 1) := by decide +kernel
theorem dL_law_419 : decode cL_law 419 = .ok (.goto 4, 3) := by decide +kernel
theorem dL_law_422 : decode cL_law 422 = .ok (.iconst 0, 1) := by decide +kernel
theorem dL_law_423 : decode cL_law 423 = .ok (.invokevirtual 62, 3) := by decide +kernel
theorem dL_law_426 : decode cL_law 426 = .ok (.if_icmp .eq 238, 3) := by decide +kernel
theorem dL_law_429 : decode cL_law 429 = .ok (.iconst 0, 1) := by decide +kernel
theorem dL_law_430 : decode cL_law 430 = .ok (.ireturn, 1) := by decide +kernel
theorem dL_law_431 : decode cL_law 431 = .ok (.aload_n 1, 1) := by decide +kernel
theorem dL_law_432 : decode cL_law 432 = .ok (.aload_n 0, 1) := by decide +kernel
theorem dL_law_433 : decode cL_law 433 = .ok (.iload_n 3, 1) := by decide +kernel
theorem dL_law_434 : decode cL_law 434 = .ok (.iconst 1, 1) := by decide +kernel
theorem dL_law_435 : decode cL_law 435 = .ok (.iadd, 1) := by decide +kernel
theorem dL_law_436 : decode cL_law 436 = .ok (.iaload, 1) := by decide +kernel
theorem dL_law_437 : decode cL_law 437 = .ok (.invokevirtual 63, 3) := by decide +kernel
theorem dL_law_440 : decode cL_law 440 = .ok (.aload_n 2, 1) := by decide +kernel
theorem dL_law_441 : decode cL_law 441 = .ok (.aload_n 0, 1) := by decide +kernel
theorem dL_law_442 : decode cL_law 442 = .ok (.iload_n 3, 1) := by decide +kernel
theorem dL_law_443 : decode cL_law 443 = .ok (.iconst 1, 1) := by decide +kernel
theorem dL_law_444 : decode cL_law 444 = .ok (.iadd, 1) := by decide +kernel
theorem dL_law_445 : decode cL_law 445 = .ok (.iaload, 1) := by decide +kernel
theorem dL_law_446 : decode cL_law 446 = .ok (.invokevirtual 66, 3) := by decide +kernel
theorem dL_law_449 : decode cL_law 449 = .ok (.if_icmp .eq 215, 3) := by decide +kernel
theorem dL_law_452 : decode cL_law 452 = .ok (.iconst 0, 1) := by decide +kernel
theorem dL_law_453 : decode cL_law 453 = .ok (.ireturn, 1) := by decide +kernel
theorem dL_law_454 : decode cL_law 454 = .ok (.aload_n 1, 1) := by decide +kernel
theorem dL_law_455 : decode cL_law 455 = .ok (.invokevirtual 67, 3) := by decide +kernel
theorem dL_law_458 : decode cL_law 458 = .ok (.aload_n 2, 1) := by decide +kernel
theorem dL_law_459 : decode cL_law 459 = .ok (.invokevirtual 70, 3) := by decide +kernel
theorem dL_law_462 : decode cL_law 462 = .ok (.if_icmp .eq 202, 3) := by decide +kernel
theorem dL_law_465 : decode cL_law 465 = .ok (.iconst 0, 1) := by decide +kernel
theorem dL_law_466 : decode cL_law 466 = .ok (.ireturn, 1) := by decide +kernel
theorem dL_law_467 : decode cL_law 467 = .ok (.aload_n 1, 1) := by decide +kernel
theorem dL_law_468 : decode cL_law 468 = .ok (.aload_n 0, 1) := by decide +kernel
theorem dL_law_469 : decode cL_law 469 = .ok (.iload_n 3, 1) := by decide +kernel
theorem dL_law_470 : decode cL_law 470 = .ok (.iconst 1, 1) := by decide +kernel
theorem dL_law_471 : decode cL_law 471 = .ok (.iadd, 1) := by decide +kernel
theorem dL_law_472 : decode cL_law 472 = .ok (.iaload, 1) := by decide +kernel
theorem dL_law_473 : decode cL_law 473 = .ok (.invokevirtual 71, 3) := by decide +kernel
theorem dL_law_476 : decode cL_law 476 = .ok (.aload_n 2, 1) := by decide +kernel
theorem dL_law_477 : decode cL_law 477 = .ok (.aload_n 0, 1) := by decide +kernel
theorem dL_law_478 : decode cL_law 478 = .ok (.iload_n 3, 1) := by decide +kernel
theorem dL_law_479 : decode cL_law 479 = .ok (.iconst 1, 1) := by decide +kernel
theorem dL_law_480 : decode cL_law 480 = .ok (.iadd, 1) := by decide +kernel
theorem dL_law_481 : decode cL_law 481 = .ok (.iaload, 1) := by decide +kernel
theorem dL_law_482 : decode cL_law 482 = .ok (.invokevirtual 74, 3) := by decide +kernel
theorem dL_law_485 : decode cL_law 485 = .ok (.if_icmp .eq 179, 3) := by decide +kernel
theorem dL_law_488 : decode cL_law 488 = .ok (.iconst 0, 1) := by decide +kernel
theorem dL_law_489 : decode cL_law 489 = .ok (.ireturn, 1) := by decide +kernel
theorem dL_law_490 : decode cL_law 490 = .ok (.aload_n 1, 1) := by decide +kernel
theorem dL_law_491 : decode cL_law 491 = .ok (.aload_n 0, 1) := by decide +kernel
theorem dL_law_492 : decode cL_law 492 = .ok (.iload_n 3, 1) := by decide +kernel
theorem dL_law_493 : decode cL_law 493 = .ok (.iconst 1, 1) := by decide +kernel
theorem dL_law_494 : decode cL_law 494 = .ok (.iadd, 1) := by decide +kernel
theorem dL_law_495 : decode cL_law 495 = .ok (.iaload, 1) := by decide +kernel
theorem dL_law_496 : decode cL_law 496 = .ok (.invokevirtual 75, 3) := by decide +kernel
theorem dL_law_499 : decode cL_law 499 = .ok (.aload_n 2, 1) := by decide +kernel
theorem dL_law_500 : decode cL_law 500 = .ok (.aload_n 0, 1) := by decide +kernel
theorem dL_law_501 : decode cL_law 501 = .ok (.iload_n 3, 1) := by decide +kernel
theorem dL_law_502 : decode cL_law 502 = .ok (.iconst 1, 1) := by decide +kernel
theorem dL_law_503 : decode cL_law 503 = .ok (.iadd, 1) := by decide +kernel
theorem dL_law_504 : decode cL_law 504 = .ok (.iaload, 1) := by decide +kernel
theorem dL_law_505 : decode cL_law 505 = .ok (.invokevirtual 78, 3) := by decide +kernel
theorem dL_law_508 : decode cL_law 508 = .ok (.if_icmp .eq 156, 3) := by decide +kernel
theorem dL_law_511 : decode cL_law 511 = .ok (.iconst 0, 1) := by decide +kernel
theorem dL_law_512 : decode cL_law 512 = .ok (.ireturn, 1) := by decide +kernel
theorem dL_law_513 : decode cL_law 513 = .ok (.aload_n 1, 1) := by decide +kernel
theorem dL_law_514 : decode cL_law 514 = .ok (.aload_n 0, 1) := by decide +kernel
theorem dL_law_515 : decode cL_law 515 = .ok (.iload_n 3, 1) := by decide +kernel
theorem dL_law_516 : decode cL_law 516 = .ok (.iconst 1, 1) := by decide +kernel
theorem dL_law_517 : decode cL_law 517 = .ok (.iadd, 1) := by decide +kernel
theorem dL_law_518 : decode cL_law 518 = .ok (.iaload, 1) := by decide +kernel
theorem dL_law_519 : decode cL_law 519 = .ok (.invokevirtual 79, 3) := by decide +kernel
theorem dL_law_522 : decode cL_law 522 = .ok (.aload_n 2, 1) := by decide +kernel
theorem dL_law_523 : decode cL_law 523 = .ok (.aload_n 0, 1) := by decide +kernel
theorem dL_law_524 : decode cL_law 524 = .ok (.iload_n 3, 1) := by decide +kernel
theorem dL_law_525 : decode cL_law 525 = .ok (.iconst 1, 1) := by decide +kernel
theorem dL_law_526 : decode cL_law 526 = .ok (.iadd, 1) := by decide +kernel
theorem dL_law_527 : decode cL_law 527 = .ok (.iaload, 1) := by decide +kernel
theorem dL_law_528 : decode cL_law 528 = .ok (.invokevirtual 82, 3) := by decide +kernel
theorem dL_law_531 : decode cL_law 531 = .ok (.if_icmp .eq 133, 3) := by decide +kernel
theorem dL_law_534 : decode cL_law 534 = .ok (.iconst 0, 1) := by decide +kernel
theorem dL_law_535 : decode cL_law 535 = .ok (.ireturn, 1) := by decide +kernel
theorem dL_law_536 : decode cL_law 536 = .ok (.aload_n 1, 1) := by decide +kernel
theorem dL_law_537 : decode cL_law 537 = .ok (.aload_n 0, 1) := by decide +kernel
theorem dL_law_538 : decode cL_law 538 = .ok (.iload_n 3, 1) := by decide +kernel
theorem dL_law_539 : decode cL_law 539 = .ok (.iconst 1, 1) := by decide +kernel
theorem dL_law_540 : decode cL_law 540 = .ok (.iadd, 1) := by decide +kernel
theorem dL_law_541 : decode cL_law 541 = .ok (.iaload, 1) := by decide +kernel
theorem dL_law_542 : decode cL_law 542 = .ok (.invokevirtual 83, 3) := by decide +kernel
theorem dL_law_545 : decode cL_law 545 = .ok (.aload_n 2, 1) := by decide +kernel
theorem dL_law_546 : decode cL_law 546 = .ok (.aload_n 0, 1) := by decide +kernel
theorem dL_law_547 : decode cL_law 547 = .ok (.iload_n 3, 1) := by decide +kernel
theorem dL_law_548 : decode cL_law 548 = .ok (.iconst 1, 1) := by decide +kernel
theorem dL_law_549 : decode cL_law 549 = .ok (.iadd, 1) := by decide +kernel
theorem dL_law_550 : decode cL_law 550 = .ok (.iaload, 1) := by decide +kernel
theorem dL_law_551 : decode cL_law 551 = .ok (.invokevirtual 86, 3) := by decide +kernel
theorem dL_law_554 : decode cL_law 554 = .ok (.if_icmp .eq 110, 3) := by decide +kernel
theorem dL_law_557 : decode cL_law 557 = .ok (.iconst 0, 1) := by decide +kernel
theorem dL_law_558 : decode cL_law 558 = .ok (.ireturn, 1) := by decide +kernel
theorem dL_law_559 : decode cL_law 559 = .ok (.aload_n 1, 1) := by decide +kernel
theorem dL_law_560 : decode cL_law 560 = .ok (.aload_n 0, 1) := by decide +kernel
theorem dL_law_561 : decode cL_law 561 = .ok (.iload_n 3, 1) := by decide +kernel
theorem dL_law_562 : decode cL_law 562 = .ok (.iconst 1, 1) := by decide +kernel
theorem dL_law_563 : decode cL_law 563 = .ok (.iadd, 1) := by decide +kernel
theorem dL_law_564 : decode cL_law 564 = .ok (.iaload, 1) := by decide +kernel
theorem dL_law_565 : decode cL_law 565 = .ok (.aload_n 0, 1) := by decide +kernel
theorem dL_law_566 : decode cL_law 566 = .ok (.iload_n 3, 1) := by decide +kernel
theorem dL_law_567 : decode cL_law 567 = .ok (.iconst 2, 1) := by decide +kernel
theorem dL_law_568 : decode cL_law 568 = .ok (.iadd, 1) := by decide +kernel
theorem dL_law_569 : decode cL_law 569 = .ok (.iaload, 1) := by decide +kernel
theorem dL_law_570 : decode cL_law 570 = .ok (.invokevirtual 87, 3) := by decide +kernel
theorem dL_law_573 : decode cL_law 573 = .ok (.aload_n 2, 1) := by decide +kernel
theorem dL_law_574 : decode cL_law 574 = .ok (.aload_n 0, 1) := by decide +kernel
theorem dL_law_575 : decode cL_law 575 = .ok (.iload_n 3, 1) := by decide +kernel
theorem dL_law_576 : decode cL_law 576 = .ok (.iconst 1, 1) := by decide +kernel
theorem dL_law_577 : decode cL_law 577 = .ok (.iadd, 1) := by decide +kernel
theorem dL_law_578 : decode cL_law 578 = .ok (.iaload, 1) := by decide +kernel
theorem dL_law_579 : decode cL_law 579 = .ok (.aload_n 0, 1) := by decide +kernel
theorem dL_law_580 : decode cL_law 580 = .ok (.iload_n 3, 1) := by decide +kernel
theorem dL_law_581 : decode cL_law 581 = .ok (.iconst 2, 1) := by decide +kernel
theorem dL_law_582 : decode cL_law 582 = .ok (.iadd, 1) := by decide +kernel
theorem dL_law_583 : decode cL_law 583 = .ok (.iaload, 1) := by decide +kernel
theorem dL_law_584 : decode cL_law 584 = .ok (.invokevirtual 91, 3) := by decide +kernel
theorem dL_law_587 : decode cL_law 587 = .ok (.if_icmp .eq 77, 3) := by decide +kernel
theorem dL_law_590 : decode cL_law 590 = .ok (.iconst 0, 1) := by decide +kernel
theorem dL_law_591 : decode cL_law 591 = .ok (.ireturn, 1) := by decide +kernel
theorem dL_law_592 : decode cL_law 592 = .ok (.aload_n 1, 1) := by decide +kernel
theorem dL_law_593 : decode cL_law 593 = .ok (.aload_n 0, 1) := by decide +kernel
theorem dL_law_594 : decode cL_law 594 = .ok (.iload_n 3, 1) := by decide +kernel
theorem dL_law_595 : decode cL_law 595 = .ok (.iconst 1, 1) := by decide +kernel
theorem dL_law_596 : decode cL_law 596 = .ok (.iadd, 1) := by decide +kernel
theorem dL_law_597 : decode cL_law 597 = .ok (.iaload, 1) := by decide +kernel
theorem dL_law_598 : decode cL_law 598 = .ok (.invokevirtual 92, 3) := by decide +kernel
theorem dL_law_601 : decode cL_law 601 = .ok (.aload_n 2, 1) := by decide +kernel
theorem dL_law_602 : decode cL_law 602 = .ok (.aload_n 0, 1) := by decide +kernel
theorem dL_law_603 : decode cL_law 603 = .ok (.iload_n 3, 1) := by decide +kernel
theorem dL_law_604 : decode cL_law 604 = .ok (.iconst 1, 1) := by decide +kernel
theorem dL_law_605 : decode cL_law 605 = .ok (.iadd, 1) := by decide +kernel
theorem dL_law_606 : decode cL_law 606 = .ok (.iaload, 1) := by decide +kernel
theorem dL_law_607 : decode cL_law 607 = .ok (.invokevirtual 95, 3) := by decide +kernel
theorem dL_law_610 : decode cL_law 610 = .ok (.if_icmp .eq 54, 3) := by decide +kernel
theorem dL_law_613 : decode cL_law 613 = .ok (.iconst 0, 1) := by decide +kernel
theorem dL_law_614 : decode cL_law 614 = .ok (.ireturn, 1) := by decide +kernel
theorem dL_law_615 : decode cL_law 615 = .ok (.aload_n 1, 1) := by decide +kernel
theorem dL_law_616 : decode cL_law 616 = .ok (.invokevirtual 96, 3) := by decide +kernel
theorem dL_law_619 : decode cL_law 619 = .ok (.aload_n 2, 1) := by decide +kernel
theorem dL_law_620 : decode cL_law 620 = .ok (.invokevirtual 99, 3) := by decide +kernel
theorem dL_law_623 : decode cL_law 623 = .ok (.if_icmp .eq 41, 3) := by decide +kernel
theorem dL_law_626 : decode cL_law 626 = .ok (.iconst 0, 1) := by decide +kernel
theorem dL_law_627 : decode cL_law 627 = .ok (.ireturn, 1) := by decide +kernel
theorem dL_law_628 : decode cL_law 628 = .ok (.aload_n 1, 1) := by decide +kernel
theorem dL_law_629 : decode cL_law 629 = .ok (.aload_n 0, 1) := by decide +kernel
theorem dL_law_630 : decode cL_law 630 = .ok (.iload_n 3, 1) := by decide +kernel
theorem dL_law_631 : decode cL_law 631 = .ok (.iconst 1, 1) := by decide +kernel
theorem dL_law_632 : decode cL_law 632 = .ok (.iadd, 1) := by decide +kernel
theorem dL_law_633 : decode cL_law 633 = .ok (.iaload, 1) := by decide +kernel
theorem dL_law_634 : decode cL_law 634 = .ok (.invokevirtual 100, 3) := by decide +kernel
theorem dL_law_637 : decode cL_law 637 = .ok (.aload_n 2, 1) := by decide +kernel
theorem dL_law_638 : decode cL_law 638 = .ok (.aload_n 0, 1) := by decide +kernel
theorem dL_law_639 : decode cL_law 639 = .ok (.iload_n 3, 1) := by decide +kernel
theorem dL_law_640 : decode cL_law 640 = .ok (.iconst 1, 1) := by decide +kernel
theorem dL_law_641 : decode cL_law 641 = .ok (.iadd, 1) := by decide +kernel
theorem dL_law_642 : decode cL_law 642 = .ok (.iaload, 1) := by decide +kernel
theorem dL_law_643 : decode cL_law 643 = .ok (.invokevirtual 103, 3) := by decide +kernel
theorem dL_law_646 : decode cL_law 646 = .ok (.if_icmp .eq 18, 3) := by decide +kernel
theorem dL_law_649 : decode cL_law 649 = .ok (.iconst 0, 1) := by decide +kernel
theorem dL_law_650 : decode cL_law 650 = .ok (.ireturn, 1) := by decide +kernel
theorem dL_law_651 : decode cL_law 651 = .ok (.aload_n 1, 1) := by decide +kernel
theorem dL_law_652 : decode cL_law 652 = .ok (.invokevirtual 104, 3) := by decide +kernel
theorem dL_law_655 : decode cL_law 655 = .ok (.aload_n 2, 1) := by decide +kernel
theorem dL_law_656 : decode cL_law 656 = .ok (.invokevirtual 107, 3) := by decide +kernel
theorem dL_law_659 : decode cL_law 659 = .ok (.if_icmp .eq 5, 3) := by decide +kernel
theorem dL_law_662 : decode cL_law 662 = .ok (.iconst 0, 1) := by decide +kernel
theorem dL_law_663 : decode cL_law 663 = .ok (.ireturn, 1) := by decide +kernel
theorem dL_law_664 : decode cL_law 664 = .ok (.iinc 3 4, 3) := by decide +kernel
theorem dL_law_667 : decode cL_law 667 = .ok (.goto (-609), 3) := by decide +kernel
theorem dL_law_670 : decode cL_law 670 = .ok (.iconst 1, 1) := by decide +kernel
theorem dL_law_671 : decode cL_law 671 = .ok (.ireturn, 1) := by decide +kernel
end
section
theorem tin {w : Cond} (i : Nat) (h : lw_tbl[i]? = some w) (g : goodWord w = true) : w ∈ TBL := List.mem_filter.mpr ⟨List.mem_of_getElem? h, g⟩
theorem kw_0 : Cond.classLink RL 7 RX7 ∈ TBL := tin 67 (by decide +kernel) (by decide +kernel)
theorem kw_1 : Cond.instantiable RX7 4 ∈ TBL := tin 68 (by decide +kernel) (by decide +kernel)
theorem kw_2 : Cond.initialized RX7 ∈ TBL := tin 55 (by decide +kernel) (by decide +kernel)
theorem kw_3 : Cond.classLink RL 18 RX8 ∈ TBL := tin 612 (by decide +kernel) (by decide +kernel)
theorem kw_4 : Cond.instantiable RX8 30 ∈ TBL := tin 613 (by decide +kernel) (by decide +kernel)
theorem kw_5 : Cond.initialized RX8 ∈ TBL := tin 63 (by decide +kernel) (by decide +kernel)
theorem kw_6 : Cond.methodLink RL 9 yL_cell ∈ TBL := tin 609 (by decide +kernel) (by decide +kernel)
theorem kw_7 : Cond.static yL_cell ∈ TBL := tin 610 (by decide +kernel) (by decide +kernel)
theorem kw_8 : Cond.initialized RL ∈ TBL := tin 54 (by decide +kernel) (by decide +kernel)
theorem kw_9 : Cond.code yL_cell cL_cell 2 (some .int) ∈ TBL := tin 611 (by decide +kernel) (by decide +kernel)
theorem kw_10 : Cond.methodLink RL 15 yX7_init ∈ TBL := tin 69 (by decide +kernel) (by decide +kernel)
theorem kw_11 : Cond.instanceMethod yX7_init ∈ TBL := tin 70 (by decide +kernel) (by decide +kernel)
theorem kw_12 : Cond.code yX7_init cX7_init 7 none ∈ TBL := tin 71 (by decide +kernel) (by decide +kernel)
theorem kw_13 : Cond.methodLink RX7 1 objectInit ∈ TBL := tin 72 (by decide +kernel) (by decide +kernel)
theorem kw_14 : Cond.instanceMethod objectInit ∈ TBL := tin 73 (by decide +kernel) (by decide +kernel)
theorem kw_15 : Cond.code objectInit ⟨#[0xb1]⟩ 1 none ∈ TBL := tin 74 (by decide +kernel) (by decide +kernel)
theorem kw_16 : Cond.classLink RX7 7 RX5 ∈ TBL := tin 75 (by decide +kernel) (by decide +kernel)
theorem kw_17 : Cond.instantiable RX5 4 ∈ TBL := tin 76 (by decide +kernel) (by decide +kernel)
theorem kw_18 : Cond.initialized RX5 ∈ TBL := tin 56 (by decide +kernel) (by decide +kernel)
theorem kw_19 : Cond.fieldLink RX7 16 "GatedTrunk$Settings" "approvals" "I" ∈ TBL := tin 81 (by decide +kernel) (by decide +kernel)
theorem kw_20 : Cond.fieldLink RX7 20 "GatedTrunk$Settings" "batchSize" "I" ∈ TBL := tin 83 (by decide +kernel) (by decide +kernel)
theorem kw_21 : Cond.fieldLink RX7 23 "GatedTrunk$Settings" "retries" "I" ∈ TBL := tin 85 (by decide +kernel) (by decide +kernel)
theorem kw_22 : Cond.fieldLink RX7 26 "GatedTrunk$Settings" "leaseTicks" "I" ∈ TBL := tin 87 (by decide +kernel) (by decide +kernel)
theorem kw_23 : Cond.classLink RX7 29 RX6 ∈ TBL := tin 107 (by decide +kernel) (by decide +kernel)
theorem kw_24 : Cond.instantiable RX6 9 ∈ TBL := tin 108 (by decide +kernel) (by decide +kernel)
theorem kw_25 : Cond.initialized RX6 ∈ TBL := tin 58 (by decide +kernel) (by decide +kernel)
theorem kw_26 : Cond.fieldLink RX7 34 "GatedTrunk" "live" "LGatedTrunk$State;" ∈ TBL := tin 245 (by decide +kernel) (by decide +kernel)
theorem kw_27 : Cond.fieldLink RX7 38 "GatedTrunk" "flushed" "LGatedTrunk$State;" ∈ TBL := tin 246 (by decide +kernel) (by decide +kernel)
theorem kw_28 : Cond.classLink RX7 41 RX2 ∈ TBL := tin 221 (by decide +kernel) (by decide +kernel)
theorem kw_29 : Cond.fieldLink RX7 43 "GatedTrunk" "log" "[LGatedTrunk$Event;" ∈ TBL := tin 247 (by decide +kernel) (by decide +kernel)
theorem kw_30 : Cond.instantiable RX2 4 ∈ TBL := tin 223 (by decide +kernel) (by decide +kernel)
theorem kw_31 : Cond.initialized RX2 ∈ TBL := tin 62 (by decide +kernel) (by decide +kernel)
theorem kw_32 : Cond.fieldLink RX7 48 "GatedTrunk" "unflushed" "I" ∈ TBL := tin 248 (by decide +kernel) (by decide +kernel)
theorem kw_33 : Cond.instanceMethod yX5_init ∈ TBL := tin 78 (by decide +kernel) (by decide +kernel)
theorem kw_34 : Cond.code yX5_init cX5_init 1 none ∈ TBL := tin 79 (by decide +kernel) (by decide +kernel)
theorem kw_35 : Cond.methodLink RX5 1 objectInit ∈ TBL := tin 80 (by decide +kernel) (by decide +kernel)
theorem kw_36 : Cond.methodLink RX7 12 yX7_clamped ∈ TBL := tin 98 (by decide +kernel) (by decide +kernel)
theorem kw_37 : Cond.static yX7_clamped ∈ TBL := tin 99 (by decide +kernel) (by decide +kernel)
theorem kw_38 : Cond.code yX7_clamped cX7_clamped 3 (some .int) ∈ TBL := tin 100 (by decide +kernel) (by decide +kernel)
theorem kw_39 : Cond.methodLink RX7 170 Lib.Math.min.name ∈ TBL := tin 101 (by decide +kernel) (by decide +kernel)
theorem kw_40 : Cond.static Lib.Math.min.name ∈ TBL := tin 102 (by decide +kernel) (by decide +kernel)
theorem kw_41 : Cond.initialized "java/lang/Math" ∈ TBL := tin 57 (by decide +kernel) (by decide +kernel)
theorem kw_42 : Cond.code Lib.Math.min.name Lib.Math.min.code 2 (some .int) ∈ TBL := tin 103 (by decide +kernel) (by decide +kernel)
theorem kw_43 : Cond.methodLink RX7 176 Lib.Math.max.name ∈ TBL := tin 104 (by decide +kernel) (by decide +kernel)
theorem kw_44 : Cond.static Lib.Math.max.name ∈ TBL := tin 105 (by decide +kernel) (by decide +kernel)
theorem kw_45 : Cond.code Lib.Math.max.name Lib.Math.max.code 2 (some .int) ∈ TBL := tin 106 (by decide +kernel) (by decide +kernel)
theorem kw_46 : Cond.methodLink RX7 31 yX6_init ∈ TBL := tin 109 (by decide +kernel) (by decide +kernel)
theorem kw_47 : Cond.instanceMethod yX6_init ∈ TBL := tin 110 (by decide +kernel) (by decide +kernel)
theorem kw_48 : Cond.code yX6_init cX6_init 3 none ∈ TBL := tin 111 (by decide +kernel) (by decide +kernel)
theorem kw_49 : Cond.methodLink RX6 3 objectInit ∈ TBL := tin 112 (by decide +kernel) (by decide +kernel)
theorem kw_50 : Cond.arrayClass .int ∈ TBL := tin 129 (by decide +kernel) (by decide +kernel)
theorem kw_51 : Cond.fieldLink RX6 9 "GatedTrunk$State" "trunk" "[I" ∈ TBL := tin 188 (by decide +kernel) (by decide +kernel)
theorem kw_52 : Cond.classLink RX6 15 RX1 ∈ TBL := tin 113 (by decide +kernel) (by decide +kernel)
theorem kw_53 : Cond.fieldLink RX6 17 "GatedTrunk$State" "changes" "[LGatedTrunk$Change;" ∈ TBL := tin 192 (by decide +kernel) (by decide +kernel)
theorem kw_54 : Cond.classLink RX6 21 RX4 ∈ TBL := tin 115 (by decide +kernel) (by decide +kernel)
theorem kw_55 : Cond.instantiable RX4 2 ∈ TBL := tin 116 (by decide +kernel) (by decide +kernel)
theorem kw_56 : Cond.initialized RX4 ∈ TBL := tin 59 (by decide +kernel) (by decide +kernel)
theorem kw_57 : Cond.fieldLink RX6 26 "GatedTrunk$State" "queue" "LGatedTrunk$Row;" ∈ TBL := tin 196 (by decide +kernel) (by decide +kernel)
theorem kw_58 : Cond.fieldLink RX6 30 "GatedTrunk$State" "plan" "LGatedTrunk$Row;" ∈ TBL := tin 198 (by decide +kernel) (by decide +kernel)
theorem kw_59 : Cond.classLink RX6 33 RX0 ∈ TBL := tin 130 (by decide +kernel) (by decide +kernel)
theorem kw_60 : Cond.instantiable RX0 5 ∈ TBL := tin 131 (by decide +kernel) (by decide +kernel)
theorem kw_61 : Cond.initialized RX0 ∈ TBL := tin 60 (by decide +kernel) (by decide +kernel)
theorem kw_62 : Cond.fieldLink RX6 36 "GatedTrunk$State" "batch" "LGatedTrunk$Batch;" ∈ TBL := tin 199 (by decide +kernel) (by decide +kernel)
theorem kw_63 : Cond.fieldLink RX6 40 "GatedTrunk$State" "settings" "LGatedTrunk$Settings;" ∈ TBL := tin 187 (by decide +kernel) (by decide +kernel)
theorem kw_64 : Cond.instantiable RX1 6 ∈ TBL := tin 159 (by decide +kernel) (by decide +kernel)
theorem kw_65 : Cond.initialized RX1 ∈ TBL := tin 61 (by decide +kernel) (by decide +kernel)
theorem kw_66 : Cond.methodLink RX6 23 yX4_init ∈ TBL := tin 117 (by decide +kernel) (by decide +kernel)
theorem kw_67 : Cond.instanceMethod yX4_init ∈ TBL := tin 118 (by decide +kernel) (by decide +kernel)
theorem kw_68 : Cond.code yX4_init cX4_init 2 none ∈ TBL := tin 119 (by decide +kernel) (by decide +kernel)
theorem kw_69 : Cond.methodLink RX4 3 objectInit ∈ TBL := tin 120 (by decide +kernel) (by decide +kernel)
theorem kw_70 : Cond.fieldLink RX4 9 "GatedTrunk$Row" "numbers" "[I" ∈ TBL := tin 121 (by decide +kernel) (by decide +kernel)
theorem kw_71 : Cond.instanceMethod yX0_init ∈ TBL := tin 133 (by decide +kernel) (by decide +kernel)
theorem kw_72 : Cond.code yX0_init cX0_init 1 none ∈ TBL := tin 134 (by decide +kernel) (by decide +kernel)
theorem kw_73 : Cond.methodLink RX0 3 objectInit ∈ TBL := tin 135 (by decide +kernel) (by decide +kernel)
theorem kw_74 : Cond.fieldLink RX0 9 "GatedTrunk$Batch" "tree" "[I" ∈ TBL := tin 136 (by decide +kernel) (by decide +kernel)
theorem kw_75 : Cond.fieldLink RX0 15 "GatedTrunk$Batch" "jobs" "[I" ∈ TBL := tin 142 (by decide +kernel) (by decide +kernel)
theorem kw_76 : Cond.fieldLink RX0 18 "GatedTrunk$Batch" "attempts" "[I" ∈ TBL := tin 145 (by decide +kernel) (by decide +kernel)
theorem kw_77 : Cond.fieldLink RX0 21 "GatedTrunk$Batch" "leaseEnds" "[I" ∈ TBL := tin 146 (by decide +kernel) (by decide +kernel)
theorem kw_78 : Cond.instanceMethod yX1_init ∈ TBL := tin 161 (by decide +kernel) (by decide +kernel)
theorem kw_79 : Cond.code yX1_init cX1_init 1 none ∈ TBL := tin 162 (by decide +kernel) (by decide +kernel)
theorem kw_80 : Cond.methodLink RX1 3 objectInit ∈ TBL := tin 163 (by decide +kernel) (by decide +kernel)
theorem kw_81 : Cond.fieldLink RX1 9 "GatedTrunk$Change" "base" "[I" ∈ TBL := tin 164 (by decide +kernel) (by decide +kernel)
theorem kw_82 : Cond.fieldLink RX1 15 "GatedTrunk$Change" "own" "[I" ∈ TBL := tin 165 (by decide +kernel) (by decide +kernel)
theorem kw_83 : Cond.instanceMethod yX2_init ∈ TBL := tin 225 (by decide +kernel) (by decide +kernel)
theorem kw_84 : Cond.code yX2_init cX2_init 1 none ∈ TBL := tin 226 (by decide +kernel) (by decide +kernel)
theorem kw_85 : Cond.methodLink RX2 1 objectInit ∈ TBL := tin 227 (by decide +kernel) (by decide +kernel)
theorem kw_86 : Cond.methodLink RL 20 yX8_init ∈ TBL := tin 614 (by decide +kernel) (by decide +kernel)
theorem kw_87 : Cond.instanceMethod yX8_init ∈ TBL := tin 615 (by decide +kernel) (by decide +kernel)
theorem kw_88 : Cond.code yX8_init cX8_init 5 none ∈ TBL := tin 616 (by decide +kernel) (by decide +kernel)
theorem kw_89 : Cond.methodLink RX8 1 objectInit ∈ TBL := tin 617 (by decide +kernel) (by decide +kernel)
theorem kw_90 : Cond.fieldLink RX8 7 "GatedTrunkModel" "kinds" "[I" ∈ TBL := tin 629 (by decide +kernel) (by decide +kernel)
theorem kw_91 : Cond.fieldLink RX8 13 "GatedTrunkModel" "firsts" "[I" ∈ TBL := tin 630 (by decide +kernel) (by decide +kernel)
theorem kw_92 : Cond.fieldLink RX8 16 "GatedTrunkModel" "seconds" "[I" ∈ TBL := tin 631 (by decide +kernel) (by decide +kernel)
theorem kw_93 : Cond.fieldLink RX8 19 "GatedTrunkModel" "thirds" "[I" ∈ TBL := tin 632 (by decide +kernel) (by decide +kernel)
theorem kw_94 : Cond.fieldLink RX8 22 "GatedTrunkModel" "trunk" "[I" ∈ TBL := tin 635 (by decide +kernel) (by decide +kernel)
theorem kw_95 : Cond.fieldLink RX8 25 "GatedTrunkModel" "base" "[I" ∈ TBL := tin 639 (by decide +kernel) (by decide +kernel)
theorem kw_96 : Cond.fieldLink RX8 28 "GatedTrunkModel" "own" "[I" ∈ TBL := tin 640 (by decide +kernel) (by decide +kernel)
theorem kw_97 : Cond.fieldLink RX8 31 "GatedTrunkModel" "states" "[I" ∈ TBL := tin 641 (by decide +kernel) (by decide +kernel)
theorem kw_98 : Cond.fieldLink RX8 34 "GatedTrunkModel" "causes" "[I" ∈ TBL := tin 642 (by decide +kernel) (by decide +kernel)
theorem kw_99 : Cond.fieldLink RX8 37 "GatedTrunkModel" "stands" "[I" ∈ TBL := tin 643 (by decide +kernel) (by decide +kernel)
theorem kw_100 : Cond.fieldLink RX8 40 "GatedTrunkModel" "queue" "[I" ∈ TBL := tin 644 (by decide +kernel) (by decide +kernel)
theorem kw_101 : Cond.fieldLink RX8 43 "GatedTrunkModel" "plan" "[I" ∈ TBL := tin 646 (by decide +kernel) (by decide +kernel)
theorem kw_102 : Cond.fieldLink RX8 46 "GatedTrunkModel" "jobs" "[I" ∈ TBL := tin 649 (by decide +kernel) (by decide +kernel)
theorem kw_103 : Cond.fieldLink RX8 49 "GatedTrunkModel" "attempts" "[I" ∈ TBL := tin 650 (by decide +kernel) (by decide +kernel)
theorem kw_104 : Cond.fieldLink RX8 52 "GatedTrunkModel" "held" "[I" ∈ TBL := tin 651 (by decide +kernel) (by decide +kernel)
theorem kw_105 : Cond.fieldLink RX8 55 "GatedTrunkModel" "until" "[I" ∈ TBL := tin 652 (by decide +kernel) (by decide +kernel)
theorem kw_106 : Cond.fieldLink RX8 58 "GatedTrunkModel" "tree" "[I" ∈ TBL := tin 653 (by decide +kernel) (by decide +kernel)
theorem kw_107 : Cond.arrayClass .boolean ∈ TBL := tin 716 (by decide +kernel) (by decide +kernel)
theorem kw_108 : Cond.fieldLink RX8 61 "GatedTrunkModel" "leads" "[Z" ∈ TBL := tin 654 (by decide +kernel) (by decide +kernel)
theorem kw_109 : Cond.fieldLink RX8 69 "GatedTrunkModel" "approvals" "I" ∈ TBL := tin 625 (by decide +kernel) (by decide +kernel)
theorem kw_110 : Cond.fieldLink RX8 73 "GatedTrunkModel" "size" "I" ∈ TBL := tin 626 (by decide +kernel) (by decide +kernel)
theorem kw_111 : Cond.fieldLink RX8 76 "GatedTrunkModel" "retries" "I" ∈ TBL := tin 627 (by decide +kernel) (by decide +kernel)
theorem kw_112 : Cond.fieldLink RX8 79 "GatedTrunkModel" "lasts" "I" ∈ TBL := tin 628 (by decide +kernel) (by decide +kernel)
theorem kw_113 : Cond.methodLink RX8 65 yX8_within ∈ TBL := tin 618 (by decide +kernel) (by decide +kernel)
theorem kw_114 : Cond.static yX8_within ∈ TBL := tin 619 (by decide +kernel) (by decide +kernel)
theorem kw_115 : Cond.code yX8_within cX8_within 3 (some .int) ∈ TBL := tin 620 (by decide +kernel) (by decide +kernel)
theorem kw_116 : Cond.methodLink RX8 82 yX8_begin ∈ TBL := tin 621 (by decide +kernel) (by decide +kernel)
theorem kw_117 : Cond.instanceMethod yX8_begin ∈ TBL := tin 623 (by decide +kernel) (by decide +kernel)
theorem kw_118 : Cond.selects RX8 yX8_begin yX8_begin ∈ TBL := tin 14 (by decide +kernel) (by decide +kernel)
theorem kw_119 : Cond.code yX8_begin cX8_begin 2 none ∈ TBL := tin 624 (by decide +kernel) (by decide +kernel)
theorem kw_120 : Cond.fieldLink RX8 85 "GatedTrunkModel" "versions" "I" ∈ TBL := tin 636 (by decide +kernel) (by decide +kernel)
theorem kw_121 : Cond.fieldLink RX8 88 "GatedTrunkModel" "time" "I" ∈ TBL := tin 637 (by decide +kernel) (by decide +kernel)
theorem kw_122 : Cond.fieldLink RX8 91 "GatedTrunkModel" "changes" "I" ∈ TBL := tin 638 (by decide +kernel) (by decide +kernel)
theorem kw_123 : Cond.fieldLink RX8 94 "GatedTrunkModel" "queued" "I" ∈ TBL := tin 645 (by decide +kernel) (by decide +kernel)
theorem kw_124 : Cond.fieldLink RX8 97 "GatedTrunkModel" "planned" "I" ∈ TBL := tin 647 (by decide +kernel) (by decide +kernel)
theorem kw_125 : Cond.fieldLink RX8 100 "GatedTrunkModel" "members" "I" ∈ TBL := tin 648 (by decide +kernel) (by decide +kernel)
theorem kw_126 : Cond.methodLink RL 21 yX7_open ∈ TBL := tin 258 (by decide +kernel) (by decide +kernel)
theorem kw_127 : Cond.instanceMethod yX7_open ∈ TBL := tin 259 (by decide +kernel) (by decide +kernel)
theorem kw_128 : Cond.selects RX7 yX7_open yX7_open ∈ TBL := tin 260 (by decide +kernel) (by decide +kernel)
theorem kw_129 : Cond.code yX7_open cX7_open 1 (some .int) ∈ TBL := tin 261 (by decide +kernel) (by decide +kernel)
theorem kw_130 : Cond.fieldLink RX7 51 "GatedTrunk$State" "changeCount" "I" ∈ TBL := tin 194 (by decide +kernel) (by decide +kernel)
theorem kw_131 : Cond.methodLink RX7 54 yX7_logged ∈ TBL := tin 262 (by decide +kernel) (by decide +kernel)
theorem kw_132 : Cond.instanceMethod yX7_logged ∈ TBL := tin 264 (by decide +kernel) (by decide +kernel)
theorem kw_133 : Cond.selects RX7 yX7_logged yX7_logged ∈ TBL := tin 0 (by decide +kernel) (by decide +kernel)
theorem kw_134 : Cond.code yX7_logged cX7_logged 6 (some (.object "GatedTrunk$Event")) ∈ TBL := tin 265 (by decide +kernel) (by decide +kernel)
theorem kw_135 : Cond.fieldLink RX7 158 "GatedTrunk$Event" "kind" "I" ∈ TBL := tin 229 (by decide +kernel) (by decide +kernel)
theorem kw_136 : Cond.fieldLink RX7 161 "GatedTrunk$Event" "first" "I" ∈ TBL := tin 231 (by decide +kernel) (by decide +kernel)
theorem kw_137 : Cond.fieldLink RX7 164 "GatedTrunk$Event" "second" "I" ∈ TBL := tin 233 (by decide +kernel) (by decide +kernel)
theorem kw_138 : Cond.fieldLink RX7 167 "GatedTrunk$Event" "third" "I" ∈ TBL := tin 235 (by decide +kernel) (by decide +kernel)
theorem kw_139 : Cond.methodLink RX7 94 yX7_keepLiveState ∈ TBL := tin 266 (by decide +kernel) (by decide +kernel)
theorem kw_140 : Cond.instanceMethod yX7_keepLiveState ∈ TBL := tin 268 (by decide +kernel) (by decide +kernel)
theorem kw_141 : Cond.selects RX7 yX7_keepLiveState yX7_keepLiveState ∈ TBL := tin 1 (by decide +kernel) (by decide +kernel)
theorem kw_142 : Cond.code yX7_keepLiveState cX7_keepLiveState 1 none ∈ TBL := tin 269 (by decide +kernel) (by decide +kernel)
theorem kw_143 : Cond.methodLink RX7 97 yX6_copyFrom ∈ TBL := tin 270 (by decide +kernel) (by decide +kernel)
theorem kw_144 : Cond.instanceMethod yX6_copyFrom ∈ TBL := tin 271 (by decide +kernel) (by decide +kernel)
theorem kw_145 : Cond.selects RX6 yX6_copyFrom yX6_copyFrom ∈ TBL := tin 272 (by decide +kernel) (by decide +kernel)
theorem kw_146 : Cond.code yX6_copyFrom cX6_copyFrom 3 none ∈ TBL := tin 273 (by decide +kernel) (by decide +kernel)
theorem kw_147 : Cond.fieldLink RX6 49 "GatedTrunk$State" "trunkVersion" "I" ∈ TBL := tin 190 (by decide +kernel) (by decide +kernel)
theorem kw_148 : Cond.fieldLink RX6 57 "GatedTrunk$State" "changeCount" "I" ∈ TBL := tin 195 (by decide +kernel) (by decide +kernel)
theorem kw_149 : Cond.fieldLink RX6 66 "GatedTrunk$State" "time" "I" ∈ TBL := tin 201 (by decide +kernel) (by decide +kernel)
theorem kw_150 : Cond.static yX7_copyNumbers ∈ TBL := tin 275 (by decide +kernel) (by decide +kernel)
theorem kw_151 : Cond.code yX7_copyNumbers cX7_copyNumbers 2 none ∈ TBL := tin 276 (by decide +kernel) (by decide +kernel)
theorem kw_152 : Cond.methodLink RX7 179 arraycopyName ∈ TBL := tin 277 (by decide +kernel) (by decide +kernel)
theorem kw_153 : Cond.native arraycopyName ∈ TBL := tin 279 (by decide +kernel) (by decide +kernel)
theorem kw_154 : Cond.static arraycopyName ∈ TBL := tin 278 (by decide +kernel) (by decide +kernel)
theorem kw_155 : Cond.initialized "java/lang/System" ∈ TBL := tin 64 (by decide +kernel) (by decide +kernel)
theorem kw_156 : Cond.methodLink RX6 53 yX1_copyFrom ∈ TBL := tin 280 (by decide +kernel) (by decide +kernel)
theorem kw_157 : Cond.instanceMethod yX1_copyFrom ∈ TBL := tin 281 (by decide +kernel) (by decide +kernel)
theorem kw_158 : Cond.selects RX1 yX1_copyFrom yX1_copyFrom ∈ TBL := tin 282 (by decide +kernel) (by decide +kernel)
theorem kw_159 : Cond.code yX1_copyFrom cX1_copyFrom 2 none ∈ TBL := tin 283 (by decide +kernel) (by decide +kernel)
theorem kw_160 : Cond.fieldLink RX1 22 "GatedTrunk$Change" "condition" "I" ∈ TBL := tin 167 (by decide +kernel) (by decide +kernel)
theorem kw_161 : Cond.fieldLink RX1 26 "GatedTrunk$Change" "rejection" "I" ∈ TBL := tin 170 (by decide +kernel) (by decide +kernel)
theorem kw_162 : Cond.fieldLink RX1 29 "GatedTrunk$Change" "standFor" "I" ∈ TBL := tin 172 (by decide +kernel) (by decide +kernel)
theorem kw_163 : Cond.fieldLink RX1 32 "GatedTrunk$Change" "standAgainst" "I" ∈ TBL := tin 173 (by decide +kernel) (by decide +kernel)
theorem kw_164 : Cond.methodLink RX6 60 yX4_copyFrom ∈ TBL := tin 285 (by decide +kernel) (by decide +kernel)
theorem kw_165 : Cond.instanceMethod yX4_copyFrom ∈ TBL := tin 286 (by decide +kernel) (by decide +kernel)
theorem kw_166 : Cond.selects RX4 yX4_copyFrom yX4_copyFrom ∈ TBL := tin 287 (by decide +kernel) (by decide +kernel)
theorem kw_167 : Cond.code yX4_copyFrom cX4_copyFrom 2 none ∈ TBL := tin 288 (by decide +kernel) (by decide +kernel)
theorem kw_168 : Cond.fieldLink RX4 19 "GatedTrunk$Row" "length" "I" ∈ TBL := tin 122 (by decide +kernel) (by decide +kernel)
theorem kw_169 : Cond.methodLink RX6 63 yX0_copyFrom ∈ TBL := tin 290 (by decide +kernel) (by decide +kernel)
theorem kw_170 : Cond.instanceMethod yX0_copyFrom ∈ TBL := tin 291 (by decide +kernel) (by decide +kernel)
theorem kw_171 : Cond.selects RX0 yX0_copyFrom yX0_copyFrom ∈ TBL := tin 292 (by decide +kernel) (by decide +kernel)
theorem kw_172 : Cond.code yX0_copyFrom cX0_copyFrom 2 none ∈ TBL := tin 293 (by decide +kernel) (by decide +kernel)
theorem kw_173 : Cond.fieldLink RX0 28 "GatedTrunk$Batch" "members" "I" ∈ TBL := tin 139 (by decide +kernel) (by decide +kernel)
theorem kw_174 : Cond.methodLink RX7 58 yX6_carryOut ∈ TBL := tin 295 (by decide +kernel) (by decide +kernel)
theorem kw_175 : Cond.instanceMethod yX6_carryOut ∈ TBL := tin 296 (by decide +kernel) (by decide +kernel)
theorem kw_176 : Cond.selects RX6 yX6_carryOut yX6_carryOut ∈ TBL := tin 297 (by decide +kernel) (by decide +kernel)
theorem kw_177 : Cond.code yX6_carryOut cX6_carryOut 4 (some .int) ∈ TBL := tin 298 (by decide +kernel) (by decide +kernel)
theorem kw_178 : Cond.fieldLink RX6 108 "GatedTrunk$Event" "kind" "I" ∈ TBL := tin 228 (by decide +kernel) (by decide +kernel)
theorem kw_179 : Cond.fieldLink RX6 116 "GatedTrunk$Event" "first" "I" ∈ TBL := tin 230 (by decide +kernel) (by decide +kernel)
theorem kw_180 : Cond.fieldLink RX6 119 "GatedTrunk$Event" "second" "I" ∈ TBL := tin 232 (by decide +kernel) (by decide +kernel)
theorem kw_181 : Cond.fieldLink RX6 122 "GatedTrunk$Event" "third" "I" ∈ TBL := tin 234 (by decide +kernel) (by decide +kernel)
theorem kw_182 : Cond.methodLink RX6 113 yX6_addChange ∈ TBL := tin 299 (by decide +kernel) (by decide +kernel)
theorem kw_183 : Cond.instanceMethod yX6_addChange ∈ TBL := tin 301 (by decide +kernel) (by decide +kernel)
theorem kw_184 : Cond.selects RX6 yX6_addChange yX6_addChange ∈ TBL := tin 2 (by decide +kernel) (by decide +kernel)
theorem kw_185 : Cond.code yX6_addChange cX6_addChange 2 (some .int) ∈ TBL := tin 302 (by decide +kernel) (by decide +kernel)
theorem kw_186 : Cond.methodLink RX6 158 yX1_startFrom ∈ TBL := tin 303 (by decide +kernel) (by decide +kernel)
theorem kw_187 : Cond.instanceMethod yX1_startFrom ∈ TBL := tin 304 (by decide +kernel) (by decide +kernel)
theorem kw_188 : Cond.selects RX1 yX1_startFrom yX1_startFrom ∈ TBL := tin 305 (by decide +kernel) (by decide +kernel)
theorem kw_189 : Cond.code yX1_startFrom cX1_startFrom 2 none ∈ TBL := tin 306 (by decide +kernel) (by decide +kernel)
theorem kw_190 : Cond.methodLink RX1 35 yX1_become ∈ TBL := tin 307 (by decide +kernel) (by decide +kernel)
theorem kw_191 : Cond.instanceMethod yX1_become ∈ TBL := tin 308 (by decide +kernel) (by decide +kernel)
theorem kw_192 : Cond.selects RX1 yX1_become yX1_become ∈ TBL := tin 309 (by decide +kernel) (by decide +kernel)
theorem kw_193 : Cond.code yX1_become cX1_become 3 none ∈ TBL := tin 310 (by decide +kernel) (by decide +kernel)
theorem kw_194 : Cond.methodLink RX1 39 yX1_dropReviews ∈ TBL := tin 311 (by decide +kernel) (by decide +kernel)
theorem kw_195 : Cond.instanceMethod yX1_dropReviews ∈ TBL := tin 312 (by decide +kernel) (by decide +kernel)
theorem kw_196 : Cond.selects RX1 yX1_dropReviews yX1_dropReviews ∈ TBL := tin 313 (by decide +kernel) (by decide +kernel)
theorem kw_197 : Cond.code yX1_dropReviews cX1_dropReviews 1 none ∈ TBL := tin 314 (by decide +kernel) (by decide +kernel)
theorem kw_198 : Cond.methodLink RX6 125 yX1_setContent ∈ TBL := tin 315 (by decide +kernel) (by decide +kernel)
theorem kw_199 : Cond.instanceMethod yX1_setContent ∈ TBL := tin 316 (by decide +kernel) (by decide +kernel)
theorem kw_200 : Cond.selects RX1 yX1_setContent yX1_setContent ∈ TBL := tin 317 (by decide +kernel) (by decide +kernel)
theorem kw_201 : Cond.code yX1_setContent cX1_setContent 3 none ∈ TBL := tin 318 (by decide +kernel) (by decide +kernel)
theorem kw_202 : Cond.methodLink RX6 129 yX1_addSupporter ∈ TBL := tin 319 (by decide +kernel) (by decide +kernel)
theorem kw_203 : Cond.instanceMethod yX1_addSupporter ∈ TBL := tin 320 (by decide +kernel) (by decide +kernel)
theorem kw_204 : Cond.selects RX1 yX1_addSupporter yX1_addSupporter ∈ TBL := tin 321 (by decide +kernel) (by decide +kernel)
theorem kw_205 : Cond.code yX1_addSupporter cX1_addSupporter 2 none ∈ TBL := tin 322 (by decide +kernel) (by decide +kernel)
theorem kw_206 : Cond.methodLink RX6 132 yX1_addOpponent ∈ TBL := tin 323 (by decide +kernel) (by decide +kernel)
theorem kw_207 : Cond.instanceMethod yX1_addOpponent ∈ TBL := tin 324 (by decide +kernel) (by decide +kernel)
theorem kw_208 : Cond.selects RX1 yX1_addOpponent yX1_addOpponent ∈ TBL := tin 325 (by decide +kernel) (by decide +kernel)
theorem kw_209 : Cond.code yX1_addOpponent cX1_addOpponent 2 none ∈ TBL := tin 326 (by decide +kernel) (by decide +kernel)
theorem kw_210 : Cond.methodLink RX6 135 yX1_become ∈ TBL := tin 327 (by decide +kernel) (by decide +kernel)
theorem kw_211 : Cond.methodLink RX6 138 yX4_append ∈ TBL := tin 328 (by decide +kernel) (by decide +kernel)
theorem kw_212 : Cond.instanceMethod yX4_append ∈ TBL := tin 329 (by decide +kernel) (by decide +kernel)
theorem kw_213 : Cond.selects RX4 yX4_append yX4_append ∈ TBL := tin 330 (by decide +kernel) (by decide +kernel)
theorem kw_214 : Cond.code yX4_append cX4_append 2 none ∈ TBL := tin 331 (by decide +kernel) (by decide +kernel)
theorem kw_215 : Cond.methodLink RX4 23 yX4_insert ∈ TBL := tin 332 (by decide +kernel) (by decide +kernel)
theorem kw_216 : Cond.instanceMethod yX4_insert ∈ TBL := tin 333 (by decide +kernel) (by decide +kernel)
theorem kw_217 : Cond.selects RX4 yX4_insert yX4_insert ∈ TBL := tin 334 (by decide +kernel) (by decide +kernel)
theorem kw_218 : Cond.code yX4_insert cX4_insert 4 none ∈ TBL := tin 335 (by decide +kernel) (by decide +kernel)
theorem kw_219 : Cond.methodLink RX6 141 yX1_moveOnto ∈ TBL := tin 336 (by decide +kernel) (by decide +kernel)
theorem kw_220 : Cond.instanceMethod yX1_moveOnto ∈ TBL := tin 337 (by decide +kernel) (by decide +kernel)
theorem kw_221 : Cond.selects RX1 yX1_moveOnto yX1_moveOnto ∈ TBL := tin 338 (by decide +kernel) (by decide +kernel)
theorem kw_222 : Cond.code yX1_moveOnto cX1_moveOnto 3 none ∈ TBL := tin 339 (by decide +kernel) (by decide +kernel)
theorem kw_223 : Cond.methodLink RX6 145 yX6_leaseNextJob ∈ TBL := tin 340 (by decide +kernel) (by decide +kernel)
theorem kw_224 : Cond.instanceMethod yX6_leaseNextJob ∈ TBL := tin 342 (by decide +kernel) (by decide +kernel)
theorem kw_225 : Cond.selects RX6 yX6_leaseNextJob yX6_leaseNextJob ∈ TBL := tin 3 (by decide +kernel) (by decide +kernel)
theorem kw_226 : Cond.code yX6_leaseNextJob cX6_leaseNextJob 3 (some .int) ∈ TBL := tin 343 (by decide +kernel) (by decide +kernel)
theorem kw_227 : Cond.fieldLink RX6 161 "GatedTrunk$Settings" "leaseTicks" "I" ∈ TBL := tin 88 (by decide +kernel) (by decide +kernel)
theorem kw_228 : Cond.methodLink RX6 105 yX0_nextJob ∈ TBL := tin 344 (by decide +kernel) (by decide +kernel)
theorem kw_229 : Cond.instanceMethod yX0_nextJob ∈ TBL := tin 345 (by decide +kernel) (by decide +kernel)
theorem kw_230 : Cond.selects RX0 yX0_nextJob yX0_nextJob ∈ TBL := tin 346 (by decide +kernel) (by decide +kernel)
theorem kw_231 : Cond.code yX0_nextJob cX0_nextJob 2 (some .int) ∈ TBL := tin 347 (by decide +kernel) (by decide +kernel)
theorem kw_232 : Cond.methodLink RX0 32 yX0_pipeline ∈ TBL := tin 348 (by decide +kernel) (by decide +kernel)
theorem kw_233 : Cond.instanceMethod yX0_pipeline ∈ TBL := tin 349 (by decide +kernel) (by decide +kernel)
theorem kw_234 : Cond.selects RX0 yX0_pipeline yX0_pipeline ∈ TBL := tin 350 (by decide +kernel) (by decide +kernel)
theorem kw_235 : Cond.code yX0_pipeline cX0_pipeline 1 (some .int) ∈ TBL := tin 351 (by decide +kernel) (by decide +kernel)
theorem kw_236 : Cond.methodLink RX0 46 yX3_needsOf ∈ TBL := tin 352 (by decide +kernel) (by decide +kernel)
theorem kw_237 : Cond.static yX3_needsOf ∈ TBL := tin 353 (by decide +kernel) (by decide +kernel)
theorem kw_238 : Cond.initialized RX3 ∈ TBL := tin 65 (by decide +kernel) (by decide +kernel)
theorem kw_239 : Cond.code yX3_needsOf cX3_needsOf 2 (some .int) ∈ TBL := tin 354 (by decide +kernel) (by decide +kernel)
theorem kw_240 : Cond.methodLink RX0 50 yX0_passedJobs ∈ TBL := tin 355 (by decide +kernel) (by decide +kernel)
theorem kw_241 : Cond.instanceMethod yX0_passedJobs ∈ TBL := tin 357 (by decide +kernel) (by decide +kernel)
theorem kw_242 : Cond.selects RX0 yX0_passedJobs yX0_passedJobs ∈ TBL := tin 4 (by decide +kernel) (by decide +kernel)
theorem kw_243 : Cond.code yX0_passedJobs cX0_passedJobs 3 (some .int) ∈ TBL := tin 358 (by decide +kernel) (by decide +kernel)
theorem kw_244 : Cond.methodLink RX6 164 yX0_lease ∈ TBL := tin 359 (by decide +kernel) (by decide +kernel)
theorem kw_245 : Cond.instanceMethod yX0_lease ∈ TBL := tin 360 (by decide +kernel) (by decide +kernel)
theorem kw_246 : Cond.selects RX0 yX0_lease yX0_lease ∈ TBL := tin 361 (by decide +kernel) (by decide +kernel)
theorem kw_247 : Cond.code yX0_lease cX0_lease 4 none ∈ TBL := tin 362 (by decide +kernel) (by decide +kernel)
theorem kw_248 : Cond.methodLink RX6 101 yX0_leasedJob ∈ TBL := tin 363 (by decide +kernel) (by decide +kernel)
theorem kw_249 : Cond.instanceMethod yX0_leasedJob ∈ TBL := tin 364 (by decide +kernel) (by decide +kernel)
theorem kw_250 : Cond.selects RX0 yX0_leasedJob yX0_leasedJob ∈ TBL := tin 365 (by decide +kernel) (by decide +kernel)
theorem kw_251 : Cond.code yX0_leasedJob cX0_leasedJob 3 (some .int) ∈ TBL := tin 366 (by decide +kernel) (by decide +kernel)
theorem kw_252 : Cond.static yX7_isWorker ∈ TBL := tin 368 (by decide +kernel) (by decide +kernel)
theorem kw_253 : Cond.code yX7_isWorker cX7_isWorker 1 (some .boolean) ∈ TBL := tin 369 (by decide +kernel) (by decide +kernel)
theorem kw_254 : Cond.methodLink RX6 148 yX6_endJob ∈ TBL := tin 370 (by decide +kernel) (by decide +kernel)
theorem kw_255 : Cond.instanceMethod yX6_endJob ∈ TBL := tin 372 (by decide +kernel) (by decide +kernel)
theorem kw_256 : Cond.selects RX6 yX6_endJob yX6_endJob ∈ TBL := tin 5 (by decide +kernel) (by decide +kernel)
theorem kw_257 : Cond.code yX6_endJob cX6_endJob 3 none ∈ TBL := tin 373 (by decide +kernel) (by decide +kernel)
theorem kw_258 : Cond.fieldLink RX6 180 "GatedTrunk$Batch" "jobs" "[I" ∈ TBL := tin 143 (by decide +kernel) (by decide +kernel)
theorem kw_259 : Cond.methodLink RX6 183 yX0_failJob ∈ TBL := tin 374 (by decide +kernel) (by decide +kernel)
theorem kw_260 : Cond.instanceMethod yX0_failJob ∈ TBL := tin 375 (by decide +kernel) (by decide +kernel)
theorem kw_261 : Cond.selects RX0 yX0_failJob yX0_failJob ∈ TBL := tin 376 (by decide +kernel) (by decide +kernel)
theorem kw_262 : Cond.code yX0_failJob cX0_failJob 4 none ∈ TBL := tin 377 (by decide +kernel) (by decide +kernel)
theorem kw_263 : Cond.methodLink RX0 57 yX3_allThatNeed ∈ TBL := tin 378 (by decide +kernel) (by decide +kernel)
theorem kw_264 : Cond.static yX3_allThatNeed ∈ TBL := tin 379 (by decide +kernel) (by decide +kernel)
theorem kw_265 : Cond.code yX3_allThatNeed cX3_allThatNeed 5 (some .int) ∈ TBL := tin 380 (by decide +kernel) (by decide +kernel)
theorem kw_266 : Cond.methodLink RX3 9 yX3_isThere ∈ TBL := tin 381 (by decide +kernel) (by decide +kernel)
theorem kw_267 : Cond.static yX3_isThere ∈ TBL := tin 382 (by decide +kernel) (by decide +kernel)
theorem kw_268 : Cond.code yX3_isThere cX3_isThere 2 (some .boolean) ∈ TBL := tin 383 (by decide +kernel) (by decide +kernel)
theorem kw_269 : Cond.methodLink RX3 15 yX3_needsOf ∈ TBL := tin 384 (by decide +kernel) (by decide +kernel)
theorem kw_270 : Cond.methodLink RX6 177 yX6_judgeBatch ∈ TBL := tin 385 (by decide +kernel) (by decide +kernel)
theorem kw_271 : Cond.instanceMethod yX6_judgeBatch ∈ TBL := tin 387 (by decide +kernel) (by decide +kernel)
theorem kw_272 : Cond.selects RX6 yX6_judgeBatch yX6_judgeBatch ∈ TBL := tin 6 (by decide +kernel) (by decide +kernel)
theorem kw_273 : Cond.code yX6_judgeBatch cX6_judgeBatch 2 none ∈ TBL := tin 388 (by decide +kernel) (by decide +kernel)
theorem kw_274 : Cond.fieldLink RX6 189 "GatedTrunk$Batch" "members" "I" ∈ TBL := tin 140 (by decide +kernel) (by decide +kernel)
theorem kw_275 : Cond.methodLink RX6 186 yX0_firstFailedRequired ∈ TBL := tin 389 (by decide +kernel) (by decide +kernel)
theorem kw_276 : Cond.instanceMethod yX0_firstFailedRequired ∈ TBL := tin 390 (by decide +kernel) (by decide +kernel)
theorem kw_277 : Cond.selects RX0 yX0_firstFailedRequired yX0_firstFailedRequired ∈ TBL := tin 391 (by decide +kernel) (by decide +kernel)
theorem kw_278 : Cond.code yX0_firstFailedRequired cX0_firstFailedRequired 2 (some .int) ∈ TBL := tin 392 (by decide +kernel) (by decide +kernel)
theorem kw_279 : Cond.methodLink RX0 60 yX3_isRequired ∈ TBL := tin 393 (by decide +kernel) (by decide +kernel)
theorem kw_280 : Cond.static yX3_isRequired ∈ TBL := tin 394 (by decide +kernel) (by decide +kernel)
theorem kw_281 : Cond.code yX3_isRequired cX3_isRequired 2 (some .boolean) ∈ TBL := tin 395 (by decide +kernel) (by decide +kernel)
theorem kw_282 : Cond.methodLink RX6 192 yX6_failBatch ∈ TBL := tin 396 (by decide +kernel) (by decide +kernel)
theorem kw_283 : Cond.instanceMethod yX6_failBatch ∈ TBL := tin 398 (by decide +kernel) (by decide +kernel)
theorem kw_284 : Cond.selects RX6 yX6_failBatch yX6_failBatch ∈ TBL := tin 7 (by decide +kernel) (by decide +kernel)
theorem kw_285 : Cond.code yX6_failBatch cX6_failBatch 3 none ∈ TBL := tin 399 (by decide +kernel) (by decide +kernel)
theorem kw_286 : Cond.methodLink RX6 211 yX0_end ∈ TBL := tin 400 (by decide +kernel) (by decide +kernel)
theorem kw_287 : Cond.instanceMethod yX0_end ∈ TBL := tin 401 (by decide +kernel) (by decide +kernel)
theorem kw_288 : Cond.selects RX0 yX0_end yX0_end ∈ TBL := tin 402 (by decide +kernel) (by decide +kernel)
theorem kw_289 : Cond.code yX0_end cX0_end 2 none ∈ TBL := tin 403 (by decide +kernel) (by decide +kernel)
theorem kw_290 : Cond.methodLink RX6 205 yX6_takeFromQueue ∈ TBL := tin 404 (by decide +kernel) (by decide +kernel)
theorem kw_291 : Cond.instanceMethod yX6_takeFromQueue ∈ TBL := tin 406 (by decide +kernel) (by decide +kernel)
theorem kw_292 : Cond.selects RX6 yX6_takeFromQueue yX6_takeFromQueue ∈ TBL := tin 8 (by decide +kernel) (by decide +kernel)
theorem kw_293 : Cond.code yX6_takeFromQueue cX6_takeFromQueue 5 none ∈ TBL := tin 407 (by decide +kernel) (by decide +kernel)
theorem kw_294 : Cond.methodLink RX6 220 yX4_at ∈ TBL := tin 408 (by decide +kernel) (by decide +kernel)
theorem kw_295 : Cond.instanceMethod yX4_at ∈ TBL := tin 409 (by decide +kernel) (by decide +kernel)
theorem kw_296 : Cond.selects RX4 yX4_at yX4_at ∈ TBL := tin 410 (by decide +kernel) (by decide +kernel)
theorem kw_297 : Cond.code yX4_at cX4_at 2 (some .int) ∈ TBL := tin 411 (by decide +kernel) (by decide +kernel)
theorem kw_298 : Cond.methodLink RX6 69 yX6_isChange ∈ TBL := tin 412 (by decide +kernel) (by decide +kernel)
theorem kw_299 : Cond.instanceMethod yX6_isChange ∈ TBL := tin 413 (by decide +kernel) (by decide +kernel)
theorem kw_300 : Cond.selects RX6 yX6_isChange yX6_isChange ∈ TBL := tin 414 (by decide +kernel) (by decide +kernel)
theorem kw_301 : Cond.code yX6_isChange cX6_isChange 2 (some .boolean) ∈ TBL := tin 415 (by decide +kernel) (by decide +kernel)
theorem kw_302 : Cond.methodLink RX6 208 yX4_removeAt ∈ TBL := tin 416 (by decide +kernel) (by decide +kernel)
theorem kw_303 : Cond.instanceMethod yX4_removeAt ∈ TBL := tin 417 (by decide +kernel) (by decide +kernel)
theorem kw_304 : Cond.selects RX4 yX4_removeAt yX4_removeAt ∈ TBL := tin 418 (by decide +kernel) (by decide +kernel)
theorem kw_305 : Cond.code yX4_removeAt cX4_removeAt 3 none ∈ TBL := tin 419 (by decide +kernel) (by decide +kernel)
theorem kw_306 : Cond.methodLink RX6 214 yX4_replaceFirst ∈ TBL := tin 420 (by decide +kernel) (by decide +kernel)
theorem kw_307 : Cond.instanceMethod yX4_replaceFirst ∈ TBL := tin 421 (by decide +kernel) (by decide +kernel)
theorem kw_308 : Cond.selects RX4 yX4_replaceFirst yX4_replaceFirst ∈ TBL := tin 422 (by decide +kernel) (by decide +kernel)
theorem kw_309 : Cond.code yX4_replaceFirst cX4_replaceFirst 2 none ∈ TBL := tin 423 (by decide +kernel) (by decide +kernel)
theorem kw_310 : Cond.methodLink RX4 27 yX4_removeAt ∈ TBL := tin 424 (by decide +kernel) (by decide +kernel)
theorem kw_311 : Cond.methodLink RX6 217 yX4_insert ∈ TBL := tin 425 (by decide +kernel) (by decide +kernel)
theorem kw_312 : Cond.methodLink RX6 195 yX0_hasPassedRequired ∈ TBL := tin 426 (by decide +kernel) (by decide +kernel)
theorem kw_313 : Cond.instanceMethod yX0_hasPassedRequired ∈ TBL := tin 427 (by decide +kernel) (by decide +kernel)
theorem kw_314 : Cond.selects RX0 yX0_hasPassedRequired yX0_hasPassedRequired ∈ TBL := tin 428 (by decide +kernel) (by decide +kernel)
theorem kw_315 : Cond.code yX0_hasPassedRequired cX0_hasPassedRequired 2 (some .boolean) ∈ TBL := tin 429 (by decide +kernel) (by decide +kernel)
theorem kw_316 : Cond.methodLink RX6 199 yX6_passBatch ∈ TBL := tin 430 (by decide +kernel) (by decide +kernel)
theorem kw_317 : Cond.instanceMethod yX6_passBatch ∈ TBL := tin 432 (by decide +kernel) (by decide +kernel)
theorem kw_318 : Cond.selects RX6 yX6_passBatch yX6_passBatch ∈ TBL := tin 9 (by decide +kernel) (by decide +kernel)
theorem kw_319 : Cond.code yX6_passBatch cX6_passBatch 2 none ∈ TBL := tin 433 (by decide +kernel) (by decide +kernel)
theorem kw_320 : Cond.fieldLink RX6 202 "GatedTrunk$Batch" "tree" "[I" ∈ TBL := tin 137 (by decide +kernel) (by decide +kernel)
theorem kw_321 : Cond.methodLink RX6 151 yX6_expireLeases ∈ TBL := tin 434 (by decide +kernel) (by decide +kernel)
theorem kw_322 : Cond.instanceMethod yX6_expireLeases ∈ TBL := tin 436 (by decide +kernel) (by decide +kernel)
theorem kw_323 : Cond.selects RX6 yX6_expireLeases yX6_expireLeases ∈ TBL := tin 10 (by decide +kernel) (by decide +kernel)
theorem kw_324 : Cond.code yX6_expireLeases cX6_expireLeases 5 (some .int) ∈ TBL := tin 437 (by decide +kernel) (by decide +kernel)
theorem kw_325 : Cond.fieldLink RX6 168 "GatedTrunk$Batch" "leaseEnds" "[I" ∈ TBL := tin 147 (by decide +kernel) (by decide +kernel)
theorem kw_326 : Cond.fieldLink RX6 171 "GatedTrunk$Settings" "retries" "I" ∈ TBL := tin 86 (by decide +kernel) (by decide +kernel)
theorem kw_327 : Cond.methodLink RX6 174 yX0_expireLease ∈ TBL := tin 438 (by decide +kernel) (by decide +kernel)
theorem kw_328 : Cond.instanceMethod yX0_expireLease ∈ TBL := tin 439 (by decide +kernel) (by decide +kernel)
theorem kw_329 : Cond.selects RX0 yX0_expireLease yX0_expireLease ∈ TBL := tin 440 (by decide +kernel) (by decide +kernel)
theorem kw_330 : Cond.code yX0_expireLease cX0_expireLease 3 none ∈ TBL := tin 441 (by decide +kernel) (by decide +kernel)
theorem kw_331 : Cond.methodLink RX0 53 yX0_failJob ∈ TBL := tin 442 (by decide +kernel) (by decide +kernel)
theorem kw_332 : Cond.methodLink RX6 155 yX6_buildBatches ∈ TBL := tin 443 (by decide +kernel) (by decide +kernel)
theorem kw_333 : Cond.instanceMethod yX6_buildBatches ∈ TBL := tin 445 (by decide +kernel) (by decide +kernel)
theorem kw_334 : Cond.selects RX6 yX6_buildBatches yX6_buildBatches ∈ TBL := tin 11 (by decide +kernel) (by decide +kernel)
theorem kw_335 : Cond.code yX6_buildBatches cX6_buildBatches 2 none ∈ TBL := tin 446 (by decide +kernel) (by decide +kernel)
theorem kw_336 : Cond.constant RX6 223 (1000000) ∈ TBL := tin 447 (by decide +kernel) (by decide +kernel)
theorem kw_337 : Cond.fieldLink RX6 227 "GatedTrunk$Row" "length" "I" ∈ TBL := tin 123 (by decide +kernel) (by decide +kernel)
theorem kw_338 : Cond.methodLink RX6 224 yX0_isUnderTest ∈ TBL := tin 448 (by decide +kernel) (by decide +kernel)
theorem kw_339 : Cond.instanceMethod yX0_isUnderTest ∈ TBL := tin 449 (by decide +kernel) (by decide +kernel)
theorem kw_340 : Cond.selects RX0 yX0_isUnderTest yX0_isUnderTest ∈ TBL := tin 450 (by decide +kernel) (by decide +kernel)
theorem kw_341 : Cond.code yX0_isUnderTest cX0_isUnderTest 1 (some .boolean) ∈ TBL := tin 451 (by decide +kernel) (by decide +kernel)
theorem kw_342 : Cond.methodLink RX6 230 yX6_buildBatch ∈ TBL := tin 452 (by decide +kernel) (by decide +kernel)
theorem kw_343 : Cond.instanceMethod yX6_buildBatch ∈ TBL := tin 454 (by decide +kernel) (by decide +kernel)
theorem kw_344 : Cond.selects RX6 yX6_buildBatch yX6_buildBatch ∈ TBL := tin 12 (by decide +kernel) (by decide +kernel)
theorem kw_345 : Cond.code yX6_buildBatch cX6_buildBatch 2 none ∈ TBL := tin 455 (by decide +kernel) (by decide +kernel)
theorem kw_346 : Cond.fieldLink RX6 233 "GatedTrunk$Settings" "batchSize" "I" ∈ TBL := tin 84 (by decide +kernel) (by decide +kernel)
theorem kw_347 : Cond.methodLink RX6 236 Lib.Math.min.name ∈ TBL := tin 456 (by decide +kernel) (by decide +kernel)
theorem kw_348 : Cond.methodLink RX6 242 yX6_mergeFirst ∈ TBL := tin 457 (by decide +kernel) (by decide +kernel)
theorem kw_349 : Cond.instanceMethod yX6_mergeFirst ∈ TBL := tin 459 (by decide +kernel) (by decide +kernel)
theorem kw_350 : Cond.selects RX6 yX6_mergeFirst yX6_mergeFirst ∈ TBL := tin 13 (by decide +kernel) (by decide +kernel)
theorem kw_351 : Cond.code yX6_mergeFirst cX6_mergeFirst 5 (some .int) ∈ TBL := tin 460 (by decide +kernel) (by decide +kernel)
theorem kw_352 : Cond.methodLink RX6 94 yX1_conflictsWith ∈ TBL := tin 461 (by decide +kernel) (by decide +kernel)
theorem kw_353 : Cond.instanceMethod yX1_conflictsWith ∈ TBL := tin 462 (by decide +kernel) (by decide +kernel)
theorem kw_354 : Cond.selects RX1 yX1_conflictsWith yX1_conflictsWith ∈ TBL := tin 463 (by decide +kernel) (by decide +kernel)
theorem kw_355 : Cond.code yX1_conflictsWith cX1_conflictsWith 4 (some .boolean) ∈ TBL := tin 464 (by decide +kernel) (by decide +kernel)
theorem kw_356 : Cond.methodLink RX6 256 yX1_mergeInto ∈ TBL := tin 465 (by decide +kernel) (by decide +kernel)
theorem kw_357 : Cond.instanceMethod yX1_mergeInto ∈ TBL := tin 466 (by decide +kernel) (by decide +kernel)
theorem kw_358 : Cond.selects RX1 yX1_mergeInto yX1_mergeInto ∈ TBL := tin 467 (by decide +kernel) (by decide +kernel)
theorem kw_359 : Cond.code yX1_mergeInto cX1_mergeInto 3 none ∈ TBL := tin 468 (by decide +kernel) (by decide +kernel)
theorem kw_360 : Cond.methodLink RX6 245 yX0_pipeline ∈ TBL := tin 469 (by decide +kernel) (by decide +kernel)
theorem kw_361 : Cond.methodLink RX6 248 yX3_isValid ∈ TBL := tin 470 (by decide +kernel) (by decide +kernel)
theorem kw_362 : Cond.static yX3_isValid ∈ TBL := tin 471 (by decide +kernel) (by decide +kernel)
theorem kw_363 : Cond.code yX3_isValid cX3_isValid 6 (some .boolean) ∈ TBL := tin 472 (by decide +kernel) (by decide +kernel)
theorem kw_364 : Cond.methodLink RX3 19 yX3_isRequired ∈ TBL := tin 473 (by decide +kernel) (by decide +kernel)
theorem kw_365 : Cond.methodLink RX3 22 yX3_allThatNeed ∈ TBL := tin 474 (by decide +kernel) (by decide +kernel)
theorem kw_366 : Cond.methodLink RX6 253 yX0_start ∈ TBL := tin 475 (by decide +kernel) (by decide +kernel)
theorem kw_367 : Cond.instanceMethod yX0_start ∈ TBL := tin 476 (by decide +kernel) (by decide +kernel)
theorem kw_368 : Cond.selects RX0 yX0_start yX0_start ∈ TBL := tin 477 (by decide +kernel) (by decide +kernel)
theorem kw_369 : Cond.code yX0_start cX0_start 3 none ∈ TBL := tin 478 (by decide +kernel) (by decide +kernel)
theorem kw_370 : Cond.methodLink RX0 36 yX3_isThere ∈ TBL := tin 479 (by decide +kernel) (by decide +kernel)
theorem kw_371 : Cond.methodLink RL 25 yX8_open ∈ TBL := tin 717 (by decide +kernel) (by decide +kernel)
theorem kw_372 : Cond.instanceMethod yX8_open ∈ TBL := tin 718 (by decide +kernel) (by decide +kernel)
theorem kw_373 : Cond.selects RX8 yX8_open yX8_open ∈ TBL := tin 719 (by decide +kernel) (by decide +kernel)
theorem kw_374 : Cond.code yX8_open cX8_open 1 (some .int) ∈ TBL := tin 720 (by decide +kernel) (by decide +kernel)
theorem kw_375 : Cond.methodLink RX8 235 yX8_event ∈ TBL := tin 721 (by decide +kernel) (by decide +kernel)
theorem kw_376 : Cond.instanceMethod yX8_event ∈ TBL := tin 723 (by decide +kernel) (by decide +kernel)
theorem kw_377 : Cond.selects RX8 yX8_event yX8_event ∈ TBL := tin 15 (by decide +kernel) (by decide +kernel)
theorem kw_378 : Cond.code yX8_event cX8_event 6 (some .int) ∈ TBL := tin 724 (by decide +kernel) (by decide +kernel)
theorem kw_379 : Cond.fieldLink RX8 221 "GatedTrunkModel" "entries" "I" ∈ TBL := tin 633 (by decide +kernel) (by decide +kernel)
theorem kw_380 : Cond.fieldLink RX8 228 "GatedTrunkModel" "flushed" "I" ∈ TBL := tin 634 (by decide +kernel) (by decide +kernel)
theorem kw_381 : Cond.methodLink RX8 224 yX8_once ∈ TBL := tin 725 (by decide +kernel) (by decide +kernel)
theorem kw_382 : Cond.instanceMethod yX8_once ∈ TBL := tin 727 (by decide +kernel) (by decide +kernel)
theorem kw_383 : Cond.selects RX8 yX8_once yX8_once ∈ TBL := tin 16 (by decide +kernel) (by decide +kernel)
theorem kw_384 : Cond.code yX8_once cX8_once 5 (some .int) ∈ TBL := tin 728 (by decide +kernel) (by decide +kernel)
theorem kw_385 : Cond.methodLink RX8 188 yX8_doOpen ∈ TBL := tin 729 (by decide +kernel) (by decide +kernel)
theorem kw_386 : Cond.instanceMethod yX8_doOpen ∈ TBL := tin 731 (by decide +kernel) (by decide +kernel)
theorem kw_387 : Cond.selects RX8 yX8_doOpen yX8_doOpen ∈ TBL := tin 17 (by decide +kernel) (by decide +kernel)
theorem kw_388 : Cond.code yX8_doOpen cX8_doOpen 2 (some .int) ∈ TBL := tin 732 (by decide +kernel) (by decide +kernel)
theorem kw_389 : Cond.methodLink RX8 169 yX8_noReviews ∈ TBL := tin 733 (by decide +kernel) (by decide +kernel)
theorem kw_390 : Cond.instanceMethod yX8_noReviews ∈ TBL := tin 735 (by decide +kernel) (by decide +kernel)
theorem kw_391 : Cond.selects RX8 yX8_noReviews yX8_noReviews ∈ TBL := tin 18 (by decide +kernel) (by decide +kernel)
theorem kw_392 : Cond.code yX8_noReviews cX8_noReviews 3 none ∈ TBL := tin 736 (by decide +kernel) (by decide +kernel)
theorem kw_393 : Cond.methodLink RX8 192 yX8_doPush ∈ TBL := tin 737 (by decide +kernel) (by decide +kernel)
theorem kw_394 : Cond.instanceMethod yX8_doPush ∈ TBL := tin 739 (by decide +kernel) (by decide +kernel)
theorem kw_395 : Cond.selects RX8 yX8_doPush yX8_doPush ∈ TBL := tin 19 (by decide +kernel) (by decide +kernel)
theorem kw_396 : Cond.code yX8_doPush cX8_doPush 4 (some .int) ∈ TBL := tin 740 (by decide +kernel) (by decide +kernel)
theorem kw_397 : Cond.methodLink RX8 172 yX8_is ∈ TBL := tin 741 (by decide +kernel) (by decide +kernel)
theorem kw_398 : Cond.instanceMethod yX8_is ∈ TBL := tin 743 (by decide +kernel) (by decide +kernel)
theorem kw_399 : Cond.selects RX8 yX8_is yX8_is ∈ TBL := tin 20 (by decide +kernel) (by decide +kernel)
theorem kw_400 : Cond.code yX8_is cX8_is 3 (some .boolean) ∈ TBL := tin 744 (by decide +kernel) (by decide +kernel)
theorem kw_401 : Cond.methodLink RX8 166 yX8_isChange ∈ TBL := tin 745 (by decide +kernel) (by decide +kernel)
theorem kw_402 : Cond.instanceMethod yX8_isChange ∈ TBL := tin 747 (by decide +kernel) (by decide +kernel)
theorem kw_403 : Cond.selects RX8 yX8_isChange yX8_isChange ∈ TBL := tin 21 (by decide +kernel) (by decide +kernel)
theorem kw_404 : Cond.code yX8_isChange cX8_isChange 2 (some .boolean) ∈ TBL := tin 748 (by decide +kernel) (by decide +kernel)
theorem kw_405 : Cond.methodLink RX8 195 yX8_doReview ∈ TBL := tin 749 (by decide +kernel) (by decide +kernel)
theorem kw_406 : Cond.instanceMethod yX8_doReview ∈ TBL := tin 751 (by decide +kernel) (by decide +kernel)
theorem kw_407 : Cond.selects RX8 yX8_doReview yX8_doReview ∈ TBL := tin 22 (by decide +kernel) (by decide +kernel)
theorem kw_408 : Cond.code yX8_doReview cX8_doReview 4 (some .int) ∈ TBL := tin 752 (by decide +kernel) (by decide +kernel)
theorem kw_409 : Cond.methodLink RX8 198 yX8_doClose ∈ TBL := tin 753 (by decide +kernel) (by decide +kernel)
theorem kw_410 : Cond.instanceMethod yX8_doClose ∈ TBL := tin 755 (by decide +kernel) (by decide +kernel)
theorem kw_411 : Cond.selects RX8 yX8_doClose yX8_doClose ∈ TBL := tin 23 (by decide +kernel) (by decide +kernel)
theorem kw_412 : Cond.code yX8_doClose cX8_doClose 2 (some .int) ∈ TBL := tin 756 (by decide +kernel) (by decide +kernel)
theorem kw_413 : Cond.methodLink RX8 202 yX8_doEnqueue ∈ TBL := tin 757 (by decide +kernel) (by decide +kernel)
theorem kw_414 : Cond.instanceMethod yX8_doEnqueue ∈ TBL := tin 759 (by decide +kernel) (by decide +kernel)
theorem kw_415 : Cond.selects RX8 yX8_doEnqueue yX8_doEnqueue ∈ TBL := tin 24 (by decide +kernel) (by decide +kernel)
theorem kw_416 : Cond.code yX8_doEnqueue cX8_doEnqueue 2 (some .int) ∈ TBL := tin 760 (by decide +kernel) (by decide +kernel)
theorem kw_417 : Cond.methodLink RX8 175 yX8_count ∈ TBL := tin 761 (by decide +kernel) (by decide +kernel)
theorem kw_418 : Cond.instanceMethod yX8_count ∈ TBL := tin 763 (by decide +kernel) (by decide +kernel)
theorem kw_419 : Cond.selects RX8 yX8_count yX8_count ∈ TBL := tin 25 (by decide +kernel) (by decide +kernel)
theorem kw_420 : Cond.code yX8_count cX8_count 5 (some .int) ∈ TBL := tin 764 (by decide +kernel) (by decide +kernel)
theorem kw_421 : Cond.methodLink RX8 205 yX8_doRebase ∈ TBL := tin 765 (by decide +kernel) (by decide +kernel)
theorem kw_422 : Cond.instanceMethod yX8_doRebase ∈ TBL := tin 767 (by decide +kernel) (by decide +kernel)
theorem kw_423 : Cond.selects RX8 yX8_doRebase yX8_doRebase ∈ TBL := tin 26 (by decide +kernel) (by decide +kernel)
theorem kw_424 : Cond.code yX8_doRebase cX8_doRebase 3 (some .int) ∈ TBL := tin 768 (by decide +kernel) (by decide +kernel)
theorem kw_425 : Cond.methodLink RX8 103 yX8_startTree ∈ TBL := tin 769 (by decide +kernel) (by decide +kernel)
theorem kw_426 : Cond.instanceMethod yX8_startTree ∈ TBL := tin 771 (by decide +kernel) (by decide +kernel)
theorem kw_427 : Cond.selects RX8 yX8_startTree yX8_startTree ∈ TBL := tin 27 (by decide +kernel) (by decide +kernel)
theorem kw_428 : Cond.code yX8_startTree cX8_startTree 2 none ∈ TBL := tin 772 (by decide +kernel) (by decide +kernel)
theorem kw_429 : Cond.methodLink RX8 106 yX8_conflicts ∈ TBL := tin 773 (by decide +kernel) (by decide +kernel)
theorem kw_430 : Cond.instanceMethod yX8_conflicts ∈ TBL := tin 775 (by decide +kernel) (by decide +kernel)
theorem kw_431 : Cond.selects RX8 yX8_conflicts yX8_conflicts ∈ TBL := tin 28 (by decide +kernel) (by decide +kernel)
theorem kw_432 : Cond.code yX8_conflicts cX8_conflicts 5 (some .boolean) ∈ TBL := tin 776 (by decide +kernel) (by decide +kernel)
theorem kw_433 : Cond.methodLink RX8 208 yX8_doClaim ∈ TBL := tin 777 (by decide +kernel) (by decide +kernel)
theorem kw_434 : Cond.instanceMethod yX8_doClaim ∈ TBL := tin 779 (by decide +kernel) (by decide +kernel)
theorem kw_435 : Cond.selects RX8 yX8_doClaim yX8_doClaim ∈ TBL := tin 29 (by decide +kernel) (by decide +kernel)
theorem kw_436 : Cond.code yX8_doClaim cX8_doClaim 5 (some .int) ∈ TBL := tin 780 (by decide +kernel) (by decide +kernel)
theorem kw_437 : Cond.methodLink RX8 179 yX8_isWorker ∈ TBL := tin 781 (by decide +kernel) (by decide +kernel)
theorem kw_438 : Cond.instanceMethod yX8_isWorker ∈ TBL := tin 783 (by decide +kernel) (by decide +kernel)
theorem kw_439 : Cond.selects RX8 yX8_isWorker yX8_isWorker ∈ TBL := tin 30 (by decide +kernel) (by decide +kernel)
theorem kw_440 : Cond.code yX8_isWorker cX8_isWorker 2 (some .boolean) ∈ TBL := tin 784 (by decide +kernel) (by decide +kernel)
theorem kw_441 : Cond.methodLink RX8 140 yX8_batchTree ∈ TBL := tin 785 (by decide +kernel) (by decide +kernel)
theorem kw_442 : Cond.instanceMethod yX8_batchTree ∈ TBL := tin 787 (by decide +kernel) (by decide +kernel)
theorem kw_443 : Cond.selects RX8 yX8_batchTree yX8_batchTree ∈ TBL := tin 31 (by decide +kernel) (by decide +kernel)
theorem kw_444 : Cond.code yX8_batchTree cX8_batchTree 2 none ∈ TBL := tin 788 (by decide +kernel) (by decide +kernel)
theorem kw_445 : Cond.methodLink RX8 113 yX8_needs ∈ TBL := tin 789 (by decide +kernel) (by decide +kernel)
theorem kw_446 : Cond.instanceMethod yX8_needs ∈ TBL := tin 791 (by decide +kernel) (by decide +kernel)
theorem kw_447 : Cond.selects RX8 yX8_needs yX8_needs ∈ TBL := tin 32 (by decide +kernel) (by decide +kernel)
theorem kw_448 : Cond.code yX8_needs cX8_needs 3 (some .boolean) ∈ TBL := tin 792 (by decide +kernel) (by decide +kernel)
theorem kw_449 : Cond.methodLink RX8 110 yX8_bit ∈ TBL := tin 793 (by decide +kernel) (by decide +kernel)
theorem kw_450 : Cond.instanceMethod yX8_bit ∈ TBL := tin 795 (by decide +kernel) (by decide +kernel)
theorem kw_451 : Cond.selects RX8 yX8_bit yX8_bit ∈ TBL := tin 33 (by decide +kernel) (by decide +kernel)
theorem kw_452 : Cond.code yX8_bit cX8_bit 2 (some .boolean) ∈ TBL := tin 796 (by decide +kernel) (by decide +kernel)
theorem kw_453 : Cond.methodLink RX8 211 yX8_doReport ∈ TBL := tin 797 (by decide +kernel) (by decide +kernel)
theorem kw_454 : Cond.instanceMethod yX8_doReport ∈ TBL := tin 799 (by decide +kernel) (by decide +kernel)
theorem kw_455 : Cond.selects RX8 yX8_doReport yX8_doReport ∈ TBL := tin 34 (by decide +kernel) (by decide +kernel)
theorem kw_456 : Cond.code yX8_doReport cX8_doReport 4 (some .int) ∈ TBL := tin 800 (by decide +kernel) (by decide +kernel)
theorem kw_457 : Cond.methodLink RX8 162 yX8_settle ∈ TBL := tin 801 (by decide +kernel) (by decide +kernel)
theorem kw_458 : Cond.instanceMethod yX8_settle ∈ TBL := tin 803 (by decide +kernel) (by decide +kernel)
theorem kw_459 : Cond.selects RX8 yX8_settle yX8_settle ∈ TBL := tin 35 (by decide +kernel) (by decide +kernel)
theorem kw_460 : Cond.code yX8_settle cX8_settle 4 none ∈ TBL := tin 804 (by decide +kernel) (by decide +kernel)
theorem kw_461 : Cond.methodLink RX8 117 yX8_close4 ∈ TBL := tin 805 (by decide +kernel) (by decide +kernel)
theorem kw_462 : Cond.instanceMethod yX8_close4 ∈ TBL := tin 807 (by decide +kernel) (by decide +kernel)
theorem kw_463 : Cond.selects RX8 yX8_close4 yX8_close4 ∈ TBL := tin 36 (by decide +kernel) (by decide +kernel)
theorem kw_464 : Cond.code yX8_close4 cX8_close4 3 none ∈ TBL := tin 808 (by decide +kernel) (by decide +kernel)
theorem kw_465 : Cond.methodLink RX8 156 yX8_endLeaseOn ∈ TBL := tin 809 (by decide +kernel) (by decide +kernel)
theorem kw_466 : Cond.instanceMethod yX8_endLeaseOn ∈ TBL := tin 811 (by decide +kernel) (by decide +kernel)
theorem kw_467 : Cond.selects RX8 yX8_endLeaseOn yX8_endLeaseOn ∈ TBL := tin 37 (by decide +kernel) (by decide +kernel)
theorem kw_468 : Cond.code yX8_endLeaseOn cX8_endLeaseOn 3 none ∈ TBL := tin 812 (by decide +kernel) (by decide +kernel)
theorem kw_469 : Cond.methodLink RX8 159 yX8_judge ∈ TBL := tin 813 (by decide +kernel) (by decide +kernel)
theorem kw_470 : Cond.instanceMethod yX8_judge ∈ TBL := tin 815 (by decide +kernel) (by decide +kernel)
theorem kw_471 : Cond.selects RX8 yX8_judge yX8_judge ∈ TBL := tin 38 (by decide +kernel) (by decide +kernel)
theorem kw_472 : Cond.code yX8_judge cX8_judge 4 none ∈ TBL := tin 816 (by decide +kernel) (by decide +kernel)
theorem kw_473 : Cond.methodLink RX8 120 yX8_required ∈ TBL := tin 817 (by decide +kernel) (by decide +kernel)
theorem kw_474 : Cond.instanceMethod yX8_required ∈ TBL := tin 819 (by decide +kernel) (by decide +kernel)
theorem kw_475 : Cond.selects RX8 yX8_required yX8_required ∈ TBL := tin 39 (by decide +kernel) (by decide +kernel)
theorem kw_476 : Cond.code yX8_required cX8_required 2 (some .boolean) ∈ TBL := tin 820 (by decide +kernel) (by decide +kernel)
theorem kw_477 : Cond.methodLink RX8 147 yX8_batchFails ∈ TBL := tin 821 (by decide +kernel) (by decide +kernel)
theorem kw_478 : Cond.instanceMethod yX8_batchFails ∈ TBL := tin 823 (by decide +kernel) (by decide +kernel)
theorem kw_479 : Cond.selects RX8 yX8_batchFails yX8_batchFails ∈ TBL := tin 40 (by decide +kernel) (by decide +kernel)
theorem kw_480 : Cond.code yX8_batchFails cX8_batchFails 4 none ∈ TBL := tin 824 (by decide +kernel) (by decide +kernel)
theorem kw_481 : Cond.methodLink RX8 126 yX8_endLeases ∈ TBL := tin 825 (by decide +kernel) (by decide +kernel)
theorem kw_482 : Cond.instanceMethod yX8_endLeases ∈ TBL := tin 827 (by decide +kernel) (by decide +kernel)
theorem kw_483 : Cond.selects RX8 yX8_endLeases yX8_endLeases ∈ TBL := tin 41 (by decide +kernel) (by decide +kernel)
theorem kw_484 : Cond.code yX8_endLeases cX8_endLeases 2 none ∈ TBL := tin 828 (by decide +kernel) (by decide +kernel)
theorem kw_485 : Cond.methodLink RX8 129 yX8_reject ∈ TBL := tin 829 (by decide +kernel) (by decide +kernel)
theorem kw_486 : Cond.instanceMethod yX8_reject ∈ TBL := tin 831 (by decide +kernel) (by decide +kernel)
theorem kw_487 : Cond.selects RX8 yX8_reject yX8_reject ∈ TBL := tin 42 (by decide +kernel) (by decide +kernel)
theorem kw_488 : Cond.code yX8_reject cX8_reject 3 none ∈ TBL := tin 832 (by decide +kernel) (by decide +kernel)
theorem kw_489 : Cond.methodLink RX8 133 yX8_leaveQueue ∈ TBL := tin 833 (by decide +kernel) (by decide +kernel)
theorem kw_490 : Cond.instanceMethod yX8_leaveQueue ∈ TBL := tin 835 (by decide +kernel) (by decide +kernel)
theorem kw_491 : Cond.selects RX8 yX8_leaveQueue yX8_leaveQueue ∈ TBL := tin 43 (by decide +kernel) (by decide +kernel)
theorem kw_492 : Cond.code yX8_leaveQueue cX8_leaveQueue 3 none ∈ TBL := tin 836 (by decide +kernel) (by decide +kernel)
theorem kw_493 : Cond.methodLink RX8 137 yX8_dropPlan ∈ TBL := tin 837 (by decide +kernel) (by decide +kernel)
theorem kw_494 : Cond.instanceMethod yX8_dropPlan ∈ TBL := tin 839 (by decide +kernel) (by decide +kernel)
theorem kw_495 : Cond.selects RX8 yX8_dropPlan yX8_dropPlan ∈ TBL := tin 44 (by decide +kernel) (by decide +kernel)
theorem kw_496 : Cond.code yX8_dropPlan cX8_dropPlan 2 none ∈ TBL := tin 840 (by decide +kernel) (by decide +kernel)
theorem kw_497 : Cond.methodLink RX8 153 yX8_batchPasses ∈ TBL := tin 841 (by decide +kernel) (by decide +kernel)
theorem kw_498 : Cond.instanceMethod yX8_batchPasses ∈ TBL := tin 843 (by decide +kernel) (by decide +kernel)
theorem kw_499 : Cond.selects RX8 yX8_batchPasses yX8_batchPasses ∈ TBL := tin 45 (by decide +kernel) (by decide +kernel)
theorem kw_500 : Cond.code yX8_batchPasses cX8_batchPasses 2 none ∈ TBL := tin 844 (by decide +kernel) (by decide +kernel)
theorem kw_501 : Cond.methodLink RX8 215 yX8_doTick ∈ TBL := tin 845 (by decide +kernel) (by decide +kernel)
theorem kw_502 : Cond.instanceMethod yX8_doTick ∈ TBL := tin 847 (by decide +kernel) (by decide +kernel)
theorem kw_503 : Cond.selects RX8 yX8_doTick yX8_doTick ∈ TBL := tin 46 (by decide +kernel) (by decide +kernel)
theorem kw_504 : Cond.code yX8_doTick cX8_doTick 5 (some .int) ∈ TBL := tin 848 (by decide +kernel) (by decide +kernel)
theorem kw_505 : Cond.methodLink RX8 182 yX8_expire ∈ TBL := tin 849 (by decide +kernel) (by decide +kernel)
theorem kw_506 : Cond.instanceMethod yX8_expire ∈ TBL := tin 851 (by decide +kernel) (by decide +kernel)
theorem kw_507 : Cond.selects RX8 yX8_expire yX8_expire ∈ TBL := tin 47 (by decide +kernel) (by decide +kernel)
theorem kw_508 : Cond.code yX8_expire cX8_expire 3 none ∈ TBL := tin 852 (by decide +kernel) (by decide +kernel)
theorem kw_509 : Cond.methodLink RX8 185 yX8_buildAll ∈ TBL := tin 853 (by decide +kernel) (by decide +kernel)
theorem kw_510 : Cond.instanceMethod yX8_buildAll ∈ TBL := tin 855 (by decide +kernel) (by decide +kernel)
theorem kw_511 : Cond.selects RX8 yX8_buildAll yX8_buildAll ∈ TBL := tin 48 (by decide +kernel) (by decide +kernel)
theorem kw_512 : Cond.code yX8_buildAll cX8_buildAll 2 none ∈ TBL := tin 856 (by decide +kernel) (by decide +kernel)
theorem kw_513 : Cond.methodLink RX8 150 yX8_build ∈ TBL := tin 857 (by decide +kernel) (by decide +kernel)
theorem kw_514 : Cond.instanceMethod yX8_build ∈ TBL := tin 859 (by decide +kernel) (by decide +kernel)
theorem kw_515 : Cond.selects RX8 yX8_build yX8_build ∈ TBL := tin 49 (by decide +kernel) (by decide +kernel)
theorem kw_516 : Cond.code yX8_build cX8_build 5 none ∈ TBL := tin 860 (by decide +kernel) (by decide +kernel)
theorem kw_517 : Cond.methodLink RX8 143 yX8_valid ∈ TBL := tin 861 (by decide +kernel) (by decide +kernel)
theorem kw_518 : Cond.instanceMethod yX8_valid ∈ TBL := tin 863 (by decide +kernel) (by decide +kernel)
theorem kw_519 : Cond.selects RX8 yX8_valid yX8_valid ∈ TBL := tin 50 (by decide +kernel) (by decide +kernel)
theorem kw_520 : Cond.code yX8_valid cX8_valid 5 (some .boolean) ∈ TBL := tin 864 (by decide +kernel) (by decide +kernel)
theorem kw_521 : Cond.methodLink RX8 123 yX8_there ∈ TBL := tin 865 (by decide +kernel) (by decide +kernel)
theorem kw_522 : Cond.instanceMethod yX8_there ∈ TBL := tin 867 (by decide +kernel) (by decide +kernel)
theorem kw_523 : Cond.selects RX8 yX8_there yX8_there ∈ TBL := tin 51 (by decide +kernel) (by decide +kernel)
theorem kw_524 : Cond.code yX8_there cX8_there 2 (some .boolean) ∈ TBL := tin 868 (by decide +kernel) (by decide +kernel)
theorem kw_525 : Cond.methodLink RX8 218 yX8_expireAll ∈ TBL := tin 869 (by decide +kernel) (by decide +kernel)
theorem kw_526 : Cond.instanceMethod yX8_expireAll ∈ TBL := tin 871 (by decide +kernel) (by decide +kernel)
theorem kw_527 : Cond.selects RX8 yX8_expireAll yX8_expireAll ∈ TBL := tin 52 (by decide +kernel) (by decide +kernel)
theorem kw_528 : Cond.code yX8_expireAll cX8_expireAll 2 none ∈ TBL := tin 872 (by decide +kernel) (by decide +kernel)
theorem kw_529 : Cond.methodLink RX8 231 yX8_note ∈ TBL := tin 873 (by decide +kernel) (by decide +kernel)
theorem kw_530 : Cond.instanceMethod yX8_note ∈ TBL := tin 875 (by decide +kernel) (by decide +kernel)
theorem kw_531 : Cond.selects RX8 yX8_note yX8_note ∈ TBL := tin 53 (by decide +kernel) (by decide +kernel)
theorem kw_532 : Cond.code yX8_note cX8_note 5 none ∈ TBL := tin 876 (by decide +kernel) (by decide +kernel)
theorem kw_533 : Cond.methodLink RL 26 yX7_push ∈ TBL := tin 480 (by decide +kernel) (by decide +kernel)
theorem kw_534 : Cond.instanceMethod yX7_push ∈ TBL := tin 481 (by decide +kernel) (by decide +kernel)
theorem kw_535 : Cond.selects RX7 yX7_push yX7_push ∈ TBL := tin 482 (by decide +kernel) (by decide +kernel)
theorem kw_536 : Cond.code yX7_push cX7_push 4 (some .boolean) ∈ TBL := tin 483 (by decide +kernel) (by decide +kernel)
theorem kw_537 : Cond.methodLink RX7 62 yX6_isOpen ∈ TBL := tin 484 (by decide +kernel) (by decide +kernel)
theorem kw_538 : Cond.instanceMethod yX6_isOpen ∈ TBL := tin 485 (by decide +kernel) (by decide +kernel)
theorem kw_539 : Cond.selects RX6 yX6_isOpen yX6_isOpen ∈ TBL := tin 486 (by decide +kernel) (by decide +kernel)
theorem kw_540 : Cond.code yX6_isOpen cX6_isOpen 2 (some .boolean) ∈ TBL := tin 487 (by decide +kernel) (by decide +kernel)
theorem kw_541 : Cond.fieldLink RX6 73 "GatedTrunk$Change" "condition" "I" ∈ TBL := tin 168 (by decide +kernel) (by decide +kernel)
theorem kw_542 : Cond.methodLink RX7 66 yX7_isPath ∈ TBL := tin 488 (by decide +kernel) (by decide +kernel)
theorem kw_543 : Cond.static yX7_isPath ∈ TBL := tin 489 (by decide +kernel) (by decide +kernel)
theorem kw_544 : Cond.code yX7_isPath cX7_isPath 1 (some .boolean) ∈ TBL := tin 490 (by decide +kernel) (by decide +kernel)
theorem kw_545 : Cond.methodLink RL 30 yX8_push ∈ TBL := tin 877 (by decide +kernel) (by decide +kernel)
theorem kw_546 : Cond.instanceMethod yX8_push ∈ TBL := tin 878 (by decide +kernel) (by decide +kernel)
theorem kw_547 : Cond.selects RX8 yX8_push yX8_push ∈ TBL := tin 879 (by decide +kernel) (by decide +kernel)
theorem kw_548 : Cond.code yX8_push cX8_push 4 (some .boolean) ∈ TBL := tin 880 (by decide +kernel) (by decide +kernel)
theorem kw_549 : Cond.methodLink RL 31 yX7_approve ∈ TBL := tin 491 (by decide +kernel) (by decide +kernel)
theorem kw_550 : Cond.instanceMethod yX7_approve ∈ TBL := tin 492 (by decide +kernel) (by decide +kernel)
theorem kw_551 : Cond.selects RX7 yX7_approve yX7_approve ∈ TBL := tin 493 (by decide +kernel) (by decide +kernel)
theorem kw_552 : Cond.code yX7_approve cX7_approve 3 (some .boolean) ∈ TBL := tin 494 (by decide +kernel) (by decide +kernel)
theorem kw_553 : Cond.methodLink RX7 69 yX7_isReviewer ∈ TBL := tin 495 (by decide +kernel) (by decide +kernel)
theorem kw_554 : Cond.static yX7_isReviewer ∈ TBL := tin 496 (by decide +kernel) (by decide +kernel)
theorem kw_555 : Cond.code yX7_isReviewer cX7_isReviewer 1 (some .boolean) ∈ TBL := tin 497 (by decide +kernel) (by decide +kernel)
theorem kw_556 : Cond.methodLink RL 35 yX8_approve ∈ TBL := tin 881 (by decide +kernel) (by decide +kernel)
theorem kw_557 : Cond.instanceMethod yX8_approve ∈ TBL := tin 882 (by decide +kernel) (by decide +kernel)
theorem kw_558 : Cond.selects RX8 yX8_approve yX8_approve ∈ TBL := tin 883 (by decide +kernel) (by decide +kernel)
theorem kw_559 : Cond.code yX8_approve cX8_approve 3 (some .boolean) ∈ TBL := tin 884 (by decide +kernel) (by decide +kernel)
theorem kw_560 : Cond.methodLink RL 36 yX7_object ∈ TBL := tin 498 (by decide +kernel) (by decide +kernel)
theorem kw_561 : Cond.instanceMethod yX7_object ∈ TBL := tin 499 (by decide +kernel) (by decide +kernel)
theorem kw_562 : Cond.selects RX7 yX7_object yX7_object ∈ TBL := tin 500 (by decide +kernel) (by decide +kernel)
theorem kw_563 : Cond.code yX7_object cX7_object 3 (some .boolean) ∈ TBL := tin 501 (by decide +kernel) (by decide +kernel)
theorem kw_564 : Cond.methodLink RL 39 yX8_object ∈ TBL := tin 885 (by decide +kernel) (by decide +kernel)
theorem kw_565 : Cond.instanceMethod yX8_object ∈ TBL := tin 886 (by decide +kernel) (by decide +kernel)
theorem kw_566 : Cond.selects RX8 yX8_object yX8_object ∈ TBL := tin 887 (by decide +kernel) (by decide +kernel)
theorem kw_567 : Cond.code yX8_object cX8_object 3 (some .boolean) ∈ TBL := tin 888 (by decide +kernel) (by decide +kernel)
theorem kw_568 : Cond.methodLink RL 40 yX7_close ∈ TBL := tin 502 (by decide +kernel) (by decide +kernel)
theorem kw_569 : Cond.instanceMethod yX7_close ∈ TBL := tin 503 (by decide +kernel) (by decide +kernel)
theorem kw_570 : Cond.selects RX7 yX7_close yX7_close ∈ TBL := tin 504 (by decide +kernel) (by decide +kernel)
theorem kw_571 : Cond.code yX7_close cX7_close 2 (some .boolean) ∈ TBL := tin 505 (by decide +kernel) (by decide +kernel)
theorem kw_572 : Cond.methodLink RX7 72 yX6_isOpenOrRejected ∈ TBL := tin 506 (by decide +kernel) (by decide +kernel)
theorem kw_573 : Cond.instanceMethod yX6_isOpenOrRejected ∈ TBL := tin 507 (by decide +kernel) (by decide +kernel)
theorem kw_574 : Cond.selects RX6 yX6_isOpenOrRejected yX6_isOpenOrRejected ∈ TBL := tin 508 (by decide +kernel) (by decide +kernel)
theorem kw_575 : Cond.code yX6_isOpenOrRejected cX6_isOpenOrRejected 2 (some .boolean) ∈ TBL := tin 509 (by decide +kernel) (by decide +kernel)
theorem kw_576 : Cond.methodLink RX6 76 yX6_isOpen ∈ TBL := tin 510 (by decide +kernel) (by decide +kernel)
theorem kw_577 : Cond.methodLink RL 44 yX8_close ∈ TBL := tin 889 (by decide +kernel) (by decide +kernel)
theorem kw_578 : Cond.instanceMethod yX8_close ∈ TBL := tin 890 (by decide +kernel) (by decide +kernel)
theorem kw_579 : Cond.selects RX8 yX8_close yX8_close ∈ TBL := tin 891 (by decide +kernel) (by decide +kernel)
theorem kw_580 : Cond.code yX8_close cX8_close 2 (some .boolean) ∈ TBL := tin 892 (by decide +kernel) (by decide +kernel)
theorem kw_581 : Cond.methodLink RL 45 yX7_enqueue ∈ TBL := tin 511 (by decide +kernel) (by decide +kernel)
theorem kw_582 : Cond.instanceMethod yX7_enqueue ∈ TBL := tin 512 (by decide +kernel) (by decide +kernel)
theorem kw_583 : Cond.selects RX7 yX7_enqueue yX7_enqueue ∈ TBL := tin 513 (by decide +kernel) (by decide +kernel)
theorem kw_584 : Cond.code yX7_enqueue cX7_enqueue 2 (some .boolean) ∈ TBL := tin 514 (by decide +kernel) (by decide +kernel)
theorem kw_585 : Cond.methodLink RX7 75 yX6_mayBeQueued ∈ TBL := tin 515 (by decide +kernel) (by decide +kernel)
theorem kw_586 : Cond.instanceMethod yX6_mayBeQueued ∈ TBL := tin 516 (by decide +kernel) (by decide +kernel)
theorem kw_587 : Cond.selects RX6 yX6_mayBeQueued yX6_mayBeQueued ∈ TBL := tin 517 (by decide +kernel) (by decide +kernel)
theorem kw_588 : Cond.code yX6_mayBeQueued cX6_mayBeQueued 2 (some .boolean) ∈ TBL := tin 518 (by decide +kernel) (by decide +kernel)
theorem kw_589 : Cond.fieldLink RX6 83 "GatedTrunk$Settings" "approvals" "I" ∈ TBL := tin 82 (by decide +kernel) (by decide +kernel)
theorem kw_590 : Cond.methodLink RX6 79 yX1_countFor ∈ TBL := tin 519 (by decide +kernel) (by decide +kernel)
theorem kw_591 : Cond.instanceMethod yX1_countFor ∈ TBL := tin 520 (by decide +kernel) (by decide +kernel)
theorem kw_592 : Cond.selects RX1 yX1_countFor yX1_countFor ∈ TBL := tin 521 (by decide +kernel) (by decide +kernel)
theorem kw_593 : Cond.code yX1_countFor cX1_countFor 1 (some .int) ∈ TBL := tin 522 (by decide +kernel) (by decide +kernel)
theorem kw_594 : Cond.methodLink RX1 42 yJ6_bitCount_0f7a4 ∈ TBL := tin 523 (by decide +kernel) (by decide +kernel)
theorem kw_595 : Cond.static yJ6_bitCount_0f7a4 ∈ TBL := tin 524 (by decide +kernel) (by decide +kernel)
theorem kw_596 : Cond.initialized RJ6 ∈ TBL := tin 66 (by decide +kernel) (by decide +kernel)
theorem kw_597 : Cond.code yJ6_bitCount_0f7a4 cJ6_bitCount_0f7a4 1 (some .int) ∈ TBL := tin 525 (by decide +kernel) (by decide +kernel)
theorem kw_598 : Cond.constant RJ6 265 (1431655765) ∈ TBL := tin 526 (by decide +kernel) (by decide +kernel)
theorem kw_599 : Cond.constant RJ6 266 (858993459) ∈ TBL := tin 527 (by decide +kernel) (by decide +kernel)
theorem kw_600 : Cond.constant RJ6 267 (252645135) ∈ TBL := tin 528 (by decide +kernel) (by decide +kernel)
theorem kw_601 : Cond.methodLink RX6 88 yX1_countAgainst ∈ TBL := tin 529 (by decide +kernel) (by decide +kernel)
theorem kw_602 : Cond.instanceMethod yX1_countAgainst ∈ TBL := tin 530 (by decide +kernel) (by decide +kernel)
theorem kw_603 : Cond.selects RX1 yX1_countAgainst yX1_countAgainst ∈ TBL := tin 531 (by decide +kernel) (by decide +kernel)
theorem kw_604 : Cond.code yX1_countAgainst cX1_countAgainst 1 (some .int) ∈ TBL := tin 532 (by decide +kernel) (by decide +kernel)
theorem kw_605 : Cond.methodLink RL 48 yX8_enqueue ∈ TBL := tin 893 (by decide +kernel) (by decide +kernel)
theorem kw_606 : Cond.instanceMethod yX8_enqueue ∈ TBL := tin 894 (by decide +kernel) (by decide +kernel)
theorem kw_607 : Cond.selects RX8 yX8_enqueue yX8_enqueue ∈ TBL := tin 895 (by decide +kernel) (by decide +kernel)
theorem kw_608 : Cond.code yX8_enqueue cX8_enqueue 2 (some .boolean) ∈ TBL := tin 896 (by decide +kernel) (by decide +kernel)
theorem kw_609 : Cond.methodLink RL 49 yX7_rebase ∈ TBL := tin 533 (by decide +kernel) (by decide +kernel)
theorem kw_610 : Cond.instanceMethod yX7_rebase ∈ TBL := tin 534 (by decide +kernel) (by decide +kernel)
theorem kw_611 : Cond.selects RX7 yX7_rebase yX7_rebase ∈ TBL := tin 535 (by decide +kernel) (by decide +kernel)
theorem kw_612 : Cond.code yX7_rebase cX7_rebase 2 (some .boolean) ∈ TBL := tin 536 (by decide +kernel) (by decide +kernel)
theorem kw_613 : Cond.methodLink RX7 78 yX6_mayBeRebased ∈ TBL := tin 537 (by decide +kernel) (by decide +kernel)
theorem kw_614 : Cond.instanceMethod yX6_mayBeRebased ∈ TBL := tin 538 (by decide +kernel) (by decide +kernel)
theorem kw_615 : Cond.selects RX6 yX6_mayBeRebased yX6_mayBeRebased ∈ TBL := tin 539 (by decide +kernel) (by decide +kernel)
theorem kw_616 : Cond.code yX6_mayBeRebased cX6_mayBeRebased 2 (some .boolean) ∈ TBL := tin 540 (by decide +kernel) (by decide +kernel)
theorem kw_617 : Cond.methodLink RX6 91 yX6_isOpenOrRejected ∈ TBL := tin 541 (by decide +kernel) (by decide +kernel)
theorem kw_618 : Cond.methodLink RL 52 yX8_rebase ∈ TBL := tin 897 (by decide +kernel) (by decide +kernel)
theorem kw_619 : Cond.instanceMethod yX8_rebase ∈ TBL := tin 898 (by decide +kernel) (by decide +kernel)
theorem kw_620 : Cond.selects RX8 yX8_rebase yX8_rebase ∈ TBL := tin 899 (by decide +kernel) (by decide +kernel)
theorem kw_621 : Cond.code yX8_rebase cX8_rebase 2 (some .boolean) ∈ TBL := tin 900 (by decide +kernel) (by decide +kernel)
theorem kw_622 : Cond.methodLink RL 53 yX7_claim ∈ TBL := tin 542 (by decide +kernel) (by decide +kernel)
theorem kw_623 : Cond.instanceMethod yX7_claim ∈ TBL := tin 543 (by decide +kernel) (by decide +kernel)
theorem kw_624 : Cond.selects RX7 yX7_claim yX7_claim ∈ TBL := tin 544 (by decide +kernel) (by decide +kernel)
theorem kw_625 : Cond.code yX7_claim cX7_claim 2 (some .int) ∈ TBL := tin 545 (by decide +kernel) (by decide +kernel)
theorem kw_626 : Cond.methodLink RX7 81 yX6_jobToLease ∈ TBL := tin 546 (by decide +kernel) (by decide +kernel)
theorem kw_627 : Cond.instanceMethod yX6_jobToLease ∈ TBL := tin 547 (by decide +kernel) (by decide +kernel)
theorem kw_628 : Cond.selects RX6 yX6_jobToLease yX6_jobToLease ∈ TBL := tin 548 (by decide +kernel) (by decide +kernel)
theorem kw_629 : Cond.code yX6_jobToLease cX6_jobToLease 2 (some .int) ∈ TBL := tin 549 (by decide +kernel) (by decide +kernel)
theorem kw_630 : Cond.methodLink RL 57 yX8_claim ∈ TBL := tin 901 (by decide +kernel) (by decide +kernel)
theorem kw_631 : Cond.instanceMethod yX8_claim ∈ TBL := tin 902 (by decide +kernel) (by decide +kernel)
theorem kw_632 : Cond.selects RX8 yX8_claim yX8_claim ∈ TBL := tin 903 (by decide +kernel) (by decide +kernel)
theorem kw_633 : Cond.code yX8_claim cX8_claim 2 (some .int) ∈ TBL := tin 904 (by decide +kernel) (by decide +kernel)
theorem kw_634 : Cond.methodLink RL 58 yX7_report ∈ TBL := tin 551 (by decide +kernel) (by decide +kernel)
theorem kw_635 : Cond.instanceMethod yX7_report ∈ TBL := tin 552 (by decide +kernel) (by decide +kernel)
theorem kw_636 : Cond.selects RX7 yX7_report yX7_report ∈ TBL := tin 553 (by decide +kernel) (by decide +kernel)
theorem kw_637 : Cond.code yX7_report cX7_report 3 (some .boolean) ∈ TBL := tin 554 (by decide +kernel) (by decide +kernel)
theorem kw_638 : Cond.fieldLink RX7 85 "GatedTrunk$State" "batch" "LGatedTrunk$Batch;" ∈ TBL := tin 200 (by decide +kernel) (by decide +kernel)
theorem kw_639 : Cond.methodLink RX7 89 yX0_leasedJob ∈ TBL := tin 555 (by decide +kernel) (by decide +kernel)
theorem kw_640 : Cond.methodLink RL 62 yX8_report ∈ TBL := tin 905 (by decide +kernel) (by decide +kernel)
theorem kw_641 : Cond.instanceMethod yX8_report ∈ TBL := tin 906 (by decide +kernel) (by decide +kernel)
theorem kw_642 : Cond.selects RX8 yX8_report yX8_report ∈ TBL := tin 907 (by decide +kernel) (by decide +kernel)
theorem kw_643 : Cond.code yX8_report cX8_report 3 (some .boolean) ∈ TBL := tin 908 (by decide +kernel) (by decide +kernel)
theorem kw_644 : Cond.methodLink RL 63 yX7_tick ∈ TBL := tin 556 (by decide +kernel) (by decide +kernel)
theorem kw_645 : Cond.instanceMethod yX7_tick ∈ TBL := tin 557 (by decide +kernel) (by decide +kernel)
theorem kw_646 : Cond.selects RX7 yX7_tick yX7_tick ∈ TBL := tin 558 (by decide +kernel) (by decide +kernel)
theorem kw_647 : Cond.code yX7_tick cX7_tick 2 (some .int) ∈ TBL := tin 559 (by decide +kernel) (by decide +kernel)
theorem kw_648 : Cond.methodLink RL 66 yX8_tick ∈ TBL := tin 909 (by decide +kernel) (by decide +kernel)
theorem kw_649 : Cond.instanceMethod yX8_tick ∈ TBL := tin 910 (by decide +kernel) (by decide +kernel)
theorem kw_650 : Cond.selects RX8 yX8_tick yX8_tick ∈ TBL := tin 911 (by decide +kernel) (by decide +kernel)
theorem kw_651 : Cond.code yX8_tick cX8_tick 2 (some .int) ∈ TBL := tin 912 (by decide +kernel) (by decide +kernel)
theorem kw_652 : Cond.methodLink RL 67 yX7_flush ∈ TBL := tin 560 (by decide +kernel) (by decide +kernel)
theorem kw_653 : Cond.instanceMethod yX7_flush ∈ TBL := tin 561 (by decide +kernel) (by decide +kernel)
theorem kw_654 : Cond.selects RX7 yX7_flush yX7_flush ∈ TBL := tin 562 (by decide +kernel) (by decide +kernel)
theorem kw_655 : Cond.code yX7_flush cX7_flush 2 (some .int) ∈ TBL := tin 563 (by decide +kernel) (by decide +kernel)
theorem kw_656 : Cond.methodLink RL 70 yX8_flush ∈ TBL := tin 913 (by decide +kernel) (by decide +kernel)
theorem kw_657 : Cond.instanceMethod yX8_flush ∈ TBL := tin 914 (by decide +kernel) (by decide +kernel)
theorem kw_658 : Cond.selects RX8 yX8_flush yX8_flush ∈ TBL := tin 915 (by decide +kernel) (by decide +kernel)
theorem kw_659 : Cond.code yX8_flush cX8_flush 2 (some .int) ∈ TBL := tin 916 (by decide +kernel) (by decide +kernel)
theorem kw_660 : Cond.methodLink RL 71 yX7_crash ∈ TBL := tin 564 (by decide +kernel) (by decide +kernel)
theorem kw_661 : Cond.instanceMethod yX7_crash ∈ TBL := tin 565 (by decide +kernel) (by decide +kernel)
theorem kw_662 : Cond.selects RX7 yX7_crash yX7_crash ∈ TBL := tin 566 (by decide +kernel) (by decide +kernel)
theorem kw_663 : Cond.code yX7_crash cX7_crash 5 (some .int) ∈ TBL := tin 567 (by decide +kernel) (by decide +kernel)
theorem kw_664 : Cond.methodLink RX7 101 yX6_recover ∈ TBL := tin 568 (by decide +kernel) (by decide +kernel)
theorem kw_665 : Cond.instanceMethod yX6_recover ∈ TBL := tin 569 (by decide +kernel) (by decide +kernel)
theorem kw_666 : Cond.selects RX6 yX6_recover yX6_recover ∈ TBL := tin 570 (by decide +kernel) (by decide +kernel)
theorem kw_667 : Cond.code yX6_recover cX6_recover 1 none ∈ TBL := tin 571 (by decide +kernel) (by decide +kernel)
theorem kw_668 : Cond.methodLink RL 74 yX8_crash ∈ TBL := tin 917 (by decide +kernel) (by decide +kernel)
theorem kw_669 : Cond.instanceMethod yX8_crash ∈ TBL := tin 918 (by decide +kernel) (by decide +kernel)
theorem kw_670 : Cond.selects RX8 yX8_crash yX8_crash ∈ TBL := tin 919 (by decide +kernel) (by decide +kernel)
theorem kw_671 : Cond.code yX8_crash cX8_crash 6 (some .int) ∈ TBL := tin 920 (by decide +kernel) (by decide +kernel)
theorem kw_672 : Cond.methodLink RL 75 yX7_state ∈ TBL := tin 572 (by decide +kernel) (by decide +kernel)
theorem kw_673 : Cond.instanceMethod yX7_state ∈ TBL := tin 573 (by decide +kernel) (by decide +kernel)
theorem kw_674 : Cond.selects RX7 yX7_state yX7_state ∈ TBL := tin 574 (by decide +kernel) (by decide +kernel)
theorem kw_675 : Cond.code yX7_state cX7_state 2 (some .int) ∈ TBL := tin 575 (by decide +kernel) (by decide +kernel)
theorem kw_676 : Cond.fieldLink RX7 107 "GatedTrunk$State" "changes" "[LGatedTrunk$Change;" ∈ TBL := tin 193 (by decide +kernel) (by decide +kernel)
theorem kw_677 : Cond.fieldLink RX7 111 "GatedTrunk$Change" "condition" "I" ∈ TBL := tin 169 (by decide +kernel) (by decide +kernel)
theorem kw_678 : Cond.methodLink RX7 104 yX6_isChange ∈ TBL := tin 576 (by decide +kernel) (by decide +kernel)
theorem kw_679 : Cond.methodLink RL 78 yX8_state ∈ TBL := tin 921 (by decide +kernel) (by decide +kernel)
theorem kw_680 : Cond.instanceMethod yX8_state ∈ TBL := tin 922 (by decide +kernel) (by decide +kernel)
theorem kw_681 : Cond.selects RX8 yX8_state yX8_state ∈ TBL := tin 923 (by decide +kernel) (by decide +kernel)
theorem kw_682 : Cond.code yX8_state cX8_state 2 (some .int) ∈ TBL := tin 924 (by decide +kernel) (by decide +kernel)
theorem kw_683 : Cond.methodLink RL 79 yX7_cause ∈ TBL := tin 577 (by decide +kernel) (by decide +kernel)
theorem kw_684 : Cond.instanceMethod yX7_cause ∈ TBL := tin 578 (by decide +kernel) (by decide +kernel)
theorem kw_685 : Cond.selects RX7 yX7_cause yX7_cause ∈ TBL := tin 579 (by decide +kernel) (by decide +kernel)
theorem kw_686 : Cond.code yX7_cause cX7_cause 2 (some .int) ∈ TBL := tin 580 (by decide +kernel) (by decide +kernel)
theorem kw_687 : Cond.fieldLink RX7 116 "GatedTrunk$Change" "rejection" "I" ∈ TBL := tin 171 (by decide +kernel) (by decide +kernel)
theorem kw_688 : Cond.methodLink RL 82 yX8_cause ∈ TBL := tin 925 (by decide +kernel) (by decide +kernel)
theorem kw_689 : Cond.instanceMethod yX8_cause ∈ TBL := tin 926 (by decide +kernel) (by decide +kernel)
theorem kw_690 : Cond.selects RX8 yX8_cause yX8_cause ∈ TBL := tin 927 (by decide +kernel) (by decide +kernel)
theorem kw_691 : Cond.code yX8_cause cX8_cause 2 (some .int) ∈ TBL := tin 928 (by decide +kernel) (by decide +kernel)
theorem kw_692 : Cond.methodLink RL 83 yX7_standing ∈ TBL := tin 581 (by decide +kernel) (by decide +kernel)
theorem kw_693 : Cond.instanceMethod yX7_standing ∈ TBL := tin 582 (by decide +kernel) (by decide +kernel)
theorem kw_694 : Cond.selects RX7 yX7_standing yX7_standing ∈ TBL := tin 583 (by decide +kernel) (by decide +kernel)
theorem kw_695 : Cond.code yX7_standing cX7_standing 2 (some .int) ∈ TBL := tin 584 (by decide +kernel) (by decide +kernel)
theorem kw_696 : Cond.methodLink RX7 119 yX1_countFor ∈ TBL := tin 585 (by decide +kernel) (by decide +kernel)
theorem kw_697 : Cond.methodLink RX7 123 yX1_countAgainst ∈ TBL := tin 586 (by decide +kernel) (by decide +kernel)
theorem kw_698 : Cond.methodLink RL 86 yX8_standing ∈ TBL := tin 929 (by decide +kernel) (by decide +kernel)
theorem kw_699 : Cond.instanceMethod yX8_standing ∈ TBL := tin 930 (by decide +kernel) (by decide +kernel)
theorem kw_700 : Cond.selects RX8 yX8_standing yX8_standing ∈ TBL := tin 931 (by decide +kernel) (by decide +kernel)
theorem kw_701 : Cond.code yX8_standing cX8_standing 2 (some .int) ∈ TBL := tin 932 (by decide +kernel) (by decide +kernel)
theorem kw_702 : Cond.methodLink RL 87 yX7_file ∈ TBL := tin 587 (by decide +kernel) (by decide +kernel)
theorem kw_703 : Cond.instanceMethod yX7_file ∈ TBL := tin 588 (by decide +kernel) (by decide +kernel)
theorem kw_704 : Cond.selects RX7 yX7_file yX7_file ∈ TBL := tin 589 (by decide +kernel) (by decide +kernel)
theorem kw_705 : Cond.code yX7_file cX7_file 3 (some .int) ∈ TBL := tin 590 (by decide +kernel) (by decide +kernel)
theorem kw_706 : Cond.fieldLink RX7 126 "GatedTrunk$State" "trunk" "[I" ∈ TBL := tin 189 (by decide +kernel) (by decide +kernel)
theorem kw_707 : Cond.fieldLink RX7 134 "GatedTrunk$Batch" "tree" "[I" ∈ TBL := tin 138 (by decide +kernel) (by decide +kernel)
theorem kw_708 : Cond.fieldLink RX7 137 "GatedTrunk$Change" "own" "[I" ∈ TBL := tin 166 (by decide +kernel) (by decide +kernel)
theorem kw_709 : Cond.methodLink RX7 130 yX0_isUnderTest ∈ TBL := tin 591 (by decide +kernel) (by decide +kernel)
theorem kw_710 : Cond.methodLink RL 91 yX8_file ∈ TBL := tin 933 (by decide +kernel) (by decide +kernel)
theorem kw_711 : Cond.instanceMethod yX8_file ∈ TBL := tin 934 (by decide +kernel) (by decide +kernel)
theorem kw_712 : Cond.selects RX8 yX8_file yX8_file ∈ TBL := tin 935 (by decide +kernel) (by decide +kernel)
theorem kw_713 : Cond.code yX8_file cX8_file 3 (some .int) ∈ TBL := tin 936 (by decide +kernel) (by decide +kernel)
theorem kw_714 : Cond.methodLink RL 92 yX7_queueAt ∈ TBL := tin 592 (by decide +kernel) (by decide +kernel)
theorem kw_715 : Cond.instanceMethod yX7_queueAt ∈ TBL := tin 593 (by decide +kernel) (by decide +kernel)
theorem kw_716 : Cond.selects RX7 yX7_queueAt yX7_queueAt ∈ TBL := tin 594 (by decide +kernel) (by decide +kernel)
theorem kw_717 : Cond.code yX7_queueAt cX7_queueAt 2 (some .int) ∈ TBL := tin 595 (by decide +kernel) (by decide +kernel)
theorem kw_718 : Cond.fieldLink RX7 140 "GatedTrunk$State" "queue" "LGatedTrunk$Row;" ∈ TBL := tin 197 (by decide +kernel) (by decide +kernel)
theorem kw_719 : Cond.methodLink RX7 144 yX4_at ∈ TBL := tin 596 (by decide +kernel) (by decide +kernel)
theorem kw_720 : Cond.methodLink RL 95 yX8_queueAt ∈ TBL := tin 937 (by decide +kernel) (by decide +kernel)
theorem kw_721 : Cond.instanceMethod yX8_queueAt ∈ TBL := tin 938 (by decide +kernel) (by decide +kernel)
theorem kw_722 : Cond.selects RX8 yX8_queueAt yX8_queueAt ∈ TBL := tin 939 (by decide +kernel) (by decide +kernel)
theorem kw_723 : Cond.code yX8_queueAt cX8_queueAt 2 (some .int) ∈ TBL := tin 940 (by decide +kernel) (by decide +kernel)
theorem kw_724 : Cond.methodLink RL 96 yX7_batch ∈ TBL := tin 597 (by decide +kernel) (by decide +kernel)
theorem kw_725 : Cond.instanceMethod yX7_batch ∈ TBL := tin 598 (by decide +kernel) (by decide +kernel)
theorem kw_726 : Cond.selects RX7 yX7_batch yX7_batch ∈ TBL := tin 599 (by decide +kernel) (by decide +kernel)
theorem kw_727 : Cond.code yX7_batch cX7_batch 1 (some .int) ∈ TBL := tin 600 (by decide +kernel) (by decide +kernel)
theorem kw_728 : Cond.fieldLink RX7 149 "GatedTrunk$Batch" "members" "I" ∈ TBL := tin 141 (by decide +kernel) (by decide +kernel)
theorem kw_729 : Cond.methodLink RL 99 yX8_batch ∈ TBL := tin 941 (by decide +kernel) (by decide +kernel)
theorem kw_730 : Cond.instanceMethod yX8_batch ∈ TBL := tin 942 (by decide +kernel) (by decide +kernel)
theorem kw_731 : Cond.selects RX8 yX8_batch yX8_batch ∈ TBL := tin 943 (by decide +kernel) (by decide +kernel)
theorem kw_732 : Cond.code yX8_batch cX8_batch 1 (some .int) ∈ TBL := tin 944 (by decide +kernel) (by decide +kernel)
theorem kw_733 : Cond.methodLink RL 100 yX7_job ∈ TBL := tin 601 (by decide +kernel) (by decide +kernel)
theorem kw_734 : Cond.instanceMethod yX7_job ∈ TBL := tin 602 (by decide +kernel) (by decide +kernel)
theorem kw_735 : Cond.selects RX7 yX7_job yX7_job ∈ TBL := tin 603 (by decide +kernel) (by decide +kernel)
theorem kw_736 : Cond.code yX7_job cX7_job 2 (some .int) ∈ TBL := tin 604 (by decide +kernel) (by decide +kernel)
theorem kw_737 : Cond.fieldLink RX7 152 "GatedTrunk$Batch" "jobs" "[I" ∈ TBL := tin 144 (by decide +kernel) (by decide +kernel)
theorem kw_738 : Cond.methodLink RL 103 yX8_job ∈ TBL := tin 945 (by decide +kernel) (by decide +kernel)
theorem kw_739 : Cond.instanceMethod yX8_job ∈ TBL := tin 946 (by decide +kernel) (by decide +kernel)
theorem kw_740 : Cond.selects RX8 yX8_job yX8_job ∈ TBL := tin 947 (by decide +kernel) (by decide +kernel)
theorem kw_741 : Cond.code yX8_job cX8_job 2 (some .int) ∈ TBL := tin 948 (by decide +kernel) (by decide +kernel)
theorem kw_742 : Cond.methodLink RL 104 yX7_version ∈ TBL := tin 605 (by decide +kernel) (by decide +kernel)
theorem kw_743 : Cond.instanceMethod yX7_version ∈ TBL := tin 606 (by decide +kernel) (by decide +kernel)
theorem kw_744 : Cond.selects RX7 yX7_version yX7_version ∈ TBL := tin 607 (by decide +kernel) (by decide +kernel)
theorem kw_745 : Cond.code yX7_version cX7_version 1 (some .int) ∈ TBL := tin 608 (by decide +kernel) (by decide +kernel)
theorem kw_746 : Cond.fieldLink RX7 155 "GatedTrunk$State" "trunkVersion" "I" ∈ TBL := tin 191 (by decide +kernel) (by decide +kernel)
theorem kw_747 : Cond.methodLink RL 107 yX8_version ∈ TBL := tin 949 (by decide +kernel) (by decide +kernel)
theorem kw_748 : Cond.instanceMethod yX8_version ∈ TBL := tin 950 (by decide +kernel) (by decide +kernel)
theorem kw_749 : Cond.selects RX8 yX8_version yX8_version ∈ TBL := tin 951 (by decide +kernel) (by decide +kernel)
theorem kw_750 : Cond.code yX8_version cX8_version 1 (some .int) ∈ TBL := tin 952 (by decide +kernel) (by decide +kernel)
end
section
/-! the memory of all objects by (state, tag, index, slot); the world that it spells -/
abbrev Mem : Type := Nat → Nat → Nat → Nat → Int32
abbrev RMem : Type := Nat → Nat → Nat → Nat → Option Nat
abbrev XX : Type := Mem × RMem × Nat
abbrev Ob : Type := Nat × Nat × Nat
abbrev WW : Type := va_G × (Nat → ClassId) × Nat
def obS (s : Nat) : List Ob := [(s, 5, 0), (s, 8, 0), (s, 16, 0), (s, 3, 0), (s, 13, 0), (s, 3, 1), (s, 13, 1), (s, 0, 0), (s, 9, 0), (s, 10, 0), (s, 11, 0), (s, 12, 0)] ++ (List.range 16).flatMap fun c => [(s, 1, c), (s, 14, c), (s, 15, c)]
def obs : List Ob := [(2, 6, 0), (2, 4, 0)] ++ obS 0 ++ obS 1 ++ [(2, 17, 0)] ++ (List.range 16).map (fun c => (2, 2, c)) ++ [(2, 7, 0)] ++ (List.range 18).map (fun c => (2, 18 + c, 0))
def offL : List Ob → Ob → Nat
  | [], _ => 0
  | a :: t, o => if a = o then 0 else offL t o + 1
def off (s t c : Nat) : Nat := offL obs (s, t, c)
def ad (w : WW) (s t c : Nat) : Nat := w.2.2 + off s t c
def rl (s t c : Nat) : Bool := match t with
  | 0 => decide (s < 2) && decide (c < 1)
  | 5 => decide (s < 2) && decide (c < 1)
  | 8 => decide (s < 2) && decide (c < 1)
  | 9 => decide (s < 2) && decide (c < 1)
  | 10 => decide (s < 2) && decide (c < 1)
  | 11 => decide (s < 2) && decide (c < 1)
  | 12 => decide (s < 2) && decide (c < 1)
  | 16 => decide (s < 2) && decide (c < 1)
  | 1 => decide (s < 2) && decide (c < 16)
  | 14 => decide (s < 2) && decide (c < 16)
  | 15 => decide (s < 2) && decide (c < 16)
  | 3 => decide (s < 2) && decide (c < 2)
  | 13 => decide (s < 2) && decide (c < 2)
  | 2 => decide (s = 2) && decide (c < 16)
  | t => decide (s = 2) && decide (c < 1) && decide (t < 36)
theorem offL_mem : ∀ (L : List Ob) (o : Ob), o ∈ L → L[offL L o]? = some o
  | a :: t, o, h => by
    unfold offL
    by_cases ha : a = o
    · rw [if_pos ha, ha]; rfl
    · rw [if_neg ha]
      rcases List.mem_cons.mp h with h | h
      · exact absurd h.symm ha
      · rw [List.getElem?_cons_succ]; exact offL_mem t o h
theorem rl_chk : (List.range 3).all (fun s => (List.range 36).all fun t => (List.range 16).all fun c => !rl s t c || obs.any fun o => o.1 == s && (o.2.1 == t && o.2.2 == c)) = true := by decide +kernel
theorem rl_key {s t c : Nat} (hs : s < 3) (ht : t < 36) (hc : c < 16) (h : rl s t c = true) : (s, t, c) ∈ obs := by
  have h1 := List.all_eq_true.mp (List.all_eq_true.mp (List.all_eq_true.mp rl_chk s (List.mem_range.mpr hs)) t (List.mem_range.mpr ht)) c (List.mem_range.mpr hc)
  rw [h] at h1
  obtain ⟨⟨a, b, d⟩, hm, ho⟩ := List.any_eq_true.mp (by simpa using h1 : (obs.any fun o => o.1 == s && (o.2.1 == t && o.2.2 == c)) = true)
  simp only [Bool.and_eq_true, beq_iff_eq] at ho
  obtain ⟨rfl, rfl, rfl⟩ := ho
  exact hm
theorem rl_lt {s t c : Nat} (h : rl s t c = true) : s < 3 ∧ t < 36 ∧ c < 16 := by
  unfold rl at h
  split at h <;> simp only [Bool.and_eq_true, decide_eq_true_eq] at h <;> omega
theorem rl_mem {s t c : Nat} (h : rl s t c = true) : (s, t, c) ∈ obs := by
  obtain ⟨h1, h2, h3⟩ := rl_lt h
  exact rl_key h1 h2 h3 h
theorem obs_len : obs.length = 158 := by decide +kernel
theorem obs_chk : (List.range 158).all (fun j => match obs[j]? with | some o => offL obs o == j | none => false) = true := by decide +kernel
theorem obs_off {j : Nat} {o : Ob} (h : obs[j]? = some o) : offL obs o = j := by
  have hj : j < 158 := by rw [← obs_len]; exact (List.getElem?_eq_some_iff.mp h).1
  have h1 := List.all_eq_true.mp obs_chk j (List.mem_range.mpr hj)
  rw [h] at h1
  simpa using h1
def nF (t : Nat) : Nat := match t with
  | 0 => 5 | 1 => 6 | 2 => 4 | 3 => 2 | 4 => 4 | 5 => 9 | 6 => 4 | _ => 30
def isR (t k : Nat) : Bool := match t with
  | 0 => k != 1
  | 1 => Nat.blt k 2
  | 2 => false
  | 3 => k == 0
  | 4 => false
  | 5 => k == 0 || k == 1 || k == 3 || k == 5 || k == 6 || k == 7
  | 6 => Nat.blt k 3
  | _ => k == 4 || k == 5 || k == 6 || k == 7 || k == 10 || k == 14 || k == 15 || k == 16 || k == 17 || k == 18 || k == 19 || k == 21 || k == 24 || k == 25 || k == 26 || k == 27 || k == 28 || k == 29
def aK (t : Nat) : Nat := match t with
  | 35 => 1 | 16 => 2 | 17 => 3 | _ => 0
def aL (t c : Nat) : Nat := match t with
  | 8 => 6 | 9 => 6 | 10 => 4 | 11 => 4 | 12 => 4
  | 13 => if c = 0 then 16 else 8
  | 14 => 6 | 15 => 6 | 16 => 16 | 17 => 16
  | 18 => 512 | 19 => 512 | 20 => 512 | 21 => 512 | 22 => 6 | 23 => 96 | 24 => 96 | 25 => 16 | 26 => 16 | 27 => 128 | 28 => 16 | 29 => 9 | 30 => 4 | 31 => 4 | 32 => 4 | 33 => 4 | 34 => 6 | 35 => 16
  | _ => 0
def fv (x : XX) (s t c k : Nat) : Value := if isR t k = true then va_rf (x.2.1 s t c k) else .int (x.1 s t c k)
def FE (w : WW) (x : XX) (o : Ob) : va_E := if o.2.1 < 8 then .inr (o.2.1, (List.range (nF o.2.1)).map (fv x o.1 o.2.1 o.2.2)) else .inl (w.2.1 (aK o.2.1), aL o.2.1 o.2.2, if aK o.2.1 < 2 then .inl (x.1 o.1 o.2.1 o.2.2) else .inr (.inr (.inr (.inr (x.2.1 o.1 o.2.1 o.2.2)))))
def wsx (w : WW) (x : XX) : va_W := (obs.take x.2.2).map fun o => (w.2.2 + offL obs o, FE w x o)
def Rl (x : XX) (s t c : Nat) : Prop := rl s t c = true ∧ off s t c < x.2.2
theorem wsx_at {w : WW} {x : XX} {s t c : Nat} (h : Rl x s t c) : (wsx w x)[off s t c]? = some (ad w s t c, FE w x (s, t, c)) := by
  unfold wsx
  rw [List.getElem?_map, List.getElem?_take, if_pos h.2, show obs[off s t c]? = some (s, t, c) from offL_mem obs _ (rl_mem h.1)]
  rfl
theorem wsx_of {w : WW} {x : XX} {j : Nat} {q : Nat × va_E} (h : (wsx w x)[j]? = some q) : ∃ o, obs[j]? = some o ∧ j < x.2.2 ∧ q = (w.2.2 + j, FE w x o) := by
  unfold wsx at h
  rw [List.getElem?_map, List.getElem?_take] at h
  by_cases hj : j < x.2.2
  · rw [if_pos hj] at h
    cases ho : obs[j]? with
    | none => rw [ho] at h; cases h
    | some o =>
      rw [ho] at h
      refine ⟨o, rfl, hj, ?_⟩
      have h2 : (w.2.2 + offL obs o, FE w x o) = q := Option.some.inj h
      rw [← h2, obs_off ho]
  · rw [if_neg hj] at h; cases h
theorem wsD (w : WW) (x : XX) : va_D (fun q => w.2.2 ≤ q) (wsx w x) := by
  refine ⟨fun i j p q hp hq he => ?_, fun k q hk => ?_⟩
  · obtain ⟨o1, -, -, e1⟩ := wsx_of hp
    obtain ⟨o2, -, -, e2⟩ := wsx_of hq
    rw [e1, e2] at he
    exact Nat.add_left_cancel he
  · obtain ⟨o, -, -, e⟩ := wsx_of hk
    rw [e]
    exact Nat.le_add_right _ _
theorem wsx_set {w : WW} {x x' : XX} {s t c : Nat} (h : Rl x s t c) (hn : x'.2.2 = x.2.2) (ho : ∀ o : Ob, o ≠ (s, t, c) → FE w x' o = FE w x o) : (wsx w x).set (off s t c) (ad w s t c, FE w x' (s, t, c)) = wsx w x' := by
  have hm : obs[off s t c]? = some (s, t, c) := offL_mem obs _ (rl_mem h.1)
  refine List.ext_getElem? fun j => ?_
  rw [List.getElem?_set]
  by_cases hj : off s t c = j
  · have hlt : off s t c < (wsx w x).length := (List.getElem?_eq_some_iff.mp (wsx_at (w := w) h)).1
    rw [if_pos hj, if_pos hlt, ← hj]
    exact (wsx_at (w := w) (x := x') ⟨h.1, by rw [hn]; exact h.2⟩).symm
  · rw [if_neg hj]
    unfold wsx
    rw [hn, List.getElem?_map, List.getElem?_map, List.getElem?_take]
    by_cases hl : j < x.2.2
    · rw [if_pos hl]
      cases hoj : obs[j]? with
      | none => rfl
      | some o =>
        have : o ≠ (s, t, c) := fun e => by
          subst e
          exact hj (obs_off hoj)
        show some (w.2.2 + offL obs o, FE w x o) = some (w.2.2 + offL obs o, FE w x' o)
        rw [ho o this]
    · rw [if_neg hl]
      rfl
/-- one place of a function changed -/
def up1 {α : Type} (f : Nat → α) (k : Nat) (v : α) : Nat → α := fun j => if j = k then v else f j
theorem up1_same {α : Type} (f : Nat → α) (k : Nat) (v : α) : up1 f k v k = v := if_pos rfl
theorem up1_ne {α : Type} {f : Nat → α} {k j : Nat} {v : α} (h : j ≠ k) : up1 f k v j = f j := if_neg h
theorem up1_up1 {α : Type} (f : Nat → α) (k : Nat) (u v : α) : up1 (up1 f k u) k v = up1 f k v := by
  funext j
  unfold up1
  by_cases h : j = k <;> simp [h]
theorem up1_eta {α : Type} (f : Nat → α) (k : Nat) : up1 f k (f k) = f := by
  funext j
  unfold up1
  by_cases h : j = k <;> simp [h]
/-- .. of a state's memory, of all memory -/
abbrev Sg : Type := Nat → Nat → Nat → Int32
def sg (f : Sg) (t c k : Nat) (v : Int32) : Sg := up1 f t (up1 (f t) c (up1 (f t c) k v))
def up (M : Mem) (s t c k : Nat) (v : Int32) : Mem := up1 M s (sg (M s) t c k v)
def upR (R : RMem) (s t c k : Nat) (v : Option Nat) : RMem := up1 R s (up1 (R s) t (up1 (R s t) c (up1 (R s t c) k v)))
theorem up_ne {M : Mem} {s t c k : Nat} {v : Int32} {s' t' c' : Nat} (h : (s', t', c') ≠ (s, t, c)) : up M s t c k v s' t' c' = M s' t' c' := by
  unfold up sg up1
  by_cases h1 : s' = s
  · by_cases h2 : t' = t
    · by_cases h3 : c' = c
      · exact absurd (by rw [h1, h2, h3]) h
      · simp [h1, h2, h3]
    · simp [h1, h2]
  · simp [h1]
theorem up_eq (M : Mem) (s t c k : Nat) (v : Int32) : up M s t c k v s t c = up1 (M s t c) k v := by simp [up, sg, up1]
theorem upR_ne {M : RMem} {s t c k : Nat} {v : Option Nat} {s' t' c' : Nat} (h : (s', t', c') ≠ (s, t, c)) : upR M s t c k v s' t' c' = M s' t' c' := by
  unfold upR up1
  by_cases h1 : s' = s
  · by_cases h2 : t' = t
    · by_cases h3 : c' = c
      · exact absurd (by rw [h1, h2, h3]) h
      · simp [h1, h2, h3]
    · simp [h1, h2]
  · simp [h1]
theorem upR_eq (M : RMem) (s t c k : Nat) (v : Option Nat) : upR M s t c k v s t c = up1 (M s t c) k v := by simp [upR, up1]
theorem FE_ne {w : WW} {x x' : XX} {s t c : Nat} (h1 : ∀ s' t' c', (s', t', c') ≠ (s, t, c) → x'.1 s' t' c' = x.1 s' t' c') (h2 : ∀ s' t' c', (s', t', c') ≠ (s, t, c) → x'.2.1 s' t' c' = x.2.1 s' t' c') : ∀ o : Ob, o ≠ (s, t, c) → FE w x' o = FE w x o := by
  intro o ho
  obtain ⟨s', t', c'⟩ := o
  unfold FE fv
  rw [h1 s' t' c' ho, h2 s' t' c' ho]
theorem FE_obj {w : WW} {x : XX} {s t c : Nat} (ht : t < 8) : FE w x (s, t, c) = .inr (t, (List.range (nF t)).map (fv x s t c)) := if_pos ht
theorem fv_at {x : XX} {s t c k : Nat} (hk : k < nF t) : ((List.range (nF t)).map (fv x s t c))[k]? = some (fv x s t c k) := by
  rw [List.getElem?_map, List.getElem?_range hk]; rfl
theorem fv_len {x : XX} {s t c k : Nat} (hk : k < nF t) : k < ((List.range (nF t)).map (fv x s t c)).length := by
  rw [List.length_map, List.length_range]; exact hk
theorem fv_set {x x' : XX} {s t c k : Nat} {v : Value} (hv : fv x' s t c k = v) (ho : ∀ j, j ≠ k → fv x' s t c j = fv x s t c j) : ((List.range (nF t)).map (fv x s t c)).set k v = (List.range (nF t)).map (fv x' s t c) := by
  refine List.ext_getElem? fun j => ?_
  rw [List.getElem?_set]
  by_cases hj : k = j
  · subst hj
    rw [if_pos rfl]
    by_cases hl : k < nF t
    · rw [if_pos (fv_len hl), fv_at hl, hv]
    · rw [if_neg (by rw [List.length_map, List.length_range]; exact hl), List.getElem?_eq_none (by rw [List.length_map, List.length_range]; omega)]
  · rw [if_neg hj, List.getElem?_map, List.getElem?_map]
    by_cases hl : j < nF t
    · rw [List.getElem?_range hl]
      show some _ = some _
      rw [ho j (Ne.symm hj)]
    · rw [List.getElem?_eq_none (by rw [List.length_range]; omega)]; rfl
end
section
/-! THE JUDGEMENT A: a method stands at pc with these places and this stack over the world x; it goes on to an end that Φ allows -/
def isNest : Cond → Bool
  | .methodLinkNest _ _ _ _ => true
  | _ => false
def NEST : List Cond := lw_tbl.filter isNest
def tysx (w : WW) : List (ClassId × FieldType) := [(w.2.1 0, .int), (w.2.1 1, .boolean), (w.2.1 2, .object "GatedTrunk$Change"), (w.2.1 3, .object "GatedTrunk$Event")]
def Kx (w : WW) (U : State) : Prop := va_K w.1 vwCl (tysx w) U ∧ (∀ q ∈ NEST, va_Nw q U) ∧ va_AO "GatedTrunk$Change" U ∧ va_AO "GatedTrunk$Event" U
theorem nest_on {q : Cond} (h : q ∈ NEST) : q.onTables = true := by
  have h2 := (List.mem_filter.mp h).2
  cases q <;> first | rfl | (simp [isNest] at h2)
theorem Kx.moved {w : WW} {s U : State} (hW : s.WarmedH U.vm) (h : Kx w s) : Kx w U := by
  obtain ⟨h1, h2, h3, h4⟩ := h
  refine ⟨va_K.moved hW.alike h1, fun q hq => ?_, h3.moved hW.alike, h4.moved hW.alike⟩
  have h5 := (List.mem_filter.mp hq).2
  have h6 := h2 q hq
  cases q <;> first | exact va_Nw.warmM hW h6 | (simp [isNest] at h5)
theorem Kx.same {w : WW} {s U : State} (hv : s.vm = U.vm) (h : Kx w s) : Kx w U := by
  obtain ⟨h1, h2, h3, h4⟩ := h
  exact ⟨va_K.moved (by rw [hv]; exact Vm.Alike.refl _) h1, fun q hq => va_Nw.same (nest_on hq) hv (h2 q hq), h3.moved (by rw [hv]; exact Vm.Alike.refl _), h4.moved (by rw [hv]; exact Vm.Alike.refl _)⟩
def lz : Nat → List (Option Value) → List (Nat × Value)
  | _, [] => []
  | i, none :: t => lz (i + 1) t
  | i, some v :: t => (i, v) :: lz (i + 1) t
theorem lz_mem : ∀ (ls : List (Option Value)) (j i : Nat) (v : Value), ls[i]? = some (some v) → (j + i, v) ∈ lz j ls
  | none :: t, j, 0, v, h => by cases h
  | some u :: t, j, 0, v, h => by
    have : u = v := by simpa using h
    subst this
    exact List.mem_cons_self
  | none :: t, j, i + 1, v, h => by
    have := lz_mem t (j + 1) i v (by simpa using h)
    rw [show j + (i + 1) = j + 1 + i by omega]
    exact this
  | some u :: t, j, i + 1, v, h => by
    have := lz_mem t (j + 1) i v (by simpa using h)
    rw [show j + (i + 1) = j + 1 + i by omega]
    exact List.mem_cons_of_mem _ this
theorem lz_of : ∀ (ls : List (Option Value)) (j k : Nat) (v : Value), (k, v) ∈ lz j ls → j ≤ k ∧ ls[k - j]? = some (some v)
  | [], j, k, v, h => by cases h
  | none :: t, j, k, v, h => by
    obtain ⟨h1, h2⟩ := lz_of t (j + 1) k v h
    refine ⟨by omega, ?_⟩
    rw [show k - j = (k - (j + 1)) + 1 by omega, List.getElem?_cons_succ]
    exact h2
  | some u :: t, j, k, v, h => by
    rcases List.mem_cons.mp h with h | h
    · cases h
      simp
    · obtain ⟨h1, h2⟩ := lz_of t (j + 1) k v h
      refine ⟨by omega, ?_⟩
      rw [show k - j = (k - (j + 1)) + 1 by omega, List.getElem?_cons_succ]
      exact h2
def Lh (arr : Array Slot) (nL : Nat) (ls : List (Option Value)) : Prop := lv_has arr nL (lz 0 ls) ∧ ∀ q ∈ lz 0 ls, q.2.category = 1
theorem Lh.at {arr : Array Slot} {nL i : Nat} {ls : List (Option Value)} {v : Value} (h : Lh arr nL ls) (hi : ls[i]? = some (some v)) : arr[i]? = some (.val v) := by
  have h1 := h.1.2.2 _ (lz_mem ls 0 i v hi)
  simpa using h1
theorem Lh.put {arr arr' : Array Slot} {nL i : Nat} {ls : List (Option Value)} {v : Value} (h : Lh arr nL ls) (hc : v.category = 1) (h' : lv_has arr' nL ((i, v) :: (lz 0 ls).filter (fun q => !(q.1 == i) && !(q.1 + 1 == i && q.2.category == 2)))) : Lh arr' nL (ls.set i (some v)) := by
  have key : ∀ q ∈ lz 0 (ls.set i (some v)), q = (i, v) ∨ (q.1 ≠ i ∧ q ∈ lz 0 ls) := by
    rintro ⟨k, u⟩ hq
    obtain ⟨-, h2⟩ := lz_of _ 0 k u hq
    rw [Nat.sub_zero, List.getElem?_set] at h2
    by_cases hk : i = k
    · rw [if_pos hk] at h2
      by_cases hl : i < ls.length
      · rw [if_pos hl] at h2
        cases h2
        exact Or.inl (by rw [hk])
      · rw [if_neg hl] at h2; cases h2
    · rw [if_neg hk] at h2
      have := lz_mem ls 0 k u h2
      rw [Nat.zero_add] at this
      exact Or.inr ⟨Ne.symm hk, this⟩
  refine ⟨⟨h'.1, h'.2.1, fun q hq => ?_⟩, fun q hq => ?_⟩
  · rcases key q hq with rfl | ⟨h1, h2⟩
    · exact h'.2.2 _ List.mem_cons_self
    · refine h'.2.2 q (List.mem_cons_of_mem _ (List.mem_filter.mpr ⟨h2, ?_⟩))
      have h3 := h.2 q h2
      simp [h1, h3]
  · rcases key q hq with rfl | ⟨h1, h2⟩
    · exact hc
    · exact h.2 q h2
def Qx (w : WW) (mc : Nat) (Φ : Option Value → XX → Prop) : Array Value → State → Outcome → State → Prop := fun _ st o t => ∃ (v : Option Value) (x : XX), o = .returned v ∧ Φ v x ∧ (st.heap.size + mc = w.2.2 + x.2.2 ∧ x.2.2 ≤ 158) ∧ va_P w.1 vwCl (wsx w x) t.heap ∧ va_F (fun q => w.2.2 ≤ q) st t
def Px (w : WW) (vs : List Value) (x : XX) : Array Value → State → Prop := va_Pc vs (fun U => (U.heap.size = w.2.2 + x.2.2 ∧ x.2.2 ≤ 158) ∧ va_P w.1 vwCl (wsx w x) U.heap ∧ Kx w U)
/-- method y, called with vs over the world x, comes back with an answer and a world that Φ allows -/
def Can (l : Launch) (w : WW) (y : MethodName) (cc : ByteArray) (nL : Nat) (ret : Option FieldType) (rm : Room) (vs : List Value) (x : XX) (Φ : Option Value → XX → Prop) : Prop :=
  Met l y (Cond.code y cc nL ret :: TBL) rm (Px w vs x) (Qx w rm.cells Φ) rm.cells rm.slots (fun q => w.2.2 ≤ q)
def Ev (p : Program) (s : State) (m : MethodId) (args : Array Value) (meth : Method) (c : Code) (y : MethodName) (cc : ByteArray) (nL : Nat) (ret : Option FieldType) : Prop :=
  p.tables.exec = Jvm.exec ∧ c.code = cc ∧ c.maxLocals = nL ∧ meth.sig.returnType = ret ∧ meth.locks = false ∧ meth.name = y.name ∧ s.vm.findClass y.cls = some m.cls ∧ ∀ q ∈ TBL, q.before args s = true
def A (l : Launch) (w : WW) (y : MethodName) (cc : ByteArray) (nL : Nat) (ret : Option FieldType) (rm : Room) (Φ : Option Value → XX → Prop) (pc : Nat) (ls : List (Option Value)) (st : List Value) (x : XX) (kc ks : Nat) : Prop :=
  ∀ (p : Program) (e : Env) (s : State) (m : MethodId) (args : Array Value) (below : List Frame) (meth : Method) (c : Code) (H : Heap) (locs : List Loc) (arr : Array Slot), Ev p s m args meth c y cc nL ret → Kx w s → va_P w.1 vwCl (wsx w x) H → (s.heap.size + kc = w.2.2 + x.2.2 ∧ x.2.2 ≤ 158) → va_S (fun q => w.2.2 ≤ q) s.heap H locs → w.2.2 ≤ s.heap.size → Lh arr nL ls →
    W p l e rm s m args below meth c H locs kc ks (MQ below (Qx w rm.cells Φ) args s rm.cells rm.slots (fun q => w.2.2 ≤ q)) (F0 m pc arr st)
theorem Can.mono {l : Launch} {w : WW} {y : MethodName} {cc : ByteArray} {nL : Nat} {ret : Option FieldType} {rm : Room} {vs : List Value} {x : XX} {Φ Ψ : Option Value → XX → Prop} (h : Can l w y cc nL ret rm vs x Φ) (hi : ∀ v z, Φ v z → Ψ v z) : Can l w y cc nL ret rm vs x Ψ := by
  intro p e ha hc hk s m args below hf happ hpre hx
  obtain ⟨k, o, h1, h2, h3, hQ, hR⟩ := h p e ha hc hk s m args below hf happ hpre hx
  obtain ⟨v, z, a1, a2, a3⟩ := hQ
  exact ⟨k, o, h1, h2, h3, ⟨v, z, a1, hi v z a2, a3⟩, hR⟩
def loc0 (vs : List Value) (nL : Nat) : List (Option Value) := vs.map some ++ List.replicate (nL - vs.length) none
theorem lz_args : ∀ (vs : List Value) (j : Nat), (∀ v ∈ vs, v.category = 1) → ∀ t : List (Option Value), (∀ q ∈ t, q = none) → ∀ k v, (k, v) ∈ lz j (vs.map some ++ t) → j ≤ k ∧ vs[k - j]? = some v
  | vs, j, hc, t, ht, k, v, h => by
    obtain ⟨h1, h2⟩ := lz_of _ j k v h
    refine ⟨h1, ?_⟩
    rw [List.getElem?_append] at h2
    split at h2
    · rw [List.getElem?_map] at h2
      cases hv : vs[k - j]? with
      | none => rw [hv] at h2; cases h2
      | some u => rw [hv] at h2; simpa using h2
    · have := ht _ (List.mem_of_getElem? h2)
      cases this
theorem Lh_entry {vs : List Value} {nL : Nat} (hc : ∀ v ∈ vs, v.category = 1) (hn : vs.length ≤ nL) : Lh ((vs.map Slot.val ++ List.replicate (nL - vs.length) Slot.unset).toArray) nL (loc0 vs nL) := by
  have hk : ∀ q ∈ lz 0 (loc0 vs nL), vs[q.1]? = some q.2 := by
    rintro ⟨k, v⟩ hq
    have := (lz_args vs 0 hc _ (fun q hq => List.eq_of_mem_replicate hq) k v hq).2
    simpa using this
  refine ⟨⟨by simp; omega, ⟨fun i v h hv => ?_, fun i h => ?_⟩, fun q hq => ?_⟩, fun q hq => hc _ (List.mem_of_getElem? (hk q hq))⟩
  · rw [List.getElem?_toArray, List.getElem?_append] at h
    split at h
    · rw [List.getElem?_map] at h
      cases hu : vs[i]? with
      | none => rw [hu] at h; cases h
      | some u =>
        rw [hu] at h
        have e : u = v := by simpa using h
        subst e
        have := hc _ (List.mem_of_getElem? hu)
        omega
    · have := List.eq_of_mem_replicate (List.mem_of_getElem? h)
      cases this
  · rw [List.getElem?_toArray, List.getElem?_append] at h
    split at h
    · rw [List.getElem?_map] at h
      cases hu : vs[i]? with
      | none => rw [hu] at h; cases h
      | some u => rw [hu] at h; simp at h
    · have := List.eq_of_mem_replicate (List.mem_of_getElem? h)
      cases this
  · have h1 := hk q hq
    have h2 : q.1 < vs.length := (List.getElem?_eq_some_iff.mp h1).1
    rw [List.getElem?_toArray, List.getElem?_append_left (by simpa using h2), List.getElem?_map, h1]
    rfl
/-- a contract out of the walk from the entry -/
theorem Can.of {l : Launch} {w : WW} {y : MethodName} {cc : ByteArray} {nL : Nat} {ret : Option FieldType} {rm : Room} {vs : List Value} {x : XX} {Φ : Option Value → XX → Prop} (hy : plainName y.cls = true) (hc : ∀ v ∈ vs, v.category = 1) (hn : vs.length ≤ nL) (body : A l w y cc nL ret rm Φ 0 (loc0 vs nL) [] x 0 0) : Can l w y cc nL ret rm vs x Φ := by
  refine Met.ofW (cc := cc) (maxL := nL) (ret := ret) hy rfl ?_
  intro p e s m args below meth c s₁ B hml hv
  obtain ⟨rfl, hsz, hP, hK⟩ := hv
  have hts := atoms_spec (ws := Cond.code y cc nL ret :: TBL) B.pre
  have hE : Ev p s m vs.toArray meth c y cc nL ret := ⟨B.exec, B.bytes, hml, B.returns, B.notSynchronized, (name_of_methodNamed B.named B.method).1, findClass_of_methodNamed B.named, fun q hq => hts q (List.mem_cons_of_mem _ hq)⟩
  rw [entry_eq m vs hc nL]
  exact body p e s m vs.toArray below meth c s.heap [] _ hE hK hP hsz va_S.rf (by rw [hsz.1]; exact Nat.le_add_right _ _) (Lh_entry hc hn)
section AR
variable {l : Launch} {w : WW} {y : MethodName} {cc : ByteArray} {nL : Nat} {ret : Option FieldType} {rm : Room} {Φ : Option Value → XX → Prop} {pc : Nat} {ls : List (Option Value)} {st : List Value} {x : XX} {kc ks : Nat}
theorem a_iconst {n : Int} {v : Int32} (hdg : decode cc pc = .ok (.iconst n, 1)) (hv : Int32.ofInt n = v) (kk : A l w y cc nL ret rm Φ (pc + 1) ls (.int v :: st) x kc ks) : A l w y cc nL ret rm Φ pc ls (st) x kc ks := by
  intro p e s m args below meth c H locs arr E K P Z S B L
  have hx := E.1
  have hb := E.2.1
  exact lv_iconst hx hb hdg hv (kk p e s m args below meth c H locs arr E K P Z S B L)
theorem a_bipush {n : Int} {v : Int32} (hdg : decode cc pc = .ok (.bipush n, 2)) (hv : (Int8.ofInt n).toInt32 = v) (kk : A l w y cc nL ret rm Φ (pc + 2) ls (.int v :: st) x kc ks) : A l w y cc nL ret rm Φ pc ls (st) x kc ks := by
  intro p e s m args below meth c H locs arr E K P Z S B L
  have hx := E.1
  have hb := E.2.1
  exact lv_bipush hx hb hdg hv (kk p e s m args below meth c H locs arr E K P Z S B L)
theorem a_sipush {n : Int} {v : Int32} (hdg : decode cc pc = .ok (.sipush n, 3)) (hv : (Int16.ofInt n).toInt32 = v) (kk : A l w y cc nL ret rm Φ (pc + 3) ls (.int v :: st) x kc ks) : A l w y cc nL ret rm Φ pc ls (st) x kc ks := by
  intro p e s m args below meth c H locs arr E K P Z S B L
  have hx := E.1
  have hb := E.2.1
  exact lv_sipush hx hb hdg hv (kk p e s m args below meth c H locs arr E K P Z S B L)
theorem a_ldc {index : Nat} {v : Int32} (hdg : decode cc pc = .ok (.ldc index, 2)) (hv : Cond.constant y.cls index v ∈ TBL) (kk : A l w y cc nL ret rm Φ (pc + 2) ls (.int v :: st) x kc ks) : A l w y cc nL ret rm Φ pc ls (st) x kc ks := by
  intro p e s m args below meth c H locs arr E K P Z S B L
  have hx := E.1
  have hb := E.2.1
  exact lv_ldc hx hb E.2.2.2.2.2.2.1 (E.2.2.2.2.2.2.2 _ hv) hdg (kk p e s m args below meth c H locs arr E K P Z S B L)
theorem a_ldcw {index : Nat} {v : Int32} (hdg : decode cc pc = .ok (.ldc_w index, 3)) (hv : Cond.constant y.cls index v ∈ TBL) (kk : A l w y cc nL ret rm Φ (pc + 3) ls (.int v :: st) x kc ks) : A l w y cc nL ret rm Φ pc ls (st) x kc ks := by
  intro p e s m args below meth c H locs arr E K P Z S B L
  have hx := E.1
  have hb := E.2.1
  exact lv_ldcw hx hb E.2.2.2.2.2.2.1 (E.2.2.2.2.2.2.2 _ hv) hdg (kk p e s m args below meth c H locs arr E K P Z S B L)
theorem a_iload_n {k : Fin 4} {v : Int32} (hdg : decode cc pc = .ok (.iload_n k, 1)) (hi : ls[(k : Nat)]? = some (some (.int v))) (kk : A l w y cc nL ret rm Φ (pc + 1) ls (.int v :: st) x kc ks) : A l w y cc nL ret rm Φ pc ls (st) x kc ks := by
  intro p e s m args below meth c H locs arr E K P Z S B L
  have hx := E.1
  have hb := E.2.1
  exact lv_iload_n hx hb hdg rfl (L.at hi) (kk p e s m args below meth c H locs arr E K P Z S B L)
theorem a_iload {i : Nat} {v : Int32} (hdg : decode cc pc = .ok (.iload i, 2)) (hi : ls[i]? = some (some (.int v))) (kk : A l w y cc nL ret rm Φ (pc + 2) ls (.int v :: st) x kc ks) : A l w y cc nL ret rm Φ pc ls (st) x kc ks := by
  intro p e s m args below meth c H locs arr E K P Z S B L
  have hx := E.1
  have hb := E.2.1
  exact lv_iload hx hb hdg (L.at hi) (kk p e s m args below meth c H locs arr E K P Z S B L)
theorem a_aload_n {k : Fin 4} {v : Nat} (hdg : decode cc pc = .ok (.aload_n k, 1)) (hi : ls[(k : Nat)]? = some (some (.ref v))) (kk : A l w y cc nL ret rm Φ (pc + 1) ls (.ref v :: st) x kc ks) : A l w y cc nL ret rm Φ pc ls (st) x kc ks := by
  intro p e s m args below meth c H locs arr E K P Z S B L
  have hx := E.1
  have hb := E.2.1
  exact lv_aload_n hx hb hdg rfl (L.at hi) (kk p e s m args below meth c H locs arr E K P Z S B L)
theorem a_aload {i : Nat} {v : Nat} (hdg : decode cc pc = .ok (.aload i, 2)) (hi : ls[i]? = some (some (.ref v))) (kk : A l w y cc nL ret rm Φ (pc + 2) ls (.ref v :: st) x kc ks) : A l w y cc nL ret rm Φ pc ls (st) x kc ks := by
  intro p e s m args below meth c H locs arr E K P Z S B L
  have hx := E.1
  have hb := E.2.1
  exact lv_aload hx hb hdg (L.at hi) (kk p e s m args below meth c H locs arr E K P Z S B L)
theorem a_istore_n {k : Fin 4} {v : Int32} {ls2 : List (Option Value)} (hdg : decode cc pc = .ok (.istore_n k, 1)) (hn : (k : Nat) < nL) (hs : ls.set (k : Nat) (some (.int v)) = ls2) (kk : A l w y cc nL ret rm Φ (pc + 1) ls2 st x kc ks) : A l w y cc nL ret rm Φ pc ls (.int v :: st) x kc ks := by
  intro p e s m args below meth c H locs arr E K P Z S B L
  have hx := E.1
  have hb := E.2.1
  subst hs
  exact lv_istore_n hx hb hdg rfl L.1 hn rfl (fun arr2 h2 => kk p e s m args below meth c H locs arr2 E K P Z S B (L.put rfl h2))
theorem a_istore {i : Nat} {v : Int32} {ls2 : List (Option Value)} (hdg : decode cc pc = .ok (.istore i, 2)) (hn : i < nL) (hs : ls.set i (some (.int v)) = ls2) (kk : A l w y cc nL ret rm Φ (pc + 2) ls2 st x kc ks) : A l w y cc nL ret rm Φ pc ls (.int v :: st) x kc ks := by
  intro p e s m args below meth c H locs arr E K P Z S B L
  have hx := E.1
  have hb := E.2.1
  subst hs
  exact lv_istore hx hb hdg L.1 hn rfl (fun arr2 h2 => kk p e s m args below meth c H locs arr2 E K P Z S B (L.put rfl h2))
theorem a_istore_0 {b : Option Value} {t : List (Option Value)} {v : Int32} (hdg : decode cc pc = .ok (.istore_n 0, 1)) (hn : 0 < nL) (kk : A l w y cc nL ret rm Φ (pc + 1) (some (.int v) :: t) st x kc ks) : A l w y cc nL ret rm Φ pc (b :: t) (.int v :: st) x kc ks := a_istore_n hdg hn rfl kk
theorem a_istore_1 {a0 : Option Value} {b : Option Value} {t : List (Option Value)} {v : Int32} (hdg : decode cc pc = .ok (.istore_n 1, 1)) (hn : 1 < nL) (kk : A l w y cc nL ret rm Φ (pc + 1) (a0 :: some (.int v) :: t) st x kc ks) : A l w y cc nL ret rm Φ pc (a0 :: b :: t) (.int v :: st) x kc ks := a_istore_n hdg hn rfl kk
theorem a_istore_2 {a0 a1 : Option Value} {b : Option Value} {t : List (Option Value)} {v : Int32} (hdg : decode cc pc = .ok (.istore_n 2, 1)) (hn : 2 < nL) (kk : A l w y cc nL ret rm Φ (pc + 1) (a0 :: a1 :: some (.int v) :: t) st x kc ks) : A l w y cc nL ret rm Φ pc (a0 :: a1 :: b :: t) (.int v :: st) x kc ks := a_istore_n hdg hn rfl kk
theorem a_istore_3 {a0 a1 a2 : Option Value} {b : Option Value} {t : List (Option Value)} {v : Int32} (hdg : decode cc pc = .ok (.istore_n 3, 1)) (hn : 3 < nL) (kk : A l w y cc nL ret rm Φ (pc + 1) (a0 :: a1 :: a2 :: some (.int v) :: t) st x kc ks) : A l w y cc nL ret rm Φ pc (a0 :: a1 :: a2 :: b :: t) (.int v :: st) x kc ks := a_istore_n hdg hn rfl kk
theorem a_istore_4 {a0 a1 a2 a3 : Option Value} {b : Option Value} {t : List (Option Value)} {v : Int32} (hdg : decode cc pc = .ok (.istore 4, 2)) (hn : 4 < nL) (kk : A l w y cc nL ret rm Φ (pc + 2) (a0 :: a1 :: a2 :: a3 :: some (.int v) :: t) st x kc ks) : A l w y cc nL ret rm Φ pc (a0 :: a1 :: a2 :: a3 :: b :: t) (.int v :: st) x kc ks := a_istore hdg hn rfl kk
theorem a_istore_5 {a0 a1 a2 a3 a4 : Option Value} {b : Option Value} {t : List (Option Value)} {v : Int32} (hdg : decode cc pc = .ok (.istore 5, 2)) (hn : 5 < nL) (kk : A l w y cc nL ret rm Φ (pc + 2) (a0 :: a1 :: a2 :: a3 :: a4 :: some (.int v) :: t) st x kc ks) : A l w y cc nL ret rm Φ pc (a0 :: a1 :: a2 :: a3 :: a4 :: b :: t) (.int v :: st) x kc ks := a_istore hdg hn rfl kk
theorem a_istore_6 {a0 a1 a2 a3 a4 a5 : Option Value} {b : Option Value} {t : List (Option Value)} {v : Int32} (hdg : decode cc pc = .ok (.istore 6, 2)) (hn : 6 < nL) (kk : A l w y cc nL ret rm Φ (pc + 2) (a0 :: a1 :: a2 :: a3 :: a4 :: a5 :: some (.int v) :: t) st x kc ks) : A l w y cc nL ret rm Φ pc (a0 :: a1 :: a2 :: a3 :: a4 :: a5 :: b :: t) (.int v :: st) x kc ks := a_istore hdg hn rfl kk
theorem a_astore_n {k : Fin 4} {v : Nat} {ls2 : List (Option Value)} (hdg : decode cc pc = .ok (.astore_n k, 1)) (hn : (k : Nat) < nL) (hs : ls.set (k : Nat) (some (.ref v)) = ls2) (kk : A l w y cc nL ret rm Φ (pc + 1) ls2 st x kc ks) : A l w y cc nL ret rm Φ pc ls (.ref v :: st) x kc ks := by
  intro p e s m args below meth c H locs arr E K P Z S B L
  have hx := E.1
  have hb := E.2.1
  subst hs
  exact lv_astore_n hx hb hdg rfl L.1 hn rfl (fun arr2 h2 => kk p e s m args below meth c H locs arr2 E K P Z S B (L.put rfl h2))
theorem a_astore {i : Nat} {v : Nat} {ls2 : List (Option Value)} (hdg : decode cc pc = .ok (.astore i, 2)) (hn : i < nL) (hs : ls.set i (some (.ref v)) = ls2) (kk : A l w y cc nL ret rm Φ (pc + 2) ls2 st x kc ks) : A l w y cc nL ret rm Φ pc ls (.ref v :: st) x kc ks := by
  intro p e s m args below meth c H locs arr E K P Z S B L
  have hx := E.1
  have hb := E.2.1
  subst hs
  exact lv_astore hx hb hdg L.1 hn rfl (fun arr2 h2 => kk p e s m args below meth c H locs arr2 E K P Z S B (L.put rfl h2))
theorem a_astore_0 {b : Option Value} {t : List (Option Value)} {v : Nat} (hdg : decode cc pc = .ok (.astore_n 0, 1)) (hn : 0 < nL) (kk : A l w y cc nL ret rm Φ (pc + 1) (some (.ref v) :: t) st x kc ks) : A l w y cc nL ret rm Φ pc (b :: t) (.ref v :: st) x kc ks := a_astore_n hdg hn rfl kk
theorem a_astore_1 {a0 : Option Value} {b : Option Value} {t : List (Option Value)} {v : Nat} (hdg : decode cc pc = .ok (.astore_n 1, 1)) (hn : 1 < nL) (kk : A l w y cc nL ret rm Φ (pc + 1) (a0 :: some (.ref v) :: t) st x kc ks) : A l w y cc nL ret rm Φ pc (a0 :: b :: t) (.ref v :: st) x kc ks := a_astore_n hdg hn rfl kk
theorem a_astore_2 {a0 a1 : Option Value} {b : Option Value} {t : List (Option Value)} {v : Nat} (hdg : decode cc pc = .ok (.astore_n 2, 1)) (hn : 2 < nL) (kk : A l w y cc nL ret rm Φ (pc + 1) (a0 :: a1 :: some (.ref v) :: t) st x kc ks) : A l w y cc nL ret rm Φ pc (a0 :: a1 :: b :: t) (.ref v :: st) x kc ks := a_astore_n hdg hn rfl kk
theorem a_astore_3 {a0 a1 a2 : Option Value} {b : Option Value} {t : List (Option Value)} {v : Nat} (hdg : decode cc pc = .ok (.astore_n 3, 1)) (hn : 3 < nL) (kk : A l w y cc nL ret rm Φ (pc + 1) (a0 :: a1 :: a2 :: some (.ref v) :: t) st x kc ks) : A l w y cc nL ret rm Φ pc (a0 :: a1 :: a2 :: b :: t) (.ref v :: st) x kc ks := a_astore_n hdg hn rfl kk
theorem a_astore_4 {a0 a1 a2 a3 : Option Value} {b : Option Value} {t : List (Option Value)} {v : Nat} (hdg : decode cc pc = .ok (.astore 4, 2)) (hn : 4 < nL) (kk : A l w y cc nL ret rm Φ (pc + 2) (a0 :: a1 :: a2 :: a3 :: some (.ref v) :: t) st x kc ks) : A l w y cc nL ret rm Φ pc (a0 :: a1 :: a2 :: a3 :: b :: t) (.ref v :: st) x kc ks := a_astore hdg hn rfl kk
theorem a_astore_5 {a0 a1 a2 a3 a4 : Option Value} {b : Option Value} {t : List (Option Value)} {v : Nat} (hdg : decode cc pc = .ok (.astore 5, 2)) (hn : 5 < nL) (kk : A l w y cc nL ret rm Φ (pc + 2) (a0 :: a1 :: a2 :: a3 :: a4 :: some (.ref v) :: t) st x kc ks) : A l w y cc nL ret rm Φ pc (a0 :: a1 :: a2 :: a3 :: a4 :: b :: t) (.ref v :: st) x kc ks := a_astore hdg hn rfl kk
theorem a_astore_6 {a0 a1 a2 a3 a4 a5 : Option Value} {b : Option Value} {t : List (Option Value)} {v : Nat} (hdg : decode cc pc = .ok (.astore 6, 2)) (hn : 6 < nL) (kk : A l w y cc nL ret rm Φ (pc + 2) (a0 :: a1 :: a2 :: a3 :: a4 :: a5 :: some (.ref v) :: t) st x kc ks) : A l w y cc nL ret rm Φ pc (a0 :: a1 :: a2 :: a3 :: a4 :: a5 :: b :: t) (.ref v :: st) x kc ks := a_astore hdg hn rfl kk
theorem a_iinc {i : Nat} {n : Int} {v u : Int32} {ls2 : List (Option Value)} (hdg : decode cc pc = .ok (.iinc i n, 3)) (hi : ls[i]? = some (some (.int v))) (hv : v + Int32.ofInt n = u) (hn : i < nL) (hs : ls.set i (some (.int u)) = ls2) (kk : A l w y cc nL ret rm Φ (pc + 3) ls2 st x kc ks) : A l w y cc nL ret rm Φ pc ls st x kc ks := by
  intro p e s m args below meth c H locs arr E K P Z S B L
  have hx := E.1
  have hb := E.2.1
  subst hs
  have h1 := lz_mem ls 0 i _ hi
  rw [Nat.zero_add] at h1
  obtain ⟨k, hk⟩ := List.getElem?_of_mem h1
  exact lv_iinc hx hb hdg L.1 hk hv hn rfl (fun arr2 h2 => kk p e s m args below meth c H locs arr2 E K P Z S B (L.put rfl h2))
theorem a_iinc_0 {n : Int} {v u : Int32} {t : List (Option Value)} (hdg : decode cc pc = .ok (.iinc 0 n, 3)) (hv : v + Int32.ofInt n = u) (hn : 0 < nL) (kk : A l w y cc nL ret rm Φ (pc + 3) (some (.int u) :: t) st x kc ks) : A l w y cc nL ret rm Φ pc (some (.int v) :: t) st x kc ks := a_iinc hdg rfl hv hn rfl kk
theorem a_iinc_1 {a0 : Option Value} {n : Int} {v u : Int32} {t : List (Option Value)} (hdg : decode cc pc = .ok (.iinc 1 n, 3)) (hv : v + Int32.ofInt n = u) (hn : 1 < nL) (kk : A l w y cc nL ret rm Φ (pc + 3) (a0 :: some (.int u) :: t) st x kc ks) : A l w y cc nL ret rm Φ pc (a0 :: some (.int v) :: t) st x kc ks := a_iinc hdg rfl hv hn rfl kk
theorem a_iinc_2 {a0 a1 : Option Value} {n : Int} {v u : Int32} {t : List (Option Value)} (hdg : decode cc pc = .ok (.iinc 2 n, 3)) (hv : v + Int32.ofInt n = u) (hn : 2 < nL) (kk : A l w y cc nL ret rm Φ (pc + 3) (a0 :: a1 :: some (.int u) :: t) st x kc ks) : A l w y cc nL ret rm Φ pc (a0 :: a1 :: some (.int v) :: t) st x kc ks := a_iinc hdg rfl hv hn rfl kk
theorem a_iinc_3 {a0 a1 a2 : Option Value} {n : Int} {v u : Int32} {t : List (Option Value)} (hdg : decode cc pc = .ok (.iinc 3 n, 3)) (hv : v + Int32.ofInt n = u) (hn : 3 < nL) (kk : A l w y cc nL ret rm Φ (pc + 3) (a0 :: a1 :: a2 :: some (.int u) :: t) st x kc ks) : A l w y cc nL ret rm Φ pc (a0 :: a1 :: a2 :: some (.int v) :: t) st x kc ks := a_iinc hdg rfl hv hn rfl kk
theorem a_iinc_4 {a0 a1 a2 a3 : Option Value} {n : Int} {v u : Int32} {t : List (Option Value)} (hdg : decode cc pc = .ok (.iinc 4 n, 3)) (hv : v + Int32.ofInt n = u) (hn : 4 < nL) (kk : A l w y cc nL ret rm Φ (pc + 3) (a0 :: a1 :: a2 :: a3 :: some (.int u) :: t) st x kc ks) : A l w y cc nL ret rm Φ pc (a0 :: a1 :: a2 :: a3 :: some (.int v) :: t) st x kc ks := a_iinc hdg rfl hv hn rfl kk
theorem a_iinc_5 {a0 a1 a2 a3 a4 : Option Value} {n : Int} {v u : Int32} {t : List (Option Value)} (hdg : decode cc pc = .ok (.iinc 5 n, 3)) (hv : v + Int32.ofInt n = u) (hn : 5 < nL) (kk : A l w y cc nL ret rm Φ (pc + 3) (a0 :: a1 :: a2 :: a3 :: a4 :: some (.int u) :: t) st x kc ks) : A l w y cc nL ret rm Φ pc (a0 :: a1 :: a2 :: a3 :: a4 :: some (.int v) :: t) st x kc ks := a_iinc hdg rfl hv hn rfl kk
theorem a_iinc_6 {a0 a1 a2 a3 a4 a5 : Option Value} {n : Int} {v u : Int32} {t : List (Option Value)} (hdg : decode cc pc = .ok (.iinc 6 n, 3)) (hv : v + Int32.ofInt n = u) (hn : 6 < nL) (kk : A l w y cc nL ret rm Φ (pc + 3) (a0 :: a1 :: a2 :: a3 :: a4 :: a5 :: some (.int u) :: t) st x kc ks) : A l w y cc nL ret rm Φ pc (a0 :: a1 :: a2 :: a3 :: a4 :: a5 :: some (.int v) :: t) st x kc ks := a_iinc hdg rfl hv hn rfl kk
theorem a_iadd {p_ q_ : Int32} (hdg : decode cc pc = .ok (.iadd, 1)) (kk : A l w y cc nL ret rm Φ (pc + 1) ls (.int (p_ + q_) :: st) x kc ks) : A l w y cc nL ret rm Φ pc ls (.int q_ :: .int p_ :: st) x kc ks := by
  intro p e s m args below meth c H locs arr E K P Z S B L
  have hx := E.1
  have hb := E.2.1
  exact lv_iadd hx hb hdg (kk p e s m args below meth c H locs arr E K P Z S B L)
theorem a_isub {p_ q_ : Int32} (hdg : decode cc pc = .ok (.isub, 1)) (kk : A l w y cc nL ret rm Φ (pc + 1) ls (.int (p_ - q_) :: st) x kc ks) : A l w y cc nL ret rm Φ pc ls (.int q_ :: .int p_ :: st) x kc ks := by
  intro p e s m args below meth c H locs arr E K P Z S B L
  have hx := E.1
  have hb := E.2.1
  exact lv_isub hx hb hdg (kk p e s m args below meth c H locs arr E K P Z S B L)
theorem a_imul {p_ q_ : Int32} (hdg : decode cc pc = .ok (.imul, 1)) (kk : A l w y cc nL ret rm Φ (pc + 1) ls (.int (p_ * q_) :: st) x kc ks) : A l w y cc nL ret rm Φ pc ls (.int q_ :: .int p_ :: st) x kc ks := by
  intro p e s m args below meth c H locs arr E K P Z S B L
  have hx := E.1
  have hb := E.2.1
  exact lv_imul hx hb hdg (kk p e s m args below meth c H locs arr E K P Z S B L)
theorem a_iand {p_ q_ : Int32} (hdg : decode cc pc = .ok (.iand, 1)) (kk : A l w y cc nL ret rm Φ (pc + 1) ls (.int (p_ &&& q_) :: st) x kc ks) : A l w y cc nL ret rm Φ pc ls (.int q_ :: .int p_ :: st) x kc ks := by
  intro p e s m args below meth c H locs arr E K P Z S B L
  have hx := E.1
  have hb := E.2.1
  exact lv_iand hx hb hdg (kk p e s m args below meth c H locs arr E K P Z S B L)
theorem a_ior {p_ q_ : Int32} (hdg : decode cc pc = .ok (.ior, 1)) (kk : A l w y cc nL ret rm Φ (pc + 1) ls (.int (p_ ||| q_) :: st) x kc ks) : A l w y cc nL ret rm Φ pc ls (.int q_ :: .int p_ :: st) x kc ks := by
  intro p e s m args below meth c H locs arr E K P Z S B L
  have hx := E.1
  have hb := E.2.1
  exact lv_ior hx hb hdg (kk p e s m args below meth c H locs arr E K P Z S B L)
theorem a_ixor {p_ q_ : Int32} (hdg : decode cc pc = .ok (.ixor, 1)) (kk : A l w y cc nL ret rm Φ (pc + 1) ls (.int (p_ ^^^ q_) :: st) x kc ks) : A l w y cc nL ret rm Φ pc ls (.int q_ :: .int p_ :: st) x kc ks := by
  intro p e s m args below meth c H locs arr E K P Z S B L
  have hx := E.1
  have hb := E.2.1
  exact lv_ixor hx hb hdg (kk p e s m args below meth c H locs arr E K P Z S B L)
theorem a_idiv {p_ q_ : Int32} (hdg : decode cc pc = .ok (.idiv, 1)) (hne : ¬ q_ = 0) (kk : A l w y cc nL ret rm Φ (pc + 1) ls (.int (p_ / q_) :: st) x kc ks) : A l w y cc nL ret rm Φ pc ls (.int q_ :: .int p_ :: st) x kc ks := by
  intro p e s m args below meth c H locs arr E K P Z S B L
  have hx := E.1
  have hb := E.2.1
  exact lv_idiv hx hb hdg hne (kk p e s m args below meth c H locs arr E K P Z S B L)
theorem a_irem {p_ q_ : Int32} (hdg : decode cc pc = .ok (.irem, 1)) (hne : ¬ q_ = 0) (kk : A l w y cc nL ret rm Φ (pc + 1) ls (.int (p_ - p_ / q_ * q_) :: st) x kc ks) : A l w y cc nL ret rm Φ pc ls (.int q_ :: .int p_ :: st) x kc ks := by
  intro p e s m args below meth c H locs arr E K P Z S B L
  have hx := E.1
  have hb := E.2.1
  exact lv_irem hx hb hdg hne (kk p e s m args below meth c H locs arr E K P Z S B L)
theorem a_ishl {p_ q_ : Int32} (hdg : decode cc pc = .ok (.ishl, 1)) (kk : A l w y cc nL ret rm Φ (pc + 1) ls (.int (p_ <<< (q_ &&& 31)) :: st) x kc ks) : A l w y cc nL ret rm Φ pc ls (.int q_ :: .int p_ :: st) x kc ks := by
  intro p e s m args below meth c H locs arr E K P Z S B L
  have hx := E.1
  have hb := E.2.1
  exact lv_ishl hx hb hdg (kk p e s m args below meth c H locs arr E K P Z S B L)
theorem a_ishr {p_ q_ : Int32} (hdg : decode cc pc = .ok (.ishr, 1)) (kk : A l w y cc nL ret rm Φ (pc + 1) ls (.int (p_ >>> (q_ &&& 31)) :: st) x kc ks) : A l w y cc nL ret rm Φ pc ls (.int q_ :: .int p_ :: st) x kc ks := by
  intro p e s m args below meth c H locs arr E K P Z S B L
  have hx := E.1
  have hb := E.2.1
  exact lv_ishr hx hb hdg (kk p e s m args below meth c H locs arr E K P Z S B L)
theorem a_iushr {p_ q_ : Int32} (hdg : decode cc pc = .ok (.iushr, 1)) (kk : A l w y cc nL ret rm Φ (pc + 1) ls (.int (p_.toUInt32 >>> (q_.toUInt32 &&& Int32.toUInt32 31)).toInt32 :: st) x kc ks) : A l w y cc nL ret rm Φ pc ls (.int q_ :: .int p_ :: st) x kc ks := by
  intro p e s m args below meth c H locs arr E K P Z S B L
  have hx := E.1
  have hb := E.2.1
  exact lv_iushr hx hb hdg rfl (kk p e s m args below meth c H locs arr E K P Z S B L)
theorem a_dup {v : Value} (hdg : decode cc pc = .ok (.dup, 1)) (hc : v.category = 1) (kk : A l w y cc nL ret rm Φ (pc + 1) ls (v :: v :: st) x kc ks) : A l w y cc nL ret rm Φ pc ls (v :: st) x kc ks := by
  intro p e s m args below meth c H locs arr E K P Z S B L
  have hx := E.1
  have hb := E.2.1
  exact lv_dup hx hb hdg hc (kk p e s m args below meth c H locs arr E K P Z S B L)
theorem a_pop {v : Value} (hdg : decode cc pc = .ok (.pop, 1)) (hc : v.category = 1) (kk : A l w y cc nL ret rm Φ (pc + 1) ls (st) x kc ks) : A l w y cc nL ret rm Φ pc ls (v :: st) x kc ks := by
  intro p e s m args below meth c H locs arr E K P Z S B L
  have hx := E.1
  have hb := E.2.1
  exact lv_pop hx hb hdg hc (kk p e s m args below meth c H locs arr E K P Z S B L)
theorem a_dup2 {v u : Value} (hdg : decode cc pc = .ok (.dup2, 1)) (hc : v.category = 1) (hd : u.category = 1) (kk : A l w y cc nL ret rm Φ (pc + 1) ls (v :: u :: v :: u :: st) x kc ks) : A l w y cc nL ret rm Φ pc ls (v :: u :: st) x kc ks := by
  intro p e s m args below meth c H locs arr E K P Z S B L
  have hx := E.1
  have hb := E.2.1
  exact lv_dup2_11 hx hb hdg hc hd (kk p e s m args below meth c H locs arr E K P Z S B L)
theorem a_icmp_eq {p_ q_ : Int32} {d_ : Int} {tgt : Nat} (hdg : decode cc pc = .ok (.if_icmp .eq d_, 3)) (ht : (pc : Int) + d_ = (tgt : Int)) (kt : p_ = q_ → A l w y cc nL ret rm Φ tgt ls st x kc ks) (kf : ¬ p_ = q_ → A l w y cc nL ret rm Φ (pc + 3) ls st x kc ks) : A l w y cc nL ret rm Φ pc ls (.int q_ :: .int p_ :: st) x kc ks := by
  intro p e s m args below meth c H locs arr E K P Z S B L
  have hx := E.1
  have hb := E.2.1
  exact lv_icmp_eq hx hb hdg ht (fun h => kt h p e s m args below meth c H locs arr E K P Z S B L) (fun h => kf h p e s m args below meth c H locs arr E K P Z S B L)
theorem a_if_eq {p_ : Int32} {d_ : Int} {tgt : Nat} (hdg : decode cc pc = .ok (.ifCond .eq d_, 3)) (ht : (pc : Int) + d_ = (tgt : Int)) (kt : p_ = 0 → A l w y cc nL ret rm Φ tgt ls st x kc ks) (kf : ¬ p_ = 0 → A l w y cc nL ret rm Φ (pc + 3) ls st x kc ks) : A l w y cc nL ret rm Φ pc ls (.int p_ :: st) x kc ks := by
  intro p e s m args below meth c H locs arr E K P Z S B L
  have hx := E.1
  have hb := E.2.1
  exact lv_if_eq hx hb hdg ht (fun h => kt h p e s m args below meth c H locs arr E K P Z S B L) (fun h => kf h p e s m args below meth c H locs arr E K P Z S B L)
theorem a_icmp_ne {p_ q_ : Int32} {d_ : Int} {tgt : Nat} (hdg : decode cc pc = .ok (.if_icmp .ne d_, 3)) (ht : (pc : Int) + d_ = (tgt : Int)) (kt : ¬ p_ = q_ → A l w y cc nL ret rm Φ tgt ls st x kc ks) (kf : p_ = q_ → A l w y cc nL ret rm Φ (pc + 3) ls st x kc ks) : A l w y cc nL ret rm Φ pc ls (.int q_ :: .int p_ :: st) x kc ks := by
  intro p e s m args below meth c H locs arr E K P Z S B L
  have hx := E.1
  have hb := E.2.1
  exact lv_icmp_ne hx hb hdg ht (fun h => kt h p e s m args below meth c H locs arr E K P Z S B L) (fun h => kf h p e s m args below meth c H locs arr E K P Z S B L)
theorem a_if_ne {p_ : Int32} {d_ : Int} {tgt : Nat} (hdg : decode cc pc = .ok (.ifCond .ne d_, 3)) (ht : (pc : Int) + d_ = (tgt : Int)) (kt : ¬ p_ = 0 → A l w y cc nL ret rm Φ tgt ls st x kc ks) (kf : p_ = 0 → A l w y cc nL ret rm Φ (pc + 3) ls st x kc ks) : A l w y cc nL ret rm Φ pc ls (.int p_ :: st) x kc ks := by
  intro p e s m args below meth c H locs arr E K P Z S B L
  have hx := E.1
  have hb := E.2.1
  exact lv_if_ne hx hb hdg ht (fun h => kt h p e s m args below meth c H locs arr E K P Z S B L) (fun h => kf h p e s m args below meth c H locs arr E K P Z S B L)
theorem a_icmp_lt {p_ q_ : Int32} {d_ : Int} {tgt : Nat} (hdg : decode cc pc = .ok (.if_icmp .lt d_, 3)) (ht : (pc : Int) + d_ = (tgt : Int)) (kt : p_ < q_ → A l w y cc nL ret rm Φ tgt ls st x kc ks) (kf : ¬ p_ < q_ → A l w y cc nL ret rm Φ (pc + 3) ls st x kc ks) : A l w y cc nL ret rm Φ pc ls (.int q_ :: .int p_ :: st) x kc ks := by
  intro p e s m args below meth c H locs arr E K P Z S B L
  have hx := E.1
  have hb := E.2.1
  exact lv_icmp_lt hx hb hdg ht (fun h => kt h p e s m args below meth c H locs arr E K P Z S B L) (fun h => kf h p e s m args below meth c H locs arr E K P Z S B L)
theorem a_if_lt {p_ : Int32} {d_ : Int} {tgt : Nat} (hdg : decode cc pc = .ok (.ifCond .lt d_, 3)) (ht : (pc : Int) + d_ = (tgt : Int)) (kt : p_ < 0 → A l w y cc nL ret rm Φ tgt ls st x kc ks) (kf : ¬ p_ < 0 → A l w y cc nL ret rm Φ (pc + 3) ls st x kc ks) : A l w y cc nL ret rm Φ pc ls (.int p_ :: st) x kc ks := by
  intro p e s m args below meth c H locs arr E K P Z S B L
  have hx := E.1
  have hb := E.2.1
  exact lv_if_lt hx hb hdg ht (fun h => kt h p e s m args below meth c H locs arr E K P Z S B L) (fun h => kf h p e s m args below meth c H locs arr E K P Z S B L)
theorem a_icmp_ge {p_ q_ : Int32} {d_ : Int} {tgt : Nat} (hdg : decode cc pc = .ok (.if_icmp .ge d_, 3)) (ht : (pc : Int) + d_ = (tgt : Int)) (kt : q_ ≤ p_ → A l w y cc nL ret rm Φ tgt ls st x kc ks) (kf : ¬ q_ ≤ p_ → A l w y cc nL ret rm Φ (pc + 3) ls st x kc ks) : A l w y cc nL ret rm Φ pc ls (.int q_ :: .int p_ :: st) x kc ks := by
  intro p e s m args below meth c H locs arr E K P Z S B L
  have hx := E.1
  have hb := E.2.1
  exact lv_icmp_ge hx hb hdg ht (fun h => kt h p e s m args below meth c H locs arr E K P Z S B L) (fun h => kf h p e s m args below meth c H locs arr E K P Z S B L)
theorem a_if_ge {p_ : Int32} {d_ : Int} {tgt : Nat} (hdg : decode cc pc = .ok (.ifCond .ge d_, 3)) (ht : (pc : Int) + d_ = (tgt : Int)) (kt : 0 ≤ p_ → A l w y cc nL ret rm Φ tgt ls st x kc ks) (kf : ¬ 0 ≤ p_ → A l w y cc nL ret rm Φ (pc + 3) ls st x kc ks) : A l w y cc nL ret rm Φ pc ls (.int p_ :: st) x kc ks := by
  intro p e s m args below meth c H locs arr E K P Z S B L
  have hx := E.1
  have hb := E.2.1
  exact lv_if_ge hx hb hdg ht (fun h => kt h p e s m args below meth c H locs arr E K P Z S B L) (fun h => kf h p e s m args below meth c H locs arr E K P Z S B L)
theorem a_icmp_gt {p_ q_ : Int32} {d_ : Int} {tgt : Nat} (hdg : decode cc pc = .ok (.if_icmp .gt d_, 3)) (ht : (pc : Int) + d_ = (tgt : Int)) (kt : q_ < p_ → A l w y cc nL ret rm Φ tgt ls st x kc ks) (kf : ¬ q_ < p_ → A l w y cc nL ret rm Φ (pc + 3) ls st x kc ks) : A l w y cc nL ret rm Φ pc ls (.int q_ :: .int p_ :: st) x kc ks := by
  intro p e s m args below meth c H locs arr E K P Z S B L
  have hx := E.1
  have hb := E.2.1
  exact lv_icmp_gt hx hb hdg ht (fun h => kt h p e s m args below meth c H locs arr E K P Z S B L) (fun h => kf h p e s m args below meth c H locs arr E K P Z S B L)
theorem a_if_gt {p_ : Int32} {d_ : Int} {tgt : Nat} (hdg : decode cc pc = .ok (.ifCond .gt d_, 3)) (ht : (pc : Int) + d_ = (tgt : Int)) (kt : 0 < p_ → A l w y cc nL ret rm Φ tgt ls st x kc ks) (kf : ¬ 0 < p_ → A l w y cc nL ret rm Φ (pc + 3) ls st x kc ks) : A l w y cc nL ret rm Φ pc ls (.int p_ :: st) x kc ks := by
  intro p e s m args below meth c H locs arr E K P Z S B L
  have hx := E.1
  have hb := E.2.1
  exact lv_if_gt hx hb hdg ht (fun h => kt h p e s m args below meth c H locs arr E K P Z S B L) (fun h => kf h p e s m args below meth c H locs arr E K P Z S B L)
theorem a_icmp_le {p_ q_ : Int32} {d_ : Int} {tgt : Nat} (hdg : decode cc pc = .ok (.if_icmp .le d_, 3)) (ht : (pc : Int) + d_ = (tgt : Int)) (kt : p_ ≤ q_ → A l w y cc nL ret rm Φ tgt ls st x kc ks) (kf : ¬ p_ ≤ q_ → A l w y cc nL ret rm Φ (pc + 3) ls st x kc ks) : A l w y cc nL ret rm Φ pc ls (.int q_ :: .int p_ :: st) x kc ks := by
  intro p e s m args below meth c H locs arr E K P Z S B L
  have hx := E.1
  have hb := E.2.1
  exact lv_icmp_le hx hb hdg ht (fun h => kt h p e s m args below meth c H locs arr E K P Z S B L) (fun h => kf h p e s m args below meth c H locs arr E K P Z S B L)
theorem a_if_le {p_ : Int32} {d_ : Int} {tgt : Nat} (hdg : decode cc pc = .ok (.ifCond .le d_, 3)) (ht : (pc : Int) + d_ = (tgt : Int)) (kt : p_ ≤ 0 → A l w y cc nL ret rm Φ tgt ls st x kc ks) (kf : ¬ p_ ≤ 0 → A l w y cc nL ret rm Φ (pc + 3) ls st x kc ks) : A l w y cc nL ret rm Φ pc ls (.int p_ :: st) x kc ks := by
  intro p e s m args below meth c H locs arr E K P Z S B L
  have hx := E.1
  have hb := E.2.1
  exact lv_if_le hx hb hdg ht (fun h => kt h p e s m args below meth c H locs arr E K P Z S B L) (fun h => kf h p e s m args below meth c H locs arr E K P Z S B L)
theorem a_goto {d_ : Int} {tgt : Nat} (hdg : decode cc pc = .ok (.goto d_, 3)) (ht : (pc : Int) + d_ = (tgt : Int)) (kk : A l w y cc nL ret rm Φ tgt ls st x kc ks) : A l w y cc nL ret rm Φ pc ls st x kc ks := by
  intro p e s m args below meth c H locs arr E K P Z S B L
  have hx := E.1
  have hb := E.2.1
  exact lv_goto hx hb hdg ht (kk p e s m args below meth c H locs arr E K P Z S B L)
theorem a_tabOut {dflt lo hi : Int} {offs : Array Int} {len : Nat} {p_ : Int32} {tgt : Nat} (hdg : decode cc pc = .ok (.tableswitch dflt lo hi offs, len)) (h : p_.toInt < lo ∨ hi < p_.toInt) (ht : (pc : Int) + dflt = (tgt : Int)) (kk : A l w y cc nL ret rm Φ tgt ls st x kc ks) : A l w y cc nL ret rm Φ pc ls (.int p_ :: st) x kc ks := by
  intro p e s m args below meth c H locs arr E K P Z S B L
  have hx := E.1
  have hb := E.2.1
  exact lv_tableOut hx hb hdg h ht (kk p e s m args below meth c H locs arr E K P Z S B L)
theorem a_tabIn {dflt lo hi d_ : Int} {offs : Array Int} {len : Nat} {p_ : Int32} {tgt : Nat} (hdg : decode cc pc = .ok (.tableswitch dflt lo hi offs, len)) (h1 : ¬ p_.toInt < lo) (h2 : ¬ hi < p_.toInt) (ho : offs[(p_.toInt - lo).toNat]? = some d_) (ht : (pc : Int) + d_ = (tgt : Int)) (kk : A l w y cc nL ret rm Φ tgt ls st x kc ks) : A l w y cc nL ret rm Φ pc ls (.int p_ :: st) x kc ks := by
  intro p e s m args below meth c H locs arr E K P Z S B L
  have hx := E.1
  have hb := E.2.1
  exact lv_tableIn hx hb hdg h1 h2 ho ht (kk p e s m args below meth c H locs arr E K P Z S B L)
theorem a_iret {v : Int32} (hdg : decode cc pc = .ok (.ireturn, 1)) (hr : ret = some .int) (hk : kc = rm.cells) (hs : ks ≤ rm.slots) (h : Φ (some (.int v)) x) : A l w y cc nL ret rm Φ pc ls [.int v] x kc ks := by
  intro p e s m args below meth c H locs arr E K P Z S B L
  have hx := E.1
  have hb := E.2.1
  refine W.widen (Nat.le_of_eq hk) hs ?_
  exact W.iret (v := v) hx hb (E.2.2.2.1.trans hr) (fun t ht hW => ⟨_, x, rfl, h, by rw [← hk]; exact Z, by rw [ht]; exact P, S.F ht⟩) S.2.2 hdg E.2.2.2.2.1
theorem a_zret {v : Int32} {ty : FieldType} (hdg : decode cc pc = .ok (.ireturn, 1)) (hr : ret = some ty) (hn : narrow ty (.int v) = .int v) (hk : kc = rm.cells) (hs : ks ≤ rm.slots) (h : Φ (some (.int v)) x) : A l w y cc nL ret rm Φ pc ls [.int v] x kc ks := by
  intro p e s m args below meth c H locs arr E K P Z S B L
  have hx := E.1
  have hb := E.2.1
  refine W.widen (Nat.le_of_eq hk) hs ?_
  exact W.zret (v := v) hx hb (E.2.2.2.1.trans hr) hn (fun t ht hW => ⟨_, x, rfl, h, by rw [← hk]; exact Z, by rw [ht]; exact P, S.F ht⟩) S.2.2 hdg E.2.2.2.2.1
theorem a_vret (hdg : decode cc pc = .ok (.return_, 1)) (hr : ret = none) (hk : kc = rm.cells) (hs : ks ≤ rm.slots) (h : Φ none x) : A l w y cc nL ret rm Φ pc ls [] x kc ks := by
  intro p e s m args below meth c H locs arr E K P Z S B L
  have hx := E.1
  have hb := E.2.1
  refine W.widen (Nat.le_of_eq hk) hs ?_
  exact W.vret hx hb (E.2.2.2.1.trans hr) (fun t ht hW => ⟨_, x, rfl, h, by rw [← hk]; exact Z, by rw [ht]; exact P, S.F ht⟩) S.2.2 hdg E.2.2.2.2.1
theorem a_aret {v : Nat} {n_ : String} (hdg : decode cc pc = .ok (.areturn, 1)) (hr : ret = some (.object n_)) (hk : kc = rm.cells) (hs : ks ≤ rm.slots) (h : Φ (some (.ref v)) x) : A l w y cc nL ret rm Φ pc ls [.ref v] x kc ks := by
  intro p e s m args below meth c H locs arr E K P Z S B L
  have hx := E.1
  have hb := E.2.1
  refine W.widen (Nat.le_of_eq hk) hs ?_
  exact W.aret hx hb (E.2.2.2.1.trans hr) (Or.inl ⟨_, rfl⟩) (Or.inr ⟨_, rfl⟩) (fun t ht hW => ⟨_, x, rfl, h, by rw [← hk]; exact Z, by rw [ht]; exact P, S.F ht⟩) S.2.2 hdg E.2.2.2.2.1
end AR
end
section
def CC (t : Nat) : String := match t with
  | 0 => RX0 | 1 => RX1 | 2 => RX2 | 3 => RX4 | 4 => RX5 | 5 => RX6 | 6 => RX7 | _ => RX8
def TT (t : Nat) : u_T := match t with
  | 0 => TX0 | 1 => TX1 | 2 => TX2 | 3 => TX4 | 4 => TX5 | 5 => TX6 | 6 => TX7 | _ => TX8
def tyC (t : Nat) : Nat → FieldType := match t with
  | 0 => tyX0 | 1 => tyX1 | 2 => tyX2 | 3 => tyX4 | 4 => tyX5 | 5 => tyX6 | 6 => tyX7 | _ => tyX8
theorem lt8 {t : Nat} (h : t < 8) : t = 0 ∨ t = 1 ∨ t = 2 ∨ t = 3 ∨ t = 4 ∨ t = 5 ∨ t = 6 ∨ t = 7 := by omega
theorem cl_at {t : Nat} (h : t < 8) : vwCl[t]? = some (CC t, TT t, nF t) := by
  rcases lt8 h with rfl | rfl | rfl | rfl | rfl | rfl | rfl | rfl <;> rfl
theorem cl_in0 : ∀ q ∈ wsX00, q ∈ TBL := fun q h => List.mem_filter.mpr ⟨(by decide +kernel : ∀ q ∈ wsX00, q ∈ lw_tbl) q h, (by decide +kernel : ∀ q ∈ wsX00, goodWord q = true) q h⟩
theorem cl_in1 : ∀ q ∈ wsX10, q ∈ TBL := fun q h => List.mem_filter.mpr ⟨(by decide +kernel : ∀ q ∈ wsX10, q ∈ lw_tbl) q h, (by decide +kernel : ∀ q ∈ wsX10, goodWord q = true) q h⟩
theorem cl_in2 : ∀ q ∈ wsX20, q ∈ TBL := fun q h => List.mem_filter.mpr ⟨(by decide +kernel : ∀ q ∈ wsX20, q ∈ lw_tbl) q h, (by decide +kernel : ∀ q ∈ wsX20, goodWord q = true) q h⟩
theorem cl_in3 : ∀ q ∈ wsX40, q ∈ TBL := fun q h => List.mem_filter.mpr ⟨(by decide +kernel : ∀ q ∈ wsX40, q ∈ lw_tbl) q h, (by decide +kernel : ∀ q ∈ wsX40, goodWord q = true) q h⟩
theorem cl_in4 : ∀ q ∈ wsX50, q ∈ TBL := fun q h => List.mem_filter.mpr ⟨(by decide +kernel : ∀ q ∈ wsX50, q ∈ lw_tbl) q h, (by decide +kernel : ∀ q ∈ wsX50, goodWord q = true) q h⟩
theorem cl_in5 : ∀ q ∈ wsX60, q ∈ TBL := fun q h => List.mem_filter.mpr ⟨(by decide +kernel : ∀ q ∈ wsX60, q ∈ lw_tbl) q h, (by decide +kernel : ∀ q ∈ wsX60, goodWord q = true) q h⟩
theorem cl_in6 : ∀ q ∈ wsX70, q ∈ TBL := fun q h => List.mem_filter.mpr ⟨(by decide +kernel : ∀ q ∈ wsX70, q ∈ lw_tbl) q h, (by decide +kernel : ∀ q ∈ wsX70, goodWord q = true) q h⟩
theorem cl_in7 : ∀ q ∈ wsX80, q ∈ TBL := fun q h => List.mem_filter.mpr ⟨(by decide +kernel : ∀ q ∈ wsX80, q ∈ lw_tbl) q h, (by decide +kernel : ∀ q ∈ wsX80, goodWord q = true) q h⟩
theorem cl_in {t : Nat} (h : t < 8) : ∀ q ∈ u_ws (CC t) (TT t) (nF t), q ∈ TBL := by
  rcases lt8 h with rfl | rfl | rfl | rfl | rfl | rfl | rfl | rfl
  · exact cl_in0
  · exact cl_in1
  · exact cl_in2
  · exact cl_in3
  · exact cl_in4
  · exact cl_in5
  · exact cl_in6
  · exact cl_in7
theorem cl_ty {t : Nat} (h : t < 8) : ∀ k, k < nF t → parseFieldDescriptor (TT t k).2.2.1 = some (tyC t k) := by
  rcases lt8 h with rfl | rfl | rfl | rfl | rfl | rfl | rfl | rfl
  · exact tyX0_ok
  · exact tyX1_ok
  · exact tyX2_ok
  · exact tyX4_ok
  · exact tyX5_ok
  · exact tyX6_ok
  · exact tyX7_ok
  · exact tyX8_ok
theorem cl_nm {t : Nat} (h : t < 8) : ∀ a, a < nF t → ∀ b, b < nF t → a ≠ b → (TT t a).2.1 ≠ (TT t b).2.1 := by
  rcases lt8 h with rfl | rfl | rfl | rfl | rfl | rfl | rfl | rfl
  · exact nmX0
  · exact nmX1
  · exact nmX2
  · exact nmX4
  · exact nmX5
  · exact nmX6
  · exact nmX7
  · exact nmX8
/-- what references the objects hold once all is made -/
def RT (w : WW) : RMem := fun s t c k => match t with
  | 0 => (match k with | 0 => some (ad w s 9 0) | 2 => some (ad w s 10 0) | 3 => some (ad w s 11 0) | 4 => some (ad w s 12 0) | _ => none)
  | 1 => (match k with | 0 => some (ad w s 14 c) | 1 => some (ad w s 15 c) | _ => none)
  | 3 => (match k with | 0 => some (ad w s 13 c) | _ => none)
  | 5 => (match k with | 0 => some (ad w 2 4 0) | 1 => some (ad w s 8 0) | 3 => some (ad w s 16 0) | 5 => some (ad w s 3 0) | 6 => some (ad w s 3 1) | 7 => some (ad w s 0 0) | _ => none)
  | 6 => (match k with | 0 => some (ad w 0 5 0) | 1 => some (ad w 1 5 0) | 2 => some (ad w 2 17 0) | _ => none)
  | 7 => (match k with | 4 => some (ad w 2 18 0) | 5 => some (ad w 2 19 0) | 6 => some (ad w 2 20 0) | 7 => some (ad w 2 21 0) | 10 => some (ad w 2 22 0) | 14 => some (ad w 2 23 0) | 15 => some (ad w 2 24 0) | 16 => some (ad w 2 25 0) | 17 => some (ad w 2 26 0) | 18 => some (ad w 2 27 0) | 19 => some (ad w 2 28 0) | 21 => some (ad w 2 29 0) | 24 => some (ad w 2 30 0) | 25 => some (ad w 2 31 0) | 26 => some (ad w 2 32 0) | 27 => some (ad w 2 33 0) | 28 => some (ad w 2 34 0) | 29 => some (ad w 2 35 0) | _ => none)
  | 16 => if k < 16 then some (ad w s 1 k) else none
  | 17 => if k < 16 then some (ad w 2 2 k) else none
  | _ => none
abbrev mx (w : WW) (M : Mem) : XX := (M, RT w, 158)
/-- .. the memory of state s told apart -/
abbrev zx (w : WW) (M : Mem) (s : Nat) (σ : Sg) : XX := (up1 M s σ, RT w, 158)
theorem off_lt {s t c : Nat} (h : rl s t c = true) : off s t c < 158 := by
  rw [← obs_len]
  exact (List.getElem?_eq_some_iff.mp (offL_mem obs _ (rl_mem h))).1
theorem rlm {M : Mem} {R : RMem} {s t c : Nat} (h : rl s t c = true) : Rl (M, R, 158) s t c := ⟨h, off_lt h⟩
abbrev RI (r : Int32) (x' : XX) : Option Value → XX → Prop := fun v z => v = some (.int r) ∧ z = x'
abbrev RV (x' : XX) : Option Value → XX → Prop := fun v z => v = none ∧ z = x'
abbrev RA (a : Nat) (x' : XX) : Option Value → XX → Prop := fun v z => v = some (.ref a) ∧ z = x'
def rmd (d : Nat) : Room := { frames := d, cells := 0, slots := 0, locals := 30 * d }
theorem vin {i n : Nat} (h : i < n) (hn : n ≤ 600) : vp_in (nI i) n := fun q => by
  rcases q with q | q
  · exact nI_pos (by omega) q
  · rw [nI_clamp (by omega)] at q; omega
theorem aL_le (t c : Nat) : aL t c ≤ 600 := by
  unfold aL
  split <;> (try split) <;> omega
theorem FE_arr {w : WW} {x : XX} {s t c : Nat} (ht : ¬ t < 8) (hk : aK t < 2) : FE w x (s, t, c) = .inl (w.2.1 (aK t), aL t c, .inl (x.1 s t c)) := by
  show (if t < 8 then _ else _) = _
  rw [if_neg ht]
  show Sum.inl (_, _, if aK t < 2 then _ else _) = _
  rw [if_pos hk]
theorem FE_arq {w : WW} {x : XX} {s t c : Nat} (ht : ¬ t < 8) (hk : ¬ aK t < 2) : FE w x (s, t, c) = .inl (w.2.1 (aK t), aL t c, .inr (.inr (.inr (.inr (x.2.1 s t c))))) := by
  show (if t < 8 then _ else _) = _
  rw [if_neg ht]
  show Sum.inl (_, _, if aK t < 2 then _ else _) = _
  rw [if_neg hk]
theorem ws_putA {w : WW} {x : XX} {s t c : Nat} {f : Nat → Int32} (ht : ¬ t < 8) (hk : aK t < 2) (ho : Rl x s t c) : (wsx w x).set (off s t c) (ad w s t c, .inl (w.2.1 (aK t), aL t c, .inl f)) = wsx w (up1 x.1 s (up1 (x.1 s) t (up1 (x.1 s t) c f)), x.2) := by
  rw [← wsx_set (x' := (up1 x.1 s (up1 (x.1 s) t (up1 (x.1 s t) c f)), x.2)) ho rfl (FE_ne (fun s' t' c' h => ?_) (fun _ _ _ _ => rfl)), FE_arr ht hk]
  · show _ = (wsx w x).set _ (_, Sum.inl (_, _, Sum.inl (up1 x.1 s (up1 (x.1 s) t (up1 (x.1 s t) c f)) s t c)))
    rw [up1_same, up1_same, up1_same]
  · show up1 x.1 s (up1 (x.1 s) t (up1 (x.1 s t) c f)) s' t' c' = x.1 s' t' c'
    unfold up1
    by_cases h1 : s' = s
    · by_cases h2 : t' = t
      · by_cases h3 : c' = c
        · exact absurd (by rw [h1, h2, h3]) h
        · simp [h1, h2, h3]
      · simp [h1, h2]
    · simp [h1]
theorem ws_putI {w : WW} {x : XX} {s t c k : Nat} {v : Int32} (ht : t < 8) (hr : isR t k = false) (ho : Rl x s t c) : (wsx w x).set (off s t c) (ad w s t c, .inr (t, ((List.range (nF t)).map (fv x s t c)).set k (.int v))) = wsx w (up x.1 s t c k v, x.2) := by
  rw [← wsx_set (x' := (up x.1 s t c k v, x.2)) ho rfl (FE_ne (fun s' t' c' h => up_ne h) (fun _ _ _ _ => rfl)), FE_obj ht]
  rw [fv_set (x' := (up x.1 s t c k v, x.2))]
  · unfold fv
    rw [if_neg (by rw [hr]; exact Bool.false_ne_true)]
    show Value.int (up x.1 s t c k v s t c k) = _
    rw [up_eq, up1_same]
  · intro j hj
    unfold fv
    show (if _ then _ else Value.int (up x.1 s t c k v s t c j)) = _
    rw [up_eq, up1_ne hj]
theorem ws_putR {w : WW} {x : XX} {s t c k : Nat} {v : Nat} (ht : t < 8) (hr : isR t k = true) (ho : Rl x s t c) : (wsx w x).set (off s t c) (ad w s t c, .inr (t, ((List.range (nF t)).map (fv x s t c)).set k (.ref v))) = wsx w (x.1, upR x.2.1 s t c k (some v), x.2.2) := by
  rw [← wsx_set (x' := (x.1, upR x.2.1 s t c k (some v), x.2.2)) ho rfl (FE_ne (fun _ _ _ _ => rfl) (fun s' t' c' h => upR_ne h)), FE_obj ht]
  rw [fv_set (x' := (x.1, upR x.2.1 s t c k (some v), x.2.2))]
  · unfold fv
    rw [if_pos hr]
    show va_rf (upR x.2.1 s t c k (some v) s t c k) = _
    rw [upR_eq, up1_same]
    rfl
  · intro j hj
    unfold fv
    show (if _ then va_rf (upR x.2.1 s t c k (some v) s t c j) else _) = _
    rw [upR_eq, up1_ne hj]
theorem gin {ws : List Cond} (h : ∀ q ∈ ws, q ∈ TBL) : GoodIn TBL ws := fun q hq => ⟨h q hq, good_of_word (List.mem_filter.mp (h q hq)).2⟩
def notMH (y : MethodName) (n : Nat) : Prop := y.cls ≠ "java/lang/invoke/MethodHandle" ∧ y.cls ≠ "java/lang/invoke/VarHandle" ∧ (parseMethodDescriptor y.desc).map (fun d => d.parameters.length) = some n
/-- a method that is called on an object, a static one, a constructor: what the tables say of it -/
def KV (y : MethodName) (cc : ByteArray) (nL : Nat) (ret : Option FieldType) (n : Nat) : Prop := Cond.instanceMethod y ∈ TBL ∧ Cond.selects y.cls y y ∈ TBL ∧ Cond.initialized y.cls ∈ TBL ∧ Cond.code y cc nL ret ∈ TBL ∧ notMH y n
def KS (y : MethodName) (cc : ByteArray) (nL : Nat) (ret : Option FieldType) (n : Nat) : Prop := Cond.static y ∈ TBL ∧ Cond.initialized y.cls ∈ TBL ∧ Cond.code y cc nL ret ∈ TBL ∧ notMH y n
def KI (y : MethodName) (cc : ByteArray) (nL : Nat) (n : Nat) : Prop := y.name = "<init>" ∧ Cond.instanceMethod y ∈ TBL ∧ Cond.initialized y.cls ∈ TBL ∧ Cond.code y cc nL none ∈ TBL ∧ notMH y n
theorem tb_code {y : MethodName} {cc : ByteArray} {nL : Nat} {ret : Option FieldType} (h : Cond.code y cc nL ret ∈ TBL) : ∀ q ∈ Cond.code y cc nL ret :: TBL, q ∈ TBL := fun q hq => by
  rcases List.mem_cons.mp hq with rfl | hq
  · exact h
  · exact hq
section AR
variable {l : Launch} {w : WW} {y : MethodName} {cc : ByteArray} {nL : Nat} {ret : Option FieldType} {rm : Room} {Φ : Option Value → XX → Prop} {pc : Nat} {ls : List (Option Value)} {st : List Value} {x : XX} {kc ks : Nat} {M : Mem} {σ : Sg} {u s t c k : Nat}
theorem size_of {p : Program} {e : Env} {R : Room} {s0 : State} {m : MethodId} {args : Array Value} {below : List Frame} {meth : Method} {c0 : Code} {H : Heap} {locs : List Loc} {T : State} (hT : T.heap = H) (X : Stand p l e R s0 m args below meth c0 T locs kc ks) (P : va_P w.1 vwCl (wsx w x) H) (Z : s0.heap.size + kc = w.2.2 + x.2.2 ∧ x.2.2 ≤ 158) (B : w.2.2 ≤ s0.heap.size) : H.size = w.2.2 + x.2.2 := by
  have h1 : s0.heap.size ≤ T.heap.size := X.same.2.1
  have h2 : T.heap.size ≤ s0.heap.size + kc := X.same.2.2.1
  rw [hT] at h1 h2
  refine Nat.le_antisymm (by omega) ?_
  by_cases hn : x.2.2 = 0
  · omega
  · obtain ⟨o, ho⟩ : ∃ o, obs[x.2.2 - 1]? = some o := ⟨_, List.getElem?_eq_getElem (by rw [obs_len]; omega)⟩
    have h3 : (wsx w x)[x.2.2 - 1]? = some (w.2.2 + offL obs o, FE w x o) := by
      unfold wsx
      rw [List.getElem?_map, List.getElem?_take, if_pos (by omega), ho]
      rfl
    have h4 := (P _ _ h3).lt
    rw [obs_off ho] at h4
    omega
theorem a_getI {index : Nat} (hdg : decode cc pc = .ok (.getfield index, 3)) (hl : Cond.fieldLink y.cls index (TT t k).1 (TT t k).2.1 (TT t k).2.2.1 ∈ TBL) (ht : t < 8) (hk : k < nF t) (hr : isR t k = false) (ho : Rl x s t c) (kk : A l w y cc nL ret rm Φ (pc + 3) ls (.int (x.1 s t c k) :: st) x kc ks) : A l w y cc nL ret rm Φ pc ls (.ref (ad w s t c) :: st) x kc ks := by
  intro p e s0 m args below meth c0 H locs arr E K P Z S B L
  have hx := E.1
  have hb := E.2.1
  have hown := E.2.2.2.2.2.2.1
  have hts := E.2.2.2.2.2.2.2
  exact va_get (v := .int (x.1 s t c k)) hx hb hts (cl_in ht) hown K.1 P (off s t c) (by rw [wsx_at ho, FE_obj ht]) (cl_at ht) k hk (hts _ hl) (fun _ h => h) (by rw [fv_at hk]; unfold fv; rw [if_neg (by rw [hr]; exact Bool.false_ne_true)]) hdg (kk p e s0 m args below meth c0 H locs arr E K P Z S B L)
theorem a_getR {index a : Nat} (hdg : decode cc pc = .ok (.getfield index, 3)) (hl : Cond.fieldLink y.cls index (TT t k).1 (TT t k).2.1 (TT t k).2.2.1 ∈ TBL) (ht : t < 8) (hk : k < nF t) (hr : isR t k = true) (ho : Rl x s t c) (hv : x.2.1 s t c k = some a) (kk : A l w y cc nL ret rm Φ (pc + 3) ls (.ref a :: st) x kc ks) : A l w y cc nL ret rm Φ pc ls (.ref (ad w s t c) :: st) x kc ks := by
  intro p e s0 m args below meth c0 H locs arr E K P Z S B L
  have hx := E.1
  have hb := E.2.1
  have hown := E.2.2.2.2.2.2.1
  have hts := E.2.2.2.2.2.2.2
  exact va_get (v := .ref a) hx hb hts (cl_in ht) hown K.1 P (off s t c) (by rw [wsx_at ho, FE_obj ht]) (cl_at ht) k hk (hts _ hl) (fun _ h => h) (by rw [fv_at hk]; unfold fv; rw [if_pos hr, hv]; rfl) hdg (kk p e s0 m args below meth c0 H locs arr E K P Z S B L)
theorem a_putI {index : Nat} {v : Int32} (hdg : decode cc pc = .ok (.putfield index, 3)) (hl : Cond.fieldLink y.cls index (TT t k).1 (TT t k).2.1 (TT t k).2.2.1 ∈ TBL) (ht : t < 8) (hk : k < nF t) (hr : isR t k = false) (hf : (TT t k).2.2.2 = false) (hy : tyC t k = .int) (ho : Rl x s t c) (kk : A l w y cc nL ret rm Φ (pc + 3) ls st (up x.1 s t c k v, x.2) kc ks) : A l w y cc nL ret rm Φ pc ls (.int v :: .ref (ad w s t c) :: st) x kc ks := by
  intro p e s0 m args below meth c0 H locs arr E K P Z S B L
  have hx := E.1
  have hb := E.2.1
  have hown := E.2.2.2.2.2.2.1
  have hts := E.2.2.2.2.2.2.2
  refine va_put (v := .int v) (ty := .int) hx hb hts (cl_in ht) (tyC t) (cl_ty ht) (cl_nm ht) hown K.1 P (wsD w x) S (off s t c) (by rw [wsx_at ho, FE_obj ht]) (cl_at ht) k hk (hts _ hl) (fun _ h => h) hf (by rw [cl_ty ht k hk, hy]) rfl rfl (fv_len hk) hdg (fun H1 locs1 hP hD hS => ?_)
  rw [ws_putI ht hr ho] at hP hD
  exact kk p e s0 m args below meth c0 H1 locs1 arr E K hP Z hS B L
theorem a_putFI {index : Nat} {v : Int32} (hdg : decode cc pc = .ok (.putfield index, 3)) (hl : Cond.fieldLink y.cls index (TT t k).1 (TT t k).2.1 (TT t k).2.2.1 ∈ TBL) (hyn : y.name = "<init>") (hyd : (TT t k).1 = y.cls) (ht : t < 8) (hk : k < nF t) (hr : isR t k = false) (hf : (TT t k).2.2.2 = true) (hy : tyC t k = .int) (ho : Rl x s t c) (kk : A l w y cc nL ret rm Φ (pc + 3) ls st (up x.1 s t c k v, x.2) kc ks) : A l w y cc nL ret rm Φ pc ls (.int v :: .ref (ad w s t c) :: st) x kc ks := by
  intro p e s0 m args below meth c0 H locs arr E K P Z S B L
  have hx := E.1
  have hb := E.2.1
  have hown := E.2.2.2.2.2.2.1
  have hts := E.2.2.2.2.2.2.2
  refine va_putF (v := .int v) (ty := .int) hx hb hts (cl_in ht) (tyC t) (cl_ty ht) (cl_nm ht) hown K.1 P (wsD w x) S (off s t c) (by rw [wsx_at ho, FE_obj ht]) (cl_at ht) k hk (hts _ hl) (fun _ h => h) hf (E.2.2.2.2.2.1.trans hyn) hyd (by rw [cl_ty ht k hk, hy]) rfl rfl (fv_len hk) hdg (fun H1 locs1 hP hD hS => ?_)
  rw [ws_putI ht hr ho] at hP hD
  exact kk p e s0 m args below meth c0 H1 locs1 arr E K hP Z hS B L
theorem a_putFR {index v : Nat} {ty : FieldType} (hdg : decode cc pc = .ok (.putfield index, 3)) (hl : Cond.fieldLink y.cls index (TT t k).1 (TT t k).2.1 (TT t k).2.2.1 ∈ TBL) (hyn : y.name = "<init>") (hyd : (TT t k).1 = y.cls) (ht : t < 8) (hk : k < nF t) (hr : isR t k = true) (hf : (TT t k).2.2.2 = true) (hy : tyC t k = ty) (hn : narrow ty (.ref v) = .ref v) (hfit : fits ty (.ref v) = true) (ho : Rl x s t c) (kk : A l w y cc nL ret rm Φ (pc + 3) ls st (x.1, upR x.2.1 s t c k (some v), x.2.2) kc ks) : A l w y cc nL ret rm Φ pc ls (.ref v :: .ref (ad w s t c) :: st) x kc ks := by
  intro p e s0 m args below meth c0 H locs arr E K P Z S B L
  have hx := E.1
  have hb := E.2.1
  have hown := E.2.2.2.2.2.2.1
  have hts := E.2.2.2.2.2.2.2
  refine va_putF (v := .ref v) (ty := ty) hx hb hts (cl_in ht) (tyC t) (cl_ty ht) (cl_nm ht) hown K.1 P (wsD w x) S (off s t c) (by rw [wsx_at ho, FE_obj ht]) (cl_at ht) k hk (hts _ hl) (fun _ h => h) hf (E.2.2.2.2.2.1.trans hyn) hyd (by rw [cl_ty ht k hk, hy]) hn hfit (fv_len hk) hdg (fun H1 locs1 hP hD hS => ?_)
  rw [ws_putR ht hr ho] at hP hD
  exact kk p e s0 m args below meth c0 H1 locs1 arr E K hP Z hS B L
theorem a_iald {i : Nat} {j : Int32} (hdg : decode cc pc = .ok (.iaload, 1)) (hj : j = nI i) (hi : i < aL t c) (ht : ¬ t < 8) (hk : aK t = 0) (ho : Rl x s t c) (kk : A l w y cc nL ret rm Φ (pc + 1) ls (.int (x.1 s t c i) :: st) x kc ks) : A l w y cc nL ret rm Φ pc ls (.int j :: .ref (ad w s t c) :: st) x kc ks := by
  intro p e s0 m args below meth c0 H locs arr E K P Z S B L
  have hx := E.1
  have hb := E.2.1
  have hown := E.2.2.2.2.2.2.1
  have hts := E.2.2.2.2.2.2.2
  subst hj
  have hn := aL_le t c
  refine va_iald hx hb K.1 P (off s t c) 0 (by rw [wsx_at ho, FE_arr ht (by rw [hk]; decide)]) (by rw [hk]; rfl) (vin hi hn) hdg ?_
  rw [nI_clamp (by omega)]
  exact kk p e s0 m args below meth c0 H locs arr E K P Z S B L
theorem a_zald {i : Nat} {j : Int32} (hdg : decode cc pc = .ok (.baload, 1)) (hj : j = nI i) (hi : i < aL t c) (ht : ¬ t < 8) (hk : aK t = 1) (ho : Rl x s t c) (kk : A l w y cc nL ret rm Φ (pc + 1) ls (.int (x.1 s t c i) :: st) x kc ks) : A l w y cc nL ret rm Φ pc ls (.int j :: .ref (ad w s t c) :: st) x kc ks := by
  intro p e s0 m args below meth c0 H locs arr E K P Z S B L
  have hx := E.1
  have hb := E.2.1
  have hown := E.2.2.2.2.2.2.1
  have hts := E.2.2.2.2.2.2.2
  subst hj
  have hn := aL_le t c
  refine va_zald hx hb K.1 P (off s t c) 1 (by rw [wsx_at ho, FE_arr ht (by rw [hk]; decide)]) (by rw [hk]; rfl) (vin hi hn) hdg ?_
  rw [nI_clamp (by omega)]
  exact kk p e s0 m args below meth c0 H locs arr E K P Z S B L
theorem a_aald {i q : Nat} {j : Int32} (hdg : decode cc pc = .ok (.aaload, 1)) (hj : j = nI i) (hi : i < aL t c) (ht : ¬ t < 8) (hk : aK t = 2 ∨ aK t = 3) (ho : Rl x s t c) (hv : x.2.1 s t c i = some q) (kk : A l w y cc nL ret rm Φ (pc + 1) ls (.ref q :: st) x kc ks) : A l w y cc nL ret rm Φ pc ls (.int j :: .ref (ad w s t c) :: st) x kc ks := by
  intro p e s0 m args below meth c0 H locs arr E K P Z S B L
  have hx := E.1
  have hb := E.2.1
  have hown := E.2.2.2.2.2.2.1
  have hts := E.2.2.2.2.2.2.2
  subst hj
  have hn := aL_le t c
  rcases hk with hk | hk
  · refine va_aldq (C := "GatedTrunk$Change") hx hb K.1 P (off s t c) 2 (by rw [wsx_at ho, FE_arq ht (by rw [hk]; decide)]) (by rw [hk]; rfl) (vin hi hn) hdg ?_
    rw [nI_clamp (by omega), hv]
    exact kk p e s0 m args below meth c0 H locs arr E K P Z S B L
  · refine va_aldq (C := "GatedTrunk$Event") hx hb K.1 P (off s t c) 3 (by rw [wsx_at ho, FE_arq ht (by rw [hk]; decide)]) (by rw [hk]; rfl) (vin hi hn) hdg ?_
    rw [nI_clamp (by omega), hv]
    exact kk p e s0 m args below meth c0 H locs arr E K P Z S B L
theorem a_iast {i : Nat} {j v : Int32} (hdg : decode cc pc = .ok (.iastore, 1)) (hj : j = nI i) (hi : i < aL t c) (ht : ¬ t < 8) (hk : aK t = 0) (ho : Rl x s t c) (kk : A l w y cc nL ret rm Φ (pc + 1) ls st (up x.1 s t c i v, x.2) kc ks) : A l w y cc nL ret rm Φ pc ls (.int v :: .int j :: .ref (ad w s t c) :: st) x kc ks := by
  intro p e s0 m args below meth c0 H locs arr E K P Z S B L
  have hx := E.1
  have hb := E.2.1
  have hown := E.2.2.2.2.2.2.1
  have hts := E.2.2.2.2.2.2.2
  subst hj
  have hn := aL_le t c
  refine va_iast hx hb K.1 P (wsD w x) S (off s t c) 0 (by rw [wsx_at ho, FE_arr ht (by rw [hk]; decide)]) (by rw [hk]; rfl) (vin hi hn) hdg (fun H1 locs1 hP hD hS => ?_)
  rw [nI_clamp (by omega)] at hP
  have hP : va_P w.1 vwCl ((wsx w x).set (off s t c) (ad w s t c, .inl (w.2.1 (aK t), aL t c, .inl (up1 (x.1 s t c) i v)))) H1 := hP
  rw [ws_putA ht (by rw [hk]; decide) ho] at hP
  exact kk p e s0 m args below meth c0 H1 locs1 arr E K hP Z hS B L
theorem a_zast {i : Nat} {j v : Int32} (hdg : decode cc pc = .ok (.bastore, 1)) (hj : j = nI i) (hi : i < aL t c) (hv : vp_nar .boolean v = v) (ht : ¬ t < 8) (hk : aK t = 1) (ho : Rl x s t c) (kk : A l w y cc nL ret rm Φ (pc + 1) ls st (up x.1 s t c i v, x.2) kc ks) : A l w y cc nL ret rm Φ pc ls (.int v :: .int j :: .ref (ad w s t c) :: st) x kc ks := by
  intro p e s0 m args below meth c0 H locs arr E K P Z S B L
  have hx := E.1
  have hb := E.2.1
  have hown := E.2.2.2.2.2.2.1
  have hts := E.2.2.2.2.2.2.2
  subst hj
  have hn := aL_le t c
  refine va_zast hx hb K.1 P (wsD w x) S (off s t c) 1 (by rw [wsx_at ho, FE_arr ht (by rw [hk]; decide)]) (by rw [hk]; rfl) (vin hi hn) hdg (fun H1 locs1 hP hD hS => ?_)
  rw [nI_clamp (by omega), hv] at hP
  have hP : va_P w.1 vwCl ((wsx w x).set (off s t c) (ad w s t c, .inl (w.2.1 (aK t), aL t c, .inl (up1 (x.1 s t c) i v)))) H1 := hP
  rw [ws_putA ht (by rw [hk]; decide) ho] at hP
  exact kk p e s0 m args below meth c0 H1 locs1 arr E K hP Z hS B L
theorem a_alen {n : Int32} (hdg : decode cc pc = .ok (.arraylength, 1)) (hn : Int32.ofNat (aL t c) = n) (ht : ¬ t < 8) (hk : aK t = 0) (ho : Rl x s t c) (kk : A l w y cc nL ret rm Φ (pc + 1) ls (.int n :: st) x kc ks) : A l w y cc nL ret rm Φ pc ls (.ref (ad w s t c) :: st) x kc ks := by
  intro p e s0 m args below meth c0 H locs arr E K P Z S B L
  have hx := E.1
  have hb := E.2.1
  have hown := E.2.2.2.2.2.2.1
  have hts := E.2.2.2.2.2.2.2
  exact va_alen hx hb K.1 P (off s t c) 0 (by rw [wsx_at ho, FE_arr ht (by rw [hk]; decide)]) (ty := .int) (by rw [hk]; rfl) hn hdg (kk p e s0 m args below meth c0 H locs arr E K P Z S B L)
theorem a_min {index : Nat} {p_ q_ : Int32} (hdg : decode cc pc = .ok (.invokestatic index, 3)) (hl : Cond.methodLink y.cls index Lib.Math.min.name ∈ TBL) (h1 : Cond.static Lib.Math.min.name ∈ TBL) (h2 : Cond.initialized "java/lang/Math" ∈ TBL) (h3 : Cond.code Lib.Math.min.name Lib.Math.min.code 2 (some .int) ∈ TBL) (hR : 1 ≤ rm.frames ∧ (st.map fun v => v.category).sum + 13 ≤ rm.locals) (hC : kc ≤ rm.cells ∧ ks ≤ rm.slots) (kk : A l w y cc nL ret rm Φ (pc + 3) ls (.int (if q_ < p_ then q_ else p_) :: st) x kc ks) : A l w y cc nL ret rm Φ pc ls (.int q_ :: .int p_ :: st) x kc ks := by
  intro p e s0 m args below meth c0 H locs arr E K P Z S B L
  have hx := E.1
  have hb := E.2.1
  have hown := E.2.2.2.2.2.2.1
  have hts := E.2.2.2.2.2.2.2
  exact va_mmin hx hb (E.2.2.1.trans L.1.1.symm) hown (hts _ hl) (hts _ h1) (hts _ h2) (hts _ h3) hR.1 hR.2 hC.1 hC.2 hdg (kk p e s0 m args below meth c0 H locs arr E K P Z S B L)
theorem a_max {index : Nat} {p_ q_ : Int32} (hdg : decode cc pc = .ok (.invokestatic index, 3)) (hl : Cond.methodLink y.cls index Lib.Math.max.name ∈ TBL) (h1 : Cond.static Lib.Math.max.name ∈ TBL) (h2 : Cond.initialized "java/lang/Math" ∈ TBL) (h3 : Cond.code Lib.Math.max.name Lib.Math.max.code 2 (some .int) ∈ TBL) (hR : 1 ≤ rm.frames ∧ (st.map fun v => v.category).sum + 13 ≤ rm.locals) (hC : kc ≤ rm.cells ∧ ks ≤ rm.slots) (kk : A l w y cc nL ret rm Φ (pc + 3) ls (.int (if p_ < q_ then q_ else p_) :: st) x kc ks) : A l w y cc nL ret rm Φ pc ls (.int q_ :: .int p_ :: st) x kc ks := by
  intro p e s0 m args below meth c0 H locs arr E K P Z S B L
  have hx := E.1
  have hb := E.2.1
  have hown := E.2.2.2.2.2.2.1
  have hts := E.2.2.2.2.2.2.2
  exact va_mmax hx hb (E.2.2.1.trans L.1.1.symm) hown (hts _ hl) (hts _ h1) (hts _ h2) (hts _ h3) hR.1 hR.2 hC.1 hC.2 hdg (kk p e s0 m args below meth c0 H locs arr E K P Z S B L)
theorem a_copy {index n u' t' c' : Nat} {j : Int32} (hdg : decode cc pc = .ok (.invokestatic index, 3)) (hl : Cond.methodLink y.cls index arraycopyName ∈ TBL) (h1 : Cond.native arraycopyName ∈ TBL) (h2 : Cond.static arraycopyName ∈ TBL) (h3 : Cond.initialized "java/lang/System" ∈ TBL) (hj : j = nI n) (hn0 : n ≤ aL t c) (hn1 : n ≤ aL t' c') (ht : ¬ t < 8) (hk : aK t = 0) (ho : Rl x s t c) (ht' : ¬ t' < 8) (hk' : aK t' = 0) (ho' : Rl x u' t' c') (hR : 1 ≤ rm.frames ∧ (st.map fun v => v.category).sum + 18 ≤ rm.locals)
    (kk : A l w y cc nL ret rm Φ (pc + 3) ls st (up1 x.1 u' (up1 (x.1 u') t' (up1 (x.1 u' t') c' (fun i => if i < n then x.1 s t c i else x.1 u' t' c' i))), x.2) kc ks) : A l w y cc nL ret rm Φ pc ls (.int j :: .int 0 :: .ref (ad w u' t' c') :: .int 0 :: .ref (ad w s t c) :: st) x kc ks := by
  intro p e s0 m args below meth c0 H locs arr E K P Z S B L
  have hx := E.1
  have hb := E.2.1
  have hown := E.2.2.2.2.2.2.1
  have hts := E.2.2.2.2.2.2.2
  subst hj
  have hb0 := aL_le t c
  have hc0 : (nI n).toNatClampNeg = n := nI_clamp (by omega)
  have hz0 : (0 : Int32).toNatClampNeg = 0 := by decide
  refine va_copyi (sp := 0) (dp := 0) (ty := .int) hx hb (E.2.2.1.trans L.1.1.symm) hown (hts _ hl) (hts _ h1) (hts _ h2) (hts _ h3) K.1 P (wsD w x) S (off s t c) (off u' t' c') 0 0 (by rw [wsx_at ho, FE_arr ht (by rw [hk]; decide)]) (by rw [wsx_at ho', FE_arr ht' (by rw [hk']; decide)]) (by rw [hk]; rfl) (by rw [hk']; rfl) rfl (by decide) (by decide) (nI_pos (by omega)) (by rw [hz0, hc0]; omega) (by rw [hz0, hc0]; omega) (fun i hi => rfl) hR.1 (by show _ + 18 ≤ _; exact hR.2) hdg (fun H1 locs1 hP hD hS => ?_)
  rw [hz0, hc0] at hP
  have he : va_cpy (x.1 s t c) (x.1 u' t' c') 0 0 n = fun i => if i < n then x.1 s t c i else x.1 u' t' c' i := by
    funext i
    unfold va_cpy
    simp
  rw [he] at hP
  rw [ws_putA ht' (by rw [hk']; decide) ho'] at hP
  exact kk p e s0 m args below meth c0 H1 locs1 arr E K hP Z hS B L
theorem a_objI {idx a : Nat} (hdg : decode cc pc = .ok (.invokespecial idx, 3)) (hl : Cond.methodLink y.cls idx Lib.objectInit ∈ TBL) (h1 : Cond.instanceMethod Lib.objectInit ∈ TBL) (h2 : Cond.code Lib.objectInit ⟨#[0xb1]⟩ 1 none ∈ TBL) (hR : 1 ≤ rm.frames ∧ (st.map fun v => v.category).sum + 12 ≤ rm.locals) (kk : A l w y cc nL ret rm Φ (pc + 3) ls st x kc ks) : A l w y cc nL ret rm Φ pc ls (.ref a :: st) x kc ks := by
  intro p e s0 m args below meth c0 H locs arr E K P Z S B L
  have hx := E.1
  have hb := E.2.1
  have hown := E.2.2.2.2.2.2.1
  have hts := E.2.2.2.2.2.2.2
  exact W.objInit hx hb hown (hts _ hl) (hts _ h1) (hts _ h2) rfl (L.1.1.trans E.2.2.1.symm) rfl hdg hR.1 (by show 2 * 0 + _ + 12 ≤ _; omega) (kk p e s0 m args below meth c0 H locs arr E K P Z S B L)
theorem Px_blind {vs : List Value} : FrameBlind (Px w vs x) := fun a U g mk q => ⟨q.1, q.2.1, q.2.2.1, Kx.same (s := U) rfl q.2.2.2⟩
/-- behind a call -/
theorem a_back {p : Program} {e : Env} {s0 : State} {m : MethodId} {args a : Array Value} {below : List Frame} {meth : Method} {c0 : Code} {H : Heap} {locs : List Loc} {arr : Array Slot} {mc ms : Nat} {st0 rest : List Value} {Ψ : Option Value → XX → Prop} (E : Ev p s0 m args meth c0 y cc nL ret) (K : Kx w s0) (Z : s0.heap.size + kc = w.2.2 + x.2.2 ∧ x.2.2 ≤ 158) (S : va_S (fun q => w.2.2 ≤ q) s0.heap H locs) (B : w.2.2 ≤ s0.heap.size) (L : Lh arr nL ls) (hz : H.size = w.2.2 + x.2.2)
    (hr : va_Run p l e rm s0 m args below meth c0 H locs kc ks mc ms (F0 m pc arr st0) rest (Qx w mc Ψ a) (fun q => w.2.2 ≤ q)) (kk : ∀ v z, Ψ v z → A l w y cc nL ret rm Φ (pc + 3) ls (v.toList ++ rest) z (kc + mc) (ks + ms)) : W p l e rm s0 m args below meth c0 H locs kc ks (MQ below (Qx w rm.cells Φ) args s0 rm.cells rm.slots (fun q => w.2.2 ≤ q)) (F0 m pc arr st0) := by
  intro T hT X
  obtain ⟨v, st₀, t, T', L', h0, X', hL, e1, e2, ⟨v', z, q1, q2, q3, q4, q5⟩, st⟩ := hr T hT X
  cases q1
  rw [h0] at q3
  have hf : H.size ≤ T'.heap.size := by rw [e1, ← h0]; exact q5.1
  have S' : va_S (fun q => w.2.2 ≤ q) s0.heap T'.heap (locs ++ L') := ⟨Nat.le_trans S.1 hf, fun q h1 h2 => by rw [e1, q5.2 q (by rw [h0]; exact Nat.lt_of_lt_of_le h1 S.1) h2, h0]; exact S.2.1 q h1 h2, fun q hq => by
    rcases List.mem_append.mp hq with h | h
    · exact S.2.2 q h
    · exact hL q h⟩
  obtain ⟨t2, a1, b1⟩ := kk _ z q2 p e s0 m args below meth c0 T'.heap (locs ++ L') arr E K (by rw [e1]; exact q4) ⟨by have := q3.1; have := Z.1; omega, q3.2⟩ S' B L T' rfl X'
  exact ⟨t2, st t2 a1, b1⟩
theorem a_callV {y' : MethodName} {cc' : ByteArray} {nL' : Nat} {ret' : Option FieldType} {rm' : Room} {Ψ : Option Value → XX → Prop} {idx n : Nat} (As : List Value) (hdg : decode cc pc = .ok (.invokevirtual idx, 3)) (hl : Cond.methodLink y.cls idx y' ∈ TBL) (hK : KV y' cc' nL' ret' n) (ho : Rl x s t c) (ht : t < 8) (hcl : CC t = y'.cls) (hn : As.length = n) (hR : rm'.frames + 1 ≤ rm.frames ∧ 8 + (nL' + 11) + rm'.locals ≤ rm.locals) (hC : kc + rm'.cells ≤ rm.cells ∧ ks + rm'.slots ≤ rm.slots) (hW : (st.map fun v => v.category).sum ≤ 8) (hM : Can l w y' cc' nL' ret' rm' (.ref (ad w s t c) :: As) x Ψ) (kk : ∀ v z, Ψ v z → A l w y cc nL ret rm Φ (pc + 3) ls (v.toList ++ st) z (kc + rm'.cells) (ks + rm'.slots)) : A l w y cc nL ret rm Φ pc ls (As.reverse ++ .ref (ad w s t c) :: st) x kc ks := by
  intro p e s0 m args below meth c0 H locs arr E K P Z S B L T hT X
  have hz := size_of hT X P Z B
  have hown := E.2.2.2.2.2.2.1
  have hts := E.2.2.2.2.2.2.2
  obtain ⟨k1, k2, k3, k4, k5⟩ := hK
  have hp : PreV s0 H y'.cls (ad w s t c) (Px w (.ref (ad w s t c) :: As) x) As := ⟨Px_blind, by
    have := va_recv K.1 P (cl_at ht) (q0 := off s t c) (a := ad w s t c) (by rw [wsx_at ho, FE_obj ht])
    rw [← hcl]; exact this, fun U hU hW => ⟨rfl, ⟨by rw [hU]; exact hz, Z.2⟩, by rw [hU]; exact P, K.moved hW⟩⟩
  have hr := va_runV (e := e) (H := H) (locs := locs) (cells := kc) (slots := ks) (below := below) (meth := meth) ⟨E.1, E.2.1, E.2.2.1, hown, hts⟩ hM (cwV n hts (gin (fun q hq => by
    rcases List.mem_append.mp hq with h | h
    · simp only [List.mem_cons, List.not_mem_nil, or_false] at h
      rcases h with rfl | rfl | rfl | rfl
      · exact hl
      · exact k1
      · exact k2
      · exact k3
    · exact tb_code k4 q h)) rfl rfl rfl ⟨rfl, k5.1, k5.2.1, k5.2.2⟩ hR) hp (g := F0 m pc arr (As.reverse ++ .ref (ad w s t c) :: st)) rfl hn L.1.1 rfl (lv_room hW) hdg hC
  exact a_back E K Z S B L hz hr kk T hT X
theorem a_callS {y' : MethodName} {cc' : ByteArray} {nL' : Nat} {ret' : Option FieldType} {rm' : Room} {Ψ : Option Value → XX → Prop} {idx n : Nat} (As : List Value) (hdg : decode cc pc = .ok (.invokestatic idx, 3)) (hl : Cond.methodLink y.cls idx y' ∈ TBL) (hK : KS y' cc' nL' ret' n) (hn : As.length = n) (hR : rm'.frames + 1 ≤ rm.frames ∧ 8 + (nL' + 11) + rm'.locals ≤ rm.locals) (hC : kc + rm'.cells ≤ rm.cells ∧ ks + rm'.slots ≤ rm.slots) (hW : (st.map fun v => v.category).sum ≤ 8) (hM : Can l w y' cc' nL' ret' rm' As x Ψ) (kk : ∀ v z, Ψ v z → A l w y cc nL ret rm Φ (pc + 3) ls (v.toList ++ st) z (kc + rm'.cells) (ks + rm'.slots)) : A l w y cc nL ret rm Φ pc ls (As.reverse ++ st) x kc ks := by
  intro p e s0 m args below meth c0 H locs arr E K P Z S B L T hT X
  have hz := size_of hT X P Z B
  have hown := E.2.2.2.2.2.2.1
  have hts := E.2.2.2.2.2.2.2
  obtain ⟨k1, k3, k4, k5⟩ := hK
  have hp : PreS s0 H (Px w As x) As := ⟨Px_blind, fun U hU hW => ⟨rfl, ⟨by rw [hU]; exact hz, Z.2⟩, by rw [hU]; exact P, K.moved hW⟩⟩
  have hr := va_runS (e := e) (H := H) (locs := locs) (cells := kc) (slots := ks) (below := below) (meth := meth) ⟨E.1, E.2.1, E.2.2.1, hown, hts⟩ hM (va_cwS n hts (gin (fun q hq => by
    rcases List.mem_append.mp hq with h | h
    · simp only [List.mem_cons, List.not_mem_nil, or_false] at h
      rcases h with rfl | rfl | rfl
      · exact hl
      · exact k1
      · exact k3
    · exact tb_code k4 q h)) rfl rfl rfl k5 hR) hp (g := F0 m pc arr (As.reverse ++ st)) rfl hn L.1.1 rfl (lv_room hW) hdg hC
  exact a_back E K Z S B L hz hr kk T hT X
theorem a_callSN {y' : MethodName} {cc' : ByteArray} {nL' : Nat} {ret' : Option FieldType} {rm' : Room} {Ψ : Option Value → XX → Prop} {idx n : Nat} {host : String} (As : List Value) (hdg : decode cc pc = .ok (.invokestatic idx, 3)) (hl : Cond.methodLinkNest y.cls idx y' host ∈ NEST) (hK : KS y' cc' nL' ret' n) (hn : As.length = n) (hR : rm'.frames + 1 ≤ rm.frames ∧ 8 + (nL' + 11) + rm'.locals ≤ rm.locals) (hC : kc + rm'.cells ≤ rm.cells ∧ ks + rm'.slots ≤ rm.slots) (hW : (st.map fun v => v.category).sum ≤ 8) (hM : Can l w y' cc' nL' ret' rm' As x Ψ) (kk : ∀ v z, Ψ v z → A l w y cc nL ret rm Φ (pc + 3) ls (v.toList ++ st) z (kc + rm'.cells) (ks + rm'.slots)) : A l w y cc nL ret rm Φ pc ls (As.reverse ++ st) x kc ks := by
  intro p e s0 m args below meth c0 H locs arr E K P Z S B L T hT X
  have hz := size_of hT X P Z B
  have hown := E.2.2.2.2.2.2.1
  have hts := E.2.2.2.2.2.2.2
  obtain ⟨k1, k3, k4, k5⟩ := hK
  have hp : PreS s0 H (Px w As x) As := ⟨Px_blind, fun U hU hW => ⟨rfl, ⟨by rw [hU]; exact hz, Z.2⟩, by rw [hU]; exact P, K.moved hW⟩⟩
  have hr := va_runSN (e := e) (H := H) (locs := locs) (cells := kc) (slots := ks) (below := below) (meth := meth) ⟨E.1, E.2.1, E.2.2.1, hown, hts⟩ hM ⟨va_cnB n hts (gin (tb_code k4)) rfl rfl rfl (K.2.1 _ hl) (hts _ k3) k5 hR, hts _ k1, trivial⟩ hp (g := F0 m pc arr (As.reverse ++ st)) rfl hn L.1.1 rfl (lv_room hW) hdg hC
  exact a_back E K Z S B L hz hr kk T hT X
theorem a_callI {y' : MethodName} {cc' : ByteArray} {nL' a : Nat} {rm' : Room} {Ψ : Option Value → XX → Prop} {idx n : Nat} (As : List Value) (hdg : decode cc pc = .ok (.invokespecial idx, 3)) (hl : Cond.methodLink y.cls idx y' ∈ TBL) (hK : KI y' cc' nL' n) (hn : As.length = n) (hR : rm'.frames + 1 ≤ rm.frames ∧ 8 + (nL' + 11) + rm'.locals ≤ rm.locals) (hC : kc + rm'.cells ≤ rm.cells ∧ ks + rm'.slots ≤ rm.slots) (hW : (st.map fun v => v.category).sum ≤ 8) (hM : Can l w y' cc' nL' none rm' (.ref a :: As) x Ψ) (kk : ∀ v z, Ψ v z → A l w y cc nL ret rm Φ (pc + 3) ls (v.toList ++ st) z (kc + rm'.cells) (ks + rm'.slots)) : A l w y cc nL ret rm Φ pc ls (As.reverse ++ .ref a :: st) x kc ks := by
  intro p e s0 m args below meth c0 H locs arr E K P Z S B L T hT X
  have hz := size_of hT X P Z B
  have hown := E.2.2.2.2.2.2.1
  have hts := E.2.2.2.2.2.2.2
  obtain ⟨k0, k1, k3, k4, k5⟩ := hK
  have hp : PreS s0 H (Px w (.ref a :: As) x) (.ref a :: As) := ⟨Px_blind, fun U hU hW => ⟨rfl, ⟨by rw [hU]; exact hz, Z.2⟩, by rw [hU]; exact P, K.moved hW⟩⟩
  have hr := va_runI (e := e) (H := H) (locs := locs) (cells := kc) (slots := ks) (below := below) (meth := meth) ⟨E.1, E.2.1, E.2.2.1, hown, hts⟩ hM (cwI n hts (gin (tb_code k4)) rfl rfl rfl (hts _ k3) (hts _ hl) (hts _ k1) k0 k5 hR) hp (g := F0 m pc arr (As.reverse ++ .ref a :: st)) rfl hn L.1.1 rfl (lv_room hW) hdg hC
  exact a_back E K Z S B L hz hr kk T hT X
theorem a_callIN {y' : MethodName} {cc' : ByteArray} {nL' a : Nat} {rm' : Room} {Ψ : Option Value → XX → Prop} {idx n : Nat} {host : String} (As : List Value) (hdg : decode cc pc = .ok (.invokespecial idx, 3)) (hl : Cond.methodLinkNest y.cls idx y' host ∈ NEST) (hK : KI y' cc' nL' n) (hn : As.length = n) (hR : rm'.frames + 1 ≤ rm.frames ∧ 8 + (nL' + 11) + rm'.locals ≤ rm.locals) (hC : kc + rm'.cells ≤ rm.cells ∧ ks + rm'.slots ≤ rm.slots) (hW : (st.map fun v => v.category).sum ≤ 8) (hM : Can l w y' cc' nL' none rm' (.ref a :: As) x Ψ) (kk : ∀ v z, Ψ v z → A l w y cc nL ret rm Φ (pc + 3) ls (v.toList ++ st) z (kc + rm'.cells) (ks + rm'.slots)) : A l w y cc nL ret rm Φ pc ls (As.reverse ++ .ref a :: st) x kc ks := by
  intro p e s0 m args below meth c0 H locs arr E K P Z S B L T hT X
  have hz := size_of hT X P Z B
  have hown := E.2.2.2.2.2.2.1
  have hts := E.2.2.2.2.2.2.2
  obtain ⟨k0, k1, k3, k4, k5⟩ := hK
  have hp : PreS s0 H (Px w (.ref a :: As) x) (.ref a :: As) := ⟨Px_blind, fun U hU hW => ⟨rfl, ⟨by rw [hU]; exact hz, Z.2⟩, by rw [hU]; exact P, K.moved hW⟩⟩
  have hr := va_runIN (e := e) (H := H) (locs := locs) (cells := kc) (slots := ks) (below := below) (meth := meth) ⟨E.1, E.2.1, E.2.2.1, hown, hts⟩ hM ⟨va_cnB n hts (gin (tb_code k4)) rfl rfl rfl (K.2.1 _ hl) (hts _ k3) k5 hR, k0, hts _ k1⟩ hp (g := F0 m pc arr (As.reverse ++ .ref a :: st)) rfl hn L.1.1 rfl (lv_room hW) hdg hC
  exact a_back E K Z S B L hz hr kk T hT X
/-- what no object holds may be said as one likes -/
theorem a_junk {x' : XX} (h : ∀ o ∈ obs, FE w x' o = FE w x o) (hn : x'.2.2 = x.2.2) (kk : A l w y cc nL ret rm Φ pc ls st x' kc ks) : A l w y cc nL ret rm Φ pc ls st x kc ks := by
  intro p e s0 m args below meth c0 H locs arr E K P Z S B L
  have hx := E.1
  have hb := E.2.1
  have hown := E.2.2.2.2.2.2.1
  have hts := E.2.2.2.2.2.2.2
  have he : wsx w x' = wsx w x := by
    unfold wsx
    rw [hn]
    exact List.map_congr_left fun o ho => by rw [h o (List.mem_of_mem_take ho)]
  exact kk p e s0 m args below meth c0 H locs arr E K (by rw [he]; exact P) (by rw [hn]; exact Z) S B L
end AR
end
section
/-! rows over zx w M s σ: all objects made, the memory of state s is σ, all else M -/
theorem up_z (M : Mem) (s : Nat) (σ : Sg) (t c k : Nat) (v : Int32) : up (up1 M s σ) s t c k v = up1 M s (sg σ t c k v) := by
  unfold up
  rw [up1_same, up1_up1]
theorem up1_comm {α : Type} {f : Nat → α} {a b : Nat} {u v : α} (h : a ≠ b) : up1 (up1 f a u) b v = up1 (up1 f b v) a u := by
  funext j
  unfold up1
  by_cases h1 : j = a <;> by_cases h2 : j = b <;> simp_all
theorem up_y (M : Mem) {s u : Nat} (σ : Sg) (t c k : Nat) (v : Int32) (h : u ≠ s) : up (up1 M s σ) u t c k v = up1 (up M u t c k v) s σ := by
  unfold up
  rw [up1_ne h, up1_comm (Ne.symm h)]
def sga (f : Sg) (t c : Nat) (v : Nat → Int32) : Sg := up1 f t (up1 (f t) c v)

/-- a slot that holds a number -/
def ik (t k : Nat) : Bool := if t < 8 then !isR t k else decide (aK t < 2)
theorem wsx_junk {w : WW} {x x' : XX} {H : Heap} (h : ∀ s t c k, rl s t c = true → k < (if t < 8 then nF t else aL t c) → ik t k = true → x'.1 s t c k = x.1 s t c k) (hr : x'.2 = x.2) (P : va_P w.1 vwCl (wsx w x) H) : va_P w.1 vwCl (wsx w x') H := by
  intro j q hq
  obtain ⟨⟨s, t, c⟩, ho, hj, rfl⟩ := wsx_of hq
  have hrl : rl s t c = true := by
    have h1 := List.all_eq_true.mp (by decide +kernel : obs.all (fun o => rl o.1 o.2.1 o.2.2) = true) _ (List.mem_of_getElem? ho)
    exact h1
  have hn : x'.2.2 = x.2.2 := by rw [hr]
  have hp : (wsx w x)[j]? = some (w.2.2 + j, FE w x (s, t, c)) := by
    unfold wsx
    rw [List.getElem?_map, List.getElem?_take, if_pos (by rw [← hn]; exact hj), ho]
    show some (w.2.2 + offL obs (s, t, c), _) = _
    rw [obs_off ho]
  have h0 := P j _ hp
  by_cases ht : t < 8
  · have : FE w x' (s, t, c) = FE w x (s, t, c) := by
      rw [FE_obj ht, FE_obj ht]
      refine congrArg (fun z => Sum.inr (t, z)) (List.map_congr_left fun k hk => ?_)
      unfold fv
      cases hi : isR t k with
      | true => rw [if_pos rfl, if_pos rfl, hr]
      | false => rw [h s t c k hrl (by rw [if_pos ht]; exact List.mem_range.mp hk) (by unfold ik; rw [if_pos ht, hi]; rfl), hr]
    rw [this]
    exact h0
  · by_cases hk : aK t < 2
    · rw [FE_arr ht hk] at h0 ⊢
      have h0 : H[w.2.2 + j]? = some (vp_cell (w.2.1 (aK t)) (aL t c, .inl (x.1 s t c))) := h0
      show H[w.2.2 + j]? = some (vp_cell (w.2.1 (aK t)) (aL t c, .inl (x'.1 s t c)))
      rw [h0, vp_cell_i, vp_cell_i]
      unfold arrV
      have : (fun j : Fin (aL t c) => Value.int (x.1 s t c j.val)) = fun j : Fin (aL t c) => Value.int (x'.1 s t c j.val) := by
        funext j
        rw [h s t c j.val hrl (by rw [if_neg ht]; exact j.isLt) (by unfold ik; rw [if_neg ht]; exact decide_eq_true hk)]
      exact congrArg (fun z => some ({ cls := w.2.1 (aK t), slots := Array.ofFn z, vm := .none } : Cell)) this
    · rw [FE_arq ht hk] at h0 ⊢
      rw [hr]
      exact h0
section AR
variable {l : Launch} {w : WW} {y : MethodName} {cc : ByteArray} {nL : Nat} {ret : Option FieldType} {d : Nat} {Φ : Option Value → XX → Prop} {pc : Nat} {ls : List (Option Value)} {st : List Value} {M : Mem} {σ : Sg} {u s t c k : Nat}
theorem c_getI {index : Nat} (hdg : decode cc pc = .ok (.getfield index, 3)) (hl : Cond.fieldLink y.cls index (TT t k).1 (TT t k).2.1 (TT t k).2.2.1 ∈ TBL) (kk : A l w y cc nL ret (rmd d) Φ (pc + 3) ls (.int (σ t c k) :: st) (zx w M s σ) 0 0) (ht : t < 8 := by first | decide | assumption) (hk : k < nF t := by first | decide | assumption) (hr : isR t k = false := by first | rfl | assumption) (ho : rl s t c = true := by first | rfl | assumption) : A l w y cc nL ret (rmd d) Φ pc ls (.ref (ad w s t c) :: st) (zx w M s σ) 0 0 :=
  a_getI hdg hl ht hk hr (rlm ho) (by rw [show (zx w M s σ).1 s t c k = σ t c k by show up1 M s σ s t c k = _; rw [up1_same]]; exact kk)
theorem e_getI {index : Nat} (hdg : decode cc pc = .ok (.getfield index, 3)) (hl : Cond.fieldLink y.cls index (TT t k).1 (TT t k).2.1 (TT t k).2.2.1 ∈ TBL) (kk : A l w y cc nL ret (rmd d) Φ (pc + 3) ls (.int (M u t c k) :: st) (zx w M s σ) 0 0) (ht : t < 8 := by first | decide | assumption) (hk : k < nF t := by first | decide | assumption) (hr : isR t k = false := by first | rfl | assumption) (ho : rl u t c = true := by first | rfl | assumption) (hu : u ≠ s := by first | decide | assumption) : A l w y cc nL ret (rmd d) Φ pc ls (.ref (ad w u t c) :: st) (zx w M s σ) 0 0 :=
  a_getI hdg hl ht hk hr (rlm ho) (by rw [show (zx w M s σ).1 u t c k = M u t c k by show up1 M s σ u t c k = _; rw [up1_ne hu]]; exact kk)
theorem c_getR {index a : Nat} (hdg : decode cc pc = .ok (.getfield index, 3)) (hl : Cond.fieldLink y.cls index (TT t k).1 (TT t k).2.1 (TT t k).2.2.1 ∈ TBL) (hv : RT w u t c k = some a) (kk : A l w y cc nL ret (rmd d) Φ (pc + 3) ls (.ref a :: st) (zx w M s σ) 0 0) (ht : t < 8 := by first | decide | assumption) (hk : k < nF t := by first | decide | assumption) (hr : isR t k = true := by first | rfl | assumption) (ho : rl u t c = true := by first | rfl | assumption) : A l w y cc nL ret (rmd d) Φ pc ls (.ref (ad w u t c) :: st) (zx w M s σ) 0 0 :=
  a_getR hdg hl ht hk hr (rlm ho) hv kk
theorem c_putI {index : Nat} {v : Int32} (hdg : decode cc pc = .ok (.putfield index, 3)) (hl : Cond.fieldLink y.cls index (TT t k).1 (TT t k).2.1 (TT t k).2.2.1 ∈ TBL) (kk : A l w y cc nL ret (rmd d) Φ (pc + 3) ls (st) (zx w M s (sg σ t c k v)) 0 0) (ht : t < 8 := by first | decide | assumption) (hk : k < nF t := by first | decide | assumption) (hr : isR t k = false := by first | rfl | assumption) (hf : (TT t k).2.2.2 = false := by first | rfl | assumption) (hy : tyC t k = .int := by first | rfl | assumption) (ho : rl s t c = true := by first | rfl | assumption) : A l w y cc nL ret (rmd d) Φ pc ls (.int v :: .ref (ad w s t c) :: st) (zx w M s σ) 0 0 :=
  a_putI hdg hl ht hk hr hf hy (rlm ho) (by rw [show up (zx w M s σ).1 s t c k v = up1 M s (sg σ t c k v) from up_z M s σ t c k v]; exact kk)
theorem e_putI {index : Nat} {v : Int32} (hdg : decode cc pc = .ok (.putfield index, 3)) (hl : Cond.fieldLink y.cls index (TT t k).1 (TT t k).2.1 (TT t k).2.2.1 ∈ TBL) (kk : A l w y cc nL ret (rmd d) Φ (pc + 3) ls (st) (zx w (up M u t c k v) s σ) 0 0) (ht : t < 8 := by first | decide | assumption) (hk : k < nF t := by first | decide | assumption) (hr : isR t k = false := by first | rfl | assumption) (hf : (TT t k).2.2.2 = false := by first | rfl | assumption) (hy : tyC t k = .int := by first | rfl | assumption) (ho : rl u t c = true := by first | rfl | assumption) (hu : u ≠ s := by first | decide | assumption) : A l w y cc nL ret (rmd d) Φ pc ls (.int v :: .ref (ad w u t c) :: st) (zx w M s σ) 0 0 :=
  a_putI hdg hl ht hk hr hf hy (rlm ho) (by rw [show up (zx w M s σ).1 u t c k v = up1 (up M u t c k v) s σ from up_y M σ t c k v hu]; exact kk)
theorem c_iald {i : Nat} {j : Int32} (hdg : decode cc pc = .ok (.iaload, 1)) (hj : j = nI i) (hi : i < aL t c) (kk : A l w y cc nL ret (rmd d) Φ (pc + 1) ls (.int (σ t c i) :: st) (zx w M s σ) 0 0) (ht : ¬ t < 8 := by first | decide | assumption) (hk : aK t = 0 := by first | rfl | assumption) (ho : rl s t c = true := by first | rfl | assumption) : A l w y cc nL ret (rmd d) Φ pc ls (.int j :: .ref (ad w s t c) :: st) (zx w M s σ) 0 0 :=
  a_iald hdg hj hi ht hk (rlm ho) (by rw [show (zx w M s σ).1 s t c i = σ t c i by show up1 M s σ s t c i = _; rw [up1_same]]; exact kk)
theorem c_zald {i : Nat} {j : Int32} (hdg : decode cc pc = .ok (.baload, 1)) (hj : j = nI i) (hi : i < aL t c) (kk : A l w y cc nL ret (rmd d) Φ (pc + 1) ls (.int (σ t c i) :: st) (zx w M s σ) 0 0) (ht : ¬ t < 8 := by first | decide | assumption) (hk : aK t = 1 := by first | rfl | assumption) (ho : rl s t c = true := by first | rfl | assumption) : A l w y cc nL ret (rmd d) Φ pc ls (.int j :: .ref (ad w s t c) :: st) (zx w M s σ) 0 0 :=
  a_zald hdg hj hi ht hk (rlm ho) (by rw [show (zx w M s σ).1 s t c i = σ t c i by show up1 M s σ s t c i = _; rw [up1_same]]; exact kk)
theorem c_aald {i q : Nat} {j : Int32} (hdg : decode cc pc = .ok (.aaload, 1)) (hj : j = nI i) (hi : i < aL t c) (hv : RT w u t c i = some q) (kk : A l w y cc nL ret (rmd d) Φ (pc + 1) ls (.ref q :: st) (zx w M s σ) 0 0) (ht : ¬ t < 8 := by first | decide | assumption) (hk : aK t = 2 ∨ aK t = 3 := by first | decide | assumption) (ho : rl u t c = true := by first | rfl | assumption) : A l w y cc nL ret (rmd d) Φ pc ls (.int j :: .ref (ad w u t c) :: st) (zx w M s σ) 0 0 :=
  a_aald hdg hj hi ht hk (rlm ho) hv kk
theorem c_iast {i : Nat} {j v : Int32} (hdg : decode cc pc = .ok (.iastore, 1)) (hj : j = nI i) (hi : i < aL t c) (kk : A l w y cc nL ret (rmd d) Φ (pc + 1) ls (st) (zx w M s (sg σ t c i v)) 0 0) (ht : ¬ t < 8 := by first | decide | assumption) (hk : aK t = 0 := by first | rfl | assumption) (ho : rl s t c = true := by first | rfl | assumption) : A l w y cc nL ret (rmd d) Φ pc ls (.int v :: .int j :: .ref (ad w s t c) :: st) (zx w M s σ) 0 0 :=
  a_iast hdg hj hi ht hk (rlm ho) (by rw [show up (zx w M s σ).1 s t c i v = up1 M s (sg σ t c i v) from up_z M s σ t c i v]; exact kk)
theorem c_zast {i : Nat} {j v : Int32} (hdg : decode cc pc = .ok (.bastore, 1)) (hj : j = nI i) (hi : i < aL t c) (hv : vp_nar .boolean v = v) (kk : A l w y cc nL ret (rmd d) Φ (pc + 1) ls (st) (zx w M s (sg σ t c i v)) 0 0) (ht : ¬ t < 8 := by first | decide | assumption) (hk : aK t = 1 := by first | rfl | assumption) (ho : rl s t c = true := by first | rfl | assumption) : A l w y cc nL ret (rmd d) Φ pc ls (.int v :: .int j :: .ref (ad w s t c) :: st) (zx w M s σ) 0 0 :=
  a_zast hdg hj hi hv ht hk (rlm ho) (by rw [show up (zx w M s σ).1 s t c i v = up1 M s (sg σ t c i v) from up_z M s σ t c i v]; exact kk)
theorem c_alen {n : Int32} (hdg : decode cc pc = .ok (.arraylength, 1)) (hn : Int32.ofNat (aL t c) = n) (kk : A l w y cc nL ret (rmd d) Φ (pc + 1) ls (.int n :: st) (zx w M s σ) 0 0) (ht : ¬ t < 8 := by first | decide | assumption) (hk : aK t = 0 := by first | rfl | assumption) (ho : rl u t c = true := by first | rfl | assumption) : A l w y cc nL ret (rmd d) Φ pc ls (.ref (ad w u t c) :: st) (zx w M s σ) 0 0 :=
  a_alen hdg hn ht hk (rlm ho) kk
theorem c_junk {M' : Mem} {σ' : Sg} (h : ∀ u t c k, rl u t c = true → k < (if t < 8 then nF t else aL t c) → ik t k = true → up1 M' s σ' u t c k = up1 M s σ u t c k) (kk : A l w y cc nL ret (rmd d) Φ pc ls (st) (zx w M' s σ') 0 0) : A l w y cc nL ret (rmd d) Φ pc ls (st) (zx w M s σ) 0 0 := by
  intro p e s0 m args below meth c0 H locs arr E K P Z S B L
  exact kk p e s0 m args below meth c0 H locs arr E K (wsx_junk (x := zx w M s σ) (x' := zx w M' s σ') h rfl P) Z S B L
theorem a_jk {x x' : XX} {kc ks : Nat} {rm : Room} (h : ∀ u t c k, rl u t c = true → k < (if t < 8 then nF t else aL t c) → ik t k = true → x'.1 u t c k = x.1 u t c k) (hr : x'.2 = x.2) (kk : A l w y cc nL ret rm Φ pc ls st x' kc ks) : A l w y cc nL ret rm Φ pc ls st x kc ks := by
  intro p e s0 m args below meth c0 H locs arr E K P Z S B L
  exact kk p e s0 m args below meth c0 H locs arr E K (wsx_junk h hr P) (by rw [hr]; exact Z) S B L
theorem a_eq {x x' : XX} {kc ks : Nat} {rm : Room} (h : x = x') (kk : A l w y cc nL ret rm Φ pc ls st x' kc ks) : A l w y cc nL ret rm Φ pc ls st x kc ks := by
  rw [h]; exact kk
theorem c_iret {v : Int32} {x : XX} (hdg : decode cc pc = .ok (.ireturn, 1)) (h : Φ (some (.int v)) x) (hr : ret = some .int := by first | rfl | assumption) : A l w y cc nL ret (rmd d) Φ pc ls [.int v] x 0 0 := a_iret hdg hr rfl (Nat.le_refl 0) h
theorem c_zret {v : Int32} {x : XX} (hdg : decode cc pc = .ok (.ireturn, 1)) (h : Φ (some (.int v)) x) (hn : narrow .boolean (.int v) = .int v := by first | rfl | assumption) (hr : ret = some .boolean := by first | rfl | assumption) : A l w y cc nL ret (rmd d) Φ pc ls [.int v] x 0 0 := a_zret hdg hr hn rfl (Nat.le_refl 0) h
theorem c_vret {x : XX} (hdg : decode cc pc = .ok (.return_, 1)) (h : Φ none x) (hr : ret = none := by first | rfl | assumption) : A l w y cc nL ret (rmd d) Φ pc ls [] x 0 0 := a_vret hdg hr rfl (Nat.le_refl 0) h
theorem c_V0I {y' : MethodName} {cc' : ByteArray} {nL' : Nat} {ret' : Option FieldType} {d' idx : Nat} {M0 : Mem} {R0 : RMem} {r : Int32} {x' : XX} (hdg : decode cc pc = .ok (.invokevirtual idx, 3)) (hl : Cond.methodLink y.cls idx y' ∈ TBL) (hK : KV y' cc' nL' ret' 0) (hM : Can l w y' cc' nL' ret' (rmd d') [.ref (ad w u t c)] (M0, R0, 158) (RI r x')) (kk : A l w y cc nL ret (rmd d) Φ (pc + 3) ls (.int r :: st) x' 0 0) (ht : t < 8 := by first | decide | assumption) (hcl : CC t = y'.cls := by first | rfl | assumption) (ho : rl u t c = true := by first | rfl | assumption) (hR : (rmd d').frames + 1 ≤ (rmd d).frames ∧ 8 + (nL' + 11) + (rmd d').locals ≤ (rmd d).locals := by decide) (hW : (st.map fun v => v.category).sum ≤ 8 := by exact Nat.le_of_ble_eq_true rfl) : A l w y cc nL ret (rmd d) Φ pc ls (.ref (ad w u t c) :: st) (M0, R0, 158) 0 0 :=
  a_callV [] hdg hl hK (rlm ho) ht hcl rfl hR ⟨Nat.le_refl 0, Nat.le_refl 0⟩ hW hM (fun v z h => by obtain ⟨rfl, rfl⟩ := h; exact kk)
theorem c_V0V {y' : MethodName} {cc' : ByteArray} {nL' : Nat} {ret' : Option FieldType} {d' idx : Nat} {M0 : Mem} {R0 : RMem} {x' : XX} (hdg : decode cc pc = .ok (.invokevirtual idx, 3)) (hl : Cond.methodLink y.cls idx y' ∈ TBL) (hK : KV y' cc' nL' ret' 0) (hM : Can l w y' cc' nL' ret' (rmd d') [.ref (ad w u t c)] (M0, R0, 158) (RV x')) (kk : A l w y cc nL ret (rmd d) Φ (pc + 3) ls st x' 0 0) (ht : t < 8 := by first | decide | assumption) (hcl : CC t = y'.cls := by first | rfl | assumption) (ho : rl u t c = true := by first | rfl | assumption) (hR : (rmd d').frames + 1 ≤ (rmd d).frames ∧ 8 + (nL' + 11) + (rmd d').locals ≤ (rmd d).locals := by decide) (hW : (st.map fun v => v.category).sum ≤ 8 := by exact Nat.le_of_ble_eq_true rfl) : A l w y cc nL ret (rmd d) Φ pc ls (.ref (ad w u t c) :: st) (M0, R0, 158) 0 0 :=
  a_callV [] hdg hl hK (rlm ho) ht hcl rfl hR ⟨Nat.le_refl 0, Nat.le_refl 0⟩ hW hM (fun v z h => by obtain ⟨rfl, rfl⟩ := h; exact kk)
theorem c_V0R {y' : MethodName} {cc' : ByteArray} {nL' : Nat} {ret' : Option FieldType} {d' idx : Nat} {M0 : Mem} {R0 : RMem} {r : Nat} {x' : XX} (hdg : decode cc pc = .ok (.invokevirtual idx, 3)) (hl : Cond.methodLink y.cls idx y' ∈ TBL) (hK : KV y' cc' nL' ret' 0) (hM : Can l w y' cc' nL' ret' (rmd d') [.ref (ad w u t c)] (M0, R0, 158) (RA r x')) (kk : A l w y cc nL ret (rmd d) Φ (pc + 3) ls (.ref r :: st) x' 0 0) (ht : t < 8 := by first | decide | assumption) (hcl : CC t = y'.cls := by first | rfl | assumption) (ho : rl u t c = true := by first | rfl | assumption) (hR : (rmd d').frames + 1 ≤ (rmd d).frames ∧ 8 + (nL' + 11) + (rmd d').locals ≤ (rmd d).locals := by decide) (hW : (st.map fun v => v.category).sum ≤ 8 := by exact Nat.le_of_ble_eq_true rfl) : A l w y cc nL ret (rmd d) Φ pc ls (.ref (ad w u t c) :: st) (M0, R0, 158) 0 0 :=
  a_callV [] hdg hl hK (rlm ho) ht hcl rfl hR ⟨Nat.le_refl 0, Nat.le_refl 0⟩ hW hM (fun v z h => by obtain ⟨rfl, rfl⟩ := h; exact kk)
theorem c_V0G {y' : MethodName} {cc' : ByteArray} {nL' : Nat} {ret' : Option FieldType} {d' idx : Nat} {M0 : Mem} {R0 : RMem} {Ψ : Option Value → XX → Prop} (hdg : decode cc pc = .ok (.invokevirtual idx, 3)) (hl : Cond.methodLink y.cls idx y' ∈ TBL) (hK : KV y' cc' nL' ret' 0) (hM : Can l w y' cc' nL' ret' (rmd d') [.ref (ad w u t c)] (M0, R0, 158) Ψ) (kk : ∀ v z, Ψ v z → A l w y cc nL ret (rmd d) Φ (pc + 3) ls (v.toList ++ st) z 0 0) (ht : t < 8 := by first | decide | assumption) (hcl : CC t = y'.cls := by first | rfl | assumption) (ho : rl u t c = true := by first | rfl | assumption) (hR : (rmd d').frames + 1 ≤ (rmd d).frames ∧ 8 + (nL' + 11) + (rmd d').locals ≤ (rmd d).locals := by decide) (hW : (st.map fun v => v.category).sum ≤ 8 := by exact Nat.le_of_ble_eq_true rfl) : A l w y cc nL ret (rmd d) Φ pc ls (.ref (ad w u t c) :: st) (M0, R0, 158) 0 0 :=
  a_callV [] hdg hl hK (rlm ho) ht hcl rfl hR ⟨Nat.le_refl 0, Nat.le_refl 0⟩ hW hM kk
theorem c_V1I {y' : MethodName} {cc' : ByteArray} {nL' : Nat} {ret' : Option FieldType} {d' idx : Nat} {M0 : Mem} {R0 : RMem} {v1 : Value} {r : Int32} {x' : XX} (hdg : decode cc pc = .ok (.invokevirtual idx, 3)) (hl : Cond.methodLink y.cls idx y' ∈ TBL) (hK : KV y' cc' nL' ret' 1) (hM : Can l w y' cc' nL' ret' (rmd d') [.ref (ad w u t c), v1] (M0, R0, 158) (RI r x')) (kk : A l w y cc nL ret (rmd d) Φ (pc + 3) ls (.int r :: st) x' 0 0) (ht : t < 8 := by first | decide | assumption) (hcl : CC t = y'.cls := by first | rfl | assumption) (ho : rl u t c = true := by first | rfl | assumption) (hR : (rmd d').frames + 1 ≤ (rmd d).frames ∧ 8 + (nL' + 11) + (rmd d').locals ≤ (rmd d).locals := by decide) (hW : (st.map fun v => v.category).sum ≤ 8 := by exact Nat.le_of_ble_eq_true rfl) : A l w y cc nL ret (rmd d) Φ pc ls (v1 :: .ref (ad w u t c) :: st) (M0, R0, 158) 0 0 :=
  a_callV [v1] hdg hl hK (rlm ho) ht hcl rfl hR ⟨Nat.le_refl 0, Nat.le_refl 0⟩ hW hM (fun v z h => by obtain ⟨rfl, rfl⟩ := h; exact kk)
theorem c_V1V {y' : MethodName} {cc' : ByteArray} {nL' : Nat} {ret' : Option FieldType} {d' idx : Nat} {M0 : Mem} {R0 : RMem} {v1 : Value} {x' : XX} (hdg : decode cc pc = .ok (.invokevirtual idx, 3)) (hl : Cond.methodLink y.cls idx y' ∈ TBL) (hK : KV y' cc' nL' ret' 1) (hM : Can l w y' cc' nL' ret' (rmd d') [.ref (ad w u t c), v1] (M0, R0, 158) (RV x')) (kk : A l w y cc nL ret (rmd d) Φ (pc + 3) ls st x' 0 0) (ht : t < 8 := by first | decide | assumption) (hcl : CC t = y'.cls := by first | rfl | assumption) (ho : rl u t c = true := by first | rfl | assumption) (hR : (rmd d').frames + 1 ≤ (rmd d).frames ∧ 8 + (nL' + 11) + (rmd d').locals ≤ (rmd d).locals := by decide) (hW : (st.map fun v => v.category).sum ≤ 8 := by exact Nat.le_of_ble_eq_true rfl) : A l w y cc nL ret (rmd d) Φ pc ls (v1 :: .ref (ad w u t c) :: st) (M0, R0, 158) 0 0 :=
  a_callV [v1] hdg hl hK (rlm ho) ht hcl rfl hR ⟨Nat.le_refl 0, Nat.le_refl 0⟩ hW hM (fun v z h => by obtain ⟨rfl, rfl⟩ := h; exact kk)
theorem c_V1R {y' : MethodName} {cc' : ByteArray} {nL' : Nat} {ret' : Option FieldType} {d' idx : Nat} {M0 : Mem} {R0 : RMem} {v1 : Value} {r : Nat} {x' : XX} (hdg : decode cc pc = .ok (.invokevirtual idx, 3)) (hl : Cond.methodLink y.cls idx y' ∈ TBL) (hK : KV y' cc' nL' ret' 1) (hM : Can l w y' cc' nL' ret' (rmd d') [.ref (ad w u t c), v1] (M0, R0, 158) (RA r x')) (kk : A l w y cc nL ret (rmd d) Φ (pc + 3) ls (.ref r :: st) x' 0 0) (ht : t < 8 := by first | decide | assumption) (hcl : CC t = y'.cls := by first | rfl | assumption) (ho : rl u t c = true := by first | rfl | assumption) (hR : (rmd d').frames + 1 ≤ (rmd d).frames ∧ 8 + (nL' + 11) + (rmd d').locals ≤ (rmd d).locals := by decide) (hW : (st.map fun v => v.category).sum ≤ 8 := by exact Nat.le_of_ble_eq_true rfl) : A l w y cc nL ret (rmd d) Φ pc ls (v1 :: .ref (ad w u t c) :: st) (M0, R0, 158) 0 0 :=
  a_callV [v1] hdg hl hK (rlm ho) ht hcl rfl hR ⟨Nat.le_refl 0, Nat.le_refl 0⟩ hW hM (fun v z h => by obtain ⟨rfl, rfl⟩ := h; exact kk)
theorem c_V1G {y' : MethodName} {cc' : ByteArray} {nL' : Nat} {ret' : Option FieldType} {d' idx : Nat} {M0 : Mem} {R0 : RMem} {v1 : Value} {Ψ : Option Value → XX → Prop} (hdg : decode cc pc = .ok (.invokevirtual idx, 3)) (hl : Cond.methodLink y.cls idx y' ∈ TBL) (hK : KV y' cc' nL' ret' 1) (hM : Can l w y' cc' nL' ret' (rmd d') [.ref (ad w u t c), v1] (M0, R0, 158) Ψ) (kk : ∀ v z, Ψ v z → A l w y cc nL ret (rmd d) Φ (pc + 3) ls (v.toList ++ st) z 0 0) (ht : t < 8 := by first | decide | assumption) (hcl : CC t = y'.cls := by first | rfl | assumption) (ho : rl u t c = true := by first | rfl | assumption) (hR : (rmd d').frames + 1 ≤ (rmd d).frames ∧ 8 + (nL' + 11) + (rmd d').locals ≤ (rmd d).locals := by decide) (hW : (st.map fun v => v.category).sum ≤ 8 := by exact Nat.le_of_ble_eq_true rfl) : A l w y cc nL ret (rmd d) Φ pc ls (v1 :: .ref (ad w u t c) :: st) (M0, R0, 158) 0 0 :=
  a_callV [v1] hdg hl hK (rlm ho) ht hcl rfl hR ⟨Nat.le_refl 0, Nat.le_refl 0⟩ hW hM kk
theorem c_V2I {y' : MethodName} {cc' : ByteArray} {nL' : Nat} {ret' : Option FieldType} {d' idx : Nat} {M0 : Mem} {R0 : RMem} {v1 v2 : Value} {r : Int32} {x' : XX} (hdg : decode cc pc = .ok (.invokevirtual idx, 3)) (hl : Cond.methodLink y.cls idx y' ∈ TBL) (hK : KV y' cc' nL' ret' 2) (hM : Can l w y' cc' nL' ret' (rmd d') [.ref (ad w u t c), v1, v2] (M0, R0, 158) (RI r x')) (kk : A l w y cc nL ret (rmd d) Φ (pc + 3) ls (.int r :: st) x' 0 0) (ht : t < 8 := by first | decide | assumption) (hcl : CC t = y'.cls := by first | rfl | assumption) (ho : rl u t c = true := by first | rfl | assumption) (hR : (rmd d').frames + 1 ≤ (rmd d).frames ∧ 8 + (nL' + 11) + (rmd d').locals ≤ (rmd d).locals := by decide) (hW : (st.map fun v => v.category).sum ≤ 8 := by exact Nat.le_of_ble_eq_true rfl) : A l w y cc nL ret (rmd d) Φ pc ls (v2 :: v1 :: .ref (ad w u t c) :: st) (M0, R0, 158) 0 0 :=
  a_callV [v1, v2] hdg hl hK (rlm ho) ht hcl rfl hR ⟨Nat.le_refl 0, Nat.le_refl 0⟩ hW hM (fun v z h => by obtain ⟨rfl, rfl⟩ := h; exact kk)
theorem c_V2V {y' : MethodName} {cc' : ByteArray} {nL' : Nat} {ret' : Option FieldType} {d' idx : Nat} {M0 : Mem} {R0 : RMem} {v1 v2 : Value} {x' : XX} (hdg : decode cc pc = .ok (.invokevirtual idx, 3)) (hl : Cond.methodLink y.cls idx y' ∈ TBL) (hK : KV y' cc' nL' ret' 2) (hM : Can l w y' cc' nL' ret' (rmd d') [.ref (ad w u t c), v1, v2] (M0, R0, 158) (RV x')) (kk : A l w y cc nL ret (rmd d) Φ (pc + 3) ls st x' 0 0) (ht : t < 8 := by first | decide | assumption) (hcl : CC t = y'.cls := by first | rfl | assumption) (ho : rl u t c = true := by first | rfl | assumption) (hR : (rmd d').frames + 1 ≤ (rmd d).frames ∧ 8 + (nL' + 11) + (rmd d').locals ≤ (rmd d).locals := by decide) (hW : (st.map fun v => v.category).sum ≤ 8 := by exact Nat.le_of_ble_eq_true rfl) : A l w y cc nL ret (rmd d) Φ pc ls (v2 :: v1 :: .ref (ad w u t c) :: st) (M0, R0, 158) 0 0 :=
  a_callV [v1, v2] hdg hl hK (rlm ho) ht hcl rfl hR ⟨Nat.le_refl 0, Nat.le_refl 0⟩ hW hM (fun v z h => by obtain ⟨rfl, rfl⟩ := h; exact kk)
theorem c_V2R {y' : MethodName} {cc' : ByteArray} {nL' : Nat} {ret' : Option FieldType} {d' idx : Nat} {M0 : Mem} {R0 : RMem} {v1 v2 : Value} {r : Nat} {x' : XX} (hdg : decode cc pc = .ok (.invokevirtual idx, 3)) (hl : Cond.methodLink y.cls idx y' ∈ TBL) (hK : KV y' cc' nL' ret' 2) (hM : Can l w y' cc' nL' ret' (rmd d') [.ref (ad w u t c), v1, v2] (M0, R0, 158) (RA r x')) (kk : A l w y cc nL ret (rmd d) Φ (pc + 3) ls (.ref r :: st) x' 0 0) (ht : t < 8 := by first | decide | assumption) (hcl : CC t = y'.cls := by first | rfl | assumption) (ho : rl u t c = true := by first | rfl | assumption) (hR : (rmd d').frames + 1 ≤ (rmd d).frames ∧ 8 + (nL' + 11) + (rmd d').locals ≤ (rmd d).locals := by decide) (hW : (st.map fun v => v.category).sum ≤ 8 := by exact Nat.le_of_ble_eq_true rfl) : A l w y cc nL ret (rmd d) Φ pc ls (v2 :: v1 :: .ref (ad w u t c) :: st) (M0, R0, 158) 0 0 :=
  a_callV [v1, v2] hdg hl hK (rlm ho) ht hcl rfl hR ⟨Nat.le_refl 0, Nat.le_refl 0⟩ hW hM (fun v z h => by obtain ⟨rfl, rfl⟩ := h; exact kk)
theorem c_V2G {y' : MethodName} {cc' : ByteArray} {nL' : Nat} {ret' : Option FieldType} {d' idx : Nat} {M0 : Mem} {R0 : RMem} {v1 v2 : Value} {Ψ : Option Value → XX → Prop} (hdg : decode cc pc = .ok (.invokevirtual idx, 3)) (hl : Cond.methodLink y.cls idx y' ∈ TBL) (hK : KV y' cc' nL' ret' 2) (hM : Can l w y' cc' nL' ret' (rmd d') [.ref (ad w u t c), v1, v2] (M0, R0, 158) Ψ) (kk : ∀ v z, Ψ v z → A l w y cc nL ret (rmd d) Φ (pc + 3) ls (v.toList ++ st) z 0 0) (ht : t < 8 := by first | decide | assumption) (hcl : CC t = y'.cls := by first | rfl | assumption) (ho : rl u t c = true := by first | rfl | assumption) (hR : (rmd d').frames + 1 ≤ (rmd d).frames ∧ 8 + (nL' + 11) + (rmd d').locals ≤ (rmd d).locals := by decide) (hW : (st.map fun v => v.category).sum ≤ 8 := by exact Nat.le_of_ble_eq_true rfl) : A l w y cc nL ret (rmd d) Φ pc ls (v2 :: v1 :: .ref (ad w u t c) :: st) (M0, R0, 158) 0 0 :=
  a_callV [v1, v2] hdg hl hK (rlm ho) ht hcl rfl hR ⟨Nat.le_refl 0, Nat.le_refl 0⟩ hW hM kk
theorem c_V3I {y' : MethodName} {cc' : ByteArray} {nL' : Nat} {ret' : Option FieldType} {d' idx : Nat} {M0 : Mem} {R0 : RMem} {v1 v2 v3 : Value} {r : Int32} {x' : XX} (hdg : decode cc pc = .ok (.invokevirtual idx, 3)) (hl : Cond.methodLink y.cls idx y' ∈ TBL) (hK : KV y' cc' nL' ret' 3) (hM : Can l w y' cc' nL' ret' (rmd d') [.ref (ad w u t c), v1, v2, v3] (M0, R0, 158) (RI r x')) (kk : A l w y cc nL ret (rmd d) Φ (pc + 3) ls (.int r :: st) x' 0 0) (ht : t < 8 := by first | decide | assumption) (hcl : CC t = y'.cls := by first | rfl | assumption) (ho : rl u t c = true := by first | rfl | assumption) (hR : (rmd d').frames + 1 ≤ (rmd d).frames ∧ 8 + (nL' + 11) + (rmd d').locals ≤ (rmd d).locals := by decide) (hW : (st.map fun v => v.category).sum ≤ 8 := by exact Nat.le_of_ble_eq_true rfl) : A l w y cc nL ret (rmd d) Φ pc ls (v3 :: v2 :: v1 :: .ref (ad w u t c) :: st) (M0, R0, 158) 0 0 :=
  a_callV [v1, v2, v3] hdg hl hK (rlm ho) ht hcl rfl hR ⟨Nat.le_refl 0, Nat.le_refl 0⟩ hW hM (fun v z h => by obtain ⟨rfl, rfl⟩ := h; exact kk)
theorem c_V3V {y' : MethodName} {cc' : ByteArray} {nL' : Nat} {ret' : Option FieldType} {d' idx : Nat} {M0 : Mem} {R0 : RMem} {v1 v2 v3 : Value} {x' : XX} (hdg : decode cc pc = .ok (.invokevirtual idx, 3)) (hl : Cond.methodLink y.cls idx y' ∈ TBL) (hK : KV y' cc' nL' ret' 3) (hM : Can l w y' cc' nL' ret' (rmd d') [.ref (ad w u t c), v1, v2, v3] (M0, R0, 158) (RV x')) (kk : A l w y cc nL ret (rmd d) Φ (pc + 3) ls st x' 0 0) (ht : t < 8 := by first | decide | assumption) (hcl : CC t = y'.cls := by first | rfl | assumption) (ho : rl u t c = true := by first | rfl | assumption) (hR : (rmd d').frames + 1 ≤ (rmd d).frames ∧ 8 + (nL' + 11) + (rmd d').locals ≤ (rmd d).locals := by decide) (hW : (st.map fun v => v.category).sum ≤ 8 := by exact Nat.le_of_ble_eq_true rfl) : A l w y cc nL ret (rmd d) Φ pc ls (v3 :: v2 :: v1 :: .ref (ad w u t c) :: st) (M0, R0, 158) 0 0 :=
  a_callV [v1, v2, v3] hdg hl hK (rlm ho) ht hcl rfl hR ⟨Nat.le_refl 0, Nat.le_refl 0⟩ hW hM (fun v z h => by obtain ⟨rfl, rfl⟩ := h; exact kk)
theorem c_V3R {y' : MethodName} {cc' : ByteArray} {nL' : Nat} {ret' : Option FieldType} {d' idx : Nat} {M0 : Mem} {R0 : RMem} {v1 v2 v3 : Value} {r : Nat} {x' : XX} (hdg : decode cc pc = .ok (.invokevirtual idx, 3)) (hl : Cond.methodLink y.cls idx y' ∈ TBL) (hK : KV y' cc' nL' ret' 3) (hM : Can l w y' cc' nL' ret' (rmd d') [.ref (ad w u t c), v1, v2, v3] (M0, R0, 158) (RA r x')) (kk : A l w y cc nL ret (rmd d) Φ (pc + 3) ls (.ref r :: st) x' 0 0) (ht : t < 8 := by first | decide | assumption) (hcl : CC t = y'.cls := by first | rfl | assumption) (ho : rl u t c = true := by first | rfl | assumption) (hR : (rmd d').frames + 1 ≤ (rmd d).frames ∧ 8 + (nL' + 11) + (rmd d').locals ≤ (rmd d).locals := by decide) (hW : (st.map fun v => v.category).sum ≤ 8 := by exact Nat.le_of_ble_eq_true rfl) : A l w y cc nL ret (rmd d) Φ pc ls (v3 :: v2 :: v1 :: .ref (ad w u t c) :: st) (M0, R0, 158) 0 0 :=
  a_callV [v1, v2, v3] hdg hl hK (rlm ho) ht hcl rfl hR ⟨Nat.le_refl 0, Nat.le_refl 0⟩ hW hM (fun v z h => by obtain ⟨rfl, rfl⟩ := h; exact kk)
theorem c_V3G {y' : MethodName} {cc' : ByteArray} {nL' : Nat} {ret' : Option FieldType} {d' idx : Nat} {M0 : Mem} {R0 : RMem} {v1 v2 v3 : Value} {Ψ : Option Value → XX → Prop} (hdg : decode cc pc = .ok (.invokevirtual idx, 3)) (hl : Cond.methodLink y.cls idx y' ∈ TBL) (hK : KV y' cc' nL' ret' 3) (hM : Can l w y' cc' nL' ret' (rmd d') [.ref (ad w u t c), v1, v2, v3] (M0, R0, 158) Ψ) (kk : ∀ v z, Ψ v z → A l w y cc nL ret (rmd d) Φ (pc + 3) ls (v.toList ++ st) z 0 0) (ht : t < 8 := by first | decide | assumption) (hcl : CC t = y'.cls := by first | rfl | assumption) (ho : rl u t c = true := by first | rfl | assumption) (hR : (rmd d').frames + 1 ≤ (rmd d).frames ∧ 8 + (nL' + 11) + (rmd d').locals ≤ (rmd d).locals := by decide) (hW : (st.map fun v => v.category).sum ≤ 8 := by exact Nat.le_of_ble_eq_true rfl) : A l w y cc nL ret (rmd d) Φ pc ls (v3 :: v2 :: v1 :: .ref (ad w u t c) :: st) (M0, R0, 158) 0 0 :=
  a_callV [v1, v2, v3] hdg hl hK (rlm ho) ht hcl rfl hR ⟨Nat.le_refl 0, Nat.le_refl 0⟩ hW hM kk
theorem c_V4I {y' : MethodName} {cc' : ByteArray} {nL' : Nat} {ret' : Option FieldType} {d' idx : Nat} {M0 : Mem} {R0 : RMem} {v1 v2 v3 v4 : Value} {r : Int32} {x' : XX} (hdg : decode cc pc = .ok (.invokevirtual idx, 3)) (hl : Cond.methodLink y.cls idx y' ∈ TBL) (hK : KV y' cc' nL' ret' 4) (hM : Can l w y' cc' nL' ret' (rmd d') [.ref (ad w u t c), v1, v2, v3, v4] (M0, R0, 158) (RI r x')) (kk : A l w y cc nL ret (rmd d) Φ (pc + 3) ls (.int r :: st) x' 0 0) (ht : t < 8 := by first | decide | assumption) (hcl : CC t = y'.cls := by first | rfl | assumption) (ho : rl u t c = true := by first | rfl | assumption) (hR : (rmd d').frames + 1 ≤ (rmd d).frames ∧ 8 + (nL' + 11) + (rmd d').locals ≤ (rmd d).locals := by decide) (hW : (st.map fun v => v.category).sum ≤ 8 := by exact Nat.le_of_ble_eq_true rfl) : A l w y cc nL ret (rmd d) Φ pc ls (v4 :: v3 :: v2 :: v1 :: .ref (ad w u t c) :: st) (M0, R0, 158) 0 0 :=
  a_callV [v1, v2, v3, v4] hdg hl hK (rlm ho) ht hcl rfl hR ⟨Nat.le_refl 0, Nat.le_refl 0⟩ hW hM (fun v z h => by obtain ⟨rfl, rfl⟩ := h; exact kk)
theorem c_V4V {y' : MethodName} {cc' : ByteArray} {nL' : Nat} {ret' : Option FieldType} {d' idx : Nat} {M0 : Mem} {R0 : RMem} {v1 v2 v3 v4 : Value} {x' : XX} (hdg : decode cc pc = .ok (.invokevirtual idx, 3)) (hl : Cond.methodLink y.cls idx y' ∈ TBL) (hK : KV y' cc' nL' ret' 4) (hM : Can l w y' cc' nL' ret' (rmd d') [.ref (ad w u t c), v1, v2, v3, v4] (M0, R0, 158) (RV x')) (kk : A l w y cc nL ret (rmd d) Φ (pc + 3) ls st x' 0 0) (ht : t < 8 := by first | decide | assumption) (hcl : CC t = y'.cls := by first | rfl | assumption) (ho : rl u t c = true := by first | rfl | assumption) (hR : (rmd d').frames + 1 ≤ (rmd d).frames ∧ 8 + (nL' + 11) + (rmd d').locals ≤ (rmd d).locals := by decide) (hW : (st.map fun v => v.category).sum ≤ 8 := by exact Nat.le_of_ble_eq_true rfl) : A l w y cc nL ret (rmd d) Φ pc ls (v4 :: v3 :: v2 :: v1 :: .ref (ad w u t c) :: st) (M0, R0, 158) 0 0 :=
  a_callV [v1, v2, v3, v4] hdg hl hK (rlm ho) ht hcl rfl hR ⟨Nat.le_refl 0, Nat.le_refl 0⟩ hW hM (fun v z h => by obtain ⟨rfl, rfl⟩ := h; exact kk)
theorem c_V4R {y' : MethodName} {cc' : ByteArray} {nL' : Nat} {ret' : Option FieldType} {d' idx : Nat} {M0 : Mem} {R0 : RMem} {v1 v2 v3 v4 : Value} {r : Nat} {x' : XX} (hdg : decode cc pc = .ok (.invokevirtual idx, 3)) (hl : Cond.methodLink y.cls idx y' ∈ TBL) (hK : KV y' cc' nL' ret' 4) (hM : Can l w y' cc' nL' ret' (rmd d') [.ref (ad w u t c), v1, v2, v3, v4] (M0, R0, 158) (RA r x')) (kk : A l w y cc nL ret (rmd d) Φ (pc + 3) ls (.ref r :: st) x' 0 0) (ht : t < 8 := by first | decide | assumption) (hcl : CC t = y'.cls := by first | rfl | assumption) (ho : rl u t c = true := by first | rfl | assumption) (hR : (rmd d').frames + 1 ≤ (rmd d).frames ∧ 8 + (nL' + 11) + (rmd d').locals ≤ (rmd d).locals := by decide) (hW : (st.map fun v => v.category).sum ≤ 8 := by exact Nat.le_of_ble_eq_true rfl) : A l w y cc nL ret (rmd d) Φ pc ls (v4 :: v3 :: v2 :: v1 :: .ref (ad w u t c) :: st) (M0, R0, 158) 0 0 :=
  a_callV [v1, v2, v3, v4] hdg hl hK (rlm ho) ht hcl rfl hR ⟨Nat.le_refl 0, Nat.le_refl 0⟩ hW hM (fun v z h => by obtain ⟨rfl, rfl⟩ := h; exact kk)
theorem c_V4G {y' : MethodName} {cc' : ByteArray} {nL' : Nat} {ret' : Option FieldType} {d' idx : Nat} {M0 : Mem} {R0 : RMem} {v1 v2 v3 v4 : Value} {Ψ : Option Value → XX → Prop} (hdg : decode cc pc = .ok (.invokevirtual idx, 3)) (hl : Cond.methodLink y.cls idx y' ∈ TBL) (hK : KV y' cc' nL' ret' 4) (hM : Can l w y' cc' nL' ret' (rmd d') [.ref (ad w u t c), v1, v2, v3, v4] (M0, R0, 158) Ψ) (kk : ∀ v z, Ψ v z → A l w y cc nL ret (rmd d) Φ (pc + 3) ls (v.toList ++ st) z 0 0) (ht : t < 8 := by first | decide | assumption) (hcl : CC t = y'.cls := by first | rfl | assumption) (ho : rl u t c = true := by first | rfl | assumption) (hR : (rmd d').frames + 1 ≤ (rmd d).frames ∧ 8 + (nL' + 11) + (rmd d').locals ≤ (rmd d).locals := by decide) (hW : (st.map fun v => v.category).sum ≤ 8 := by exact Nat.le_of_ble_eq_true rfl) : A l w y cc nL ret (rmd d) Φ pc ls (v4 :: v3 :: v2 :: v1 :: .ref (ad w u t c) :: st) (M0, R0, 158) 0 0 :=
  a_callV [v1, v2, v3, v4] hdg hl hK (rlm ho) ht hcl rfl hR ⟨Nat.le_refl 0, Nat.le_refl 0⟩ hW hM kk
theorem c_S0I {y' : MethodName} {cc' : ByteArray} {nL' : Nat} {ret' : Option FieldType} {d' idx : Nat} {x : XX} {r : Int32} {x' : XX} (hdg : decode cc pc = .ok (.invokestatic idx, 3)) (hl : Cond.methodLink y.cls idx y' ∈ TBL) (hK : KS y' cc' nL' ret' 0) (hM : Can l w y' cc' nL' ret' (rmd d') [] x (RI r x')) (kk : A l w y cc nL ret (rmd d) Φ (pc + 3) ls (.int r :: st) x' 0 0) (hR : (rmd d').frames + 1 ≤ (rmd d).frames ∧ 8 + (nL' + 11) + (rmd d').locals ≤ (rmd d).locals := by decide) (hW : (st.map fun v => v.category).sum ≤ 8 := by exact Nat.le_of_ble_eq_true rfl) : A l w y cc nL ret (rmd d) Φ pc ls (st) x 0 0 :=
  a_callS [] hdg hl hK rfl hR ⟨Nat.le_refl 0, Nat.le_refl 0⟩ hW hM (fun v z h => by obtain ⟨rfl, rfl⟩ := h; exact kk)
theorem c_S0V {y' : MethodName} {cc' : ByteArray} {nL' : Nat} {ret' : Option FieldType} {d' idx : Nat} {x : XX} {x' : XX} (hdg : decode cc pc = .ok (.invokestatic idx, 3)) (hl : Cond.methodLink y.cls idx y' ∈ TBL) (hK : KS y' cc' nL' ret' 0) (hM : Can l w y' cc' nL' ret' (rmd d') [] x (RV x')) (kk : A l w y cc nL ret (rmd d) Φ (pc + 3) ls st x' 0 0) (hR : (rmd d').frames + 1 ≤ (rmd d).frames ∧ 8 + (nL' + 11) + (rmd d').locals ≤ (rmd d).locals := by decide) (hW : (st.map fun v => v.category).sum ≤ 8 := by exact Nat.le_of_ble_eq_true rfl) : A l w y cc nL ret (rmd d) Φ pc ls (st) x 0 0 :=
  a_callS [] hdg hl hK rfl hR ⟨Nat.le_refl 0, Nat.le_refl 0⟩ hW hM (fun v z h => by obtain ⟨rfl, rfl⟩ := h; exact kk)
theorem c_S0G {y' : MethodName} {cc' : ByteArray} {nL' : Nat} {ret' : Option FieldType} {d' idx : Nat} {x : XX} {Ψ : Option Value → XX → Prop} (hdg : decode cc pc = .ok (.invokestatic idx, 3)) (hl : Cond.methodLink y.cls idx y' ∈ TBL) (hK : KS y' cc' nL' ret' 0) (hM : Can l w y' cc' nL' ret' (rmd d') [] x Ψ) (kk : ∀ v z, Ψ v z → A l w y cc nL ret (rmd d) Φ (pc + 3) ls (v.toList ++ st) z 0 0) (hR : (rmd d').frames + 1 ≤ (rmd d).frames ∧ 8 + (nL' + 11) + (rmd d').locals ≤ (rmd d).locals := by decide) (hW : (st.map fun v => v.category).sum ≤ 8 := by exact Nat.le_of_ble_eq_true rfl) : A l w y cc nL ret (rmd d) Φ pc ls (st) x 0 0 :=
  a_callS [] hdg hl hK rfl hR ⟨Nat.le_refl 0, Nat.le_refl 0⟩ hW hM kk
theorem c_S1I {y' : MethodName} {cc' : ByteArray} {nL' : Nat} {ret' : Option FieldType} {d' idx : Nat} {x : XX} {v1 : Value} {r : Int32} {x' : XX} (hdg : decode cc pc = .ok (.invokestatic idx, 3)) (hl : Cond.methodLink y.cls idx y' ∈ TBL) (hK : KS y' cc' nL' ret' 1) (hM : Can l w y' cc' nL' ret' (rmd d') [v1] x (RI r x')) (kk : A l w y cc nL ret (rmd d) Φ (pc + 3) ls (.int r :: st) x' 0 0) (hR : (rmd d').frames + 1 ≤ (rmd d).frames ∧ 8 + (nL' + 11) + (rmd d').locals ≤ (rmd d).locals := by decide) (hW : (st.map fun v => v.category).sum ≤ 8 := by exact Nat.le_of_ble_eq_true rfl) : A l w y cc nL ret (rmd d) Φ pc ls (v1 :: st) x 0 0 :=
  a_callS [v1] hdg hl hK rfl hR ⟨Nat.le_refl 0, Nat.le_refl 0⟩ hW hM (fun v z h => by obtain ⟨rfl, rfl⟩ := h; exact kk)
theorem c_S1V {y' : MethodName} {cc' : ByteArray} {nL' : Nat} {ret' : Option FieldType} {d' idx : Nat} {x : XX} {v1 : Value} {x' : XX} (hdg : decode cc pc = .ok (.invokestatic idx, 3)) (hl : Cond.methodLink y.cls idx y' ∈ TBL) (hK : KS y' cc' nL' ret' 1) (hM : Can l w y' cc' nL' ret' (rmd d') [v1] x (RV x')) (kk : A l w y cc nL ret (rmd d) Φ (pc + 3) ls st x' 0 0) (hR : (rmd d').frames + 1 ≤ (rmd d).frames ∧ 8 + (nL' + 11) + (rmd d').locals ≤ (rmd d).locals := by decide) (hW : (st.map fun v => v.category).sum ≤ 8 := by exact Nat.le_of_ble_eq_true rfl) : A l w y cc nL ret (rmd d) Φ pc ls (v1 :: st) x 0 0 :=
  a_callS [v1] hdg hl hK rfl hR ⟨Nat.le_refl 0, Nat.le_refl 0⟩ hW hM (fun v z h => by obtain ⟨rfl, rfl⟩ := h; exact kk)
theorem c_S1G {y' : MethodName} {cc' : ByteArray} {nL' : Nat} {ret' : Option FieldType} {d' idx : Nat} {x : XX} {v1 : Value} {Ψ : Option Value → XX → Prop} (hdg : decode cc pc = .ok (.invokestatic idx, 3)) (hl : Cond.methodLink y.cls idx y' ∈ TBL) (hK : KS y' cc' nL' ret' 1) (hM : Can l w y' cc' nL' ret' (rmd d') [v1] x Ψ) (kk : ∀ v z, Ψ v z → A l w y cc nL ret (rmd d) Φ (pc + 3) ls (v.toList ++ st) z 0 0) (hR : (rmd d').frames + 1 ≤ (rmd d).frames ∧ 8 + (nL' + 11) + (rmd d').locals ≤ (rmd d).locals := by decide) (hW : (st.map fun v => v.category).sum ≤ 8 := by exact Nat.le_of_ble_eq_true rfl) : A l w y cc nL ret (rmd d) Φ pc ls (v1 :: st) x 0 0 :=
  a_callS [v1] hdg hl hK rfl hR ⟨Nat.le_refl 0, Nat.le_refl 0⟩ hW hM kk
theorem c_S2I {y' : MethodName} {cc' : ByteArray} {nL' : Nat} {ret' : Option FieldType} {d' idx : Nat} {x : XX} {v1 v2 : Value} {r : Int32} {x' : XX} (hdg : decode cc pc = .ok (.invokestatic idx, 3)) (hl : Cond.methodLink y.cls idx y' ∈ TBL) (hK : KS y' cc' nL' ret' 2) (hM : Can l w y' cc' nL' ret' (rmd d') [v1, v2] x (RI r x')) (kk : A l w y cc nL ret (rmd d) Φ (pc + 3) ls (.int r :: st) x' 0 0) (hR : (rmd d').frames + 1 ≤ (rmd d).frames ∧ 8 + (nL' + 11) + (rmd d').locals ≤ (rmd d).locals := by decide) (hW : (st.map fun v => v.category).sum ≤ 8 := by exact Nat.le_of_ble_eq_true rfl) : A l w y cc nL ret (rmd d) Φ pc ls (v2 :: v1 :: st) x 0 0 :=
  a_callS [v1, v2] hdg hl hK rfl hR ⟨Nat.le_refl 0, Nat.le_refl 0⟩ hW hM (fun v z h => by obtain ⟨rfl, rfl⟩ := h; exact kk)
theorem c_S2V {y' : MethodName} {cc' : ByteArray} {nL' : Nat} {ret' : Option FieldType} {d' idx : Nat} {x : XX} {v1 v2 : Value} {x' : XX} (hdg : decode cc pc = .ok (.invokestatic idx, 3)) (hl : Cond.methodLink y.cls idx y' ∈ TBL) (hK : KS y' cc' nL' ret' 2) (hM : Can l w y' cc' nL' ret' (rmd d') [v1, v2] x (RV x')) (kk : A l w y cc nL ret (rmd d) Φ (pc + 3) ls st x' 0 0) (hR : (rmd d').frames + 1 ≤ (rmd d).frames ∧ 8 + (nL' + 11) + (rmd d').locals ≤ (rmd d).locals := by decide) (hW : (st.map fun v => v.category).sum ≤ 8 := by exact Nat.le_of_ble_eq_true rfl) : A l w y cc nL ret (rmd d) Φ pc ls (v2 :: v1 :: st) x 0 0 :=
  a_callS [v1, v2] hdg hl hK rfl hR ⟨Nat.le_refl 0, Nat.le_refl 0⟩ hW hM (fun v z h => by obtain ⟨rfl, rfl⟩ := h; exact kk)
theorem c_S2G {y' : MethodName} {cc' : ByteArray} {nL' : Nat} {ret' : Option FieldType} {d' idx : Nat} {x : XX} {v1 v2 : Value} {Ψ : Option Value → XX → Prop} (hdg : decode cc pc = .ok (.invokestatic idx, 3)) (hl : Cond.methodLink y.cls idx y' ∈ TBL) (hK : KS y' cc' nL' ret' 2) (hM : Can l w y' cc' nL' ret' (rmd d') [v1, v2] x Ψ) (kk : ∀ v z, Ψ v z → A l w y cc nL ret (rmd d) Φ (pc + 3) ls (v.toList ++ st) z 0 0) (hR : (rmd d').frames + 1 ≤ (rmd d).frames ∧ 8 + (nL' + 11) + (rmd d').locals ≤ (rmd d).locals := by decide) (hW : (st.map fun v => v.category).sum ≤ 8 := by exact Nat.le_of_ble_eq_true rfl) : A l w y cc nL ret (rmd d) Φ pc ls (v2 :: v1 :: st) x 0 0 :=
  a_callS [v1, v2] hdg hl hK rfl hR ⟨Nat.le_refl 0, Nat.le_refl 0⟩ hW hM kk
theorem c_S3I {y' : MethodName} {cc' : ByteArray} {nL' : Nat} {ret' : Option FieldType} {d' idx : Nat} {x : XX} {v1 v2 v3 : Value} {r : Int32} {x' : XX} (hdg : decode cc pc = .ok (.invokestatic idx, 3)) (hl : Cond.methodLink y.cls idx y' ∈ TBL) (hK : KS y' cc' nL' ret' 3) (hM : Can l w y' cc' nL' ret' (rmd d') [v1, v2, v3] x (RI r x')) (kk : A l w y cc nL ret (rmd d) Φ (pc + 3) ls (.int r :: st) x' 0 0) (hR : (rmd d').frames + 1 ≤ (rmd d).frames ∧ 8 + (nL' + 11) + (rmd d').locals ≤ (rmd d).locals := by decide) (hW : (st.map fun v => v.category).sum ≤ 8 := by exact Nat.le_of_ble_eq_true rfl) : A l w y cc nL ret (rmd d) Φ pc ls (v3 :: v2 :: v1 :: st) x 0 0 :=
  a_callS [v1, v2, v3] hdg hl hK rfl hR ⟨Nat.le_refl 0, Nat.le_refl 0⟩ hW hM (fun v z h => by obtain ⟨rfl, rfl⟩ := h; exact kk)
theorem c_S3V {y' : MethodName} {cc' : ByteArray} {nL' : Nat} {ret' : Option FieldType} {d' idx : Nat} {x : XX} {v1 v2 v3 : Value} {x' : XX} (hdg : decode cc pc = .ok (.invokestatic idx, 3)) (hl : Cond.methodLink y.cls idx y' ∈ TBL) (hK : KS y' cc' nL' ret' 3) (hM : Can l w y' cc' nL' ret' (rmd d') [v1, v2, v3] x (RV x')) (kk : A l w y cc nL ret (rmd d) Φ (pc + 3) ls st x' 0 0) (hR : (rmd d').frames + 1 ≤ (rmd d).frames ∧ 8 + (nL' + 11) + (rmd d').locals ≤ (rmd d).locals := by decide) (hW : (st.map fun v => v.category).sum ≤ 8 := by exact Nat.le_of_ble_eq_true rfl) : A l w y cc nL ret (rmd d) Φ pc ls (v3 :: v2 :: v1 :: st) x 0 0 :=
  a_callS [v1, v2, v3] hdg hl hK rfl hR ⟨Nat.le_refl 0, Nat.le_refl 0⟩ hW hM (fun v z h => by obtain ⟨rfl, rfl⟩ := h; exact kk)
theorem c_S3G {y' : MethodName} {cc' : ByteArray} {nL' : Nat} {ret' : Option FieldType} {d' idx : Nat} {x : XX} {v1 v2 v3 : Value} {Ψ : Option Value → XX → Prop} (hdg : decode cc pc = .ok (.invokestatic idx, 3)) (hl : Cond.methodLink y.cls idx y' ∈ TBL) (hK : KS y' cc' nL' ret' 3) (hM : Can l w y' cc' nL' ret' (rmd d') [v1, v2, v3] x Ψ) (kk : ∀ v z, Ψ v z → A l w y cc nL ret (rmd d) Φ (pc + 3) ls (v.toList ++ st) z 0 0) (hR : (rmd d').frames + 1 ≤ (rmd d).frames ∧ 8 + (nL' + 11) + (rmd d').locals ≤ (rmd d).locals := by decide) (hW : (st.map fun v => v.category).sum ≤ 8 := by exact Nat.le_of_ble_eq_true rfl) : A l w y cc nL ret (rmd d) Φ pc ls (v3 :: v2 :: v1 :: st) x 0 0 :=
  a_callS [v1, v2, v3] hdg hl hK rfl hR ⟨Nat.le_refl 0, Nat.le_refl 0⟩ hW hM kk
theorem c_S4I {y' : MethodName} {cc' : ByteArray} {nL' : Nat} {ret' : Option FieldType} {d' idx : Nat} {x : XX} {v1 v2 v3 v4 : Value} {r : Int32} {x' : XX} (hdg : decode cc pc = .ok (.invokestatic idx, 3)) (hl : Cond.methodLink y.cls idx y' ∈ TBL) (hK : KS y' cc' nL' ret' 4) (hM : Can l w y' cc' nL' ret' (rmd d') [v1, v2, v3, v4] x (RI r x')) (kk : A l w y cc nL ret (rmd d) Φ (pc + 3) ls (.int r :: st) x' 0 0) (hR : (rmd d').frames + 1 ≤ (rmd d).frames ∧ 8 + (nL' + 11) + (rmd d').locals ≤ (rmd d).locals := by decide) (hW : (st.map fun v => v.category).sum ≤ 8 := by exact Nat.le_of_ble_eq_true rfl) : A l w y cc nL ret (rmd d) Φ pc ls (v4 :: v3 :: v2 :: v1 :: st) x 0 0 :=
  a_callS [v1, v2, v3, v4] hdg hl hK rfl hR ⟨Nat.le_refl 0, Nat.le_refl 0⟩ hW hM (fun v z h => by obtain ⟨rfl, rfl⟩ := h; exact kk)
theorem c_S4V {y' : MethodName} {cc' : ByteArray} {nL' : Nat} {ret' : Option FieldType} {d' idx : Nat} {x : XX} {v1 v2 v3 v4 : Value} {x' : XX} (hdg : decode cc pc = .ok (.invokestatic idx, 3)) (hl : Cond.methodLink y.cls idx y' ∈ TBL) (hK : KS y' cc' nL' ret' 4) (hM : Can l w y' cc' nL' ret' (rmd d') [v1, v2, v3, v4] x (RV x')) (kk : A l w y cc nL ret (rmd d) Φ (pc + 3) ls st x' 0 0) (hR : (rmd d').frames + 1 ≤ (rmd d).frames ∧ 8 + (nL' + 11) + (rmd d').locals ≤ (rmd d).locals := by decide) (hW : (st.map fun v => v.category).sum ≤ 8 := by exact Nat.le_of_ble_eq_true rfl) : A l w y cc nL ret (rmd d) Φ pc ls (v4 :: v3 :: v2 :: v1 :: st) x 0 0 :=
  a_callS [v1, v2, v3, v4] hdg hl hK rfl hR ⟨Nat.le_refl 0, Nat.le_refl 0⟩ hW hM (fun v z h => by obtain ⟨rfl, rfl⟩ := h; exact kk)
theorem c_S4G {y' : MethodName} {cc' : ByteArray} {nL' : Nat} {ret' : Option FieldType} {d' idx : Nat} {x : XX} {v1 v2 v3 v4 : Value} {Ψ : Option Value → XX → Prop} (hdg : decode cc pc = .ok (.invokestatic idx, 3)) (hl : Cond.methodLink y.cls idx y' ∈ TBL) (hK : KS y' cc' nL' ret' 4) (hM : Can l w y' cc' nL' ret' (rmd d') [v1, v2, v3, v4] x Ψ) (kk : ∀ v z, Ψ v z → A l w y cc nL ret (rmd d) Φ (pc + 3) ls (v.toList ++ st) z 0 0) (hR : (rmd d').frames + 1 ≤ (rmd d).frames ∧ 8 + (nL' + 11) + (rmd d').locals ≤ (rmd d).locals := by decide) (hW : (st.map fun v => v.category).sum ≤ 8 := by exact Nat.le_of_ble_eq_true rfl) : A l w y cc nL ret (rmd d) Φ pc ls (v4 :: v3 :: v2 :: v1 :: st) x 0 0 :=
  a_callS [v1, v2, v3, v4] hdg hl hK rfl hR ⟨Nat.le_refl 0, Nat.le_refl 0⟩ hW hM kk
theorem c_N0I {y' : MethodName} {cc' : ByteArray} {nL' : Nat} {ret' : Option FieldType} {d' idx : Nat} {host : String} {x : XX} {r : Int32} {x' : XX} (hdg : decode cc pc = .ok (.invokestatic idx, 3)) (hl : Cond.methodLinkNest y.cls idx y' host ∈ NEST) (hK : KS y' cc' nL' ret' 0) (hM : Can l w y' cc' nL' ret' (rmd d') [] x (RI r x')) (kk : A l w y cc nL ret (rmd d) Φ (pc + 3) ls (.int r :: st) x' 0 0) (hR : (rmd d').frames + 1 ≤ (rmd d).frames ∧ 8 + (nL' + 11) + (rmd d').locals ≤ (rmd d).locals := by decide) (hW : (st.map fun v => v.category).sum ≤ 8 := by exact Nat.le_of_ble_eq_true rfl) : A l w y cc nL ret (rmd d) Φ pc ls (st) x 0 0 :=
  a_callSN [] hdg hl hK rfl hR ⟨Nat.le_refl 0, Nat.le_refl 0⟩ hW hM (fun v z h => by obtain ⟨rfl, rfl⟩ := h; exact kk)
theorem c_N0V {y' : MethodName} {cc' : ByteArray} {nL' : Nat} {ret' : Option FieldType} {d' idx : Nat} {host : String} {x : XX} {x' : XX} (hdg : decode cc pc = .ok (.invokestatic idx, 3)) (hl : Cond.methodLinkNest y.cls idx y' host ∈ NEST) (hK : KS y' cc' nL' ret' 0) (hM : Can l w y' cc' nL' ret' (rmd d') [] x (RV x')) (kk : A l w y cc nL ret (rmd d) Φ (pc + 3) ls st x' 0 0) (hR : (rmd d').frames + 1 ≤ (rmd d).frames ∧ 8 + (nL' + 11) + (rmd d').locals ≤ (rmd d).locals := by decide) (hW : (st.map fun v => v.category).sum ≤ 8 := by exact Nat.le_of_ble_eq_true rfl) : A l w y cc nL ret (rmd d) Φ pc ls (st) x 0 0 :=
  a_callSN [] hdg hl hK rfl hR ⟨Nat.le_refl 0, Nat.le_refl 0⟩ hW hM (fun v z h => by obtain ⟨rfl, rfl⟩ := h; exact kk)
theorem c_N0G {y' : MethodName} {cc' : ByteArray} {nL' : Nat} {ret' : Option FieldType} {d' idx : Nat} {host : String} {x : XX} {Ψ : Option Value → XX → Prop} (hdg : decode cc pc = .ok (.invokestatic idx, 3)) (hl : Cond.methodLinkNest y.cls idx y' host ∈ NEST) (hK : KS y' cc' nL' ret' 0) (hM : Can l w y' cc' nL' ret' (rmd d') [] x Ψ) (kk : ∀ v z, Ψ v z → A l w y cc nL ret (rmd d) Φ (pc + 3) ls (v.toList ++ st) z 0 0) (hR : (rmd d').frames + 1 ≤ (rmd d).frames ∧ 8 + (nL' + 11) + (rmd d').locals ≤ (rmd d).locals := by decide) (hW : (st.map fun v => v.category).sum ≤ 8 := by exact Nat.le_of_ble_eq_true rfl) : A l w y cc nL ret (rmd d) Φ pc ls (st) x 0 0 :=
  a_callSN [] hdg hl hK rfl hR ⟨Nat.le_refl 0, Nat.le_refl 0⟩ hW hM kk
theorem c_N1I {y' : MethodName} {cc' : ByteArray} {nL' : Nat} {ret' : Option FieldType} {d' idx : Nat} {host : String} {x : XX} {v1 : Value} {r : Int32} {x' : XX} (hdg : decode cc pc = .ok (.invokestatic idx, 3)) (hl : Cond.methodLinkNest y.cls idx y' host ∈ NEST) (hK : KS y' cc' nL' ret' 1) (hM : Can l w y' cc' nL' ret' (rmd d') [v1] x (RI r x')) (kk : A l w y cc nL ret (rmd d) Φ (pc + 3) ls (.int r :: st) x' 0 0) (hR : (rmd d').frames + 1 ≤ (rmd d).frames ∧ 8 + (nL' + 11) + (rmd d').locals ≤ (rmd d).locals := by decide) (hW : (st.map fun v => v.category).sum ≤ 8 := by exact Nat.le_of_ble_eq_true rfl) : A l w y cc nL ret (rmd d) Φ pc ls (v1 :: st) x 0 0 :=
  a_callSN [v1] hdg hl hK rfl hR ⟨Nat.le_refl 0, Nat.le_refl 0⟩ hW hM (fun v z h => by obtain ⟨rfl, rfl⟩ := h; exact kk)
theorem c_N1V {y' : MethodName} {cc' : ByteArray} {nL' : Nat} {ret' : Option FieldType} {d' idx : Nat} {host : String} {x : XX} {v1 : Value} {x' : XX} (hdg : decode cc pc = .ok (.invokestatic idx, 3)) (hl : Cond.methodLinkNest y.cls idx y' host ∈ NEST) (hK : KS y' cc' nL' ret' 1) (hM : Can l w y' cc' nL' ret' (rmd d') [v1] x (RV x')) (kk : A l w y cc nL ret (rmd d) Φ (pc + 3) ls st x' 0 0) (hR : (rmd d').frames + 1 ≤ (rmd d).frames ∧ 8 + (nL' + 11) + (rmd d').locals ≤ (rmd d).locals := by decide) (hW : (st.map fun v => v.category).sum ≤ 8 := by exact Nat.le_of_ble_eq_true rfl) : A l w y cc nL ret (rmd d) Φ pc ls (v1 :: st) x 0 0 :=
  a_callSN [v1] hdg hl hK rfl hR ⟨Nat.le_refl 0, Nat.le_refl 0⟩ hW hM (fun v z h => by obtain ⟨rfl, rfl⟩ := h; exact kk)
theorem c_N1G {y' : MethodName} {cc' : ByteArray} {nL' : Nat} {ret' : Option FieldType} {d' idx : Nat} {host : String} {x : XX} {v1 : Value} {Ψ : Option Value → XX → Prop} (hdg : decode cc pc = .ok (.invokestatic idx, 3)) (hl : Cond.methodLinkNest y.cls idx y' host ∈ NEST) (hK : KS y' cc' nL' ret' 1) (hM : Can l w y' cc' nL' ret' (rmd d') [v1] x Ψ) (kk : ∀ v z, Ψ v z → A l w y cc nL ret (rmd d) Φ (pc + 3) ls (v.toList ++ st) z 0 0) (hR : (rmd d').frames + 1 ≤ (rmd d).frames ∧ 8 + (nL' + 11) + (rmd d').locals ≤ (rmd d).locals := by decide) (hW : (st.map fun v => v.category).sum ≤ 8 := by exact Nat.le_of_ble_eq_true rfl) : A l w y cc nL ret (rmd d) Φ pc ls (v1 :: st) x 0 0 :=
  a_callSN [v1] hdg hl hK rfl hR ⟨Nat.le_refl 0, Nat.le_refl 0⟩ hW hM kk
theorem c_N2I {y' : MethodName} {cc' : ByteArray} {nL' : Nat} {ret' : Option FieldType} {d' idx : Nat} {host : String} {x : XX} {v1 v2 : Value} {r : Int32} {x' : XX} (hdg : decode cc pc = .ok (.invokestatic idx, 3)) (hl : Cond.methodLinkNest y.cls idx y' host ∈ NEST) (hK : KS y' cc' nL' ret' 2) (hM : Can l w y' cc' nL' ret' (rmd d') [v1, v2] x (RI r x')) (kk : A l w y cc nL ret (rmd d) Φ (pc + 3) ls (.int r :: st) x' 0 0) (hR : (rmd d').frames + 1 ≤ (rmd d).frames ∧ 8 + (nL' + 11) + (rmd d').locals ≤ (rmd d).locals := by decide) (hW : (st.map fun v => v.category).sum ≤ 8 := by exact Nat.le_of_ble_eq_true rfl) : A l w y cc nL ret (rmd d) Φ pc ls (v2 :: v1 :: st) x 0 0 :=
  a_callSN [v1, v2] hdg hl hK rfl hR ⟨Nat.le_refl 0, Nat.le_refl 0⟩ hW hM (fun v z h => by obtain ⟨rfl, rfl⟩ := h; exact kk)
theorem c_N2V {y' : MethodName} {cc' : ByteArray} {nL' : Nat} {ret' : Option FieldType} {d' idx : Nat} {host : String} {x : XX} {v1 v2 : Value} {x' : XX} (hdg : decode cc pc = .ok (.invokestatic idx, 3)) (hl : Cond.methodLinkNest y.cls idx y' host ∈ NEST) (hK : KS y' cc' nL' ret' 2) (hM : Can l w y' cc' nL' ret' (rmd d') [v1, v2] x (RV x')) (kk : A l w y cc nL ret (rmd d) Φ (pc + 3) ls st x' 0 0) (hR : (rmd d').frames + 1 ≤ (rmd d).frames ∧ 8 + (nL' + 11) + (rmd d').locals ≤ (rmd d).locals := by decide) (hW : (st.map fun v => v.category).sum ≤ 8 := by exact Nat.le_of_ble_eq_true rfl) : A l w y cc nL ret (rmd d) Φ pc ls (v2 :: v1 :: st) x 0 0 :=
  a_callSN [v1, v2] hdg hl hK rfl hR ⟨Nat.le_refl 0, Nat.le_refl 0⟩ hW hM (fun v z h => by obtain ⟨rfl, rfl⟩ := h; exact kk)
theorem c_N2G {y' : MethodName} {cc' : ByteArray} {nL' : Nat} {ret' : Option FieldType} {d' idx : Nat} {host : String} {x : XX} {v1 v2 : Value} {Ψ : Option Value → XX → Prop} (hdg : decode cc pc = .ok (.invokestatic idx, 3)) (hl : Cond.methodLinkNest y.cls idx y' host ∈ NEST) (hK : KS y' cc' nL' ret' 2) (hM : Can l w y' cc' nL' ret' (rmd d') [v1, v2] x Ψ) (kk : ∀ v z, Ψ v z → A l w y cc nL ret (rmd d) Φ (pc + 3) ls (v.toList ++ st) z 0 0) (hR : (rmd d').frames + 1 ≤ (rmd d).frames ∧ 8 + (nL' + 11) + (rmd d').locals ≤ (rmd d).locals := by decide) (hW : (st.map fun v => v.category).sum ≤ 8 := by exact Nat.le_of_ble_eq_true rfl) : A l w y cc nL ret (rmd d) Φ pc ls (v2 :: v1 :: st) x 0 0 :=
  a_callSN [v1, v2] hdg hl hK rfl hR ⟨Nat.le_refl 0, Nat.le_refl 0⟩ hW hM kk
theorem c_N3I {y' : MethodName} {cc' : ByteArray} {nL' : Nat} {ret' : Option FieldType} {d' idx : Nat} {host : String} {x : XX} {v1 v2 v3 : Value} {r : Int32} {x' : XX} (hdg : decode cc pc = .ok (.invokestatic idx, 3)) (hl : Cond.methodLinkNest y.cls idx y' host ∈ NEST) (hK : KS y' cc' nL' ret' 3) (hM : Can l w y' cc' nL' ret' (rmd d') [v1, v2, v3] x (RI r x')) (kk : A l w y cc nL ret (rmd d) Φ (pc + 3) ls (.int r :: st) x' 0 0) (hR : (rmd d').frames + 1 ≤ (rmd d).frames ∧ 8 + (nL' + 11) + (rmd d').locals ≤ (rmd d).locals := by decide) (hW : (st.map fun v => v.category).sum ≤ 8 := by exact Nat.le_of_ble_eq_true rfl) : A l w y cc nL ret (rmd d) Φ pc ls (v3 :: v2 :: v1 :: st) x 0 0 :=
  a_callSN [v1, v2, v3] hdg hl hK rfl hR ⟨Nat.le_refl 0, Nat.le_refl 0⟩ hW hM (fun v z h => by obtain ⟨rfl, rfl⟩ := h; exact kk)
theorem c_N3V {y' : MethodName} {cc' : ByteArray} {nL' : Nat} {ret' : Option FieldType} {d' idx : Nat} {host : String} {x : XX} {v1 v2 v3 : Value} {x' : XX} (hdg : decode cc pc = .ok (.invokestatic idx, 3)) (hl : Cond.methodLinkNest y.cls idx y' host ∈ NEST) (hK : KS y' cc' nL' ret' 3) (hM : Can l w y' cc' nL' ret' (rmd d') [v1, v2, v3] x (RV x')) (kk : A l w y cc nL ret (rmd d) Φ (pc + 3) ls st x' 0 0) (hR : (rmd d').frames + 1 ≤ (rmd d).frames ∧ 8 + (nL' + 11) + (rmd d').locals ≤ (rmd d).locals := by decide) (hW : (st.map fun v => v.category).sum ≤ 8 := by exact Nat.le_of_ble_eq_true rfl) : A l w y cc nL ret (rmd d) Φ pc ls (v3 :: v2 :: v1 :: st) x 0 0 :=
  a_callSN [v1, v2, v3] hdg hl hK rfl hR ⟨Nat.le_refl 0, Nat.le_refl 0⟩ hW hM (fun v z h => by obtain ⟨rfl, rfl⟩ := h; exact kk)
theorem c_N3G {y' : MethodName} {cc' : ByteArray} {nL' : Nat} {ret' : Option FieldType} {d' idx : Nat} {host : String} {x : XX} {v1 v2 v3 : Value} {Ψ : Option Value → XX → Prop} (hdg : decode cc pc = .ok (.invokestatic idx, 3)) (hl : Cond.methodLinkNest y.cls idx y' host ∈ NEST) (hK : KS y' cc' nL' ret' 3) (hM : Can l w y' cc' nL' ret' (rmd d') [v1, v2, v3] x Ψ) (kk : ∀ v z, Ψ v z → A l w y cc nL ret (rmd d) Φ (pc + 3) ls (v.toList ++ st) z 0 0) (hR : (rmd d').frames + 1 ≤ (rmd d).frames ∧ 8 + (nL' + 11) + (rmd d').locals ≤ (rmd d).locals := by decide) (hW : (st.map fun v => v.category).sum ≤ 8 := by exact Nat.le_of_ble_eq_true rfl) : A l w y cc nL ret (rmd d) Φ pc ls (v3 :: v2 :: v1 :: st) x 0 0 :=
  a_callSN [v1, v2, v3] hdg hl hK rfl hR ⟨Nat.le_refl 0, Nat.le_refl 0⟩ hW hM kk
theorem c_N4I {y' : MethodName} {cc' : ByteArray} {nL' : Nat} {ret' : Option FieldType} {d' idx : Nat} {host : String} {x : XX} {v1 v2 v3 v4 : Value} {r : Int32} {x' : XX} (hdg : decode cc pc = .ok (.invokestatic idx, 3)) (hl : Cond.methodLinkNest y.cls idx y' host ∈ NEST) (hK : KS y' cc' nL' ret' 4) (hM : Can l w y' cc' nL' ret' (rmd d') [v1, v2, v3, v4] x (RI r x')) (kk : A l w y cc nL ret (rmd d) Φ (pc + 3) ls (.int r :: st) x' 0 0) (hR : (rmd d').frames + 1 ≤ (rmd d).frames ∧ 8 + (nL' + 11) + (rmd d').locals ≤ (rmd d).locals := by decide) (hW : (st.map fun v => v.category).sum ≤ 8 := by exact Nat.le_of_ble_eq_true rfl) : A l w y cc nL ret (rmd d) Φ pc ls (v4 :: v3 :: v2 :: v1 :: st) x 0 0 :=
  a_callSN [v1, v2, v3, v4] hdg hl hK rfl hR ⟨Nat.le_refl 0, Nat.le_refl 0⟩ hW hM (fun v z h => by obtain ⟨rfl, rfl⟩ := h; exact kk)
theorem c_N4V {y' : MethodName} {cc' : ByteArray} {nL' : Nat} {ret' : Option FieldType} {d' idx : Nat} {host : String} {x : XX} {v1 v2 v3 v4 : Value} {x' : XX} (hdg : decode cc pc = .ok (.invokestatic idx, 3)) (hl : Cond.methodLinkNest y.cls idx y' host ∈ NEST) (hK : KS y' cc' nL' ret' 4) (hM : Can l w y' cc' nL' ret' (rmd d') [v1, v2, v3, v4] x (RV x')) (kk : A l w y cc nL ret (rmd d) Φ (pc + 3) ls st x' 0 0) (hR : (rmd d').frames + 1 ≤ (rmd d).frames ∧ 8 + (nL' + 11) + (rmd d').locals ≤ (rmd d).locals := by decide) (hW : (st.map fun v => v.category).sum ≤ 8 := by exact Nat.le_of_ble_eq_true rfl) : A l w y cc nL ret (rmd d) Φ pc ls (v4 :: v3 :: v2 :: v1 :: st) x 0 0 :=
  a_callSN [v1, v2, v3, v4] hdg hl hK rfl hR ⟨Nat.le_refl 0, Nat.le_refl 0⟩ hW hM (fun v z h => by obtain ⟨rfl, rfl⟩ := h; exact kk)
theorem c_N4G {y' : MethodName} {cc' : ByteArray} {nL' : Nat} {ret' : Option FieldType} {d' idx : Nat} {host : String} {x : XX} {v1 v2 v3 v4 : Value} {Ψ : Option Value → XX → Prop} (hdg : decode cc pc = .ok (.invokestatic idx, 3)) (hl : Cond.methodLinkNest y.cls idx y' host ∈ NEST) (hK : KS y' cc' nL' ret' 4) (hM : Can l w y' cc' nL' ret' (rmd d') [v1, v2, v3, v4] x Ψ) (kk : ∀ v z, Ψ v z → A l w y cc nL ret (rmd d) Φ (pc + 3) ls (v.toList ++ st) z 0 0) (hR : (rmd d').frames + 1 ≤ (rmd d).frames ∧ 8 + (nL' + 11) + (rmd d').locals ≤ (rmd d).locals := by decide) (hW : (st.map fun v => v.category).sum ≤ 8 := by exact Nat.le_of_ble_eq_true rfl) : A l w y cc nL ret (rmd d) Φ pc ls (v4 :: v3 :: v2 :: v1 :: st) x 0 0 :=
  a_callSN [v1, v2, v3, v4] hdg hl hK rfl hR ⟨Nat.le_refl 0, Nat.le_refl 0⟩ hW hM kk
end AR
end
section
theorem nw_77 : Cond.methodLinkNest RX7 9 yX5_init "GatedTrunk" ∈ NEST := List.mem_filter.mpr ⟨List.mem_of_getElem? (i := 77) (by decide +kernel), rfl⟩
theorem nw_132 : Cond.methodLinkNest RX6 35 yX0_init "GatedTrunk" ∈ NEST := List.mem_filter.mpr ⟨List.mem_of_getElem? (i := 132) (by decide +kernel), rfl⟩
theorem nw_160 : Cond.methodLinkNest RX6 44 yX1_init "GatedTrunk" ∈ NEST := List.mem_filter.mpr ⟨List.mem_of_getElem? (i := 160) (by decide +kernel), rfl⟩
theorem nw_224 : Cond.methodLinkNest RX7 47 yX2_init "GatedTrunk" ∈ NEST := List.mem_filter.mpr ⟨List.mem_of_getElem? (i := 224) (by decide +kernel), rfl⟩
theorem nw_274 : Cond.methodLinkNest RX6 45 yX7_copyNumbers "GatedTrunk" ∈ NEST := List.mem_filter.mpr ⟨List.mem_of_getElem? (i := 274) (by decide +kernel), rfl⟩
theorem nw_284 : Cond.methodLinkNest RX1 18 yX7_copyNumbers "GatedTrunk" ∈ NEST := List.mem_filter.mpr ⟨List.mem_of_getElem? (i := 284) (by decide +kernel), rfl⟩
theorem nw_289 : Cond.methodLinkNest RX4 15 yX7_copyNumbers "GatedTrunk" ∈ NEST := List.mem_filter.mpr ⟨List.mem_of_getElem? (i := 289) (by decide +kernel), rfl⟩
theorem nw_294 : Cond.methodLinkNest RX0 24 yX7_copyNumbers "GatedTrunk" ∈ NEST := List.mem_filter.mpr ⟨List.mem_of_getElem? (i := 294) (by decide +kernel), rfl⟩
theorem nw_367 : Cond.methodLinkNest RX0 42 yX7_isWorker "GatedTrunk" ∈ NEST := List.mem_filter.mpr ⟨List.mem_of_getElem? (i := 367) (by decide +kernel), rfl⟩
theorem nw_550 : Cond.methodLinkNest RX6 98 yX7_isWorker "GatedTrunk" ∈ NEST := List.mem_filter.mpr ⟨List.mem_of_getElem? (i := 550) (by decide +kernel), rfl⟩
theorem ki_X0_init : KI yX0_init cX0_init 1 0 := ⟨rfl, kw_71, kw_61, kw_72, ⟨by decide +kernel, by decide +kernel, by decide +kernel⟩⟩
theorem kv_X0_copyFrom : KV yX0_copyFrom cX0_copyFrom 2 none 1 := ⟨kw_170, kw_171, kw_61, kw_172, ⟨by decide +kernel, by decide +kernel, by decide +kernel⟩⟩
theorem kv_X0_isUnderTest : KV yX0_isUnderTest cX0_isUnderTest 1 (some .boolean) 0 := ⟨kw_339, kw_340, kw_61, kw_341, ⟨by decide +kernel, by decide +kernel, by decide +kernel⟩⟩
theorem kv_X0_pipeline : KV yX0_pipeline cX0_pipeline 1 (some .int) 0 := ⟨kw_233, kw_234, kw_61, kw_235, ⟨by decide +kernel, by decide +kernel, by decide +kernel⟩⟩
theorem kv_X0_start : KV yX0_start cX0_start 3 none 1 := ⟨kw_367, kw_368, kw_61, kw_369, ⟨by decide +kernel, by decide +kernel, by decide +kernel⟩⟩
theorem kv_X0_end : KV yX0_end cX0_end 2 none 0 := ⟨kw_287, kw_288, kw_61, kw_289, ⟨by decide +kernel, by decide +kernel, by decide +kernel⟩⟩
theorem kv_X0_leasedJob : KV yX0_leasedJob cX0_leasedJob 3 (some .int) 1 := ⟨kw_249, kw_250, kw_61, kw_251, ⟨by decide +kernel, by decide +kernel, by decide +kernel⟩⟩
theorem kv_X0_nextJob : KV yX0_nextJob cX0_nextJob 2 (some .int) 0 := ⟨kw_229, kw_230, kw_61, kw_231, ⟨by decide +kernel, by decide +kernel, by decide +kernel⟩⟩
theorem kv_X0_lease : KV yX0_lease cX0_lease 4 none 3 := ⟨kw_245, kw_246, kw_61, kw_247, ⟨by decide +kernel, by decide +kernel, by decide +kernel⟩⟩
theorem kv_X0_expireLease : KV yX0_expireLease cX0_expireLease 3 none 2 := ⟨kw_328, kw_329, kw_61, kw_330, ⟨by decide +kernel, by decide +kernel, by decide +kernel⟩⟩
theorem kv_X0_failJob : KV yX0_failJob cX0_failJob 4 none 1 := ⟨kw_260, kw_261, kw_61, kw_262, ⟨by decide +kernel, by decide +kernel, by decide +kernel⟩⟩
theorem kv_X0_firstFailedRequired : KV yX0_firstFailedRequired cX0_firstFailedRequired 2 (some .int) 0 := ⟨kw_276, kw_277, kw_61, kw_278, ⟨by decide +kernel, by decide +kernel, by decide +kernel⟩⟩
theorem kv_X0_hasPassedRequired : KV yX0_hasPassedRequired cX0_hasPassedRequired 2 (some .boolean) 0 := ⟨kw_313, kw_314, kw_61, kw_315, ⟨by decide +kernel, by decide +kernel, by decide +kernel⟩⟩
theorem kv_X0_passedJobs : KV yX0_passedJobs cX0_passedJobs 3 (some .int) 0 := ⟨kw_241, kw_242, kw_61, kw_243, ⟨by decide +kernel, by decide +kernel, by decide +kernel⟩⟩
theorem ki_X1_init : KI yX1_init cX1_init 1 0 := ⟨rfl, kw_78, kw_65, kw_79, ⟨by decide +kernel, by decide +kernel, by decide +kernel⟩⟩
theorem kv_X1_copyFrom : KV yX1_copyFrom cX1_copyFrom 2 none 1 := ⟨kw_157, kw_158, kw_65, kw_159, ⟨by decide +kernel, by decide +kernel, by decide +kernel⟩⟩
theorem kv_X1_startFrom : KV yX1_startFrom cX1_startFrom 2 none 1 := ⟨kw_187, kw_188, kw_65, kw_189, ⟨by decide +kernel, by decide +kernel, by decide +kernel⟩⟩
theorem kv_X1_become : KV yX1_become cX1_become 3 none 2 := ⟨kw_191, kw_192, kw_65, kw_193, ⟨by decide +kernel, by decide +kernel, by decide +kernel⟩⟩
theorem kv_X1_setContent : KV yX1_setContent cX1_setContent 3 none 2 := ⟨kw_199, kw_200, kw_65, kw_201, ⟨by decide +kernel, by decide +kernel, by decide +kernel⟩⟩
theorem kv_X1_dropReviews : KV yX1_dropReviews cX1_dropReviews 1 none 0 := ⟨kw_195, kw_196, kw_65, kw_197, ⟨by decide +kernel, by decide +kernel, by decide +kernel⟩⟩
theorem kv_X1_addSupporter : KV yX1_addSupporter cX1_addSupporter 2 none 1 := ⟨kw_203, kw_204, kw_65, kw_205, ⟨by decide +kernel, by decide +kernel, by decide +kernel⟩⟩
theorem kv_X1_addOpponent : KV yX1_addOpponent cX1_addOpponent 2 none 1 := ⟨kw_207, kw_208, kw_65, kw_209, ⟨by decide +kernel, by decide +kernel, by decide +kernel⟩⟩
theorem kv_X1_countFor : KV yX1_countFor cX1_countFor 1 (some .int) 0 := ⟨kw_591, kw_592, kw_65, kw_593, ⟨by decide +kernel, by decide +kernel, by decide +kernel⟩⟩
theorem kv_X1_countAgainst : KV yX1_countAgainst cX1_countAgainst 1 (some .int) 0 := ⟨kw_602, kw_603, kw_65, kw_604, ⟨by decide +kernel, by decide +kernel, by decide +kernel⟩⟩
theorem kv_X1_conflictsWith : KV yX1_conflictsWith cX1_conflictsWith 4 (some .boolean) 1 := ⟨kw_353, kw_354, kw_65, kw_355, ⟨by decide +kernel, by decide +kernel, by decide +kernel⟩⟩
theorem kv_X1_mergeInto : KV yX1_mergeInto cX1_mergeInto 3 none 1 := ⟨kw_357, kw_358, kw_65, kw_359, ⟨by decide +kernel, by decide +kernel, by decide +kernel⟩⟩
theorem kv_X1_moveOnto : KV yX1_moveOnto cX1_moveOnto 3 none 1 := ⟨kw_220, kw_221, kw_65, kw_222, ⟨by decide +kernel, by decide +kernel, by decide +kernel⟩⟩
theorem ki_X2_init : KI yX2_init cX2_init 1 0 := ⟨rfl, kw_83, kw_31, kw_84, ⟨by decide +kernel, by decide +kernel, by decide +kernel⟩⟩
theorem ks_X3_isThere : KS yX3_isThere cX3_isThere 2 (some .boolean) 2 := ⟨kw_267, kw_238, kw_268, ⟨by decide +kernel, by decide +kernel, by decide +kernel⟩⟩
theorem ks_X3_isRequired : KS yX3_isRequired cX3_isRequired 2 (some .boolean) 2 := ⟨kw_280, kw_238, kw_281, ⟨by decide +kernel, by decide +kernel, by decide +kernel⟩⟩
theorem ks_X3_needsOf : KS yX3_needsOf cX3_needsOf 2 (some .int) 2 := ⟨kw_237, kw_238, kw_239, ⟨by decide +kernel, by decide +kernel, by decide +kernel⟩⟩
theorem ks_X3_allThatNeed : KS yX3_allThatNeed cX3_allThatNeed 5 (some .int) 2 := ⟨kw_264, kw_238, kw_265, ⟨by decide +kernel, by decide +kernel, by decide +kernel⟩⟩
theorem ks_X3_isValid : KS yX3_isValid cX3_isValid 6 (some .boolean) 1 := ⟨kw_362, kw_238, kw_363, ⟨by decide +kernel, by decide +kernel, by decide +kernel⟩⟩
theorem ki_X4_init : KI yX4_init cX4_init 2 1 := ⟨rfl, kw_67, kw_56, kw_68, ⟨by decide +kernel, by decide +kernel, by decide +kernel⟩⟩
theorem kv_X4_copyFrom : KV yX4_copyFrom cX4_copyFrom 2 none 1 := ⟨kw_165, kw_166, kw_56, kw_167, ⟨by decide +kernel, by decide +kernel, by decide +kernel⟩⟩
theorem kv_X4_at : KV yX4_at cX4_at 2 (some .int) 1 := ⟨kw_295, kw_296, kw_56, kw_297, ⟨by decide +kernel, by decide +kernel, by decide +kernel⟩⟩
theorem kv_X4_insert : KV yX4_insert cX4_insert 4 none 2 := ⟨kw_216, kw_217, kw_56, kw_218, ⟨by decide +kernel, by decide +kernel, by decide +kernel⟩⟩
theorem kv_X4_append : KV yX4_append cX4_append 2 none 1 := ⟨kw_212, kw_213, kw_56, kw_214, ⟨by decide +kernel, by decide +kernel, by decide +kernel⟩⟩
theorem kv_X4_removeAt : KV yX4_removeAt cX4_removeAt 3 none 1 := ⟨kw_303, kw_304, kw_56, kw_305, ⟨by decide +kernel, by decide +kernel, by decide +kernel⟩⟩
theorem kv_X4_replaceFirst : KV yX4_replaceFirst cX4_replaceFirst 2 none 1 := ⟨kw_307, kw_308, kw_56, kw_309, ⟨by decide +kernel, by decide +kernel, by decide +kernel⟩⟩
theorem ki_X5_init : KI yX5_init cX5_init 1 0 := ⟨rfl, kw_33, kw_18, kw_34, ⟨by decide +kernel, by decide +kernel, by decide +kernel⟩⟩
theorem ki_X6_init : KI yX6_init cX6_init 3 1 := ⟨rfl, kw_47, kw_25, kw_48, ⟨by decide +kernel, by decide +kernel, by decide +kernel⟩⟩
theorem kv_X6_copyFrom : KV yX6_copyFrom cX6_copyFrom 3 none 1 := ⟨kw_144, kw_145, kw_25, kw_146, ⟨by decide +kernel, by decide +kernel, by decide +kernel⟩⟩
theorem kv_X6_isChange : KV yX6_isChange cX6_isChange 2 (some .boolean) 1 := ⟨kw_299, kw_300, kw_25, kw_301, ⟨by decide +kernel, by decide +kernel, by decide +kernel⟩⟩
theorem kv_X6_isOpen : KV yX6_isOpen cX6_isOpen 2 (some .boolean) 1 := ⟨kw_538, kw_539, kw_25, kw_540, ⟨by decide +kernel, by decide +kernel, by decide +kernel⟩⟩
theorem kv_X6_isOpenOrRejected : KV yX6_isOpenOrRejected cX6_isOpenOrRejected 2 (some .boolean) 1 := ⟨kw_573, kw_574, kw_25, kw_575, ⟨by decide +kernel, by decide +kernel, by decide +kernel⟩⟩
theorem kv_X6_mayBeQueued : KV yX6_mayBeQueued cX6_mayBeQueued 2 (some .boolean) 1 := ⟨kw_586, kw_587, kw_25, kw_588, ⟨by decide +kernel, by decide +kernel, by decide +kernel⟩⟩
theorem kv_X6_mayBeRebased : KV yX6_mayBeRebased cX6_mayBeRebased 2 (some .boolean) 1 := ⟨kw_614, kw_615, kw_25, kw_616, ⟨by decide +kernel, by decide +kernel, by decide +kernel⟩⟩
theorem kv_X6_jobToLease : KV yX6_jobToLease cX6_jobToLease 2 (some .int) 1 := ⟨kw_627, kw_628, kw_25, kw_629, ⟨by decide +kernel, by decide +kernel, by decide +kernel⟩⟩
theorem kv_X6_carryOut : KV yX6_carryOut cX6_carryOut 4 (some .int) 1 := ⟨kw_175, kw_176, kw_25, kw_177, ⟨by decide +kernel, by decide +kernel, by decide +kernel⟩⟩
theorem kv_X6_addChange : KV yX6_addChange cX6_addChange 2 (some .int) 0 := ⟨kw_183, kw_184, kw_25, kw_185, ⟨by decide +kernel, by decide +kernel, by decide +kernel⟩⟩
theorem kv_X6_leaseNextJob : KV yX6_leaseNextJob cX6_leaseNextJob 3 (some .int) 1 := ⟨kw_224, kw_225, kw_25, kw_226, ⟨by decide +kernel, by decide +kernel, by decide +kernel⟩⟩
theorem kv_X6_recover : KV yX6_recover cX6_recover 1 none 0 := ⟨kw_665, kw_666, kw_25, kw_667, ⟨by decide +kernel, by decide +kernel, by decide +kernel⟩⟩
theorem kv_X6_expireLeases : KV yX6_expireLeases cX6_expireLeases 5 (some .int) 1 := ⟨kw_322, kw_323, kw_25, kw_324, ⟨by decide +kernel, by decide +kernel, by decide +kernel⟩⟩
theorem kv_X6_endJob : KV yX6_endJob cX6_endJob 3 none 2 := ⟨kw_255, kw_256, kw_25, kw_257, ⟨by decide +kernel, by decide +kernel, by decide +kernel⟩⟩
theorem kv_X6_judgeBatch : KV yX6_judgeBatch cX6_judgeBatch 2 none 0 := ⟨kw_271, kw_272, kw_25, kw_273, ⟨by decide +kernel, by decide +kernel, by decide +kernel⟩⟩
theorem kv_X6_passBatch : KV yX6_passBatch cX6_passBatch 2 none 0 := ⟨kw_317, kw_318, kw_25, kw_319, ⟨by decide +kernel, by decide +kernel, by decide +kernel⟩⟩
theorem kv_X6_failBatch : KV yX6_failBatch cX6_failBatch 3 none 2 := ⟨kw_283, kw_284, kw_25, kw_285, ⟨by decide +kernel, by decide +kernel, by decide +kernel⟩⟩
theorem kv_X6_takeFromQueue : KV yX6_takeFromQueue cX6_takeFromQueue 5 none 3 := ⟨kw_291, kw_292, kw_25, kw_293, ⟨by decide +kernel, by decide +kernel, by decide +kernel⟩⟩
theorem kv_X6_buildBatches : KV yX6_buildBatches cX6_buildBatches 2 none 0 := ⟨kw_333, kw_334, kw_25, kw_335, ⟨by decide +kernel, by decide +kernel, by decide +kernel⟩⟩
theorem kv_X6_buildBatch : KV yX6_buildBatch cX6_buildBatch 2 none 0 := ⟨kw_343, kw_344, kw_25, kw_345, ⟨by decide +kernel, by decide +kernel, by decide +kernel⟩⟩
theorem kv_X6_mergeFirst : KV yX6_mergeFirst cX6_mergeFirst 5 (some .int) 1 := ⟨kw_349, kw_350, kw_25, kw_351, ⟨by decide +kernel, by decide +kernel, by decide +kernel⟩⟩
theorem ki_X7_init : KI yX7_init cX7_init 7 4 := ⟨rfl, kw_11, kw_2, kw_12, ⟨by decide +kernel, by decide +kernel, by decide +kernel⟩⟩
theorem kv_X7_open : KV yX7_open cX7_open 1 (some .int) 0 := ⟨kw_127, kw_128, kw_2, kw_129, ⟨by decide +kernel, by decide +kernel, by decide +kernel⟩⟩
theorem kv_X7_push : KV yX7_push cX7_push 4 (some .boolean) 3 := ⟨kw_534, kw_535, kw_2, kw_536, ⟨by decide +kernel, by decide +kernel, by decide +kernel⟩⟩
theorem kv_X7_approve : KV yX7_approve cX7_approve 3 (some .boolean) 2 := ⟨kw_550, kw_551, kw_2, kw_552, ⟨by decide +kernel, by decide +kernel, by decide +kernel⟩⟩
theorem kv_X7_object : KV yX7_object cX7_object 3 (some .boolean) 2 := ⟨kw_561, kw_562, kw_2, kw_563, ⟨by decide +kernel, by decide +kernel, by decide +kernel⟩⟩
theorem kv_X7_close : KV yX7_close cX7_close 2 (some .boolean) 1 := ⟨kw_569, kw_570, kw_2, kw_571, ⟨by decide +kernel, by decide +kernel, by decide +kernel⟩⟩
theorem kv_X7_enqueue : KV yX7_enqueue cX7_enqueue 2 (some .boolean) 1 := ⟨kw_582, kw_583, kw_2, kw_584, ⟨by decide +kernel, by decide +kernel, by decide +kernel⟩⟩
theorem kv_X7_rebase : KV yX7_rebase cX7_rebase 2 (some .boolean) 1 := ⟨kw_610, kw_611, kw_2, kw_612, ⟨by decide +kernel, by decide +kernel, by decide +kernel⟩⟩
theorem kv_X7_claim : KV yX7_claim cX7_claim 2 (some .int) 1 := ⟨kw_623, kw_624, kw_2, kw_625, ⟨by decide +kernel, by decide +kernel, by decide +kernel⟩⟩
theorem kv_X7_report : KV yX7_report cX7_report 3 (some .boolean) 2 := ⟨kw_635, kw_636, kw_2, kw_637, ⟨by decide +kernel, by decide +kernel, by decide +kernel⟩⟩
theorem kv_X7_tick : KV yX7_tick cX7_tick 2 (some .int) 1 := ⟨kw_645, kw_646, kw_2, kw_647, ⟨by decide +kernel, by decide +kernel, by decide +kernel⟩⟩
theorem kv_X7_flush : KV yX7_flush cX7_flush 2 (some .int) 0 := ⟨kw_653, kw_654, kw_2, kw_655, ⟨by decide +kernel, by decide +kernel, by decide +kernel⟩⟩
theorem kv_X7_crash : KV yX7_crash cX7_crash 5 (some .int) 1 := ⟨kw_661, kw_662, kw_2, kw_663, ⟨by decide +kernel, by decide +kernel, by decide +kernel⟩⟩
theorem kv_X7_state : KV yX7_state cX7_state 2 (some .int) 1 := ⟨kw_673, kw_674, kw_2, kw_675, ⟨by decide +kernel, by decide +kernel, by decide +kernel⟩⟩
theorem kv_X7_cause : KV yX7_cause cX7_cause 2 (some .int) 1 := ⟨kw_684, kw_685, kw_2, kw_686, ⟨by decide +kernel, by decide +kernel, by decide +kernel⟩⟩
theorem kv_X7_standing : KV yX7_standing cX7_standing 2 (some .int) 1 := ⟨kw_693, kw_694, kw_2, kw_695, ⟨by decide +kernel, by decide +kernel, by decide +kernel⟩⟩
theorem kv_X7_file : KV yX7_file cX7_file 3 (some .int) 2 := ⟨kw_703, kw_704, kw_2, kw_705, ⟨by decide +kernel, by decide +kernel, by decide +kernel⟩⟩
theorem kv_X7_queueAt : KV yX7_queueAt cX7_queueAt 2 (some .int) 1 := ⟨kw_715, kw_716, kw_2, kw_717, ⟨by decide +kernel, by decide +kernel, by decide +kernel⟩⟩
theorem kv_X7_batch : KV yX7_batch cX7_batch 1 (some .int) 0 := ⟨kw_725, kw_726, kw_2, kw_727, ⟨by decide +kernel, by decide +kernel, by decide +kernel⟩⟩
theorem kv_X7_job : KV yX7_job cX7_job 2 (some .int) 1 := ⟨kw_734, kw_735, kw_2, kw_736, ⟨by decide +kernel, by decide +kernel, by decide +kernel⟩⟩
theorem kv_X7_version : KV yX7_version cX7_version 1 (some .int) 0 := ⟨kw_743, kw_744, kw_2, kw_745, ⟨by decide +kernel, by decide +kernel, by decide +kernel⟩⟩
theorem kv_X7_logged : KV yX7_logged cX7_logged 6 (some (.object "GatedTrunk$Event")) 4 := ⟨kw_132, kw_133, kw_2, kw_134, ⟨by decide +kernel, by decide +kernel, by decide +kernel⟩⟩
theorem kv_X7_keepLiveState : KV yX7_keepLiveState cX7_keepLiveState 1 none 0 := ⟨kw_140, kw_141, kw_2, kw_142, ⟨by decide +kernel, by decide +kernel, by decide +kernel⟩⟩
theorem ks_X7_clamped : KS yX7_clamped cX7_clamped 3 (some .int) 3 := ⟨kw_37, kw_2, kw_38, ⟨by decide +kernel, by decide +kernel, by decide +kernel⟩⟩
theorem ks_X7_isPath : KS yX7_isPath cX7_isPath 1 (some .boolean) 1 := ⟨kw_543, kw_2, kw_544, ⟨by decide +kernel, by decide +kernel, by decide +kernel⟩⟩
theorem ks_X7_isReviewer : KS yX7_isReviewer cX7_isReviewer 1 (some .boolean) 1 := ⟨kw_554, kw_2, kw_555, ⟨by decide +kernel, by decide +kernel, by decide +kernel⟩⟩
theorem ks_X7_isWorker : KS yX7_isWorker cX7_isWorker 1 (some .boolean) 1 := ⟨kw_252, kw_2, kw_253, ⟨by decide +kernel, by decide +kernel, by decide +kernel⟩⟩
theorem ks_X7_copyNumbers : KS yX7_copyNumbers cX7_copyNumbers 2 none 2 := ⟨kw_150, kw_2, kw_151, ⟨by decide +kernel, by decide +kernel, by decide +kernel⟩⟩
theorem ki_X8_init : KI yX8_init cX8_init 5 4 := ⟨rfl, kw_87, kw_5, kw_88, ⟨by decide +kernel, by decide +kernel, by decide +kernel⟩⟩
theorem ks_X8_within : KS yX8_within cX8_within 3 (some .int) 3 := ⟨kw_114, kw_5, kw_115, ⟨by decide +kernel, by decide +kernel, by decide +kernel⟩⟩
theorem kv_X8_begin : KV yX8_begin cX8_begin 2 none 0 := ⟨kw_117, kw_118, kw_5, kw_119, ⟨by decide +kernel, by decide +kernel, by decide +kernel⟩⟩
theorem kv_X8_conflicts : KV yX8_conflicts cX8_conflicts 5 (some .boolean) 1 := ⟨kw_430, kw_431, kw_5, kw_432, ⟨by decide +kernel, by decide +kernel, by decide +kernel⟩⟩
theorem kv_X8_startTree : KV yX8_startTree cX8_startTree 2 none 0 := ⟨kw_426, kw_427, kw_5, kw_428, ⟨by decide +kernel, by decide +kernel, by decide +kernel⟩⟩
theorem kv_X8_batchTree : KV yX8_batchTree cX8_batchTree 2 none 0 := ⟨kw_442, kw_443, kw_5, kw_444, ⟨by decide +kernel, by decide +kernel, by decide +kernel⟩⟩
theorem kv_X8_bit : KV yX8_bit cX8_bit 2 (some .boolean) 1 := ⟨kw_450, kw_451, kw_5, kw_452, ⟨by decide +kernel, by decide +kernel, by decide +kernel⟩⟩
theorem kv_X8_there : KV yX8_there cX8_there 2 (some .boolean) 1 := ⟨kw_522, kw_523, kw_5, kw_524, ⟨by decide +kernel, by decide +kernel, by decide +kernel⟩⟩
theorem kv_X8_required : KV yX8_required cX8_required 2 (some .boolean) 1 := ⟨kw_474, kw_475, kw_5, kw_476, ⟨by decide +kernel, by decide +kernel, by decide +kernel⟩⟩
theorem kv_X8_needs : KV yX8_needs cX8_needs 3 (some .boolean) 2 := ⟨kw_446, kw_447, kw_5, kw_448, ⟨by decide +kernel, by decide +kernel, by decide +kernel⟩⟩
theorem kv_X8_close4 : KV yX8_close4 cX8_close4 3 none 0 := ⟨kw_462, kw_463, kw_5, kw_464, ⟨by decide +kernel, by decide +kernel, by decide +kernel⟩⟩
theorem kv_X8_valid : KV yX8_valid cX8_valid 5 (some .boolean) 0 := ⟨kw_518, kw_519, kw_5, kw_520, ⟨by decide +kernel, by decide +kernel, by decide +kernel⟩⟩
theorem kv_X8_leaveQueue : KV yX8_leaveQueue cX8_leaveQueue 3 none 1 := ⟨kw_490, kw_491, kw_5, kw_492, ⟨by decide +kernel, by decide +kernel, by decide +kernel⟩⟩
theorem kv_X8_reject : KV yX8_reject cX8_reject 3 none 2 := ⟨kw_486, kw_487, kw_5, kw_488, ⟨by decide +kernel, by decide +kernel, by decide +kernel⟩⟩
theorem kv_X8_dropPlan : KV yX8_dropPlan cX8_dropPlan 2 none 0 := ⟨kw_494, kw_495, kw_5, kw_496, ⟨by decide +kernel, by decide +kernel, by decide +kernel⟩⟩
theorem kv_X8_endLeases : KV yX8_endLeases cX8_endLeases 2 none 0 := ⟨kw_482, kw_483, kw_5, kw_484, ⟨by decide +kernel, by decide +kernel, by decide +kernel⟩⟩
theorem kv_X8_batchFails : KV yX8_batchFails cX8_batchFails 4 none 1 := ⟨kw_478, kw_479, kw_5, kw_480, ⟨by decide +kernel, by decide +kernel, by decide +kernel⟩⟩
theorem kv_X8_batchPasses : KV yX8_batchPasses cX8_batchPasses 2 none 0 := ⟨kw_498, kw_499, kw_5, kw_500, ⟨by decide +kernel, by decide +kernel, by decide +kernel⟩⟩
theorem kv_X8_build : KV yX8_build cX8_build 5 none 0 := ⟨kw_514, kw_515, kw_5, kw_516, ⟨by decide +kernel, by decide +kernel, by decide +kernel⟩⟩
theorem kv_X8_buildAll : KV yX8_buildAll cX8_buildAll 2 none 0 := ⟨kw_510, kw_511, kw_5, kw_512, ⟨by decide +kernel, by decide +kernel, by decide +kernel⟩⟩
theorem kv_X8_judge : KV yX8_judge cX8_judge 4 none 0 := ⟨kw_470, kw_471, kw_5, kw_472, ⟨by decide +kernel, by decide +kernel, by decide +kernel⟩⟩
theorem kv_X8_endLeaseOn : KV yX8_endLeaseOn cX8_endLeaseOn 3 none 1 := ⟨kw_466, kw_467, kw_5, kw_468, ⟨by decide +kernel, by decide +kernel, by decide +kernel⟩⟩
theorem kv_X8_settle : KV yX8_settle cX8_settle 4 none 2 := ⟨kw_458, kw_459, kw_5, kw_460, ⟨by decide +kernel, by decide +kernel, by decide +kernel⟩⟩
theorem kv_X8_expire : KV yX8_expire cX8_expire 3 none 1 := ⟨kw_506, kw_507, kw_5, kw_508, ⟨by decide +kernel, by decide +kernel, by decide +kernel⟩⟩
theorem kv_X8_isChange : KV yX8_isChange cX8_isChange 2 (some .boolean) 1 := ⟨kw_402, kw_403, kw_5, kw_404, ⟨by decide +kernel, by decide +kernel, by decide +kernel⟩⟩
theorem kv_X8_is : KV yX8_is cX8_is 3 (some .boolean) 2 := ⟨kw_398, kw_399, kw_5, kw_400, ⟨by decide +kernel, by decide +kernel, by decide +kernel⟩⟩
theorem kv_X8_noReviews : KV yX8_noReviews cX8_noReviews 3 none 1 := ⟨kw_390, kw_391, kw_5, kw_392, ⟨by decide +kernel, by decide +kernel, by decide +kernel⟩⟩
theorem kv_X8_doOpen : KV yX8_doOpen cX8_doOpen 2 (some .int) 0 := ⟨kw_386, kw_387, kw_5, kw_388, ⟨by decide +kernel, by decide +kernel, by decide +kernel⟩⟩
theorem kv_X8_doPush : KV yX8_doPush cX8_doPush 4 (some .int) 3 := ⟨kw_394, kw_395, kw_5, kw_396, ⟨by decide +kernel, by decide +kernel, by decide +kernel⟩⟩
theorem kv_X8_doReview : KV yX8_doReview cX8_doReview 4 (some .int) 3 := ⟨kw_406, kw_407, kw_5, kw_408, ⟨by decide +kernel, by decide +kernel, by decide +kernel⟩⟩
theorem kv_X8_doClose : KV yX8_doClose cX8_doClose 2 (some .int) 1 := ⟨kw_410, kw_411, kw_5, kw_412, ⟨by decide +kernel, by decide +kernel, by decide +kernel⟩⟩
theorem kv_X8_count : KV yX8_count cX8_count 5 (some .int) 2 := ⟨kw_418, kw_419, kw_5, kw_420, ⟨by decide +kernel, by decide +kernel, by decide +kernel⟩⟩
theorem kv_X8_doEnqueue : KV yX8_doEnqueue cX8_doEnqueue 2 (some .int) 1 := ⟨kw_414, kw_415, kw_5, kw_416, ⟨by decide +kernel, by decide +kernel, by decide +kernel⟩⟩
theorem kv_X8_doRebase : KV yX8_doRebase cX8_doRebase 3 (some .int) 1 := ⟨kw_422, kw_423, kw_5, kw_424, ⟨by decide +kernel, by decide +kernel, by decide +kernel⟩⟩
theorem kv_X8_isWorker : KV yX8_isWorker cX8_isWorker 2 (some .boolean) 1 := ⟨kw_438, kw_439, kw_5, kw_440, ⟨by decide +kernel, by decide +kernel, by decide +kernel⟩⟩
theorem kv_X8_doClaim : KV yX8_doClaim cX8_doClaim 5 (some .int) 1 := ⟨kw_434, kw_435, kw_5, kw_436, ⟨by decide +kernel, by decide +kernel, by decide +kernel⟩⟩
theorem kv_X8_doReport : KV yX8_doReport cX8_doReport 4 (some .int) 2 := ⟨kw_454, kw_455, kw_5, kw_456, ⟨by decide +kernel, by decide +kernel, by decide +kernel⟩⟩
theorem kv_X8_doTick : KV yX8_doTick cX8_doTick 5 (some .int) 1 := ⟨kw_502, kw_503, kw_5, kw_504, ⟨by decide +kernel, by decide +kernel, by decide +kernel⟩⟩
theorem kv_X8_expireAll : KV yX8_expireAll cX8_expireAll 2 none 0 := ⟨kw_526, kw_527, kw_5, kw_528, ⟨by decide +kernel, by decide +kernel, by decide +kernel⟩⟩
theorem kv_X8_once : KV yX8_once cX8_once 5 (some .int) 4 := ⟨kw_382, kw_383, kw_5, kw_384, ⟨by decide +kernel, by decide +kernel, by decide +kernel⟩⟩
theorem kv_X8_note : KV yX8_note cX8_note 5 none 4 := ⟨kw_530, kw_531, kw_5, kw_532, ⟨by decide +kernel, by decide +kernel, by decide +kernel⟩⟩
theorem kv_X8_event : KV yX8_event cX8_event 6 (some .int) 4 := ⟨kw_376, kw_377, kw_5, kw_378, ⟨by decide +kernel, by decide +kernel, by decide +kernel⟩⟩
theorem kv_X8_open : KV yX8_open cX8_open 1 (some .int) 0 := ⟨kw_372, kw_373, kw_5, kw_374, ⟨by decide +kernel, by decide +kernel, by decide +kernel⟩⟩
theorem kv_X8_push : KV yX8_push cX8_push 4 (some .boolean) 3 := ⟨kw_546, kw_547, kw_5, kw_548, ⟨by decide +kernel, by decide +kernel, by decide +kernel⟩⟩
theorem kv_X8_approve : KV yX8_approve cX8_approve 3 (some .boolean) 2 := ⟨kw_557, kw_558, kw_5, kw_559, ⟨by decide +kernel, by decide +kernel, by decide +kernel⟩⟩
theorem kv_X8_object : KV yX8_object cX8_object 3 (some .boolean) 2 := ⟨kw_565, kw_566, kw_5, kw_567, ⟨by decide +kernel, by decide +kernel, by decide +kernel⟩⟩
theorem kv_X8_close : KV yX8_close cX8_close 2 (some .boolean) 1 := ⟨kw_578, kw_579, kw_5, kw_580, ⟨by decide +kernel, by decide +kernel, by decide +kernel⟩⟩
theorem kv_X8_enqueue : KV yX8_enqueue cX8_enqueue 2 (some .boolean) 1 := ⟨kw_606, kw_607, kw_5, kw_608, ⟨by decide +kernel, by decide +kernel, by decide +kernel⟩⟩
theorem kv_X8_rebase : KV yX8_rebase cX8_rebase 2 (some .boolean) 1 := ⟨kw_619, kw_620, kw_5, kw_621, ⟨by decide +kernel, by decide +kernel, by decide +kernel⟩⟩
theorem kv_X8_claim : KV yX8_claim cX8_claim 2 (some .int) 1 := ⟨kw_631, kw_632, kw_5, kw_633, ⟨by decide +kernel, by decide +kernel, by decide +kernel⟩⟩
theorem kv_X8_report : KV yX8_report cX8_report 3 (some .boolean) 2 := ⟨kw_641, kw_642, kw_5, kw_643, ⟨by decide +kernel, by decide +kernel, by decide +kernel⟩⟩
theorem kv_X8_tick : KV yX8_tick cX8_tick 2 (some .int) 1 := ⟨kw_649, kw_650, kw_5, kw_651, ⟨by decide +kernel, by decide +kernel, by decide +kernel⟩⟩
theorem kv_X8_flush : KV yX8_flush cX8_flush 2 (some .int) 0 := ⟨kw_657, kw_658, kw_5, kw_659, ⟨by decide +kernel, by decide +kernel, by decide +kernel⟩⟩
theorem kv_X8_crash : KV yX8_crash cX8_crash 6 (some .int) 1 := ⟨kw_669, kw_670, kw_5, kw_671, ⟨by decide +kernel, by decide +kernel, by decide +kernel⟩⟩
theorem kv_X8_state : KV yX8_state cX8_state 2 (some .int) 1 := ⟨kw_680, kw_681, kw_5, kw_682, ⟨by decide +kernel, by decide +kernel, by decide +kernel⟩⟩
theorem kv_X8_cause : KV yX8_cause cX8_cause 2 (some .int) 1 := ⟨kw_689, kw_690, kw_5, kw_691, ⟨by decide +kernel, by decide +kernel, by decide +kernel⟩⟩
theorem kv_X8_standing : KV yX8_standing cX8_standing 2 (some .int) 1 := ⟨kw_699, kw_700, kw_5, kw_701, ⟨by decide +kernel, by decide +kernel, by decide +kernel⟩⟩
theorem kv_X8_file : KV yX8_file cX8_file 3 (some .int) 2 := ⟨kw_711, kw_712, kw_5, kw_713, ⟨by decide +kernel, by decide +kernel, by decide +kernel⟩⟩
theorem kv_X8_queueAt : KV yX8_queueAt cX8_queueAt 2 (some .int) 1 := ⟨kw_721, kw_722, kw_5, kw_723, ⟨by decide +kernel, by decide +kernel, by decide +kernel⟩⟩
theorem kv_X8_batch : KV yX8_batch cX8_batch 1 (some .int) 0 := ⟨kw_730, kw_731, kw_5, kw_732, ⟨by decide +kernel, by decide +kernel, by decide +kernel⟩⟩
theorem kv_X8_job : KV yX8_job cX8_job 2 (some .int) 1 := ⟨kw_739, kw_740, kw_5, kw_741, ⟨by decide +kernel, by decide +kernel, by decide +kernel⟩⟩
theorem kv_X8_version : KV yX8_version cX8_version 1 (some .int) 0 := ⟨kw_748, kw_749, kw_5, kw_750, ⟨by decide +kernel, by decide +kernel, by decide +kernel⟩⟩
theorem ks_J6_bitCount_0f7a4 : KS yJ6_bitCount_0f7a4 cJ6_bitCount_0f7a4 1 (some .int) 1 := ⟨kw_595, kw_596, kw_597, ⟨by decide +kernel, by decide +kernel, by decide +kernel⟩⟩
theorem ks_L_cell : KS yL_cell cL_cell 2 (some .int) 2 := ⟨kw_7, kw_8, kw_9, ⟨by decide +kernel, by decide +kernel, by decide +kernel⟩⟩
end
section
theorem Can.go {l : Launch} {w : WW} {y : MethodName} {cc : ByteArray} {nL : Nat} {ret : Option FieldType} {rm : Room} {vs : List Value} {x : XX} {Φ : Option Value → XX → Prop} {ls : List (Option Value)} (body : A l w y cc nL ret rm Φ 0 ls [] x 0 0) (hls : loc0 vs nL = ls := by rfl) (hy : plainName y.cls = true := by decide +kernel) (hc : vs.all (fun v => v.category == 1) = true := by rfl) (hn : vs.length ≤ nL := by exact Nat.le_of_ble_eq_true rfl) : Can l w y cc nL ret rm vs x Φ :=
  Can.of hy (fun v hv => by simpa using List.all_eq_true.mp hc v hv) hn (by rw [hls]; exact body)
def bi (b : Bool) : Int32 := if b = true then 1 else 0
theorem bi_t : bi true = 1 := rfl
theorem bi_f : bi false = 0 := rfl
theorem bi_0 {b : Bool} : bi b = 0 ↔ b = false := by cases b <;> decide
theorem bi_n0 {b : Bool} : ¬ bi b = 0 ↔ b = true := by cases b <;> decide
theorem bi_nar (b : Bool) : narrow .boolean (.int (bi b)) = .int (bi b) := by cases b <;> rfl
theorem inc_nI (n : Nat) : nI n + Int32.ofInt 1 = nI (n + 1) := (nI_succ n).symm
theorem dec_nI (n : Nat) : nI (n + 1) + Int32.ofInt (-1) = nI n := by
  rw [← nI_pred n, Int32.sub_eq_add_neg]
  rfl
theorem nI_inj {a b : Nat} (h : nI a = nI b) (ha : a < 2 ^ 31) (hb : b < 2 ^ 31) : a = b := by
  have := congrArg Int32.toNatClampNeg h
  rwa [nI_clamp ha, nI_clamp hb] at this
/-- a number from 0 to below another -/
def inr (p k : Int32) : Bool := !decide (p < 0) && !decide (k ≤ p)
theorem inr_nI {p k : Int32} {n : Nat} (h : inr p k = true) (hk : k = nI n) (hn : n ≤ 600) : p = nI p.toNatClampNeg ∧ p.toNatClampNeg < n := by
  subst hk
  simp only [inr, Bool.and_eq_true, Bool.not_eq_true', decide_eq_false_iff_not] at h
  obtain ⟨h1, h2⟩ := h
  have h3 : 0 ≤ p.toInt := by
    rw [Int32.lt_iff_toInt_lt, Int32.toInt_zero] at h1; omega
  have h4 : p.toInt < n := by
    rw [Int32.le_iff_toInt_le, nI_toInt (by omega)] at h2; omega
  have h5 : (p.toNatClampNeg : Int) = p.toInt := by
    show ((p.toInt.toNat : Nat) : Int) = _
    omega
  refine ⟨?_, by omega⟩
  apply Int32.toInt_inj.mp
  rw [nI_toInt (by omega), h5]
theorem inr_of {j n : Nat} (h : j < n) (hn : n ≤ 600) : inr (nI j) (nI n) = true := by
  simp only [inr, Bool.and_eq_true, Bool.not_eq_true', decide_eq_false_iff_not]
  exact ⟨nI_pos (by omega), nI_ge h (by omega)⟩
theorem inr_no {j n : Nat} (h : n ≤ j) (hn : j ≤ 600) : inr (nI j) (nI n) = false := by
  simp only [inr, Bool.and_eq_false_iff, Bool.not_eq_false', decide_eq_true_eq]
  exact Or.inr (nI_le h (by omega))
theorem rl_ch {c : Nat} (h : c < 16) : rl 0 1 c = true ∧ rl 0 14 c = true ∧ rl 0 15 c = true := by simp [rl, h]
/-- reads behind writes -/
theorem sg_same (σ : Sg) (t c k : Nat) (v : Int32) : sg σ t c k v t c k = v := by simp [sg, up1]
theorem sga_same (σ : Sg) (t c : Nat) (f : Nat → Int32) : sga σ t c f t c = f := by simp [sga, up1]
theorem sg_t {σ : Sg} {t c k : Nat} {v : Int32} {t' : Nat} (h : t' ≠ t) : sg σ t c k v t' = σ t' := by unfold sg; rw [up1_ne h]
theorem sga_t {σ : Sg} {t c : Nat} {f : Nat → Int32} {t' : Nat} (h : t' ≠ t) : sga σ t c f t' = σ t' := by unfold sga; rw [up1_ne h]
theorem sg_sga (σ : Sg) (t c k : Nat) (f : Nat → Int32) (v : Int32) : sg (sga σ t c f) t c k v = sga σ t c (up1 f k v) := by
  unfold sg sga
  rw [up1_same, up1_same, up1_up1, up1_up1]
theorem sg_is (σ : Sg) (t c k : Nat) (v : Int32) : sg σ t c k v = sga σ t c (up1 (σ t c) k v) := rfl
theorem sga_sga (σ : Sg) (t c : Nat) (f g : Nat → Int32) : sga (sga σ t c f) t c g = sga σ t c g := by
  unfold sga
  rw [up1_same, up1_up1, up1_up1]
theorem sga_eta (σ : Sg) (t c : Nat) : sga σ t c (σ t c) = σ := by
  unfold sga
  rw [up1_eta, up1_eta]
theorem sga_comm {σ : Sg} {t c t' c' : Nat} {f g : Nat → Int32} (h : t ≠ t') : sga (sga σ t c f) t' c' g = sga (sga σ t' c' g) t c f := by
  unfold sga
  rw [up1_ne (Ne.symm h), up1_ne h, up1_comm h]
theorem sg_k {σ : Sg} {t c k j : Nat} {v : Int32} (h : j ≠ k) : sg σ t c k v t c j = σ t c j := by simp [sg, up1, h]
def mixN (n : Nat) (g f : Nat → Int32) : Nat → Int32 := fun j => if j < n then g j else f j
theorem mixN_0 (g f : Nat → Int32) : mixN 0 g f = f := by funext j; simp [mixN]
theorem mixN_up (n : Nat) (g f : Nat → Int32) : up1 (mixN n g f) n (g n) = mixN (n + 1) g f := by
  funext j
  unfold mixN up1
  by_cases h : j = n
  · subst h; simp
  · by_cases h2 : j < n
    · simp [h, h2, Nat.lt_succ_of_lt h2]
    · simp [h, h2, show ¬ j < n + 1 by omega]
theorem mixN_at {n j : Nat} {g f : Nat → Int32} (h : n ≤ j) : mixN n g f j = f j := by simp [mixN, show ¬ j < n by omega]
theorem mixN_skip {n : Nat} {g f : Nat → Int32} (h : g n = f n) : mixN (n + 1) g f = mixN n g f := by
  rw [← mixN_up, h]
  funext j
  unfold up1 mixN
  by_cases hj : j = n
  · subst hj; simp
  · simp [hj]
theorem junkA {M : Mem} {s : Nat} {σ : Sg} {t c : Nat} {g f : Nat → Int32} (ht : ¬ t < 8) (h : ∀ k, k < aL t c → g k = f k) : ∀ u t' c' k, rl u t' c' = true → k < (if t' < 8 then nF t' else aL t' c') → ik t' k = true → up1 M s (sga σ t c g) u t' c' k = up1 M s (sga σ t c f) u t' c' k := by
  intro u t' c' k _ hk _
  by_cases hu : u = s
  · subst hu
    rw [up1_same, up1_same]
    by_cases h1 : t' = t
    · subst h1
      by_cases h2 : c' = c
      · subst h2
        rw [sga_same, sga_same]
        rw [if_neg ht] at hk
        exact h k hk
      · unfold sga
        rw [up1_same, up1_same, up1_ne h2, up1_ne h2]
    · rw [sga_t h1, sga_t h1]
  · rw [up1_ne hu, up1_ne hu]
/-- the first j from a start on, within a count, of a kind; -1 if there is none -/
def fhit (c : Nat → Bool) : Nat → Nat → Int32
  | 0, _ => -1
  | n + 1, j => if c j = true then nI j else fhit c n (j + 1)
def anyU (c : Nat → Bool) : Nat → Nat → Bool
  | 0, _ => false
  | n + 1, j => c j || anyU c n (j + 1)
/-! the pipeline -/
def tb (p j : Int32) : Bool := !decide ((p >>> (j &&& 31)) &&& 1 = 0)
def rq (p j : Int32) : Bool := tb p j && tb p (4 + j)
def nd (p j : Int32) : Int32 := (p >>> ((8 + 4 * j) &&& 31)) &&& 15
def sh1 (j : Int32) : Int32 := 1 <<< (j &&& 31)
def atnI (p k : Int32) : Nat → Nat → Int32 → Int32
  | 0, _, f => f
  | n + 1, j, f => atnI p k n (j + 1) (if tb p (nI j) = true ∧ ¬ nd p (nI j) &&& (f ||| sh1 k) = 0 then f ||| sh1 (nI j) else f)
def atnO (p k : Int32) : Nat → Int32 → Int32
  | 0, f => f
  | n + 1, f => atnO p k n (atnI p k 4 0 f)
def atn (p k : Int32) : Int32 := atnO p k 4 0
def vld (p : Int32) : Nat → Nat → Bool → Bool
  | 0, _, s => s
  | n + 1, j, s => if (tb p (nI j) && (!decide (nd p (nI j) &&& ((p &&& 15) ^^^ (-1)) = 0) || tb (atn p (nI j)) (nI j))) = true then false else vld p n (j + 1) (s || rq p (nI j))
/-! a row of numbers -/
def rowAt (f : Nat → Int32) (n : Nat) (k : Int32) : Int32 := if inr k (nI n) = true then f k.toNatClampNeg else -1
def shup (f : Nat → Int32) (j i : Nat) : Nat → Int32 := fun q => if j < q ∧ q ≤ i then f (q - 1) else f q
def ins (f : Nat → Int32) (j n : Nat) (v : Int32) : Nat → Int32 := fun q => if q = j then v else if j < q ∧ q ≤ n then f (q - 1) else f q
def rmv (f : Nat → Int32) (j n : Nat) : Nat → Int32 := fun q => if j ≤ q ∧ q < n - 1 then f (q + 1) else f q
def rowIns (σ : Sg) (c j n : Nat) (v : Int32) : Sg := sg (sga σ 13 c (ins (σ 13 c) j n v)) 3 c 1 (nI (n + 1))
def rowRmv (σ : Sg) (c j n : Nat) : Sg := sg (sga σ 13 c (rmv (σ 13 c) j n)) 3 c 1 (nI (n - 1))
/-! a change -/
def cfl (b o t : Nat → Int32) (p : Nat) : Bool := !decide (o p = b p) && (!decide (t p = b p) && !decide (t p = o p))
def mrg (b o t : Nat → Int32) : Nat → Int32 := fun p => if o p = b p then t p else o p
def reb (b o t : Nat → Int32) : Nat → Int32 := fun p => if o p = b p then t p else o p
def become (σ : Sg) (c : Nat) (a b : Int32) : Sg := sg (sg σ 1 c 2 a) 1 c 3 b
theorem rl_chs {s c : Nat} (hs : s < 2) (h : c < 16) : rl s 1 c = true ∧ rl s 14 c = true ∧ rl s 15 c = true := by simp [rl, h, hs]
def addF (σ : Sg) (c : Nat) (r : Int32) : Sg := sg (sg σ 1 c 4 (σ 1 c 4 ||| sh1 r)) 1 c 5 (σ 1 c 5 &&& (sh1 r ^^^ (-1)))
def addA (σ : Sg) (c : Nat) (r : Int32) : Sg := sg (sg σ 1 c 5 (σ 1 c 5 ||| sh1 r)) 1 c 4 (σ 1 c 4 &&& (sh1 r ^^^ (-1)))
def dropR (σ : Sg) (c : Nat) : Sg := sg (sg σ 1 c 4 0) 1 c 5 0
def stF (σ : Sg) (c : Nat) : Sg := dropR (become (sga (sga σ 14 c (σ 8 0)) 15 c (σ 8 0)) c 0 0) c
def moveO (σ : Sg) (c : Nat) : Sg := dropR (become (sga (sga σ 15 c (reb (σ 14 c) (σ 15 c) (σ 8 0))) 14 c (σ 8 0)) c 0 0) c
def cpR (σ τ : Sg) (c : Nat) : Sg := sg (sga σ 13 c (τ 13 c)) 3 c 1 (τ 3 c 1)
def cpC (σ τ : Sg) (c : Nat) : Sg := sg (sg (sg (sg (sga (sga σ 14 c (τ 14 c)) 15 c (τ 15 c)) 1 c 2 (τ 1 c 2)) 1 c 3 (τ 1 c 3)) 1 c 4 (τ 1 c 4)) 1 c 5 (τ 1 c 5)
def cpB (σ τ : Sg) : Sg := sga (sga (sga (sg (sga σ 9 0 (τ 9 0)) 0 0 1 (τ 0 0 1)) 10 0 (τ 10 0)) 11 0 (τ 11 0)) 12 0 (τ 12 0)
end
section
set_option maxRecDepth 10000 in
theorem s_X7_isPath {l : Launch} {w : WW} {x : XX} {p : Int32} : Can l w yX7_isPath cX7_isPath 1 (some .boolean) (rmd 1) [.int p] (x) (RI (bi (inr p 6)) x) := by
  refine Can.go (ls := [some (.int p)]) ?_
  refine a_iload_n dX7_isPath_0 rfl ?_
  refine a_if_lt (tgt := 14) dX7_isPath_1 (by decide) (fun c_1 => ?_) (fun c_1 => ?_)
  · refine a_iconst (v := 0) dX7_isPath_14 (by decide) ?_
    exact c_zret dX7_isPath_15 ⟨by simp_all [bi, inr], rfl⟩
  · refine a_iload_n dX7_isPath_4 rfl ?_
    refine a_bipush (v := 6) dX7_isPath_5 (by decide) ?_
    refine a_icmp_ge (tgt := 14) dX7_isPath_7 (by decide) (fun c_7 => ?_) (fun c_7 => ?_)
    · refine a_iconst (v := 0) dX7_isPath_14 (by decide) ?_
      exact c_zret dX7_isPath_15 ⟨by simp_all [bi, inr], rfl⟩
    · refine a_iconst (v := 1) dX7_isPath_10 (by decide) ?_
      refine a_goto (tgt := 15) dX7_isPath_11 (by decide) ?_
      exact c_zret dX7_isPath_15 ⟨by simp_all [bi, inr], rfl⟩
set_option maxRecDepth 10000 in
theorem s_X7_isReviewer {l : Launch} {w : WW} {x : XX} {p : Int32} : Can l w yX7_isReviewer cX7_isReviewer 1 (some .boolean) (rmd 1) [.int p] (x) (RI (bi (inr p 8)) x) := by
  refine Can.go (ls := [some (.int p)]) ?_
  refine a_iload_n dX7_isReviewer_0 rfl ?_
  refine a_if_lt (tgt := 14) dX7_isReviewer_1 (by decide) (fun c_1 => ?_) (fun c_1 => ?_)
  · refine a_iconst (v := 0) dX7_isReviewer_14 (by decide) ?_
    exact c_zret dX7_isReviewer_15 ⟨by simp_all [bi, inr], rfl⟩
  · refine a_iload_n dX7_isReviewer_4 rfl ?_
    refine a_bipush (v := 8) dX7_isReviewer_5 (by decide) ?_
    refine a_icmp_ge (tgt := 14) dX7_isReviewer_7 (by decide) (fun c_7 => ?_) (fun c_7 => ?_)
    · refine a_iconst (v := 0) dX7_isReviewer_14 (by decide) ?_
      exact c_zret dX7_isReviewer_15 ⟨by simp_all [bi, inr], rfl⟩
    · refine a_iconst (v := 1) dX7_isReviewer_10 (by decide) ?_
      refine a_goto (tgt := 15) dX7_isReviewer_11 (by decide) ?_
      exact c_zret dX7_isReviewer_15 ⟨by simp_all [bi, inr], rfl⟩
set_option maxRecDepth 10000 in
theorem s_X7_isWorker {l : Launch} {w : WW} {x : XX} {p : Int32} : Can l w yX7_isWorker cX7_isWorker 1 (some .boolean) (rmd 1) [.int p] (x) (RI (bi (inr p 4)) x) := by
  refine Can.go (ls := [some (.int p)]) ?_
  refine a_iload_n dX7_isWorker_0 rfl ?_
  refine a_if_lt (tgt := 13) dX7_isWorker_1 (by decide) (fun c_1 => ?_) (fun c_1 => ?_)
  · refine a_iconst (v := 0) dX7_isWorker_13 (by decide) ?_
    exact c_zret dX7_isWorker_14 ⟨by simp_all [bi, inr], rfl⟩
  · refine a_iload_n dX7_isWorker_4 rfl ?_
    refine a_iconst (v := 4) dX7_isWorker_5 (by decide) ?_
    refine a_icmp_ge (tgt := 13) dX7_isWorker_6 (by decide) (fun c_6 => ?_) (fun c_6 => ?_)
    · refine a_iconst (v := 0) dX7_isWorker_13 (by decide) ?_
      exact c_zret dX7_isWorker_14 ⟨by simp_all [bi, inr], rfl⟩
    · refine a_iconst (v := 1) dX7_isWorker_9 (by decide) ?_
      refine a_goto (tgt := 14) dX7_isWorker_10 (by decide) ?_
      exact c_zret dX7_isWorker_14 ⟨by simp_all [bi, inr], rfl⟩
set_option maxRecDepth 10000 in
theorem s_X7_clamped {l : Launch} {w : WW} {x : XX} {n lo hi : Int32} : Can l w yX7_clamped cX7_clamped 3 (some .int) (rmd 1) [.int n, .int lo, .int hi] (x) (RI (if lo < (if n < hi then n else hi) then (if n < hi then n else hi) else lo) x) := by
  refine Can.go (ls := [some (.int n), some (.int lo), some (.int hi)]) ?_
  refine a_iload_n dX7_clamped_0 rfl ?_
  refine a_iload_n dX7_clamped_1 rfl ?_
  refine a_iload_n dX7_clamped_2 rfl ?_
  refine a_min dX7_clamped_3 kw_39 kw_40 kw_41 kw_42 ⟨by decide, by exact Nat.le_of_ble_eq_true rfl⟩ ⟨Nat.zero_le _, Nat.zero_le _⟩ ?_
  refine a_max dX7_clamped_6 kw_43 kw_44 kw_41 kw_45 ⟨by decide, by exact Nat.le_of_ble_eq_true rfl⟩ ⟨Nat.zero_le _, Nat.zero_le _⟩ ?_
  exact c_iret dX7_clamped_9 ⟨rfl, rfl⟩
set_option maxRecDepth 10000 in
theorem s_X7_copyNumbers {l : Launch} {w : WW} {M : Mem} {s t c u t' c' : Nat} (h1 : ¬ t < 8) (h2 : aK t = 0) (h3 : rl s t c = true) (h4 : ¬ t' < 8) (h5 : aK t' = 0) (h6 : rl u t' c' = true) (hn : aL t' c' = aL t c) : Can l w yX7_copyNumbers cX7_copyNumbers 2 none (rmd 1) [.ref (ad w s t c), .ref (ad w u t' c')] ((M, RT w, 158)) (RV (up1 M u (sga (M u) t' c' (M s t c)), RT w, 158)) := by
  refine Can.go (ls := [some (.ref (ad w s t c)), some (.ref (ad w u t' c'))]) ?_
  refine a_aload_n dX7_copyNumbers_0 rfl ?_
  refine a_iconst (v := 0) dX7_copyNumbers_1 (by decide) ?_
  refine a_aload_n dX7_copyNumbers_2 rfl ?_
  refine a_iconst (v := 0) dX7_copyNumbers_3 (by decide) ?_
  refine a_aload_n dX7_copyNumbers_4 rfl ?_
  refine a_alen dX7_copyNumbers_5 rfl h1 h2 (rlm h3) ?_
  refine a_aload_n dX7_copyNumbers_6 rfl ?_
  refine a_alen dX7_copyNumbers_7 rfl h4 h5 (rlm h6) ?_
  refine a_min dX7_copyNumbers_8 kw_39 kw_40 kw_41 kw_42 ⟨by decide, by exact Nat.le_of_ble_eq_true rfl⟩ ⟨Nat.zero_le _, Nat.zero_le _⟩ ?_
  have hb := aL_le t c
  refine a_copy (n := aL t c) dX7_copyNumbers_11 kw_152 kw_153 kw_154 kw_155 (by rw [hn]; exact ite_self _) (Nat.le_refl _) (by rw [hn]; exact Nat.le_refl _) h1 h2 (rlm h3) h4 h5 (rlm h6) (by decide) ?_
  refine a_jk (x' := (up1 M u (sga (M u) t' c' (M s t c)), RT w, 158)) (fun u2 t2 c2 k hk1 hk2 hk3 => ?_) rfl ?_
  · show up1 M u (sga (M u) t' c' (M s t c)) u2 t2 c2 k = up1 M u (sga (M u) t' c' _) u2 t2 c2 k
    refine junkA (s := u) h4 (fun k hk => ?_) u2 t2 c2 k hk1 hk2 hk3
    rw [hn] at hk
    exact (if_pos hk).symm
  exact c_vret dX7_copyNumbers_14 ⟨rfl, rfl⟩
theorem s_copy {l : Launch} {w : WW} {M : Mem} {σ : Sg} {s t c t' c' : Nat} (h1 : ¬ t < 8 := by first | decide | assumption) (h2 : aK t = 0 := by first | rfl | assumption) (h3 : rl s t c = true := by first | rfl | assumption) (h4 : ¬ t' < 8 := by first | decide | assumption) (h5 : aK t' = 0 := by first | rfl | assumption) (h6 : rl s t' c' = true := by first | rfl | assumption) (hn : aL t' c' = aL t c := by first | rfl | assumption) : Can l w yX7_copyNumbers cX7_copyNumbers 2 none (rmd 1) [.ref (ad w s t c), .ref (ad w s t' c')] (zx w M s σ) (RV (zx w M s (sga σ t' c' (σ t c)))) := by
  have h := s_X7_copyNumbers (l := l) (w := w) (M := up1 M s σ) h1 h2 h3 h4 h5 h6 hn
  rw [up1_same, up1_up1] at h
  exact h
theorem s_copyX {l : Launch} {w : WW} {M : Mem} {σ : Sg} {s u t c t' c' : Nat} (hu : u ≠ s := by first | decide | assumption) (h1 : ¬ t < 8 := by first | decide | assumption) (h2 : aK t = 0 := by first | rfl | assumption) (h3 : rl u t c = true := by first | rfl | assumption) (h4 : ¬ t' < 8 := by first | decide | assumption) (h5 : aK t' = 0 := by first | rfl | assumption) (h6 : rl s t' c' = true := by first | rfl | assumption) (hn : aL t' c' = aL t c := by first | rfl | assumption) : Can l w yX7_copyNumbers cX7_copyNumbers 2 none (rmd 1) [.ref (ad w u t c), .ref (ad w s t' c')] (zx w M s σ) (RV (zx w M s (sga σ t' c' (M u t c)))) := by
  have h := s_X7_copyNumbers (l := l) (w := w) (M := up1 M s σ) h1 h2 h3 h4 h5 h6 hn
  rw [up1_same, up1_up1, up1_ne hu] at h
  exact h
def ush (p q : Int32) : Int32 := (p.toUInt32 >>> (q.toUInt32 &&& Int32.toUInt32 31)).toInt32
def bitc5 (e : Int32) : Int32 := (e + ush e 16) &&& 63
def bitc4 (d : Int32) : Int32 := bitc5 (d + ush d 8)
def bitc3 (b : Int32) : Int32 := bitc4 ((b + ush b 4) &&& 252645135)
def bitc2 (a : Int32) : Int32 := bitc3 ((a &&& 858993459) + ((ush a 2) &&& 858993459))
def bitc (i : Int32) : Int32 := bitc2 (i - ((ush i 1) &&& 1431655765))
set_option maxRecDepth 10000 in
theorem s_J6_bitCount_0f7a4 {l : Launch} {w : WW} {x : XX} {i : Int32} : Can l w yJ6_bitCount_0f7a4 cJ6_bitCount_0f7a4 1 (some .int) (rmd 1) [.int i] (x) (RI (bitc i) x) := by
  refine Can.go (ls := [some (.int i)]) ?_
  refine a_iload_n dJ6_bitCount_0f7a4_0 rfl ?_
  refine a_iload_n dJ6_bitCount_0f7a4_1 rfl ?_
  refine a_iconst (v := 1) dJ6_bitCount_0f7a4_2 (by decide) ?_
  refine a_iushr dJ6_bitCount_0f7a4_3 ?_
  refine a_ldcw (v := 1431655765) dJ6_bitCount_0f7a4_4 kw_598 ?_
  refine a_iand dJ6_bitCount_0f7a4_7 ?_
  refine a_isub dJ6_bitCount_0f7a4_8 ?_
  refine a_istore_0 dJ6_bitCount_0f7a4_9 (by decide) ?_
  refine a_iload_n dJ6_bitCount_0f7a4_10 rfl ?_
  refine a_ldcw (v := 858993459) dJ6_bitCount_0f7a4_11 kw_599 ?_
  refine a_iand dJ6_bitCount_0f7a4_14 ?_
  refine a_iload_n dJ6_bitCount_0f7a4_15 rfl ?_
  refine a_iconst (v := 2) dJ6_bitCount_0f7a4_16 (by decide) ?_
  refine a_iushr dJ6_bitCount_0f7a4_17 ?_
  refine a_ldcw (v := 858993459) dJ6_bitCount_0f7a4_18 kw_599 ?_
  refine a_iand dJ6_bitCount_0f7a4_21 ?_
  refine a_iadd dJ6_bitCount_0f7a4_22 ?_
  refine a_istore_0 dJ6_bitCount_0f7a4_23 (by decide) ?_
  refine a_iload_n dJ6_bitCount_0f7a4_24 rfl ?_
  refine a_iload_n dJ6_bitCount_0f7a4_25 rfl ?_
  refine a_iconst (v := 4) dJ6_bitCount_0f7a4_26 (by decide) ?_
  refine a_iushr dJ6_bitCount_0f7a4_27 ?_
  refine a_iadd dJ6_bitCount_0f7a4_28 ?_
  refine a_ldcw (v := 252645135) dJ6_bitCount_0f7a4_29 kw_600 ?_
  refine a_iand dJ6_bitCount_0f7a4_32 ?_
  refine a_istore_0 dJ6_bitCount_0f7a4_33 (by decide) ?_
  refine a_iload_n dJ6_bitCount_0f7a4_34 rfl ?_
  refine a_iload_n dJ6_bitCount_0f7a4_35 rfl ?_
  refine a_bipush (v := 8) dJ6_bitCount_0f7a4_36 (by decide) ?_
  refine a_iushr dJ6_bitCount_0f7a4_38 ?_
  refine a_iadd dJ6_bitCount_0f7a4_39 ?_
  refine a_istore_0 dJ6_bitCount_0f7a4_40 (by decide) ?_
  refine a_iload_n dJ6_bitCount_0f7a4_41 rfl ?_
  refine a_iload_n dJ6_bitCount_0f7a4_42 rfl ?_
  refine a_bipush (v := 16) dJ6_bitCount_0f7a4_43 (by decide) ?_
  refine a_iushr dJ6_bitCount_0f7a4_45 ?_
  refine a_iadd dJ6_bitCount_0f7a4_46 ?_
  refine a_istore_0 dJ6_bitCount_0f7a4_47 (by decide) ?_
  refine a_iload_n dJ6_bitCount_0f7a4_48 rfl ?_
  refine a_bipush (v := 63) dJ6_bitCount_0f7a4_49 (by decide) ?_
  refine a_iand dJ6_bitCount_0f7a4_51 ?_
  exact c_iret dJ6_bitCount_0f7a4_52 ⟨rfl, rfl⟩
set_option maxRecDepth 10000 in
theorem s_X4_at {l : Launch} {w : WW} {M : Mem} {σ : Sg} {c : Nat} (hc : rl 0 3 c = true) (hd : rl 0 13 c = true) {n : Nat} {k : Int32} (hn : σ 3 c 1 = nI n) (hle : n ≤ aL 13 c) : Can l w yX4_at cX4_at 2 (some .int) (rmd 1) [.ref (ad w 0 3 c), .int k] (zx w M 0 σ) (RI (rowAt (σ 13 c) n k) (zx w M 0 σ)) := by
  refine Can.go (ls := [some (.ref (ad w 0 3 c)), some (.int k)]) ?_
  refine a_iload_n dX4_at_0 rfl ?_
  refine a_if_lt (tgt := 21) dX4_at_1 (by decide) (fun c_1 => ?_) (fun c_1 => ?_)
  · refine a_iconst (v := (-1)) dX4_at_21 (by decide) ?_
    exact c_iret dX4_at_22 ⟨by first | rw [rowAt, if_pos H17k] | simp_all [rowAt, inr], rfl⟩
  · refine a_iload_n dX4_at_4 rfl ?_
    refine a_aload_n dX4_at_5 rfl ?_
    refine c_getI (t := 3) (k := 1) dX4_at_6 kw_168 ?_
    refine a_icmp_ge (tgt := 21) dX4_at_9 (by decide) (fun c_9 => ?_) (fun c_9 => ?_)
    · refine a_iconst (v := (-1)) dX4_at_21 (by decide) ?_
      exact c_iret dX4_at_22 ⟨by first | rw [rowAt, if_pos H17k] | simp_all [rowAt, inr], rfl⟩
    · refine a_aload_n dX4_at_12 rfl ?_
      refine c_getR (t := 3) (k := 0) dX4_at_13 kw_70 rfl ?_
      refine a_iload_n dX4_at_16 rfl ?_
      have H17k : inr k (nI n) = true := by simp_all [inr]
      have H17 := inr_nI (n := n) H17k rfl (Nat.le_trans hle (aL_le _ _))
      refine c_iald (i := k.toNatClampNeg) dX4_at_17 H17.1 (Nat.lt_of_lt_of_le H17.2 hle) ?_
      refine a_goto (tgt := 22) dX4_at_18 (by decide) ?_
      exact c_iret dX4_at_22 ⟨by first | rw [rowAt, if_pos H17k] | simp_all [rowAt, inr], rfl⟩
theorem shup_0 (f : Nat → Int32) (j : Nat) : shup f j j = f := by
  funext q
  unfold shup
  rw [if_neg (by omega)]
theorem shup_S (f : Nat → Int32) (j m : Nat) : shup (up1 f (j + m + 1) (f (j + m))) j (j + m) = shup f j (j + (m + 1)) := by
  funext q
  unfold shup up1
  by_cases h : j < q ∧ q ≤ j + (m + 1)
  · by_cases h2 : q = j + m + 1
    · rw [if_neg (by omega), if_pos h2, if_pos h, h2]
      rfl
    · rw [if_pos (by omega), if_neg (by omega), if_pos h]
  · rw [if_neg (by omega), if_neg (by omega), if_neg h]
theorem ins_of (f : Nat → Int32) (j n : Nat) (v : Int32) : up1 (shup f j n) j v = ins f j n v := rfl
theorem rm2_0 (f : Nat → Int32) (e : Nat) : (fun i => if e ≤ i ∧ i < e then f (i + 1) else f i) = f := by
  funext i
  rw [if_neg (by omega)]
def rm2 (f : Nat → Int32) (q e : Nat) : Nat → Int32 := fun i => if q ≤ i ∧ i < e then f (i + 1) else f i
theorem rm2_S (f : Nat → Int32) (q m : Nat) : rm2 (up1 f q (f (q + 1))) (q + 1) (q + 1 + m) = rm2 f q (q + (m + 1)) := by
  funext i
  unfold rm2 up1
  by_cases h : i = q
  · subst h
    rw [if_neg (by omega), if_pos rfl, if_pos (by omega)]
  · by_cases h2 : q ≤ i ∧ i < q + (m + 1)
    · rw [if_pos (by omega), if_neg (by omega), if_pos h2]
    · rw [if_neg (by omega), if_neg h, if_neg h2]
theorem rmv_of (f : Nat → Int32) (j n : Nat) : rm2 f j (n - 1) = rmv f j n := rfl
theorem repl_of {σ : Sg} {c n : Nat} {v : Int32} (hn : σ 3 c 1 = nI n) (h0 : 0 < n) : rowIns (rowRmv σ c 0 n) c 0 (n - 1) v = sg σ 13 c 0 v := by
  unfold rowIns rowRmv
  have e1 : (sg (sga σ 13 c (rmv (σ 13 c) 0 n)) 3 c 1 (nI (n - 1))) 13 c = rmv (σ 13 c) 0 n := by rw [sg_t (by decide), sga_same]
  rw [e1, Nat.sub_add_cancel h0]
  have e2 : ins (rmv (σ 13 c) 0 n) 0 (n - 1) v = up1 (σ 13 c) 0 v := by
    funext i
    unfold ins rmv up1
    by_cases h : i = 0
    · rw [if_pos h, if_pos h]
    · rw [if_neg h, if_neg h]
      by_cases h2 : 0 < i ∧ i ≤ n - 1
      · rw [if_pos h2, if_pos (by omega), show i - 1 + 1 = i by omega]
      · rw [if_neg h2, if_neg (by omega)]
  rw [e2, sg_is σ 13 c 0 v, ← hn]
  unfold sg sga
  funext a b i
  by_cases ha : a = 3
  · subst ha
    by_cases hb : b = c
    · subst hb
      by_cases hi : i = 1
      · subst hi; simp [up1]
      · simp [up1, hi]
    · simp [up1, hb]
  · by_cases ha2 : a = 13
    · subst ha2
      by_cases hb : b = c
      · subst hb; simp [up1]
      · simp [up1, hb]
    · simp [up1, ha, ha2]
set_option maxRecDepth 10000 in
theorem L_X4_insert {l : Launch} {w : WW} {Φ : Option Value → XX → Prop} {M : Mem} {c j : Nat} {v : Int32} (hd : rl 0 13 c = true) : ∀ (n : Nat) {σ : Sg}, j + n < aL 13 c → A l w yX4_insert cX4_insert 4 none (rmd 1) Φ 55 [some (.ref (ad w 0 3 c)), some (.int (nI j)), some (.int v), some (.int (nI j))] [] (zx w M 0 (sga σ 13 c (shup (σ 13 c) j (j + n)))) 0 0 → A l w yX4_insert cX4_insert 4 none (rmd 1) Φ 30 [some (.ref (ad w 0 3 c)), some (.int (nI j)), some (.int v), some (.int (nI (j + n)))] [] (zx w M 0 σ) 0 0 := by
  intro n
  induction n with
  | zero =>
    intro σ hlt kk
    refine a_iload_n dX4_insert_30 rfl ?_
    refine a_iload_n dX4_insert_31 rfl ?_
    refine a_icmp_le (tgt := 55) dX4_insert_32 (by decide) (fun c_32 => ?_) (fun c_32 => absurd (nI_le (Nat.le_refl j) (by have := aL_le 13 c; omega)) c_32)
    rw [Nat.add_zero, shup_0, sga_eta] at kk
    exact kk
  | succ n ih =>
    intro σ hlt kk
    refine a_iload_n dX4_insert_30 rfl ?_
    refine a_iload_n dX4_insert_31 rfl ?_
    refine a_icmp_le (tgt := 55) dX4_insert_32 (by decide) (fun c_32 => absurd c_32 (by have := aL_le 13 c; first | exact nI_ge (by omega) (by omega) | exact nI_nlt (by omega) (by omega))) (fun c_32 => ?_)
    refine a_aload_n dX4_insert_35 rfl ?_
    refine c_getR (t := 3) (k := 0) dX4_insert_36 kw_70 rfl ?_
    refine a_iload_n dX4_insert_39 rfl ?_
    refine a_aload_n dX4_insert_40 rfl ?_
    refine c_getR (t := 3) (k := 0) dX4_insert_41 kw_70 rfl ?_
    refine a_iload_n dX4_insert_44 rfl ?_
    refine a_iconst (v := 1) dX4_insert_45 (by decide) ?_
    refine a_isub dX4_insert_46 ?_
    refine c_iald (i := j + n) dX4_insert_47 (nI_pred (j + n)) (by omega) ?_
    refine c_iast (i := j + (n + 1)) dX4_insert_48 rfl hlt ?_
    refine a_iinc_3 (u := nI (j + n)) dX4_insert_49 (dec_nI (j + n)) (by decide) ?_
    refine a_goto (tgt := 30) dX4_insert_52 (by decide) ?_
    refine ih (by omega) ?_
    rw [sg_is, sga_sga, sga_same, show j + (n + 1) = j + n + 1 from rfl, shup_S]
    exact kk
set_option maxRecDepth 10000 in
theorem s_X4_insert {l : Launch} {w : WW} {M : Mem} {σ : Sg} {c : Nat} (hc : rl 0 3 c = true) (hd : rl 0 13 c = true) {n j : Nat} {v : Int32} (hn : σ 3 c 1 = nI n) (hj : j ≤ n) (hlt : n < aL 13 c) : Can l w yX4_insert cX4_insert 4 none (rmd 1) [.ref (ad w 0 3 c), .int (nI j), .int v] (zx w M 0 σ) (RV (zx w M 0 (rowIns σ c j n v))) := by
  refine Can.go (ls := [some (.ref (ad w 0 3 c)), some (.int (nI j)), some (.int v), none]) ?_
  have hb := aL_le 13 c
  refine a_iload_n dX4_insert_0 rfl ?_
  refine a_if_lt (tgt := 24) dX4_insert_1 (by decide) (fun c_1 => absurd c_1 (nI_pos (by omega))) (fun c_1 => ?_)
  refine a_iload_n dX4_insert_4 rfl ?_
  refine a_aload_n dX4_insert_5 rfl ?_
  refine c_getI (t := 3) (k := 1) dX4_insert_6 kw_168 ?_
  refine a_icmp_gt (tgt := 24) dX4_insert_9 (by decide) (fun c_9 => absurd c_9 (by rw [hn]; exact nI_nlt hj (by omega))) (fun c_9 => ?_)
  refine a_aload_n dX4_insert_12 rfl ?_
  refine c_getI (t := 3) (k := 1) dX4_insert_13 kw_168 ?_
  refine a_aload_n dX4_insert_16 rfl ?_
  refine c_getR (t := 3) (k := 0) dX4_insert_17 kw_70 rfl ?_
  refine c_alen dX4_insert_20 rfl ?_
  refine a_icmp_lt (tgt := 25) dX4_insert_21 (by decide) (fun c_21 => ?_) (fun c_21 => absurd (by rw [hn]; exact nI_lt hlt (by omega)) c_21)
  refine a_aload_n dX4_insert_25 rfl ?_
  refine c_getI (t := 3) (k := 1) dX4_insert_26 kw_168 ?_
  refine a_istore_3 dX4_insert_29 (by decide) ?_
  rw [hn]
  obtain ⟨m, rfl⟩ := Nat.exists_eq_add_of_le hj
  refine L_X4_insert hd m hlt ?_
  refine a_aload_n dX4_insert_55 rfl ?_
  refine c_getR (t := 3) (k := 0) dX4_insert_56 kw_70 rfl ?_
  refine a_iload_n dX4_insert_59 rfl ?_
  refine a_iload_n dX4_insert_60 rfl ?_
  refine c_iast (i := j) dX4_insert_61 rfl (by omega) ?_
  refine a_aload_n dX4_insert_62 rfl ?_
  refine a_dup dX4_insert_63 rfl ?_
  refine c_getI (t := 3) (k := 1) dX4_insert_64 kw_168 ?_
  refine a_iconst (v := 1) dX4_insert_67 (by decide) ?_
  refine a_iadd dX4_insert_68 ?_
  refine c_putI (t := 3) (k := 1) dX4_insert_69 kw_168 ?_
  exact c_vret dX4_insert_72 ⟨rfl, by rw [sg_sga, sga_t (by decide), hn, ← nI_succ, ins_of]; rfl⟩
set_option maxRecDepth 10000 in
theorem s_X4_append {l : Launch} {w : WW} {M : Mem} {σ : Sg} {c : Nat} (hc : rl 0 3 c = true) (hd : rl 0 13 c = true) {n : Nat} {v : Int32} (hn : σ 3 c 1 = nI n) (hlt : n < aL 13 c) : Can l w yX4_append cX4_append 2 none (rmd 2) [.ref (ad w 0 3 c), .int v] (zx w M 0 σ) (RV (zx w M 0 (rowIns σ c n n v))) := by
  refine Can.go (ls := [some (.ref (ad w 0 3 c)), some (.int v)]) ?_
  refine a_aload_n dX4_append_0 rfl ?_
  refine a_aload_n dX4_append_1 rfl ?_
  refine c_getI (t := 3) (k := 1) dX4_append_2 kw_168 ?_
  refine a_iload_n dX4_append_5 rfl ?_
  rw [hn]
  refine c_V2V dX4_append_6 kw_215 kv_X4_insert (s_X4_insert hc hd hn (Nat.le_refl n) hlt) ?_
  exact c_vret dX4_append_9 ⟨rfl, rfl⟩
set_option maxRecDepth 10000 in
theorem L_X4_removeAt {l : Launch} {w : WW} {Φ : Option Value → XX → Prop} {M : Mem} {c e : Nat} {v1 : Option Value} (hc : rl 0 3 c = true) (hd : rl 0 13 c = true) (he : e < aL 13 c) : ∀ (n : Nat) {q : Nat} {σ : Sg}, q + n = e → σ 3 c 1 = nI e → A l w yX4_removeAt cX4_removeAt 3 none (rmd 1) Φ 53 [some (.ref (ad w 0 3 c)), v1, some (.int (nI e))] [] (zx w M 0 (sga σ 13 c (rm2 (σ 13 c) q e))) 0 0 → A l w yX4_removeAt cX4_removeAt 3 none (rmd 1) Φ 25 [some (.ref (ad w 0 3 c)), v1, some (.int (nI q))] [] (zx w M 0 σ) 0 0 := by
  intro n
  induction n with
  | zero =>
    intro q σ hq hn kk
    refine a_iload_n dX4_removeAt_25 rfl ?_
    refine a_aload_n dX4_removeAt_26 rfl ?_
    refine c_getI (t := 3) (k := 1) dX4_removeAt_27 kw_168 ?_
    refine a_icmp_ge (tgt := 53) dX4_removeAt_30 (by decide) (fun c_30 => ?_) (fun c_30 => absurd (by rw [hn]; exact nI_le (by omega) (by have := aL_le 13 c; omega)) c_30)
    obtain rfl : q = e := by omega
    rw [show rm2 (σ 13 c) q q = σ 13 c from rm2_0 _ _, sga_eta] at kk
    exact kk
  | succ n ih =>
    intro q σ hq hn kk
    refine a_iload_n dX4_removeAt_25 rfl ?_
    refine a_aload_n dX4_removeAt_26 rfl ?_
    refine c_getI (t := 3) (k := 1) dX4_removeAt_27 kw_168 ?_
    refine a_icmp_ge (tgt := 53) dX4_removeAt_30 (by decide) (fun c_30 => absurd c_30 (by rw [hn]; have := aL_le 13 c; exact nI_ge (by omega) (by omega))) (fun c_30 => ?_)
    refine a_aload_n dX4_removeAt_33 rfl ?_
    refine c_getR (t := 3) (k := 0) dX4_removeAt_34 kw_70 rfl ?_
    refine a_iload_n dX4_removeAt_37 rfl ?_
    refine a_aload_n dX4_removeAt_38 rfl ?_
    refine c_getR (t := 3) (k := 0) dX4_removeAt_39 kw_70 rfl ?_
    refine a_iload_n dX4_removeAt_42 rfl ?_
    refine a_iconst (v := 1) dX4_removeAt_43 (by decide) ?_
    refine a_iadd dX4_removeAt_44 ?_
    refine c_iald (i := q + 1) dX4_removeAt_45 (nI_succ q).symm (by omega) ?_
    refine c_iast (i := q) dX4_removeAt_46 rfl (by omega) ?_
    refine a_iinc_2 (u := nI (q + 1)) dX4_removeAt_47 (inc_nI q) (by decide) ?_
    refine a_goto (tgt := 25) dX4_removeAt_50 (by decide) ?_
    refine ih (q := q + 1) (by omega) (by rw [sg_t (by decide)]; exact hn) ?_
    subst hq
    have h9 := rm2_S (σ 13 c) q n
    rw [show q + 1 + n = q + (n + 1) by omega] at h9
    rw [sg_is, sga_sga, sga_same, h9]
    exact kk
set_option maxRecDepth 10000 in
theorem s_X4_removeAt {l : Launch} {w : WW} {M : Mem} {σ : Sg} {c : Nat} (hc : rl 0 3 c = true) (hd : rl 0 13 c = true) {n j : Nat} (hn : σ 3 c 1 = nI n) (hj : j < n) (hle : n ≤ aL 13 c) : Can l w yX4_removeAt cX4_removeAt 3 none (rmd 1) [.ref (ad w 0 3 c), .int (nI j)] (zx w M 0 σ) (RV (zx w M 0 (rowRmv σ c j n))) := by
  refine Can.go (ls := [some (.ref (ad w 0 3 c)), some (.int (nI j)), none]) ?_
  have hb := aL_le 13 c
  refine a_iload_n dX4_removeAt_0 rfl ?_
  refine a_if_lt (tgt := 12) dX4_removeAt_1 (by decide) (fun c_1 => absurd c_1 (nI_pos (by omega))) (fun c_1 => ?_)
  refine a_iload_n dX4_removeAt_4 rfl ?_
  refine a_aload_n dX4_removeAt_5 rfl ?_
  refine c_getI (t := 3) (k := 1) dX4_removeAt_6 kw_168 ?_
  refine a_icmp_lt (tgt := 13) dX4_removeAt_9 (by decide) (fun c_9 => ?_) (fun c_9 => absurd (by rw [hn]; exact nI_lt hj (by omega)) c_9)
  refine a_aload_n dX4_removeAt_13 rfl ?_
  refine a_dup dX4_removeAt_14 rfl ?_
  refine c_getI (t := 3) (k := 1) dX4_removeAt_15 kw_168 ?_
  refine a_iconst (v := 1) dX4_removeAt_18 (by decide) ?_
  refine a_isub dX4_removeAt_19 ?_
  refine c_putI (t := 3) (k := 1) dX4_removeAt_20 kw_168 ?_
  refine a_iload_n dX4_removeAt_23 rfl ?_
  refine a_istore_2 dX4_removeAt_24 (by decide) ?_
  rw [hn, show nI n - 1 = nI (n - 1) by rw [← nI_pred (n - 1), Nat.sub_add_cancel (by omega)]]
  obtain ⟨m, hm⟩ := Nat.exists_eq_add_of_le (show j ≤ n - 1 by omega)
  refine L_X4_removeAt hc hd (by omega) m hm.symm (sg_same _ _ _ _ _) ?_
  exact c_vret dX4_removeAt_53 ⟨rfl, by rw [sg_t (by decide), rmv_of, sg_is, sga_comm (by decide)]; unfold rowRmv; rw [sg_is, sga_t (by decide)]⟩
set_option maxRecDepth 10000 in
theorem s_X4_replaceFirst {l : Launch} {w : WW} {M : Mem} {σ : Sg} {c : Nat} (hc : rl 0 3 c = true) (hd : rl 0 13 c = true) {n : Nat} {v : Int32} (hn : σ 3 c 1 = nI n) (h0 : 0 < n) (hle : n ≤ aL 13 c) : Can l w yX4_replaceFirst cX4_replaceFirst 2 none (rmd 2) [.ref (ad w 0 3 c), .int v] (zx w M 0 σ) (RV (zx w M 0 (sg σ 13 c 0 v))) := by
  refine Can.go (ls := [some (.ref (ad w 0 3 c)), some (.int v)]) ?_
  refine a_aload_n dX4_replaceFirst_0 rfl ?_
  refine a_iconst (v := 0) dX4_replaceFirst_1 (by decide) ?_
  refine c_V1V dX4_replaceFirst_2 kw_310 kv_X4_removeAt (s_X4_removeAt (j := 0) hc hd hn h0 hle) ?_
  refine a_aload_n dX4_replaceFirst_5 rfl ?_
  refine a_iconst (v := 0) dX4_replaceFirst_6 (by decide) ?_
  refine a_iload_n dX4_replaceFirst_7 rfl ?_
  refine c_V2V dX4_replaceFirst_8 kw_215 kv_X4_insert (s_X4_insert (j := 0) (n := n - 1) hc hd (sg_same _ _ _ _ _) (Nat.zero_le _) (by omega)) ?_
  exact c_vret dX4_replaceFirst_11 ⟨rfl, by rw [repl_of hn h0]⟩
end
section
set_option maxRecDepth 10000 in
theorem s_X1_become {l : Launch} {w : WW} {M : Mem} {σ : Sg} {c : Nat} (hc : c < 16) {a b : Int32} : Can l w yX1_become cX1_become 3 none (rmd 1) [.ref (ad w 0 1 c), .int a, .int b] (zx w M 0 σ) (RV (zx w M 0 (become σ c a b))) := by
  refine Can.go (ls := [some (.ref (ad w 0 1 c)), some (.int a), some (.int b)]) ?_
  obtain ⟨h1, h14, h15⟩ := rl_ch hc
  refine a_aload_n dX1_become_0 rfl ?_
  refine a_iload_n dX1_become_1 rfl ?_
  refine c_putI (t := 1) (k := 2) dX1_become_2 kw_160 ?_
  refine a_aload_n dX1_become_5 rfl ?_
  refine a_iload_n dX1_become_6 rfl ?_
  refine c_putI (t := 1) (k := 3) dX1_become_7 kw_161 ?_
  exact c_vret dX1_become_10 ⟨rfl, rfl⟩
set_option maxRecDepth 10000 in
theorem s_X1_dropReviews {l : Launch} {w : WW} {M : Mem} {σ : Sg} {c : Nat} (hc : c < 16)  : Can l w yX1_dropReviews cX1_dropReviews 1 none (rmd 1) [.ref (ad w 0 1 c)] (zx w M 0 σ) (RV (zx w M 0 (dropR σ c))) := by
  refine Can.go (ls := [some (.ref (ad w 0 1 c))]) ?_
  obtain ⟨h1, h14, h15⟩ := rl_ch hc
  refine a_aload_n dX1_dropReviews_0 rfl ?_
  refine a_iconst (v := 0) dX1_dropReviews_1 (by decide) ?_
  refine c_putI (t := 1) (k := 4) dX1_dropReviews_2 kw_162 ?_
  refine a_aload_n dX1_dropReviews_5 rfl ?_
  refine a_iconst (v := 0) dX1_dropReviews_6 (by decide) ?_
  refine c_putI (t := 1) (k := 5) dX1_dropReviews_7 kw_163 ?_
  exact c_vret dX1_dropReviews_10 ⟨rfl, rfl⟩
set_option maxRecDepth 10000 in
theorem s_X1_setContent {l : Launch} {w : WW} {M : Mem} {σ : Sg} {c : Nat} (hc : c < 16) {p : Nat} {v : Int32} (hp : p < 6) : Can l w yX1_setContent cX1_setContent 3 none (rmd 2) [.ref (ad w 0 1 c), .int (nI p), .int v] (zx w M 0 σ) (RV (zx w M 0 (dropR (sg σ 15 c p v) c))) := by
  refine Can.go (ls := [some (.ref (ad w 0 1 c)), some (.int (nI p)), some (.int v)]) ?_
  obtain ⟨h1, h14, h15⟩ := rl_ch hc
  refine a_aload_n dX1_setContent_0 rfl ?_
  refine c_getR (t := 1) (k := 1) dX1_setContent_1 kw_82 rfl ?_
  refine a_iload_n dX1_setContent_4 rfl ?_
  refine a_iload_n dX1_setContent_5 rfl ?_
  refine c_iast (i := p) dX1_setContent_6 rfl hp ?_
  refine a_aload_n dX1_setContent_7 rfl ?_
  refine c_V0V dX1_setContent_8 kw_194 kv_X1_dropReviews (s_X1_dropReviews hc) ?_
  exact c_vret dX1_setContent_11 ⟨rfl, rfl⟩
set_option maxRecDepth 10000 in
theorem s_X1_addSupporter {l : Launch} {w : WW} {M : Mem} {σ : Sg} {c : Nat} (hc : c < 16) {r : Int32} : Can l w yX1_addSupporter cX1_addSupporter 2 none (rmd 1) [.ref (ad w 0 1 c), .int r] (zx w M 0 σ) (RV (zx w M 0 (addF σ c r))) := by
  refine Can.go (ls := [some (.ref (ad w 0 1 c)), some (.int r)]) ?_
  obtain ⟨h1, h14, h15⟩ := rl_ch hc
  refine a_aload_n dX1_addSupporter_0 rfl ?_
  refine a_dup dX1_addSupporter_1 rfl ?_
  refine c_getI (t := 1) (k := 4) dX1_addSupporter_2 kw_162 ?_
  refine a_iconst (v := 1) dX1_addSupporter_5 (by decide) ?_
  refine a_iload_n dX1_addSupporter_6 rfl ?_
  refine a_ishl dX1_addSupporter_7 ?_
  refine a_ior dX1_addSupporter_8 ?_
  refine c_putI (t := 1) (k := 4) dX1_addSupporter_9 kw_162 ?_
  refine a_aload_n dX1_addSupporter_12 rfl ?_
  refine a_dup dX1_addSupporter_13 rfl ?_
  refine c_getI (t := 1) (k := 5) dX1_addSupporter_14 kw_163 ?_
  refine a_iconst (v := 1) dX1_addSupporter_17 (by decide) ?_
  refine a_iload_n dX1_addSupporter_18 rfl ?_
  refine a_ishl dX1_addSupporter_19 ?_
  refine a_iconst (v := (-1)) dX1_addSupporter_20 (by decide) ?_
  refine a_ixor dX1_addSupporter_21 ?_
  refine a_iand dX1_addSupporter_22 ?_
  refine c_putI (t := 1) (k := 5) dX1_addSupporter_23 kw_163 ?_
  exact c_vret dX1_addSupporter_26 ⟨rfl, by rw [sg_k (by decide)]; rfl⟩
set_option maxRecDepth 10000 in
theorem s_X1_addOpponent {l : Launch} {w : WW} {M : Mem} {σ : Sg} {c : Nat} (hc : c < 16) {r : Int32} : Can l w yX1_addOpponent cX1_addOpponent 2 none (rmd 1) [.ref (ad w 0 1 c), .int r] (zx w M 0 σ) (RV (zx w M 0 (addA σ c r))) := by
  refine Can.go (ls := [some (.ref (ad w 0 1 c)), some (.int r)]) ?_
  obtain ⟨h1, h14, h15⟩ := rl_ch hc
  refine a_aload_n dX1_addOpponent_0 rfl ?_
  refine a_dup dX1_addOpponent_1 rfl ?_
  refine c_getI (t := 1) (k := 5) dX1_addOpponent_2 kw_163 ?_
  refine a_iconst (v := 1) dX1_addOpponent_5 (by decide) ?_
  refine a_iload_n dX1_addOpponent_6 rfl ?_
  refine a_ishl dX1_addOpponent_7 ?_
  refine a_ior dX1_addOpponent_8 ?_
  refine c_putI (t := 1) (k := 5) dX1_addOpponent_9 kw_163 ?_
  refine a_aload_n dX1_addOpponent_12 rfl ?_
  refine a_dup dX1_addOpponent_13 rfl ?_
  refine c_getI (t := 1) (k := 4) dX1_addOpponent_14 kw_162 ?_
  refine a_iconst (v := 1) dX1_addOpponent_17 (by decide) ?_
  refine a_iload_n dX1_addOpponent_18 rfl ?_
  refine a_ishl dX1_addOpponent_19 ?_
  refine a_iconst (v := (-1)) dX1_addOpponent_20 (by decide) ?_
  refine a_ixor dX1_addOpponent_21 ?_
  refine a_iand dX1_addOpponent_22 ?_
  refine c_putI (t := 1) (k := 4) dX1_addOpponent_23 kw_162 ?_
  exact c_vret dX1_addOpponent_26 ⟨rfl, by rw [sg_k (by decide)]; rfl⟩
set_option maxRecDepth 10000 in
theorem s_X1_countFor {l : Launch} {w : WW} {M : Mem} {σ : Sg} {c : Nat} (hc : c < 16)  : Can l w yX1_countFor cX1_countFor 1 (some .int) (rmd 2) [.ref (ad w 0 1 c)] (zx w M 0 σ) (RI (bitc (σ 1 c 4)) (zx w M 0 σ)) := by
  refine Can.go (ls := [some (.ref (ad w 0 1 c))]) ?_
  obtain ⟨h1, h14, h15⟩ := rl_ch hc
  refine a_aload_n dX1_countFor_0 rfl ?_
  refine c_getI (t := 1) (k := 4) dX1_countFor_1 kw_162 ?_
  refine c_S1I dX1_countFor_4 kw_594 ks_J6_bitCount_0f7a4 s_J6_bitCount_0f7a4 ?_
  exact c_iret dX1_countFor_7 ⟨rfl, rfl⟩
set_option maxRecDepth 10000 in
theorem s_X1_countAgainst {l : Launch} {w : WW} {M : Mem} {σ : Sg} {c : Nat} (hc : c < 16)  : Can l w yX1_countAgainst cX1_countAgainst 1 (some .int) (rmd 2) [.ref (ad w 0 1 c)] (zx w M 0 σ) (RI (bitc (σ 1 c 5)) (zx w M 0 σ)) := by
  refine Can.go (ls := [some (.ref (ad w 0 1 c))]) ?_
  obtain ⟨h1, h14, h15⟩ := rl_ch hc
  refine a_aload_n dX1_countAgainst_0 rfl ?_
  refine c_getI (t := 1) (k := 5) dX1_countAgainst_1 kw_163 ?_
  refine c_S1I dX1_countAgainst_4 kw_594 ks_J6_bitCount_0f7a4 s_J6_bitCount_0f7a4 ?_
  exact c_iret dX1_countAgainst_7 ⟨rfl, rfl⟩
set_option maxRecDepth 10000 in
theorem L_X1_conflictsWith {l : Launch} {w : WW} {Φ : Option Value → XX → Prop} {M : Mem} {σ : Sg} {c t : Nat} (hc : c < 16) (ht : ¬ t < 8) (hk : aK t = 0) (hL : aL t 0 = 6) (ho : rl 0 t 0 = true) : ∀ (n : Nat) {j : Nat} {v3 : Option Value}, j + n = 6 → Φ (some (.int (bi (anyU (cfl (σ 14 c) (σ 15 c) (σ t 0)) n j)))) (zx w M 0 σ) → A l w yX1_conflictsWith cX1_conflictsWith 4 (some .boolean) (rmd 1) Φ 2 [some (.ref (ad w 0 1 c)), some (.ref (ad w 0 t 0)), some (.int (nI j)), v3] [] (zx w M 0 σ) 0 0 := by
  intro n
  induction n with
  | zero =>
    intro j v3 hj h
    obtain ⟨h1, h14, h15⟩ := rl_ch hc
    refine a_iload_n dX1_conflictsWith_2 rfl ?_
    refine a_bipush (v := 6) dX1_conflictsWith_3 (by decide) ?_
    refine a_icmp_ge (tgt := 65) dX1_conflictsWith_5 (by decide) (fun c_5 => ?_) (fun c_5 => absurd (by have e6 : j = 6 := (by omega); subst e6; decide) c_5)
    refine a_iconst (v := 0) dX1_conflictsWith_65 (by decide) ?_
    exact c_zret dX1_conflictsWith_66 h
  | succ n ih =>
    intro j v3 hj h
    obtain ⟨h1, h14, h15⟩ := rl_ch hc
    refine a_iload_n dX1_conflictsWith_2 rfl ?_
    refine a_bipush (v := 6) dX1_conflictsWith_3 (by decide) ?_
    refine a_icmp_ge (tgt := 65) dX1_conflictsWith_5 (by decide) (fun c_5 => absurd c_5 (nI_ge (b := 6) (by omega) (by omega))) (fun c_5 => ?_)
    refine a_aload_n dX1_conflictsWith_8 rfl ?_
    refine c_getR (t := 1) (k := 1) dX1_conflictsWith_9 kw_82 rfl ?_
    refine a_iload_n dX1_conflictsWith_12 rfl ?_
    refine c_iald (i := j) dX1_conflictsWith_13 rfl (show j < 6 by omega) ?_
    refine a_aload_n dX1_conflictsWith_14 rfl ?_
    refine c_getR (t := 1) (k := 0) dX1_conflictsWith_15 kw_81 rfl ?_
    refine a_iload_n dX1_conflictsWith_18 rfl ?_
    refine c_iald (i := j) dX1_conflictsWith_19 rfl (show j < 6 by omega) ?_
    refine a_icmp_eq (tgt := 27) dX1_conflictsWith_20 (by decide) (fun c_20 => ?_) (fun c_20 => ?_)
    · refine a_iconst (v := 0) dX1_conflictsWith_27 (by decide) ?_
      refine a_istore_3 dX1_conflictsWith_28 (by decide) ?_
      refine a_iload_n dX1_conflictsWith_29 rfl ?_
      refine a_if_eq (tgt := 59) dX1_conflictsWith_30 (by decide) (fun c_30 => ?_) (fun c_30 => ?_)
      · refine a_iinc_2 (u := nI (j + 1)) dX1_conflictsWith_59 (inc_nI j) (by decide) ?_
        refine a_goto (tgt := 2) dX1_conflictsWith_62 (by decide) ?_
        first | exact absurd rfl c_30 | exact absurd c_30 (by decide) | (refine ih (by omega) ?_; have h9 : cfl (σ 14 c) (σ 15 c) (σ t 0) j = false := (by simp_all [cfl]); rw [anyU, h9, Bool.false_or] at h; exact h)
      · refine a_aload_n dX1_conflictsWith_33 rfl ?_
        refine a_iload_n dX1_conflictsWith_34 rfl ?_
        refine c_iald (i := j) dX1_conflictsWith_35 rfl (by rw [hL]; omega) ?_
        refine a_aload_n dX1_conflictsWith_36 rfl ?_
        refine c_getR (t := 1) (k := 0) dX1_conflictsWith_37 kw_81 rfl ?_
        refine a_iload_n dX1_conflictsWith_40 rfl ?_
        refine c_iald (i := j) dX1_conflictsWith_41 rfl (show j < 6 by omega) ?_
        refine a_icmp_eq (tgt := 59) dX1_conflictsWith_42 (by decide) (fun c_42 => ?_) (fun c_42 => ?_)
        · refine a_iinc_2 (u := nI (j + 1)) dX1_conflictsWith_59 (inc_nI j) (by decide) ?_
          refine a_goto (tgt := 2) dX1_conflictsWith_62 (by decide) ?_
          first | exact absurd rfl c_30 | exact absurd c_30 (by decide) | (refine ih (by omega) ?_; have h9 : cfl (σ 14 c) (σ 15 c) (σ t 0) j = false := (by simp_all [cfl]); rw [anyU, h9, Bool.false_or] at h; exact h)
        · refine a_aload_n dX1_conflictsWith_45 rfl ?_
          refine a_iload_n dX1_conflictsWith_46 rfl ?_
          refine c_iald (i := j) dX1_conflictsWith_47 rfl (by rw [hL]; omega) ?_
          refine a_aload_n dX1_conflictsWith_48 rfl ?_
          refine c_getR (t := 1) (k := 1) dX1_conflictsWith_49 kw_82 rfl ?_
          refine a_iload_n dX1_conflictsWith_52 rfl ?_
          refine c_iald (i := j) dX1_conflictsWith_53 rfl (show j < 6 by omega) ?_
          refine a_icmp_eq (tgt := 59) dX1_conflictsWith_54 (by decide) (fun c_54 => ?_) (fun c_54 => ?_)
          · refine a_iinc_2 (u := nI (j + 1)) dX1_conflictsWith_59 (inc_nI j) (by decide) ?_
            refine a_goto (tgt := 2) dX1_conflictsWith_62 (by decide) ?_
            first | exact absurd rfl c_30 | exact absurd c_30 (by decide) | (refine ih (by omega) ?_; have h9 : cfl (σ 14 c) (σ 15 c) (σ t 0) j = false := (by simp_all [cfl]); rw [anyU, h9, Bool.false_or] at h; exact h)
          · refine a_iconst (v := 1) dX1_conflictsWith_57 (by decide) ?_
            exact c_zret dX1_conflictsWith_58 (by first | exact absurd rfl c_30 | exact absurd c_30 (by decide) | (have h9 : cfl (σ 14 c) (σ 15 c) (σ t 0) j = true := (by simp_all [cfl]); have h8 := h; rw [anyU, h9, Bool.true_or] at h8; exact h8))
    · refine a_iconst (v := 1) dX1_conflictsWith_23 (by decide) ?_
      refine a_goto (tgt := 28) dX1_conflictsWith_24 (by decide) ?_
      refine a_istore_3 dX1_conflictsWith_28 (by decide) ?_
      refine a_iload_n dX1_conflictsWith_29 rfl ?_
      refine a_if_eq (tgt := 59) dX1_conflictsWith_30 (by decide) (fun c_30 => ?_) (fun c_30 => ?_)
      · refine a_iinc_2 (u := nI (j + 1)) dX1_conflictsWith_59 (inc_nI j) (by decide) ?_
        refine a_goto (tgt := 2) dX1_conflictsWith_62 (by decide) ?_
        first | exact absurd rfl c_30 | exact absurd c_30 (by decide) | (refine ih (by omega) ?_; have h9 : cfl (σ 14 c) (σ 15 c) (σ t 0) j = false := (by simp_all [cfl]); rw [anyU, h9, Bool.false_or] at h; exact h)
      · refine a_aload_n dX1_conflictsWith_33 rfl ?_
        refine a_iload_n dX1_conflictsWith_34 rfl ?_
        refine c_iald (i := j) dX1_conflictsWith_35 rfl (by rw [hL]; omega) ?_
        refine a_aload_n dX1_conflictsWith_36 rfl ?_
        refine c_getR (t := 1) (k := 0) dX1_conflictsWith_37 kw_81 rfl ?_
        refine a_iload_n dX1_conflictsWith_40 rfl ?_
        refine c_iald (i := j) dX1_conflictsWith_41 rfl (show j < 6 by omega) ?_
        refine a_icmp_eq (tgt := 59) dX1_conflictsWith_42 (by decide) (fun c_42 => ?_) (fun c_42 => ?_)
        · refine a_iinc_2 (u := nI (j + 1)) dX1_conflictsWith_59 (inc_nI j) (by decide) ?_
          refine a_goto (tgt := 2) dX1_conflictsWith_62 (by decide) ?_
          first | exact absurd rfl c_30 | exact absurd c_30 (by decide) | (refine ih (by omega) ?_; have h9 : cfl (σ 14 c) (σ 15 c) (σ t 0) j = false := (by simp_all [cfl]); rw [anyU, h9, Bool.false_or] at h; exact h)
        · refine a_aload_n dX1_conflictsWith_45 rfl ?_
          refine a_iload_n dX1_conflictsWith_46 rfl ?_
          refine c_iald (i := j) dX1_conflictsWith_47 rfl (by rw [hL]; omega) ?_
          refine a_aload_n dX1_conflictsWith_48 rfl ?_
          refine c_getR (t := 1) (k := 1) dX1_conflictsWith_49 kw_82 rfl ?_
          refine a_iload_n dX1_conflictsWith_52 rfl ?_
          refine c_iald (i := j) dX1_conflictsWith_53 rfl (show j < 6 by omega) ?_
          refine a_icmp_eq (tgt := 59) dX1_conflictsWith_54 (by decide) (fun c_54 => ?_) (fun c_54 => ?_)
          · refine a_iinc_2 (u := nI (j + 1)) dX1_conflictsWith_59 (inc_nI j) (by decide) ?_
            refine a_goto (tgt := 2) dX1_conflictsWith_62 (by decide) ?_
            first | exact absurd rfl c_30 | exact absurd c_30 (by decide) | (refine ih (by omega) ?_; have h9 : cfl (σ 14 c) (σ 15 c) (σ t 0) j = false := (by simp_all [cfl]); rw [anyU, h9, Bool.false_or] at h; exact h)
          · refine a_iconst (v := 1) dX1_conflictsWith_57 (by decide) ?_
            exact c_zret dX1_conflictsWith_58 (by first | exact absurd rfl c_30 | exact absurd c_30 (by decide) | (have h9 : cfl (σ 14 c) (σ 15 c) (σ t 0) j = true := (by simp_all [cfl]); have h8 := h; rw [anyU, h9, Bool.true_or] at h8; exact h8))
set_option maxRecDepth 10000 in
theorem s_X1_conflictsWith {l : Launch} {w : WW} {M : Mem} {σ : Sg} {c : Nat} (hc : c < 16) {t : Nat} (ht : ¬ t < 8) (hk : aK t = 0) (hL : aL t 0 = 6) (ho : rl 0 t 0 = true) : Can l w yX1_conflictsWith cX1_conflictsWith 4 (some .boolean) (rmd 1) [.ref (ad w 0 1 c), .ref (ad w 0 t 0)] (zx w M 0 σ) (RI (bi (anyU (cfl (σ 14 c) (σ 15 c) (σ t 0)) 6 0)) (zx w M 0 σ)) := by
  refine Can.go (ls := [some (.ref (ad w 0 1 c)), some (.ref (ad w 0 t 0)), none, none]) ?_
  obtain ⟨h1, h14, h15⟩ := rl_ch hc
  refine a_iconst (v := 0) dX1_conflictsWith_0 (by decide) ?_
  refine a_istore_2 dX1_conflictsWith_1 (by decide) ?_
  exact L_X1_conflictsWith hc ht hk hL ho 6 rfl ⟨rfl, rfl⟩
set_option maxRecDepth 10000 in
theorem L_X1_mergeInto {l : Launch} {w : WW} {Φ : Option Value → XX → Prop} {M : Mem} {σ : Sg} {c : Nat} (hc : c < 16) : ∀ (n : Nat) {j : Nat}, j + n = 6 → A l w yX1_mergeInto cX1_mergeInto 3 none (rmd 1) Φ 38 [some (.ref (ad w 0 1 c)), some (.ref (ad w 0 9 0)), some (.int (nI 6))] [] (zx w M 0 (sga σ 9 0 (mixN 6 (mrg (σ 14 c) (σ 15 c) (σ 9 0)) (σ 9 0)))) 0 0 → A l w yX1_mergeInto cX1_mergeInto 3 none (rmd 1) Φ 2 [some (.ref (ad w 0 1 c)), some (.ref (ad w 0 9 0)), some (.int (nI j))] [] (zx w M 0 (sga σ 9 0 (mixN j (mrg (σ 14 c) (σ 15 c) (σ 9 0)) (σ 9 0)))) 0 0 := by
  intro n
  induction n with
  | zero =>
    intro j hj kk
    obtain ⟨h1, h14, h15⟩ := rl_ch hc
    refine a_iload_n dX1_mergeInto_2 rfl ?_
    refine a_bipush (v := 6) dX1_mergeInto_3 (by decide) ?_
    refine a_icmp_ge (tgt := 38) dX1_mergeInto_5 (by decide) (fun c_5 => ?_) (fun c_5 => absurd (by have e6 : j = 6 := (by omega); subst e6; decide) c_5)
    obtain rfl : j = 6 := by omega
    exact kk
  | succ n ih =>
    intro j hj kk
    obtain ⟨h1, h14, h15⟩ := rl_ch hc
    refine a_iload_n dX1_mergeInto_2 rfl ?_
    refine a_bipush (v := 6) dX1_mergeInto_3 (by decide) ?_
    refine a_icmp_ge (tgt := 38) dX1_mergeInto_5 (by decide) (fun c_5 => absurd c_5 (nI_ge (b := 6) (by omega) (by omega))) (fun c_5 => ?_)
    refine a_aload_n dX1_mergeInto_8 rfl ?_
    refine c_getR (t := 1) (k := 1) dX1_mergeInto_9 kw_82 rfl ?_
    refine a_iload_n dX1_mergeInto_12 rfl ?_
    refine c_iald (i := j) dX1_mergeInto_13 rfl (show j < 6 by omega) ?_
    refine a_aload_n dX1_mergeInto_14 rfl ?_
    refine c_getR (t := 1) (k := 0) dX1_mergeInto_15 kw_81 rfl ?_
    refine a_iload_n dX1_mergeInto_18 rfl ?_
    refine c_iald (i := j) dX1_mergeInto_19 rfl (show j < 6 by omega) ?_
    refine a_icmp_eq (tgt := 32) dX1_mergeInto_20 (by decide) (fun c_20 => ?_) (fun c_20 => ?_)
    · refine a_iinc_2 (u := nI (j + 1)) dX1_mergeInto_32 (inc_nI j) (by decide) ?_
      refine a_goto (tgt := 2) dX1_mergeInto_35 (by decide) ?_
      rw [sga_t (by decide), sga_t (by decide)] at c_20
      have h9 := @mixN_skip j (mrg (σ 14 c) (σ 15 c) (σ 9 0)) (σ 9 0)
      first
        | (rw [← h9 (if_pos c_20)]; exact ih (by omega) kk)
        | (rw [sga_t (by decide), sg_sga, ← show (mrg (σ 14 c) (σ 15 c) (σ 9 0)) j = σ 15 c j from if_neg c_20, mixN_up]; exact ih (by omega) kk)
    · refine a_aload_n dX1_mergeInto_23 rfl ?_
      refine a_iload_n dX1_mergeInto_24 rfl ?_
      refine a_aload_n dX1_mergeInto_25 rfl ?_
      refine c_getR (t := 1) (k := 1) dX1_mergeInto_26 kw_82 rfl ?_
      refine a_iload_n dX1_mergeInto_29 rfl ?_
      refine c_iald (i := j) dX1_mergeInto_30 rfl (show j < 6 by omega) ?_
      refine c_iast (i := j) dX1_mergeInto_31 rfl (show j < 6 by omega) ?_
      refine a_iinc_2 (u := nI (j + 1)) dX1_mergeInto_32 (inc_nI j) (by decide) ?_
      refine a_goto (tgt := 2) dX1_mergeInto_35 (by decide) ?_
      rw [sga_t (by decide), sga_t (by decide)] at c_20
      have h9 := @mixN_skip j (mrg (σ 14 c) (σ 15 c) (σ 9 0)) (σ 9 0)
      first
        | (rw [← h9 (if_pos c_20)]; exact ih (by omega) kk)
        | (rw [sga_t (by decide), sg_sga, ← show (mrg (σ 14 c) (σ 15 c) (σ 9 0)) j = σ 15 c j from if_neg c_20, mixN_up]; exact ih (by omega) kk)
set_option maxRecDepth 10000 in
theorem s_X1_mergeInto {l : Launch} {w : WW} {M : Mem} {σ : Sg} {c : Nat} (hc : c < 16)  : Can l w yX1_mergeInto cX1_mergeInto 3 none (rmd 1) [.ref (ad w 0 1 c), .ref (ad w 0 9 0)] (zx w M 0 σ) (RV (zx w M 0 (sga σ 9 0 (mrg (σ 14 c) (σ 15 c) (σ 9 0))))) := by
  refine Can.go (ls := [some (.ref (ad w 0 1 c)), some (.ref (ad w 0 9 0)), none]) ?_
  obtain ⟨h1, h14, h15⟩ := rl_ch hc
  refine a_iconst (v := 0) dX1_mergeInto_0 (by decide) ?_
  refine a_istore_2 dX1_mergeInto_1 (by decide) ?_
  refine a_eq (x' := zx w M 0 (sga σ 9 0 (mixN 0 (mrg (σ 14 c) (σ 15 c) (σ 9 0)) (σ 9 0)))) (by rw [mixN_0, sga_eta]) ?_
  refine L_X1_mergeInto hc 6 rfl ?_
  refine c_junk (M' := M) (σ' := sga σ 9 0 (mrg (σ 14 c) (σ 15 c) (σ 9 0))) (junkA (by decide) (fun k hk => (if_pos hk).symm)) ?_
  exact c_vret dX1_mergeInto_38 ⟨rfl, rfl⟩
set_option maxRecDepth 10000 in
theorem L_X1_moveOnto {l : Launch} {w : WW} {Φ : Option Value → XX → Prop} {M : Mem} {σ : Sg} {c : Nat} (hc : c < 16) : ∀ (n : Nat) {j : Nat}, j + n = 6 → A l w yX1_moveOnto cX1_moveOnto 3 none (rmd 2) Φ 38 [some (.ref (ad w 0 1 c)), some (.ref (ad w 0 8 0)), some (.int (nI 6))] [] (zx w M 0 (sga σ 15 c (mixN 6 (reb (σ 14 c) (σ 15 c) (σ 8 0)) (σ 15 c)))) 0 0 → A l w yX1_moveOnto cX1_moveOnto 3 none (rmd 2) Φ 2 [some (.ref (ad w 0 1 c)), some (.ref (ad w 0 8 0)), some (.int (nI j))] [] (zx w M 0 (sga σ 15 c (mixN j (reb (σ 14 c) (σ 15 c) (σ 8 0)) (σ 15 c)))) 0 0 := by
  intro n
  induction n with
  | zero =>
    intro j hj kk
    obtain ⟨h1, h14, h15⟩ := rl_ch hc
    refine a_iload_n dX1_moveOnto_2 rfl ?_
    refine a_bipush (v := 6) dX1_moveOnto_3 (by decide) ?_
    refine a_icmp_ge (tgt := 38) dX1_moveOnto_5 (by decide) (fun c_5 => ?_) (fun c_5 => absurd (by have e6 : j = 6 := (by omega); subst e6; decide) c_5)
    obtain rfl : j = 6 := by omega
    exact kk
  | succ n ih =>
    intro j hj kk
    obtain ⟨h1, h14, h15⟩ := rl_ch hc
    refine a_iload_n dX1_moveOnto_2 rfl ?_
    refine a_bipush (v := 6) dX1_moveOnto_3 (by decide) ?_
    refine a_icmp_ge (tgt := 38) dX1_moveOnto_5 (by decide) (fun c_5 => absurd c_5 (nI_ge (b := 6) (by omega) (by omega))) (fun c_5 => ?_)
    refine a_aload_n dX1_moveOnto_8 rfl ?_
    refine c_getR (t := 1) (k := 1) dX1_moveOnto_9 kw_82 rfl ?_
    refine a_iload_n dX1_moveOnto_12 rfl ?_
    refine c_iald (i := j) dX1_moveOnto_13 rfl (show j < 6 by omega) ?_
    refine a_aload_n dX1_moveOnto_14 rfl ?_
    refine c_getR (t := 1) (k := 0) dX1_moveOnto_15 kw_81 rfl ?_
    refine a_iload_n dX1_moveOnto_18 rfl ?_
    refine c_iald (i := j) dX1_moveOnto_19 rfl (show j < 6 by omega) ?_
    refine a_icmp_ne (tgt := 32) dX1_moveOnto_20 (by decide) (fun c_20 => ?_) (fun c_20 => ?_)
    · refine a_iinc_2 (u := nI (j + 1)) dX1_moveOnto_32 (inc_nI j) (by decide) ?_
      refine a_goto (tgt := 2) dX1_moveOnto_35 (by decide) ?_
      rw [sga_same, mixN_at (Nat.le_refl j), sga_t (by decide)] at c_20
      have h9 := @mixN_skip j (reb (σ 14 c) (σ 15 c) (σ 8 0)) (σ 15 c)
      first
        | (rw [← h9 (if_neg c_20)]; exact ih (by omega) kk)
        | (have c_21 := Decidable.not_not.mp c_20; rw [sga_t (by decide), sg_sga, ← show (reb (σ 14 c) (σ 15 c) (σ 8 0)) j = σ 8 0 j from if_pos c_21, mixN_up]; exact ih (by omega) kk)
        | (rw [sga_t (by decide), sg_sga, ← show (reb (σ 14 c) (σ 15 c) (σ 8 0)) j = σ 8 0 j from if_pos c_20, mixN_up]; exact ih (by omega) kk)
    · refine a_aload_n dX1_moveOnto_23 rfl ?_
      refine c_getR (t := 1) (k := 1) dX1_moveOnto_24 kw_82 rfl ?_
      refine a_iload_n dX1_moveOnto_27 rfl ?_
      refine a_aload_n dX1_moveOnto_28 rfl ?_
      refine a_iload_n dX1_moveOnto_29 rfl ?_
      refine c_iald (i := j) dX1_moveOnto_30 rfl (show j < 6 by omega) ?_
      refine c_iast (i := j) dX1_moveOnto_31 rfl (show j < 6 by omega) ?_
      refine a_iinc_2 (u := nI (j + 1)) dX1_moveOnto_32 (inc_nI j) (by decide) ?_
      refine a_goto (tgt := 2) dX1_moveOnto_35 (by decide) ?_
      rw [sga_same, mixN_at (Nat.le_refl j), sga_t (by decide)] at c_20
      have h9 := @mixN_skip j (reb (σ 14 c) (σ 15 c) (σ 8 0)) (σ 15 c)
      first
        | (rw [← h9 (if_neg c_20)]; exact ih (by omega) kk)
        | (have c_21 := Decidable.not_not.mp c_20; rw [sga_t (by decide), sg_sga, ← show (reb (σ 14 c) (σ 15 c) (σ 8 0)) j = σ 8 0 j from if_pos c_21, mixN_up]; exact ih (by omega) kk)
        | (rw [sga_t (by decide), sg_sga, ← show (reb (σ 14 c) (σ 15 c) (σ 8 0)) j = σ 8 0 j from if_pos c_20, mixN_up]; exact ih (by omega) kk)
set_option maxRecDepth 10000 in
theorem s_X1_moveOnto {l : Launch} {w : WW} {M : Mem} {σ : Sg} {c : Nat} (hc : c < 16)  : Can l w yX1_moveOnto cX1_moveOnto 3 none (rmd 2) [.ref (ad w 0 1 c), .ref (ad w 0 8 0)] (zx w M 0 σ) (RV (zx w M 0 (moveO σ c))) := by
  refine Can.go (ls := [some (.ref (ad w 0 1 c)), some (.ref (ad w 0 8 0)), none]) ?_
  obtain ⟨h1, h14, h15⟩ := rl_ch hc
  refine a_iconst (v := 0) dX1_moveOnto_0 (by decide) ?_
  refine a_istore_2 dX1_moveOnto_1 (by decide) ?_
  refine a_eq (x' := zx w M 0 (sga σ 15 c (mixN 0 (reb (σ 14 c) (σ 15 c) (σ 8 0)) (σ 15 c)))) (by rw [mixN_0, sga_eta]) ?_
  refine L_X1_moveOnto hc 6 rfl ?_
  refine c_junk (M' := M) (σ' := sga σ 15 c (reb (σ 14 c) (σ 15 c) (σ 8 0))) (junkA (by decide) (fun k hk => (if_pos hk).symm)) ?_
  refine a_aload_n dX1_moveOnto_38 rfl ?_
  refine a_aload_n dX1_moveOnto_39 rfl ?_
  refine c_getR (t := 1) (k := 0) dX1_moveOnto_40 kw_81 rfl ?_
  refine c_N2V dX1_moveOnto_43 nw_284 ks_X7_copyNumbers s_copy ?_
  refine a_aload_n dX1_moveOnto_46 rfl ?_
  refine a_iconst (v := 0) dX1_moveOnto_47 (by decide) ?_
  refine a_iconst (v := 0) dX1_moveOnto_48 (by decide) ?_
  refine c_V2V dX1_moveOnto_49 kw_190 kv_X1_become (s_X1_become hc) ?_
  refine a_aload_n dX1_moveOnto_52 rfl ?_
  refine c_V0V dX1_moveOnto_53 kw_194 kv_X1_dropReviews (s_X1_dropReviews hc) ?_
  exact c_vret dX1_moveOnto_56 ⟨rfl, by rw [sga_t (by decide)]; rfl⟩
set_option maxRecDepth 10000 in
theorem s_X1_startFrom {l : Launch} {w : WW} {M : Mem} {σ : Sg} {c : Nat} (hc : c < 16)  : Can l w yX1_startFrom cX1_startFrom 2 none (rmd 2) [.ref (ad w 0 1 c), .ref (ad w 0 8 0)] (zx w M 0 σ) (RV (zx w M 0 (stF σ c))) := by
  refine Can.go (ls := [some (.ref (ad w 0 1 c)), some (.ref (ad w 0 8 0))]) ?_
  obtain ⟨h1, h14, h15⟩ := rl_ch hc
  refine a_aload_n dX1_startFrom_0 rfl ?_
  refine a_aload_n dX1_startFrom_1 rfl ?_
  refine c_getR (t := 1) (k := 0) dX1_startFrom_2 kw_81 rfl ?_
  refine c_N2V dX1_startFrom_5 nw_284 ks_X7_copyNumbers s_copy ?_
  refine a_aload_n dX1_startFrom_8 rfl ?_
  refine a_aload_n dX1_startFrom_9 rfl ?_
  refine c_getR (t := 1) (k := 1) dX1_startFrom_10 kw_82 rfl ?_
  refine c_N2V dX1_startFrom_13 nw_284 ks_X7_copyNumbers s_copy ?_
  refine a_aload_n dX1_startFrom_16 rfl ?_
  refine a_iconst (v := 0) dX1_startFrom_17 (by decide) ?_
  refine a_iconst (v := 0) dX1_startFrom_18 (by decide) ?_
  refine c_V2V dX1_startFrom_19 kw_190 kv_X1_become (s_X1_become hc) ?_
  refine a_aload_n dX1_startFrom_22 rfl ?_
  refine c_V0V dX1_startFrom_23 kw_194 kv_X1_dropReviews (s_X1_dropReviews hc) ?_
  exact c_vret dX1_startFrom_26 ⟨rfl, by rw [sga_t (by decide)]; rfl⟩
set_option maxRecDepth 10000 in
theorem s_X4_copyFrom {l : Launch} {w : WW} {M : Mem} {σ : Sg} {s u : Nat} (hs : s < 2) (hu2 : u < 2) (hu : u ≠ s) {c : Nat} (hc : c < 2) : Can l w yX4_copyFrom cX4_copyFrom 2 none (rmd 2) [.ref (ad w s 3 c), .ref (ad w u 3 c)] (zx w M s σ) (RV (zx w M s (cpR σ (M u) c))) := by
  refine Can.go (ls := [some (.ref (ad w s 3 c)), some (.ref (ad w u 3 c))]) ?_
  have r1 : rl s 3 c = true := by simp [rl, hs, hc]
  have r2 : rl s 13 c = true := by simp [rl, hs, hc]
  have r3 : rl u 3 c = true := by simp [rl, hu2, hc]
  have r4 : rl u 13 c = true := by simp [rl, hu2, hc]
  refine a_aload_n dX4_copyFrom_0 rfl ?_
  refine c_getR (t := 3) (k := 0) dX4_copyFrom_1 kw_70 rfl ?_
  refine a_aload_n dX4_copyFrom_4 rfl ?_
  refine c_getR (t := 3) (k := 0) dX4_copyFrom_5 kw_70 rfl ?_
  refine c_N2V dX4_copyFrom_8 nw_289 ks_X7_copyNumbers s_copyX ?_
  refine a_aload_n dX4_copyFrom_11 rfl ?_
  refine a_aload_n dX4_copyFrom_12 rfl ?_
  refine e_getI (t := 3) (k := 1) dX4_copyFrom_13 kw_168 ?_
  refine c_putI (t := 3) (k := 1) dX4_copyFrom_16 kw_168 ?_
  exact c_vret dX4_copyFrom_19 ⟨rfl, rfl⟩
set_option maxRecDepth 10000 in
theorem s_X1_copyFrom {l : Launch} {w : WW} {M : Mem} {σ : Sg} {s u : Nat} (hs : s < 2) (hu2 : u < 2) (hu : u ≠ s) {c : Nat} (hc : c < 16) : Can l w yX1_copyFrom cX1_copyFrom 2 none (rmd 2) [.ref (ad w s 1 c), .ref (ad w u 1 c)] (zx w M s σ) (RV (zx w M s (cpC σ (M u) c))) := by
  refine Can.go (ls := [some (.ref (ad w s 1 c)), some (.ref (ad w u 1 c))]) ?_
  obtain ⟨h1, h14, h15⟩ := rl_chs hs hc
  obtain ⟨g1, g14, g15⟩ := rl_chs hu2 hc
  refine a_aload_n dX1_copyFrom_0 rfl ?_
  refine c_getR (t := 1) (k := 0) dX1_copyFrom_1 kw_81 rfl ?_
  refine a_aload_n dX1_copyFrom_4 rfl ?_
  refine c_getR (t := 1) (k := 0) dX1_copyFrom_5 kw_81 rfl ?_
  refine c_N2V dX1_copyFrom_8 nw_284 ks_X7_copyNumbers s_copyX ?_
  refine a_aload_n dX1_copyFrom_11 rfl ?_
  refine c_getR (t := 1) (k := 1) dX1_copyFrom_12 kw_82 rfl ?_
  refine a_aload_n dX1_copyFrom_15 rfl ?_
  refine c_getR (t := 1) (k := 1) dX1_copyFrom_16 kw_82 rfl ?_
  refine c_N2V dX1_copyFrom_19 nw_284 ks_X7_copyNumbers s_copyX ?_
  refine a_aload_n dX1_copyFrom_22 rfl ?_
  refine a_aload_n dX1_copyFrom_23 rfl ?_
  refine e_getI (t := 1) (k := 2) dX1_copyFrom_24 kw_160 ?_
  refine c_putI (t := 1) (k := 2) dX1_copyFrom_27 kw_160 ?_
  refine a_aload_n dX1_copyFrom_30 rfl ?_
  refine a_aload_n dX1_copyFrom_31 rfl ?_
  refine e_getI (t := 1) (k := 3) dX1_copyFrom_32 kw_161 ?_
  refine c_putI (t := 1) (k := 3) dX1_copyFrom_35 kw_161 ?_
  refine a_aload_n dX1_copyFrom_38 rfl ?_
  refine a_aload_n dX1_copyFrom_39 rfl ?_
  refine e_getI (t := 1) (k := 4) dX1_copyFrom_40 kw_162 ?_
  refine c_putI (t := 1) (k := 4) dX1_copyFrom_43 kw_162 ?_
  refine a_aload_n dX1_copyFrom_46 rfl ?_
  refine a_aload_n dX1_copyFrom_47 rfl ?_
  refine e_getI (t := 1) (k := 5) dX1_copyFrom_48 kw_163 ?_
  refine c_putI (t := 1) (k := 5) dX1_copyFrom_51 kw_163 ?_
  exact c_vret dX1_copyFrom_54 ⟨rfl, rfl⟩
set_option maxRecDepth 10000 in
theorem s_X0_copyFrom {l : Launch} {w : WW} {M : Mem} {σ : Sg} {s u : Nat} (hs : s < 2) (hu2 : u < 2) (hu : u ≠ s)  : Can l w yX0_copyFrom cX0_copyFrom 2 none (rmd 2) [.ref (ad w s 0 0), .ref (ad w u 0 0)] (zx w M s σ) (RV (zx w M s (cpB σ (M u)))) := by
  refine Can.go (ls := [some (.ref (ad w s 0 0)), some (.ref (ad w u 0 0))]) ?_
  have r0 : rl s 0 0 = true := by simp [rl, hs]
  have q0 : rl u 0 0 = true := by simp [rl, hu2]
  have r9 : rl s 9 0 = true := by simp [rl, hs]
  have q9 : rl u 9 0 = true := by simp [rl, hu2]
  have r10 : rl s 10 0 = true := by simp [rl, hs]
  have q10 : rl u 10 0 = true := by simp [rl, hu2]
  have r11 : rl s 11 0 = true := by simp [rl, hs]
  have q11 : rl u 11 0 = true := by simp [rl, hu2]
  have r12 : rl s 12 0 = true := by simp [rl, hs]
  have q12 : rl u 12 0 = true := by simp [rl, hu2]
  refine a_aload_n dX0_copyFrom_0 rfl ?_
  refine c_getR (t := 0) (k := 0) dX0_copyFrom_1 kw_74 rfl ?_
  refine a_aload_n dX0_copyFrom_4 rfl ?_
  refine c_getR (t := 0) (k := 0) dX0_copyFrom_5 kw_74 rfl ?_
  refine c_N2V dX0_copyFrom_8 nw_294 ks_X7_copyNumbers s_copyX ?_
  refine a_aload_n dX0_copyFrom_11 rfl ?_
  refine a_aload_n dX0_copyFrom_12 rfl ?_
  refine e_getI (t := 0) (k := 1) dX0_copyFrom_13 kw_173 ?_
  refine c_putI (t := 0) (k := 1) dX0_copyFrom_16 kw_173 ?_
  refine a_aload_n dX0_copyFrom_19 rfl ?_
  refine c_getR (t := 0) (k := 2) dX0_copyFrom_20 kw_75 rfl ?_
  refine a_aload_n dX0_copyFrom_23 rfl ?_
  refine c_getR (t := 0) (k := 2) dX0_copyFrom_24 kw_75 rfl ?_
  refine c_N2V dX0_copyFrom_27 nw_294 ks_X7_copyNumbers s_copyX ?_
  refine a_aload_n dX0_copyFrom_30 rfl ?_
  refine c_getR (t := 0) (k := 3) dX0_copyFrom_31 kw_76 rfl ?_
  refine a_aload_n dX0_copyFrom_34 rfl ?_
  refine c_getR (t := 0) (k := 3) dX0_copyFrom_35 kw_76 rfl ?_
  refine c_N2V dX0_copyFrom_38 nw_294 ks_X7_copyNumbers s_copyX ?_
  refine a_aload_n dX0_copyFrom_41 rfl ?_
  refine c_getR (t := 0) (k := 4) dX0_copyFrom_42 kw_77 rfl ?_
  refine a_aload_n dX0_copyFrom_45 rfl ?_
  refine c_getR (t := 0) (k := 4) dX0_copyFrom_46 kw_77 rfl ?_
  refine c_N2V dX0_copyFrom_49 nw_294 ks_X7_copyNumbers s_copyX ?_
  exact c_vret dX0_copyFrom_52 ⟨rfl, rfl⟩
end
section
def pjI (js : Nat → Int32) : Nat → Nat → Int32 → Int32
  | 0, _, f => f
  | n + 1, j, f => pjI js n (j + 1) (if js j = 2 then f ||| sh1 (nI j) else f)
def ljC (js : Nat → Int32) (w : Int32) : Nat → Bool := fun j => inr w 4 && decide (js j = 10 + w)
def njC (p : Int32) (js : Nat → Int32) : Nat → Bool := fun j => decide (js j = 1) && decide (nd p (nI j) &&& (pjI js 4 0 0 ^^^ (-1)) = 0)
def ffC (p : Int32) (js : Nat → Int32) : Nat → Bool := fun j => decide (js j = 3) && rq p (nI j)
def hpC (p : Int32) (js : Nat → Int32) : Nat → Bool := fun j => !decide (js j = 2) && rq p (nI j)
def leasedJ (σ : Sg) (w : Int32) : Int32 := fhit (ljC (σ 10 0) w) 4 0
def nextJ (σ : Sg) : Int32 := fhit (njC (σ 9 0 0) (σ 10 0)) 4 0
def firstF (σ : Sg) : Int32 := fhit (ffC (σ 9 0 0) (σ 10 0)) 4 0
def passedR (σ : Sg) : Bool := !anyU (hpC (σ 9 0 0) (σ 10 0)) 4 0
def startB (σ : Sg) (m : Int32) : Sg := sga (sga (sg σ 0 0 1 m) 10 0 (fun j => bi (tb (σ 9 0 0) (nI j)))) 11 0 (fun _ => 0)
def endB (σ : Sg) : Sg := sga (sg σ 0 0 1 0) 10 0 (fun _ => 0)
def leaseB (σ : Sg) (j w : Nat) (e : Int32) : Sg := sg (sg (sg σ 10 0 j (10 + nI w)) 11 0 j (σ 11 0 j + 1)) 12 0 w e
def failing (p j : Int32) : Int32 := atn p j ||| sh1 j
def failF (p i : Int32) (js : Nat → Int32) : Nat → Int32 := fun k => if tb (failing p i) (nI k) = true then 3 else js k
def failJ (σ : Sg) (j : Int32) : Sg := sga σ 10 0 (failF (σ 9 0 0) j (σ 10 0))
def expireB (σ : Sg) (j : Nat) (most : Int32) : Sg := if σ 11 0 j < most then sg σ 10 0 j 1 else failJ σ (nI j)
set_option maxRecDepth 10000 in
theorem s_X3_isThere {l : Launch} {w : WW} {x : XX} {p j : Int32} : Can l w yX3_isThere cX3_isThere 2 (some .boolean) (rmd 1) [.int p, .int j] (x) (RI (bi (tb p j)) x) := by
  refine Can.go (ls := [some (.int p), some (.int j)]) ?_
  refine a_iload_n dX3_isThere_0 rfl ?_
  refine a_iload_n dX3_isThere_1 rfl ?_
  refine a_ishr dX3_isThere_2 ?_
  refine a_iconst (v := 1) dX3_isThere_3 (by decide) ?_
  refine a_iand dX3_isThere_4 ?_
  refine a_if_eq (tgt := 12) dX3_isThere_5 (by decide) (fun c_5 => ?_) (fun c_5 => ?_)
  · refine a_iconst (v := 0) dX3_isThere_12 (by decide) ?_
    exact c_zret dX3_isThere_13 ⟨by simp_all [tb, bi], rfl⟩
  · refine a_iconst (v := 1) dX3_isThere_8 (by decide) ?_
    refine a_goto (tgt := 13) dX3_isThere_9 (by decide) ?_
    exact c_zret dX3_isThere_13 ⟨by simp_all [tb, bi], rfl⟩
set_option maxRecDepth 10000 in
theorem s_X3_isRequired {l : Launch} {w : WW} {x : XX} {p j : Int32} : Can l w yX3_isRequired cX3_isRequired 2 (some .boolean) (rmd 2) [.int p, .int j] (x) (RI (bi (rq p j)) x) := by
  refine Can.go (ls := [some (.int p), some (.int j)]) ?_
  refine a_iload_n dX3_isRequired_0 rfl ?_
  refine a_iload_n dX3_isRequired_1 rfl ?_
  refine c_S2I dX3_isRequired_2 kw_266 ks_X3_isThere s_X3_isThere ?_
  refine a_if_eq (tgt := 22) dX3_isRequired_5 (by decide) (fun c_5 => ?_) (fun c_5 => ?_)
  · refine a_iconst (v := 0) dX3_isRequired_22 (by decide) ?_
    exact c_zret dX3_isRequired_23 ⟨by first | (have e5 := bi_0.mp c_5; simp [rq, e5, bi]) | (have e5 := bi_n0.mp c_5; simp_all [rq, tb, bi]), rfl⟩
  · refine a_iload_n dX3_isRequired_8 rfl ?_
    refine a_iconst (v := 4) dX3_isRequired_9 (by decide) ?_
    refine a_iload_n dX3_isRequired_10 rfl ?_
    refine a_iadd dX3_isRequired_11 ?_
    refine a_ishr dX3_isRequired_12 ?_
    refine a_iconst (v := 1) dX3_isRequired_13 (by decide) ?_
    refine a_iand dX3_isRequired_14 ?_
    refine a_if_eq (tgt := 22) dX3_isRequired_15 (by decide) (fun c_15 => ?_) (fun c_15 => ?_)
    · refine a_iconst (v := 0) dX3_isRequired_22 (by decide) ?_
      exact c_zret dX3_isRequired_23 ⟨by first | (have e5 := bi_0.mp c_5; simp [rq, e5, bi]) | (have e5 := bi_n0.mp c_5; simp_all [rq, tb, bi]), rfl⟩
    · refine a_iconst (v := 1) dX3_isRequired_18 (by decide) ?_
      refine a_goto (tgt := 23) dX3_isRequired_19 (by decide) ?_
      exact c_zret dX3_isRequired_23 ⟨by first | (have e5 := bi_0.mp c_5; simp [rq, e5, bi]) | (have e5 := bi_n0.mp c_5; simp_all [rq, tb, bi]), rfl⟩
set_option maxRecDepth 10000 in
theorem s_X3_needsOf {l : Launch} {w : WW} {x : XX} {p j : Int32} : Can l w yX3_needsOf cX3_needsOf 2 (some .int) (rmd 1) [.int p, .int j] (x) (RI (nd p j) x) := by
  refine Can.go (ls := [some (.int p), some (.int j)]) ?_
  refine a_iload_n dX3_needsOf_0 rfl ?_
  refine a_bipush (v := 8) dX3_needsOf_1 (by decide) ?_
  refine a_iconst (v := 4) dX3_needsOf_3 (by decide) ?_
  refine a_iload_n dX3_needsOf_4 rfl ?_
  refine a_imul dX3_needsOf_5 ?_
  refine a_iadd dX3_needsOf_6 ?_
  refine a_ishr dX3_needsOf_7 ?_
  refine a_bipush (v := 15) dX3_needsOf_8 (by decide) ?_
  refine a_iand dX3_needsOf_10 ?_
  exact c_iret dX3_needsOf_11 ⟨rfl, rfl⟩
set_option maxRecDepth 10000 in
theorem L_atnI {l : Launch} {w : WW} {Φ : Option Value → XX → Prop} {x : XX} {p k r : Int32} : ∀ (n : Nat) {j : Nat} {f : Int32}, j + n = 4 → A l w yX3_allThatNeed cX3_allThatNeed 5 (some .int) (rmd 2) Φ 55 [some (.int p), some (.int k), some (.int (atnI p k n j f)), some (.int r), some (.int 4)] [] x 0 0 → A l w yX3_allThatNeed cX3_allThatNeed 5 (some .int) (rmd 2) Φ 12 [some (.int p), some (.int k), some (.int f), some (.int r), some (.int (nI j))] [] x 0 0 := by
  intro n
  induction n with
  | zero =>
    intro j f hj kk
    refine a_iload dX3_allThatNeed_12 rfl ?_
    refine a_iconst (v := 4) dX3_allThatNeed_14 (by decide) ?_
    refine a_icmp_ge (tgt := 55) dX3_allThatNeed_15 (by decide) (fun c_15 => ?_) (fun c_15 => absurd (by have e6 : j = 4 := (by omega); subst e6; decide) c_15)
    have e6 : j = 4 := (by omega)
    subst e6
    exact kk
  | succ n ih =>
    intro j f hj kk
    refine a_iload dX3_allThatNeed_12 rfl ?_
    refine a_iconst (v := 4) dX3_allThatNeed_14 (by decide) ?_
    refine a_icmp_ge (tgt := 55) dX3_allThatNeed_15 (by decide) (fun c_15 => absurd c_15 (nI_ge (b := 4) (by omega) (by omega))) (fun c_15 => ?_)
    refine a_iload_n dX3_allThatNeed_18 rfl ?_
    refine a_iload dX3_allThatNeed_19 rfl ?_
    refine c_S2I dX3_allThatNeed_21 kw_266 ks_X3_isThere s_X3_isThere ?_
    refine a_if_eq (tgt := 49) dX3_allThatNeed_24 (by decide) (fun c_24 => ?_) (fun c_24 => ?_)
    · refine a_iinc_4 (u := nI (j + 1)) dX3_allThatNeed_49 (inc_nI j) (by decide) ?_
      refine a_goto (tgt := 12) dX3_allThatNeed_52 (by decide) ?_
      refine ih (by omega) ?_
      rw [atnI] at kk
      first
        | (rw [if_neg (fun h9 => absurd (bi_0.mp c_24) (by rw [h9.1]; decide))] at kk; exact kk)
        | (rw [if_pos ⟨bi_n0.mp c_24, c_39⟩] at kk; exact kk)
        | (rw [if_neg (fun h9 => h9.2 c_39)] at kk; exact kk)
    · refine a_iload_n dX3_allThatNeed_27 rfl ?_
      refine a_iload dX3_allThatNeed_28 rfl ?_
      refine c_S2I dX3_allThatNeed_30 kw_269 ks_X3_needsOf s_X3_needsOf ?_
      refine a_iload_n dX3_allThatNeed_33 rfl ?_
      refine a_iconst (v := 1) dX3_allThatNeed_34 (by decide) ?_
      refine a_iload_n dX3_allThatNeed_35 rfl ?_
      refine a_ishl dX3_allThatNeed_36 ?_
      refine a_ior dX3_allThatNeed_37 ?_
      refine a_iand dX3_allThatNeed_38 ?_
      refine a_if_eq (tgt := 49) dX3_allThatNeed_39 (by decide) (fun c_39 => ?_) (fun c_39 => ?_)
      · refine a_iinc_4 (u := nI (j + 1)) dX3_allThatNeed_49 (inc_nI j) (by decide) ?_
        refine a_goto (tgt := 12) dX3_allThatNeed_52 (by decide) ?_
        refine ih (by omega) ?_
        rw [atnI] at kk
        first
          | (rw [if_neg (fun h9 => absurd (bi_0.mp c_24) (by rw [h9.1]; decide))] at kk; exact kk)
          | (rw [if_pos ⟨bi_n0.mp c_24, c_39⟩] at kk; exact kk)
          | (rw [if_neg (fun h9 => h9.2 c_39)] at kk; exact kk)
      · refine a_iload_n dX3_allThatNeed_42 rfl ?_
        refine a_iconst (v := 1) dX3_allThatNeed_43 (by decide) ?_
        refine a_iload dX3_allThatNeed_44 rfl ?_
        refine a_ishl dX3_allThatNeed_46 ?_
        refine a_ior dX3_allThatNeed_47 ?_
        refine a_istore_2 dX3_allThatNeed_48 (by decide) ?_
        refine a_iinc_4 (u := nI (j + 1)) dX3_allThatNeed_49 (inc_nI j) (by decide) ?_
        refine a_goto (tgt := 12) dX3_allThatNeed_52 (by decide) ?_
        refine ih (by omega) ?_
        rw [atnI] at kk
        first
          | (rw [if_neg (fun h9 => absurd (bi_0.mp c_24) (by rw [h9.1]; decide))] at kk; exact kk)
          | (rw [if_pos ⟨bi_n0.mp c_24, c_39⟩] at kk; exact kk)
          | (rw [if_neg (fun h9 => h9.2 c_39)] at kk; exact kk)
set_option maxRecDepth 10000 in
theorem L_atnO {l : Launch} {w : WW} {Φ : Option Value → XX → Prop} {x : XX} {p k : Int32} : ∀ (n : Nat) {r : Nat} {f : Int32} {v4 : Option Value}, r + n = 4 → Φ (some (.int (atnO p k n f))) x → A l w yX3_allThatNeed cX3_allThatNeed 5 (some .int) (rmd 2) Φ 4 [some (.int p), some (.int k), some (.int f), some (.int (nI r)), v4] [] x 0 0 := by
  intro n
  induction n with
  | zero =>
    intro r f v4 hr h
    refine a_iload_n dX3_allThatNeed_4 rfl ?_
    refine a_iconst (v := 4) dX3_allThatNeed_5 (by decide) ?_
    refine a_icmp_ge (tgt := 61) dX3_allThatNeed_6 (by decide) (fun c_6 => ?_) (fun c_6 => absurd (by have e6 : r = 4 := (by omega); subst e6; decide) c_6)
    refine a_iload_n dX3_allThatNeed_61 rfl ?_
    exact c_iret dX3_allThatNeed_62 h
  | succ n ih =>
    intro r f v4 hr h
    refine a_iload_n dX3_allThatNeed_4 rfl ?_
    refine a_iconst (v := 4) dX3_allThatNeed_5 (by decide) ?_
    refine a_icmp_ge (tgt := 61) dX3_allThatNeed_6 (by decide) (fun c_6 => absurd c_6 (nI_ge (b := 4) (by omega) (by omega))) (fun c_6 => ?_)
    refine a_iconst (v := 0) dX3_allThatNeed_9 (by decide) ?_
    refine a_istore_4 dX3_allThatNeed_10 (by decide) ?_
    refine L_atnI 4 (j := 0) rfl ?_
    refine a_iinc_3 (u := nI (r + 1)) dX3_allThatNeed_55 (inc_nI r) (by decide) ?_
    refine a_goto (tgt := 4) dX3_allThatNeed_58 (by decide) ?_
    exact ih (by omega) h
set_option maxRecDepth 10000 in
theorem s_X3_allThatNeed {l : Launch} {w : WW} {x : XX} {p k : Int32} : Can l w yX3_allThatNeed cX3_allThatNeed 5 (some .int) (rmd 2) [.int p, .int k] (x) (RI (atn p k) x) := by
  refine Can.go (ls := [some (.int p), some (.int k), none, none, none]) ?_
  refine a_iconst (v := 0) dX3_allThatNeed_0 (by decide) ?_
  refine a_istore_2 dX3_allThatNeed_1 (by decide) ?_
  refine a_iconst (v := 0) dX3_allThatNeed_2 (by decide) ?_
  refine a_istore_3 dX3_allThatNeed_3 (by decide) ?_
  exact L_atnO 4 (r := 0) rfl ⟨rfl, rfl⟩
set_option maxRecDepth 10000 in
theorem L_v14 {l : Launch} {w : WW} {Φ : Option Value → XX → Prop} {x : XX} {p t : Int32} {j : Nat} {s : Bool} {v4 v5 : Option Value} (kk : A l w yX3_isValid cX3_isValid 6 (some .boolean) (rmd 3) Φ 32 [some (.int p), some (.int (bi (s || rq p (nI j)))), some (.int t), some (.int (nI j)), v4, v5] [] x 0 0) : A l w yX3_isValid cX3_isValid 6 (some .boolean) (rmd 3) Φ 14 [some (.int p), some (.int (bi (s))), some (.int t), some (.int (nI j)), v4, v5] [] x 0 0 := by
  refine a_iload_n dX3_isValid_14 rfl ?_
  refine a_if_ne (tgt := 26) dX3_isValid_15 (by decide) (fun c_15 => ?_) (fun c_15 => ?_)
  · refine a_iconst (v := 1) dX3_isValid_26 (by decide) ?_
    refine a_goto (tgt := 31) dX3_isValid_27 (by decide) ?_
    refine a_istore_1 dX3_isValid_31 (by decide) ?_
    first
      | (rw [bi_n0.mp c_15, Bool.true_or, bi_t] at kk; exact kk)
      | (rw [bi_n0.mp c_23, Bool.or_true, bi_t] at kk; exact kk)
      | (rw [bi_0.mp c_23, Bool.or_false, bi_0.mp c_15, bi_f] at kk; exact kk)
  · refine a_iload_n dX3_isValid_18 rfl ?_
    refine a_iload_n dX3_isValid_19 rfl ?_
    refine c_S2I dX3_isValid_20 kw_364 ks_X3_isRequired s_X3_isRequired ?_
    refine a_if_eq (tgt := 30) dX3_isValid_23 (by decide) (fun c_23 => ?_) (fun c_23 => ?_)
    · refine a_iconst (v := 0) dX3_isValid_30 (by decide) ?_
      refine a_istore_1 dX3_isValid_31 (by decide) ?_
      first
        | (rw [bi_n0.mp c_15, Bool.true_or, bi_t] at kk; exact kk)
        | (rw [bi_n0.mp c_23, Bool.or_true, bi_t] at kk; exact kk)
        | (rw [bi_0.mp c_23, Bool.or_false, bi_0.mp c_15, bi_f] at kk; exact kk)
    · refine a_iconst (v := 1) dX3_isValid_26 (by decide) ?_
      refine a_goto (tgt := 31) dX3_isValid_27 (by decide) ?_
      refine a_istore_1 dX3_isValid_31 (by decide) ?_
      first
        | (rw [bi_n0.mp c_15, Bool.true_or, bi_t] at kk; exact kk)
        | (rw [bi_n0.mp c_23, Bool.or_true, bi_t] at kk; exact kk)
        | (rw [bi_0.mp c_23, Bool.or_false, bi_0.mp c_15, bi_f] at kk; exact kk)
set_option maxRecDepth 10000 in
theorem L_v32 {l : Launch} {w : WW} {Φ : Option Value → XX → Prop} {x : XX} {p t : Int32} {j : Nat} {s : Bool} {v4 v5 : Option Value} (kk : A l w yX3_isValid cX3_isValid 6 (some .boolean) (rmd 3) Φ 51 [some (.int p), some (.int (bi (s))), some (.int t), some (.int (nI j)), some (.int (bi (!decide (nd p (nI j) &&& (t ^^^ (-1)) = 0)))), v5] [] x 0 0) : A l w yX3_isValid cX3_isValid 6 (some .boolean) (rmd 3) Φ 32 [some (.int p), some (.int (bi (s))), some (.int t), some (.int (nI j)), v4, v5] [] x 0 0 := by
  refine a_iload_n dX3_isValid_32 rfl ?_
  refine a_iload_n dX3_isValid_33 rfl ?_
  refine c_S2I dX3_isValid_34 kw_269 ks_X3_needsOf s_X3_needsOf ?_
  refine a_iload_n dX3_isValid_37 rfl ?_
  refine a_iconst (v := (-1)) dX3_isValid_38 (by decide) ?_
  refine a_ixor dX3_isValid_39 ?_
  refine a_iand dX3_isValid_40 ?_
  refine a_if_eq (tgt := 48) dX3_isValid_41 (by decide) (fun c_41 => ?_) (fun c_41 => ?_)
  · refine a_iconst (v := 0) dX3_isValid_48 (by decide) ?_
    refine a_istore_4 dX3_isValid_49 (by decide) ?_
    first
      | (rw [decide_eq_true c_41, Bool.not_true, bi_f] at kk; exact kk)
      | (rw [decide_eq_false c_41, Bool.not_false, bi_t] at kk; exact kk)
  · refine a_iconst (v := 1) dX3_isValid_44 (by decide) ?_
    refine a_goto (tgt := 49) dX3_isValid_45 (by decide) ?_
    refine a_istore_4 dX3_isValid_49 (by decide) ?_
    first
      | (rw [decide_eq_true c_41, Bool.not_true, bi_f] at kk; exact kk)
      | (rw [decide_eq_false c_41, Bool.not_false, bi_t] at kk; exact kk)
set_option maxRecDepth 10000 in
theorem L_v51 {l : Launch} {w : WW} {Φ : Option Value → XX → Prop} {x : XX} {p t : Int32} {j : Nat} {s a : Bool} {v5 : Option Value} (kk : A l w yX3_isValid cX3_isValid 6 (some .boolean) (rmd 3) Φ 70 [some (.int p), some (.int (bi (s))), some (.int t), some (.int (nI j)), some (.int (bi a)), some (.int (bi (tb (atn p (nI j)) (nI j))))] [] x 0 0) : A l w yX3_isValid cX3_isValid 6 (some .boolean) (rmd 3) Φ 51 [some (.int p), some (.int (bi (s))), some (.int t), some (.int (nI j)), some (.int (bi a)), v5] [] x 0 0 := by
  refine a_iload_n dX3_isValid_51 rfl ?_
  refine a_iload_n dX3_isValid_52 rfl ?_
  refine c_S2I dX3_isValid_53 kw_365 ks_X3_allThatNeed s_X3_allThatNeed ?_
  refine a_iload_n dX3_isValid_56 rfl ?_
  refine a_ishr dX3_isValid_57 ?_
  refine a_iconst (v := 1) dX3_isValid_58 (by decide) ?_
  refine a_iand dX3_isValid_59 ?_
  refine a_if_eq (tgt := 67) dX3_isValid_60 (by decide) (fun c_60 => ?_) (fun c_60 => ?_)
  · refine a_iconst (v := 0) dX3_isValid_67 (by decide) ?_
    refine a_istore_5 dX3_isValid_68 (by decide) ?_
    first
      | (rw [show tb (atn p (nI j)) (nI j) = false by simp_all [tb], bi_f] at kk; exact kk)
      | (rw [show tb (atn p (nI j)) (nI j) = true by simp_all [tb], bi_t] at kk; exact kk)
  · refine a_iconst (v := 1) dX3_isValid_63 (by decide) ?_
    refine a_goto (tgt := 68) dX3_isValid_64 (by decide) ?_
    refine a_istore_5 dX3_isValid_68 (by decide) ?_
    first
      | (rw [show tb (atn p (nI j)) (nI j) = false by simp_all [tb], bi_f] at kk; exact kk)
      | (rw [show tb (atn p (nI j)) (nI j) = true by simp_all [tb], bi_t] at kk; exact kk)
set_option maxRecDepth 10000 in
theorem L_v70 {l : Launch} {w : WW} {Φ : Option Value → XX → Prop} {x : XX} {p t : Int32} {j : Nat} {s a c : Bool} (k1 : (tb p (nI j) && (a || c)) = true → Φ (some (.int 0)) x) (k2 : (tb p (nI j) && (a || c)) = false → A l w yX3_isValid cX3_isValid 6 (some .boolean) (rmd 3) Φ 90 [some (.int p), some (.int (bi (s))), some (.int t), some (.int (nI j)), some (.int (bi a)), some (.int (bi c))] [] x 0 0) : A l w yX3_isValid cX3_isValid 6 (some .boolean) (rmd 3) Φ 70 [some (.int p), some (.int (bi (s))), some (.int t), some (.int (nI j)), some (.int (bi a)), some (.int (bi c))] [] x 0 0 := by
  refine a_iload_n dX3_isValid_70 rfl ?_
  refine a_iload_n dX3_isValid_71 rfl ?_
  refine c_S2I dX3_isValid_72 kw_266 ks_X3_isThere s_X3_isThere ?_
  refine a_if_eq (tgt := 90) dX3_isValid_75 (by decide) (fun c_75 => ?_) (fun c_75 => ?_)
  · refine k2 ?_
    first
      | (rw [bi_0.mp c_75]; rfl)
      | (rw [bi_0.mp c_83, bi_0.mp c_80]; cases tb p (nI j) <;> rfl)
      | (rw [bi_0.mp c_85, bi_0.mp c_80]; cases tb p (nI j) <;> rfl)
  · refine a_iload dX3_isValid_78 rfl ?_
    refine a_if_ne (tgt := 88) dX3_isValid_80 (by decide) (fun c_80 => ?_) (fun c_80 => ?_)
    · refine a_iconst (v := 0) dX3_isValid_88 (by decide) ?_
      exact c_zret dX3_isValid_89 (k1 (by first | (rw [bi_n0.mp c_75, bi_n0.mp c_80]; rfl) | (rw [bi_n0.mp c_75, bi_n0.mp c_85, Bool.or_true]; rfl)))
    · refine a_iload dX3_isValid_83 rfl ?_
      refine a_if_eq (tgt := 90) dX3_isValid_85 (by decide) (fun c_85 => ?_) (fun c_85 => ?_)
      · refine k2 ?_
        first
          | (rw [bi_0.mp c_75]; rfl)
          | (rw [bi_0.mp c_83, bi_0.mp c_80]; cases tb p (nI j) <;> rfl)
          | (rw [bi_0.mp c_85, bi_0.mp c_80]; cases tb p (nI j) <;> rfl)
      · refine a_iconst (v := 0) dX3_isValid_88 (by decide) ?_
        exact c_zret dX3_isValid_89 (k1 (by first | (rw [bi_n0.mp c_75, bi_n0.mp c_80]; rfl) | (rw [bi_n0.mp c_75, bi_n0.mp c_85, Bool.or_true]; rfl)))
set_option maxRecDepth 10000 in
theorem L_vld {l : Launch} {w : WW} {Φ : Option Value → XX → Prop} {x : XX} {p : Int32} : ∀ (n : Nat) {j : Nat} {s : Bool} {v4 v5 : Option Value}, j + n = 4 → Φ (some (.int (bi (vld p n j s)))) x → A l w yX3_isValid cX3_isValid 6 (some .boolean) (rmd 3) Φ 9 [some (.int p), some (.int (bi s)), some (.int (p &&& 15)), some (.int (nI j)), v4, v5] [] x 0 0 := by
  intro n
  induction n with
  | zero =>
    intro j s v4 v5 hj h
    refine a_iload_n dX3_isValid_9 rfl ?_
    refine a_iconst (v := 4) dX3_isValid_10 (by decide) ?_
    refine a_icmp_ge (tgt := 96) dX3_isValid_11 (by decide) (fun c_11 => ?_) (fun c_11 => absurd (by have e6 : j = 4 := (by omega); subst e6; decide) c_11)
    refine a_iload_n dX3_isValid_96 rfl ?_
    exact c_zret dX3_isValid_97 h (bi_nar s)
  | succ n ih =>
    intro j s v4 v5 hj h
    refine a_iload_n dX3_isValid_9 rfl ?_
    refine a_iconst (v := 4) dX3_isValid_10 (by decide) ?_
    refine a_icmp_ge (tgt := 96) dX3_isValid_11 (by decide) (fun c_11 => absurd c_11 (nI_ge (b := 4) (by omega) (by omega))) (fun c_11 => ?_)
    refine L_v14 (L_v32 (L_v51 (L_v70 (fun h9 => ?_) (fun h9 => ?_))))
    · rw [vld, if_pos h9] at h
      exact h
    · rw [vld, if_neg (by rw [h9]; decide)] at h
      refine a_iinc_3 (u := nI (j + 1)) dX3_isValid_90 (inc_nI j) (by decide) ?_
      refine a_goto (tgt := 9) dX3_isValid_93 (by decide) ?_
      exact ih (by omega) h
set_option maxRecDepth 10000 in
theorem s_X3_isValid {l : Launch} {w : WW} {x : XX} {p : Int32} : Can l w yX3_isValid cX3_isValid 6 (some .boolean) (rmd 3) [.int p] (x) (RI (bi (vld p 4 0 false)) x) := by
  refine Can.go (ls := [some (.int p), none, none, none, none, none]) ?_
  refine a_iconst (v := 0) dX3_isValid_0 (by decide) ?_
  refine a_istore_1 dX3_isValid_1 (by decide) ?_
  refine a_iload_n dX3_isValid_2 rfl ?_
  refine a_bipush (v := 15) dX3_isValid_3 (by decide) ?_
  refine a_iand dX3_isValid_5 ?_
  refine a_istore_2 dX3_isValid_6 (by decide) ?_
  refine a_iconst (v := 0) dX3_isValid_7 (by decide) ?_
  refine a_istore_3 dX3_isValid_8 (by decide) ?_
  exact L_vld 4 (j := 0) (s := false) rfl ⟨rfl, rfl⟩
set_option maxRecDepth 10000 in
theorem s_X0_isUnderTest {l : Launch} {w : WW} {M : Mem} {σ : Sg}  : Can l w yX0_isUnderTest cX0_isUnderTest 1 (some .boolean) (rmd 1) [.ref (ad w 0 0 0)] (zx w M 0 σ) (RI (bi (!decide (σ 0 0 1 ≤ 0))) (zx w M 0 σ)) := by
  refine Can.go (ls := [some (.ref (ad w 0 0 0))]) ?_
  refine a_aload_n dX0_isUnderTest_0 rfl ?_
  refine c_getI (t := 0) (k := 1) dX0_isUnderTest_1 kw_173 ?_
  refine a_if_le (tgt := 11) dX0_isUnderTest_4 (by decide) (fun c_4 => ?_) (fun c_4 => ?_)
  · refine a_iconst (v := 0) dX0_isUnderTest_11 (by decide) ?_
    exact c_zret dX0_isUnderTest_12 ⟨by simp_all [bi], rfl⟩
  · refine a_iconst (v := 1) dX0_isUnderTest_7 (by decide) ?_
    refine a_goto (tgt := 12) dX0_isUnderTest_8 (by decide) ?_
    exact c_zret dX0_isUnderTest_12 ⟨by simp_all [bi], rfl⟩
set_option maxRecDepth 10000 in
theorem s_X0_pipeline {l : Launch} {w : WW} {M : Mem} {σ : Sg}  : Can l w yX0_pipeline cX0_pipeline 1 (some .int) (rmd 1) [.ref (ad w 0 0 0)] (zx w M 0 σ) (RI (σ 9 0 0) (zx w M 0 σ)) := by
  refine Can.go (ls := [some (.ref (ad w 0 0 0))]) ?_
  refine a_aload_n dX0_pipeline_0 rfl ?_
  refine c_getR (t := 0) (k := 0) dX0_pipeline_1 kw_74 rfl ?_
  refine a_iconst (v := 0) dX0_pipeline_4 (by decide) ?_
  refine c_iald (i := 0) dX0_pipeline_5 (by decide) (by decide) ?_
  exact c_iret dX0_pipeline_6 ⟨rfl, rfl⟩
theorem st_step (σ : Sg) (a b : Nat → Int32) (j : Nat) (u v : Int32) : sg (sg (sga (sga σ 10 0 a) 11 0 b) 10 0 j v) 11 0 j u = sga (sga σ 10 0 (up1 a j v)) 11 0 (up1 b j u) := by
  rw [sg_is (sga (sga σ 10 0 a) 11 0 b), sga_t (by decide), sga_same, sga_comm (by decide), sga_sga, sg_sga]
set_option maxRecDepth 10000 in
theorem L_X0_start {l : Launch} {w : WW} {Φ : Option Value → XX → Prop} {M : Mem} {τ : Sg} {v1 : Option Value} : ∀ (n : Nat) {j : Nat}, j + n = 4 → A l w yX0_start cX0_start 3 none (rmd 2) Φ 47 [some (.ref (ad w 0 0 0)), v1, some (.int (nI 4))] [] (zx w M 0 (sga (sga τ 10 0 (mixN 4 (fun j => bi (tb (τ 9 0 0) (nI j))) (τ 10 0))) 11 0 (mixN 4 (fun _ => 0) (τ 11 0)))) 0 0 → A l w yX0_start cX0_start 3 none (rmd 2) Φ 7 [some (.ref (ad w 0 0 0)), v1, some (.int (nI j))] [] (zx w M 0 (sga (sga τ 10 0 (mixN j (fun j => bi (tb (τ 9 0 0) (nI j))) (τ 10 0))) 11 0 (mixN j (fun _ => 0) (τ 11 0)))) 0 0 := by
  intro n
  induction n with
  | zero =>
    intro j hj kk
    refine a_iload_n dX0_start_7 rfl ?_
    refine a_iconst (v := 4) dX0_start_8 (by decide) ?_
    refine a_icmp_ge (tgt := 47) dX0_start_9 (by decide) (fun c_9 => ?_) (fun c_9 => absurd (by have e6 : j = 4 := (by omega); subst e6; decide) c_9)
    have e6 : j = 4 := (by omega)
    subst e6
    exact kk
  | succ n ih =>
    intro j hj kk
    refine a_iload_n dX0_start_7 rfl ?_
    refine a_iconst (v := 4) dX0_start_8 (by decide) ?_
    refine a_icmp_ge (tgt := 47) dX0_start_9 (by decide) (fun c_9 => absurd c_9 (nI_ge (b := 4) (by omega) (by omega))) (fun c_9 => ?_)
    refine a_aload_n dX0_start_12 rfl ?_
    refine c_getR (t := 0) (k := 2) dX0_start_13 kw_75 rfl ?_
    refine a_iload_n dX0_start_16 rfl ?_
    refine a_aload_n dX0_start_17 rfl ?_
    refine c_V0I dX0_start_18 kw_232 kv_X0_pipeline s_X0_pipeline ?_
    refine a_iload_n dX0_start_21 rfl ?_
    refine c_S2I dX0_start_22 kw_370 ks_X3_isThere s_X3_isThere ?_
    rw [sga_t (by decide), sga_t (by decide)]
    refine a_if_eq (tgt := 32) dX0_start_25 (by decide) (fun c_25 => ?_) (fun c_25 => ?_)
    · refine a_iconst (v := 0) dX0_start_32 (by decide) ?_
      refine c_iast (i := j) dX0_start_33 rfl (show j < 4 by omega) ?_
      refine a_aload_n dX0_start_34 rfl ?_
      refine c_getR (t := 0) (k := 3) dX0_start_35 kw_76 rfl ?_
      refine a_iload_n dX0_start_38 rfl ?_
      refine a_iconst (v := 0) dX0_start_39 (by decide) ?_
      refine c_iast (i := j) dX0_start_40 rfl (show j < 4 by omega) ?_
      refine a_iinc_2 (u := nI (j + 1)) dX0_start_41 (inc_nI j) (by decide) ?_
      refine a_goto (tgt := 7) dX0_start_44 (by decide) ?_
      refine a_eq (x' := zx w M 0 (sga (sga τ 10 0 (mixN (j + 1) (fun j => bi (tb (τ 9 0 0) (nI j))) (τ 10 0))) 11 0 (mixN (j + 1) (fun _ => 0) (τ 11 0)))) ?_ (ih (by omega) kk)
      have h8 : ∀ b, bi (tb (τ 9 0 0) (nI j)) = b → sga (sga τ 10 0 (up1 (mixN j (fun j => bi (tb (τ 9 0 0) (nI j))) (τ 10 0)) j b)) 11 0 (up1 (mixN j (fun _ => 0) (τ 11 0)) j 0) = sga (sga τ 10 0 (mixN (j + 1) (fun j => bi (tb (τ 9 0 0) (nI j))) (τ 10 0))) 11 0 (mixN (j + 1) (fun _ => 0) (τ 11 0)) := by
        intro b hb
        rw [← hb, ← mixN_up, ← mixN_up]
      rw [st_step]
      first
        | rw [h8 0 c_25]
        | rw [h8 1 (by rw [bi_n0.mp c_25]; rfl)]
    · refine a_iconst (v := 1) dX0_start_28 (by decide) ?_
      refine a_goto (tgt := 33) dX0_start_29 (by decide) ?_
      refine c_iast (i := j) dX0_start_33 rfl (show j < 4 by omega) ?_
      refine a_aload_n dX0_start_34 rfl ?_
      refine c_getR (t := 0) (k := 3) dX0_start_35 kw_76 rfl ?_
      refine a_iload_n dX0_start_38 rfl ?_
      refine a_iconst (v := 0) dX0_start_39 (by decide) ?_
      refine c_iast (i := j) dX0_start_40 rfl (show j < 4 by omega) ?_
      refine a_iinc_2 (u := nI (j + 1)) dX0_start_41 (inc_nI j) (by decide) ?_
      refine a_goto (tgt := 7) dX0_start_44 (by decide) ?_
      refine a_eq (x' := zx w M 0 (sga (sga τ 10 0 (mixN (j + 1) (fun j => bi (tb (τ 9 0 0) (nI j))) (τ 10 0))) 11 0 (mixN (j + 1) (fun _ => 0) (τ 11 0)))) ?_ (ih (by omega) kk)
      have h8 : ∀ b, bi (tb (τ 9 0 0) (nI j)) = b → sga (sga τ 10 0 (up1 (mixN j (fun j => bi (tb (τ 9 0 0) (nI j))) (τ 10 0)) j b)) 11 0 (up1 (mixN j (fun _ => 0) (τ 11 0)) j 0) = sga (sga τ 10 0 (mixN (j + 1) (fun j => bi (tb (τ 9 0 0) (nI j))) (τ 10 0))) 11 0 (mixN (j + 1) (fun _ => 0) (τ 11 0)) := by
        intro b hb
        rw [← hb, ← mixN_up, ← mixN_up]
      rw [st_step]
      first
        | rw [h8 0 c_25]
        | rw [h8 1 (by rw [bi_n0.mp c_25]; rfl)]
set_option maxRecDepth 10000 in
theorem s_X0_start {l : Launch} {w : WW} {M : Mem} {σ : Sg} {m : Int32} : Can l w yX0_start cX0_start 3 none (rmd 2) [.ref (ad w 0 0 0), .int m] (zx w M 0 σ) (RV (zx w M 0 (startB σ m))) := by
  refine Can.go (ls := [some (.ref (ad w 0 0 0)), some (.int m), none]) ?_
  refine a_aload_n dX0_start_0 rfl ?_
  refine a_iload_n dX0_start_1 rfl ?_
  refine c_putI (t := 0) (k := 1) dX0_start_2 kw_173 ?_
  refine a_iconst (v := 0) dX0_start_5 (by decide) ?_
  refine a_istore_2 dX0_start_6 (by decide) ?_
  refine a_eq (x' := zx w M 0 (sga (sga (sg σ 0 0 1 m) 10 0 (mixN 0 (fun j => bi (tb ((sg σ 0 0 1 m) 9 0 0) (nI j))) ((sg σ 0 0 1 m) 10 0))) 11 0 (mixN 0 (fun _ => 0) ((sg σ 0 0 1 m) 11 0)))) ?_ ?_
  · rw [mixN_0, mixN_0, sga_eta, sga_eta]
  refine L_X0_start 4 rfl ?_
  refine c_junk (M' := M) (σ' := sga (sga (sg σ 0 0 1 m) 10 0 (mixN 4 (fun j => bi (tb ((sg σ 0 0 1 m) 9 0 0) (nI j))) ((sg σ 0 0 1 m) 10 0))) 11 0 (fun _ => 0)) (junkA (by decide) (fun k hk => (if_pos hk).symm)) ?_
  rw [sga_comm (by decide)]
  refine c_junk (M' := M) (σ' := sga (sga (sg σ 0 0 1 m) 11 0 (fun _ => 0)) 10 0 (fun j => bi (tb ((sg σ 0 0 1 m) 9 0 0) (nI j)))) (junkA (by decide) (fun k hk => (if_pos hk).symm)) ?_
  exact c_vret dX0_start_47 ⟨rfl, by rw [sga_comm (by decide)]; rfl⟩
def zf : Nat → Int32 := fun _ => 0
set_option maxRecDepth 10000 in
theorem L_X0_end {l : Launch} {w : WW} {Φ : Option Value → XX → Prop} {M : Mem} {τ : Sg} : ∀ (n : Nat) {j : Nat}, j + n = 4 → A l w yX0_end cX0_end 2 none (rmd 1) Φ 25 [some (.ref (ad w 0 0 0)), some (.int (nI 4))] [] (zx w M 0 (sga τ 10 0 (mixN 4 zf (τ 10 0)))) 0 0 → A l w yX0_end cX0_end 2 none (rmd 1) Φ 7 [some (.ref (ad w 0 0 0)), some (.int (nI j))] [] (zx w M 0 (sga τ 10 0 (mixN j zf (τ 10 0)))) 0 0 := by
  intro n
  induction n with
  | zero =>
    intro j hj kk
    refine a_iload_n dX0_end_7 rfl ?_
    refine a_iconst (v := 4) dX0_end_8 (by decide) ?_
    refine a_icmp_ge (tgt := 25) dX0_end_9 (by decide) (fun c_9 => ?_) (fun c_9 => absurd (by have e6 : j = 4 := (by omega); subst e6; decide) c_9)
    have e6 : j = 4 := (by omega)
    subst e6
    exact kk
  | succ n ih =>
    intro j hj kk
    refine a_iload_n dX0_end_7 rfl ?_
    refine a_iconst (v := 4) dX0_end_8 (by decide) ?_
    refine a_icmp_ge (tgt := 25) dX0_end_9 (by decide) (fun c_9 => absurd c_9 (nI_ge (b := 4) (by omega) (by omega))) (fun c_9 => ?_)
    refine a_aload_n dX0_end_12 rfl ?_
    refine c_getR (t := 0) (k := 2) dX0_end_13 kw_75 rfl ?_
    refine a_iload_n dX0_end_16 rfl ?_
    refine a_iconst (v := 0) dX0_end_17 (by decide) ?_
    refine c_iast (i := j) dX0_end_18 rfl (show j < 4 by omega) ?_
    refine a_iinc_1 (u := nI (j + 1)) dX0_end_19 (inc_nI j) (by decide) ?_
    refine a_goto (tgt := 7) dX0_end_22 (by decide) ?_
    rw [sg_sga, show (0 : Int32) = zf j from rfl, mixN_up]
    exact ih (by omega) kk
set_option maxRecDepth 10000 in
theorem s_X0_end {l : Launch} {w : WW} {M : Mem} {σ : Sg}  : Can l w yX0_end cX0_end 2 none (rmd 1) [.ref (ad w 0 0 0)] (zx w M 0 σ) (RV (zx w M 0 (endB σ))) := by
  refine Can.go (ls := [some (.ref (ad w 0 0 0)), none]) ?_
  refine a_aload_n dX0_end_0 rfl ?_
  refine a_iconst (v := 0) dX0_end_1 (by decide) ?_
  refine c_putI (t := 0) (k := 1) dX0_end_2 kw_173 ?_
  refine a_iconst (v := 0) dX0_end_5 (by decide) ?_
  refine a_istore_1 dX0_end_6 (by decide) ?_
  refine a_eq (x' := zx w M 0 (sga (sg σ 0 0 1 0) 10 0 (mixN 0 zf ((sg σ 0 0 1 0) 10 0)))) (by rw [mixN_0, sga_eta]) ?_
  refine L_X0_end 4 rfl ?_
  refine c_junk (M' := M) (σ' := sga (sg σ 0 0 1 0) 10 0 zf) (junkA (by decide) (fun k hk => (if_pos hk).symm)) ?_
  exact c_vret dX0_end_25 ⟨rfl, rfl⟩
set_option maxRecDepth 10000 in
theorem L_X0_leasedJob {l : Launch} {w : WW} {Φ : Option Value → XX → Prop} {M : Mem} {σ : Sg} {v : Int32} : ∀ (n : Nat) {j : Nat}, j + n = 4 → Φ (some (.int (fhit (ljC (σ 10 0) v) n j))) (zx w M 0 σ) → A l w yX0_leasedJob cX0_leasedJob 3 (some .int) (rmd 2) Φ 2 [some (.ref (ad w 0 0 0)), some (.int v), some (.int (nI j))] [] (zx w M 0 σ) 0 0 := by
  intro n
  induction n with
  | zero =>
    intro j hj h
    refine a_iload_n dX0_leasedJob_2 rfl ?_
    refine a_iconst (v := 4) dX0_leasedJob_3 (by decide) ?_
    refine a_icmp_ge (tgt := 35) dX0_leasedJob_4 (by decide) (fun c_4 => ?_) (fun c_4 => absurd (by have e6 : j = 4 := (by omega); subst e6; decide) c_4)
    refine a_iconst (v := (-1)) dX0_leasedJob_35 (by decide) ?_
    exact c_iret dX0_leasedJob_36 h
  | succ n ih =>
    intro j hj h
    refine a_iload_n dX0_leasedJob_2 rfl ?_
    refine a_iconst (v := 4) dX0_leasedJob_3 (by decide) ?_
    refine a_icmp_ge (tgt := 35) dX0_leasedJob_4 (by decide) (fun c_4 => absurd c_4 (nI_ge (b := 4) (by omega) (by omega))) (fun c_4 => ?_)
    refine a_iload_n dX0_leasedJob_7 rfl ?_
    refine c_N1I dX0_leasedJob_8 nw_367 ks_X7_isWorker s_X7_isWorker ?_
    refine a_if_eq (tgt := 29) dX0_leasedJob_11 (by decide) (fun c_11 => ?_) (fun c_11 => ?_)
    · refine a_iinc_2 (u := nI (j + 1)) dX0_leasedJob_29 (inc_nI j) (by decide) ?_
      refine a_goto (tgt := 2) dX0_leasedJob_32 (by decide) ?_
      refine ih (by omega) ?_
      rw [fhit, if_neg (show ¬ ljC (σ 10 0) v j = true by first | (have e9 := bi_0.mp c_11; simp [ljC, e9]; done) | (simp [ljC, c_24]; done) | simp_all [ljC])] at h
      exact h
    · refine a_aload_n dX0_leasedJob_14 rfl ?_
      refine c_getR (t := 0) (k := 2) dX0_leasedJob_15 kw_75 rfl ?_
      refine a_iload_n dX0_leasedJob_18 rfl ?_
      refine c_iald (i := j) dX0_leasedJob_19 rfl (show j < 4 by omega) ?_
      refine a_bipush (v := 10) dX0_leasedJob_20 (by decide) ?_
      refine a_iload_n dX0_leasedJob_22 rfl ?_
      refine a_iadd dX0_leasedJob_23 ?_
      refine a_icmp_ne (tgt := 29) dX0_leasedJob_24 (by decide) (fun c_24 => ?_) (fun c_24 => ?_)
      · refine a_iinc_2 (u := nI (j + 1)) dX0_leasedJob_29 (inc_nI j) (by decide) ?_
        refine a_goto (tgt := 2) dX0_leasedJob_32 (by decide) ?_
        refine ih (by omega) ?_
        rw [fhit, if_neg (show ¬ ljC (σ 10 0) v j = true by first | (have e9 := bi_0.mp c_11; simp [ljC, e9]; done) | (simp [ljC, c_24]; done) | simp_all [ljC])] at h
        exact h
      · refine a_iload_n dX0_leasedJob_27 rfl ?_
        exact c_iret dX0_leasedJob_28 (by rw [fhit, if_pos (show ljC (σ 10 0) v j = true by have e9 := bi_n0.mp c_11; simp_all [ljC])] at h; exact h)
set_option maxRecDepth 10000 in
theorem s_X0_leasedJob {l : Launch} {w : WW} {M : Mem} {σ : Sg} {v : Int32} : Can l w yX0_leasedJob cX0_leasedJob 3 (some .int) (rmd 2) [.ref (ad w 0 0 0), .int v] (zx w M 0 σ) (RI (leasedJ σ v) (zx w M 0 σ)) := by
  refine Can.go (ls := [some (.ref (ad w 0 0 0)), some (.int v), none]) ?_
  refine a_iconst (v := 0) dX0_leasedJob_0 (by decide) ?_
  refine a_istore_2 dX0_leasedJob_1 (by decide) ?_
  exact L_X0_leasedJob 4 (j := 0) rfl ⟨rfl, rfl⟩
set_option maxRecDepth 10000 in
theorem L_X0_passedJobs {l : Launch} {w : WW} {Φ : Option Value → XX → Prop} {M : Mem} {σ : Sg} : ∀ (n : Nat) {j : Nat} {f : Int32}, j + n = 4 → Φ (some (.int (pjI (σ 10 0) n j f))) (zx w M 0 σ) → A l w yX0_passedJobs cX0_passedJobs 3 (some .int) (rmd 1) Φ 4 [some (.ref (ad w 0 0 0)), some (.int f), some (.int (nI j))] [] (zx w M 0 σ) 0 0 := by
  intro n
  induction n with
  | zero =>
    intro j f hj h
    refine a_iload_n dX0_passedJobs_4 rfl ?_
    refine a_iconst (v := 4) dX0_passedJobs_5 (by decide) ?_
    refine a_icmp_ge (tgt := 31) dX0_passedJobs_6 (by decide) (fun c_6 => ?_) (fun c_6 => absurd (by have e6 : j = 4 := (by omega); subst e6; decide) c_6)
    refine a_iload_n dX0_passedJobs_31 rfl ?_
    exact c_iret dX0_passedJobs_32 h
  | succ n ih =>
    intro j f hj h
    refine a_iload_n dX0_passedJobs_4 rfl ?_
    refine a_iconst (v := 4) dX0_passedJobs_5 (by decide) ?_
    refine a_icmp_ge (tgt := 31) dX0_passedJobs_6 (by decide) (fun c_6 => absurd c_6 (nI_ge (b := 4) (by omega) (by omega))) (fun c_6 => ?_)
    refine a_aload_n dX0_passedJobs_9 rfl ?_
    refine c_getR (t := 0) (k := 2) dX0_passedJobs_10 kw_75 rfl ?_
    refine a_iload_n dX0_passedJobs_13 rfl ?_
    refine c_iald (i := j) dX0_passedJobs_14 rfl (show j < 4 by omega) ?_
    refine a_iconst (v := 2) dX0_passedJobs_15 (by decide) ?_
    refine a_icmp_ne (tgt := 25) dX0_passedJobs_16 (by decide) (fun c_16 => ?_) (fun c_16 => ?_)
    · refine a_iinc_2 (u := nI (j + 1)) dX0_passedJobs_25 (inc_nI j) (by decide) ?_
      refine a_goto (tgt := 4) dX0_passedJobs_28 (by decide) ?_
      refine ih (by omega) ?_
      rw [pjI] at h
      first
        | (rw [if_neg c_16] at h; exact h)
        | (rw [if_pos (Decidable.not_not.mp c_16)] at h; exact h)
        | (rw [if_pos c_16] at h; exact h)
    · refine a_iload_n dX0_passedJobs_19 rfl ?_
      refine a_iconst (v := 1) dX0_passedJobs_20 (by decide) ?_
      refine a_iload_n dX0_passedJobs_21 rfl ?_
      refine a_ishl dX0_passedJobs_22 ?_
      refine a_ior dX0_passedJobs_23 ?_
      refine a_istore_1 dX0_passedJobs_24 (by decide) ?_
      refine a_iinc_2 (u := nI (j + 1)) dX0_passedJobs_25 (inc_nI j) (by decide) ?_
      refine a_goto (tgt := 4) dX0_passedJobs_28 (by decide) ?_
      refine ih (by omega) ?_
      rw [pjI] at h
      first
        | (rw [if_neg c_16] at h; exact h)
        | (rw [if_pos (Decidable.not_not.mp c_16)] at h; exact h)
        | (rw [if_pos c_16] at h; exact h)
set_option maxRecDepth 10000 in
theorem s_X0_passedJobs {l : Launch} {w : WW} {M : Mem} {σ : Sg}  : Can l w yX0_passedJobs cX0_passedJobs 3 (some .int) (rmd 1) [.ref (ad w 0 0 0)] (zx w M 0 σ) (RI (pjI (σ 10 0) 4 0 0) (zx w M 0 σ)) := by
  refine Can.go (ls := [some (.ref (ad w 0 0 0)), none, none]) ?_
  refine a_iconst (v := 0) dX0_passedJobs_0 (by decide) ?_
  refine a_istore_1 dX0_passedJobs_1 (by decide) ?_
  refine a_iconst (v := 0) dX0_passedJobs_2 (by decide) ?_
  refine a_istore_2 dX0_passedJobs_3 (by decide) ?_
  exact L_X0_passedJobs 4 (j := 0) rfl ⟨rfl, rfl⟩
set_option maxRecDepth 10000 in
theorem L_X0_nextJob {l : Launch} {w : WW} {Φ : Option Value → XX → Prop} {M : Mem} {σ : Sg} : ∀ (n : Nat) {j : Nat}, j + n = 4 → Φ (some (.int (fhit (njC (σ 9 0 0) (σ 10 0)) n j))) (zx w M 0 σ) → A l w yX0_nextJob cX0_nextJob 2 (some .int) (rmd 2) Φ 2 [some (.ref (ad w 0 0 0)), some (.int (nI j))] [] (zx w M 0 σ) 0 0 := by
  intro n
  induction n with
  | zero =>
    intro j hj h
    refine a_iload_n dX0_nextJob_2 rfl ?_
    refine a_iconst (v := 4) dX0_nextJob_3 (by decide) ?_
    refine a_icmp_ge (tgt := 43) dX0_nextJob_4 (by decide) (fun c_4 => ?_) (fun c_4 => absurd (by have e6 : j = 4 := (by omega); subst e6; decide) c_4)
    refine a_iconst (v := (-1)) dX0_nextJob_43 (by decide) ?_
    exact c_iret dX0_nextJob_44 h
  | succ n ih =>
    intro j hj h
    refine a_iload_n dX0_nextJob_2 rfl ?_
    refine a_iconst (v := 4) dX0_nextJob_3 (by decide) ?_
    refine a_icmp_ge (tgt := 43) dX0_nextJob_4 (by decide) (fun c_4 => absurd c_4 (nI_ge (b := 4) (by omega) (by omega))) (fun c_4 => ?_)
    refine a_aload_n dX0_nextJob_7 rfl ?_
    refine c_getR (t := 0) (k := 2) dX0_nextJob_8 kw_75 rfl ?_
    refine a_iload_n dX0_nextJob_11 rfl ?_
    refine c_iald (i := j) dX0_nextJob_12 rfl (show j < 4 by omega) ?_
    refine a_iconst (v := 1) dX0_nextJob_13 (by decide) ?_
    refine a_icmp_ne (tgt := 37) dX0_nextJob_14 (by decide) (fun c_14 => ?_) (fun c_14 => ?_)
    · refine a_iinc_1 (u := nI (j + 1)) dX0_nextJob_37 (inc_nI j) (by decide) ?_
      refine a_goto (tgt := 2) dX0_nextJob_40 (by decide) ?_
      refine ih (by omega) ?_
      rw [fhit, if_neg (show ¬ njC (σ 9 0 0) (σ 10 0) j = true by first | (simp [njC, c_14]; done) | simp_all [njC])] at h
      exact h
    · refine a_aload_n dX0_nextJob_17 rfl ?_
      refine c_V0I dX0_nextJob_18 kw_232 kv_X0_pipeline s_X0_pipeline ?_
      refine a_iload_n dX0_nextJob_21 rfl ?_
      refine c_S2I dX0_nextJob_22 kw_236 ks_X3_needsOf s_X3_needsOf ?_
      refine a_aload_n dX0_nextJob_25 rfl ?_
      refine c_V0I dX0_nextJob_26 kw_240 kv_X0_passedJobs s_X0_passedJobs ?_
      refine a_iconst (v := (-1)) dX0_nextJob_29 (by decide) ?_
      refine a_ixor dX0_nextJob_30 ?_
      refine a_iand dX0_nextJob_31 ?_
      refine a_if_ne (tgt := 37) dX0_nextJob_32 (by decide) (fun c_32 => ?_) (fun c_32 => ?_)
      · refine a_iinc_1 (u := nI (j + 1)) dX0_nextJob_37 (inc_nI j) (by decide) ?_
        refine a_goto (tgt := 2) dX0_nextJob_40 (by decide) ?_
        refine ih (by omega) ?_
        rw [fhit, if_neg (show ¬ njC (σ 9 0 0) (σ 10 0) j = true by first | (simp [njC, c_14]; done) | simp_all [njC])] at h
        exact h
      · refine a_iload_n dX0_nextJob_35 rfl ?_
        exact c_iret dX0_nextJob_36 (by rw [fhit, if_pos (show njC (σ 9 0 0) (σ 10 0) j = true by simp_all [njC])] at h; exact h)
set_option maxRecDepth 10000 in
theorem s_X0_nextJob {l : Launch} {w : WW} {M : Mem} {σ : Sg}  : Can l w yX0_nextJob cX0_nextJob 2 (some .int) (rmd 2) [.ref (ad w 0 0 0)] (zx w M 0 σ) (RI (nextJ σ) (zx w M 0 σ)) := by
  refine Can.go (ls := [some (.ref (ad w 0 0 0)), none]) ?_
  refine a_iconst (v := 0) dX0_nextJob_0 (by decide) ?_
  refine a_istore_1 dX0_nextJob_1 (by decide) ?_
  exact L_X0_nextJob 4 (j := 0) rfl ⟨rfl, rfl⟩
set_option maxRecDepth 10000 in
theorem L_X0_firstF {l : Launch} {w : WW} {Φ : Option Value → XX → Prop} {M : Mem} {σ : Sg} : ∀ (n : Nat) {j : Nat}, j + n = 4 → Φ (some (.int (fhit (ffC (σ 9 0 0) (σ 10 0)) n j))) (zx w M 0 σ) → A l w yX0_firstFailedRequired cX0_firstFailedRequired 2 (some .int) (rmd 3) Φ 2 [some (.ref (ad w 0 0 0)), some (.int (nI j))] [] (zx w M 0 σ) 0 0 := by
  intro n
  induction n with
  | zero =>
    intro j hj h
    refine a_iload_n dX0_firstFailedRequired_2 rfl ?_
    refine a_iconst (v := 4) dX0_firstFailedRequired_3 (by decide) ?_
    refine a_icmp_ge (tgt := 36) dX0_firstFailedRequired_4 (by decide) (fun c_4 => ?_) (fun c_4 => absurd (by have e6 : j = 4 := (by omega); subst e6; decide) c_4)
    refine a_iconst (v := (-1)) dX0_firstFailedRequired_36 (by decide) ?_
    exact c_iret dX0_firstFailedRequired_37 h
  | succ n ih =>
    intro j hj h
    refine a_iload_n dX0_firstFailedRequired_2 rfl ?_
    refine a_iconst (v := 4) dX0_firstFailedRequired_3 (by decide) ?_
    refine a_icmp_ge (tgt := 36) dX0_firstFailedRequired_4 (by decide) (fun c_4 => absurd c_4 (nI_ge (b := 4) (by omega) (by omega))) (fun c_4 => ?_)
    refine a_aload_n dX0_firstFailedRequired_7 rfl ?_
    refine c_getR (t := 0) (k := 2) dX0_firstFailedRequired_8 kw_75 rfl ?_
    refine a_iload_n dX0_firstFailedRequired_11 rfl ?_
    refine c_iald (i := j) dX0_firstFailedRequired_12 rfl (show j < 4 by omega) ?_
    refine a_iconst (v := 3) dX0_firstFailedRequired_13 (by decide) ?_
    refine a_icmp_ne (tgt := 30) dX0_firstFailedRequired_14 (by decide) (fun c_14 => ?_) (fun c_14 => ?_)
    · refine a_iinc_1 (u := nI (j + 1)) dX0_firstFailedRequired_30 (inc_nI j) (by decide) ?_
      refine a_goto (tgt := 2) dX0_firstFailedRequired_33 (by decide) ?_
      refine ih (by omega) ?_
      rw [fhit, if_neg (show ¬ ffC (σ 9 0 0) (σ 10 0) j = true by first | (have e9 := bi_0.mp c_25; simp [ffC, e9]; done) | (simp [ffC, c_14]; done) | simp_all [ffC])] at h
      exact h
    · refine a_aload_n dX0_firstFailedRequired_17 rfl ?_
      refine c_V0I dX0_firstFailedRequired_18 kw_232 kv_X0_pipeline s_X0_pipeline ?_
      refine a_iload_n dX0_firstFailedRequired_21 rfl ?_
      refine c_S2I dX0_firstFailedRequired_22 kw_279 ks_X3_isRequired s_X3_isRequired ?_
      refine a_if_eq (tgt := 30) dX0_firstFailedRequired_25 (by decide) (fun c_25 => ?_) (fun c_25 => ?_)
      · refine a_iinc_1 (u := nI (j + 1)) dX0_firstFailedRequired_30 (inc_nI j) (by decide) ?_
        refine a_goto (tgt := 2) dX0_firstFailedRequired_33 (by decide) ?_
        refine ih (by omega) ?_
        rw [fhit, if_neg (show ¬ ffC (σ 9 0 0) (σ 10 0) j = true by first | (have e9 := bi_0.mp c_25; simp [ffC, e9]; done) | (simp [ffC, c_14]; done) | simp_all [ffC])] at h
        exact h
      · refine a_iload_n dX0_firstFailedRequired_28 rfl ?_
        exact c_iret dX0_firstFailedRequired_29 (by rw [fhit, if_pos (show ffC (σ 9 0 0) (σ 10 0) j = true by have e9 := bi_n0.mp c_25; simp_all [ffC])] at h; exact h)
set_option maxRecDepth 10000 in
theorem s_X0_firstFailedRequired {l : Launch} {w : WW} {M : Mem} {σ : Sg}  : Can l w yX0_firstFailedRequired cX0_firstFailedRequired 2 (some .int) (rmd 3) [.ref (ad w 0 0 0)] (zx w M 0 σ) (RI (firstF σ) (zx w M 0 σ)) := by
  refine Can.go (ls := [some (.ref (ad w 0 0 0)), none]) ?_
  refine a_iconst (v := 0) dX0_firstFailedRequired_0 (by decide) ?_
  refine a_istore_1 dX0_firstFailedRequired_1 (by decide) ?_
  exact L_X0_firstF 4 (j := 0) rfl ⟨rfl, rfl⟩
set_option maxRecDepth 10000 in
theorem L_X0_hasP {l : Launch} {w : WW} {Φ : Option Value → XX → Prop} {M : Mem} {σ : Sg} : ∀ (n : Nat) {j : Nat}, j + n = 4 → Φ (some (.int (bi (!anyU (hpC (σ 9 0 0) (σ 10 0)) n j)))) (zx w M 0 σ) → A l w yX0_hasPassedRequired cX0_hasPassedRequired 2 (some .boolean) (rmd 3) Φ 2 [some (.ref (ad w 0 0 0)), some (.int (nI j))] [] (zx w M 0 σ) 0 0 := by
  intro n
  induction n with
  | zero =>
    intro j hj h
    refine a_iload_n dX0_hasPassedRequired_2 rfl ?_
    refine a_iconst (v := 4) dX0_hasPassedRequired_3 (by decide) ?_
    refine a_icmp_ge (tgt := 36) dX0_hasPassedRequired_4 (by decide) (fun c_4 => ?_) (fun c_4 => absurd (by have e6 : j = 4 := (by omega); subst e6; decide) c_4)
    refine a_iconst (v := 1) dX0_hasPassedRequired_36 (by decide) ?_
    exact c_zret dX0_hasPassedRequired_37 h
  | succ n ih =>
    intro j hj h
    refine a_iload_n dX0_hasPassedRequired_2 rfl ?_
    refine a_iconst (v := 4) dX0_hasPassedRequired_3 (by decide) ?_
    refine a_icmp_ge (tgt := 36) dX0_hasPassedRequired_4 (by decide) (fun c_4 => absurd c_4 (nI_ge (b := 4) (by omega) (by omega))) (fun c_4 => ?_)
    refine a_aload_n dX0_hasPassedRequired_7 rfl ?_
    refine c_getR (t := 0) (k := 2) dX0_hasPassedRequired_8 kw_75 rfl ?_
    refine a_iload_n dX0_hasPassedRequired_11 rfl ?_
    refine c_iald (i := j) dX0_hasPassedRequired_12 rfl (show j < 4 by omega) ?_
    refine a_iconst (v := 2) dX0_hasPassedRequired_13 (by decide) ?_
    refine a_icmp_eq (tgt := 30) dX0_hasPassedRequired_14 (by decide) (fun c_14 => ?_) (fun c_14 => ?_)
    · refine a_iinc_1 (u := nI (j + 1)) dX0_hasPassedRequired_30 (inc_nI j) (by decide) ?_
      refine a_goto (tgt := 2) dX0_hasPassedRequired_33 (by decide) ?_
      refine ih (by omega) ?_
      rw [anyU, show hpC (σ 9 0 0) (σ 10 0) j = false by first | (have e9 := bi_0.mp c_25; simp [hpC, e9]; done) | (simp [hpC, c_14]; done) | simp_all [hpC], Bool.false_or] at h
      exact h
    · refine a_aload_n dX0_hasPassedRequired_17 rfl ?_
      refine c_V0I dX0_hasPassedRequired_18 kw_232 kv_X0_pipeline s_X0_pipeline ?_
      refine a_iload_n dX0_hasPassedRequired_21 rfl ?_
      refine c_S2I dX0_hasPassedRequired_22 kw_279 ks_X3_isRequired s_X3_isRequired ?_
      refine a_if_eq (tgt := 30) dX0_hasPassedRequired_25 (by decide) (fun c_25 => ?_) (fun c_25 => ?_)
      · refine a_iinc_1 (u := nI (j + 1)) dX0_hasPassedRequired_30 (inc_nI j) (by decide) ?_
        refine a_goto (tgt := 2) dX0_hasPassedRequired_33 (by decide) ?_
        refine ih (by omega) ?_
        rw [anyU, show hpC (σ 9 0 0) (σ 10 0) j = false by first | (have e9 := bi_0.mp c_25; simp [hpC, e9]; done) | (simp [hpC, c_14]; done) | simp_all [hpC], Bool.false_or] at h
        exact h
      · refine a_iconst (v := 0) dX0_hasPassedRequired_28 (by decide) ?_
        exact c_zret dX0_hasPassedRequired_29 (by rw [anyU, show hpC (σ 9 0 0) (σ 10 0) j = true by have e9 := bi_n0.mp c_25; simp_all [hpC]] at h; exact h)
set_option maxRecDepth 10000 in
theorem s_X0_hasPassedRequired {l : Launch} {w : WW} {M : Mem} {σ : Sg}  : Can l w yX0_hasPassedRequired cX0_hasPassedRequired 2 (some .boolean) (rmd 3) [.ref (ad w 0 0 0)] (zx w M 0 σ) (RI (bi (passedR σ)) (zx w M 0 σ)) := by
  refine Can.go (ls := [some (.ref (ad w 0 0 0)), none]) ?_
  refine a_iconst (v := 0) dX0_hasPassedRequired_0 (by decide) ?_
  refine a_istore_1 dX0_hasPassedRequired_1 (by decide) ?_
  exact L_X0_hasP 4 (j := 0) rfl ⟨rfl, rfl⟩
set_option maxRecDepth 10000 in
theorem s_X0_lease {l : Launch} {w : WW} {M : Mem} {σ : Sg} {j v : Nat} {e : Int32} (hj : j < 4) (hv : v < 4) : Can l w yX0_lease cX0_lease 4 none (rmd 1) [.ref (ad w 0 0 0), .int (nI j), .int (nI v), .int e] (zx w M 0 σ) (RV (zx w M 0 (leaseB σ j v e))) := by
  refine Can.go (ls := [some (.ref (ad w 0 0 0)), some (.int (nI j)), some (.int (nI v)), some (.int e)]) ?_
  refine a_aload_n dX0_lease_0 rfl ?_
  refine c_getR (t := 0) (k := 2) dX0_lease_1 kw_75 rfl ?_
  refine a_iload_n dX0_lease_4 rfl ?_
  refine a_bipush (v := 10) dX0_lease_5 (by decide) ?_
  refine a_iload_n dX0_lease_7 rfl ?_
  refine a_iadd dX0_lease_8 ?_
  refine c_iast (i := j) dX0_lease_9 rfl hj ?_
  refine a_aload_n dX0_lease_10 rfl ?_
  refine c_getR (t := 0) (k := 3) dX0_lease_11 kw_76 rfl ?_
  refine a_iload_n dX0_lease_14 rfl ?_
  refine a_dup2 dX0_lease_15 rfl rfl ?_
  refine c_iald (i := j) dX0_lease_16 rfl hj ?_
  refine a_iconst (v := 1) dX0_lease_17 (by decide) ?_
  refine a_iadd dX0_lease_18 ?_
  refine c_iast (i := j) dX0_lease_19 rfl hj ?_
  refine a_aload_n dX0_lease_20 rfl ?_
  refine c_getR (t := 0) (k := 4) dX0_lease_21 kw_77 rfl ?_
  refine a_iload_n dX0_lease_24 rfl ?_
  refine a_iload_n dX0_lease_25 rfl ?_
  refine c_iast (i := v) dX0_lease_26 rfl hv ?_
  exact c_vret dX0_lease_27 ⟨rfl, by rw [sg_t (by decide)]; rfl⟩
set_option maxRecDepth 10000 in
theorem L_X0_failJob {l : Launch} {w : WW} {Φ : Option Value → XX → Prop} {M : Mem} {σ : Sg} {i : Int32} {v1 : Option Value} : ∀ (n : Nat) {j : Nat}, j + n = 4 → A l w yX0_failJob cX0_failJob 4 none (rmd 3) Φ 41 [some (.ref (ad w 0 0 0)), v1, some (.int (failing (σ 9 0 0) i)), some (.int (nI 4))] [] (zx w M 0 (sga σ 10 0 (mixN 4 (failF (σ 9 0 0) i (σ 10 0)) (σ 10 0)))) 0 0 → A l w yX0_failJob cX0_failJob 4 none (rmd 3) Φ 15 [some (.ref (ad w 0 0 0)), v1, some (.int (failing (σ 9 0 0) i)), some (.int (nI j))] [] (zx w M 0 (sga σ 10 0 (mixN j (failF (σ 9 0 0) i (σ 10 0)) (σ 10 0)))) 0 0 := by
  intro n
  induction n with
  | zero =>
    intro j hj kk
    refine a_iload_n dX0_failJob_15 rfl ?_
    refine a_iconst (v := 4) dX0_failJob_16 (by decide) ?_
    refine a_icmp_ge (tgt := 41) dX0_failJob_17 (by decide) (fun c_17 => ?_) (fun c_17 => absurd (by have e6 : j = 4 := (by omega); subst e6; decide) c_17)
    have e6 : j = 4 := (by omega)
    subst e6
    exact kk
  | succ n ih =>
    intro j hj kk
    refine a_iload_n dX0_failJob_15 rfl ?_
    refine a_iconst (v := 4) dX0_failJob_16 (by decide) ?_
    refine a_icmp_ge (tgt := 41) dX0_failJob_17 (by decide) (fun c_17 => absurd c_17 (nI_ge (b := 4) (by omega) (by omega))) (fun c_17 => ?_)
    refine a_iload_n dX0_failJob_20 rfl ?_
    refine a_iload_n dX0_failJob_21 rfl ?_
    refine a_ishr dX0_failJob_22 ?_
    refine a_iconst (v := 1) dX0_failJob_23 (by decide) ?_
    refine a_iand dX0_failJob_24 ?_
    refine a_if_eq (tgt := 35) dX0_failJob_25 (by decide) (fun c_25 => ?_) (fun c_25 => ?_)
    · refine a_iinc_3 (u := nI (j + 1)) dX0_failJob_35 (inc_nI j) (by decide) ?_
      refine a_goto (tgt := 15) dX0_failJob_38 (by decide) ?_
      have h8 : tb (failing (σ 9 0 0) i) (nI j) = !decide ((failing (σ 9 0 0) i) >>> (nI j &&& 31) &&& 1 = 0) := rfl
      first
        | (rw [← mixN_skip (n := j) (g := (failF (σ 9 0 0) i (σ 10 0))) (f := σ 10 0) (if_neg (by rw [h8, decide_eq_true c_25]; decide))]; exact ih (by omega) kk)
        | (rw [sg_sga, ← show (failF (σ 9 0 0) i (σ 10 0)) j = 3 from if_pos (by rw [h8, decide_eq_false c_25]; rfl), mixN_up]; exact ih (by omega) kk)
    · refine a_aload_n dX0_failJob_28 rfl ?_
      refine c_getR (t := 0) (k := 2) dX0_failJob_29 kw_75 rfl ?_
      refine a_iload_n dX0_failJob_32 rfl ?_
      refine a_iconst (v := 3) dX0_failJob_33 (by decide) ?_
      refine c_iast (i := j) dX0_failJob_34 rfl (show j < 4 by omega) ?_
      refine a_iinc_3 (u := nI (j + 1)) dX0_failJob_35 (inc_nI j) (by decide) ?_
      refine a_goto (tgt := 15) dX0_failJob_38 (by decide) ?_
      have h8 : tb (failing (σ 9 0 0) i) (nI j) = !decide ((failing (σ 9 0 0) i) >>> (nI j &&& 31) &&& 1 = 0) := rfl
      first
        | (rw [← mixN_skip (n := j) (g := (failF (σ 9 0 0) i (σ 10 0))) (f := σ 10 0) (if_neg (by rw [h8, decide_eq_true c_25]; decide))]; exact ih (by omega) kk)
        | (rw [sg_sga, ← show (failF (σ 9 0 0) i (σ 10 0)) j = 3 from if_pos (by rw [h8, decide_eq_false c_25]; rfl), mixN_up]; exact ih (by omega) kk)
set_option maxRecDepth 10000 in
theorem s_X0_failJob {l : Launch} {w : WW} {M : Mem} {σ : Sg} {i : Int32} : Can l w yX0_failJob cX0_failJob 4 none (rmd 3) [.ref (ad w 0 0 0), .int i] (zx w M 0 σ) (RV (zx w M 0 (failJ σ i))) := by
  refine Can.go (ls := [some (.ref (ad w 0 0 0)), some (.int i), none, none]) ?_
  refine a_aload_n dX0_failJob_0 rfl ?_
  refine c_V0I dX0_failJob_1 kw_232 kv_X0_pipeline s_X0_pipeline ?_
  refine a_iload_n dX0_failJob_4 rfl ?_
  refine c_S2I dX0_failJob_5 kw_263 ks_X3_allThatNeed s_X3_allThatNeed ?_
  refine a_iconst (v := 1) dX0_failJob_8 (by decide) ?_
  refine a_iload_n dX0_failJob_9 rfl ?_
  refine a_ishl dX0_failJob_10 ?_
  refine a_ior dX0_failJob_11 ?_
  refine a_istore_2 dX0_failJob_12 (by decide) ?_
  refine a_iconst (v := 0) dX0_failJob_13 (by decide) ?_
  refine a_istore_3 dX0_failJob_14 (by decide) ?_
  refine a_eq (x' := zx w M 0 (sga σ 10 0 (mixN 0 (failF (σ 9 0 0) i (σ 10 0)) (σ 10 0)))) (by rw [mixN_0, sga_eta]) ?_
  refine L_X0_failJob 4 rfl ?_
  refine c_junk (M' := M) (σ' := failJ σ i) (junkA (by decide) (fun k hk => (if_pos hk).symm)) ?_
  exact c_vret dX0_failJob_41 ⟨rfl, rfl⟩
set_option maxRecDepth 10000 in
theorem s_X0_expireLease {l : Launch} {w : WW} {M : Mem} {σ : Sg} {j : Nat} {m : Int32} (hj : j < 4) : Can l w yX0_expireLease cX0_expireLease 3 none (rmd 4) [.ref (ad w 0 0 0), .int (nI j), .int m] (zx w M 0 σ) (RV (zx w M 0 (expireB σ j m))) := by
  refine Can.go (ls := [some (.ref (ad w 0 0 0)), some (.int (nI j)), some (.int m)]) ?_
  refine a_aload_n dX0_expireLease_0 rfl ?_
  refine c_getR (t := 0) (k := 3) dX0_expireLease_1 kw_76 rfl ?_
  refine a_iload_n dX0_expireLease_4 rfl ?_
  refine c_iald (i := j) dX0_expireLease_5 rfl hj ?_
  refine a_iload_n dX0_expireLease_6 rfl ?_
  refine a_icmp_lt (tgt := 18) dX0_expireLease_7 (by decide) (fun c_7 => ?_) (fun c_7 => ?_)
  · refine a_aload_n dX0_expireLease_18 rfl ?_
    refine c_getR (t := 0) (k := 2) dX0_expireLease_19 kw_75 rfl ?_
    refine a_iload_n dX0_expireLease_22 rfl ?_
    refine a_iconst (v := 1) dX0_expireLease_23 (by decide) ?_
    refine c_iast (i := j) dX0_expireLease_24 rfl hj ?_
    exact c_vret dX0_expireLease_25 ⟨rfl, by first | rw [expireB, if_pos c_7] | rw [expireB, if_neg c_7]⟩
  · refine a_aload_n dX0_expireLease_10 rfl ?_
    refine a_iload_n dX0_expireLease_11 rfl ?_
    refine c_V1V dX0_expireLease_12 kw_331 kv_X0_failJob s_X0_failJob ?_
    refine a_goto (tgt := 25) dX0_expireLease_15 (by decide) ?_
    exact c_vret dX0_expireLease_25 ⟨rfl, by first | rw [expireB, if_pos c_7] | rw [expireB, if_neg c_7]⟩
end
section
def cn (σ : Sg) : Nat := (σ 5 0 4).toNatClampNeg
def qn (σ : Sg) : Nat := (σ 3 0 1).toNatClampNeg
def pn (σ : Sg) : Nat := (σ 3 1 1).toNatClampNeg
def mb (σ : Sg) : Nat := (σ 0 0 1).toNatClampNeg
def Cn (σ : Sg) : Prop := σ 5 0 4 = nI (cn σ) ∧ cn σ ≤ 16
def Qn (σ : Sg) : Prop := σ 3 0 1 = nI (qn σ) ∧ qn σ ≤ 16
def Pn (σ : Sg) : Prop := σ 3 1 1 = nI (pn σ) ∧ pn σ ≤ 8
def tn (c : Int32) : Nat := c.toNatClampNeg
def opB (σ : Sg) (c : Int32) : Bool := inr c (σ 5 0 4) && decide (σ 1 (tn c) 2 = 0)
def orB (σ : Sg) (c : Int32) : Bool := opB σ c || (inr c (σ 5 0 4) && decide (σ 1 (tn c) 2 = 3))
def mqB (a : Int32) (σ : Sg) (c : Int32) : Bool := opB σ c && (!decide (bitc (σ 1 (tn c) 4) < a) && decide (bitc (σ 1 (tn c) 5) = 0))
def cfT (σ : Sg) (c : Nat) : Bool := anyU (cfl (σ 14 c) (σ 15 c) (σ 8 0)) 6 0
def mrB (σ : Sg) (c : Int32) : Bool := orB σ c && !cfT σ (tn c)
def jtl (σ : Sg) (v : Int32) : Int32 := if (inr v 4 && decide (leasedJ σ v = -1)) = true then nextJ σ else -1
theorem tnC {σ : Sg} {c : Int32} (h : inr c (σ 5 0 4) = true) (hc : Cn σ) : c = nI (tn c) ∧ tn c < 16 := by
  obtain ⟨h1, h2⟩ := inr_nI h hc.1 (by have := hc.2; omega)
  exact ⟨h1, Nat.lt_of_lt_of_le h2 hc.2⟩
theorem opB_in {σ : Sg} {c : Int32} (h : opB σ c = true) : inr c (σ 5 0 4) = true := by
  unfold opB at h
  cases h1 : inr c (σ 5 0 4) with
  | true => rfl
  | false => rw [h1] at h; cases h
theorem orB_in {σ : Sg} {c : Int32} (h : orB σ c = true) : inr c (σ 5 0 4) = true := by
  unfold orB at h
  cases h1 : inr c (σ 5 0 4) with
  | true => rfl
  | false => rw [h1, show opB σ c = false by unfold opB; rw [h1]; rfl] at h; cases h
set_option maxRecDepth 10000 in
theorem s_X6_isChange {l : Launch} {w : WW} {M : Mem} {σ : Sg} {c : Int32} : Can l w yX6_isChange cX6_isChange 2 (some .boolean) (rmd 1) [.ref (ad w 0 5 0), .int c] (zx w M 0 σ) (RI (bi (inr c (σ 5 0 4))) (zx w M 0 σ)) := by
  refine Can.go (ls := [some (.ref (ad w 0 5 0)), some (.int c)]) ?_
  refine a_iload_n dX6_isChange_0 rfl ?_
  refine a_if_lt (tgt := 16) dX6_isChange_1 (by decide) (fun c_1 => ?_) (fun c_1 => ?_)
  · refine a_iconst (v := 0) dX6_isChange_16 (by decide) ?_
    exact c_zret dX6_isChange_17 ⟨by simp_all [bi, inr], rfl⟩
  · refine a_iload_n dX6_isChange_4 rfl ?_
    refine a_aload_n dX6_isChange_5 rfl ?_
    refine c_getI (t := 5) (k := 4) dX6_isChange_6 kw_148 ?_
    refine a_icmp_ge (tgt := 16) dX6_isChange_9 (by decide) (fun c_9 => ?_) (fun c_9 => ?_)
    · refine a_iconst (v := 0) dX6_isChange_16 (by decide) ?_
      exact c_zret dX6_isChange_17 ⟨by simp_all [bi, inr], rfl⟩
    · refine a_iconst (v := 1) dX6_isChange_12 (by decide) ?_
      refine a_goto (tgt := 17) dX6_isChange_13 (by decide) ?_
      exact c_zret dX6_isChange_17 ⟨by simp_all [bi, inr], rfl⟩
set_option maxRecDepth 10000 in
theorem s_X6_isOpen {l : Launch} {w : WW} {M : Mem} {σ : Sg} {c : Int32} (hc : Cn σ) : Can l w yX6_isOpen cX6_isOpen 2 (some .boolean) (rmd 2) [.ref (ad w 0 5 0), .int c] (zx w M 0 σ) (RI (bi (opB σ c)) (zx w M 0 σ)) := by
  refine Can.go (ls := [some (.ref (ad w 0 5 0)), some (.int c)]) ?_
  refine a_aload_n dX6_isOpen_0 rfl ?_
  refine a_iload_n dX6_isOpen_1 rfl ?_
  refine c_V1I dX6_isOpen_2 kw_298 kv_X6_isChange s_X6_isChange ?_
  refine a_if_eq (tgt := 24) dX6_isOpen_5 (by decide) (fun c_5 => ?_) (fun c_5 => ?_)
  · refine a_iconst (v := 0) dX6_isOpen_24 (by decide) ?_
    exact c_zret dX6_isOpen_25 ⟨by first | (rw [opB, bi_0.mp c_5]; rfl) | (rw [opB, bi_n0.mp c_5, decide_eq_true c_17]; rfl) | (rw [opB, bi_n0.mp c_5, decide_eq_false c_17]; rfl), rfl⟩
  · refine a_aload_n dX6_isOpen_8 rfl ?_
    refine c_getR (t := 5) (k := 3) dX6_isOpen_9 kw_53 rfl ?_
    refine a_iload_n dX6_isOpen_12 rfl ?_
    obtain ⟨e1, e2⟩ := tnC (bi_n0.mp c_5) hc
    obtain ⟨r1, r14, r15⟩ := rl_ch e2
    refine c_aald (i := tn c) dX6_isOpen_13 e1 e2 (if_pos e2) ?_
    refine c_getI (t := 1) (k := 2) dX6_isOpen_14 kw_541 ?_
    refine a_if_ne (tgt := 24) dX6_isOpen_17 (by decide) (fun c_17 => ?_) (fun c_17 => ?_)
    · refine a_iconst (v := 0) dX6_isOpen_24 (by decide) ?_
      exact c_zret dX6_isOpen_25 ⟨by first | (rw [opB, bi_0.mp c_5]; rfl) | (rw [opB, bi_n0.mp c_5, decide_eq_true c_17]; rfl) | (rw [opB, bi_n0.mp c_5, decide_eq_false c_17]; rfl), rfl⟩
    · refine a_iconst (v := 1) dX6_isOpen_20 (by decide) ?_
      refine a_goto (tgt := 25) dX6_isOpen_21 (by decide) ?_
      exact c_zret dX6_isOpen_25 ⟨by first | (rw [opB, bi_0.mp c_5]; rfl) | (rw [opB, bi_n0.mp c_5, decide_eq_true c_17]; rfl) | (rw [opB, bi_n0.mp c_5, decide_eq_false c_17]; rfl), rfl⟩
set_option maxRecDepth 10000 in
theorem s_X6_isOpenOrRejected {l : Launch} {w : WW} {M : Mem} {σ : Sg} {c : Int32} (hc : Cn σ) : Can l w yX6_isOpenOrRejected cX6_isOpenOrRejected 2 (some .boolean) (rmd 3) [.ref (ad w 0 5 0), .int c] (zx w M 0 σ) (RI (bi (orB σ c)) (zx w M 0 σ)) := by
  refine Can.go (ls := [some (.ref (ad w 0 5 0)), some (.int c)]) ?_
  refine a_aload_n dX6_isOpenOrRejected_0 rfl ?_
  refine a_iload_n dX6_isOpenOrRejected_1 rfl ?_
  refine c_V1I dX6_isOpenOrRejected_2 kw_576 kv_X6_isOpen (s_X6_isOpen hc) ?_
  refine a_if_ne (tgt := 29) dX6_isOpenOrRejected_5 (by decide) (fun c_5 => ?_) (fun c_5 => ?_)
  · refine a_iconst (v := 1) dX6_isOpenOrRejected_29 (by decide) ?_
    refine a_goto (tgt := 34) dX6_isOpenOrRejected_30 (by decide) ?_
    exact c_zret dX6_isOpenOrRejected_34 ⟨by first | (rw [orB, bi_n0.mp c_5]; rfl) | (rw [orB, bi_0.mp c_5, bi_0.mp c_13]; rfl) | (rw [orB, bi_0.mp c_5, bi_n0.mp c_13, decide_eq_true c_26]; rfl) | (rw [orB, bi_0.mp c_5, bi_n0.mp c_13, decide_eq_false c_26]; rfl), rfl⟩
  · refine a_aload_n dX6_isOpenOrRejected_8 rfl ?_
    refine a_iload_n dX6_isOpenOrRejected_9 rfl ?_
    refine c_V1I dX6_isOpenOrRejected_10 kw_298 kv_X6_isChange s_X6_isChange ?_
    refine a_if_eq (tgt := 33) dX6_isOpenOrRejected_13 (by decide) (fun c_13 => ?_) (fun c_13 => ?_)
    · refine a_iconst (v := 0) dX6_isOpenOrRejected_33 (by decide) ?_
      exact c_zret dX6_isOpenOrRejected_34 ⟨by first | (rw [orB, bi_n0.mp c_5]; rfl) | (rw [orB, bi_0.mp c_5, bi_0.mp c_13]; rfl) | (rw [orB, bi_0.mp c_5, bi_n0.mp c_13, decide_eq_true c_26]; rfl) | (rw [orB, bi_0.mp c_5, bi_n0.mp c_13, decide_eq_false c_26]; rfl), rfl⟩
    · refine a_aload_n dX6_isOpenOrRejected_16 rfl ?_
      refine c_getR (t := 5) (k := 3) dX6_isOpenOrRejected_17 kw_53 rfl ?_
      refine a_iload_n dX6_isOpenOrRejected_20 rfl ?_
      obtain ⟨e1, e2⟩ := tnC (bi_n0.mp c_13) hc
      obtain ⟨r1, r14, r15⟩ := rl_ch e2
      refine c_aald (i := tn c) dX6_isOpenOrRejected_21 e1 e2 (if_pos e2) ?_
      refine c_getI (t := 1) (k := 2) dX6_isOpenOrRejected_22 kw_541 ?_
      refine a_iconst (v := 3) dX6_isOpenOrRejected_25 (by decide) ?_
      refine a_icmp_ne (tgt := 33) dX6_isOpenOrRejected_26 (by decide) (fun c_26 => ?_) (fun c_26 => ?_)
      · refine a_iconst (v := 0) dX6_isOpenOrRejected_33 (by decide) ?_
        exact c_zret dX6_isOpenOrRejected_34 ⟨by first | (rw [orB, bi_n0.mp c_5]; rfl) | (rw [orB, bi_0.mp c_5, bi_0.mp c_13]; rfl) | (rw [orB, bi_0.mp c_5, bi_n0.mp c_13, decide_eq_true c_26]; rfl) | (rw [orB, bi_0.mp c_5, bi_n0.mp c_13, decide_eq_false c_26]; rfl), rfl⟩
      · refine a_iconst (v := 1) dX6_isOpenOrRejected_29 (by decide) ?_
        refine a_goto (tgt := 34) dX6_isOpenOrRejected_30 (by decide) ?_
        exact c_zret dX6_isOpenOrRejected_34 ⟨by first | (rw [orB, bi_n0.mp c_5]; rfl) | (rw [orB, bi_0.mp c_5, bi_0.mp c_13]; rfl) | (rw [orB, bi_0.mp c_5, bi_n0.mp c_13, decide_eq_true c_26]; rfl) | (rw [orB, bi_0.mp c_5, bi_n0.mp c_13, decide_eq_false c_26]; rfl), rfl⟩
set_option maxRecDepth 10000 in
theorem s_X6_mayBeQueued {l : Launch} {w : WW} {M : Mem} {σ : Sg} {c : Int32} (hc : Cn σ) : Can l w yX6_mayBeQueued cX6_mayBeQueued 2 (some .boolean) (rmd 3) [.ref (ad w 0 5 0), .int c] (zx w M 0 σ) (RI (bi (mqB (M 2 4 0 0) σ c)) (zx w M 0 σ)) := by
  refine Can.go (ls := [some (.ref (ad w 0 5 0)), some (.int c)]) ?_
  refine a_aload_n dX6_mayBeQueued_0 rfl ?_
  refine a_iload_n dX6_mayBeQueued_1 rfl ?_
  refine c_V1I dX6_mayBeQueued_2 kw_576 kv_X6_isOpen (s_X6_isOpen hc) ?_
  refine a_if_eq (tgt := 43) dX6_mayBeQueued_5 (by decide) (fun c_5 => ?_) (fun c_5 => ?_)
  · refine a_iconst (v := 0) dX6_mayBeQueued_43 (by decide) ?_
    exact c_zret dX6_mayBeQueued_44 ⟨by first | (rw [mqB, bi_0.mp c_5]; rfl) | (rw [mqB, bi_n0.mp c_5, decide_eq_true c_24]; rfl) | (rw [mqB, bi_n0.mp c_5, decide_eq_false c_24, decide_eq_true c_36]; rfl) | (rw [mqB, bi_n0.mp c_5, decide_eq_false c_24, decide_eq_false c_36]; rfl), rfl⟩
  · refine a_aload_n dX6_mayBeQueued_8 rfl ?_
    refine c_getR (t := 5) (k := 3) dX6_mayBeQueued_9 kw_53 rfl ?_
    refine a_iload_n dX6_mayBeQueued_12 rfl ?_
    obtain ⟨e1, e2⟩ := tnC (opB_in (bi_n0.mp c_5)) hc
    obtain ⟨r1, r14, r15⟩ := rl_ch e2
    refine c_aald (i := tn c) dX6_mayBeQueued_13 e1 e2 (if_pos e2) ?_
    refine c_V0I dX6_mayBeQueued_14 kw_590 kv_X1_countFor (s_X1_countFor e2) ?_
    refine a_aload_n dX6_mayBeQueued_17 rfl ?_
    refine c_getR (t := 5) (k := 0) dX6_mayBeQueued_18 kw_63 rfl ?_
    refine e_getI (t := 4) (k := 0) dX6_mayBeQueued_21 kw_589 ?_
    refine a_icmp_lt (tgt := 43) dX6_mayBeQueued_24 (by decide) (fun c_24 => ?_) (fun c_24 => ?_)
    · refine a_iconst (v := 0) dX6_mayBeQueued_43 (by decide) ?_
      exact c_zret dX6_mayBeQueued_44 ⟨by first | (rw [mqB, bi_0.mp c_5]; rfl) | (rw [mqB, bi_n0.mp c_5, decide_eq_true c_24]; rfl) | (rw [mqB, bi_n0.mp c_5, decide_eq_false c_24, decide_eq_true c_36]; rfl) | (rw [mqB, bi_n0.mp c_5, decide_eq_false c_24, decide_eq_false c_36]; rfl), rfl⟩
    · refine a_aload_n dX6_mayBeQueued_27 rfl ?_
      refine c_getR (t := 5) (k := 3) dX6_mayBeQueued_28 kw_53 rfl ?_
      refine a_iload_n dX6_mayBeQueued_31 rfl ?_
      refine c_aald (i := tn c) dX6_mayBeQueued_32 e1 e2 (if_pos e2) ?_
      refine c_V0I dX6_mayBeQueued_33 kw_601 kv_X1_countAgainst (s_X1_countAgainst e2) ?_
      refine a_if_ne (tgt := 43) dX6_mayBeQueued_36 (by decide) (fun c_36 => ?_) (fun c_36 => ?_)
      · refine a_iconst (v := 0) dX6_mayBeQueued_43 (by decide) ?_
        exact c_zret dX6_mayBeQueued_44 ⟨by first | (rw [mqB, bi_0.mp c_5]; rfl) | (rw [mqB, bi_n0.mp c_5, decide_eq_true c_24]; rfl) | (rw [mqB, bi_n0.mp c_5, decide_eq_false c_24, decide_eq_true c_36]; rfl) | (rw [mqB, bi_n0.mp c_5, decide_eq_false c_24, decide_eq_false c_36]; rfl), rfl⟩
      · refine a_iconst (v := 1) dX6_mayBeQueued_39 (by decide) ?_
        refine a_goto (tgt := 44) dX6_mayBeQueued_40 (by decide) ?_
        exact c_zret dX6_mayBeQueued_44 ⟨by first | (rw [mqB, bi_0.mp c_5]; rfl) | (rw [mqB, bi_n0.mp c_5, decide_eq_true c_24]; rfl) | (rw [mqB, bi_n0.mp c_5, decide_eq_false c_24, decide_eq_true c_36]; rfl) | (rw [mqB, bi_n0.mp c_5, decide_eq_false c_24, decide_eq_false c_36]; rfl), rfl⟩
set_option maxRecDepth 10000 in
theorem s_X6_mayBeRebased {l : Launch} {w : WW} {M : Mem} {σ : Sg} {c : Int32} (hc : Cn σ) : Can l w yX6_mayBeRebased cX6_mayBeRebased 2 (some .boolean) (rmd 4) [.ref (ad w 0 5 0), .int c] (zx w M 0 σ) (RI (bi (mrB σ c)) (zx w M 0 σ)) := by
  refine Can.go (ls := [some (.ref (ad w 0 5 0)), some (.int c)]) ?_
  refine a_aload_n dX6_mayBeRebased_0 rfl ?_
  refine a_iload_n dX6_mayBeRebased_1 rfl ?_
  refine c_V1I dX6_mayBeRebased_2 kw_617 kv_X6_isOpenOrRejected (s_X6_isOpenOrRejected hc) ?_
  refine a_if_eq (tgt := 28) dX6_mayBeRebased_5 (by decide) (fun c_5 => ?_) (fun c_5 => ?_)
  · refine a_iconst (v := 0) dX6_mayBeRebased_28 (by decide) ?_
    exact c_zret dX6_mayBeRebased_29 ⟨by first | (rw [mrB, bi_0.mp c_5]; rfl) | (rw [mrB, bi_n0.mp c_5, cfT, bi_n0.mp c_21]; rfl) | (rw [mrB, bi_n0.mp c_5, cfT, bi_0.mp c_21]; rfl), rfl⟩
  · refine a_aload_n dX6_mayBeRebased_8 rfl ?_
    refine c_getR (t := 5) (k := 3) dX6_mayBeRebased_9 kw_53 rfl ?_
    refine a_iload_n dX6_mayBeRebased_12 rfl ?_
    obtain ⟨e1, e2⟩ := tnC (orB_in (bi_n0.mp c_5)) hc
    obtain ⟨r1, r14, r15⟩ := rl_ch e2
    refine c_aald (i := tn c) dX6_mayBeRebased_13 e1 e2 (if_pos e2) ?_
    refine a_aload_n dX6_mayBeRebased_14 rfl ?_
    refine c_getR (t := 5) (k := 1) dX6_mayBeRebased_15 kw_51 rfl ?_
    refine c_V1I dX6_mayBeRebased_18 kw_352 kv_X1_conflictsWith (s_X1_conflictsWith (t := 8) e2 (by decide) rfl rfl rfl) ?_
    refine a_if_ne (tgt := 28) dX6_mayBeRebased_21 (by decide) (fun c_21 => ?_) (fun c_21 => ?_)
    · refine a_iconst (v := 0) dX6_mayBeRebased_28 (by decide) ?_
      exact c_zret dX6_mayBeRebased_29 ⟨by first | (rw [mrB, bi_0.mp c_5]; rfl) | (rw [mrB, bi_n0.mp c_5, cfT, bi_n0.mp c_21]; rfl) | (rw [mrB, bi_n0.mp c_5, cfT, bi_0.mp c_21]; rfl), rfl⟩
    · refine a_iconst (v := 1) dX6_mayBeRebased_24 (by decide) ?_
      refine a_goto (tgt := 29) dX6_mayBeRebased_25 (by decide) ?_
      exact c_zret dX6_mayBeRebased_29 ⟨by first | (rw [mrB, bi_0.mp c_5]; rfl) | (rw [mrB, bi_n0.mp c_5, cfT, bi_n0.mp c_21]; rfl) | (rw [mrB, bi_n0.mp c_5, cfT, bi_0.mp c_21]; rfl), rfl⟩
set_option maxRecDepth 10000 in
theorem s_X6_jobToLease {l : Launch} {w : WW} {M : Mem} {σ : Sg} {v : Int32} : Can l w yX6_jobToLease cX6_jobToLease 2 (some .int) (rmd 3) [.ref (ad w 0 5 0), .int v] (zx w M 0 σ) (RI (jtl σ v) (zx w M 0 σ)) := by
  refine Can.go (ls := [some (.ref (ad w 0 5 0)), some (.int v)]) ?_
  refine a_iload_n dX6_jobToLease_0 rfl ?_
  refine c_N1I dX6_jobToLease_1 nw_550 ks_X7_isWorker s_X7_isWorker ?_
  refine a_if_eq (tgt := 29) dX6_jobToLease_4 (by decide) (fun c_4 => ?_) (fun c_4 => ?_)
  · refine a_iconst (v := (-1)) dX6_jobToLease_29 (by decide) ?_
    exact c_iret dX6_jobToLease_30 ⟨by first | (rw [jtl, bi_0.mp c_4]; rfl) | (rw [jtl, bi_n0.mp c_4, decide_eq_true c_16]; rfl) | (rw [jtl, bi_n0.mp c_4, decide_eq_false c_16]; rfl), rfl⟩
  · refine a_aload_n dX6_jobToLease_7 rfl ?_
    refine c_getR (t := 5) (k := 7) dX6_jobToLease_8 kw_62 rfl ?_
    refine a_iload_n dX6_jobToLease_11 rfl ?_
    refine c_V1I dX6_jobToLease_12 kw_248 kv_X0_leasedJob s_X0_leasedJob ?_
    refine a_iconst (v := (-1)) dX6_jobToLease_15 (by decide) ?_
    refine a_icmp_ne (tgt := 29) dX6_jobToLease_16 (by decide) (fun c_16 => ?_) (fun c_16 => ?_)
    · refine a_iconst (v := (-1)) dX6_jobToLease_29 (by decide) ?_
      exact c_iret dX6_jobToLease_30 ⟨by first | (rw [jtl, bi_0.mp c_4]; rfl) | (rw [jtl, bi_n0.mp c_4, decide_eq_true c_16]; rfl) | (rw [jtl, bi_n0.mp c_4, decide_eq_false c_16]; rfl), rfl⟩
    · refine a_aload_n dX6_jobToLease_19 rfl ?_
      refine c_getR (t := 5) (k := 7) dX6_jobToLease_20 kw_62 rfl ?_
      refine c_V0I dX6_jobToLease_23 kw_228 kv_X0_nextJob s_X0_nextJob ?_
      refine a_goto (tgt := 30) dX6_jobToLease_26 (by decide) ?_
      exact c_iret dX6_jobToLease_30 ⟨by first | (rw [jtl, bi_0.mp c_4]; rfl) | (rw [jtl, bi_n0.mp c_4, decide_eq_true c_16]; rfl) | (rw [jtl, bi_n0.mp c_4, decide_eq_false c_16]; rfl), rfl⟩
def addC (σ : Sg) : Sg := sg (stF σ (cn σ)) 5 0 4 (σ 5 0 4 + 1)
def leaseN (t : Int32) (σ : Sg) (v : Nat) : Sg := if nextJ σ = -1 then σ else leaseB σ (tn (nextJ σ)) v (σ 5 0 8 + t)
theorem stF_5 (σ : Sg) (c : Nat) : stF σ c 5 = σ 5 := by
  unfold stF dropR become
  rw [sg_t (by decide), sg_t (by decide), sg_t (by decide), sg_t (by decide), sga_t (by decide), sga_t (by decide)]
theorem fhit_in {c : Nat → Bool} : ∀ {n j : Nat}, fhit c n j = -1 ∨ ∃ i, j ≤ i ∧ i < j + n ∧ fhit c n j = nI i ∧ c i = true
  | 0, j => Or.inl rfl
  | n + 1, j => by
    unfold fhit
    by_cases h : c j = true
    · rw [if_pos h]
      exact Or.inr ⟨j, Nat.le_refl j, by omega, rfl, h⟩
    · rw [if_neg h]
      rcases @fhit_in c n (j + 1) with h1 | ⟨i, h1, h2, h3, h4⟩
      · exact Or.inl h1
      · exact Or.inr ⟨i, by omega, by omega, h3, h4⟩
theorem fhit_tn {c : Nat → Bool} (h : ¬ fhit c 4 0 = -1) : fhit c 4 0 = nI (tn (fhit c 4 0)) ∧ tn (fhit c 4 0) < 4 ∧ c (tn (fhit c 4 0)) = true := by
  rcases @fhit_in c 4 0 with h1 | ⟨i, -, h2, h3, h4⟩
  · exact absurd h1 h
  · have e : tn (fhit c 4 0) = i := by rw [h3]; exact nI_clamp (by omega)
    rw [e]
    exact ⟨h3, by omega, h4⟩
set_option maxRecDepth 10000 in
theorem s_X6_addChange {l : Launch} {w : WW} {M : Mem} {σ : Sg} (hc : Cn σ) (hlt : cn σ < 16) : Can l w yX6_addChange cX6_addChange 2 (some .int) (rmd 3) [.ref (ad w 0 5 0)] (zx w M 0 σ) (RI (σ 5 0 4) (zx w M 0 (addC σ))) := by
  refine Can.go (ls := [some (.ref (ad w 0 5 0)), none]) ?_
  refine a_aload_n dX6_addChange_0 rfl ?_
  refine c_getI (t := 5) (k := 4) dX6_addChange_1 kw_148 ?_
  refine a_istore_1 dX6_addChange_4 (by decide) ?_
  refine a_aload_n dX6_addChange_5 rfl ?_
  refine c_getR (t := 5) (k := 3) dX6_addChange_6 kw_53 rfl ?_
  refine a_iload_n dX6_addChange_9 rfl ?_
  obtain ⟨r1, r14, r15⟩ := rl_ch hlt
  refine c_aald (i := cn σ) dX6_addChange_10 hc.1 hlt (if_pos hlt) ?_
  refine a_aload_n dX6_addChange_11 rfl ?_
  refine c_getR (t := 5) (k := 1) dX6_addChange_12 kw_51 rfl ?_
  refine c_V1V dX6_addChange_15 kw_186 kv_X1_startFrom (s_X1_startFrom hlt) ?_
  refine a_aload_n dX6_addChange_18 rfl ?_
  refine a_dup dX6_addChange_19 rfl ?_
  refine c_getI (t := 5) (k := 4) dX6_addChange_20 kw_148 ?_
  refine a_iconst (v := 1) dX6_addChange_23 (by decide) ?_
  refine a_iadd dX6_addChange_24 ?_
  refine c_putI (t := 5) (k := 4) dX6_addChange_25 kw_148 ?_
  refine a_iload_n dX6_addChange_28 rfl ?_
  exact c_iret dX6_addChange_29 ⟨rfl, by rw [stF_5]; rfl⟩
set_option maxRecDepth 10000 in
theorem s_X6_leaseNextJob {l : Launch} {w : WW} {M : Mem} {σ : Sg} {v : Nat} (hv : v < 4) : Can l w yX6_leaseNextJob cX6_leaseNextJob 3 (some .int) (rmd 3) [.ref (ad w 0 5 0), .int (nI v)] (zx w M 0 σ) (RI (nextJ σ) (zx w M 0 (leaseN (M 2 4 0 3) σ v))) := by
  refine Can.go (ls := [some (.ref (ad w 0 5 0)), some (.int (nI v)), none]) ?_
  refine a_aload_n dX6_leaseNextJob_0 rfl ?_
  refine c_getR (t := 5) (k := 7) dX6_leaseNextJob_1 kw_62 rfl ?_
  refine c_V0I dX6_leaseNextJob_4 kw_228 kv_X0_nextJob s_X0_nextJob ?_
  refine a_istore_2 dX6_leaseNextJob_7 (by decide) ?_
  refine a_iload_n dX6_leaseNextJob_8 rfl ?_
  refine a_iconst (v := (-1)) dX6_leaseNextJob_9 (by decide) ?_
  refine a_icmp_eq (tgt := 34) dX6_leaseNextJob_10 (by decide) (fun c_10 => ?_) (fun c_10 => ?_)
  · refine a_iload_n dX6_leaseNextJob_34 rfl ?_
    exact c_iret dX6_leaseNextJob_35 ⟨by first | rfl | exact e1.symm, by first | rw [leaseN, if_pos c_10] | rw [leaseN, if_neg c_10]⟩
  · refine a_aload_n dX6_leaseNextJob_13 rfl ?_
    refine c_getR (t := 5) (k := 7) dX6_leaseNextJob_14 kw_62 rfl ?_
    obtain ⟨e1, e2, -⟩ := fhit_tn c_10
    refine a_iload_n dX6_leaseNextJob_17 rfl ?_
    refine a_iload_n dX6_leaseNextJob_18 rfl ?_
    refine a_aload_n dX6_leaseNextJob_19 rfl ?_
    rw [show nextJ σ = nI (tn (nextJ σ)) from e1]
    refine c_getI (t := 5) (k := 8) dX6_leaseNextJob_20 kw_149 ?_
    refine a_aload_n dX6_leaseNextJob_23 rfl ?_
    refine c_getR (t := 5) (k := 0) dX6_leaseNextJob_24 kw_63 rfl ?_
    refine e_getI (t := 4) (k := 3) dX6_leaseNextJob_27 kw_227 ?_
    refine a_iadd dX6_leaseNextJob_30 ?_
    refine c_V3V dX6_leaseNextJob_31 kw_244 kv_X0_lease (s_X0_lease e2 hv) ?_
    refine a_iload_n dX6_leaseNextJob_34 rfl ?_
    exact c_iret dX6_leaseNextJob_35 ⟨by first | rfl | exact e1.symm, by first | rw [leaseN, if_pos c_10] | rw [leaseN, if_neg c_10]⟩
end
section
def Qok (σ : Sg) : Prop := Cn σ ∧ Qn σ ∧ ∀ i, i < qn σ → ∃ c, c < cn σ ∧ σ 13 0 i = nI c
def tfq (σ : Sg) (j : Nat) (a b : Int32) : Sg := rowRmv (become σ (tn (σ 13 0 j)) a b) 0 j (qn σ)
def tkN : Nat → Sg → Sg
  | 0, σ => σ
  | n + 1, σ => tkN n (tfq σ 0 2 0)
def trkS (σ : Sg) : Sg := sg (sga σ 8 0 (σ 9 0)) 5 0 2 (σ 5 0 2 + 1)
def passS (σ : Sg) : Sg := endB (rowRmv (tkN (mb σ) (trkS σ)) 1 0 (pn σ))
def failS (σ : Sg) (k : Nat) (cause : Int32) : Sg := if k = 1 then rowRmv (tfq (endB σ) 0 3 cause) 1 0 (pn σ) else rowIns (sg (endB σ) 13 1 0 (nI (k / 2))) 1 0 (pn σ) (nI ((k + 1) / 2))
def judgeS (σ : Sg) : Sg := if firstF σ = -1 then (if passedR σ = true then passS σ else σ) else failS σ (mb σ) (10 + firstF σ)
def endJ (σ : Sg) (j : Nat) (outcome : Int32) : Sg := judgeS (if outcome = 2 then sg σ 10 0 j 2 else failJ σ (nI j))
theorem tn_nI {n : Nat} (h : n < 2 ^ 31) : tn (nI n) = n := nI_clamp h
theorem rmv_at {f : Nat → Int32} {j n i : Nat} (h : i < n - 1) : rmv f j n i = f (if i < j then i else i + 1) := by
  unfold rmv
  by_cases h1 : i < j
  · rw [if_neg (by omega), if_pos h1]
  · rw [if_pos (by omega), if_neg h1]
theorem tfq_13 (σ : Sg) (j : Nat) (a b : Int32) : (tfq σ j a b) 13 0 = rmv (σ 13 0) j (qn σ) := by
  simp [tfq, rowRmv, become, sg, sga, up1]
theorem tfq_p (σ : Sg) (j : Nat) (a b : Int32) : (tfq σ j a b) 13 1 = σ 13 1 ∧ (tfq σ j a b) 3 1 = σ 3 1 := by
  constructor <;> simp [tfq, rowRmv, become, sg, sga, up1]
theorem tfq_t {σ : Sg} {j : Nat} {a b : Int32} {t : Nat} (h1 : t ≠ 1) (h3 : t ≠ 3) (h13 : t ≠ 13) : (tfq σ j a b) t = σ t := by
  unfold tfq rowRmv become
  rw [sg_t h3, sga_t h13, sg_t h1, sg_t h1]
theorem tfq_q (σ : Sg) (j : Nat) (a b : Int32) : (tfq σ j a b) 3 0 1 = nI (qn σ - 1) := by
  simp [tfq, rowRmv, sg, up1]
theorem tfq_qn {σ : Sg} {j : Nat} {a b : Int32} (h : Qn σ) : qn (tfq σ j a b) = qn σ - 1 := by
  show ((tfq σ j a b) 3 0 1).toNatClampNeg = _
  rw [tfq_q]
  exact nI_clamp (by have := h.2; omega)
theorem tfq_cn (σ : Sg) (j : Nat) (a b : Int32) : cn (tfq σ j a b) = cn σ := by
  show ((tfq σ j a b) 5 0 4).toNatClampNeg = _
  rw [tfq_t (by decide) (by decide) (by decide)]
  rfl
theorem tfq_ok {σ : Sg} {j : Nat} {a b : Int32} (h : Qok σ) : Qok (tfq σ j a b) := by
  obtain ⟨h1, h2, h3⟩ := h
  refine ⟨⟨?_, by rw [tfq_cn]; exact h1.2⟩, ⟨by rw [tfq_qn h2]; exact tfq_q σ j a b, by rw [tfq_qn h2]; have := h2.2; omega⟩, fun i hi => ?_⟩
  · rw [tfq_cn, tfq_t (by decide) (by decide) (by decide)]
    exact h1.1
  · rw [tfq_qn h2] at hi
    rw [tfq_cn, tfq_13, rmv_at hi]
    by_cases h9 : i < j
    · rw [if_pos h9]; exact h3 i (by omega)
    · rw [if_neg h9]; exact h3 (i + 1) (by omega)
theorem Qok_of {σ τ : Sg} (h : Qok σ) (h5 : τ 5 0 4 = σ 5 0 4) (h3 : τ 3 0 1 = σ 3 0 1) (h13 : τ 13 0 = σ 13 0) : Qok τ := by
  unfold Qok Cn Qn cn qn at *
  rw [h5, h3, h13]
  exact h
theorem tkN_t {t : Nat} (h1 : t ≠ 1) (h3 : t ≠ 3) (h13 : t ≠ 13) : ∀ (n : Nat) (σ : Sg), (tkN n σ) t = σ t
  | 0, _ => rfl
  | n + 1, σ => (tkN_t h1 h3 h13 n _).trans (tfq_t h1 h3 h13)
theorem tkN_p : ∀ (n : Nat) (σ : Sg), (tkN n σ) 13 1 = σ 13 1 ∧ (tkN n σ) 3 1 = σ 3 1
  | 0, _ => ⟨rfl, rfl⟩
  | n + 1, σ => ⟨(tkN_p n _).1.trans (tfq_p σ 0 2 0).1, (tkN_p n _).2.trans (tfq_p σ 0 2 0).2⟩
/-- a batch is under test, and what is said of it fits the queue and the plan -/
def Jok (σ : Sg) : Prop := Qok σ ∧ Pn σ ∧ 0 < pn σ ∧ σ 0 0 1 = nI (mb σ) ∧ 1 ≤ mb σ ∧ mb σ ≤ 8 ∧ mb σ ≤ qn σ ∧ (mb σ ≠ 1 → pn σ < 8)
def Lok (σ : Sg) : Prop := (∀ j, j < 4 → σ 10 0 j = 0) ∨ Jok σ
theorem Jok_of {σ τ : Sg} (h : Jok σ) (h5 : τ 5 0 4 = σ 5 0 4) (h3 : τ 3 = σ 3) (h13 : τ 13 = σ 13) (h0 : τ 0 0 1 = σ 0 0 1) : Jok τ := by
  unfold Jok Qok Cn Qn Pn cn qn pn mb at *
  rw [h5, h3, h13, h0]
  exact h
theorem jk_sg {σ : Sg} {j : Nat} {v : Int32} (h : Jok σ) : Jok (sg σ 10 0 j v) := Jok_of h (by rw [sg_t (by decide)]) (by rw [sg_t (by decide)]) (by rw [sg_t (by decide)]) (by rw [sg_t (by decide)])
theorem jk_fj {σ : Sg} {j : Int32} (h : Jok σ) : Jok (failJ σ j) := Jok_of h (by unfold failJ; rw [sga_t (by decide)]) (by unfold failJ; rw [sga_t (by decide)]) (by unfold failJ; rw [sga_t (by decide)]) (by unfold failJ; rw [sga_t (by decide)])
theorem jk_ex {σ : Sg} {j : Nat} {m : Int32} (h : Jok σ) : Jok (expireB σ j m) := by
  unfold expireB
  split
  · exact jk_sg h
  · exact jk_fj h
theorem endB_10 (σ : Sg) : (endB σ) 10 0 = fun _ => 0 := by unfold endB; rw [sga_same]
theorem endB_t {σ : Sg} {t : Nat} (h0 : t ≠ 0) (h10 : t ≠ 10) : (endB σ) t = σ t := by unfold endB; rw [sga_t h10, sg_t h0]
theorem rowRmv_t {σ : Sg} {c j n t : Nat} (h3 : t ≠ 3) (h13 : t ≠ 13) : (rowRmv σ c j n) t = σ t := by unfold rowRmv; rw [sg_t h3, sga_t h13]
theorem rowIns_t {σ : Sg} {c j n t : Nat} {v : Int32} (h3 : t ≠ 3) (h13 : t ≠ 13) : (rowIns σ c j n v) t = σ t := by unfold rowIns; rw [sg_t h3, sga_t h13]
theorem failS_10 (σ : Sg) (k : Nat) (cause : Int32) : (failS σ k cause) 10 0 = fun _ => 0 := by
  unfold failS
  split
  · rw [rowRmv_t (by decide) (by decide), tfq_t (by decide) (by decide) (by decide), endB_10]
  · rw [rowIns_t (by decide) (by decide), sg_t (by decide), endB_10]
theorem judge_L {σ : Sg} (h : Jok σ) : Lok (judgeS σ) := by
  unfold judgeS
  split
  · split
    · exact Or.inl fun j _ => by unfold passS; rw [endB_10]
    · exact Or.inr h
  · exact Or.inl fun j _ => by rw [failS_10]
theorem half_nI {k : Nat} (h : k ≤ 16) : nI k / 2 = nI (k / 2) := by
  have : ∀ k, k < 17 → nI k / 2 = nI (k / 2) := by decide +kernel
  exact this k (by omega)
def expI (all rt : Int32) : Nat → Nat → Sg → Int32 → Sg × Int32
  | 0, _, τ, x => (τ, x)
  | n + 1, v, τ, x => if leasedJ τ (nI v) = -1 ∨ (all = 0 ∧ ¬ τ 12 0 v = τ 5 0 8) then expI all rt n (v + 1) τ x else expI all rt n (v + 1) (judgeS (expireB τ (tn (leasedJ τ (nI v))) (rt + 1))) (x + 1)
theorem leased_job {τ : Sg} {v : Nat} (hv : v < 4) (h : ¬ leasedJ τ (nI v) = -1) : leasedJ τ (nI v) = nI (tn (leasedJ τ (nI v))) ∧ tn (leasedJ τ (nI v)) < 4 ∧ τ 10 0 (tn (leasedJ τ (nI v))) = 10 + nI v := by
  obtain ⟨h1, h2, h3⟩ := fhit_tn h
  refine ⟨h1, h2, ?_⟩
  unfold ljC at h3
  simp only [Bool.and_eq_true, decide_eq_true_eq] at h3
  exact h3.2
theorem Lok_J {τ : Sg} {v : Nat} (hv : v < 4) (hL : Lok τ) (h : ¬ leasedJ τ (nI v) = -1) : Jok τ := by
  rcases hL with h0 | hJ
  · obtain ⟨-, h2, h3⟩ := leased_job hv h
    rw [h0 _ h2] at h3
    exact absurd h3 ((by decide +kernel : ∀ v, v < 4 → ¬ (0 : Int32) = 10 + nI v) v hv)
  · exact hJ
set_option maxRecDepth 10000 in
theorem s_X6_takeFromQueue {l : Launch} {w : WW} {M : Mem} {σ : Sg} {j : Nat} {a b : Int32} (h : Qok σ) (hj : j < qn σ) : Can l w yX6_takeFromQueue cX6_takeFromQueue 5 none (rmd 2) [.ref (ad w 0 5 0), .int (nI j), .int a, .int b] (zx w M 0 σ) (RV (zx w M 0 (tfq σ j a b))) := by
  refine Can.go (ls := [some (.ref (ad w 0 5 0)), some (.int (nI j)), some (.int a), some (.int b), none]) ?_
  obtain ⟨hc, hq, h3⟩ := h
  obtain ⟨c, e1, e2⟩ := h3 j hj
  have e3 : c < 16 := Nat.lt_of_lt_of_le e1 hc.2
  obtain ⟨r1, r14, r15⟩ := rl_ch e3
  have e4 : rowAt (σ 13 0) (qn σ) (nI j) = nI c := by
    rw [rowAt, if_pos (inr_of hj (by have := hq.2; omega)), nI_clamp (by have := hq.2; omega), e2]
  have e5 : tn (σ 13 0 j) = c := by rw [e2]; exact tn_nI (by omega)
  refine a_aload_n dX6_takeFromQueue_0 rfl ?_
  refine c_getR (t := 5) (k := 5) dX6_takeFromQueue_1 kw_57 rfl ?_
  refine a_iload_n dX6_takeFromQueue_4 rfl ?_
  refine c_V1I dX6_takeFromQueue_5 kw_294 kv_X4_at (s_X4_at rfl rfl hq.1 hq.2) ?_
  rw [e4]
  refine a_istore_4 dX6_takeFromQueue_8 (by decide) ?_
  refine a_aload_n dX6_takeFromQueue_10 rfl ?_
  refine a_iload dX6_takeFromQueue_11 rfl ?_
  refine c_V1I dX6_takeFromQueue_13 kw_298 kv_X6_isChange s_X6_isChange ?_
  refine a_if_eq (tgt := 39) dX6_takeFromQueue_16 (by decide) (fun c_16 => absurd c_16 (by rw [hc.1, inr_of e1 (by have := hc.2; omega)]; decide)) (fun c_16 => ?_)
  refine a_aload_n dX6_takeFromQueue_19 rfl ?_
  refine c_getR (t := 5) (k := 3) dX6_takeFromQueue_20 kw_53 rfl ?_
  refine a_iload dX6_takeFromQueue_23 rfl ?_
  refine c_aald (i := c) dX6_takeFromQueue_25 rfl e3 (if_pos e3) ?_
  refine a_iload_n dX6_takeFromQueue_26 rfl ?_
  refine a_iload_n dX6_takeFromQueue_27 rfl ?_
  refine c_V2V dX6_takeFromQueue_28 kw_210 kv_X1_become (s_X1_become e3) ?_
  refine a_aload_n dX6_takeFromQueue_31 rfl ?_
  refine c_getR (t := 5) (k := 5) dX6_takeFromQueue_32 kw_57 rfl ?_
  refine a_iload_n dX6_takeFromQueue_35 rfl ?_
  refine c_V1V dX6_takeFromQueue_36 kw_302 kv_X4_removeAt (s_X4_removeAt (c := 0) (n := qn σ) rfl rfl (by unfold become; rw [sg_t (by decide), sg_t (by decide)]; exact hq.1) hj hq.2) ?_
  exact c_vret dX6_takeFromQueue_39 ⟨rfl, by rw [tfq, e5]⟩
set_option maxRecDepth 10000 in
theorem L_X6_passBatch {l : Launch} {w : WW} {Φ : Option Value → XX → Prop} {M : Mem} {m : Nat} (hm : m ≤ 16) : ∀ (n : Nat) {i : Nat} {τ : Sg}, i + n = m → Qok τ → n ≤ qn τ → τ 0 0 1 = nI m → A l w yX6_passBatch cX6_passBatch 2 none (rmd 3) Φ 50 [some (.ref (ad w 0 5 0)), some (.int (nI m))] [] (zx w M 0 (tkN n τ)) 0 0 → A l w yX6_passBatch cX6_passBatch 2 none (rmd 3) Φ 26 [some (.ref (ad w 0 5 0)), some (.int (nI i))] [] (zx w M 0 τ) 0 0 := by
  intro n
  induction n with
  | zero =>
    intro i τ hi hq hn h0 kk
    refine a_iload_n dX6_passBatch_26 rfl ?_
    refine a_aload_n dX6_passBatch_27 rfl ?_
    refine c_getR (t := 5) (k := 7) dX6_passBatch_28 kw_62 rfl ?_
    refine c_getI (t := 0) (k := 1) dX6_passBatch_31 kw_274 ?_
    refine a_icmp_ge (tgt := 50) dX6_passBatch_34 (by decide) (fun c_34 => ?_) (fun c_34 => absurd (by rw [h0]; exact nI_le (by omega) (by omega)) c_34)
    obtain rfl : i = m := by omega
    exact kk
  | succ n ih =>
    intro i τ hi hq hn h0 kk
    refine a_iload_n dX6_passBatch_26 rfl ?_
    refine a_aload_n dX6_passBatch_27 rfl ?_
    refine c_getR (t := 5) (k := 7) dX6_passBatch_28 kw_62 rfl ?_
    refine c_getI (t := 0) (k := 1) dX6_passBatch_31 kw_274 ?_
    refine a_icmp_ge (tgt := 50) dX6_passBatch_34 (by decide) (fun c_34 => absurd c_34 (by rw [h0]; exact nI_ge (by omega) (by omega))) (fun c_34 => ?_)
    refine a_aload_n dX6_passBatch_37 rfl ?_
    refine a_iconst (v := 0) dX6_passBatch_38 (by decide) ?_
    refine a_iconst (v := 2) dX6_passBatch_39 (by decide) ?_
    refine a_iconst (v := 0) dX6_passBatch_40 (by decide) ?_
    refine c_V3V dX6_passBatch_41 kw_290 kv_X6_takeFromQueue (s_X6_takeFromQueue (j := 0) hq (by omega)) ?_
    refine a_iinc_1 (u := nI (i + 1)) dX6_passBatch_44 (inc_nI i) (by decide) ?_
    refine a_goto (tgt := 26) dX6_passBatch_47 (by decide) ?_
    exact ih (by omega) (tfq_ok hq) (by rw [tfq_qn hq.2.1]; omega) (by rw [tfq_t (by decide) (by decide) (by decide)]; exact h0) kk
set_option maxRecDepth 10000 in
theorem s_X6_passBatch {l : Launch} {w : WW} {M : Mem} {σ : Sg} (h : Qok σ) (hp : Pn σ) (h0 : 0 < pn σ) (hm : σ 0 0 1 = nI (mb σ)) (hle : mb σ ≤ qn σ) : Can l w yX6_passBatch cX6_passBatch 2 none (rmd 3) [.ref (ad w 0 5 0)] (zx w M 0 σ) (RV (zx w M 0 (passS σ))) := by
  refine Can.go (ls := [some (.ref (ad w 0 5 0)), none]) ?_
  refine a_aload_n dX6_passBatch_0 rfl ?_
  refine c_getR (t := 5) (k := 7) dX6_passBatch_1 kw_62 rfl ?_
  refine c_getR (t := 0) (k := 0) dX6_passBatch_4 kw_320 rfl ?_
  refine a_aload_n dX6_passBatch_7 rfl ?_
  refine c_getR (t := 5) (k := 1) dX6_passBatch_8 kw_51 rfl ?_
  refine c_N2V dX6_passBatch_11 nw_274 ks_X7_copyNumbers s_copy ?_
  refine a_aload_n dX6_passBatch_14 rfl ?_
  refine a_dup dX6_passBatch_15 rfl ?_
  refine c_getI (t := 5) (k := 2) dX6_passBatch_16 kw_147 ?_
  refine a_iconst (v := 1) dX6_passBatch_19 (by decide) ?_
  refine a_iadd dX6_passBatch_20 ?_
  refine c_putI (t := 5) (k := 2) dX6_passBatch_21 kw_147 ?_
  refine a_iconst (v := 0) dX6_passBatch_24 (by decide) ?_
  refine a_istore_1 dX6_passBatch_25 (by decide) ?_
  rw [show (sga σ 8 0 (σ 9 0)) 5 0 2 = σ 5 0 2 by rw [sga_t (by decide)]]
  refine L_X6_passBatch (m := mb σ) (by have := h.2.1.2; omega) (mb σ) (i := 0) (τ := trkS σ) (by omega) (Qok_of h rfl rfl rfl) hle hm ?_
  refine a_aload_n dX6_passBatch_50 rfl ?_
  refine c_getR (t := 5) (k := 6) dX6_passBatch_51 kw_58 rfl ?_
  refine a_iconst (v := 0) dX6_passBatch_54 (by decide) ?_
  refine c_V1V dX6_passBatch_55 kw_302 kv_X4_removeAt (s_X4_removeAt (c := 1) (j := 0) (n := pn σ) rfl rfl (by rw [(tkN_p _ _).2]; exact hp.1) h0 hp.2) ?_
  refine a_aload_n dX6_passBatch_58 rfl ?_
  refine c_getR (t := 5) (k := 7) dX6_passBatch_59 kw_62 rfl ?_
  refine c_V0V dX6_passBatch_62 kw_286 kv_X0_end s_X0_end ?_
  exact c_vret dX6_passBatch_65 ⟨rfl, rfl⟩
set_option maxRecDepth 10000 in
theorem s_X6_failBatch {l : Launch} {w : WW} {M : Mem} {σ : Sg} {k : Nat} {cause : Int32} (h : Qok σ) (hp : Pn σ) (h0 : 0 < pn σ) (h1 : 1 ≤ k) (h8 : k ≤ 8) (hq : k = 1 → 0 < qn σ) (hl : k ≠ 1 → pn σ < 8) : Can l w yX6_failBatch cX6_failBatch 3 none (rmd 3) [.ref (ad w 0 5 0), .int (nI k), .int cause] (zx w M 0 σ) (RV (zx w M 0 (failS σ k cause))) := by
  refine Can.go (ls := [some (.ref (ad w 0 5 0)), some (.int (nI k)), some (.int cause)]) ?_
  have e1 : Qok (endB σ) := Qok_of h rfl rfl rfl
  have e3 : (endB σ) 3 1 1 = nI (pn σ) := hp.1
  refine a_aload_n dX6_failBatch_0 rfl ?_
  refine c_getR (t := 5) (k := 7) dX6_failBatch_1 kw_62 rfl ?_
  refine c_V0V dX6_failBatch_4 kw_286 kv_X0_end s_X0_end ?_
  refine a_iload_n dX6_failBatch_7 rfl ?_
  refine a_iconst (v := 1) dX6_failBatch_8 (by decide) ?_
  refine a_icmp_ne (tgt := 30) dX6_failBatch_9 (by decide) (fun c_9 => ?_) (fun c_9 => ?_)
  · have e2 : k ≠ 1 := fun q => c_9 (by rw [q]; rfl)
    refine a_aload_n dX6_failBatch_30 rfl ?_
    refine c_getR (t := 5) (k := 6) dX6_failBatch_31 kw_58 rfl ?_
    refine a_iload_n dX6_failBatch_34 rfl ?_
    refine a_iconst (v := 2) dX6_failBatch_35 (by decide) ?_
    refine a_idiv dX6_failBatch_36 (by decide) ?_
    rw [half_nI (by omega)]
    refine c_V1V dX6_failBatch_37 kw_306 kv_X4_replaceFirst (s_X4_replaceFirst (c := 1) (n := pn σ) rfl rfl e3 h0 hp.2) ?_
    refine a_aload_n dX6_failBatch_40 rfl ?_
    refine c_getR (t := 5) (k := 6) dX6_failBatch_41 kw_58 rfl ?_
    refine a_iconst (v := 0) dX6_failBatch_44 (by decide) ?_
    refine a_iload_n dX6_failBatch_45 rfl ?_
    refine a_iconst (v := 1) dX6_failBatch_46 (by decide) ?_
    refine a_iadd dX6_failBatch_47 ?_
    refine a_iconst (v := 2) dX6_failBatch_48 (by decide) ?_
    refine a_idiv dX6_failBatch_49 (by decide) ?_
    rw [show nI k + 1 = nI (k + 1) from (nI_succ k).symm, half_nI (by omega)]
    refine c_V2V dX6_failBatch_50 kw_311 kv_X4_insert (s_X4_insert (c := 1) (j := 0) (n := pn σ) rfl rfl (by rw [sg_t (by decide)]; exact e3) (Nat.zero_le _) (hl e2)) ?_
    exact c_vret dX6_failBatch_53 ⟨rfl, by first | rw [failS, if_pos rfl] | rw [failS, if_neg e2]⟩
  · obtain rfl : k = 1 := nI_inj c_9 (by omega) (by omega)
    refine a_aload_n dX6_failBatch_12 rfl ?_
    refine a_iconst (v := 0) dX6_failBatch_13 (by decide) ?_
    refine a_iconst (v := 3) dX6_failBatch_14 (by decide) ?_
    refine a_iload_n dX6_failBatch_15 rfl ?_
    refine c_V3V dX6_failBatch_16 kw_290 kv_X6_takeFromQueue (s_X6_takeFromQueue (j := 0) e1 (hq rfl)) ?_
    refine a_aload_n dX6_failBatch_19 rfl ?_
    refine c_getR (t := 5) (k := 6) dX6_failBatch_20 kw_58 rfl ?_
    refine a_iconst (v := 0) dX6_failBatch_23 (by decide) ?_
    refine c_V1V dX6_failBatch_24 kw_302 kv_X4_removeAt (s_X4_removeAt (c := 1) (j := 0) (n := pn σ) rfl rfl (by rw [(tfq_p _ _ _ _).2]; exact e3) h0 hp.2) ?_
    refine a_goto (tgt := 53) dX6_failBatch_27 (by decide) ?_
    exact c_vret dX6_failBatch_53 ⟨rfl, by first | rw [failS, if_pos rfl] | rw [failS, if_neg e2]⟩
set_option maxRecDepth 10000 in
theorem s_X6_judgeBatch {l : Launch} {w : WW} {M : Mem} {σ : Sg} (h : Jok σ) : Can l w yX6_judgeBatch cX6_judgeBatch 2 none (rmd 4) [.ref (ad w 0 5 0)] (zx w M 0 σ) (RV (zx w M 0 (judgeS σ))) := by
  refine Can.go (ls := [some (.ref (ad w 0 5 0)), none]) ?_
  obtain ⟨hq, hp, h0, hm, h1, h8, hle, hl⟩ := id h
  refine a_aload_n dX6_judgeBatch_0 rfl ?_
  refine c_getR (t := 5) (k := 7) dX6_judgeBatch_1 kw_62 rfl ?_
  refine c_V0I dX6_judgeBatch_4 kw_275 kv_X0_firstFailedRequired s_X0_firstFailedRequired ?_
  refine a_istore_1 dX6_judgeBatch_7 (by decide) ?_
  refine a_iload_n dX6_judgeBatch_8 rfl ?_
  refine a_iconst (v := (-1)) dX6_judgeBatch_9 (by decide) ?_
  refine a_icmp_eq (tgt := 31) dX6_judgeBatch_10 (by decide) (fun c_10 => ?_) (fun c_10 => ?_)
  · refine a_aload_n dX6_judgeBatch_31 rfl ?_
    refine c_getR (t := 5) (k := 7) dX6_judgeBatch_32 kw_62 rfl ?_
    refine c_V0I dX6_judgeBatch_35 kw_312 kv_X0_hasPassedRequired s_X0_hasPassedRequired ?_
    refine a_if_eq (tgt := 45) dX6_judgeBatch_38 (by decide) (fun c_38 => ?_) (fun c_38 => ?_)
    · exact c_vret dX6_judgeBatch_45 ⟨rfl, by first | (rw [judgeS, if_neg c_10]) | (rw [judgeS, if_pos c_10, if_pos (bi_n0.mp c_38)]) | (rw [judgeS, if_pos c_10, if_neg (by rw [bi_0.mp c_38]; decide)])⟩
    · refine a_aload_n dX6_judgeBatch_41 rfl ?_
      refine c_V0V dX6_judgeBatch_42 kw_316 kv_X6_passBatch (s_X6_passBatch hq hp h0 hm hle) ?_
      exact c_vret dX6_judgeBatch_45 ⟨rfl, by first | (rw [judgeS, if_neg c_10]) | (rw [judgeS, if_pos c_10, if_pos (bi_n0.mp c_38)]) | (rw [judgeS, if_pos c_10, if_neg (by rw [bi_0.mp c_38]; decide)])⟩
  · refine a_aload_n dX6_judgeBatch_13 rfl ?_
    refine a_aload_n dX6_judgeBatch_14 rfl ?_
    refine c_getR (t := 5) (k := 7) dX6_judgeBatch_15 kw_62 rfl ?_
    refine c_getI (t := 0) (k := 1) dX6_judgeBatch_18 kw_274 ?_
    refine a_bipush (v := 10) dX6_judgeBatch_21 (by decide) ?_
    refine a_iload_n dX6_judgeBatch_23 rfl ?_
    refine a_iadd dX6_judgeBatch_24 ?_
    rw [hm]
    refine c_V2V dX6_judgeBatch_25 kw_282 kv_X6_failBatch (s_X6_failBatch hq hp h0 h1 h8 (fun e => by omega) hl) ?_
    refine a_goto (tgt := 45) dX6_judgeBatch_28 (by decide) ?_
    exact c_vret dX6_judgeBatch_45 ⟨rfl, by first | (rw [judgeS, if_neg c_10]) | (rw [judgeS, if_pos c_10, if_pos (bi_n0.mp c_38)]) | (rw [judgeS, if_pos c_10, if_neg (by rw [bi_0.mp c_38]; decide)])⟩
set_option maxRecDepth 10000 in
theorem s_X6_endJob {l : Launch} {w : WW} {M : Mem} {σ : Sg} {j : Nat} {oc : Int32} (h : Jok σ) (hj : j < 4) : Can l w yX6_endJob cX6_endJob 3 none (rmd 5) [.ref (ad w 0 5 0), .int (nI j), .int oc] (zx w M 0 σ) (RV (zx w M 0 (endJ σ j oc))) := by
  refine Can.go (ls := [some (.ref (ad w 0 5 0)), some (.int (nI j)), some (.int oc)]) ?_
  refine a_iload_n dX6_endJob_0 rfl ?_
  refine a_iconst (v := (-1)) dX6_endJob_1 (by decide) ?_
  refine a_icmp_ne (tgt := 6) dX6_endJob_2 (by decide) (fun c_2 => ?_) (fun c_2 => absurd c_2 ((by decide +kernel : ∀ j, j < 4 → ¬ nI j = -1) j hj))
  refine a_iload_n dX6_endJob_6 rfl ?_
  refine a_iconst (v := 2) dX6_endJob_7 (by decide) ?_
  refine a_icmp_ne (tgt := 24) dX6_endJob_8 (by decide) (fun c_8 => ?_) (fun c_8 => ?_)
  · refine a_aload_n dX6_endJob_24 rfl ?_
    refine c_getR (t := 5) (k := 7) dX6_endJob_25 kw_62 rfl ?_
    refine a_iload_n dX6_endJob_28 rfl ?_
    refine c_V1V dX6_endJob_29 kw_259 kv_X0_failJob s_X0_failJob ?_
    refine a_aload_n dX6_endJob_32 rfl ?_
    refine c_V0V dX6_endJob_33 kw_270 kv_X6_judgeBatch (s_X6_judgeBatch (by first | exact jk_sg h | exact jk_fj h)) ?_
    exact c_vret dX6_endJob_36 ⟨rfl, by first | rw [endJ, if_pos c_8] | rw [endJ, if_neg c_8]⟩
  · refine a_aload_n dX6_endJob_11 rfl ?_
    refine c_getR (t := 5) (k := 7) dX6_endJob_12 kw_62 rfl ?_
    refine c_getR (t := 0) (k := 2) dX6_endJob_15 kw_258 rfl ?_
    refine a_iload_n dX6_endJob_18 rfl ?_
    refine a_iconst (v := 2) dX6_endJob_19 (by decide) ?_
    refine c_iast (i := j) dX6_endJob_20 rfl hj ?_
    refine a_goto (tgt := 32) dX6_endJob_21 (by decide) ?_
    refine a_aload_n dX6_endJob_32 rfl ?_
    refine c_V0V dX6_endJob_33 kw_270 kv_X6_judgeBatch (s_X6_judgeBatch (by first | exact jk_sg h | exact jk_fj h)) ?_
    exact c_vret dX6_endJob_36 ⟨rfl, by first | rw [endJ, if_pos c_8] | rw [endJ, if_neg c_8]⟩
set_option maxRecDepth 10000 in
theorem L_X6_expire {l : Launch} {w : WW} {Φ : Option Value → XX → Prop} {M : Mem} {all : Int32} : ∀ (n : Nat) {v : Nat} {τ : Sg} {x : Int32} {v4 : Option Value}, v + n = 4 → Lok τ → Φ (some (.int (expI all (M 2 4 0 2) n v τ x).2)) (zx w M 0 (expI all (M 2 4 0 2) n v τ x).1) → A l w yX6_expireLeases cX6_expireLeases 5 (some .int) (rmd 5) Φ 4 [some (.ref (ad w 0 5 0)), some (.int all), some (.int x), some (.int (nI v)), v4] [] (zx w M 0 τ) 0 0 := by
  intro n
  induction n with
  | zero =>
    intro v τ x v4 hv hL h
    refine a_iload_n dX6_expireLeases_4 rfl ?_
    refine a_iconst (v := 4) dX6_expireLeases_5 (by decide) ?_
    refine a_icmp_ge (tgt := 76) dX6_expireLeases_6 (by decide) (fun c_6 => ?_) (fun c_6 => absurd (by have e6 : v = 4 := (by omega); subst e6; decide) c_6)
    refine a_iload_n dX6_expireLeases_76 rfl ?_
    exact c_iret dX6_expireLeases_77 h
  | succ n ih =>
    intro v τ x v4 hv hL h
    refine a_iload_n dX6_expireLeases_4 rfl ?_
    refine a_iconst (v := 4) dX6_expireLeases_5 (by decide) ?_
    refine a_icmp_ge (tgt := 76) dX6_expireLeases_6 (by decide) (fun c_6 => absurd c_6 (nI_ge (b := 4) (by omega) (by omega))) (fun c_6 => ?_)
    refine a_aload_n dX6_expireLeases_9 rfl ?_
    refine c_getR (t := 5) (k := 7) dX6_expireLeases_10 kw_62 rfl ?_
    refine a_iload_n dX6_expireLeases_13 rfl ?_
    refine c_V1I dX6_expireLeases_14 kw_248 kv_X0_leasedJob s_X0_leasedJob ?_
    refine a_istore_4 dX6_expireLeases_17 (by decide) ?_
    refine a_iload dX6_expireLeases_19 rfl ?_
    refine a_iconst (v := (-1)) dX6_expireLeases_21 (by decide) ?_
    refine a_icmp_eq (tgt := 70) dX6_expireLeases_22 (by decide) (fun c_22 => ?_) (fun c_22 => ?_)
    · refine a_iinc_3 (u := nI (v + 1)) dX6_expireLeases_70 (inc_nI v) (by decide) ?_
      refine a_goto (tgt := 4) dX6_expireLeases_73 (by decide) ?_
      rw [expI] at h
      first
        | (have hy : leasedJ τ (nI v) = -1 ∨ (all = 0 ∧ ¬ τ 12 0 v = τ 5 0 8) := (by first | exact Or.inl c_22 | exact Or.inr ⟨c_26, c_42⟩); rw [if_pos hy] at h; exact ih (by omega) hL h)
        | (have hy : ¬ (leasedJ τ (nI v) = -1 ∨ (all = 0 ∧ ¬ τ 12 0 v = τ 5 0 8)) := (fun q => q.elim c_22 (fun q => by first | exact absurd q.1 c_26 | exact absurd c_42 q.2)); rw [if_neg hy] at h; exact ih (by omega) (judge_L (jk_ex eJ)) h)
    · refine a_iload_n dX6_expireLeases_25 rfl ?_
      refine a_if_ne (tgt := 45) dX6_expireLeases_26 (by decide) (fun c_26 => ?_) (fun c_26 => ?_)
      · refine a_aload_n dX6_expireLeases_45 rfl ?_
        refine c_getR (t := 5) (k := 7) dX6_expireLeases_46 kw_62 rfl ?_
        obtain ⟨e1, e2, e3⟩ := leased_job (by omega) c_22
        have eJ := Lok_J (by omega) hL c_22
        refine a_iload dX6_expireLeases_49 rfl ?_
        rw [show leasedJ τ (nI v) = nI (tn (leasedJ τ (nI v))) from e1]
        refine a_aload_n dX6_expireLeases_51 rfl ?_
        refine c_getR (t := 5) (k := 0) dX6_expireLeases_52 kw_63 rfl ?_
        refine e_getI (t := 4) (k := 2) dX6_expireLeases_55 kw_326 ?_
        refine a_iconst (v := 1) dX6_expireLeases_58 (by decide) ?_
        refine a_iadd dX6_expireLeases_59 ?_
        refine c_V2V dX6_expireLeases_60 kw_327 kv_X0_expireLease (s_X0_expireLease e2) ?_
        refine a_aload_n dX6_expireLeases_63 rfl ?_
        refine c_V0V dX6_expireLeases_64 kw_270 kv_X6_judgeBatch (s_X6_judgeBatch (jk_ex eJ)) ?_
        refine a_iinc_2 (u := x + 1) dX6_expireLeases_67 rfl (by decide) ?_
        refine a_iinc_3 (u := nI (v + 1)) dX6_expireLeases_70 (inc_nI v) (by decide) ?_
        refine a_goto (tgt := 4) dX6_expireLeases_73 (by decide) ?_
        rw [expI] at h
        first
          | (have hy : leasedJ τ (nI v) = -1 ∨ (all = 0 ∧ ¬ τ 12 0 v = τ 5 0 8) := (by first | exact Or.inl c_22 | exact Or.inr ⟨c_26, c_42⟩); rw [if_pos hy] at h; exact ih (by omega) hL h)
          | (have hy : ¬ (leasedJ τ (nI v) = -1 ∨ (all = 0 ∧ ¬ τ 12 0 v = τ 5 0 8)) := (fun q => q.elim c_22 (fun q => by first | exact absurd q.1 c_26 | exact absurd c_42 q.2)); rw [if_neg hy] at h; exact ih (by omega) (judge_L (jk_ex eJ)) h)
      · refine a_aload_n dX6_expireLeases_29 rfl ?_
        refine c_getR (t := 5) (k := 7) dX6_expireLeases_30 kw_62 rfl ?_
        refine c_getR (t := 0) (k := 4) dX6_expireLeases_33 kw_325 rfl ?_
        refine a_iload_n dX6_expireLeases_36 rfl ?_
        refine c_iald (i := v) dX6_expireLeases_37 rfl (show v < 4 by omega) ?_
        refine a_aload_n dX6_expireLeases_38 rfl ?_
        refine c_getI (t := 5) (k := 8) dX6_expireLeases_39 kw_149 ?_
        refine a_icmp_ne (tgt := 70) dX6_expireLeases_42 (by decide) (fun c_42 => ?_) (fun c_42 => ?_)
        · refine a_iinc_3 (u := nI (v + 1)) dX6_expireLeases_70 (inc_nI v) (by decide) ?_
          refine a_goto (tgt := 4) dX6_expireLeases_73 (by decide) ?_
          rw [expI] at h
          first
            | (have hy : leasedJ τ (nI v) = -1 ∨ (all = 0 ∧ ¬ τ 12 0 v = τ 5 0 8) := (by first | exact Or.inl c_22 | exact Or.inr ⟨c_26, c_42⟩); rw [if_pos hy] at h; exact ih (by omega) hL h)
            | (have hy : ¬ (leasedJ τ (nI v) = -1 ∨ (all = 0 ∧ ¬ τ 12 0 v = τ 5 0 8)) := (fun q => q.elim c_22 (fun q => by first | exact absurd q.1 c_26 | exact absurd c_42 q.2)); rw [if_neg hy] at h; exact ih (by omega) (judge_L (jk_ex eJ)) h)
        · refine a_aload_n dX6_expireLeases_45 rfl ?_
          refine c_getR (t := 5) (k := 7) dX6_expireLeases_46 kw_62 rfl ?_
          obtain ⟨e1, e2, e3⟩ := leased_job (by omega) c_22
          have eJ := Lok_J (by omega) hL c_22
          refine a_iload dX6_expireLeases_49 rfl ?_
          rw [show leasedJ τ (nI v) = nI (tn (leasedJ τ (nI v))) from e1]
          refine a_aload_n dX6_expireLeases_51 rfl ?_
          refine c_getR (t := 5) (k := 0) dX6_expireLeases_52 kw_63 rfl ?_
          refine e_getI (t := 4) (k := 2) dX6_expireLeases_55 kw_326 ?_
          refine a_iconst (v := 1) dX6_expireLeases_58 (by decide) ?_
          refine a_iadd dX6_expireLeases_59 ?_
          refine c_V2V dX6_expireLeases_60 kw_327 kv_X0_expireLease (s_X0_expireLease e2) ?_
          refine a_aload_n dX6_expireLeases_63 rfl ?_
          refine c_V0V dX6_expireLeases_64 kw_270 kv_X6_judgeBatch (s_X6_judgeBatch (jk_ex eJ)) ?_
          refine a_iinc_2 (u := x + 1) dX6_expireLeases_67 rfl (by decide) ?_
          refine a_iinc_3 (u := nI (v + 1)) dX6_expireLeases_70 (inc_nI v) (by decide) ?_
          refine a_goto (tgt := 4) dX6_expireLeases_73 (by decide) ?_
          rw [expI] at h
          first
            | (have hy : leasedJ τ (nI v) = -1 ∨ (all = 0 ∧ ¬ τ 12 0 v = τ 5 0 8) := (by first | exact Or.inl c_22 | exact Or.inr ⟨c_26, c_42⟩); rw [if_pos hy] at h; exact ih (by omega) hL h)
            | (have hy : ¬ (leasedJ τ (nI v) = -1 ∨ (all = 0 ∧ ¬ τ 12 0 v = τ 5 0 8)) := (fun q => q.elim c_22 (fun q => by first | exact absurd q.1 c_26 | exact absurd c_42 q.2)); rw [if_neg hy] at h; exact ih (by omega) (judge_L (jk_ex eJ)) h)
set_option maxRecDepth 10000 in
theorem s_X6_expireLeases {l : Launch} {w : WW} {M : Mem} {σ : Sg} {all : Int32} (hL : Lok σ) : Can l w yX6_expireLeases cX6_expireLeases 5 (some .int) (rmd 5) [.ref (ad w 0 5 0), .int all] (zx w M 0 σ) (RI (expI all (M 2 4 0 2) 4 0 σ 0).2 (zx w M 0 (expI all (M 2 4 0 2) 4 0 σ 0).1)) := by
  refine Can.go (ls := [some (.ref (ad w 0 5 0)), some (.int all), none, none, none]) ?_
  refine a_iconst (v := 0) dX6_expireLeases_0 (by decide) ?_
  refine a_istore_2 dX6_expireLeases_1 (by decide) ?_
  refine a_iconst (v := 0) dX6_expireLeases_2 (by decide) ?_
  refine a_istore_3 dX6_expireLeases_3 (by decide) ?_
  exact L_X6_expire 4 (v := 0) rfl hL ⟨rfl, rfl⟩
end
section
/-! the queue and the plan as lists; what holds between the events of a state -/
def QI (σ : Sg) (qs : List Nat) : Prop := σ 3 0 1 = nI qs.length ∧ qs.length ≤ 16 ∧ ∀ (i c : Nat), qs[i]? = some c → σ 13 0 i = nI c
def PI (σ : Sg) (ps : List Nat) : Prop := σ 3 1 1 = nI ps.length ∧ ps.length ≤ 8 ∧ ∀ (i p : Nat), ps[i]? = some p → σ 13 1 i = nI p
/-- the queue and the plan fit -/
def QP (σ : Sg) (qs ps : List Nat) : Prop := Cn σ ∧ QI σ qs ∧ PI σ ps ∧ (∀ c ∈ qs, c < cn σ ∧ σ 1 c 2 = 1) ∧ qs.Nodup ∧ (∀ p ∈ ps, 1 ≤ p) ∧ ps.sum ≤ 8 ∧ ps.sum ≤ qs.length
/-- .. and the batch -/
def Bt (σ : Sg) (ps : List Nat) : Prop := σ 0 0 1 = nI (mb σ) ∧ ((mb σ = 0 ∧ ∀ j, j < 4 → σ 10 0 j = 0) ∨ (1 ≤ mb σ ∧ ∃ ps', ps = mb σ :: ps'))
def Wk (σ : Sg) (qs ps : List Nat) : Prop := QP σ qs ps ∧ Bt σ ps
theorem nd_inj {qs : List Nat} {i j c : Nat} (h : qs.Nodup) (hi : qs[i]? = some c) (hj : qs[j]? = some c) : i = j := by
  have hp := List.pairwise_iff_getElem.mp h
  obtain ⟨h1, e1⟩ := List.getElem?_eq_some_iff.mp hi
  obtain ⟨h2, e2⟩ := List.getElem?_eq_some_iff.mp hj
  rcases Nat.lt_trichotomy i j with h3 | h3 | h3
  · exact absurd (e1.trans e2.symm) (hp i j h1 h2 h3)
  · exact h3
  · exact absurd (e2.trans e1.symm) (hp j i h2 h1 h3)
theorem nd_len : ∀ (m : Nat) (l : List Nat), (∀ x ∈ l, x < m) → l.Nodup → l.length ≤ m
  | 0, l, h, _ => by
    cases l with
    | nil => exact Nat.le_refl 0
    | cons a t => exact absurd (h a List.mem_cons_self) (Nat.not_lt_zero a)
  | m + 1, l, h, hn => by
    by_cases hm : m ∈ l
    · have h1 := nd_len m (l.erase m) (fun x hx => by
        have h2 := (List.Nodup.mem_erase_iff hn).mp hx
        have h3 := h x h2.2
        omega) (hn.erase m)
      rw [List.length_erase_of_mem hm] at h1
      omega
    · exact Nat.le_succ_of_le (nd_len m l (fun x hx => by
        have h3 := h x hx
        have : x ≠ m := fun e => hm (e ▸ hx)
        omega) hn)
theorem QI_qn {σ : Sg} {qs : List Nat} (h : QI σ qs) : qn σ = qs.length := by
  show (σ 3 0 1).toNatClampNeg = _
  rw [h.1]
  exact nI_clamp (by have := h.2.1; omega)
theorem PI_pn {σ : Sg} {ps : List Nat} (h : PI σ ps) : pn σ = ps.length := by
  show (σ 3 1 1).toNatClampNeg = _
  rw [h.1]
  exact nI_clamp (by have := h.2.1; omega)
theorem QI_Qn {σ : Sg} {qs : List Nat} (h : QI σ qs) : Qn σ := by
  unfold Qn
  rw [QI_qn h]
  exact ⟨h.1, h.2.1⟩
theorem PI_Pn {σ : Sg} {ps : List Nat} (h : PI σ ps) : Pn σ := by
  unfold Pn
  rw [PI_pn h]
  exact ⟨h.1, h.2.1⟩
theorem QP_ok {σ : Sg} {qs ps : List Nat} (h : QP σ qs ps) : Qok σ := by
  obtain ⟨h1, h2, h3, h4, h5, -⟩ := h
  refine ⟨h1, QI_Qn h2, fun i hi => ?_⟩
  rw [QI_qn h2] at hi
  exact ⟨qs[i], (h4 _ (List.getElem_mem hi)).1, h2.2.2 i _ (List.getElem?_eq_getElem hi)⟩
theorem QI_of {σ τ : Sg} {qs : List Nat} (h : QI σ qs) (h3 : τ 3 0 = σ 3 0) (h13 : τ 13 0 = σ 13 0) : QI τ qs := by
  unfold QI at *
  rw [h3, h13]
  exact h
theorem PI_of {σ τ : Sg} {ps : List Nat} (h : PI σ ps) (h3 : τ 3 1 = σ 3 1) (h13 : τ 13 1 = σ 13 1) : PI τ ps := by
  unfold PI at *
  rw [h3, h13]
  exact h
theorem QP_of {σ τ : Sg} {qs ps : List Nat} (h : QP σ qs ps) (h5 : τ 5 0 4 = σ 5 0 4) (h3 : τ 3 = σ 3) (h13 : τ 13 = σ 13) (h1 : ∀ c, τ 1 c 2 = σ 1 c 2) : QP τ qs ps := by
  obtain ⟨a1, a2, a3, a4, a5⟩ := h
  have hc : cn τ = cn σ := by unfold cn; rw [h5]
  exact ⟨by unfold Cn; rw [hc, h5]; exact a1, QI_of a2 (by rw [h3]) (by rw [h13]), PI_of a3 (by rw [h3]) (by rw [h13]), fun c hm => by rw [hc, h1]; exact a4 c hm, a5⟩
theorem sum_len : ∀ (ps : List Nat), (∀ p ∈ ps, 1 ≤ p) → ps.length ≤ ps.sum
  | [], _ => Nat.le_refl 0
  | p :: t, h => by
    have h1 := sum_len t (fun q hq => h q (List.mem_cons_of_mem _ hq))
    have h2 := h p List.mem_cons_self
    simp only [List.length_cons, List.sum_cons]
    omega
theorem Wk_J {σ : Sg} {qs ps : List Nat} (h : Wk σ qs ps) (hm : mb σ ≠ 0) : Jok σ := by
  obtain ⟨hQ, h0, hB⟩ := h
  rcases hB with ⟨e, -⟩ | ⟨h1, ps', rfl⟩
  · exact absurd e hm
  · have hok := QP_ok hQ
    obtain ⟨a1, a2, a3, a4, a5, a6, a7, a8⟩ := hQ
    have e1 := PI_pn a3
    have e2 := QI_qn a2
    have e3 := sum_len ps' (fun q hq => a6 q (List.mem_cons_of_mem _ hq))
    simp only [List.length_cons, List.sum_cons] at e1 a7 a8
    exact ⟨hok, PI_Pn a3, by omega, h0, h1, by omega, by omega, by omega⟩
theorem Wk_L {σ : Sg} {qs ps : List Nat} (h : Wk σ qs ps) : Lok σ := by
  by_cases hm : mb σ = 0
  · rcases h.2.2 with ⟨-, h1⟩ | ⟨h1, -⟩
    · exact Or.inl h1
    · omega
  · exact Or.inr (Wk_J h hm)
theorem tfq_c (σ : Sg) (j : Nat) (a b : Int32) (c : Nat) : (tfq σ j a b) 1 c 2 = if c = tn (σ 13 0 j) then a else σ 1 c 2 := by
  by_cases h : c = tn (σ 13 0 j)
  · subst h
    simp [tfq, rowRmv, become, sg, sga, up1]
  · simp [tfq, rowRmv, become, sg, sga, up1, h]
theorem QI_tfq {σ : Sg} {qs : List Nat} {j : Nat} {a b : Int32} (h : QI σ qs) (hj : j < qs.length) : QI (tfq σ j a b) (qs.eraseIdx j) := by
  have hl : (qs.eraseIdx j).length = qs.length - 1 := by rw [List.length_eraseIdx, if_pos hj]
  refine ⟨by rw [tfq_q, QI_qn h, hl], by have := h.2.1; omega, fun i c hi => ?_⟩
  have h1 : i < qs.length - 1 := by rw [← hl]; exact (List.getElem?_eq_some_iff.mp hi).1
  rw [tfq_13, QI_qn h, rmv_at h1]
  rw [List.getElem?_eraseIdx] at hi
  by_cases h2 : i < j
  · rw [if_pos h2] at hi ⊢
    exact h.2.2 i c hi
  · rw [if_neg h2] at hi ⊢
    exact h.2.2 (i + 1) c hi
theorem er_ne {qs : List Nat} {j c d : Nat} (hn : qs.Nodup) (hj : qs[j]? = some d) (hc : c ∈ qs.eraseIdx j) : c ≠ d ∧ c ∈ qs := by
  obtain ⟨i, hi⟩ := List.getElem?_of_mem hc
  rw [List.getElem?_eraseIdx] at hi
  by_cases h2 : i < j
  · rw [if_pos h2] at hi
    exact ⟨fun e => by subst e; have := nd_inj hn hi hj; omega, List.mem_of_getElem? hi⟩
  · rw [if_neg h2] at hi
    exact ⟨fun e => by subst e; have := nd_inj hn hi hj; omega, List.mem_of_getElem? hi⟩
/-- what is said of the changes in the queue -/
def QC (σ : Sg) (qs : List Nat) : Prop := Cn σ ∧ QI σ qs ∧ (∀ c ∈ qs, c < cn σ ∧ σ 1 c 2 = 1) ∧ qs.Nodup
theorem QC_ok {σ : Sg} {qs : List Nat} (h : QC σ qs) : Qok σ := by
  obtain ⟨h1, h2, h4, h5⟩ := h
  refine ⟨h1, QI_Qn h2, fun i hi => ?_⟩
  rw [QI_qn h2] at hi
  exact ⟨qs[i], (h4 _ (List.getElem_mem hi)).1, h2.2.2 i _ (List.getElem?_eq_getElem hi)⟩
theorem QC_of {σ τ : Sg} {qs : List Nat} (h : QC σ qs) (h5 : τ 5 0 4 = σ 5 0 4) (h3 : τ 3 0 = σ 3 0) (h13 : τ 13 0 = σ 13 0) (h1 : ∀ c, τ 1 c 2 = σ 1 c 2) : QC τ qs := by
  obtain ⟨a1, a2, a4, a5⟩ := h
  have hc : cn τ = cn σ := by unfold cn; rw [h5]
  exact ⟨by unfold Cn; rw [hc, h5]; exact a1, QI_of a2 h3 h13, fun c hm => by rw [hc, h1]; exact a4 c hm, a5⟩
theorem QC_tfq {σ : Sg} {qs : List Nat} {j : Nat} {a b : Int32} (h : QC σ qs) (hj : j < qs.length) : QC (tfq σ j a b) (qs.eraseIdx j) := by
  obtain ⟨h1, h2, h4, h5⟩ := h
  refine ⟨(tfq_ok (QC_ok ⟨h1, h2, h4, h5⟩)).1, QI_tfq h2 hj, fun c hc => ?_, h5.sublist (List.eraseIdx_sublist ..)⟩
  have hg := List.getElem?_eq_getElem hj
  obtain ⟨e1, e2⟩ := er_ne h5 hg hc
  have h6 := h4 c e2
  have h7 := (h4 _ (List.getElem_mem hj)).1
  rw [tfq_cn, tfq_c, if_neg]
  · exact h6
  · rw [h2.2.2 j _ hg, tn_nI (by have := h1.2; omega)]
    exact e1
theorem QP_C {σ : Sg} {qs ps : List Nat} (h : QP σ qs ps) : QC σ qs := ⟨h.1, h.2.1, h.2.2.2.1, h.2.2.2.2.1⟩
theorem PI_rmv {σ : Sg} {p : Nat} {ps : List Nat} {n : Nat} (h : PI σ (p :: ps)) (hn : n = ps.length + 1) : PI (rowRmv σ 1 0 n) ps := by
  subst hn
  obtain ⟨h1, h2, h3⟩ := h
  refine ⟨by simp [rowRmv, sg, up1], by simp at h2; omega, fun i q hi => ?_⟩
  have e : (rowRmv σ 1 0 (ps.length + 1)) 13 1 = rmv (σ 13 1) 0 (ps.length + 1) := by simp [rowRmv, sg, sga, up1]
  rw [e, rmv_at (by have := (List.getElem?_eq_some_iff.mp hi).1; omega), if_neg (Nat.not_lt_zero i)]
  exact h3 (i + 1) q (by simpa using hi)
theorem PI_ins {σ : Sg} {q : Nat} {ps : List Nat} {n : Nat} {v : Int32} (h : PI σ ps) (hn : n = ps.length) (hv : v = nI q) (hl : ps.length < 8) : PI (rowIns σ 1 0 n v) (q :: ps) := by
  subst hn hv
  obtain ⟨h1, h2, h3⟩ := h
  refine ⟨by simp [rowIns, sg, up1], by simp; omega, fun i p hi => ?_⟩
  have e : (rowIns σ 1 0 ps.length (nI q)) 13 1 = ins (σ 13 1) 0 ps.length (nI q) := by simp [rowIns, sg, sga, up1]
  rw [e]
  cases i with
  | zero =>
    simp at hi
    subst hi
    rfl
  | succ i =>
    have hi : ps[i]? = some p := by simpa using hi
    have hlt := (List.getElem?_eq_some_iff.mp hi).1
    unfold ins
    rw [if_neg (by omega), if_pos (by omega)]
    exact h3 i p hi
theorem PI_set {σ : Sg} {p q : Nat} {ps : List Nat} {v : Int32} (h : PI σ (p :: ps)) (hv : v = nI q) : PI (sg σ 13 1 0 v) (q :: ps) := by
  subst hv
  obtain ⟨h1, h2, h3⟩ := h
  refine ⟨by rw [sg_t (by decide)]; simpa using h1, by simpa using h2, fun i r hi => ?_⟩
  cases i with
  | zero =>
    simp at hi
    subst hi
    exact sg_same _ _ _ _ _
  | succ i =>
    rw [sg_k (by omega)]
    exact h3 (i + 1) r (by simpa using hi)
theorem mb_end (σ : Sg) : (endB σ) 0 0 1 = 0 := by unfold endB; rw [sga_t (by decide), sg_same]
theorem mb_z {σ : Sg} (h : σ 0 0 1 = 0) : mb σ = 0 := by unfold mb; rw [h]; rfl
theorem Bt_0 {σ : Sg} {ps : List Nat} (h : σ 0 0 1 = 0) (hj : σ 10 0 = fun _ => 0) : Bt σ ps := ⟨by rw [mb_z h, h]; rfl, Or.inl ⟨mb_z h, fun j _ => by rw [hj]⟩⟩
theorem failS_0 (σ : Sg) (k : Nat) (cause : Int32) : (failS σ k cause) 0 0 1 = 0 := by
  unfold failS
  split
  · rw [rowRmv_t (by decide) (by decide), tfq_t (by decide) (by decide) (by decide), mb_end]
  · rw [rowIns_t (by decide) (by decide), sg_t (by decide), mb_end]
/-- a batch that fails: what the queue and the plan are then; what is left to do grows less -/
theorem fail_Wk {σ : Sg} {qs ps : List Nat} {k : Nat} {cause : Int32} (hQ : QC σ qs) (hP : PI σ (k :: ps)) (h1 : ∀ p ∈ k :: ps, 1 ≤ p) (h8 : (k :: ps).sum ≤ 8) (hq : (k :: ps).sum ≤ qs.length) : ∃ qs' ps', Wk (failS σ k cause) qs' ps' ∧ 2 * qs'.length + (ps.length + 1) + 1 ≤ 2 * qs.length + ps'.length ∧ (failS σ k cause) 0 0 1 = 0 := by
  have hk := h1 k List.mem_cons_self
  have h1' : ∀ p ∈ ps, 1 ≤ p := fun p hp => h1 p (List.mem_cons_of_mem _ hp)
  have hs := sum_len ps h1'
  simp only [List.sum_cons] at h8 hq
  have hP' : PI (endB σ) (k :: ps) := PI_of hP (by rw [endB_t (by decide) (by decide)]) (by rw [endB_t (by decide) (by decide)])
  have hQ' : QC (endB σ) qs := QC_of hQ (by rw [endB_t (by decide) (by decide)]) (by rw [endB_t (by decide) (by decide)]) (by rw [endB_t (by decide) (by decide)]) (fun c => by rw [endB_t (by decide) (by decide)])
  have hpn : pn σ = ps.length + 1 := by rw [PI_pn hP]; rfl
  by_cases hk1 : k = 1
  · subst hk1
    have e0 : failS σ 1 cause = rowRmv (tfq (endB σ) 0 3 cause) 1 0 (pn σ) := if_pos rfl
    have hl : 0 < qs.length := by omega
    have hl2 : (qs.eraseIdx 0).length = qs.length - 1 := by rw [List.length_eraseIdx, if_pos hl]
    have hQ2 := QC_tfq (a := 3) (b := cause) hQ' hl
    have hP2 : PI (tfq (endB σ) 0 3 cause) (1 :: ps) := PI_of hP' (tfq_p _ _ _ _).2 (tfq_p _ _ _ _).1
    have hP3 := PI_rmv hP2 hpn
    refine ⟨qs.eraseIdx 0, ps, ⟨⟨?_, ?_, ?_⟩, Bt_0 (failS_0 ..) (failS_10 ..)⟩, by omega, failS_0 ..⟩
    · rw [e0]
      have := hQ2.1
      unfold Cn cn at *
      rw [rowRmv_t (by decide) (by decide)]; exact this
    · rw [e0]
      refine QI_of hQ2.2.1 ?_ ?_ <;> simp [rowRmv, sg, sga, up1]
    · rw [e0]
      refine ⟨hP3, fun c hc => ?_, hQ2.2.2.2, h1', by omega, by omega⟩
      have := hQ2.2.2.1 c hc
      unfold cn at *
      rw [rowRmv_t (by decide) (by decide), rowRmv_t (by decide) (by decide)]
      exact this
  · have e0 : failS σ k cause = rowIns (sg (endB σ) 13 1 0 (nI (k / 2))) 1 0 (pn σ) (nI ((k + 1) / 2)) := if_neg hk1
    have hP2 := PI_set (v := nI (k / 2)) hP' rfl
    have hP3 := PI_ins (v := nI ((k + 1) / 2)) hP2 hpn rfl (by simp; omega)
    have hQ2 : QC (failS σ k cause) qs := by
      rw [e0]
      refine QC_of hQ' ?_ ?_ ?_ (fun c => ?_) <;> simp [rowIns, sg, sga, up1]
    refine ⟨qs, (k + 1) / 2 :: k / 2 :: ps, ⟨⟨hQ2.1, hQ2.2.1, ?_, hQ2.2.2.1, hQ2.2.2.2, ?_, ?_, ?_⟩, Bt_0 (failS_0 ..) (failS_10 ..)⟩, ?_, failS_0 ..⟩
    · rw [e0]; exact hP3
    · intro p hp
      rcases List.mem_cons.mp hp with rfl | hp
      · omega
      · rcases List.mem_cons.mp hp with rfl | hp
        · omega
        · exact h1' p hp
    · simp only [List.sum_cons]; omega
    · simp only [List.sum_cons]; omega
    · simp only [List.length_cons]; omega
theorem tkN_QC : ∀ (n : Nat) (σ : Sg) (qs : List Nat), QC σ qs → n ≤ qs.length → QC (tkN n σ) (qs.drop n)
  | 0, σ, qs, h, _ => by simpa [tkN] using h
  | n + 1, σ, qs, h, hn => by
    have h1 := tkN_QC n (tfq σ 0 2 0) (qs.eraseIdx 0) (QC_tfq h (by omega)) (by rw [List.length_eraseIdx, if_pos (by omega)]; omega)
    cases qs with
    | nil => simp at hn
    | cons a t => simpa [tkN] using h1
theorem passS_0 (σ : Sg) : (passS σ) 0 0 1 = 0 := mb_end _
theorem pass_Wk {σ : Sg} {qs ps : List Nat} (h : Wk σ qs ps) (hm : mb σ ≠ 0) : ∃ ps', ps = mb σ :: ps' ∧ Wk (passS σ) (qs.drop (mb σ)) ps' := by
  obtain ⟨hQ, h0, hB⟩ := h
  rcases hB with ⟨e, -⟩ | ⟨h1, ps', hps⟩
  · exact absurd e hm
  · refine ⟨ps', hps, ?_⟩
    subst hps
    have hC := QP_C hQ
    obtain ⟨a1, a2, a3, a4, a5, a6, a7, a8⟩ := hQ
    simp only [List.sum_cons] at a7 a8
    have hC1 : QC (trkS σ) qs := QC_of hC (by simp [trkS, sg, sga, up1]) (by simp [trkS, sg, sga, up1]) (by simp [trkS, sg, sga, up1]) (fun c => by simp [trkS, sg, sga, up1])
    have hC2 := tkN_QC (mb σ) (trkS σ) qs hC1 (by omega)
    have hP1 : PI (tkN (mb σ) (trkS σ)) (mb σ :: ps') := PI_of a3 (by rw [(tkN_p _ _).2]; simp [trkS, sg, sga, up1]) (by rw [(tkN_p _ _).1]; simp [trkS, sg, sga, up1])
    have hP2 := PI_rmv (n := pn σ) hP1 (by rw [PI_pn a3]; rfl)
    have e5 : ∀ τ : Sg, ∀ n, (endB (rowRmv τ 1 0 n)) 5 = τ 5 := fun τ n => by rw [endB_t (by decide) (by decide), rowRmv_t (by decide) (by decide)]
    have hC3 : QC (passS σ) (qs.drop (mb σ)) := by
      unfold passS
      refine QC_of hC2 (by rw [e5]) ?_ ?_ (fun c => ?_)
      · rw [endB_t (by decide) (by decide)]; simp [rowRmv, sg, sga, up1]
      · rw [endB_t (by decide) (by decide)]; simp [rowRmv, sg, sga, up1]
      · rw [endB_t (by decide) (by decide), rowRmv_t (by decide) (by decide)]
    refine ⟨⟨hC3.1, hC3.2.1, ?_, hC3.2.2.1, hC3.2.2.2, fun p hp => a6 p (List.mem_cons_of_mem _ hp), by omega, by rw [List.length_drop]; omega⟩, Bt_0 (passS_0 σ) (by unfold passS; rw [endB_10])⟩
    unfold passS
    exact PI_of hP2 (by rw [endB_t (by decide) (by decide)]) (by rw [endB_t (by decide) (by decide)])
/-- what a job's end leaves -/
theorem Wk_j {σ τ : Sg} {qs ps : List Nat} (h : Wk σ qs ps) (hm : mb σ ≠ 0) (ht : ∀ t, t ≠ 10 → t ≠ 11 → t ≠ 12 → τ t = σ t) : Wk τ qs ps := by
  have e0 : mb τ = mb σ := by unfold mb; rw [ht 0 (by decide) (by decide) (by decide)]
  refine ⟨QP_of h.1 (by rw [ht 5 (by decide) (by decide) (by decide)]) (ht 3 (by decide) (by decide) (by decide)) (ht 13 (by decide) (by decide) (by decide)) (fun c => by rw [ht 1 (by decide) (by decide) (by decide)]), by rw [e0, ht 0 (by decide) (by decide) (by decide)]; exact h.2.1, ?_⟩
  rw [e0]
  rcases h.2.2 with ⟨e, -⟩ | h1
  · exact absurd e hm
  · exact Or.inr h1
theorem judge_Wk {σ : Sg} {qs ps : List Nat} (h : Wk σ qs ps) (hm : mb σ ≠ 0) : ∃ qs' ps', Wk (judgeS σ) qs' ps' := by
  unfold judgeS
  split
  · split
    · obtain ⟨ps', -, h1⟩ := pass_Wk h hm
      exact ⟨_, _, h1⟩
    · exact ⟨_, _, h⟩
  · obtain ⟨hQ, h0, hB⟩ := h
    rcases hB with ⟨e, -⟩ | ⟨h1, ps', rfl⟩
    · exact absurd e hm
    · obtain ⟨q, p, h2, -⟩ := fail_Wk (cause := 10 + firstF σ) (QP_C hQ) hQ.2.2.1 hQ.2.2.2.2.2.1 hQ.2.2.2.2.2.2.1 hQ.2.2.2.2.2.2.2
      exact ⟨q, p, h2⟩
theorem ex_t {σ : Sg} {j : Nat} {m : Int32} {t : Nat} (h10 : t ≠ 10) : (expireB σ j m) t = σ t := by
  unfold expireB
  split
  · exact sg_t h10
  · unfold failJ; exact sga_t h10
theorem expI_Wk (all rt : Int32) : ∀ (n v : Nat) (τ : Sg) (x : Int32) (qs ps : List Nat), v + n = 4 → Wk τ qs ps → ∃ qs' ps', Wk (expI all rt n v τ x).1 qs' ps'
  | 0, v, τ, x, qs, ps, _, h => ⟨qs, ps, h⟩
  | n + 1, v, τ, x, qs, ps, hv, h => by
    unfold expI
    split
    · exact expI_Wk all rt n (v + 1) τ x qs ps (by omega) h
    · rename_i hne
      have hJ := Lok_J (v := v) (by omega) (Wk_L h) (fun q => hne (Or.inl q))
      have hm : mb τ ≠ 0 := by have := hJ.2.2.2.2.1; omega
      have h2 : Wk (expireB τ (tn (leasedJ τ (nI v))) (rt + 1)) qs ps := Wk_j h hm (fun t h10 _ _ => ex_t h10)
      obtain ⟨qs', ps', h3⟩ := judge_Wk h2 (by unfold mb at *; rw [ex_t (by decide)]; exact hm)
      exact expI_Wk all rt n (v + 1) _ _ qs' ps' (by omega) h3
end
section
def cfB (τ : Sg) (c : Nat) : Bool := anyU (cfl (τ 14 c) (τ 15 c) (τ 9 0)) 6 0
def mrgB (τ : Sg) (c : Nat) : Sg := sga τ 9 0 (mrg (τ 14 c) (τ 15 c) (τ 9 0))
def mfI : Nat → Nat → Sg → Sg × Nat
  | 0, m, τ => (τ, m)
  | n + 1, m, τ => if cfB τ (tn (τ 13 0 m)) = true then mfI n m (tfq τ m 3 1) else mfI n (m + 1) (mrgB τ (tn (τ 13 0 m)))
def mfS (σ : Sg) (k : Nat) : Sg × Nat := mfI k 0 (sga σ 9 0 (σ 8 0))
def planned (bs : Int32) (σ : Sg) : Sg := if σ 3 1 1 = 0 then rowIns σ 1 (pn σ) (pn σ) (if σ 3 0 1 < bs then σ 3 0 1 else bs) else σ
def buildT (τ : Sg) (n : Nat) (r : Sg × Nat) : Sg := if r.2 = 0 then rowRmv r.1 1 0 n else (if vld ((sg r.1 13 1 0 (nI r.2)) 9 0 0) 4 0 false = true then startB (sg r.1 13 1 0 (nI r.2)) (nI r.2) else failS (sg r.1 13 1 0 (nI r.2)) r.2 2)
def buildB (bs : Int32) (σ : Sg) : Sg := buildT σ (pn (planned bs σ)) (mfS (planned bs σ) (tn ((planned bs σ) 13 1 0)))
def bld (bs : Int32) : Nat → Sg → Sg
  | 0, σ => σ
  | n + 1, σ => if σ 0 0 1 ≤ 0 ∧ ¬ σ 3 0 1 ≤ 0 then bld bs n (buildB bs σ) else σ
theorem mrgB_t {τ : Sg} {c t : Nat} (h : t ≠ 9) : (mrgB τ c) t = τ t := by unfold mrgB; exact sga_t h
theorem mfI_ok : ∀ (n m : Nat) (τ : Sg) (qs : List Nat), QC τ qs → n + m ≤ qs.length → ∃ qs', QC (mfI n m τ).1 qs' ∧ m ≤ (mfI n m τ).2 ∧ (mfI n m τ).2 ≤ m + n ∧ qs'.length + n + m = qs.length + (mfI n m τ).2 ∧ (∀ t, t ≠ 1 → t ≠ 3 → t ≠ 9 → t ≠ 13 → (mfI n m τ).1 t = τ t) ∧ (mfI n m τ).1 13 1 = τ 13 1 ∧ (mfI n m τ).1 3 1 = τ 3 1
  | 0, m, τ, qs, h, hn => ⟨qs, h, Nat.le_refl m, Nat.le_refl m, rfl, fun _ _ _ _ _ => rfl, rfl, rfl⟩
  | n + 1, m, τ, qs, h, hn => by
    unfold mfI
    split
    · have hl : (qs.eraseIdx m).length = qs.length - 1 := by rw [List.length_eraseIdx, if_pos (by omega)]
      obtain ⟨qs', h1, h2, h3, h4, h5, h6, h7⟩ := mfI_ok n m (tfq τ m 3 1) (qs.eraseIdx m) (QC_tfq h (by omega)) (by omega)
      exact ⟨qs', h1, h2, by omega, by omega, fun t t1 t3 t9 t13 => (h5 t t1 t3 t9 t13).trans (tfq_t t1 t3 t13), h6.trans (tfq_p _ _ _ _).1, h7.trans (tfq_p _ _ _ _).2⟩
    · obtain ⟨qs', h1, h2, h3, h4, h5, h6, h7⟩ := mfI_ok n (m + 1) (mrgB τ (tn (τ 13 0 m))) qs (QC_of h (by rw [mrgB_t (by decide)]) (by rw [mrgB_t (by decide)]) (by rw [mrgB_t (by decide)]) (fun c => by rw [mrgB_t (by decide)])) (by omega)
      exact ⟨qs', h1, by omega, by omega, by omega, fun t t1 t3 t9 t13 => (h5 t t1 t3 t9 t13).trans (mrgB_t t9), h6.trans (by rw [mrgB_t (by decide)]), h7.trans (by rw [mrgB_t (by decide)])⟩
theorem planned_t {bs : Int32} {σ : Sg} {t : Nat} (h3 : t ≠ 3) (h13 : t ≠ 13) : (planned bs σ) t = σ t := by
  unfold planned
  split
  · exact rowIns_t h3 h13
  · rfl
/-- the plan is not empty then, and fits the queue -/
theorem planned_QP {bs : Int32} {b : Nat} {σ : Sg} {qs ps : List Nat} (hb : bs = nI b) (h1 : 1 ≤ b) (h8 : b ≤ 8) (h : QP σ qs ps) (hq : 0 < qs.length) : ∃ k ps', QP (planned bs σ) qs (k :: ps') ∧ ps.length ≤ ps'.length + 1 := by
  unfold planned
  split
  · rename_i h0
    obtain ⟨a1, a2, a3, a4, a5, a6, a7, a8⟩ := h
    have hp0 : ps = [] := by
      have h9 := a3.1.symm.trans h0
      have : ps.length = 0 := nI_inj h9 (by have := a3.2.1; omega) (by omega)
      exact List.eq_nil_of_length_eq_zero this
    subst hp0
    have hv : ∃ v : Nat, (if σ 3 0 1 < bs then σ 3 0 1 else bs) = nI v ∧ 1 ≤ v ∧ v ≤ 8 ∧ v ≤ qs.length := by
      rw [a2.1, hb]
      by_cases hlt : qs.length < b
      · exact ⟨qs.length, by rw [if_pos (nI_lt hlt (by omega))], by omega, by omega, Nat.le_refl _⟩
      · exact ⟨b, by rw [if_neg (nI_nlt (by omega) (by have := a2.2.1; omega))], by omega, by omega, by omega⟩
    obtain ⟨v, e1, e2, e3, e4⟩ := hv
    rw [e1, PI_pn a3]
    have hP := PI_ins (q := v) (v := nI v) (n := 0) a3 rfl rfl (by decide)
    have hC : QC (rowIns σ 1 0 0 (nI v)) qs := by
      refine QC_of ⟨a1, a2, a4, a5⟩ ?_ ?_ ?_ (fun c => ?_) <;> simp [rowIns, sg, sga, up1]
    refine ⟨v, [], ⟨hC.1, hC.2.1, hP, hC.2.2.1, hC.2.2.2, ?_, ?_, ?_⟩, by simp⟩
    · intro p hp
      rw [List.mem_singleton.mp hp]; exact e2
    · simpa using e3
    · simpa using e4
  · rename_i h0
    cases ps with
    | nil => exact absurd h.2.2.1.1 (fun e => h0 (e.trans rfl))
    | cons k ps' => exact ⟨k, ps', h, by simp⟩
theorem Wk_mb0 {σ : Sg} {qs ps : List Nat} (h : Wk σ qs ps) (h0 : σ 0 0 1 ≤ 0) : σ 0 0 1 = 0 ∧ ∀ j, j < 4 → σ 10 0 j = 0 := by
  have hm : mb σ < 2 ^ 31 := by
    show (σ 0 0 1).toInt.toNat < _
    have := Int32.toInt_lt (σ 0 0 1)
    omega
  have e : mb σ = 0 := by
    by_cases hz : mb σ = 0
    · exact hz
    · rw [h.2.1] at h0
      exact absurd h0 (nI_nle (by omega) hm)
  refine ⟨by rw [h.2.1, e]; rfl, ?_⟩
  rcases h.2.2 with ⟨-, h1⟩ | ⟨h1, -⟩
  · exact h1
  · omega
theorem fin_QC {r : Sg} {qs : List Nat} {v : Int32} (h : QC r qs) : QC (sg r 13 1 0 v) qs := by
  refine QC_of h ?_ ?_ ?_ (fun c => ?_) <;> simp [sg, up1]
theorem build_Wk {bs : Int32} {b : Nat} {σ : Sg} {qs ps : List Nat} (hb : bs = nI b) (h1 : 1 ≤ b) (h8 : b ≤ 8) (h : Wk σ qs ps) (h0 : σ 0 0 1 ≤ 0) (hq : 0 < qs.length) : ∃ qs' ps', Wk (buildB bs σ) qs' ps' ∧ ((buildB bs σ) 0 0 1 ≤ 0 → 2 * qs'.length + ps.length + 1 ≤ 2 * qs.length + ps'.length) := by
  obtain ⟨m0, j0⟩ := Wk_mb0 h h0
  obtain ⟨k, ps1, hQ, hl⟩ := planned_QP hb h1 h8 h.1 hq
  have hP := hQ.2.2.1
  have a6 := hQ.2.2.2.2.2.1
  have a7 := hQ.2.2.2.2.2.2.1
  have a8 := hQ.2.2.2.2.2.2.2
  have hk := a6 k List.mem_cons_self
  have a6' : ∀ p ∈ ps1, 1 ≤ p := fun p hp => a6 p (List.mem_cons_of_mem _ hp)
  simp only [List.sum_cons] at a7 a8
  have ek : tn ((planned bs σ) 13 1 0) = k := by rw [hP.2.2 0 k rfl]; exact tn_nI (by omega)
  have hC0 : QC (sga (planned bs σ) 9 0 ((planned bs σ) 8 0)) qs := by
    refine QC_of (QP_C hQ) ?_ ?_ ?_ (fun c => ?_) <;> rw [sga_t (by decide)]
  obtain ⟨qs', h2, h3, h4, h5, h6, h7, h9⟩ := mfI_ok k 0 _ qs hC0 (by omega)
  unfold buildB
  rw [ek]
  have hr : ∀ t, t ≠ 1 → t ≠ 3 → t ≠ 9 → t ≠ 13 → (mfS (planned bs σ) k).1 t = σ t := fun t t1 t3 t9 t13 => ((h6 t t1 t3 t9 t13).trans (sga_t t9)).trans (planned_t t3 t13)
  have hP1 : PI (mfS (planned bs σ) k).1 (k :: ps1) := PI_of hP (h9.trans (by rw [sga_t (by decide)])) (h7.trans (by rw [sga_t (by decide)]))
  have h2 : QC (mfS (planned bs σ) k).1 qs' := h2
  have h4 : (mfS (planned bs σ) k).2 ≤ 0 + k := h4
  have h5 : qs'.length + k + 0 = qs.length + (mfS (planned bs σ) k).2 := h5
  have hpn : pn (planned bs σ) = ps1.length + 1 := by rw [PI_pn hP]; rfl
  generalize mfS (planned bs σ) k = r at hr hP1 h2 h4 h5
  obtain ⟨r, m⟩ := r
  unfold buildT
  simp only at hr hP1 h2 h4 h5 ⊢
  by_cases hm : m = 0
  · subst hm
    rw [if_pos rfl]
    have hP2 := PI_rmv hP1 hpn
    have hC2 : QC (rowRmv r 1 0 (pn (planned bs σ))) qs' := by
      refine QC_of h2 ?_ ?_ ?_ (fun c => ?_) <;> simp [rowRmv, sg, sga, up1]
    refine ⟨qs', ps1, ⟨⟨hC2.1, hC2.2.1, hP2, hC2.2.2.1, hC2.2.2.2, a6', by omega, by omega⟩, ?_⟩, fun _ => by omega⟩
    have e1 : (rowRmv r 1 0 (pn (planned bs σ))) 0 0 1 = 0 := by rw [rowRmv_t (by decide) (by decide), hr 0 (by decide) (by decide) (by decide) (by decide)]; exact m0
    refine ⟨by rw [mb_z e1, e1]; rfl, Or.inl ⟨mb_z e1, fun j hj => ?_⟩⟩
    rw [rowRmv_t (by decide) (by decide), hr 10 (by decide) (by decide) (by decide) (by decide)]
    exact j0 j hj
  · rw [if_neg hm]
    have hP2 := PI_set (v := nI m) hP1 rfl
    have hC2 := fin_QC (v := nI m) h2
    have h1m : ∀ p ∈ m :: ps1, 1 ≤ p := fun p hp => by
      rcases List.mem_cons.mp hp with rfl | hp
      · omega
      · exact a6' p hp
    split
    · refine ⟨qs', m :: ps1, ⟨⟨?_, ?_, ?_, ?_, hC2.2.2.2, h1m, by simp only [List.sum_cons]; omega, by simp only [List.sum_cons]; omega⟩, ?_⟩, fun hz => ?_⟩
      · have := hC2.1
        unfold Cn cn at *
        simpa [startB, sg, sga, up1] using this
      · refine QI_of hC2.2.1 ?_ ?_ <;> simp [startB, sg, sga, up1]
      · refine PI_of hP2 ?_ ?_ <;> simp [startB, sg, sga, up1]
      · intro c hc
        have := hC2.2.2.1 c hc
        unfold cn at *
        simpa [startB, sg, sga, up1] using this
      · have e1 : (startB (sg r 13 1 0 (nI m)) (nI m)) 0 0 1 = nI m := by simp [startB, sg, sga, up1]
        have e2 : mb (startB (sg r 13 1 0 (nI m)) (nI m)) = m := by unfold mb; rw [e1]; exact nI_clamp (by omega)
        exact ⟨by rw [e2, e1], Or.inr ⟨by rw [e2]; omega, ps1, by rw [e2]⟩⟩
      · have e1 : (startB (sg r 13 1 0 (nI m)) (nI m)) 0 0 1 = nI m := by simp [startB, sg, sga, up1]
        rw [e1] at hz
        exact absurd hz (nI_nle (by omega) (by omega))
    · obtain ⟨q, p, g1, g2, g3⟩ := fail_Wk (cause := 2) hC2 hP2 h1m (by simp only [List.sum_cons]; omega) (by simp only [List.sum_cons]; omega)
      exact ⟨q, p, g1, fun _ => by omega⟩
/-- all batches that can be built: at most so many -/
theorem bld_Wk {bs : Int32} {b : Nat} (hb : bs = nI b) (h1 : 1 ≤ b) (h8 : b ≤ 8) : ∀ (n : Nat) (σ : Sg) (qs ps : List Nat), Wk σ qs ps → ∃ qs' ps', Wk (bld bs n σ) qs' ps'
  | 0, σ, qs, ps, h => ⟨qs, ps, h⟩
  | n + 1, σ, qs, ps, h => by
    unfold bld
    split
    · rename_i hc
      have hq : 0 < qs.length := by
        rcases Nat.eq_zero_or_pos qs.length with e | e
        · exact absurd (by rw [h.1.2.1.1, e]; decide) hc.2
        · exact e
      obtain ⟨q, p, h2, -⟩ := build_Wk hb h1 h8 h hc.1 hq
      exact bld_Wk hb h1 h8 n _ q p h2
    · exact ⟨qs, ps, h⟩
set_option maxRecDepth 10000 in
theorem L_X6_mergeFirst {l : Launch} {w : WW} {Φ : Option Value → XX → Prop} {M : Mem} {k : Nat} (hk : k ≤ 16) : ∀ (n : Nat) {i m : Nat} {τ : Sg} {qs : List Nat} {v4 : Option Value}, i + n = k → QC τ qs → n + m ≤ qs.length → Φ (some (.int (nI (mfI n m τ).2))) (zx w M 0 (mfI n m τ).1) → A l w yX6_mergeFirst cX6_mergeFirst 5 (some .int) (rmd 3) Φ 18 [some (.ref (ad w 0 5 0)), some (.int (nI k)), some (.int (nI m)), some (.int (nI i)), v4] [] (zx w M 0 τ) 0 0 := by
  intro n
  induction n with
  | zero =>
    intro i m τ qs v4 hi hC hn h
    refine a_iload_n dX6_mergeFirst_18 rfl ?_
    refine a_iload_n dX6_mergeFirst_19 rfl ?_
    refine a_icmp_ge (tgt := 95) dX6_mergeFirst_20 (by decide) (fun c_20 => ?_) (fun c_20 => absurd (nI_le (by omega) (by omega)) c_20)
    refine a_iload_n dX6_mergeFirst_95 rfl ?_
    exact c_iret dX6_mergeFirst_96 h
  | succ n ih =>
    intro i m τ qs v4 hi hC hn h
    refine a_iload_n dX6_mergeFirst_18 rfl ?_
    refine a_iload_n dX6_mergeFirst_19 rfl ?_
    refine a_icmp_ge (tgt := 95) dX6_mergeFirst_20 (by decide) (fun c_20 => absurd c_20 (nI_ge (by omega) (by omega))) (fun c_20 => ?_)
    refine a_iload_n dX6_mergeFirst_23 rfl ?_
    refine a_aload_n dX6_mergeFirst_24 rfl ?_
    refine c_getR (t := 5) (k := 5) dX6_mergeFirst_25 kw_57 rfl ?_
    refine c_getI (t := 3) (k := 1) dX6_mergeFirst_28 kw_337 ?_
    refine a_icmp_ge (tgt := 95) dX6_mergeFirst_31 (by decide) (fun c_31 => absurd c_31 (by rw [hC.2.1.1]; exact nI_ge (by omega) (by have := hC.2.1.2.1; omega))) (fun c_31 => ?_)
    have hqn := QI_qn hC.2.1
    have hql := hC.2.1.2.1
    obtain ⟨c, hcl, e2⟩ := (QC_ok hC).2.2 m (by omega)
    have e3 : c < 16 := Nat.lt_of_lt_of_le hcl hC.1.2
    obtain ⟨r1, r14, r15⟩ := rl_ch e3
    have e4 : rowAt (τ 13 0) (qn τ) (nI m) = nI c := by
      rw [rowAt, if_pos (inr_of (by omega) (by omega)), nI_clamp (by omega), e2]
    have e5 : tn (τ 13 0 m) = c := by rw [e2]; exact tn_nI (by omega)
    refine a_aload_n dX6_mergeFirst_34 rfl ?_
    refine c_getR (t := 5) (k := 3) dX6_mergeFirst_35 kw_53 rfl ?_
    refine a_aload_n dX6_mergeFirst_38 rfl ?_
    refine c_getR (t := 5) (k := 5) dX6_mergeFirst_39 kw_57 rfl ?_
    refine a_iload_n dX6_mergeFirst_42 rfl ?_
    refine c_V1I dX6_mergeFirst_43 kw_294 kv_X4_at (s_X4_at (n := qn τ) rfl rfl (by rw [hqn]; exact hC.2.1.1) (by rw [hqn]; exact hql)) ?_
    rw [e4]
    refine c_aald (i := c) dX6_mergeFirst_46 rfl e3 (if_pos e3) ?_
    refine a_astore_4 dX6_mergeFirst_47 (by decide) ?_
    refine a_aload dX6_mergeFirst_49 rfl ?_
    refine a_aload_n dX6_mergeFirst_51 rfl ?_
    refine c_getR (t := 5) (k := 7) dX6_mergeFirst_52 kw_62 rfl ?_
    refine c_getR (t := 0) (k := 0) dX6_mergeFirst_55 kw_320 rfl ?_
    refine c_V1I dX6_mergeFirst_58 kw_352 kv_X1_conflictsWith (s_X1_conflictsWith (t := 9) e3 (by decide) rfl rfl rfl) ?_
    refine a_if_eq (tgt := 74) dX6_mergeFirst_61 (by decide) (fun c_61 => ?_) (fun c_61 => ?_)
    · refine a_aload dX6_mergeFirst_74 rfl ?_
      refine a_aload_n dX6_mergeFirst_76 rfl ?_
      refine c_getR (t := 5) (k := 7) dX6_mergeFirst_77 kw_62 rfl ?_
      refine c_getR (t := 0) (k := 0) dX6_mergeFirst_80 kw_320 rfl ?_
      refine c_V1V dX6_mergeFirst_83 kw_356 kv_X1_mergeInto (s_X1_mergeInto e3) ?_
      refine a_iinc_2 (u := nI (m + 1)) dX6_mergeFirst_86 (inc_nI m) (by decide) ?_
      refine a_iinc_3 (u := nI (i + 1)) dX6_mergeFirst_89 (inc_nI i) (by decide) ?_
      refine a_goto (tgt := 18) dX6_mergeFirst_92 (by decide) ?_
      rw [mfI] at h
      have e6 : cfB τ (tn (τ 13 0 m)) = anyU (cfl (τ 14 c) (τ 15 c) (τ 9 0)) 6 0 := by rw [e5]; rfl
      first
        | (rw [if_neg (by rw [e6, bi_0.mp c_61]; decide), e5] at h; exact ih (by omega) (QC_of hC (by rw [sga_t (by decide)]) (by rw [sga_t (by decide)]) (by rw [sga_t (by decide)]) (fun c => by rw [sga_t (by decide)])) (by omega) h)
        | (rw [if_pos (by rw [e6, bi_n0.mp c_61])] at h; exact ih (by omega) (QC_tfq hC (by omega)) (by rw [List.length_eraseIdx, if_pos (by omega)]; omega) h)
    · refine a_aload_n dX6_mergeFirst_64 rfl ?_
      refine a_iload_n dX6_mergeFirst_65 rfl ?_
      refine a_iconst (v := 3) dX6_mergeFirst_66 (by decide) ?_
      refine a_iconst (v := 1) dX6_mergeFirst_67 (by decide) ?_
      refine c_V3V dX6_mergeFirst_68 kw_290 kv_X6_takeFromQueue (s_X6_takeFromQueue (j := m) (QC_ok hC) (by omega)) ?_
      refine a_goto (tgt := 89) dX6_mergeFirst_71 (by decide) ?_
      refine a_iinc_3 (u := nI (i + 1)) dX6_mergeFirst_89 (inc_nI i) (by decide) ?_
      refine a_goto (tgt := 18) dX6_mergeFirst_92 (by decide) ?_
      rw [mfI] at h
      have e6 : cfB τ (tn (τ 13 0 m)) = anyU (cfl (τ 14 c) (τ 15 c) (τ 9 0)) 6 0 := by rw [e5]; rfl
      first
        | (rw [if_neg (by rw [e6, bi_0.mp c_61]; decide), e5] at h; exact ih (by omega) (QC_of hC (by rw [sga_t (by decide)]) (by rw [sga_t (by decide)]) (by rw [sga_t (by decide)]) (fun c => by rw [sga_t (by decide)])) (by omega) h)
        | (rw [if_pos (by rw [e6, bi_n0.mp c_61])] at h; exact ih (by omega) (QC_tfq hC (by omega)) (by rw [List.length_eraseIdx, if_pos (by omega)]; omega) h)
set_option maxRecDepth 10000 in
theorem s_X6_mergeFirst {l : Launch} {w : WW} {M : Mem} {σ : Sg} {k : Nat} {qs : List Nat} (hC : QC σ qs) (hk : k ≤ qs.length) : Can l w yX6_mergeFirst cX6_mergeFirst 5 (some .int) (rmd 3) [.ref (ad w 0 5 0), .int (nI k)] (zx w M 0 σ) (RI (nI (mfS σ k).2) (zx w M 0 (mfS σ k).1)) := by
  refine Can.go (ls := [some (.ref (ad w 0 5 0)), some (.int (nI k)), none, none, none]) ?_
  refine a_aload_n dX6_mergeFirst_0 rfl ?_
  refine c_getR (t := 5) (k := 1) dX6_mergeFirst_1 kw_51 rfl ?_
  refine a_aload_n dX6_mergeFirst_4 rfl ?_
  refine c_getR (t := 5) (k := 7) dX6_mergeFirst_5 kw_62 rfl ?_
  refine c_getR (t := 0) (k := 0) dX6_mergeFirst_8 kw_320 rfl ?_
  refine c_N2V dX6_mergeFirst_11 nw_274 ks_X7_copyNumbers s_copy ?_
  refine a_iconst (v := 0) dX6_mergeFirst_14 (by decide) ?_
  refine a_istore_2 dX6_mergeFirst_15 (by decide) ?_
  refine a_iconst (v := 0) dX6_mergeFirst_16 (by decide) ?_
  refine a_istore_3 dX6_mergeFirst_17 (by decide) ?_
  exact L_X6_mergeFirst (by have := hC.2.1.2.1; omega) k (i := 0) (m := 0) (by omega) (QC_of hC (by rw [sga_t (by decide)]) (by rw [sga_t (by decide)]) (by rw [sga_t (by decide)]) (fun c => by rw [sga_t (by decide)])) (by omega) ⟨rfl, rfl⟩
end
section
set_option maxRecDepth 10000 in
theorem L_X6_build34 {l : Launch} {w : WW} {Φ : Option Value → XX → Prop} {M : Mem} {τ : Sg} {qs ps : List Nat} {k : Nat} {v1 : Option Value} (hQ : QP τ qs (k :: ps)) (h : Φ none (zx w M 0 (buildT τ (pn τ) (mfS τ (tn (τ 13 1 0)))))) : A l w yX6_buildBatch cX6_buildBatch 2 none (rmd 4) Φ 34 [some (.ref (ad w 0 5 0)), v1] [] (zx w M 0 τ) 0 0 := by
  have hP := hQ.2.2.1
  have a6 := hQ.2.2.2.2.2.1
  have a7 := hQ.2.2.2.2.2.2.1
  have a8 := hQ.2.2.2.2.2.2.2
  have hk := a6 k List.mem_cons_self
  have hsl := sum_len ps (fun p hp => a6 p (List.mem_cons_of_mem _ hp))
  simp only [List.sum_cons] at a7 a8
  have hkq : k ≤ qs.length := by omega
  have hPn := PI_Pn hP
  have hpn : pn τ = ps.length + 1 := by rw [PI_pn hP]; rfl
  have ek : tn (τ 13 1 0) = k := by rw [hP.2.2 0 k rfl]; exact tn_nI (by omega)
  have e4 : rowAt (τ 13 1) (pn τ) 0 = nI k := by
    show rowAt (τ 13 1) (pn τ) (nI 0) = nI k
    rw [rowAt, if_pos (inr_of (by omega) (by have := hPn.2; omega)), nI_clamp (by omega)]
    exact hP.2.2 0 k rfl
  have hC0 : QC (sga τ 9 0 (τ 8 0)) qs := by
    refine QC_of (QP_C hQ) ?_ ?_ ?_ (fun c => ?_) <;> rw [sga_t (by decide)]
  obtain ⟨qs', h2, h3, h4, h5, h6, h7, h9⟩ := mfI_ok k 0 _ qs hC0 (by omega)
  have h2 : QC (mfS τ k).1 qs' := h2
  have h3 : 0 ≤ (mfS τ k).2 := h3
  have h4 : (mfS τ k).2 ≤ 0 + k := h4
  have h5 : qs'.length + k + 0 = qs.length + (mfS τ k).2 := h5
  have h6 : ∀ t, t ≠ 1 → t ≠ 3 → t ≠ 9 → t ≠ 13 → (mfS τ k).1 t = (sga τ 9 0 (τ 8 0)) t := h6
  have h7 : (mfS τ k).1 13 1 = τ 13 1 := h7.trans (by rw [sga_t (by decide)])
  have h9 : (mfS τ k).1 3 1 = τ 3 1 := h9.trans (by rw [sga_t (by decide)])
  refine a_aload_n dX6_buildBatch_34 rfl ?_
  refine a_aload_n dX6_buildBatch_35 rfl ?_
  refine c_getR (t := 5) (k := 6) dX6_buildBatch_36 kw_58 rfl ?_
  refine a_iconst (v := 0) dX6_buildBatch_39 (by decide) ?_
  refine c_V1I dX6_buildBatch_40 kw_294 kv_X4_at (s_X4_at (c := 1) (n := pn τ) rfl rfl hPn.1 hPn.2) ?_
  rw [e4]
  refine c_V1I dX6_buildBatch_43 kw_348 kv_X6_mergeFirst (s_X6_mergeFirst (QP_C hQ) hkq) ?_
  generalize hr : mfS τ k = r at *
  obtain ⟨r, m⟩ := r
  simp only at h2 h3 h4 h5 h6 h7 h9 ⊢
  have hP1 : PI r (k :: ps) := PI_of hP h9 h7
  refine a_istore_1 dX6_buildBatch_46 (by decide) ?_
  refine a_iload_n dX6_buildBatch_47 rfl ?_
  refine a_if_ne (tgt := 60) dX6_buildBatch_48 (by decide) (fun c_48 => ?_) (fun c_48 => ?_)
  · have hm0 : ¬ m = 0 := fun q => c_48 (by rw [q]; rfl)
    have hP2 := PI_set (v := nI m) hP1 rfl
    have hC2 := fin_QC (v := nI m) h2
    have hT : buildT τ (pn τ) (r, m) = _ := if_neg hm0
    rw [ek, hr, hT] at h
    refine a_aload_n dX6_buildBatch_60 rfl ?_
    refine c_getR (t := 5) (k := 6) dX6_buildBatch_61 kw_58 rfl ?_
    refine a_iload_n dX6_buildBatch_64 rfl ?_
    refine c_V1V dX6_buildBatch_65 kw_306 kv_X4_replaceFirst (s_X4_replaceFirst (c := 1) (n := pn τ) rfl rfl (by rw [hpn]; exact hP1.1) (by omega) hPn.2) ?_
    refine a_aload_n dX6_buildBatch_68 rfl ?_
    refine c_getR (t := 5) (k := 7) dX6_buildBatch_69 kw_62 rfl ?_
    refine c_V0I dX6_buildBatch_72 kw_360 kv_X0_pipeline s_X0_pipeline ?_
    refine c_S1I dX6_buildBatch_75 kw_361 ks_X3_isValid s_X3_isValid ?_
    refine a_if_eq (tgt := 92) dX6_buildBatch_78 (by decide) (fun c_78 => ?_) (fun c_78 => ?_)
    · refine a_aload_n dX6_buildBatch_92 rfl ?_
      refine a_iload_n dX6_buildBatch_93 rfl ?_
      refine a_iconst (v := 2) dX6_buildBatch_94 (by decide) ?_
      refine c_V2V dX6_buildBatch_95 kw_282 kv_X6_failBatch (s_X6_failBatch (QC_ok hC2) (PI_Pn hP2) (by rw [PI_pn hP2]; simp) (by omega) (by omega) (fun e => by rw [QI_qn hC2.2.1]; omega) (fun e => by rw [PI_pn hP2]; simp only [List.length_cons]; omega)) ?_
      exact c_vret dX6_buildBatch_98 (by first | (rw [if_pos (bi_n0.mp c_78)] at h; exact h) | (rw [if_neg (by rw [bi_0.mp c_78]; decide)] at h; exact h))
    · refine a_aload_n dX6_buildBatch_81 rfl ?_
      refine c_getR (t := 5) (k := 7) dX6_buildBatch_82 kw_62 rfl ?_
      refine a_iload_n dX6_buildBatch_85 rfl ?_
      refine c_V1V dX6_buildBatch_86 kw_366 kv_X0_start s_X0_start ?_
      refine a_goto (tgt := 98) dX6_buildBatch_89 (by decide) ?_
      exact c_vret dX6_buildBatch_98 (by first | (rw [if_pos (bi_n0.mp c_78)] at h; exact h) | (rw [if_neg (by rw [bi_0.mp c_78]; decide)] at h; exact h))
  · have hm0 : m = 0 := nI_inj (b := 0) c_48 (by omega) (by omega)
    subst hm0
    refine a_aload_n dX6_buildBatch_51 rfl ?_
    refine c_getR (t := 5) (k := 6) dX6_buildBatch_52 kw_58 rfl ?_
    refine a_iconst (v := 0) dX6_buildBatch_55 (by decide) ?_
    refine c_V1V dX6_buildBatch_56 kw_302 kv_X4_removeAt (s_X4_removeAt (c := 1) (j := 0) (n := pn τ) rfl rfl (by rw [hpn]; exact hP1.1) (by omega) hPn.2) ?_
    exact c_vret dX6_buildBatch_59 (by rw [ek, hr] at h; exact h)
set_option maxRecDepth 10000 in
theorem s_X6_buildBatch {l : Launch} {w : WW} {M : Mem} {σ : Sg} {qs ps : List Nat} {b : Nat} (hb : M 2 4 0 1 = nI b) (b1 : 1 ≤ b) (b8 : b ≤ 8) (h : Wk σ qs ps) (hq : 0 < qs.length) : Can l w yX6_buildBatch cX6_buildBatch 2 none (rmd 4) [.ref (ad w 0 5 0)] (zx w M 0 σ) (RV (zx w M 0 (buildB (M 2 4 0 1) σ))) := by
  refine Can.go (ls := [some (.ref (ad w 0 5 0)), none]) ?_
  obtain ⟨k, ps1, hQ, -⟩ := planned_QP hb b1 b8 h.1 hq
  have hPn := PI_Pn h.1.2.2.1
  refine a_aload_n dX6_buildBatch_0 rfl ?_
  refine c_getR (t := 5) (k := 6) dX6_buildBatch_1 kw_58 rfl ?_
  refine c_getI (t := 3) (k := 1) dX6_buildBatch_4 kw_337 ?_
  refine a_if_ne (tgt := 34) dX6_buildBatch_7 (by decide) (fun c_7 => ?_) (fun c_7 => ?_)
  · refine a_eq (x' := zx w M 0 (planned (M 2 4 0 1) σ)) (by unfold planned; first | rw [if_neg c_7] | rw [if_pos c_7]) ?_
    exact L_X6_build34 hQ ⟨rfl, rfl⟩
  · refine a_aload_n dX6_buildBatch_10 rfl ?_
    refine c_getR (t := 5) (k := 6) dX6_buildBatch_11 kw_58 rfl ?_
    refine a_aload_n dX6_buildBatch_14 rfl ?_
    refine c_getR (t := 5) (k := 0) dX6_buildBatch_15 kw_63 rfl ?_
    refine e_getI (t := 4) (k := 1) dX6_buildBatch_18 kw_346 ?_
    refine a_aload_n dX6_buildBatch_21 rfl ?_
    refine c_getR (t := 5) (k := 5) dX6_buildBatch_22 kw_57 rfl ?_
    refine c_getI (t := 3) (k := 1) dX6_buildBatch_25 kw_337 ?_
    refine a_min dX6_buildBatch_28 kw_347 kw_40 kw_41 kw_42 ⟨by decide, by exact Nat.le_of_ble_eq_true rfl⟩ ⟨Nat.zero_le _, Nat.zero_le _⟩ ?_
    have h0 : pn σ = 0 := by
      have := hPn.1.symm.trans c_7
      exact nI_inj (b := 0) this (by have := hPn.2; omega) (by omega)
    refine c_V1V dX6_buildBatch_31 kw_211 kv_X4_append (s_X4_append (c := 1) (n := pn σ) rfl rfl hPn.1 (by rw [h0]; decide)) ?_
    refine a_eq (x' := zx w M 0 (planned (M 2 4 0 1) σ)) (by unfold planned; first | rw [if_neg c_7] | rw [if_pos c_7]) ?_
    exact L_X6_build34 hQ ⟨rfl, rfl⟩
set_option maxRecDepth 10000 in
theorem L_X6_bld {l : Launch} {w : WW} {Φ : Option Value → XX → Prop} {M : Mem} {b : Nat} (hb : M 2 4 0 1 = nI b) (b1 : 1 ≤ b) (b8 : b ≤ 8) : ∀ (n : Nat) {i : Nat} {σ : Sg} {qs ps : List Nat}, i + n ≤ 100 → Wk σ qs ps → 2 * qs.length ≤ n + ps.length → (∀ v, A l w yX6_buildBatches cX6_buildBatches 2 none (rmd 5) Φ 38 [some (.ref (ad w 0 5 0)), v] [] (zx w M 0 (bld (M 2 4 0 1) n σ)) 0 0) → A l w yX6_buildBatches cX6_buildBatches 2 none (rmd 5) Φ 2 [some (.ref (ad w 0 5 0)), some (.int (nI i))] [] (zx w M 0 σ) 0 0 := by
  intro n
  induction n with
  | zero =>
    intro i σ qs ps hi h hm kk
    refine a_iload_n dX6_buildBatches_2 rfl ?_
    refine a_ldc (v := 1000000) dX6_buildBatches_3 kw_336 ?_
    refine a_icmp_ge (tgt := 38) dX6_buildBatches_5 (by decide) (fun c_5 => absurd c_5 (nI_ge (b := 1000000) (by omega) (by omega))) (fun c_5 => ?_)
    refine a_aload_n dX6_buildBatches_8 rfl ?_
    refine c_getR (t := 5) (k := 7) dX6_buildBatches_9 kw_62 rfl ?_
    refine c_V0I dX6_buildBatches_12 kw_338 kv_X0_isUnderTest s_X0_isUnderTest ?_
    refine a_if_ne (tgt := 38) dX6_buildBatches_15 (by decide) (fun c_15 => ?_) (fun c_15 => ?_)
    · exact kk _
    · refine a_aload_n dX6_buildBatches_18 rfl ?_
      refine c_getR (t := 5) (k := 5) dX6_buildBatches_19 kw_57 rfl ?_
      refine c_getI (t := 3) (k := 1) dX6_buildBatches_22 kw_337 ?_
      refine a_if_le (tgt := 38) dX6_buildBatches_25 (by decide) (fun c_25 => ?_) (fun c_25 => ?_)
      · exact kk _
      · have hs := sum_len ps h.1.2.2.2.2.2.1
        have hs2 := h.1.2.2.2.2.2.2.2
        exact absurd (by rw [h.1.2.1.1, show qs.length = 0 by omega]; decide) c_25
  | succ n ih =>
    intro i σ qs ps hi h hm kk
    refine a_iload_n dX6_buildBatches_2 rfl ?_
    refine a_ldc (v := 1000000) dX6_buildBatches_3 kw_336 ?_
    refine a_icmp_ge (tgt := 38) dX6_buildBatches_5 (by decide) (fun c_5 => absurd c_5 (nI_ge (b := 1000000) (by omega) (by omega))) (fun c_5 => ?_)
    refine a_aload_n dX6_buildBatches_8 rfl ?_
    refine c_getR (t := 5) (k := 7) dX6_buildBatches_9 kw_62 rfl ?_
    refine c_V0I dX6_buildBatches_12 kw_338 kv_X0_isUnderTest s_X0_isUnderTest ?_
    refine a_if_ne (tgt := 38) dX6_buildBatches_15 (by decide) (fun c_15 => ?_) (fun c_15 => ?_)
    · have e : bld (M 2 4 0 1) (n + 1) σ = σ := by
        rw [bld]
        first
          | exact if_neg (fun q => absurd (bi_n0.mp c_15) (by rw [decide_eq_true q.1]; decide))
          | exact if_neg (fun q => q.2 c_25)
      rw [e] at kk
      exact kk _
    · refine a_aload_n dX6_buildBatches_18 rfl ?_
      refine c_getR (t := 5) (k := 5) dX6_buildBatches_19 kw_57 rfl ?_
      refine c_getI (t := 3) (k := 1) dX6_buildBatches_22 kw_337 ?_
      refine a_if_le (tgt := 38) dX6_buildBatches_25 (by decide) (fun c_25 => ?_) (fun c_25 => ?_)
      · have e : bld (M 2 4 0 1) (n + 1) σ = σ := by
          rw [bld]
          first
            | exact if_neg (fun q => absurd (bi_n0.mp c_15) (by rw [decide_eq_true q.1]; decide))
            | exact if_neg (fun q => q.2 c_25)
        rw [e] at kk
        exact kk _
      · refine a_aload_n dX6_buildBatches_28 rfl ?_
        have e0 : σ 0 0 1 ≤ 0 := by
          have := bi_0.mp c_15
          simpa using this
        have hq : 0 < qs.length := by
          rcases Nat.eq_zero_or_pos qs.length with e | e
          · exact absurd (by rw [h.1.2.1.1, e]; decide) c_25
          · exact e
        obtain ⟨q, p, g1, g2⟩ := build_Wk hb b1 b8 h e0 hq
        refine c_V0V dX6_buildBatches_29 kw_342 kv_X6_buildBatch (s_X6_buildBatch hb b1 b8 h hq) ?_
        refine a_iinc_1 (u := nI (i + 1)) dX6_buildBatches_32 (inc_nI i) (by decide) ?_
        refine a_goto (tgt := 2) dX6_buildBatches_35 (by decide) ?_
        have e : bld (M 2 4 0 1) (n + 1) σ = bld (M 2 4 0 1) n (buildB (M 2 4 0 1) σ) := by
          rw [bld]
          exact if_pos ⟨e0, c_25⟩
        rw [e] at kk
        by_cases hz : (buildB (M 2 4 0 1) σ) 0 0 1 ≤ 0
        · have := g2 hz
          exact ih (by omega) g1 (by omega) kk
        · have ez : ∀ n, bld (M 2 4 0 1) n (buildB (M 2 4 0 1) σ) = buildB (M 2 4 0 1) σ := fun n => by
            cases n with
            | zero => rfl
            | succ n => exact if_neg (fun q => hz q.1)
          rw [ez] at kk
          refine a_iload_n dX6_buildBatches_2 rfl ?_
          refine a_ldc (v := 1000000) dX6_buildBatches_3 kw_336 ?_
          refine a_icmp_ge (tgt := 38) dX6_buildBatches_5 (by decide) (fun c_5 => absurd c_5 (nI_ge (b := 1000000) (by omega) (by omega))) (fun c_5 => ?_)
          refine a_aload_n dX6_buildBatches_8 rfl ?_
          refine c_getR (t := 5) (k := 7) dX6_buildBatches_9 kw_62 rfl ?_
          refine c_V0I dX6_buildBatches_12 kw_338 kv_X0_isUnderTest s_X0_isUnderTest ?_
          refine a_if_ne (tgt := 38) dX6_buildBatches_15 (by decide) (fun c_15 => ?_) (fun c_15 => absurd (bi_0.mp c_15) (by rw [decide_eq_false hz]; decide))
          exact kk _
set_option maxRecDepth 10000 in
theorem s_X6_buildBatches {l : Launch} {w : WW} {M : Mem} {σ : Sg} {qs ps : List Nat} {b : Nat} (hb : M 2 4 0 1 = nI b) (b1 : 1 ≤ b) (b8 : b ≤ 8) (h : Wk σ qs ps) : Can l w yX6_buildBatches cX6_buildBatches 2 none (rmd 5) [.ref (ad w 0 5 0)] (zx w M 0 σ) (RV (zx w M 0 (bld (M 2 4 0 1) 40 σ))) := by
  refine Can.go (ls := [some (.ref (ad w 0 5 0)), none]) ?_
  refine a_iconst (v := 0) dX6_buildBatches_0 (by decide) ?_
  refine a_istore_1 dX6_buildBatches_1 (by decide) ?_
  exact L_X6_bld hb b1 b8 40 (i := 0) (by omega) h (by have := h.1.2.1.2.1; omega) (fun v => c_vret dX6_buildBatches_38 ⟨rfl, rfl⟩)
set_option maxRecDepth 10000 in
theorem s_X6_recover {l : Launch} {w : WW} {M : Mem} {σ : Sg} {qs ps : List Nat} {b : Nat} (hb : M 2 4 0 1 = nI b) (b1 : 1 ≤ b) (b8 : b ≤ 8) (h : Wk σ qs ps) : Can l w yX6_recover cX6_recover 1 none (rmd 6) [.ref (ad w 0 5 0)] (zx w M 0 σ) (RV (zx w M 0 (bld (M 2 4 0 1) 40 (expI 1 (M 2 4 0 2) 4 0 σ 0).1))) := by
  refine Can.go (ls := [some (.ref (ad w 0 5 0))]) ?_
  obtain ⟨q, p, g1⟩ := expI_Wk 1 (M 2 4 0 2) 4 0 σ 0 qs ps rfl h
  refine a_aload_n dX6_recover_0 rfl ?_
  refine a_iconst (v := 1) dX6_recover_1 (by decide) ?_
  refine c_V1I dX6_recover_2 kw_321 kv_X6_expireLeases (s_X6_expireLeases (Wk_L h)) ?_
  refine a_pop dX6_recover_5 rfl ?_
  refine a_aload_n dX6_recover_6 rfl ?_
  refine c_V0V dX6_recover_7 kw_332 kv_X6_buildBatches (s_X6_buildBatches hb b1 b8 g1) ?_
  exact c_vret dX6_recover_10 ⟨rfl, rfl⟩
def tickN (z : Nat → Int32) : Nat → Sg → Int32 → Sg × Int32
  | 0, σ, x => (σ, x)
  | n + 1, σ, x => tickN z n (bld (z 1) 40 (expI 0 (z 2) 4 0 (sg σ 5 0 8 (σ 5 0 8 + 1)) 0).1) (x + (expI 0 (z 2) 4 0 (sg σ 5 0 8 (σ 5 0 8 + 1)) 0).2)
/-- what an event of a kind does, and answers -/
def stepK (z : Nat → Int32) (kd : Nat) (a b c : Int32) (σ : Sg) : Sg × Int32 := match kd with
  | 0 => (addC σ, σ 5 0 4)
  | 1 => (dropR (sg σ 15 (tn a) (tn b) c) (tn a), 0)
  | 2 => (addF σ (tn a) b, 0)
  | 3 => (addA σ (tn a) b, 0)
  | 4 => (become σ (tn a) 4 0, 0)
  | 5 => (rowIns (become σ (tn a) 1 0) 0 (qn σ) (qn σ) a, 0)
  | 6 => (moveO σ (tn a), 0)
  | 7 => (leaseN (z 3) σ (tn a), nextJ σ)
  | 8 => (endJ σ (tn (leasedJ σ a)) b, 0)
  | _ => tickN z (tn a) σ 0
theorem sgt_Wk {σ : Sg} {qs ps : List Nat} {v : Int32} (h : Wk σ qs ps) : Wk (sg σ 5 0 8 v) qs ps := by
  refine ⟨QP_of h.1 (by simp [sg, up1]) (by simp [sg, up1]) (by simp [sg, up1]) (fun c => by simp [sg, up1]), ?_⟩
  have e0 : mb (sg σ 5 0 8 v) = mb σ := by unfold mb; rw [sg_t (by decide)]
  unfold Bt
  rw [e0, sg_t (by decide), sg_t (by decide)]
  exact h.2
theorem tickN_Wk {z : Nat → Int32} {b : Nat} (hb : z 1 = nI b) (h1 : 1 ≤ b) (h8 : b ≤ 8) : ∀ (n : Nat) (σ : Sg) (x : Int32) (qs ps : List Nat), Wk σ qs ps → ∃ qs' ps', Wk (tickN z n σ x).1 qs' ps'
  | 0, σ, x, qs, ps, h => ⟨qs, ps, h⟩
  | n + 1, σ, x, qs, ps, h => by
    unfold tickN
    obtain ⟨q, p, g1⟩ := expI_Wk 0 (z 2) 4 0 _ 0 qs ps rfl (sgt_Wk (v := σ 5 0 8 + 1) h)
    obtain ⟨q2, p2, g2⟩ := bld_Wk hb h1 h8 40 _ q p g1
    exact tickN_Wk hb h1 h8 n _ _ q2 p2 g2
set_option maxRecDepth 10000 in
theorem L_tail {l : Launch} {w : WW} {Φ : Option Value → XX → Prop} {M : Mem} {τ : Sg} {x : Int32} {v3 : Option Value} {e : Nat} {qs ps : List Nat} {b : Nat} (hb : M 2 4 0 1 = nI b) (b1 : 1 ≤ b) (b8 : b ≤ 8) (h : Wk τ qs ps) (hΦ : Φ (some (.int x)) (zx w M 0 (bld (M 2 4 0 1) 40 τ))) : A l w yX6_carryOut cX6_carryOut 4 (some .int) (rmd 6) Φ 268 [some (.ref (ad w 0 5 0)), some (.ref (ad w 2 2 e)), some (.int x), v3] [] (zx w M 0 τ) 0 0 := by
  refine a_aload_n dX6_carryOut_268 rfl ?_
  refine c_V0V dX6_carryOut_269 kw_332 kv_X6_buildBatches (s_X6_buildBatches hb b1 b8 h) ?_
  refine a_iload_n dX6_carryOut_272 rfl ?_
  exact c_iret dX6_carryOut_273 hΦ
set_option maxRecDepth 10000 in
theorem s_carry_0 {l : Launch} {w : WW} {M : Mem} {σ : Sg} {e : Nat} (he : rl 2 2 e = true) {qs ps : List Nat} {b : Nat} (hb : M 2 4 0 1 = nI b) (b1 : 1 ≤ b) (b8 : b ≤ 8) (hk : M 2 2 e 0 = 0) (hw : Wk (stepK (M 2 4 0) 0 (M 2 2 e 1) (M 2 2 e 2) (M 2 2 e 3) σ).1 qs ps) (hc : Cn σ) (hlt : cn σ < 16) : Can l w yX6_carryOut cX6_carryOut 4 (some .int) (rmd 6) [.ref (ad w 0 5 0), .ref (ad w 2 2 e)] (zx w M 0 σ) (RI (stepK (M 2 4 0) 0 (M 2 2 e 1) (M 2 2 e 2) (M 2 2 e 3) σ).2 (zx w M 0 (bld (M 2 4 0 1) 40 (stepK (M 2 4 0) 0 (M 2 2 e 1) (M 2 2 e 2) (M 2 2 e 3) σ).1))) := by
  refine Can.go (ls := [some (.ref (ad w 0 5 0)), some (.ref (ad w 2 2 e)), none, none]) ?_
  refine a_iconst (v := 0) dX6_carryOut_0 (by decide) ?_
  refine a_istore_2 dX6_carryOut_1 (by decide) ?_
  refine a_aload_n dX6_carryOut_2 rfl ?_
  refine e_getI (t := 2) (k := 0) dX6_carryOut_3 kw_178 ?_
  rw [hk]
  refine a_tabIn (tgt := 60) (d_ := 54) dX6_carryOut_6 (by decide) (by decide) rfl (by decide) ?_
  refine a_aload_n dX6_carryOut_60 rfl ?_
  refine c_V0I dX6_carryOut_61 kw_182 kv_X6_addChange (s_X6_addChange hc hlt) ?_
  refine a_istore_2 dX6_carryOut_64 (by decide) ?_
  refine a_goto (tgt := 268) dX6_carryOut_65 (by decide) ?_
  exact L_tail hb b1 b8 hw ⟨rfl, rfl⟩
theorem s_setC {l : Launch} {w : WW} {M : Mem} {σ : Sg} {c : Nat} (hc : c < 16) {p : Nat} {q v : Int32} (hq : q = nI p) (hp : p < 6) : Can l w yX1_setContent cX1_setContent 3 none (rmd 2) [.ref (ad w 0 1 c), .int q, .int v] (zx w M 0 σ) (RV (zx w M 0 (dropR (sg σ 15 c p v) c))) := by
  subst hq
  exact s_X1_setContent hc hp
set_option maxRecDepth 10000 in
theorem s_carry_1 {l : Launch} {w : WW} {M : Mem} {σ : Sg} {e : Nat} (he : rl 2 2 e = true) {qs ps : List Nat} {b : Nat} (hb : M 2 4 0 1 = nI b) (b1 : 1 ≤ b) (b8 : b ≤ 8) (hk : M 2 2 e 0 = 1) (hw : Wk (stepK (M 2 4 0) 1 (M 2 2 e 1) (M 2 2 e 2) (M 2 2 e 3) σ).1 qs ps) (hc : M 2 2 e 1 = nI (tn (M 2 2 e 1))) (h16 : tn (M 2 2 e 1) < 16) (hp : M 2 2 e 2 = nI (tn (M 2 2 e 2))) (hp6 : tn (M 2 2 e 2) < 6) : Can l w yX6_carryOut cX6_carryOut 4 (some .int) (rmd 6) [.ref (ad w 0 5 0), .ref (ad w 2 2 e)] (zx w M 0 σ) (RI (stepK (M 2 4 0) 1 (M 2 2 e 1) (M 2 2 e 2) (M 2 2 e 3) σ).2 (zx w M 0 (bld (M 2 4 0 1) 40 (stepK (M 2 4 0) 1 (M 2 2 e 1) (M 2 2 e 2) (M 2 2 e 3) σ).1))) := by
  refine Can.go (ls := [some (.ref (ad w 0 5 0)), some (.ref (ad w 2 2 e)), none, none]) ?_
  obtain ⟨hr1, hr14, hr15⟩ := rl_ch h16
  refine a_iconst (v := 0) dX6_carryOut_0 (by decide) ?_
  refine a_istore_2 dX6_carryOut_1 (by decide) ?_
  refine a_aload_n dX6_carryOut_2 rfl ?_
  refine e_getI (t := 2) (k := 0) dX6_carryOut_3 kw_178 ?_
  rw [hk]
  refine a_tabIn (tgt := 68) (d_ := 62) dX6_carryOut_6 (by decide) (by decide) rfl (by decide) ?_
  refine a_aload_n dX6_carryOut_68 rfl ?_
  refine c_getR (t := 5) (k := 3) dX6_carryOut_69 kw_53 rfl ?_
  refine a_aload_n dX6_carryOut_72 rfl ?_
  refine e_getI (t := 2) (k := 1) dX6_carryOut_73 kw_179 ?_
  refine c_aald (i := tn (M 2 2 e 1)) dX6_carryOut_76 hc h16 (if_pos h16) ?_
  refine a_aload_n dX6_carryOut_77 rfl ?_
  refine e_getI (t := 2) (k := 2) dX6_carryOut_78 kw_180 ?_
  refine a_aload_n dX6_carryOut_81 rfl ?_
  refine e_getI (t := 2) (k := 3) dX6_carryOut_82 kw_181 ?_
  refine c_V2V dX6_carryOut_85 kw_198 kv_X1_setContent (s_setC h16 hp hp6) ?_
  refine a_goto (tgt := 268) dX6_carryOut_88 (by decide) ?_
  exact L_tail hb b1 b8 hw ⟨rfl, rfl⟩
set_option maxRecDepth 10000 in
theorem s_carry_2 {l : Launch} {w : WW} {M : Mem} {σ : Sg} {e : Nat} (he : rl 2 2 e = true) {qs ps : List Nat} {b : Nat} (hb : M 2 4 0 1 = nI b) (b1 : 1 ≤ b) (b8 : b ≤ 8) (hk : M 2 2 e 0 = 2) (hw : Wk (stepK (M 2 4 0) 2 (M 2 2 e 1) (M 2 2 e 2) (M 2 2 e 3) σ).1 qs ps) (hc : M 2 2 e 1 = nI (tn (M 2 2 e 1))) (h16 : tn (M 2 2 e 1) < 16) : Can l w yX6_carryOut cX6_carryOut 4 (some .int) (rmd 6) [.ref (ad w 0 5 0), .ref (ad w 2 2 e)] (zx w M 0 σ) (RI (stepK (M 2 4 0) 2 (M 2 2 e 1) (M 2 2 e 2) (M 2 2 e 3) σ).2 (zx w M 0 (bld (M 2 4 0 1) 40 (stepK (M 2 4 0) 2 (M 2 2 e 1) (M 2 2 e 2) (M 2 2 e 3) σ).1))) := by
  refine Can.go (ls := [some (.ref (ad w 0 5 0)), some (.ref (ad w 2 2 e)), none, none]) ?_
  obtain ⟨hr1, hr14, hr15⟩ := rl_ch h16
  refine a_iconst (v := 0) dX6_carryOut_0 (by decide) ?_
  refine a_istore_2 dX6_carryOut_1 (by decide) ?_
  refine a_aload_n dX6_carryOut_2 rfl ?_
  refine e_getI (t := 2) (k := 0) dX6_carryOut_3 kw_178 ?_
  rw [hk]
  refine a_tabIn (tgt := 91) (d_ := 85) dX6_carryOut_6 (by decide) (by decide) rfl (by decide) ?_
  refine a_aload_n dX6_carryOut_91 rfl ?_
  refine c_getR (t := 5) (k := 3) dX6_carryOut_92 kw_53 rfl ?_
  refine a_aload_n dX6_carryOut_95 rfl ?_
  refine e_getI (t := 2) (k := 1) dX6_carryOut_96 kw_179 ?_
  refine c_aald (i := tn (M 2 2 e 1)) dX6_carryOut_99 hc h16 (if_pos h16) ?_
  refine a_aload_n dX6_carryOut_100 rfl ?_
  refine e_getI (t := 2) (k := 2) dX6_carryOut_101 kw_180 ?_
  refine c_V1V dX6_carryOut_104 kw_202 kv_X1_addSupporter (s_X1_addSupporter h16) ?_
  refine a_goto (tgt := 268) dX6_carryOut_107 (by decide) ?_
  exact L_tail hb b1 b8 hw ⟨rfl, rfl⟩
set_option maxRecDepth 10000 in
theorem s_carry_3 {l : Launch} {w : WW} {M : Mem} {σ : Sg} {e : Nat} (he : rl 2 2 e = true) {qs ps : List Nat} {b : Nat} (hb : M 2 4 0 1 = nI b) (b1 : 1 ≤ b) (b8 : b ≤ 8) (hk : M 2 2 e 0 = 3) (hw : Wk (stepK (M 2 4 0) 3 (M 2 2 e 1) (M 2 2 e 2) (M 2 2 e 3) σ).1 qs ps) (hc : M 2 2 e 1 = nI (tn (M 2 2 e 1))) (h16 : tn (M 2 2 e 1) < 16) : Can l w yX6_carryOut cX6_carryOut 4 (some .int) (rmd 6) [.ref (ad w 0 5 0), .ref (ad w 2 2 e)] (zx w M 0 σ) (RI (stepK (M 2 4 0) 3 (M 2 2 e 1) (M 2 2 e 2) (M 2 2 e 3) σ).2 (zx w M 0 (bld (M 2 4 0 1) 40 (stepK (M 2 4 0) 3 (M 2 2 e 1) (M 2 2 e 2) (M 2 2 e 3) σ).1))) := by
  refine Can.go (ls := [some (.ref (ad w 0 5 0)), some (.ref (ad w 2 2 e)), none, none]) ?_
  obtain ⟨hr1, hr14, hr15⟩ := rl_ch h16
  refine a_iconst (v := 0) dX6_carryOut_0 (by decide) ?_
  refine a_istore_2 dX6_carryOut_1 (by decide) ?_
  refine a_aload_n dX6_carryOut_2 rfl ?_
  refine e_getI (t := 2) (k := 0) dX6_carryOut_3 kw_178 ?_
  rw [hk]
  refine a_tabIn (tgt := 110) (d_ := 104) dX6_carryOut_6 (by decide) (by decide) rfl (by decide) ?_
  refine a_aload_n dX6_carryOut_110 rfl ?_
  refine c_getR (t := 5) (k := 3) dX6_carryOut_111 kw_53 rfl ?_
  refine a_aload_n dX6_carryOut_114 rfl ?_
  refine e_getI (t := 2) (k := 1) dX6_carryOut_115 kw_179 ?_
  refine c_aald (i := tn (M 2 2 e 1)) dX6_carryOut_118 hc h16 (if_pos h16) ?_
  refine a_aload_n dX6_carryOut_119 rfl ?_
  refine e_getI (t := 2) (k := 2) dX6_carryOut_120 kw_180 ?_
  refine c_V1V dX6_carryOut_123 kw_206 kv_X1_addOpponent (s_X1_addOpponent h16) ?_
  refine a_goto (tgt := 268) dX6_carryOut_126 (by decide) ?_
  exact L_tail hb b1 b8 hw ⟨rfl, rfl⟩
set_option maxRecDepth 10000 in
theorem s_carry_4 {l : Launch} {w : WW} {M : Mem} {σ : Sg} {e : Nat} (he : rl 2 2 e = true) {qs ps : List Nat} {b : Nat} (hb : M 2 4 0 1 = nI b) (b1 : 1 ≤ b) (b8 : b ≤ 8) (hk : M 2 2 e 0 = 4) (hw : Wk (stepK (M 2 4 0) 4 (M 2 2 e 1) (M 2 2 e 2) (M 2 2 e 3) σ).1 qs ps) (hc : M 2 2 e 1 = nI (tn (M 2 2 e 1))) (h16 : tn (M 2 2 e 1) < 16) : Can l w yX6_carryOut cX6_carryOut 4 (some .int) (rmd 6) [.ref (ad w 0 5 0), .ref (ad w 2 2 e)] (zx w M 0 σ) (RI (stepK (M 2 4 0) 4 (M 2 2 e 1) (M 2 2 e 2) (M 2 2 e 3) σ).2 (zx w M 0 (bld (M 2 4 0 1) 40 (stepK (M 2 4 0) 4 (M 2 2 e 1) (M 2 2 e 2) (M 2 2 e 3) σ).1))) := by
  refine Can.go (ls := [some (.ref (ad w 0 5 0)), some (.ref (ad w 2 2 e)), none, none]) ?_
  obtain ⟨hr1, hr14, hr15⟩ := rl_ch h16
  refine a_iconst (v := 0) dX6_carryOut_0 (by decide) ?_
  refine a_istore_2 dX6_carryOut_1 (by decide) ?_
  refine a_aload_n dX6_carryOut_2 rfl ?_
  refine e_getI (t := 2) (k := 0) dX6_carryOut_3 kw_178 ?_
  rw [hk]
  refine a_tabIn (tgt := 129) (d_ := 123) dX6_carryOut_6 (by decide) (by decide) rfl (by decide) ?_
  refine a_aload_n dX6_carryOut_129 rfl ?_
  refine c_getR (t := 5) (k := 3) dX6_carryOut_130 kw_53 rfl ?_
  refine a_aload_n dX6_carryOut_133 rfl ?_
  refine e_getI (t := 2) (k := 1) dX6_carryOut_134 kw_179 ?_
  refine c_aald (i := tn (M 2 2 e 1)) dX6_carryOut_137 hc h16 (if_pos h16) ?_
  refine a_iconst (v := 4) dX6_carryOut_138 (by decide) ?_
  refine a_iconst (v := 0) dX6_carryOut_139 (by decide) ?_
  refine c_V2V dX6_carryOut_140 kw_210 kv_X1_become (s_X1_become h16) ?_
  refine a_goto (tgt := 268) dX6_carryOut_143 (by decide) ?_
  exact L_tail hb b1 b8 hw ⟨rfl, rfl⟩
set_option maxRecDepth 10000 in
theorem s_carry_5 {l : Launch} {w : WW} {M : Mem} {σ : Sg} {e : Nat} (he : rl 2 2 e = true) {qs ps : List Nat} {b : Nat} (hb : M 2 4 0 1 = nI b) (b1 : 1 ≤ b) (b8 : b ≤ 8) (hk : M 2 2 e 0 = 5) (hw : Wk (stepK (M 2 4 0) 5 (M 2 2 e 1) (M 2 2 e 2) (M 2 2 e 3) σ).1 qs ps) (hc : M 2 2 e 1 = nI (tn (M 2 2 e 1))) (h16 : tn (M 2 2 e 1) < 16) (hq : Qn σ) (hlt : qn σ < 16) : Can l w yX6_carryOut cX6_carryOut 4 (some .int) (rmd 6) [.ref (ad w 0 5 0), .ref (ad w 2 2 e)] (zx w M 0 σ) (RI (stepK (M 2 4 0) 5 (M 2 2 e 1) (M 2 2 e 2) (M 2 2 e 3) σ).2 (zx w M 0 (bld (M 2 4 0 1) 40 (stepK (M 2 4 0) 5 (M 2 2 e 1) (M 2 2 e 2) (M 2 2 e 3) σ).1))) := by
  refine Can.go (ls := [some (.ref (ad w 0 5 0)), some (.ref (ad w 2 2 e)), none, none]) ?_
  obtain ⟨hr1, hr14, hr15⟩ := rl_ch h16
  refine a_iconst (v := 0) dX6_carryOut_0 (by decide) ?_
  refine a_istore_2 dX6_carryOut_1 (by decide) ?_
  refine a_aload_n dX6_carryOut_2 rfl ?_
  refine e_getI (t := 2) (k := 0) dX6_carryOut_3 kw_178 ?_
  rw [hk]
  refine a_tabIn (tgt := 146) (d_ := 140) dX6_carryOut_6 (by decide) (by decide) rfl (by decide) ?_
  refine a_aload_n dX6_carryOut_146 rfl ?_
  refine c_getR (t := 5) (k := 3) dX6_carryOut_147 kw_53 rfl ?_
  refine a_aload_n dX6_carryOut_150 rfl ?_
  refine e_getI (t := 2) (k := 1) dX6_carryOut_151 kw_179 ?_
  refine c_aald (i := tn (M 2 2 e 1)) dX6_carryOut_154 hc h16 (if_pos h16) ?_
  refine a_iconst (v := 1) dX6_carryOut_155 (by decide) ?_
  refine a_iconst (v := 0) dX6_carryOut_156 (by decide) ?_
  refine c_V2V dX6_carryOut_157 kw_210 kv_X1_become (s_X1_become h16) ?_
  refine a_aload_n dX6_carryOut_160 rfl ?_
  refine c_getR (t := 5) (k := 5) dX6_carryOut_161 kw_57 rfl ?_
  refine a_aload_n dX6_carryOut_164 rfl ?_
  refine e_getI (t := 2) (k := 1) dX6_carryOut_165 kw_179 ?_
  refine c_V1V dX6_carryOut_168 kw_211 kv_X4_append (s_X4_append (c := 0) (n := qn σ) rfl rfl (by unfold become; rw [sg_t (by decide), sg_t (by decide)]; exact hq.1) hlt) ?_
  refine a_goto (tgt := 268) dX6_carryOut_171 (by decide) ?_
  exact L_tail hb b1 b8 hw ⟨rfl, rfl⟩
set_option maxRecDepth 10000 in
theorem s_carry_6 {l : Launch} {w : WW} {M : Mem} {σ : Sg} {e : Nat} (he : rl 2 2 e = true) {qs ps : List Nat} {b : Nat} (hb : M 2 4 0 1 = nI b) (b1 : 1 ≤ b) (b8 : b ≤ 8) (hk : M 2 2 e 0 = 6) (hw : Wk (stepK (M 2 4 0) 6 (M 2 2 e 1) (M 2 2 e 2) (M 2 2 e 3) σ).1 qs ps) (hc : M 2 2 e 1 = nI (tn (M 2 2 e 1))) (h16 : tn (M 2 2 e 1) < 16) : Can l w yX6_carryOut cX6_carryOut 4 (some .int) (rmd 6) [.ref (ad w 0 5 0), .ref (ad w 2 2 e)] (zx w M 0 σ) (RI (stepK (M 2 4 0) 6 (M 2 2 e 1) (M 2 2 e 2) (M 2 2 e 3) σ).2 (zx w M 0 (bld (M 2 4 0 1) 40 (stepK (M 2 4 0) 6 (M 2 2 e 1) (M 2 2 e 2) (M 2 2 e 3) σ).1))) := by
  refine Can.go (ls := [some (.ref (ad w 0 5 0)), some (.ref (ad w 2 2 e)), none, none]) ?_
  obtain ⟨hr1, hr14, hr15⟩ := rl_ch h16
  refine a_iconst (v := 0) dX6_carryOut_0 (by decide) ?_
  refine a_istore_2 dX6_carryOut_1 (by decide) ?_
  refine a_aload_n dX6_carryOut_2 rfl ?_
  refine e_getI (t := 2) (k := 0) dX6_carryOut_3 kw_178 ?_
  rw [hk]
  refine a_tabIn (tgt := 174) (d_ := 168) dX6_carryOut_6 (by decide) (by decide) rfl (by decide) ?_
  refine a_aload_n dX6_carryOut_174 rfl ?_
  refine c_getR (t := 5) (k := 3) dX6_carryOut_175 kw_53 rfl ?_
  refine a_aload_n dX6_carryOut_178 rfl ?_
  refine e_getI (t := 2) (k := 1) dX6_carryOut_179 kw_179 ?_
  refine c_aald (i := tn (M 2 2 e 1)) dX6_carryOut_182 hc h16 (if_pos h16) ?_
  refine a_aload_n dX6_carryOut_183 rfl ?_
  refine c_getR (t := 5) (k := 1) dX6_carryOut_184 kw_51 rfl ?_
  refine c_V1V dX6_carryOut_187 kw_219 kv_X1_moveOnto (s_X1_moveOnto h16) ?_
  refine a_goto (tgt := 268) dX6_carryOut_190 (by decide) ?_
  exact L_tail hb b1 b8 hw ⟨rfl, rfl⟩
set_option maxRecDepth 10000 in
theorem s_carry_7 {l : Launch} {w : WW} {M : Mem} {σ : Sg} {e : Nat} (he : rl 2 2 e = true) {qs ps : List Nat} {b : Nat} (hb : M 2 4 0 1 = nI b) (b1 : 1 ≤ b) (b8 : b ≤ 8) (hk : M 2 2 e 0 = 7) (hw : Wk (stepK (M 2 4 0) 7 (M 2 2 e 1) (M 2 2 e 2) (M 2 2 e 3) σ).1 qs ps) (hv : M 2 2 e 1 = nI (tn (M 2 2 e 1))) (hv4 : tn (M 2 2 e 1) < 4) : Can l w yX6_carryOut cX6_carryOut 4 (some .int) (rmd 6) [.ref (ad w 0 5 0), .ref (ad w 2 2 e)] (zx w M 0 σ) (RI (stepK (M 2 4 0) 7 (M 2 2 e 1) (M 2 2 e 2) (M 2 2 e 3) σ).2 (zx w M 0 (bld (M 2 4 0 1) 40 (stepK (M 2 4 0) 7 (M 2 2 e 1) (M 2 2 e 2) (M 2 2 e 3) σ).1))) := by
  refine Can.go (ls := [some (.ref (ad w 0 5 0)), some (.ref (ad w 2 2 e)), none, none]) ?_
  refine a_iconst (v := 0) dX6_carryOut_0 (by decide) ?_
  refine a_istore_2 dX6_carryOut_1 (by decide) ?_
  refine a_aload_n dX6_carryOut_2 rfl ?_
  refine e_getI (t := 2) (k := 0) dX6_carryOut_3 kw_178 ?_
  rw [hk]
  refine a_tabIn (tgt := 193) (d_ := 187) dX6_carryOut_6 (by decide) (by decide) rfl (by decide) ?_
  refine a_aload_n dX6_carryOut_193 rfl ?_
  refine a_aload_n dX6_carryOut_194 rfl ?_
  refine e_getI (t := 2) (k := 1) dX6_carryOut_195 kw_179 ?_
  rw [hv]
  refine c_V1I dX6_carryOut_198 kw_223 kv_X6_leaseNextJob (s_X6_leaseNextJob hv4) ?_
  refine a_istore_2 dX6_carryOut_201 (by decide) ?_
  refine a_goto (tgt := 268) dX6_carryOut_202 (by decide) ?_
  rw [← hv]
  exact L_tail hb b1 b8 hw ⟨rfl, rfl⟩
set_option maxRecDepth 10000 in
theorem s_carry_8 {l : Launch} {w : WW} {M : Mem} {σ : Sg} {e : Nat} (he : rl 2 2 e = true) {qs ps : List Nat} {b : Nat} (hb : M 2 4 0 1 = nI b) (b1 : 1 ≤ b) (b8 : b ≤ 8) (hk : M 2 2 e 0 = 8) (hw : Wk (stepK (M 2 4 0) 8 (M 2 2 e 1) (M 2 2 e 2) (M 2 2 e 3) σ).1 qs ps) (hJ : Jok σ) (hl : leasedJ σ (M 2 2 e 1) = nI (tn (leasedJ σ (M 2 2 e 1)))) (hj4 : tn (leasedJ σ (M 2 2 e 1)) < 4) : Can l w yX6_carryOut cX6_carryOut 4 (some .int) (rmd 6) [.ref (ad w 0 5 0), .ref (ad w 2 2 e)] (zx w M 0 σ) (RI (stepK (M 2 4 0) 8 (M 2 2 e 1) (M 2 2 e 2) (M 2 2 e 3) σ).2 (zx w M 0 (bld (M 2 4 0 1) 40 (stepK (M 2 4 0) 8 (M 2 2 e 1) (M 2 2 e 2) (M 2 2 e 3) σ).1))) := by
  refine Can.go (ls := [some (.ref (ad w 0 5 0)), some (.ref (ad w 2 2 e)), none, none]) ?_
  refine a_iconst (v := 0) dX6_carryOut_0 (by decide) ?_
  refine a_istore_2 dX6_carryOut_1 (by decide) ?_
  refine a_aload_n dX6_carryOut_2 rfl ?_
  refine e_getI (t := 2) (k := 0) dX6_carryOut_3 kw_178 ?_
  rw [hk]
  refine a_tabIn (tgt := 205) (d_ := 199) dX6_carryOut_6 (by decide) (by decide) rfl (by decide) ?_
  refine a_aload_n dX6_carryOut_205 rfl ?_
  refine a_aload_n dX6_carryOut_206 rfl ?_
  refine c_getR (t := 5) (k := 7) dX6_carryOut_207 kw_62 rfl ?_
  refine a_aload_n dX6_carryOut_210 rfl ?_
  refine e_getI (t := 2) (k := 1) dX6_carryOut_211 kw_179 ?_
  refine c_V1I dX6_carryOut_214 kw_248 kv_X0_leasedJob s_X0_leasedJob ?_
  rw [show leasedJ σ (M 2 2 e 1) = nI (tn (leasedJ σ (M 2 2 e 1))) from hl]
  refine a_aload_n dX6_carryOut_217 rfl ?_
  refine e_getI (t := 2) (k := 2) dX6_carryOut_218 kw_180 ?_
  refine c_V2V dX6_carryOut_221 kw_254 kv_X6_endJob (s_X6_endJob hJ hj4) ?_
  refine a_goto (tgt := 268) dX6_carryOut_224 (by decide) ?_
  exact L_tail hb b1 b8 hw ⟨rfl, rfl⟩
set_option maxRecDepth 10000 in
theorem L_tick {l : Launch} {w : WW} {Φ : Option Value → XX → Prop} {M : Mem} {b k e : Nat} (he : rl 2 2 e = true) (hb : M 2 4 0 1 = nI b) (b1 : 1 ≤ b) (b8 : b ≤ 8) (hk : k ≤ 20) (ha : M 2 2 e 1 = nI k) : ∀ (n : Nat) {i : Nat} {τ : Sg} {x : Int32} {qs ps : List Nat}, i + n = k → Wk τ qs ps → A l w yX6_carryOut cX6_carryOut 4 (some .int) (rmd 6) Φ 265 [some (.ref (ad w 0 5 0)), some (.ref (ad w 2 2 e)), some (.int (tickN (M 2 4 0) n τ x).2), some (.int (nI k))] [] (zx w M 0 (tickN (M 2 4 0) n τ x).1) 0 0 → A l w yX6_carryOut cX6_carryOut 4 (some .int) (rmd 6) Φ 229 [some (.ref (ad w 0 5 0)), some (.ref (ad w 2 2 e)), some (.int x), some (.int (nI i))] [] (zx w M 0 τ) 0 0 := by
  intro n
  induction n with
  | zero =>
    intro i τ x qs ps hi h kk
    refine a_iload_n dX6_carryOut_229 rfl ?_
    refine a_aload_n dX6_carryOut_230 rfl ?_
    refine e_getI (t := 2) (k := 1) dX6_carryOut_231 kw_179 ?_
    refine a_icmp_ge (tgt := 265) dX6_carryOut_234 (by decide) (fun c_234 => ?_) (fun c_234 => absurd (by rw [ha]; exact nI_le (by omega) (by omega)) c_234)
    obtain rfl : i = k := by omega
    exact kk
  | succ n ih =>
    intro i τ x qs ps hi h kk
    have h1 := sgt_Wk (v := τ 5 0 8 + 1) h
    obtain ⟨q, p, g1⟩ := expI_Wk 0 (M 2 4 0 2) 4 0 _ 0 qs ps rfl h1
    refine a_iload_n dX6_carryOut_229 rfl ?_
    refine a_aload_n dX6_carryOut_230 rfl ?_
    refine e_getI (t := 2) (k := 1) dX6_carryOut_231 kw_179 ?_
    refine a_icmp_ge (tgt := 265) dX6_carryOut_234 (by decide) (fun c_234 => absurd c_234 (by rw [ha]; exact nI_ge (by omega) (by omega))) (fun c_234 => ?_)
    refine a_aload_n dX6_carryOut_237 rfl ?_
    refine a_dup dX6_carryOut_238 rfl ?_
    refine c_getI (t := 5) (k := 8) dX6_carryOut_239 kw_149 ?_
    refine a_iconst (v := 1) dX6_carryOut_242 (by decide) ?_
    refine a_iadd dX6_carryOut_243 ?_
    refine c_putI (t := 5) (k := 8) dX6_carryOut_244 kw_149 ?_
    refine a_iload_n dX6_carryOut_247 rfl ?_
    refine a_aload_n dX6_carryOut_248 rfl ?_
    refine a_iconst (v := 0) dX6_carryOut_249 (by decide) ?_
    refine c_V1I dX6_carryOut_250 kw_321 kv_X6_expireLeases (s_X6_expireLeases (Wk_L h1)) ?_
    refine a_iadd dX6_carryOut_253 ?_
    refine a_istore_2 dX6_carryOut_254 (by decide) ?_
    refine a_aload_n dX6_carryOut_255 rfl ?_
    refine c_V0V dX6_carryOut_256 kw_332 kv_X6_buildBatches (s_X6_buildBatches hb b1 b8 g1) ?_
    refine a_iinc_3 (u := nI (i + 1)) dX6_carryOut_259 (inc_nI i) (by decide) ?_
    refine a_goto (tgt := 229) dX6_carryOut_262 (by decide) ?_
    obtain ⟨q2, p2, g2⟩ := bld_Wk hb b1 b8 40 _ q p g1
    exact ih (by omega) g2 kk
set_option maxRecDepth 10000 in
theorem s_carry_9 {l : Launch} {w : WW} {M : Mem} {σ : Sg} {e : Nat} (he : rl 2 2 e = true) {qs ps : List Nat} {b : Nat} (hb : M 2 4 0 1 = nI b) (b1 : 1 ≤ b) (b8 : b ≤ 8) (hk : M 2 2 e 0 = 9) (hw : Wk (stepK (M 2 4 0) 9 (M 2 2 e 1) (M 2 2 e 2) (M 2 2 e 3) σ).1 qs ps) {qs0 ps0 : List Nat} (h0 : Wk σ qs0 ps0) (ha : M 2 2 e 1 = nI (tn (M 2 2 e 1))) (h20 : tn (M 2 2 e 1) ≤ 20) : Can l w yX6_carryOut cX6_carryOut 4 (some .int) (rmd 6) [.ref (ad w 0 5 0), .ref (ad w 2 2 e)] (zx w M 0 σ) (RI (stepK (M 2 4 0) 9 (M 2 2 e 1) (M 2 2 e 2) (M 2 2 e 3) σ).2 (zx w M 0 (bld (M 2 4 0 1) 40 (stepK (M 2 4 0) 9 (M 2 2 e 1) (M 2 2 e 2) (M 2 2 e 3) σ).1))) := by
  refine Can.go (ls := [some (.ref (ad w 0 5 0)), some (.ref (ad w 2 2 e)), none, none]) ?_
  refine a_iconst (v := 0) dX6_carryOut_0 (by decide) ?_
  refine a_istore_2 dX6_carryOut_1 (by decide) ?_
  refine a_aload_n dX6_carryOut_2 rfl ?_
  refine e_getI (t := 2) (k := 0) dX6_carryOut_3 kw_178 ?_
  rw [hk]
  refine a_tabIn (tgt := 227) (d_ := 221) dX6_carryOut_6 (by decide) (by decide) rfl (by decide) ?_
  refine a_iconst (v := 0) dX6_carryOut_227 (by decide) ?_
  refine a_istore_3 dX6_carryOut_228 (by decide) ?_
  refine L_tick he hb b1 b8 h20 ha (tn (M 2 2 e 1)) (i := 0) (by omega) h0 ?_
  refine a_goto (tgt := 268) dX6_carryOut_265 (by decide) ?_
  exact L_tail hb b1 b8 hw ⟨rfl, rfl⟩
end
section
/-! the reference's memory: ρ 7 0 its numbers, ρ 18 .. ρ 35 its arrays -/
theorem nI_mul (a b : Nat) : nI a * nI b = nI (a * b) := by
  show Int32.ofNat a * Int32.ofNat b = Int32.ofNat (a * b)
  rw [Int32.ofNat_mul]
theorem nI_6 (c j : Nat) : 6 * nI c + nI j = nI (6 * c + j) := by
  rw [show (6 : Int32) = nI 6 from rfl, nI_mul, nI_add]
theorem nI_8 (c j : Nat) : 8 * nI c + nI j = nI (8 * c + j) := by
  rw [show (8 : Int32) = nI 8 from rfl, nI_mul, nI_add]
theorem st_mix {ρ : Sg} {t c n : Nat} {g f : Nat → Int32} {v : Int32} (h : g n = v) : sg (sga ρ t c (mixN n g f)) t c n v = sga ρ t c (mixN (n + 1) g f) := by
  rw [sg_sga, ← h, mixN_up]
theorem mix_st (ρ : Sg) (t c : Nat) (g : Nat → Int32) : sga ρ t c (mixN 0 g (ρ t c)) = ρ := by rw [mixN_0, sga_eta]
theorem and1 (x : Int32) : x &&& 1 = 0 ∨ x &&& 1 = 1 := by
  have h : x.toBitVec &&& 1#32 = 0#32 ∨ x.toBitVec &&& 1#32 = 1#32 := by
    have h1 : (x.toBitVec &&& 1#32).toNat = x.toBitVec.toNat % 2 := by
      rw [BitVec.toNat_and]
      exact Nat.and_one_is_mod _
    rcases Nat.mod_two_eq_zero_or_one x.toBitVec.toNat with e | e
    · exact Or.inl (BitVec.eq_of_toNat_eq (by rw [h1, e]; rfl))
    · exact Or.inr (BitVec.eq_of_toNat_eq (by rw [h1, e]; rfl))
  rcases h with h | h
  · exact Or.inl (Int32.toBitVec_inj.mp (by rw [Int32.toBitVec_and]; exact h))
  · exact Or.inr (Int32.toBitVec_inj.mp (by rw [Int32.toBitVec_and]; exact h))
theorem tb_1 {p k : Int32} (h : (p >>> (k &&& 31)) &&& 1 = 1) : tb p k = true := by
  unfold tb
  rw [h]
  decide
theorem tb_0 {p k : Int32} (h : ¬ (p >>> (k &&& 31)) &&& 1 = 1) : tb p k = false := by
  unfold tb
  rcases and1 (p >>> (k &&& 31)) with e | e
  · rw [e]; decide
  · exact absurd e h
def ned (p j k : Int32) : Bool := tb p j && tb p (8 + 4 * j + k)
theorem vp_bi (b : Bool) : vp_nar .boolean (bi b) = bi b := by cases b <;> rfl
def wth (v lo hi : Int32) : Int32 := if v < lo then lo else if hi < v then hi else v
def tr0 : Nat → Int32 := fun p => if p = 0 then 17 else 0
def m1 : Nat → Int32 := fun _ => -1
def beginR (ρ : Sg) : Sg := sga (sg (sg (sg (sg (sg (sg (sga ρ 22 0 tr0) 7 0 11 0) 7 0 12 0) 7 0 13 0) 7 0 20 0) 7 0 22 0) 7 0 23 0) 32 0 m1
def bs (ρ : Sg) (c : Nat) : Nat → Int32 := fun p => ρ 23 0 (6 * c + p)
def ow (ρ : Sg) (c : Nat) : Nat → Int32 := fun p => ρ 24 0 (6 * c + p)
def cfR (ρ : Sg) (c : Nat) : Bool := anyU (cfl (bs ρ c) (ow ρ c) (ρ 34 0)) 6 0
def mgR (ρ : Sg) (c : Nat) : Sg := sga ρ 34 0 (mrg (bs ρ c) (ow ρ c) (ρ 34 0))
def lm (L : Nat → Bool) : Nat → Int32 := fun q => bi (L q)
def ld0 (p : Int32) : Nat → Bool := fun q => ned p (nI (q / 4)) (nI (q % 4))
def wst (m q : Nat) (L : Nat → Bool) : Nat → Bool := fun i => if i = q then (L q || (L (4 * (q / 4) + m) && L (4 * m + q % 4))) else L i
def wsI (m : Nat) : Nat → Nat → (Nat → Bool) → (Nat → Bool)
  | 0, _, L => L
  | n + 1, q, L => wsI m n (q + 1) (wst m q L)
def wsO : Nat → Nat → (Nat → Bool) → (Nat → Bool)
  | 0, _, L => L
  | n + 1, m, L => wsO n (m + 1) (wsI m 16 0 L)
def clo (p : Int32) : Nat → Bool := wsO 4 0 (ld0 p)
def vk (p : Int32) (j : Nat) : Nat → Nat → Bool → Bool
  | 0, _, g => g
  | n + 1, k, g => vk p j n (k + 1) (g && (!ned p (nI j) (nI k) || tb p (nI k)))
def vj (p : Int32) : Nat → Nat → Bool → Bool → Bool
  | 0, _, s, g => s && g
  | n + 1, j, s, g => vj p n (j + 1) (s || rq p (nI j)) (vk p j 4 0 (g && !clo p (5 * j)))
def valR (p : Int32) : Bool := vj p 4 0 false true
def lvQ (ρ : Sg) (j n : Nat) : Sg := sg (sga ρ 28 0 (rmv (ρ 28 0) j n)) 7 0 20 (nI (n - 1))
def rejR (ρ : Sg) (c : Nat) (cause : Int32) : Sg := sg (sg ρ 25 0 c 3) 26 0 c cause
def drP (ρ : Sg) (n : Nat) : Sg := sg (sga ρ 29 0 (rmv (ρ 29 0) 0 n)) 7 0 22 (nI (n - 1))
def elO (f : Nat → Int32) (j : Int32) : Nat → Int32 := fun v => if f v = j then -1 else f v
def clr (f : Nat → Int32) (c n : Nat) : Nat → Int32 := fun i => if 8 * c ≤ i ∧ i < 8 * c + n then 0 else f i
def cntR (f : Nat → Int32) (c : Nat) (how : Int32) : Nat → Nat → Int32 → Int32
  | 0, _, x => x
  | n + 1, r, x => cntR f c how n (r + 1) (if f (8 * c + r) = how then x + 1 else x)
def ntR (ρ : Sg) (n : Nat) (k a b c : Int32) : Sg := sg (sg (sg (sg (sg ρ 18 0 n k) 19 0 n a) 20 0 n b) 21 0 n c) 7 0 8 (nI (n + 1))
theorem clr_0 (f : Nat → Int32) (c : Nat) : clr f c 0 = f := by
  funext i
  unfold clr
  rw [if_neg (by omega)]
theorem clr_S (f : Nat → Int32) (c n : Nat) : up1 (clr f c n) (8 * c + n) 0 = clr f c (n + 1) := by
  funext i
  unfold clr up1
  by_cases h : i = 8 * c + n
  · rw [if_pos h, if_pos (by omega)]
  · rw [if_neg h]
    show (if 8 * c ≤ i ∧ i < 8 * c + n then 0 else f i) = _
    by_cases h2 : 8 * c ≤ i ∧ i < 8 * c + n
    · rw [if_pos h2, if_pos (by omega)]
    · rw [if_neg h2, if_neg (by omega)]
theorem wst_st {ρ : Sg} {m q : Nat} {L : Nat → Bool} {v : Int32} (h : v = bi (L q || (L (4 * (q / 4) + m) && L (4 * m + q % 4)))) : sg (sga ρ 35 0 (lm L)) 35 0 q v = sga ρ 35 0 (lm (wst m q L)) := by
  rw [sg_sga]
  congr 1
  funext i
  unfold up1 lm wst
  by_cases hi : i = q
  · rw [if_pos hi, if_pos hi, h]
  · rw [if_neg hi, if_neg hi]
theorem nI_d4 : ∀ q, q < 16 → nI q / 4 = nI (q / 4) := by decide +kernel
theorem nI_r4 : ∀ q, q < 16 → nI q - nI q / 4 * 4 = nI (q % 4) := by decide +kernel
theorem nI_w1 : ∀ q, q < 16 → ∀ m, m < 4 → 4 * (nI q / 4) + nI m = nI (4 * (q / 4) + m) := by decide +kernel
theorem nI_w2 : ∀ q, q < 16 → ∀ m, m < 4 → 4 * nI m + (nI q - nI q / 4 * 4) = nI (4 * m + q % 4) := by decide +kernel
set_option maxRecDepth 10000 in
theorem s_X8_within {l : Launch} {w : WW} {x : XX} {v lo hi : Int32} : Can l w yX8_within cX8_within 3 (some .int) (rmd 1) [.int v, .int lo, .int hi] (x) (RI (wth v lo hi) x) := by
  refine Can.go (ls := [some (.int v), some (.int lo), some (.int hi)]) ?_
  refine a_iload_n dX8_within_0 rfl ?_
  refine a_iload_n dX8_within_1 rfl ?_
  refine a_icmp_ge (tgt := 9) dX8_within_2 (by decide) (fun c_2 => ?_) (fun c_2 => ?_)
  · refine a_iload_n dX8_within_9 rfl ?_
    refine a_iload_n dX8_within_10 rfl ?_
    refine a_icmp_le (tgt := 18) dX8_within_11 (by decide) (fun c_11 => ?_) (fun c_11 => ?_)
    · refine a_iload_n dX8_within_18 rfl ?_
      exact c_iret dX8_within_19 ⟨by unfold wth; first | rw [if_pos (Int32.not_le.mp c_2), if_pos (Int32.not_le.mp c_11)] | rw [if_pos (Int32.not_le.mp c_2)] | rw [if_neg (Int32.not_lt.mpr c_2), if_neg (Int32.not_lt.mpr c_11)] | rw [if_neg (Int32.not_lt.mpr c_2), if_pos (Int32.not_le.mp c_11)], rfl⟩
    · refine a_iload_n dX8_within_14 rfl ?_
      refine a_goto (tgt := 19) dX8_within_15 (by decide) ?_
      exact c_iret dX8_within_19 ⟨by unfold wth; first | rw [if_pos (Int32.not_le.mp c_2), if_pos (Int32.not_le.mp c_11)] | rw [if_pos (Int32.not_le.mp c_2)] | rw [if_neg (Int32.not_lt.mpr c_2), if_neg (Int32.not_lt.mpr c_11)] | rw [if_neg (Int32.not_lt.mpr c_2), if_pos (Int32.not_le.mp c_11)], rfl⟩
  · refine a_iload_n dX8_within_5 rfl ?_
    refine a_goto (tgt := 19) dX8_within_6 (by decide) ?_
    exact c_iret dX8_within_19 ⟨by unfold wth; first | rw [if_pos (Int32.not_le.mp c_2), if_pos (Int32.not_le.mp c_11)] | rw [if_pos (Int32.not_le.mp c_2)] | rw [if_neg (Int32.not_lt.mpr c_2), if_neg (Int32.not_lt.mpr c_11)] | rw [if_neg (Int32.not_lt.mpr c_2), if_pos (Int32.not_le.mp c_11)], rfl⟩
set_option maxRecDepth 10000 in
theorem L_X8_begin1 {l : Launch} {w : WW} {Φ : Option Value → XX → Prop} {M : Mem} {ρ : Sg}  : ∀ (n : Nat) {j : Nat}, j + n = 6 → A l w yX8_begin cX8_begin 2 none (rmd 1) Φ 30 [some (.ref (ad w 2 7 0)), some (.int (nI 6))] [] (zx w M 2 (sga ρ 22 0 (mixN 6 tr0 (ρ 22 0)))) 0 0 → A l w yX8_begin cX8_begin 2 none (rmd 1) Φ 2 [some (.ref (ad w 2 7 0)), some (.int (nI j))] [] (zx w M 2 (sga ρ 22 0 (mixN j tr0 (ρ 22 0)))) 0 0 := by
  intro n
  induction n with
  | zero =>
    intro j hj kk
    refine a_iload_n dX8_begin_2 rfl ?_
    refine a_bipush (v := 6) dX8_begin_3 (by decide) ?_
    refine a_icmp_ge (tgt := 30) dX8_begin_5 (by decide) (fun c_5 => ?_) (fun c_5 => absurd (by have e6 : j = 6 := (by omega); subst e6; decide) c_5)
    obtain rfl : j = 6 := by omega
    exact kk
  | succ n ih =>
    intro j hj kk
    refine a_iload_n dX8_begin_2 rfl ?_
    refine a_bipush (v := 6) dX8_begin_3 (by decide) ?_
    refine a_icmp_ge (tgt := 30) dX8_begin_5 (by decide) (fun c_5 => absurd c_5 (nI_ge (b := 6) (by omega) (by omega))) (fun c_5 => ?_)
    refine a_aload_n dX8_begin_8 rfl ?_
    refine c_getR (t := 7) (k := 10) dX8_begin_9 kw_94 rfl ?_
    refine a_iload_n dX8_begin_12 rfl ?_
    refine a_iload_n dX8_begin_13 rfl ?_
    refine a_if_ne (tgt := 22) dX8_begin_14 (by decide) (fun c_14 => ?_) (fun c_14 => ?_)
    · refine a_iconst (v := 0) dX8_begin_22 (by decide) ?_
      refine c_iast (i := j) dX8_begin_23 rfl (show j < 6 by omega) ?_
      refine a_iinc_1 (u := nI (j + 1)) dX8_begin_24 (inc_nI j) (by decide) ?_
      refine a_goto (tgt := 2) dX8_begin_27 (by decide) ?_
      have h0 : tr0 j = if nI j = 0 then 17 else 0 := by
        unfold tr0
        by_cases e : j = 0
        · subst e; rfl
        · rw [if_neg e, if_neg (show ¬ nI j = 0 from fun q => e (nI_inj (b := 0) q (by omega) (by omega)))]
      first
        | (rw [if_pos c_14] at h0; rw [st_mix h0]; exact ih (by omega) kk)
        | (rw [if_neg c_14] at h0; rw [st_mix h0]; exact ih (by omega) kk)
    · refine a_bipush (v := 17) dX8_begin_17 (by decide) ?_
      refine a_goto (tgt := 23) dX8_begin_19 (by decide) ?_
      refine c_iast (i := j) dX8_begin_23 rfl (show j < 6 by omega) ?_
      refine a_iinc_1 (u := nI (j + 1)) dX8_begin_24 (inc_nI j) (by decide) ?_
      refine a_goto (tgt := 2) dX8_begin_27 (by decide) ?_
      have h0 : tr0 j = if nI j = 0 then 17 else 0 := by
        unfold tr0
        by_cases e : j = 0
        · subst e; rfl
        · rw [if_neg e, if_neg (show ¬ nI j = 0 from fun q => e (nI_inj (b := 0) q (by omega) (by omega)))]
      first
        | (rw [if_pos c_14] at h0; rw [st_mix h0]; exact ih (by omega) kk)
        | (rw [if_neg c_14] at h0; rw [st_mix h0]; exact ih (by omega) kk)
set_option maxRecDepth 10000 in
theorem L_X8_begin2 {l : Launch} {w : WW} {Φ : Option Value → XX → Prop} {M : Mem} {ρ : Sg}  : ∀ (n : Nat) {j : Nat}, j + n = 4 → A l w yX8_begin cX8_begin 2 none (rmd 1) Φ 80 [some (.ref (ad w 2 7 0)), some (.int (nI 4))] [] (zx w M 2 (sga ρ 32 0 (mixN 4 m1 (ρ 32 0)))) 0 0 → A l w yX8_begin cX8_begin 2 none (rmd 1) Φ 62 [some (.ref (ad w 2 7 0)), some (.int (nI j))] [] (zx w M 2 (sga ρ 32 0 (mixN j m1 (ρ 32 0)))) 0 0 := by
  intro n
  induction n with
  | zero =>
    intro j hj kk
    refine a_iload_n dX8_begin_62 rfl ?_
    refine a_iconst (v := 4) dX8_begin_63 (by decide) ?_
    refine a_icmp_ge (tgt := 80) dX8_begin_64 (by decide) (fun c_64 => ?_) (fun c_64 => absurd (by have e6 : j = 4 := (by omega); subst e6; decide) c_64)
    obtain rfl : j = 4 := by omega
    exact kk
  | succ n ih =>
    intro j hj kk
    refine a_iload_n dX8_begin_62 rfl ?_
    refine a_iconst (v := 4) dX8_begin_63 (by decide) ?_
    refine a_icmp_ge (tgt := 80) dX8_begin_64 (by decide) (fun c_64 => absurd c_64 (nI_ge (b := 4) (by omega) (by omega))) (fun c_64 => ?_)
    refine a_aload_n dX8_begin_67 rfl ?_
    refine c_getR (t := 7) (k := 26) dX8_begin_68 kw_104 rfl ?_
    refine a_iload_n dX8_begin_71 rfl ?_
    refine a_iconst (v := (-1)) dX8_begin_72 (by decide) ?_
    refine c_iast (i := j) dX8_begin_73 rfl (show j < 4 by omega) ?_
    refine a_iinc_1 (u := nI (j + 1)) dX8_begin_74 (inc_nI j) (by decide) ?_
    refine a_goto (tgt := 62) dX8_begin_77 (by decide) ?_
    rw [st_mix (g := m1) (v := -1) rfl]
    exact ih (by omega) kk
set_option maxRecDepth 10000 in
theorem s_X8_begin {l : Launch} {w : WW} {M : Mem} {ρ : Sg}  : Can l w yX8_begin cX8_begin 2 none (rmd 1) [.ref (ad w 2 7 0)] (zx w M 2 ρ) (RV (zx w M 2 (beginR ρ))) := by
  refine Can.go (ls := [some (.ref (ad w 2 7 0)), none]) ?_
  refine a_iconst (v := 0) dX8_begin_0 (by decide) ?_
  refine a_istore_1 dX8_begin_1 (by decide) ?_
  refine a_eq (x' := zx w M 2 (sga ρ 22 0 (mixN 0 tr0 (ρ 22 0)))) (by rw [mix_st]) ?_
  refine L_X8_begin1 6 rfl ?_
  refine c_junk (M' := M) (σ' := sga ρ 22 0 tr0) (junkA (by decide) (fun k hk => (if_pos hk).symm)) ?_
  refine a_aload_n dX8_begin_30 rfl ?_
  refine a_iconst (v := 0) dX8_begin_31 (by decide) ?_
  refine c_putI (t := 7) (k := 11) dX8_begin_32 kw_120 ?_
  refine a_aload_n dX8_begin_35 rfl ?_
  refine a_iconst (v := 0) dX8_begin_36 (by decide) ?_
  refine c_putI (t := 7) (k := 12) dX8_begin_37 kw_121 ?_
  refine a_aload_n dX8_begin_40 rfl ?_
  refine a_iconst (v := 0) dX8_begin_41 (by decide) ?_
  refine c_putI (t := 7) (k := 13) dX8_begin_42 kw_122 ?_
  refine a_aload_n dX8_begin_45 rfl ?_
  refine a_iconst (v := 0) dX8_begin_46 (by decide) ?_
  refine c_putI (t := 7) (k := 20) dX8_begin_47 kw_123 ?_
  refine a_aload_n dX8_begin_50 rfl ?_
  refine a_iconst (v := 0) dX8_begin_51 (by decide) ?_
  refine c_putI (t := 7) (k := 22) dX8_begin_52 kw_124 ?_
  refine a_aload_n dX8_begin_55 rfl ?_
  refine a_iconst (v := 0) dX8_begin_56 (by decide) ?_
  refine c_putI (t := 7) (k := 23) dX8_begin_57 kw_125 ?_
  refine a_iconst (v := 0) dX8_begin_60 (by decide) ?_
  refine a_istore_1 dX8_begin_61 (by decide) ?_
  refine a_eq (x' := zx w M 2 (sga _ 32 0 (mixN 0 m1 _))) (by rw [mix_st]) ?_
  refine L_X8_begin2 4 rfl ?_
  refine c_junk (M' := M) (σ' := beginR ρ) (junkA (t := 32) (c := 0) (g := m1) (by decide) (fun k hk => (if_pos hk).symm)) ?_
  exact c_vret dX8_begin_80 ⟨rfl, rfl⟩
set_option maxRecDepth 10000 in
theorem L_X8_cf1 {l : Launch} {w : WW} {Φ : Option Value → XX → Prop} {M : Mem} {ρ : Sg} {c : Nat} (hc : c < 16) : ∀ (n : Nat) {j : Nat} {v3 v4 : Option Value}, j + n = 6 → (anyU (cfl (bs ρ c) (ow ρ c) (ρ 34 0)) n j = true → Φ (some (.int 1)) (zx w M 2 ρ)) → (anyU (cfl (bs ρ c) (ow ρ c) (ρ 34 0)) n j = false → ∀ u3 u4, A l w yX8_conflicts cX8_conflicts 5 (some .boolean) (rmd 1) Φ 68 [some (.ref (ad w 2 7 0)), some (.int (nI c)), some (.int (nI 6)), u3, u4] [] (zx w M 2 ρ) 0 0) → A l w yX8_conflicts cX8_conflicts 5 (some .boolean) (rmd 1) Φ 2 [some (.ref (ad w 2 7 0)), some (.int (nI c)), some (.int (nI j)), v3, v4] [] (zx w M 2 ρ) 0 0 := by
  intro n
  induction n with
  | zero =>
    intro j v3 v4 hj k1 k2
    refine a_iload_n dX8_conflicts_2 rfl ?_
    refine a_bipush (v := 6) dX8_conflicts_3 (by decide) ?_
    refine a_icmp_ge (tgt := 68) dX8_conflicts_5 (by decide) (fun c_5 => ?_) (fun c_5 => absurd (by have e6 : j = 6 := (by omega); subst e6; decide) c_5)
    obtain rfl : j = 6 := by omega
    exact k2 rfl _ _
  | succ n ih =>
    intro j v3 v4 hj k1 k2
    refine a_iload_n dX8_conflicts_2 rfl ?_
    refine a_bipush (v := 6) dX8_conflicts_3 (by decide) ?_
    refine a_icmp_ge (tgt := 68) dX8_conflicts_5 (by decide) (fun c_5 => absurd c_5 (nI_ge (b := 6) (by omega) (by omega))) (fun c_5 => ?_)
    refine a_aload_n dX8_conflicts_8 rfl ?_
    refine c_getR (t := 7) (k := 14) dX8_conflicts_9 kw_95 rfl ?_
    refine a_bipush (v := 6) dX8_conflicts_12 (by decide) ?_
    refine a_iload_n dX8_conflicts_14 rfl ?_
    refine a_imul dX8_conflicts_15 ?_
    refine a_iload_n dX8_conflicts_16 rfl ?_
    refine a_iadd dX8_conflicts_17 ?_
    refine c_iald (i := 6 * c + j) dX8_conflicts_18 (nI_6 c j) (show 6 * c + j < 96 by omega) ?_
    refine a_istore_3 dX8_conflicts_19 (by decide) ?_
    refine a_aload_n dX8_conflicts_20 rfl ?_
    refine c_getR (t := 7) (k := 15) dX8_conflicts_21 kw_96 rfl ?_
    refine a_bipush (v := 6) dX8_conflicts_24 (by decide) ?_
    refine a_iload_n dX8_conflicts_26 rfl ?_
    refine a_imul dX8_conflicts_27 ?_
    refine a_iload_n dX8_conflicts_28 rfl ?_
    refine a_iadd dX8_conflicts_29 ?_
    refine c_iald (i := 6 * c + j) dX8_conflicts_30 (nI_6 c j) (show 6 * c + j < 96 by omega) ?_
    refine a_istore_4 dX8_conflicts_31 (by decide) ?_
    refine a_iload_n dX8_conflicts_33 rfl ?_
    refine a_iload dX8_conflicts_34 rfl ?_
    refine a_icmp_eq (tgt := 62) dX8_conflicts_36 (by decide) (fun c_36 => ?_) (fun c_36 => ?_)
    · refine a_iinc_2 (u := nI (j + 1)) dX8_conflicts_62 (inc_nI j) (by decide) ?_
      refine a_goto (tgt := 2) dX8_conflicts_65 (by decide) ?_
      have h9 : (cfl (bs ρ c) (ow ρ c) (ρ 34 0)) j = false := by
        show (!decide (ρ 24 0 (6 * c + j) = ρ 23 0 (6 * c + j)) && (!decide (ρ 34 0 j = ρ 23 0 (6 * c + j)) && !decide (ρ 34 0 j = ρ 24 0 (6 * c + j)))) = false
        first
          | (simp [c_36]; done)
          | (simp [c_46]; done)
          | (simp [c_57]; done)
      rw [anyU, h9, Bool.false_or] at k1 k2
      exact ih (by omega) k1 k2
    · refine a_aload_n dX8_conflicts_39 rfl ?_
      refine c_getR (t := 7) (k := 28) dX8_conflicts_40 kw_106 rfl ?_
      refine a_iload_n dX8_conflicts_43 rfl ?_
      refine c_iald (i := j) dX8_conflicts_44 rfl (show j < 6 by omega) ?_
      refine a_iload_n dX8_conflicts_45 rfl ?_
      refine a_icmp_eq (tgt := 62) dX8_conflicts_46 (by decide) (fun c_46 => ?_) (fun c_46 => ?_)
      · refine a_iinc_2 (u := nI (j + 1)) dX8_conflicts_62 (inc_nI j) (by decide) ?_
        refine a_goto (tgt := 2) dX8_conflicts_65 (by decide) ?_
        have h9 : (cfl (bs ρ c) (ow ρ c) (ρ 34 0)) j = false := by
          show (!decide (ρ 24 0 (6 * c + j) = ρ 23 0 (6 * c + j)) && (!decide (ρ 34 0 j = ρ 23 0 (6 * c + j)) && !decide (ρ 34 0 j = ρ 24 0 (6 * c + j)))) = false
          first
            | (simp [c_36]; done)
            | (simp [c_46]; done)
            | (simp [c_57]; done)
        rw [anyU, h9, Bool.false_or] at k1 k2
        exact ih (by omega) k1 k2
      · refine a_aload_n dX8_conflicts_49 rfl ?_
        refine c_getR (t := 7) (k := 28) dX8_conflicts_50 kw_106 rfl ?_
        refine a_iload_n dX8_conflicts_53 rfl ?_
        refine c_iald (i := j) dX8_conflicts_54 rfl (show j < 6 by omega) ?_
        refine a_iload dX8_conflicts_55 rfl ?_
        refine a_icmp_eq (tgt := 62) dX8_conflicts_57 (by decide) (fun c_57 => ?_) (fun c_57 => ?_)
        · refine a_iinc_2 (u := nI (j + 1)) dX8_conflicts_62 (inc_nI j) (by decide) ?_
          refine a_goto (tgt := 2) dX8_conflicts_65 (by decide) ?_
          have h9 : (cfl (bs ρ c) (ow ρ c) (ρ 34 0)) j = false := by
            show (!decide (ρ 24 0 (6 * c + j) = ρ 23 0 (6 * c + j)) && (!decide (ρ 34 0 j = ρ 23 0 (6 * c + j)) && !decide (ρ 34 0 j = ρ 24 0 (6 * c + j)))) = false
            first
              | (simp [c_36]; done)
              | (simp [c_46]; done)
              | (simp [c_57]; done)
          rw [anyU, h9, Bool.false_or] at k1 k2
          exact ih (by omega) k1 k2
        · refine a_iconst (v := 1) dX8_conflicts_60 (by decide) ?_
          exact c_zret dX8_conflicts_61 (k1 (by have h9 : (cfl (bs ρ c) (ow ρ c) (ρ 34 0)) j = true := (by show (!decide (ρ 24 0 (6 * c + j) = ρ 23 0 (6 * c + j)) && (!decide (ρ 34 0 j = ρ 23 0 (6 * c + j)) && !decide (ρ 34 0 j = ρ 24 0 (6 * c + j)))) = true; simp [c_46, c_57, Ne.symm c_36]); rw [anyU, h9]; rfl))
set_option maxRecDepth 10000 in
theorem L_X8_cf2 {l : Launch} {w : WW} {Φ : Option Value → XX → Prop} {M : Mem} {ρ : Sg} {c : Nat} (hc : c < 16) : ∀ (n : Nat) {j : Nat} {v3 v4 : Option Value}, j + n = 6 → A l w yX8_conflicts cX8_conflicts 5 (some .boolean) (rmd 1) Φ 133 [some (.ref (ad w 2 7 0)), some (.int (nI c)), some (.int (nI 6)), v3, v4] [] (zx w M 2 (sga ρ 34 0 (mixN 6 (mrg (bs ρ c) (ow ρ c) (ρ 34 0)) (ρ 34 0)))) 0 0 → A l w yX8_conflicts cX8_conflicts 5 (some .boolean) (rmd 1) Φ 70 [some (.ref (ad w 2 7 0)), some (.int (nI c)), some (.int (nI j)), v3, v4] [] (zx w M 2 (sga ρ 34 0 (mixN j (mrg (bs ρ c) (ow ρ c) (ρ 34 0)) (ρ 34 0)))) 0 0 := by
  intro n
  induction n with
  | zero =>
    intro j v3 v4 hj kk
    refine a_iload_n dX8_conflicts_70 rfl ?_
    refine a_bipush (v := 6) dX8_conflicts_71 (by decide) ?_
    refine a_icmp_ge (tgt := 133) dX8_conflicts_73 (by decide) (fun c_73 => ?_) (fun c_73 => absurd (by have e6 : j = 6 := (by omega); subst e6; decide) c_73)
    obtain rfl : j = 6 := by omega
    exact kk
  | succ n ih =>
    intro j v3 v4 hj kk
    refine a_iload_n dX8_conflicts_70 rfl ?_
    refine a_bipush (v := 6) dX8_conflicts_71 (by decide) ?_
    refine a_icmp_ge (tgt := 133) dX8_conflicts_73 (by decide) (fun c_73 => absurd c_73 (nI_ge (b := 6) (by omega) (by omega))) (fun c_73 => ?_)
    refine a_aload_n dX8_conflicts_76 rfl ?_
    refine c_getR (t := 7) (k := 28) dX8_conflicts_77 kw_106 rfl ?_
    refine a_iload_n dX8_conflicts_80 rfl ?_
    refine a_aload_n dX8_conflicts_81 rfl ?_
    refine c_getR (t := 7) (k := 15) dX8_conflicts_82 kw_96 rfl ?_
    refine a_bipush (v := 6) dX8_conflicts_85 (by decide) ?_
    refine a_iload_n dX8_conflicts_87 rfl ?_
    refine a_imul dX8_conflicts_88 ?_
    refine a_iload_n dX8_conflicts_89 rfl ?_
    refine a_iadd dX8_conflicts_90 ?_
    refine c_iald (i := 6 * c + j) dX8_conflicts_91 (nI_6 c j) (show 6 * c + j < 96 by omega) ?_
    refine a_aload_n dX8_conflicts_92 rfl ?_
    refine c_getR (t := 7) (k := 14) dX8_conflicts_93 kw_95 rfl ?_
    refine a_bipush (v := 6) dX8_conflicts_96 (by decide) ?_
    refine a_iload_n dX8_conflicts_98 rfl ?_
    refine a_imul dX8_conflicts_99 ?_
    refine a_iload_n dX8_conflicts_100 rfl ?_
    refine a_iadd dX8_conflicts_101 ?_
    refine c_iald (i := 6 * c + j) dX8_conflicts_102 (nI_6 c j) (show 6 * c + j < 96 by omega) ?_
    refine a_icmp_eq (tgt := 120) dX8_conflicts_103 (by decide) (fun c_103 => ?_) (fun c_103 => ?_)
    · refine a_aload_n dX8_conflicts_120 rfl ?_
      refine c_getR (t := 7) (k := 28) dX8_conflicts_121 kw_106 rfl ?_
      refine a_iload_n dX8_conflicts_124 rfl ?_
      refine c_iald (i := j) dX8_conflicts_125 rfl (show j < 6 by omega) ?_
      refine c_iast (i := j) dX8_conflicts_126 rfl (show j < 6 by omega) ?_
      refine a_iinc_2 (u := nI (j + 1)) dX8_conflicts_127 (inc_nI j) (by decide) ?_
      refine a_goto (tgt := 70) dX8_conflicts_130 (by decide) ?_
      rw [sga_t (by decide), sga_t (by decide)] at c_103
      first
        | (rw [st_mix (g := mrg (bs ρ c) (ow ρ c) (ρ 34 0)) (by rw [sga_same, mixN_at (Nat.le_refl j)]; exact if_pos c_103)]; exact ih (by omega) kk)
        | (rw [st_mix (g := mrg (bs ρ c) (ow ρ c) (ρ 34 0)) (by rw [sga_t (by decide)]; exact if_neg c_103)]; exact ih (by omega) kk)
    · refine a_aload_n dX8_conflicts_106 rfl ?_
      refine c_getR (t := 7) (k := 15) dX8_conflicts_107 kw_96 rfl ?_
      refine a_bipush (v := 6) dX8_conflicts_110 (by decide) ?_
      refine a_iload_n dX8_conflicts_112 rfl ?_
      refine a_imul dX8_conflicts_113 ?_
      refine a_iload_n dX8_conflicts_114 rfl ?_
      refine a_iadd dX8_conflicts_115 ?_
      refine c_iald (i := 6 * c + j) dX8_conflicts_116 (nI_6 c j) (show 6 * c + j < 96 by omega) ?_
      refine a_goto (tgt := 126) dX8_conflicts_117 (by decide) ?_
      refine c_iast (i := j) dX8_conflicts_126 rfl (show j < 6 by omega) ?_
      refine a_iinc_2 (u := nI (j + 1)) dX8_conflicts_127 (inc_nI j) (by decide) ?_
      refine a_goto (tgt := 70) dX8_conflicts_130 (by decide) ?_
      rw [sga_t (by decide), sga_t (by decide)] at c_103
      first
        | (rw [st_mix (g := mrg (bs ρ c) (ow ρ c) (ρ 34 0)) (by rw [sga_same, mixN_at (Nat.le_refl j)]; exact if_pos c_103)]; exact ih (by omega) kk)
        | (rw [st_mix (g := mrg (bs ρ c) (ow ρ c) (ρ 34 0)) (by rw [sga_t (by decide)]; exact if_neg c_103)]; exact ih (by omega) kk)
set_option maxRecDepth 10000 in
theorem s_X8_conflicts {l : Launch} {w : WW} {M : Mem} {ρ : Sg} {c : Nat} (hc : c < 16) : Can l w yX8_conflicts cX8_conflicts 5 (some .boolean) (rmd 1) [.ref (ad w 2 7 0), .int (nI c)] (zx w M 2 ρ) (RI (bi (cfR ρ c)) (zx w M 2 (if cfR ρ c = true then ρ else mgR ρ c))) := by
  refine Can.go (ls := [some (.ref (ad w 2 7 0)), some (.int (nI c)), none, none, none]) ?_
  refine a_iconst (v := 0) dX8_conflicts_0 (by decide) ?_
  refine a_istore_2 dX8_conflicts_1 (by decide) ?_
  refine L_X8_cf1 hc 6 rfl (fun h => ?_) (fun h u3 u4 => ?_)
  · exact ⟨by rw [show cfR ρ c = true from h]; rfl, by rw [if_pos (show cfR ρ c = true from h)]⟩
  · refine a_iconst (v := 0) dX8_conflicts_68 (by decide) ?_
    refine a_istore_2 dX8_conflicts_69 (by decide) ?_
    refine a_eq (x' := zx w M 2 (sga ρ 34 0 (mixN 0 (mrg (bs ρ c) (ow ρ c) (ρ 34 0)) (ρ 34 0)))) (by rw [mix_st]) ?_
    refine L_X8_cf2 hc 6 rfl ?_
    refine c_junk (M' := M) (σ' := mgR ρ c) (junkA (by decide) (fun k hk => (if_pos hk).symm)) ?_
    refine a_iconst (v := 0) dX8_conflicts_133 (by decide) ?_
    exact c_zret dX8_conflicts_134 ⟨by rw [show cfR ρ c = false from h]; rfl, by rw [if_neg (by rw [show cfR ρ c = false from h]; decide)]⟩
set_option maxRecDepth 10000 in
theorem L_X8_startTree {l : Launch} {w : WW} {Φ : Option Value → XX → Prop} {M : Mem} {ρ : Sg}  : ∀ (n : Nat) {j : Nat}, j + n = 6 → A l w yX8_startTree cX8_startTree 2 none (rmd 1) Φ 26 [some (.ref (ad w 2 7 0)), some (.int (nI 6))] [] (zx w M 2 (sga ρ 34 0 (mixN 6 (ρ 22 0) (ρ 34 0)))) 0 0 → A l w yX8_startTree cX8_startTree 2 none (rmd 1) Φ 2 [some (.ref (ad w 2 7 0)), some (.int (nI j))] [] (zx w M 2 (sga ρ 34 0 (mixN j (ρ 22 0) (ρ 34 0)))) 0 0 := by
  intro n
  induction n with
  | zero =>
    intro j hj kk
    refine a_iload_n dX8_startTree_2 rfl ?_
    refine a_bipush (v := 6) dX8_startTree_3 (by decide) ?_
    refine a_icmp_ge (tgt := 26) dX8_startTree_5 (by decide) (fun c_5 => ?_) (fun c_5 => absurd (by have e6 : j = 6 := (by omega); subst e6; decide) c_5)
    obtain rfl : j = 6 := by omega
    exact kk
  | succ n ih =>
    intro j hj kk
    refine a_iload_n dX8_startTree_2 rfl ?_
    refine a_bipush (v := 6) dX8_startTree_3 (by decide) ?_
    refine a_icmp_ge (tgt := 26) dX8_startTree_5 (by decide) (fun c_5 => absurd c_5 (nI_ge (b := 6) (by omega) (by omega))) (fun c_5 => ?_)
    refine a_aload_n dX8_startTree_8 rfl ?_
    refine c_getR (t := 7) (k := 28) dX8_startTree_9 kw_106 rfl ?_
    refine a_iload_n dX8_startTree_12 rfl ?_
    refine a_aload_n dX8_startTree_13 rfl ?_
    refine c_getR (t := 7) (k := 10) dX8_startTree_14 kw_94 rfl ?_
    refine a_iload_n dX8_startTree_17 rfl ?_
    refine c_iald (i := j) dX8_startTree_18 rfl (show j < 6 by omega) ?_
    refine c_iast (i := j) dX8_startTree_19 rfl (show j < 6 by omega) ?_
    refine a_iinc_1 (u := nI (j + 1)) dX8_startTree_20 (inc_nI j) (by decide) ?_
    refine a_goto (tgt := 2) dX8_startTree_23 (by decide) ?_
    rw [st_mix (g := ρ 22 0) (by rw [sga_t (by decide)])]
    exact ih (by omega) kk
set_option maxRecDepth 10000 in
theorem s_X8_startTree {l : Launch} {w : WW} {M : Mem} {ρ : Sg}  : Can l w yX8_startTree cX8_startTree 2 none (rmd 1) [.ref (ad w 2 7 0)] (zx w M 2 ρ) (RV (zx w M 2 (sga ρ 34 0 (ρ 22 0)))) := by
  refine Can.go (ls := [some (.ref (ad w 2 7 0)), none]) ?_
  refine a_iconst (v := 0) dX8_startTree_0 (by decide) ?_
  refine a_istore_1 dX8_startTree_1 (by decide) ?_
  refine a_eq (x' := zx w M 2 (sga ρ 34 0 (mixN 0 (ρ 22 0) (ρ 34 0)))) (by rw [mix_st]) ?_
  refine L_X8_startTree 6 rfl ?_
  refine c_junk (M' := M) (σ' := sga ρ 34 0 (ρ 22 0)) (junkA (by decide) (fun k hk => (if_pos hk).symm)) ?_
  exact c_vret dX8_startTree_26 ⟨rfl, rfl⟩
set_option maxRecDepth 10000 in
theorem s_X8_bit {l : Launch} {w : WW} {M : Mem} {ρ : Sg} {p k : Int32} (hp : ρ 34 0 0 = p) : Can l w yX8_bit cX8_bit 2 (some .boolean) (rmd 1) [.ref (ad w 2 7 0), .int k] (zx w M 2 ρ) (RI (bi (tb p k)) (zx w M 2 ρ)) := by
  refine Can.go (ls := [some (.ref (ad w 2 7 0)), some (.int k)]) ?_
  refine a_aload_n dX8_bit_0 rfl ?_
  refine c_getR (t := 7) (k := 28) dX8_bit_1 kw_106 rfl ?_
  refine a_iconst (v := 0) dX8_bit_4 (by decide) ?_
  refine c_iald (i := 0) dX8_bit_5 nI_0.symm (by decide) ?_
  rw [hp]
  refine a_iload_n dX8_bit_6 rfl ?_
  refine a_ishr dX8_bit_7 ?_
  refine a_iconst (v := 1) dX8_bit_8 (by decide) ?_
  refine a_iand dX8_bit_9 ?_
  refine a_iconst (v := 1) dX8_bit_10 (by decide) ?_
  refine a_icmp_ne (tgt := 18) dX8_bit_11 (by decide) (fun c_11 => ?_) (fun c_11 => ?_)
  · refine a_iconst (v := 0) dX8_bit_18 (by decide) ?_
    exact c_zret dX8_bit_19 ⟨by first | rw [tb_1 c_11]; rfl | rw [tb_0 c_11]; rfl, rfl⟩
  · refine a_iconst (v := 1) dX8_bit_14 (by decide) ?_
    refine a_goto (tgt := 19) dX8_bit_15 (by decide) ?_
    exact c_zret dX8_bit_19 ⟨by first | rw [tb_1 c_11]; rfl | rw [tb_0 c_11]; rfl, rfl⟩
set_option maxRecDepth 10000 in
theorem s_X8_there {l : Launch} {w : WW} {M : Mem} {ρ : Sg} {p k : Int32} (hp : ρ 34 0 0 = p) : Can l w yX8_there cX8_there 2 (some .boolean) (rmd 2) [.ref (ad w 2 7 0), .int k] (zx w M 2 ρ) (RI (bi (tb p k)) (zx w M 2 ρ)) := by
  refine Can.go (ls := [some (.ref (ad w 2 7 0)), some (.int k)]) ?_
  refine a_aload_n dX8_there_0 rfl ?_
  refine a_iload_n dX8_there_1 rfl ?_
  refine c_V1I dX8_there_2 kw_449 kv_X8_bit (s_X8_bit hp) ?_
  exact c_zret dX8_there_5 ⟨rfl, rfl⟩ (hn := bi_nar _)
set_option maxRecDepth 10000 in
theorem s_X8_required {l : Launch} {w : WW} {M : Mem} {ρ : Sg} {p k : Int32} (hp : ρ 34 0 0 = p) : Can l w yX8_required cX8_required 2 (some .boolean) (rmd 2) [.ref (ad w 2 7 0), .int k] (zx w M 2 ρ) (RI (bi (rq p k)) (zx w M 2 ρ)) := by
  refine Can.go (ls := [some (.ref (ad w 2 7 0)), some (.int k)]) ?_
  refine a_aload_n dX8_required_0 rfl ?_
  refine a_iload_n dX8_required_1 rfl ?_
  refine c_V1I dX8_required_2 kw_449 kv_X8_bit (s_X8_bit hp) ?_
  refine a_if_eq (tgt := 22) dX8_required_5 (by decide) (fun c_5 => ?_) (fun c_5 => ?_)
  · refine a_iconst (v := 0) dX8_required_22 (by decide) ?_
    exact c_zret dX8_required_23 ⟨by first | (rw [rq, bi_n0.mp c_5, bi_n0.mp c_15]; rfl) | (rw [rq, bi_n0.mp c_5, bi_0.mp c_15]; rfl) | (rw [rq, bi_0.mp c_5]; rfl), rfl⟩
  · refine a_aload_n dX8_required_8 rfl ?_
    refine a_iconst (v := 4) dX8_required_9 (by decide) ?_
    refine a_iload_n dX8_required_10 rfl ?_
    refine a_iadd dX8_required_11 ?_
    refine c_V1I dX8_required_12 kw_449 kv_X8_bit (s_X8_bit hp) ?_
    refine a_if_eq (tgt := 22) dX8_required_15 (by decide) (fun c_15 => ?_) (fun c_15 => ?_)
    · refine a_iconst (v := 0) dX8_required_22 (by decide) ?_
      exact c_zret dX8_required_23 ⟨by first | (rw [rq, bi_n0.mp c_5, bi_n0.mp c_15]; rfl) | (rw [rq, bi_n0.mp c_5, bi_0.mp c_15]; rfl) | (rw [rq, bi_0.mp c_5]; rfl), rfl⟩
    · refine a_iconst (v := 1) dX8_required_18 (by decide) ?_
      refine a_goto (tgt := 23) dX8_required_19 (by decide) ?_
      exact c_zret dX8_required_23 ⟨by first | (rw [rq, bi_n0.mp c_5, bi_n0.mp c_15]; rfl) | (rw [rq, bi_n0.mp c_5, bi_0.mp c_15]; rfl) | (rw [rq, bi_0.mp c_5]; rfl), rfl⟩
set_option maxRecDepth 10000 in
theorem s_X8_needs {l : Launch} {w : WW} {M : Mem} {ρ : Sg} {p j k : Int32} (hp : ρ 34 0 0 = p) : Can l w yX8_needs cX8_needs 3 (some .boolean) (rmd 2) [.ref (ad w 2 7 0), .int j, .int k] (zx w M 2 ρ) (RI (bi (ned p j k)) (zx w M 2 ρ)) := by
  refine Can.go (ls := [some (.ref (ad w 2 7 0)), some (.int j), some (.int k)]) ?_
  refine a_aload_n dX8_needs_0 rfl ?_
  refine a_iload_n dX8_needs_1 rfl ?_
  refine c_V1I dX8_needs_2 kw_449 kv_X8_bit (s_X8_bit hp) ?_
  refine a_if_eq (tgt := 27) dX8_needs_5 (by decide) (fun c_5 => ?_) (fun c_5 => ?_)
  · refine a_iconst (v := 0) dX8_needs_27 (by decide) ?_
    exact c_zret dX8_needs_28 ⟨by first | (rw [ned, bi_n0.mp c_5, bi_n0.mp c_20]; rfl) | (rw [ned, bi_n0.mp c_5, bi_0.mp c_20]; rfl) | (rw [ned, bi_0.mp c_5]; rfl), rfl⟩
  · refine a_aload_n dX8_needs_8 rfl ?_
    refine a_bipush (v := 8) dX8_needs_9 (by decide) ?_
    refine a_iconst (v := 4) dX8_needs_11 (by decide) ?_
    refine a_iload_n dX8_needs_12 rfl ?_
    refine a_imul dX8_needs_13 ?_
    refine a_iadd dX8_needs_14 ?_
    refine a_iload_n dX8_needs_15 rfl ?_
    refine a_iadd dX8_needs_16 ?_
    refine c_V1I dX8_needs_17 kw_449 kv_X8_bit (s_X8_bit hp) ?_
    refine a_if_eq (tgt := 27) dX8_needs_20 (by decide) (fun c_20 => ?_) (fun c_20 => ?_)
    · refine a_iconst (v := 0) dX8_needs_27 (by decide) ?_
      exact c_zret dX8_needs_28 ⟨by first | (rw [ned, bi_n0.mp c_5, bi_n0.mp c_20]; rfl) | (rw [ned, bi_n0.mp c_5, bi_0.mp c_20]; rfl) | (rw [ned, bi_0.mp c_5]; rfl), rfl⟩
    · refine a_iconst (v := 1) dX8_needs_23 (by decide) ?_
      refine a_goto (tgt := 28) dX8_needs_24 (by decide) ?_
      exact c_zret dX8_needs_28 ⟨by first | (rw [ned, bi_n0.mp c_5, bi_n0.mp c_20]; rfl) | (rw [ned, bi_n0.mp c_5, bi_0.mp c_20]; rfl) | (rw [ned, bi_0.mp c_5]; rfl), rfl⟩
set_option maxRecDepth 10000 in
theorem L_X8_c4a {l : Launch} {w : WW} {Φ : Option Value → XX → Prop} {M : Mem} {ρ : Sg} {p : Int32} (hp : ρ 34 0 0 = p) : ∀ (n : Nat) {j : Nat} {v2 : Option Value}, j + n = 16 → A l w yX8_close4 cX8_close4 3 none (rmd 3) Φ 30 [some (.ref (ad w 2 7 0)), some (.int (nI 16)), v2] [] (zx w M 2 (sga ρ 35 0 (mixN 16 (lm (ld0 p)) (ρ 35 0)))) 0 0 → A l w yX8_close4 cX8_close4 3 none (rmd 3) Φ 2 [some (.ref (ad w 2 7 0)), some (.int (nI j)), v2] [] (zx w M 2 (sga ρ 35 0 (mixN j (lm (ld0 p)) (ρ 35 0)))) 0 0 := by
  intro n
  induction n with
  | zero =>
    intro j v2 hj kk
    refine a_iload_n dX8_close4_2 rfl ?_
    refine a_bipush (v := 16) dX8_close4_3 (by decide) ?_
    refine a_icmp_ge (tgt := 30) dX8_close4_5 (by decide) (fun c_5 => ?_) (fun c_5 => absurd (by have e6 : j = 16 := (by omega); subst e6; decide) c_5)
    obtain rfl : j = 16 := by omega
    exact kk
  | succ n ih =>
    intro j v2 hj kk
    refine a_iload_n dX8_close4_2 rfl ?_
    refine a_bipush (v := 16) dX8_close4_3 (by decide) ?_
    refine a_icmp_ge (tgt := 30) dX8_close4_5 (by decide) (fun c_5 => absurd c_5 (nI_ge (b := 16) (by omega) (by omega))) (fun c_5 => ?_)
    refine a_aload_n dX8_close4_8 rfl ?_
    refine c_getR (t := 7) (k := 29) dX8_close4_9 kw_108 rfl ?_
    refine a_iload_n dX8_close4_12 rfl ?_
    refine a_aload_n dX8_close4_13 rfl ?_
    refine a_iload_n dX8_close4_14 rfl ?_
    refine a_iconst (v := 4) dX8_close4_15 (by decide) ?_
    refine a_idiv dX8_close4_16 (by decide) ?_
    refine a_iload_n dX8_close4_17 rfl ?_
    refine a_iconst (v := 4) dX8_close4_18 (by decide) ?_
    refine a_irem dX8_close4_19 (by decide) ?_
    rw [nI_r4 j (by omega), nI_d4 j (by omega)]
    refine c_V2I dX8_close4_20 kw_445 kv_X8_needs (s_X8_needs (p := p) (by rw [sga_t (by decide)]; exact hp)) ?_
    refine c_zast (i := j) dX8_close4_23 rfl (show j < 16 by omega) (vp_bi _) ?_
    refine a_iinc_1 (u := nI (j + 1)) dX8_close4_24 (inc_nI j) (by decide) ?_
    refine a_goto (tgt := 2) dX8_close4_27 (by decide) ?_
    rw [st_mix (g := lm (ld0 p)) (v := bi (ned p (nI (j / 4)) (nI (j % 4)))) rfl]
    exact ih (by omega) kk
set_option maxRecDepth 10000 in
theorem L_X8_c4b {l : Launch} {w : WW} {Φ : Option Value → XX → Prop} {M : Mem} {ρ : Sg} {m : Nat} (hm : m < 4) : ∀ (n : Nat) {q : Nat} {L : Nat → Bool}, q + n = 16 → A l w yX8_close4 cX8_close4 3 none (rmd 3) Φ 101 [some (.ref (ad w 2 7 0)), some (.int (nI m)), some (.int (nI 16))] [] (zx w M 2 (sga ρ 35 0 (lm (wsI m n q L)))) 0 0 → A l w yX8_close4 cX8_close4 3 none (rmd 3) Φ 39 [some (.ref (ad w 2 7 0)), some (.int (nI m)), some (.int (nI q))] [] (zx w M 2 (sga ρ 35 0 (lm (L)))) 0 0 := by
  intro n
  induction n with
  | zero =>
    intro q L hq kk
    refine a_iload_n dX8_close4_39 rfl ?_
    refine a_bipush (v := 16) dX8_close4_40 (by decide) ?_
    refine a_icmp_ge (tgt := 101) dX8_close4_42 (by decide) (fun c_42 => ?_) (fun c_42 => absurd (by have e6 : q = 16 := (by omega); subst e6; decide) c_42)
    obtain rfl : q = 16 := by omega
    exact kk
  | succ n ih =>
    intro q L hq kk
    refine a_iload_n dX8_close4_39 rfl ?_
    refine a_bipush (v := 16) dX8_close4_40 (by decide) ?_
    refine a_icmp_ge (tgt := 101) dX8_close4_42 (by decide) (fun c_42 => absurd c_42 (nI_ge (b := 16) (by omega) (by omega))) (fun c_42 => ?_)
    refine a_aload_n dX8_close4_45 rfl ?_
    refine c_getR (t := 7) (k := 29) dX8_close4_46 kw_108 rfl ?_
    refine a_iload_n dX8_close4_49 rfl ?_
    refine a_aload_n dX8_close4_50 rfl ?_
    refine c_getR (t := 7) (k := 29) dX8_close4_51 kw_108 rfl ?_
    refine a_iload_n dX8_close4_54 rfl ?_
    refine c_zald (i := q) dX8_close4_55 rfl (show q < 16 by omega) ?_
    refine a_if_ne (tgt := 89) dX8_close4_56 (by decide) (fun c_56 => ?_) (fun c_56 => ?_)
    · refine a_iconst (v := 1) dX8_close4_89 (by decide) ?_
      refine a_goto (tgt := 94) dX8_close4_90 (by decide) ?_
      refine c_zast (i := q) dX8_close4_94 rfl (show q < 16 by omega) rfl ?_
      refine a_iinc_2 (u := nI (q + 1)) dX8_close4_95 (inc_nI q) (by decide) ?_
      refine a_goto (tgt := 39) dX8_close4_98 (by decide) ?_
      first
        | (rw [wst_st (m := m) (by
            have h1 := bi_n0.mp (show ¬ bi (L q) = 0 by rw [sga_same] at c_56; exact c_56)
            rw [h1]; rfl)]; exact ih (by omega) kk)
        | (rw [wst_st (m := m) (by
            have h1 := bi_0.mp (show bi (L q) = 0 by rw [sga_same] at c_56; exact c_56)
            have h2 := bi_0.mp (show bi (L (4 * (q / 4) + m)) = 0 by rw [sga_same] at c_71; exact c_71)
            rw [h1, h2]; rfl)]; exact ih (by omega) kk)
        | (rw [wst_st (m := m) (by
            have h1 := bi_0.mp (show bi (L q) = 0 by rw [sga_same] at c_56; exact c_56)
            have h2 := bi_n0.mp (show ¬ bi (L (4 * (q / 4) + m)) = 0 by rw [sga_same] at c_71; exact c_71)
            have h3 := bi_0.mp (show bi (L (4 * m + q % 4)) = 0 by rw [sga_same] at c_86; exact c_86)
            rw [h1, h2, h3]; rfl)]; exact ih (by omega) kk)
        | (rw [wst_st (m := m) (by
            have h1 := bi_0.mp (show bi (L q) = 0 by rw [sga_same] at c_56; exact c_56)
            have h2 := bi_n0.mp (show ¬ bi (L (4 * (q / 4) + m)) = 0 by rw [sga_same] at c_71; exact c_71)
            have h3 := bi_n0.mp (show ¬ bi (L (4 * m + q % 4)) = 0 by rw [sga_same] at c_86; exact c_86)
            rw [h1, h2, h3]; rfl)]; exact ih (by omega) kk)
    · refine a_aload_n dX8_close4_59 rfl ?_
      refine c_getR (t := 7) (k := 29) dX8_close4_60 kw_108 rfl ?_
      refine a_iconst (v := 4) dX8_close4_63 (by decide) ?_
      refine a_iload_n dX8_close4_64 rfl ?_
      refine a_iconst (v := 4) dX8_close4_65 (by decide) ?_
      refine a_idiv dX8_close4_66 (by decide) ?_
      refine a_imul dX8_close4_67 ?_
      refine a_iload_n dX8_close4_68 rfl ?_
      refine a_iadd dX8_close4_69 ?_
      refine c_zald (i := 4 * (q / 4) + m) dX8_close4_70 (nI_w1 q (by omega) m hm) (show 4 * (q / 4) + m < 16 by omega) ?_
      refine a_if_eq (tgt := 93) dX8_close4_71 (by decide) (fun c_71 => ?_) (fun c_71 => ?_)
      · refine a_iconst (v := 0) dX8_close4_93 (by decide) ?_
        refine c_zast (i := q) dX8_close4_94 rfl (show q < 16 by omega) rfl ?_
        refine a_iinc_2 (u := nI (q + 1)) dX8_close4_95 (inc_nI q) (by decide) ?_
        refine a_goto (tgt := 39) dX8_close4_98 (by decide) ?_
        first
          | (rw [wst_st (m := m) (by
              have h1 := bi_n0.mp (show ¬ bi (L q) = 0 by rw [sga_same] at c_56; exact c_56)
              rw [h1]; rfl)]; exact ih (by omega) kk)
          | (rw [wst_st (m := m) (by
              have h1 := bi_0.mp (show bi (L q) = 0 by rw [sga_same] at c_56; exact c_56)
              have h2 := bi_0.mp (show bi (L (4 * (q / 4) + m)) = 0 by rw [sga_same] at c_71; exact c_71)
              rw [h1, h2]; rfl)]; exact ih (by omega) kk)
          | (rw [wst_st (m := m) (by
              have h1 := bi_0.mp (show bi (L q) = 0 by rw [sga_same] at c_56; exact c_56)
              have h2 := bi_n0.mp (show ¬ bi (L (4 * (q / 4) + m)) = 0 by rw [sga_same] at c_71; exact c_71)
              have h3 := bi_0.mp (show bi (L (4 * m + q % 4)) = 0 by rw [sga_same] at c_86; exact c_86)
              rw [h1, h2, h3]; rfl)]; exact ih (by omega) kk)
          | (rw [wst_st (m := m) (by
              have h1 := bi_0.mp (show bi (L q) = 0 by rw [sga_same] at c_56; exact c_56)
              have h2 := bi_n0.mp (show ¬ bi (L (4 * (q / 4) + m)) = 0 by rw [sga_same] at c_71; exact c_71)
              have h3 := bi_n0.mp (show ¬ bi (L (4 * m + q % 4)) = 0 by rw [sga_same] at c_86; exact c_86)
              rw [h1, h2, h3]; rfl)]; exact ih (by omega) kk)
      · refine a_aload_n dX8_close4_74 rfl ?_
        refine c_getR (t := 7) (k := 29) dX8_close4_75 kw_108 rfl ?_
        refine a_iconst (v := 4) dX8_close4_78 (by decide) ?_
        refine a_iload_n dX8_close4_79 rfl ?_
        refine a_imul dX8_close4_80 ?_
        refine a_iload_n dX8_close4_81 rfl ?_
        refine a_iconst (v := 4) dX8_close4_82 (by decide) ?_
        refine a_irem dX8_close4_83 (by decide) ?_
        refine a_iadd dX8_close4_84 ?_
        refine c_zald (i := 4 * m + q % 4) dX8_close4_85 (nI_w2 q (by omega) m hm) (show 4 * m + q % 4 < 16 by omega) ?_
        refine a_if_eq (tgt := 93) dX8_close4_86 (by decide) (fun c_86 => ?_) (fun c_86 => ?_)
        · refine a_iconst (v := 0) dX8_close4_93 (by decide) ?_
          refine c_zast (i := q) dX8_close4_94 rfl (show q < 16 by omega) rfl ?_
          refine a_iinc_2 (u := nI (q + 1)) dX8_close4_95 (inc_nI q) (by decide) ?_
          refine a_goto (tgt := 39) dX8_close4_98 (by decide) ?_
          first
            | (rw [wst_st (m := m) (by
                have h1 := bi_n0.mp (show ¬ bi (L q) = 0 by rw [sga_same] at c_56; exact c_56)
                rw [h1]; rfl)]; exact ih (by omega) kk)
            | (rw [wst_st (m := m) (by
                have h1 := bi_0.mp (show bi (L q) = 0 by rw [sga_same] at c_56; exact c_56)
                have h2 := bi_0.mp (show bi (L (4 * (q / 4) + m)) = 0 by rw [sga_same] at c_71; exact c_71)
                rw [h1, h2]; rfl)]; exact ih (by omega) kk)
            | (rw [wst_st (m := m) (by
                have h1 := bi_0.mp (show bi (L q) = 0 by rw [sga_same] at c_56; exact c_56)
                have h2 := bi_n0.mp (show ¬ bi (L (4 * (q / 4) + m)) = 0 by rw [sga_same] at c_71; exact c_71)
                have h3 := bi_0.mp (show bi (L (4 * m + q % 4)) = 0 by rw [sga_same] at c_86; exact c_86)
                rw [h1, h2, h3]; rfl)]; exact ih (by omega) kk)
            | (rw [wst_st (m := m) (by
                have h1 := bi_0.mp (show bi (L q) = 0 by rw [sga_same] at c_56; exact c_56)
                have h2 := bi_n0.mp (show ¬ bi (L (4 * (q / 4) + m)) = 0 by rw [sga_same] at c_71; exact c_71)
                have h3 := bi_n0.mp (show ¬ bi (L (4 * m + q % 4)) = 0 by rw [sga_same] at c_86; exact c_86)
                rw [h1, h2, h3]; rfl)]; exact ih (by omega) kk)
        · refine a_iconst (v := 1) dX8_close4_89 (by decide) ?_
          refine a_goto (tgt := 94) dX8_close4_90 (by decide) ?_
          refine c_zast (i := q) dX8_close4_94 rfl (show q < 16 by omega) rfl ?_
          refine a_iinc_2 (u := nI (q + 1)) dX8_close4_95 (inc_nI q) (by decide) ?_
          refine a_goto (tgt := 39) dX8_close4_98 (by decide) ?_
          first
            | (rw [wst_st (m := m) (by
                have h1 := bi_n0.mp (show ¬ bi (L q) = 0 by rw [sga_same] at c_56; exact c_56)
                rw [h1]; rfl)]; exact ih (by omega) kk)
            | (rw [wst_st (m := m) (by
                have h1 := bi_0.mp (show bi (L q) = 0 by rw [sga_same] at c_56; exact c_56)
                have h2 := bi_0.mp (show bi (L (4 * (q / 4) + m)) = 0 by rw [sga_same] at c_71; exact c_71)
                rw [h1, h2]; rfl)]; exact ih (by omega) kk)
            | (rw [wst_st (m := m) (by
                have h1 := bi_0.mp (show bi (L q) = 0 by rw [sga_same] at c_56; exact c_56)
                have h2 := bi_n0.mp (show ¬ bi (L (4 * (q / 4) + m)) = 0 by rw [sga_same] at c_71; exact c_71)
                have h3 := bi_0.mp (show bi (L (4 * m + q % 4)) = 0 by rw [sga_same] at c_86; exact c_86)
                rw [h1, h2, h3]; rfl)]; exact ih (by omega) kk)
            | (rw [wst_st (m := m) (by
                have h1 := bi_0.mp (show bi (L q) = 0 by rw [sga_same] at c_56; exact c_56)
                have h2 := bi_n0.mp (show ¬ bi (L (4 * (q / 4) + m)) = 0 by rw [sga_same] at c_71; exact c_71)
                have h3 := bi_n0.mp (show ¬ bi (L (4 * m + q % 4)) = 0 by rw [sga_same] at c_86; exact c_86)
                rw [h1, h2, h3]; rfl)]; exact ih (by omega) kk)
set_option maxRecDepth 10000 in
theorem L_X8_c4c {l : Launch} {w : WW} {Φ : Option Value → XX → Prop} {M : Mem} {ρ : Sg}  : ∀ (n : Nat) {m : Nat} {L : Nat → Bool} {v2 : Option Value}, m + n = 4 → (∀ u2, A l w yX8_close4 cX8_close4 3 none (rmd 3) Φ 107 [some (.ref (ad w 2 7 0)), some (.int (nI 4)), u2] [] (zx w M 2 (sga ρ 35 0 (lm (wsO n m L)))) 0 0) → A l w yX8_close4 cX8_close4 3 none (rmd 3) Φ 32 [some (.ref (ad w 2 7 0)), some (.int (nI m)), v2] [] (zx w M 2 (sga ρ 35 0 (lm (L)))) 0 0 := by
  intro n
  induction n with
  | zero =>
    intro m L v2 hm kk
    refine a_iload_n dX8_close4_32 rfl ?_
    refine a_iconst (v := 4) dX8_close4_33 (by decide) ?_
    refine a_icmp_ge (tgt := 107) dX8_close4_34 (by decide) (fun c_34 => ?_) (fun c_34 => absurd (by have e6 : m = 4 := (by omega); subst e6; decide) c_34)
    obtain rfl : m = 4 := by omega
    exact kk _
  | succ n ih =>
    intro m L v2 hm kk
    refine a_iload_n dX8_close4_32 rfl ?_
    refine a_iconst (v := 4) dX8_close4_33 (by decide) ?_
    refine a_icmp_ge (tgt := 107) dX8_close4_34 (by decide) (fun c_34 => absurd c_34 (nI_ge (b := 4) (by omega) (by omega))) (fun c_34 => ?_)
    refine a_iconst (v := 0) dX8_close4_37 (by decide) ?_
    refine a_istore_2 dX8_close4_38 (by decide) ?_
    refine L_X8_c4b (by omega) 16 (q := 0) rfl ?_
    refine a_iinc_1 (u := nI (m + 1)) dX8_close4_101 (inc_nI m) (by decide) ?_
    refine a_goto (tgt := 32) dX8_close4_104 (by decide) ?_
    exact ih (by omega) kk
set_option maxRecDepth 10000 in
theorem s_X8_close4 {l : Launch} {w : WW} {M : Mem} {ρ : Sg} {p : Int32} (hp : ρ 34 0 0 = p) : Can l w yX8_close4 cX8_close4 3 none (rmd 3) [.ref (ad w 2 7 0)] (zx w M 2 ρ) (RV (zx w M 2 (sga ρ 35 0 (lm (clo p))))) := by
  refine Can.go (ls := [some (.ref (ad w 2 7 0)), none, none]) ?_
  refine a_iconst (v := 0) dX8_close4_0 (by decide) ?_
  refine a_istore_1 dX8_close4_1 (by decide) ?_
  refine a_eq (x' := zx w M 2 (sga ρ 35 0 (mixN 0 (lm (ld0 p)) (ρ 35 0)))) (by rw [mix_st]) ?_
  refine L_X8_c4a hp 16 rfl ?_
  refine c_junk (M' := M) (σ' := sga ρ 35 0 (lm (ld0 p))) (junkA (by decide) (fun k hk => (if_pos hk).symm)) ?_
  refine a_iconst (v := 0) dX8_close4_30 (by decide) ?_
  refine a_istore_1 dX8_close4_31 (by decide) ?_
  exact L_X8_c4c 4 (m := 0) rfl (fun u2 => c_vret dX8_close4_107 ⟨rfl, rfl⟩)
set_option maxRecDepth 10000 in
theorem L_X8_vk {l : Launch} {w : WW} {Φ : Option Value → XX → Prop} {M : Mem} {ρ : Sg} {p : Int32} (hp : ρ 34 0 0 = p) {j : Nat} (hj : j < 4) {v1 : Option Value} : ∀ (n : Nat) {k : Nat} {g : Bool}, k + n = 4 → A l w yX8_valid cX8_valid 5 (some .boolean) (rmd 4) Φ 98 [some (.ref (ad w 2 7 0)), v1, some (.int (bi (vk p j n k g))), some (.int (nI j)), some (.int (nI 4))] [] (zx w M 2 (sga ρ 35 0 (lm (clo p)))) 0 0 → A l w yX8_valid cX8_valid 5 (some .boolean) (rmd 4) Φ 57 [some (.ref (ad w 2 7 0)), v1, some (.int (bi g)), some (.int (nI j)), some (.int (nI k))] [] (zx w M 2 (sga ρ 35 0 (lm (clo p)))) 0 0 := by
  intro n
  induction n with
  | zero =>
    intro k g hk kk
    refine a_iload dX8_valid_57 rfl ?_
    refine a_iconst (v := 4) dX8_valid_59 (by decide) ?_
    refine a_icmp_ge (tgt := 98) dX8_valid_60 (by decide) (fun c_60 => ?_) (fun c_60 => absurd (by have e6 : k = 4 := (by omega); subst e6; decide) c_60)
    obtain rfl : k = 4 := by omega
    exact kk
  | succ n ih =>
    intro k g hk kk
    refine a_iload dX8_valid_57 rfl ?_
    refine a_iconst (v := 4) dX8_valid_59 (by decide) ?_
    refine a_icmp_ge (tgt := 98) dX8_valid_60 (by decide) (fun c_60 => absurd c_60 (nI_ge (b := 4) (by omega) (by omega))) (fun c_60 => ?_)
    refine a_iload_n dX8_valid_63 rfl ?_
    refine a_if_eq (tgt := 90) dX8_valid_64 (by decide) (fun c_64 => ?_) (fun c_64 => ?_)
    · refine a_iconst (v := 0) dX8_valid_90 (by decide) ?_
      refine a_istore_2 dX8_valid_91 (by decide) ?_
      refine a_iinc_4 (u := nI (k + 1)) dX8_valid_92 (inc_nI k) (by decide) ?_
      refine a_goto (tgt := 57) dX8_valid_95 (by decide) ?_
      rw [vk] at kk
      first
        | (rw [bi_0.mp c_64] at kk; exact ih (g := false) (by omega) kk)
        | (rw [bi_n0.mp c_64, bi_0.mp c_74] at kk; exact ih (g := true) (by omega) kk)
        | (rw [bi_n0.mp c_64, bi_n0.mp c_74, bi_0.mp c_83] at kk; exact ih (g := false) (by omega) kk)
        | (rw [bi_n0.mp c_64, bi_n0.mp c_74, bi_n0.mp c_83] at kk; exact ih (g := true) (by omega) kk)
    · refine a_aload_n dX8_valid_67 rfl ?_
      refine a_iload_n dX8_valid_68 rfl ?_
      refine a_iload dX8_valid_69 rfl ?_
      refine c_V2I dX8_valid_71 kw_445 kv_X8_needs (s_X8_needs (p := p) (by rw [sga_t (by decide)]; exact hp)) ?_
      refine a_if_eq (tgt := 86) dX8_valid_74 (by decide) (fun c_74 => ?_) (fun c_74 => ?_)
      · refine a_iconst (v := 1) dX8_valid_86 (by decide) ?_
        refine a_goto (tgt := 91) dX8_valid_87 (by decide) ?_
        refine a_istore_2 dX8_valid_91 (by decide) ?_
        refine a_iinc_4 (u := nI (k + 1)) dX8_valid_92 (inc_nI k) (by decide) ?_
        refine a_goto (tgt := 57) dX8_valid_95 (by decide) ?_
        rw [vk] at kk
        first
          | (rw [bi_0.mp c_64] at kk; exact ih (g := false) (by omega) kk)
          | (rw [bi_n0.mp c_64, bi_0.mp c_74] at kk; exact ih (g := true) (by omega) kk)
          | (rw [bi_n0.mp c_64, bi_n0.mp c_74, bi_0.mp c_83] at kk; exact ih (g := false) (by omega) kk)
          | (rw [bi_n0.mp c_64, bi_n0.mp c_74, bi_n0.mp c_83] at kk; exact ih (g := true) (by omega) kk)
      · refine a_aload_n dX8_valid_77 rfl ?_
        refine a_iload dX8_valid_78 rfl ?_
        refine c_V1I dX8_valid_80 kw_521 kv_X8_there (s_X8_there (p := p) (by rw [sga_t (by decide)]; exact hp)) ?_
        refine a_if_eq (tgt := 90) dX8_valid_83 (by decide) (fun c_83 => ?_) (fun c_83 => ?_)
        · refine a_iconst (v := 0) dX8_valid_90 (by decide) ?_
          refine a_istore_2 dX8_valid_91 (by decide) ?_
          refine a_iinc_4 (u := nI (k + 1)) dX8_valid_92 (inc_nI k) (by decide) ?_
          refine a_goto (tgt := 57) dX8_valid_95 (by decide) ?_
          rw [vk] at kk
          first
            | (rw [bi_0.mp c_64] at kk; exact ih (g := false) (by omega) kk)
            | (rw [bi_n0.mp c_64, bi_0.mp c_74] at kk; exact ih (g := true) (by omega) kk)
            | (rw [bi_n0.mp c_64, bi_n0.mp c_74, bi_0.mp c_83] at kk; exact ih (g := false) (by omega) kk)
            | (rw [bi_n0.mp c_64, bi_n0.mp c_74, bi_n0.mp c_83] at kk; exact ih (g := true) (by omega) kk)
        · refine a_iconst (v := 1) dX8_valid_86 (by decide) ?_
          refine a_goto (tgt := 91) dX8_valid_87 (by decide) ?_
          refine a_istore_2 dX8_valid_91 (by decide) ?_
          refine a_iinc_4 (u := nI (k + 1)) dX8_valid_92 (inc_nI k) (by decide) ?_
          refine a_goto (tgt := 57) dX8_valid_95 (by decide) ?_
          rw [vk] at kk
          first
            | (rw [bi_0.mp c_64] at kk; exact ih (g := false) (by omega) kk)
            | (rw [bi_n0.mp c_64, bi_0.mp c_74] at kk; exact ih (g := true) (by omega) kk)
            | (rw [bi_n0.mp c_64, bi_n0.mp c_74, bi_0.mp c_83] at kk; exact ih (g := false) (by omega) kk)
            | (rw [bi_n0.mp c_64, bi_n0.mp c_74, bi_n0.mp c_83] at kk; exact ih (g := true) (by omega) kk)
set_option maxRecDepth 10000 in
theorem L_X8_v10 {l : Launch} {w : WW} {Φ : Option Value → XX → Prop} {M : Mem} {ρ : Sg} {p : Int32} (hp : ρ 34 0 0 = p) {j : Nat} (hj : j < 4) {s : Bool} {v2 v4 : Option Value} (kk : A l w yX8_valid cX8_valid 5 (some .boolean) (rmd 4) Φ 33 [some (.ref (ad w 2 7 0)), some (.int (bi (s || rq p (nI j)))), v2, some (.int (nI j)), v4] [] (zx w M 2 (sga ρ 35 0 (lm (clo p)))) 0 0) : A l w yX8_valid cX8_valid 5 (some .boolean) (rmd 4) Φ 15 [some (.ref (ad w 2 7 0)), some (.int (bi s)), v2, some (.int (nI j)), v4] [] (zx w M 2 (sga ρ 35 0 (lm (clo p)))) 0 0 := by
  refine a_iload_n dX8_valid_15 rfl ?_
  refine a_if_ne (tgt := 27) dX8_valid_16 (by decide) (fun c_16 => ?_) (fun c_16 => ?_)
  · refine a_iconst (v := 1) dX8_valid_27 (by decide) ?_
    refine a_goto (tgt := 32) dX8_valid_28 (by decide) ?_
    refine a_istore_1 dX8_valid_32 (by decide) ?_
    first
      | (rw [bi_n0.mp c_16] at kk; exact kk)
      | (rw [bi_0.mp c_16, bi_n0.mp c_24] at kk; exact kk)
      | (rw [bi_0.mp c_16, bi_0.mp c_24] at kk; exact kk)
  · refine a_aload_n dX8_valid_19 rfl ?_
    refine a_iload_n dX8_valid_20 rfl ?_
    refine c_V1I dX8_valid_21 kw_473 kv_X8_required (s_X8_required (p := p) (by rw [sga_t (by decide)]; exact hp)) ?_
    refine a_if_eq (tgt := 31) dX8_valid_24 (by decide) (fun c_24 => ?_) (fun c_24 => ?_)
    · refine a_iconst (v := 0) dX8_valid_31 (by decide) ?_
      refine a_istore_1 dX8_valid_32 (by decide) ?_
      first
        | (rw [bi_n0.mp c_16] at kk; exact kk)
        | (rw [bi_0.mp c_16, bi_n0.mp c_24] at kk; exact kk)
        | (rw [bi_0.mp c_16, bi_0.mp c_24] at kk; exact kk)
    · refine a_iconst (v := 1) dX8_valid_27 (by decide) ?_
      refine a_goto (tgt := 32) dX8_valid_28 (by decide) ?_
      refine a_istore_1 dX8_valid_32 (by decide) ?_
      first
        | (rw [bi_n0.mp c_16] at kk; exact kk)
        | (rw [bi_0.mp c_16, bi_n0.mp c_24] at kk; exact kk)
        | (rw [bi_0.mp c_16, bi_0.mp c_24] at kk; exact kk)
set_option maxRecDepth 10000 in
theorem L_X8_v33 {l : Launch} {w : WW} {Φ : Option Value → XX → Prop} {M : Mem} {ρ : Sg} {p : Int32} {j : Nat} (hj : j < 4) {g : Bool} {v1 v4 : Option Value} (kk : A l w yX8_valid cX8_valid 5 (some .boolean) (rmd 4) Φ 54 [some (.ref (ad w 2 7 0)), v1, some (.int (bi (g && !clo p (5 * j)))), some (.int (nI j)), v4] [] (zx w M 2 (sga ρ 35 0 (lm (clo p)))) 0 0) : A l w yX8_valid cX8_valid 5 (some .boolean) (rmd 4) Φ 33 [some (.ref (ad w 2 7 0)), v1, some (.int (bi g)), some (.int (nI j)), v4] [] (zx w M 2 (sga ρ 35 0 (lm (clo p)))) 0 0 := by
  refine a_iload_n dX8_valid_33 rfl ?_
  refine a_if_eq (tgt := 52) dX8_valid_34 (by decide) (fun c_34 => ?_) (fun c_34 => ?_)
  · refine a_iconst (v := 0) dX8_valid_52 (by decide) ?_
    refine a_istore_2 dX8_valid_53 (by decide) ?_
    first
      | (rw [bi_0.mp c_34] at kk; exact kk)
      | (rw [bi_n0.mp c_34, bi_n0.mp (show ¬ bi (clo p (5 * j)) = 0 by rw [sga_same] at c_45; exact c_45)] at kk; exact kk)
      | (rw [bi_n0.mp c_34, bi_0.mp (show bi (clo p (5 * j)) = 0 by rw [sga_same] at c_45; exact c_45)] at kk; exact kk)
  · refine a_aload_n dX8_valid_37 rfl ?_
    refine c_getR (t := 7) (k := 29) dX8_valid_38 kw_108 rfl ?_
    refine a_iconst (v := 5) dX8_valid_41 (by decide) ?_
    refine a_iload_n dX8_valid_42 rfl ?_
    refine a_imul dX8_valid_43 ?_
    refine c_zald (i := 5 * j) dX8_valid_44 (show (5 : Int32) * nI j = nI (5 * j) by rw [← nI_mul]; rfl) (show 5 * j < 16 by omega) ?_
    refine a_if_ne (tgt := 52) dX8_valid_45 (by decide) (fun c_45 => ?_) (fun c_45 => ?_)
    · refine a_iconst (v := 0) dX8_valid_52 (by decide) ?_
      refine a_istore_2 dX8_valid_53 (by decide) ?_
      first
        | (rw [bi_0.mp c_34] at kk; exact kk)
        | (rw [bi_n0.mp c_34, bi_n0.mp (show ¬ bi (clo p (5 * j)) = 0 by rw [sga_same] at c_45; exact c_45)] at kk; exact kk)
        | (rw [bi_n0.mp c_34, bi_0.mp (show bi (clo p (5 * j)) = 0 by rw [sga_same] at c_45; exact c_45)] at kk; exact kk)
    · refine a_iconst (v := 1) dX8_valid_48 (by decide) ?_
      refine a_goto (tgt := 53) dX8_valid_49 (by decide) ?_
      refine a_istore_2 dX8_valid_53 (by decide) ?_
      first
        | (rw [bi_0.mp c_34] at kk; exact kk)
        | (rw [bi_n0.mp c_34, bi_n0.mp (show ¬ bi (clo p (5 * j)) = 0 by rw [sga_same] at c_45; exact c_45)] at kk; exact kk)
        | (rw [bi_n0.mp c_34, bi_0.mp (show bi (clo p (5 * j)) = 0 by rw [sga_same] at c_45; exact c_45)] at kk; exact kk)
set_option maxRecDepth 10000 in
theorem L_X8_vj {l : Launch} {w : WW} {Φ : Option Value → XX → Prop} {M : Mem} {ρ : Sg} {p : Int32} (hp : ρ 34 0 0 = p) : ∀ (n : Nat) {j : Nat} {s g : Bool} {v4 : Option Value}, j + n = 4 → Φ (some (.int (bi (vj p n j s g)))) (zx w M 2 (sga ρ 35 0 (lm (clo p)))) → A l w yX8_valid cX8_valid 5 (some .boolean) (rmd 4) Φ 10 [some (.ref (ad w 2 7 0)), some (.int (bi s)), some (.int (bi g)), some (.int (nI j)), v4] [] (zx w M 2 (sga ρ 35 0 (lm (clo p)))) 0 0 := by
  intro n
  induction n with
  | zero =>
    intro j s g v4 hj h
    refine a_iload_n dX8_valid_10 rfl ?_
    refine a_iconst (v := 4) dX8_valid_11 (by decide) ?_
    refine a_icmp_ge (tgt := 104) dX8_valid_12 (by decide) (fun c_12 => ?_) (fun c_12 => absurd (by have e6 : j = 4 := (by omega); subst e6; decide) c_12)
    refine a_iload_n dX8_valid_104 rfl ?_
    refine a_if_eq (tgt := 116) dX8_valid_105 (by decide) (fun c_105 => ?_) (fun c_105 => ?_)
    · refine a_iconst (v := 0) dX8_valid_116 (by decide) ?_
      exact c_zret dX8_valid_117 (by first | (rw [vj, bi_n0.mp c_105, bi_n0.mp c_109] at h; exact h) | (rw [vj, bi_n0.mp c_105, bi_0.mp c_109] at h; exact h) | (rw [vj, bi_0.mp c_105, Bool.false_and] at h; exact h))
    · refine a_iload_n dX8_valid_108 rfl ?_
      refine a_if_eq (tgt := 116) dX8_valid_109 (by decide) (fun c_109 => ?_) (fun c_109 => ?_)
      · refine a_iconst (v := 0) dX8_valid_116 (by decide) ?_
        exact c_zret dX8_valid_117 (by first | (rw [vj, bi_n0.mp c_105, bi_n0.mp c_109] at h; exact h) | (rw [vj, bi_n0.mp c_105, bi_0.mp c_109] at h; exact h) | (rw [vj, bi_0.mp c_105, Bool.false_and] at h; exact h))
      · refine a_iconst (v := 1) dX8_valid_112 (by decide) ?_
        refine a_goto (tgt := 117) dX8_valid_113 (by decide) ?_
        exact c_zret dX8_valid_117 (by first | (rw [vj, bi_n0.mp c_105, bi_n0.mp c_109] at h; exact h) | (rw [vj, bi_n0.mp c_105, bi_0.mp c_109] at h; exact h) | (rw [vj, bi_0.mp c_105, Bool.false_and] at h; exact h))
  | succ n ih =>
    intro j s g v4 hj h
    refine a_iload_n dX8_valid_10 rfl ?_
    refine a_iconst (v := 4) dX8_valid_11 (by decide) ?_
    refine a_icmp_ge (tgt := 104) dX8_valid_12 (by decide) (fun c_12 => absurd c_12 (nI_ge (b := 4) (by omega) (by omega))) (fun c_12 => ?_)
    refine L_X8_v10 hp (by omega) ?_
    refine L_X8_v33 (by omega) ?_
    refine a_iconst (v := 0) dX8_valid_54 (by decide) ?_
    refine a_istore_4 dX8_valid_55 (by decide) ?_
    refine L_X8_vk hp (by omega) 4 (k := 0) rfl ?_
    refine a_iinc_3 (u := nI (j + 1)) dX8_valid_98 (inc_nI j) (by decide) ?_
    refine a_goto (tgt := 10) dX8_valid_101 (by decide) ?_
    exact ih (by omega) h
set_option maxRecDepth 10000 in
theorem s_X8_valid {l : Launch} {w : WW} {M : Mem} {ρ : Sg} {p : Int32} (hp : ρ 34 0 0 = p) : Can l w yX8_valid cX8_valid 5 (some .boolean) (rmd 4) [.ref (ad w 2 7 0)] (zx w M 2 ρ) (RI (bi (valR p)) (zx w M 2 (sga ρ 35 0 (lm (clo p))))) := by
  refine Can.go (ls := [some (.ref (ad w 2 7 0)), none, none, none, none]) ?_
  refine a_iconst (v := 0) dX8_valid_0 (by decide) ?_
  refine a_istore_1 dX8_valid_1 (by decide) ?_
  refine a_iconst (v := 1) dX8_valid_2 (by decide) ?_
  refine a_istore_2 dX8_valid_3 (by decide) ?_
  refine a_aload_n dX8_valid_4 rfl ?_
  refine c_V0V dX8_valid_5 kw_461 kv_X8_close4 (s_X8_close4 hp) ?_
  refine a_iconst (v := 0) dX8_valid_8 (by decide) ?_
  refine a_istore_3 dX8_valid_9 (by decide) ?_
  exact L_X8_vj hp 4 (j := 0) (s := false) (g := true) rfl ⟨rfl, rfl⟩
set_option maxRecDepth 10000 in
theorem L_X8_lq {l : Launch} {w : WW} {Φ : Option Value → XX → Prop} {M : Mem} {e : Nat} {v1 : Option Value} (he : e < 16) : ∀ (n : Nat) {q : Nat} {ρ : Sg}, q + n = e → ρ 7 0 20 = nI e → A l w yX8_leaveQueue cX8_leaveQueue 3 none (rmd 1) Φ 40 [some (.ref (ad w 2 7 0)), v1, some (.int (nI e))] [] (zx w M 2 (sga ρ 28 0 (rm2 (ρ 28 0) q e))) 0 0 → A l w yX8_leaveQueue cX8_leaveQueue 3 none (rmd 1) Φ 12 [some (.ref (ad w 2 7 0)), v1, some (.int (nI q))] [] (zx w M 2 ρ) 0 0 := by
  intro n
  induction n with
  | zero =>
    intro q ρ hq hn kk
    refine a_iload_n dX8_leaveQueue_12 rfl ?_
    refine a_aload_n dX8_leaveQueue_13 rfl ?_
    refine c_getI (t := 7) (k := 20) dX8_leaveQueue_14 kw_123 ?_
    refine a_icmp_ge (tgt := 40) dX8_leaveQueue_17 (by decide) (fun c_17 => ?_) (fun c_17 => absurd (by rw [hn]; exact nI_le (by omega) (by omega)) c_17)
    obtain rfl : q = e := by omega
    rw [show rm2 (ρ 28 0) q q = ρ 28 0 from rm2_0 _ _, sga_eta] at kk
    exact kk
  | succ n ih =>
    intro q ρ hq hn kk
    refine a_iload_n dX8_leaveQueue_12 rfl ?_
    refine a_aload_n dX8_leaveQueue_13 rfl ?_
    refine c_getI (t := 7) (k := 20) dX8_leaveQueue_14 kw_123 ?_
    refine a_icmp_ge (tgt := 40) dX8_leaveQueue_17 (by decide) (fun c_17 => absurd c_17 (by rw [hn]; exact nI_ge (by omega) (by omega))) (fun c_17 => ?_)
    refine a_aload_n dX8_leaveQueue_20 rfl ?_
    refine c_getR (t := 7) (k := 19) dX8_leaveQueue_21 kw_100 rfl ?_
    refine a_iload_n dX8_leaveQueue_24 rfl ?_
    refine a_aload_n dX8_leaveQueue_25 rfl ?_
    refine c_getR (t := 7) (k := 19) dX8_leaveQueue_26 kw_100 rfl ?_
    refine a_iload_n dX8_leaveQueue_29 rfl ?_
    refine a_iconst (v := 1) dX8_leaveQueue_30 (by decide) ?_
    refine a_iadd dX8_leaveQueue_31 ?_
    refine c_iald (i := q + 1) dX8_leaveQueue_32 (nI_succ q).symm (show q + 1 < 16 by omega) ?_
    refine c_iast (i := q) dX8_leaveQueue_33 rfl (show q < 16 by omega) ?_
    refine a_iinc_2 (u := nI (q + 1)) dX8_leaveQueue_34 (inc_nI q) (by decide) ?_
    refine a_goto (tgt := 12) dX8_leaveQueue_37 (by decide) ?_
    refine ih (q := q + 1) (by omega) (by rw [sg_t (by decide)]; exact hn) ?_
    subst hq
    have h9 := rm2_S (ρ 28 0) q n
    rw [show q + 1 + n = q + (n + 1) by omega] at h9
    rw [sg_is, sga_sga, sga_same, h9]
    exact kk
set_option maxRecDepth 10000 in
theorem s_X8_leaveQueue {l : Launch} {w : WW} {M : Mem} {ρ : Sg} {j n : Nat} (hn : ρ 7 0 20 = nI n) (hj : j < n) (hle : n ≤ 16) : Can l w yX8_leaveQueue cX8_leaveQueue 3 none (rmd 1) [.ref (ad w 2 7 0), .int (nI j)] (zx w M 2 ρ) (RV (zx w M 2 (lvQ ρ j n))) := by
  refine Can.go (ls := [some (.ref (ad w 2 7 0)), some (.int (nI j)), none]) ?_
  refine a_aload_n dX8_leaveQueue_0 rfl ?_
  refine a_aload_n dX8_leaveQueue_1 rfl ?_
  refine c_getI (t := 7) (k := 20) dX8_leaveQueue_2 kw_123 ?_
  refine a_iconst (v := 1) dX8_leaveQueue_5 (by decide) ?_
  refine a_isub dX8_leaveQueue_6 ?_
  refine c_putI (t := 7) (k := 20) dX8_leaveQueue_7 kw_123 ?_
  rw [hn, show nI n - 1 = nI (n - 1) by rw [← nI_pred (n - 1), Nat.sub_add_cancel (by omega)]]
  refine a_iload_n dX8_leaveQueue_10 rfl ?_
  refine a_istore_2 dX8_leaveQueue_11 (by decide) ?_
  obtain ⟨m, hm⟩ := Nat.exists_eq_add_of_le (show j ≤ n - 1 by omega)
  refine L_X8_lq (by omega) m hm.symm (sg_same _ _ _ _ _) ?_
  exact c_vret dX8_leaveQueue_40 ⟨rfl, by rw [sg_t (by decide), rmv_of, sg_is, sga_comm (by decide)]; unfold lvQ; rw [sg_is, sga_t (by decide)]⟩
set_option maxRecDepth 10000 in
theorem L_X8_dp {l : Launch} {w : WW} {Φ : Option Value → XX → Prop} {M : Mem} {e : Nat} (he : e < 9) : ∀ (n : Nat) {q : Nat} {ρ : Sg}, q + n = e → ρ 7 0 22 = nI e → A l w yX8_dropPlan cX8_dropPlan 2 none (rmd 1) Φ 40 [some (.ref (ad w 2 7 0)), some (.int (nI e))] [] (zx w M 2 (sga ρ 29 0 (rm2 (ρ 29 0) q e))) 0 0 → A l w yX8_dropPlan cX8_dropPlan 2 none (rmd 1) Φ 12 [some (.ref (ad w 2 7 0)), some (.int (nI q))] [] (zx w M 2 ρ) 0 0 := by
  intro n
  induction n with
  | zero =>
    intro q ρ hq hn kk
    refine a_iload_n dX8_dropPlan_12 rfl ?_
    refine a_aload_n dX8_dropPlan_13 rfl ?_
    refine c_getI (t := 7) (k := 22) dX8_dropPlan_14 kw_124 ?_
    refine a_icmp_ge (tgt := 40) dX8_dropPlan_17 (by decide) (fun c_17 => ?_) (fun c_17 => absurd (by rw [hn]; exact nI_le (by omega) (by omega)) c_17)
    obtain rfl : q = e := by omega
    rw [show rm2 (ρ 29 0) q q = ρ 29 0 from rm2_0 _ _, sga_eta] at kk
    exact kk
  | succ n ih =>
    intro q ρ hq hn kk
    refine a_iload_n dX8_dropPlan_12 rfl ?_
    refine a_aload_n dX8_dropPlan_13 rfl ?_
    refine c_getI (t := 7) (k := 22) dX8_dropPlan_14 kw_124 ?_
    refine a_icmp_ge (tgt := 40) dX8_dropPlan_17 (by decide) (fun c_17 => absurd c_17 (by rw [hn]; exact nI_ge (by omega) (by omega))) (fun c_17 => ?_)
    refine a_aload_n dX8_dropPlan_20 rfl ?_
    refine c_getR (t := 7) (k := 21) dX8_dropPlan_21 kw_101 rfl ?_
    refine a_iload_n dX8_dropPlan_24 rfl ?_
    refine a_aload_n dX8_dropPlan_25 rfl ?_
    refine c_getR (t := 7) (k := 21) dX8_dropPlan_26 kw_101 rfl ?_
    refine a_iload_n dX8_dropPlan_29 rfl ?_
    refine a_iconst (v := 1) dX8_dropPlan_30 (by decide) ?_
    refine a_iadd dX8_dropPlan_31 ?_
    refine c_iald (i := q + 1) dX8_dropPlan_32 (nI_succ q).symm (show q + 1 < 9 by omega) ?_
    refine c_iast (i := q) dX8_dropPlan_33 rfl (show q < 9 by omega) ?_
    refine a_iinc_1 (u := nI (q + 1)) dX8_dropPlan_34 (inc_nI q) (by decide) ?_
    refine a_goto (tgt := 12) dX8_dropPlan_37 (by decide) ?_
    refine ih (q := q + 1) (by omega) (by rw [sg_t (by decide)]; exact hn) ?_
    subst hq
    have h9 := rm2_S (ρ 29 0) q n
    rw [show q + 1 + n = q + (n + 1) by omega] at h9
    rw [sg_is, sga_sga, sga_same, h9]
    exact kk
set_option maxRecDepth 10000 in
theorem s_X8_dropPlan {l : Launch} {w : WW} {M : Mem} {ρ : Sg} {n : Nat} (hn : ρ 7 0 22 = nI n) (hj : 0 < n) (hle : n ≤ 9) : Can l w yX8_dropPlan cX8_dropPlan 2 none (rmd 1) [.ref (ad w 2 7 0)] (zx w M 2 ρ) (RV (zx w M 2 (drP ρ n))) := by
  refine Can.go (ls := [some (.ref (ad w 2 7 0)), none]) ?_
  refine a_aload_n dX8_dropPlan_0 rfl ?_
  refine a_aload_n dX8_dropPlan_1 rfl ?_
  refine c_getI (t := 7) (k := 22) dX8_dropPlan_2 kw_124 ?_
  refine a_iconst (v := 1) dX8_dropPlan_5 (by decide) ?_
  refine a_isub dX8_dropPlan_6 ?_
  refine c_putI (t := 7) (k := 22) dX8_dropPlan_7 kw_124 ?_
  rw [hn, show nI n - 1 = nI (n - 1) by rw [← nI_pred (n - 1), Nat.sub_add_cancel (by omega)]]
  refine a_iconst (v := 0) dX8_dropPlan_10 (by decide) ?_
  refine a_istore_1 dX8_dropPlan_11 (by decide) ?_
  refine L_X8_dp (by omega) (n - 1) (q := 0) (by omega) (sg_same _ _ _ _ _) ?_
  exact c_vret dX8_dropPlan_40 ⟨rfl, by rw [sg_t (by decide), rmv_of, sg_is, sga_comm (by decide)]; unfold drP; rw [sg_is, sga_t (by decide)]⟩
set_option maxRecDepth 10000 in
theorem s_X8_reject {l : Launch} {w : WW} {M : Mem} {ρ : Sg} {c : Nat} {cause : Int32} (hc : c < 16) : Can l w yX8_reject cX8_reject 3 none (rmd 1) [.ref (ad w 2 7 0), .int (nI c), .int cause] (zx w M 2 ρ) (RV (zx w M 2 (rejR ρ c cause))) := by
  refine Can.go (ls := [some (.ref (ad w 2 7 0)), some (.int (nI c)), some (.int cause)]) ?_
  refine a_aload_n dX8_reject_0 rfl ?_
  refine c_getR (t := 7) (k := 16) dX8_reject_1 kw_97 rfl ?_
  refine a_iload_n dX8_reject_4 rfl ?_
  refine a_iconst (v := 3) dX8_reject_5 (by decide) ?_
  refine c_iast (i := c) dX8_reject_6 rfl (show c < 16 from hc) ?_
  refine a_aload_n dX8_reject_7 rfl ?_
  refine c_getR (t := 7) (k := 17) dX8_reject_8 kw_98 rfl ?_
  refine a_iload_n dX8_reject_11 rfl ?_
  refine a_iload_n dX8_reject_12 rfl ?_
  refine c_iast (i := c) dX8_reject_13 rfl (show c < 16 from hc) ?_
  exact c_vret dX8_reject_14 ⟨rfl, rfl⟩
set_option maxRecDepth 10000 in
theorem L_X8_endLeases {l : Launch} {w : WW} {Φ : Option Value → XX → Prop} {M : Mem} {ρ : Sg}  : ∀ (n : Nat) {j : Nat}, j + n = 4 → A l w yX8_endLeases cX8_endLeases 2 none (rmd 1) Φ 20 [some (.ref (ad w 2 7 0)), some (.int (nI 4))] [] (zx w M 2 (sga ρ 32 0 (mixN 4 m1 (ρ 32 0)))) 0 0 → A l w yX8_endLeases cX8_endLeases 2 none (rmd 1) Φ 2 [some (.ref (ad w 2 7 0)), some (.int (nI j))] [] (zx w M 2 (sga ρ 32 0 (mixN j m1 (ρ 32 0)))) 0 0 := by
  intro n
  induction n with
  | zero =>
    intro j hj kk
    refine a_iload_n dX8_endLeases_2 rfl ?_
    refine a_iconst (v := 4) dX8_endLeases_3 (by decide) ?_
    refine a_icmp_ge (tgt := 20) dX8_endLeases_4 (by decide) (fun c_4 => ?_) (fun c_4 => absurd (by have e6 : j = 4 := (by omega); subst e6; decide) c_4)
    obtain rfl : j = 4 := by omega
    exact kk
  | succ n ih =>
    intro j hj kk
    refine a_iload_n dX8_endLeases_2 rfl ?_
    refine a_iconst (v := 4) dX8_endLeases_3 (by decide) ?_
    refine a_icmp_ge (tgt := 20) dX8_endLeases_4 (by decide) (fun c_4 => absurd c_4 (nI_ge (b := 4) (by omega) (by omega))) (fun c_4 => ?_)
    refine a_aload_n dX8_endLeases_7 rfl ?_
    refine c_getR (t := 7) (k := 26) dX8_endLeases_8 kw_104 rfl ?_
    refine a_iload_n dX8_endLeases_11 rfl ?_
    refine a_iconst (v := (-1)) dX8_endLeases_12 (by decide) ?_
    refine c_iast (i := j) dX8_endLeases_13 rfl (show j < 4 by omega) ?_
    refine a_iinc_1 (u := nI (j + 1)) dX8_endLeases_14 (inc_nI j) (by decide) ?_
    refine a_goto (tgt := 2) dX8_endLeases_17 (by decide) ?_
    rw [st_mix (g := m1) (v := -1) rfl]
    exact ih (by omega) kk
set_option maxRecDepth 10000 in
theorem s_X8_endLeases {l : Launch} {w : WW} {M : Mem} {ρ : Sg}  : Can l w yX8_endLeases cX8_endLeases 2 none (rmd 1) [.ref (ad w 2 7 0)] (zx w M 2 ρ) (RV (zx w M 2 (sga ρ 32 0 m1))) := by
  refine Can.go (ls := [some (.ref (ad w 2 7 0)), none]) ?_
  refine a_iconst (v := 0) dX8_endLeases_0 (by decide) ?_
  refine a_istore_1 dX8_endLeases_1 (by decide) ?_
  refine a_eq (x' := zx w M 2 (sga ρ 32 0 (mixN 0 m1 (ρ 32 0)))) (by rw [mix_st]) ?_
  refine L_X8_endLeases 4 rfl ?_
  refine c_junk (M' := M) (σ' := sga ρ 32 0 m1) (junkA (by decide) (fun k hk => (if_pos hk).symm)) ?_
  exact c_vret dX8_endLeases_20 ⟨rfl, rfl⟩
set_option maxRecDepth 10000 in
theorem L_X8_endLeaseOn {l : Launch} {w : WW} {Φ : Option Value → XX → Prop} {M : Mem} {ρ : Sg} {i : Int32} : ∀ (n : Nat) {j : Nat}, j + n = 4 → A l w yX8_endLeaseOn cX8_endLeaseOn 3 none (rmd 1) Φ 39 [some (.ref (ad w 2 7 0)), some (.int i), some (.int (nI 4))] [] (zx w M 2 (sga ρ 32 0 (mixN 4 (elO (ρ 32 0) i) (ρ 32 0)))) 0 0 → A l w yX8_endLeaseOn cX8_endLeaseOn 3 none (rmd 1) Φ 2 [some (.ref (ad w 2 7 0)), some (.int i), some (.int (nI j))] [] (zx w M 2 (sga ρ 32 0 (mixN j (elO (ρ 32 0) i) (ρ 32 0)))) 0 0 := by
  intro n
  induction n with
  | zero =>
    intro j hj kk
    refine a_iload_n dX8_endLeaseOn_2 rfl ?_
    refine a_iconst (v := 4) dX8_endLeaseOn_3 (by decide) ?_
    refine a_icmp_ge (tgt := 39) dX8_endLeaseOn_4 (by decide) (fun c_4 => ?_) (fun c_4 => absurd (by have e6 : j = 4 := (by omega); subst e6; decide) c_4)
    obtain rfl : j = 4 := by omega
    exact kk
  | succ n ih =>
    intro j hj kk
    refine a_iload_n dX8_endLeaseOn_2 rfl ?_
    refine a_iconst (v := 4) dX8_endLeaseOn_3 (by decide) ?_
    refine a_icmp_ge (tgt := 39) dX8_endLeaseOn_4 (by decide) (fun c_4 => absurd c_4 (nI_ge (b := 4) (by omega) (by omega))) (fun c_4 => ?_)
    refine a_aload_n dX8_endLeaseOn_7 rfl ?_
    refine c_getR (t := 7) (k := 26) dX8_endLeaseOn_8 kw_104 rfl ?_
    refine a_iload_n dX8_endLeaseOn_11 rfl ?_
    refine a_aload_n dX8_endLeaseOn_12 rfl ?_
    refine c_getR (t := 7) (k := 26) dX8_endLeaseOn_13 kw_104 rfl ?_
    refine a_iload_n dX8_endLeaseOn_16 rfl ?_
    refine c_iald (i := j) dX8_endLeaseOn_17 rfl (show j < 4 by omega) ?_
    refine a_iload_n dX8_endLeaseOn_18 rfl ?_
    refine a_icmp_ne (tgt := 26) dX8_endLeaseOn_19 (by decide) (fun c_19 => ?_) (fun c_19 => ?_)
    · refine a_aload_n dX8_endLeaseOn_26 rfl ?_
      refine c_getR (t := 7) (k := 26) dX8_endLeaseOn_27 kw_104 rfl ?_
      refine a_iload_n dX8_endLeaseOn_30 rfl ?_
      refine c_iald (i := j) dX8_endLeaseOn_31 rfl (show j < 4 by omega) ?_
      refine c_iast (i := j) dX8_endLeaseOn_32 rfl (show j < 4 by omega) ?_
      refine a_iinc_2 (u := nI (j + 1)) dX8_endLeaseOn_33 (inc_nI j) (by decide) ?_
      refine a_goto (tgt := 2) dX8_endLeaseOn_36 (by decide) ?_
      rw [sga_same, mixN_at (Nat.le_refl j)] at c_19
      first
        | (rw [st_mix (g := elO (ρ 32 0) i) (if_pos c_19)]; exact ih (by omega) kk)
        | (rw [st_mix (g := elO (ρ 32 0) i) (by rw [sga_same, mixN_at (Nat.le_refl j)]; exact if_neg c_19)]; exact ih (by omega) kk)
        | (rw [st_mix (g := elO (ρ 32 0) i) (if_pos (c_19))]; exact ih (by omega) kk)
    · refine a_iconst (v := (-1)) dX8_endLeaseOn_22 (by decide) ?_
      refine a_goto (tgt := 32) dX8_endLeaseOn_23 (by decide) ?_
      refine c_iast (i := j) dX8_endLeaseOn_32 rfl (show j < 4 by omega) ?_
      refine a_iinc_2 (u := nI (j + 1)) dX8_endLeaseOn_33 (inc_nI j) (by decide) ?_
      refine a_goto (tgt := 2) dX8_endLeaseOn_36 (by decide) ?_
      rw [sga_same, mixN_at (Nat.le_refl j)] at c_19
      first
        | (rw [st_mix (g := elO (ρ 32 0) i) (if_pos c_19)]; exact ih (by omega) kk)
        | (rw [st_mix (g := elO (ρ 32 0) i) (by rw [sga_same, mixN_at (Nat.le_refl j)]; exact if_neg c_19)]; exact ih (by omega) kk)
        | (rw [st_mix (g := elO (ρ 32 0) i) (if_pos (c_19))]; exact ih (by omega) kk)
set_option maxRecDepth 10000 in
theorem s_X8_endLeaseOn {l : Launch} {w : WW} {M : Mem} {ρ : Sg} {i : Int32} : Can l w yX8_endLeaseOn cX8_endLeaseOn 3 none (rmd 1) [.ref (ad w 2 7 0), .int i] (zx w M 2 ρ) (RV (zx w M 2 (sga ρ 32 0 (elO (ρ 32 0) i)))) := by
  refine Can.go (ls := [some (.ref (ad w 2 7 0)), some (.int i), none]) ?_
  refine a_iconst (v := 0) dX8_endLeaseOn_0 (by decide) ?_
  refine a_istore_2 dX8_endLeaseOn_1 (by decide) ?_
  refine a_eq (x' := zx w M 2 (sga ρ 32 0 (mixN 0 (elO (ρ 32 0) i) (ρ 32 0)))) (by rw [mix_st]) ?_
  refine L_X8_endLeaseOn 4 rfl ?_
  refine c_junk (M' := M) (σ' := sga ρ 32 0 (elO (ρ 32 0) i)) (junkA (by decide) (fun k hk => (if_pos hk).symm)) ?_
  exact c_vret dX8_endLeaseOn_39 ⟨rfl, rfl⟩
set_option maxRecDepth 10000 in
theorem s_X8_isChange {l : Launch} {w : WW} {M : Mem} {ρ : Sg} {c : Int32} : Can l w yX8_isChange cX8_isChange 2 (some .boolean) (rmd 1) [.ref (ad w 2 7 0), .int c] (zx w M 2 ρ) (RI (bi (inr c (ρ 7 0 13))) (zx w M 2 ρ)) := by
  refine Can.go (ls := [some (.ref (ad w 2 7 0)), some (.int c)]) ?_
  refine a_iload_n dX8_isChange_0 rfl ?_
  refine a_if_lt (tgt := 16) dX8_isChange_1 (by decide) (fun c_1 => ?_) (fun c_1 => ?_)
  · refine a_iconst (v := 0) dX8_isChange_16 (by decide) ?_
    exact c_zret dX8_isChange_17 ⟨by simp_all [bi, inr], rfl⟩
  · refine a_iload_n dX8_isChange_4 rfl ?_
    refine a_aload_n dX8_isChange_5 rfl ?_
    refine c_getI (t := 7) (k := 13) dX8_isChange_6 kw_122 ?_
    refine a_icmp_ge (tgt := 16) dX8_isChange_9 (by decide) (fun c_9 => ?_) (fun c_9 => ?_)
    · refine a_iconst (v := 0) dX8_isChange_16 (by decide) ?_
      exact c_zret dX8_isChange_17 ⟨by simp_all [bi, inr], rfl⟩
    · refine a_iconst (v := 1) dX8_isChange_12 (by decide) ?_
      refine a_goto (tgt := 17) dX8_isChange_13 (by decide) ?_
      exact c_zret dX8_isChange_17 ⟨by simp_all [bi, inr], rfl⟩
set_option maxRecDepth 10000 in
theorem s_X8_is {l : Launch} {w : WW} {M : Mem} {ρ : Sg} {n : Nat} {c t : Int32} (hn : ρ 7 0 13 = nI n) (hle : n ≤ 16) : Can l w yX8_is cX8_is 3 (some .boolean) (rmd 2) [.ref (ad w 2 7 0), .int c, .int t] (zx w M 2 ρ) (RI (bi (inr c (ρ 7 0 13) && decide (ρ 25 0 (tn c) = t))) (zx w M 2 ρ)) := by
  refine Can.go (ls := [some (.ref (ad w 2 7 0)), some (.int c), some (.int t)]) ?_
  refine a_aload_n dX8_is_0 rfl ?_
  refine a_iload_n dX8_is_1 rfl ?_
  refine c_V1I dX8_is_2 kw_401 kv_X8_isChange s_X8_isChange ?_
  refine a_if_eq (tgt := 22) dX8_is_5 (by decide) (fun c_5 => ?_) (fun c_5 => ?_)
  · refine a_iconst (v := 0) dX8_is_22 (by decide) ?_
    exact c_zret dX8_is_23 ⟨by first | (rw [bi_0.mp c_5]; rfl) | (rw [bi_n0.mp c_5, decide_eq_true c_15]; rfl) | (rw [bi_n0.mp c_5, decide_eq_false c_15]; rfl) | (rw [bi_n0.mp c_5, decide_eq_true (c_15)]; rfl), rfl⟩
  · refine a_aload_n dX8_is_8 rfl ?_
    refine c_getR (t := 7) (k := 16) dX8_is_9 kw_97 rfl ?_
    refine a_iload_n dX8_is_12 rfl ?_
    have H13 := inr_nI (n := n) (bi_n0.mp c_5) hn (by omega)
    refine c_iald (i := tn c) dX8_is_13 H13.1 (show tn c < 16 from Nat.lt_of_lt_of_le H13.2 hle) ?_
    refine a_iload_n dX8_is_14 rfl ?_
    refine a_icmp_ne (tgt := 22) dX8_is_15 (by decide) (fun c_15 => ?_) (fun c_15 => ?_)
    · refine a_iconst (v := 0) dX8_is_22 (by decide) ?_
      exact c_zret dX8_is_23 ⟨by first | (rw [bi_0.mp c_5]; rfl) | (rw [bi_n0.mp c_5, decide_eq_true c_15]; rfl) | (rw [bi_n0.mp c_5, decide_eq_false c_15]; rfl) | (rw [bi_n0.mp c_5, decide_eq_true (c_15)]; rfl), rfl⟩
    · refine a_iconst (v := 1) dX8_is_18 (by decide) ?_
      refine a_goto (tgt := 23) dX8_is_19 (by decide) ?_
      exact c_zret dX8_is_23 ⟨by first | (rw [bi_0.mp c_5]; rfl) | (rw [bi_n0.mp c_5, decide_eq_true c_15]; rfl) | (rw [bi_n0.mp c_5, decide_eq_false c_15]; rfl) | (rw [bi_n0.mp c_5, decide_eq_true (c_15)]; rfl), rfl⟩
set_option maxRecDepth 10000 in
theorem s_X8_isWorker {l : Launch} {w : WW} {M : Mem} {ρ : Sg} {v : Int32} : Can l w yX8_isWorker cX8_isWorker 2 (some .boolean) (rmd 1) [.ref (ad w 2 7 0), .int v] (zx w M 2 ρ) (RI (bi (inr v 4)) (zx w M 2 ρ)) := by
  refine Can.go (ls := [some (.ref (ad w 2 7 0)), some (.int v)]) ?_
  refine a_iload_n dX8_isWorker_0 rfl ?_
  refine a_if_lt (tgt := 13) dX8_isWorker_1 (by decide) (fun c_1 => ?_) (fun c_1 => ?_)
  · refine a_iconst (v := 0) dX8_isWorker_13 (by decide) ?_
    exact c_zret dX8_isWorker_14 ⟨by
        have e : (3 < v) ↔ (4 ≤ v) := by rw [Int32.lt_iff_toInt_lt, Int32.le_iff_toInt_le]; show (3 : Int) < _ ↔ (4 : Int) ≤ _; omega
        simp_all [bi, inr], rfl⟩
  · refine a_iload_n dX8_isWorker_4 rfl ?_
    refine a_iconst (v := 3) dX8_isWorker_5 (by decide) ?_
    refine a_icmp_gt (tgt := 13) dX8_isWorker_6 (by decide) (fun c_6 => ?_) (fun c_6 => ?_)
    · refine a_iconst (v := 0) dX8_isWorker_13 (by decide) ?_
      exact c_zret dX8_isWorker_14 ⟨by
          have e : (3 < v) ↔ (4 ≤ v) := by rw [Int32.lt_iff_toInt_lt, Int32.le_iff_toInt_le]; show (3 : Int) < _ ↔ (4 : Int) ≤ _; omega
          simp_all [bi, inr], rfl⟩
    · refine a_iconst (v := 1) dX8_isWorker_9 (by decide) ?_
      refine a_goto (tgt := 14) dX8_isWorker_10 (by decide) ?_
      exact c_zret dX8_isWorker_14 ⟨by
          have e : (3 < v) ↔ (4 ≤ v) := by rw [Int32.lt_iff_toInt_lt, Int32.le_iff_toInt_le]; show (3 : Int) < _ ↔ (4 : Int) ≤ _; omega
          simp_all [bi, inr], rfl⟩
set_option maxRecDepth 10000 in
theorem L_X8_noReviews {l : Launch} {w : WW} {Φ : Option Value → XX → Prop} {M : Mem} {ρ : Sg} {c : Nat} (hc : c < 16) : ∀ (n : Nat) {j : Nat}, j + n = 8 → A l w yX8_noReviews cX8_noReviews 3 none (rmd 1) Φ 26 [some (.ref (ad w 2 7 0)), some (.int (nI c)), some (.int (nI 8))] [] (zx w M 2 (sga ρ 27 0 (clr (ρ 27 0) c 8))) 0 0 → A l w yX8_noReviews cX8_noReviews 3 none (rmd 1) Φ 2 [some (.ref (ad w 2 7 0)), some (.int (nI c)), some (.int (nI j))] [] (zx w M 2 (sga ρ 27 0 (clr (ρ 27 0) c j))) 0 0 := by
  intro n
  induction n with
  | zero =>
    intro j hj kk
    refine a_iload_n dX8_noReviews_2 rfl ?_
    refine a_bipush (v := 8) dX8_noReviews_3 (by decide) ?_
    refine a_icmp_ge (tgt := 26) dX8_noReviews_5 (by decide) (fun c_5 => ?_) (fun c_5 => absurd (by have e6 : j = 8 := (by omega); subst e6; decide) c_5)
    obtain rfl : j = 8 := by omega
    exact kk
  | succ n ih =>
    intro j hj kk
    refine a_iload_n dX8_noReviews_2 rfl ?_
    refine a_bipush (v := 8) dX8_noReviews_3 (by decide) ?_
    refine a_icmp_ge (tgt := 26) dX8_noReviews_5 (by decide) (fun c_5 => absurd c_5 (nI_ge (b := 8) (by omega) (by omega))) (fun c_5 => ?_)
    refine a_aload_n dX8_noReviews_8 rfl ?_
    refine c_getR (t := 7) (k := 18) dX8_noReviews_9 kw_99 rfl ?_
    refine a_bipush (v := 8) dX8_noReviews_12 (by decide) ?_
    refine a_iload_n dX8_noReviews_14 rfl ?_
    refine a_imul dX8_noReviews_15 ?_
    refine a_iload_n dX8_noReviews_16 rfl ?_
    refine a_iadd dX8_noReviews_17 ?_
    refine a_iconst (v := 0) dX8_noReviews_18 (by decide) ?_
    refine c_iast (i := 8 * c + j) dX8_noReviews_19 (nI_8 c j) (show 8 * c + j < 128 by omega) ?_
    refine a_iinc_2 (u := nI (j + 1)) dX8_noReviews_20 (inc_nI j) (by decide) ?_
    refine a_goto (tgt := 2) dX8_noReviews_23 (by decide) ?_
    rw [sg_sga, clr_S]
    exact ih (by omega) kk
set_option maxRecDepth 10000 in
theorem s_X8_noReviews {l : Launch} {w : WW} {M : Mem} {ρ : Sg} {c : Nat} (hc : c < 16) : Can l w yX8_noReviews cX8_noReviews 3 none (rmd 1) [.ref (ad w 2 7 0), .int (nI c)] (zx w M 2 ρ) (RV (zx w M 2 (sga ρ 27 0 (clr (ρ 27 0) c 8)))) := by
  refine Can.go (ls := [some (.ref (ad w 2 7 0)), some (.int (nI c)), none]) ?_
  refine a_iconst (v := 0) dX8_noReviews_0 (by decide) ?_
  refine a_istore_2 dX8_noReviews_1 (by decide) ?_
  refine a_eq (x' := zx w M 2 (sga ρ 27 0 (clr (ρ 27 0) c 0))) (by rw [clr_0, sga_eta]) ?_
  refine L_X8_noReviews hc 8 rfl ?_
  exact c_vret dX8_noReviews_26 ⟨rfl, rfl⟩
set_option maxRecDepth 10000 in
theorem L_X8_count {l : Launch} {w : WW} {Φ : Option Value → XX → Prop} {M : Mem} {ρ : Sg} {c : Nat} {how : Int32} (hc : c < 16) : ∀ (n : Nat) {j : Nat} {x : Int32}, j + n = 8 → Φ (some (.int (cntR (ρ 27 0) c how n j x))) (zx w M 2 ρ) → A l w yX8_count cX8_count 5 (some .int) (rmd 1) Φ 5 [some (.ref (ad w 2 7 0)), some (.int (nI c)), some (.int how), some (.int x), some (.int (nI j))] [] (zx w M 2 ρ) 0 0 := by
  intro n
  induction n with
  | zero =>
    intro j x hj h
    refine a_iload dX8_count_5 rfl ?_
    refine a_bipush (v := 8) dX8_count_7 (by decide) ?_
    refine a_icmp_ge (tgt := 42) dX8_count_9 (by decide) (fun c_9 => ?_) (fun c_9 => absurd (by have e6 : j = 8 := (by omega); subst e6; decide) c_9)
    refine a_iload_n dX8_count_42 rfl ?_
    exact c_iret dX8_count_43 h
  | succ n ih =>
    intro j x hj h
    refine a_iload dX8_count_5 rfl ?_
    refine a_bipush (v := 8) dX8_count_7 (by decide) ?_
    refine a_icmp_ge (tgt := 42) dX8_count_9 (by decide) (fun c_9 => absurd c_9 (nI_ge (b := 8) (by omega) (by omega))) (fun c_9 => ?_)
    refine a_aload_n dX8_count_12 rfl ?_
    refine c_getR (t := 7) (k := 18) dX8_count_13 kw_99 rfl ?_
    refine a_bipush (v := 8) dX8_count_16 (by decide) ?_
    refine a_iload_n dX8_count_18 rfl ?_
    refine a_imul dX8_count_19 ?_
    refine a_iload dX8_count_20 rfl ?_
    refine a_iadd dX8_count_22 ?_
    refine c_iald (i := 8 * c + j) dX8_count_23 (nI_8 c j) (show 8 * c + j < 128 by omega) ?_
    refine a_iload_n dX8_count_24 rfl ?_
    refine a_icmp_ne (tgt := 34) dX8_count_25 (by decide) (fun c_25 => ?_) (fun c_25 => ?_)
    · refine a_iload_n dX8_count_34 rfl ?_
      refine a_istore_3 dX8_count_35 (by decide) ?_
      refine a_iinc_4 (u := nI (j + 1)) dX8_count_36 (inc_nI j) (by decide) ?_
      refine a_goto (tgt := 5) dX8_count_39 (by decide) ?_
      rw [cntR] at h
      first
        | (rw [if_neg c_25] at h; exact ih (by omega) h)
        | (rw [if_pos c_25] at h; exact ih (by omega) h)
        | (rw [if_pos (c_25)] at h; exact ih (by omega) h)
    · refine a_iload_n dX8_count_28 rfl ?_
      refine a_iconst (v := 1) dX8_count_29 (by decide) ?_
      refine a_iadd dX8_count_30 ?_
      refine a_goto (tgt := 35) dX8_count_31 (by decide) ?_
      refine a_istore_3 dX8_count_35 (by decide) ?_
      refine a_iinc_4 (u := nI (j + 1)) dX8_count_36 (inc_nI j) (by decide) ?_
      refine a_goto (tgt := 5) dX8_count_39 (by decide) ?_
      rw [cntR] at h
      first
        | (rw [if_neg c_25] at h; exact ih (by omega) h)
        | (rw [if_pos c_25] at h; exact ih (by omega) h)
        | (rw [if_pos (c_25)] at h; exact ih (by omega) h)
set_option maxRecDepth 10000 in
theorem s_X8_count {l : Launch} {w : WW} {M : Mem} {ρ : Sg} {c : Nat} {how : Int32} (hc : c < 16) : Can l w yX8_count cX8_count 5 (some .int) (rmd 1) [.ref (ad w 2 7 0), .int (nI c), .int how] (zx w M 2 ρ) (RI (cntR (ρ 27 0) c how 8 0 0) (zx w M 2 ρ)) := by
  refine Can.go (ls := [some (.ref (ad w 2 7 0)), some (.int (nI c)), some (.int how), none, none]) ?_
  refine a_iconst (v := 0) dX8_count_0 (by decide) ?_
  refine a_istore_3 dX8_count_1 (by decide) ?_
  refine a_iconst (v := 0) dX8_count_2 (by decide) ?_
  refine a_istore_4 dX8_count_3 (by decide) ?_
  exact L_X8_count hc 8 (j := 0) rfl ⟨rfl, rfl⟩
set_option maxRecDepth 10000 in
theorem s_X8_note {l : Launch} {w : WW} {M : Mem} {ρ : Sg} {n : Nat} {k a b c : Int32} (hn : ρ 7 0 8 = nI n) (hlt : n < 512) : Can l w yX8_note cX8_note 5 none (rmd 1) [.ref (ad w 2 7 0), .int k, .int a, .int b, .int c] (zx w M 2 ρ) (RV (zx w M 2 (ntR ρ n k a b c))) := by
  refine Can.go (ls := [some (.ref (ad w 2 7 0)), some (.int k), some (.int a), some (.int b), some (.int c)]) ?_
  refine a_aload_n dX8_note_0 rfl ?_
  refine c_getR (t := 7) (k := 4) dX8_note_1 kw_90 rfl ?_
  refine a_aload_n dX8_note_4 rfl ?_
  refine c_getI (t := 7) (k := 8) dX8_note_5 kw_379 ?_
  refine a_iload_n dX8_note_8 rfl ?_
  refine c_iast (i := n) dX8_note_9 hn hlt ?_
  refine a_aload_n dX8_note_10 rfl ?_
  refine c_getR (t := 7) (k := 5) dX8_note_11 kw_91 rfl ?_
  refine a_aload_n dX8_note_14 rfl ?_
  refine c_getI (t := 7) (k := 8) dX8_note_15 kw_379 ?_
  refine a_iload_n dX8_note_18 rfl ?_
  refine c_iast (i := n) dX8_note_19 (by rw [sg_t (by decide)]; exact hn) hlt ?_
  refine a_aload_n dX8_note_20 rfl ?_
  refine c_getR (t := 7) (k := 6) dX8_note_21 kw_92 rfl ?_
  refine a_aload_n dX8_note_24 rfl ?_
  refine c_getI (t := 7) (k := 8) dX8_note_25 kw_379 ?_
  refine a_iload_n dX8_note_28 rfl ?_
  refine c_iast (i := n) dX8_note_29 (by rw [sg_t (by decide)]; rw [sg_t (by decide)]; exact hn) hlt ?_
  refine a_aload_n dX8_note_30 rfl ?_
  refine c_getR (t := 7) (k := 7) dX8_note_31 kw_93 rfl ?_
  refine a_aload_n dX8_note_34 rfl ?_
  refine c_getI (t := 7) (k := 8) dX8_note_35 kw_379 ?_
  refine a_iload dX8_note_38 rfl ?_
  refine c_iast (i := n) dX8_note_40 (by rw [sg_t (by decide)]; rw [sg_t (by decide)]; rw [sg_t (by decide)]; exact hn) hlt ?_
  refine a_aload_n dX8_note_41 rfl ?_
  refine a_aload_n dX8_note_42 rfl ?_
  refine c_getI (t := 7) (k := 8) dX8_note_43 kw_379 ?_
  refine a_iconst (v := 1) dX8_note_46 (by decide) ?_
  refine a_iadd dX8_note_47 ?_
  refine c_putI (t := 7) (k := 8) dX8_note_48 kw_379 ?_
  exact c_vret dX8_note_51 ⟨rfl, by rw [show ∀ τ : Sg, ntR τ n k a b c = sg (sg (sg (sg (sg τ 18 0 n k) 19 0 n a) 20 0 n b) 21 0 n c) 7 0 8 (nI (n + 1)) from fun _ => rfl, sg_t (t' := 7) (by decide), sg_t (t' := 7) (by decide), sg_t (t' := 7) (by decide), sg_t (t' := 7) (by decide), hn, ← nI_succ]⟩
end
